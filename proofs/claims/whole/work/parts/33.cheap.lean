/-! the class's heap, as numbers: its cells 1 .. 193, byte rows from 207 on -/
def zrF : Nat → Value
  | 0 => .null
  | n + 1 => .ref (n + 6)
def zrR : Nat → Value
  | 0 => .null
  | n + 1 => .ref (n + 48)
def zrA : Nat → Value
  | 0 => .null
  | n + 1 => .ref (n + 1)
theorem zrF_r {n : Nat} (h : 1 ≤ n) : zrF n = .ref (5 + n) := by
  cases n with
  | zero => omega
  | succ n => show Value.ref (n + 6) = Value.ref (5 + (n + 1)); rw [show n + 6 = 5 + (n + 1) by omega]
theorem zrF_k (n : Nat) : zm_isK 2 (zrF n) = true := by cases n <;> rfl
theorem zrF_c1 (n : Nat) : zm_c1 (zrF n) = true := by cases n <;> rfl
theorem zrF_fo (n : Nat) (s : String) : zm_fit (.object s) (zrF n) = true := by cases n <;> rfl
theorem zrF_fa (n : Nat) (s : FieldType) : zm_fit (.array s) (zrF n) = true := by cases n <;> rfl
theorem zrF_inj {a b : Nat} (h : zrF a = zrF b) : a = b := by
  cases a <;> cases b <;> first | rfl | (cases h; done) | (simp [zrF] at h; omega)
theorem zrR_r {n : Nat} (h : 1 ≤ n) : zrR n = .ref (47 + n) := by
  cases n with
  | zero => omega
  | succ n => show Value.ref (n + 48) = Value.ref (47 + (n + 1)); rw [show n + 48 = 47 + (n + 1) by omega]
theorem zrR_k (n : Nat) : zm_isK 2 (zrR n) = true := by cases n <;> rfl
theorem zrR_c1 (n : Nat) : zm_c1 (zrR n) = true := by cases n <;> rfl
theorem zrR_fo (n : Nat) (s : String) : zm_fit (.object s) (zrR n) = true := by cases n <;> rfl
theorem zrR_fa (n : Nat) (s : FieldType) : zm_fit (.array s) (zrR n) = true := by cases n <;> rfl
theorem zrR_inj {a b : Nat} (h : zrR a = zrR b) : a = b := by
  cases a <;> cases b <;> first | rfl | (cases h; done) | (simp [zrR] at h; omega)
theorem zrA_r {n : Nat} (h : 1 ≤ n) : zrA n = .ref (n) := by
  cases n with
  | zero => omega
  | succ n => rfl
theorem zrA_k (n : Nat) : zm_isK 2 (zrA n) = true := by cases n <;> rfl
theorem zrA_c1 (n : Nat) : zm_c1 (zrA n) = true := by cases n <;> rfl
theorem zrA_fo (n : Nat) (s : String) : zm_fit (.object s) (zrA n) = true := by cases n <;> rfl
theorem zrA_fa (n : Nat) (s : FieldType) : zm_fit (.array s) (zrA n) = true := by cases n <;> rfl
theorem zrA_inj {a b : Nat} (h : zrA a = zrA b) : a = b := by
  cases a <;> cases b <;> first | rfl | (cases h; done) | (simp [zrA] at h; omega)
def zdc (A v : Nat) : Value := match A with
  | 7 => zrF v
  | 11 => zrF v
  | 12 => zrF v
  | 21 => zrF v
  | 23 => zrF v
  | 10 => zrR v
  | 22 => zrR v
  | 8 => zrA v
  | 13 => zrA v
  | 17 => zrA v
  | 24 => zrA v
  | 19 => .int (zsg v)
  | _ => .int (nI v)
def zixF (f : Nat) : Nat → Option (Nat × Nat)
  | 1 => some (2, f)
  | 2 => some (3, f)
  | 3 => some (4, f)
  | 4 => some (5, f)
  | 5 => some (6, f)
  | 6 => some (7, f)
  | 7 => some (8, f)
  | 8 => some (9, f)
  | _ => none
def zixR (r : Nat) : Nat → Option (Nat × Nat)
  | 0 => some (11, r)
  | 1 => some (12, r)
  | 2 => some (13, r)
  | 3 => some (14, r)
  | _ => none
def zixW (w : Nat) : Nat → Option (Nat × Nat)
  | 3 => some (15, w)
  | 4 => some (16, w)
  | 5 => some (17, w)
  | 6 => some (18, w)
  | 7 => some (20, w)
  | 8 => some (21, w)
  | 9 => some (22, w)
  | 10 => some (23, w)
  | _ => none
def zixS (n : Nat) : Nat → Option (Nat × Nat)
  | 0 => some (24, n)
  | 1 => some (25, n)
  | 2 => some (26, n)
  | _ => none
def zix0 : Nat → Nat → Option (Nat × Nat)
  | 1, 5 => some (0, 0)
  | 2, 1 => some (0, 1)
  | 46, 1 => some (0, 2)
  | _, _ => none
/-- where the number of a place is kept -/
def zia (a j : Nat) : Option (Nat × Nat) :=
  if a = 3 ∨ 207 ≤ a then (if j < 1200 then some (19, 1200 * a + j) else none)
  else if a ≤ 5 ∨ a = 46 then zix0 a j
  else if a ≤ 45 then zixF (a - 5) j
  else if a = 47 then (if j < 60 then some (10, j) else none)
  else if a ≤ 107 then zixR (a - 47) j
  else if (a - 108) % 43 = 0 then zixW ((a - 108) / 43) j
  else if (a - 108) % 43 = 1 then none
  else zixS (41 * ((a - 108) / 43) + ((a - 108) % 43 - 2)) j
def ziv (A i : Nat) : Nat × Nat := match A with
  | 0 => if i = 0 then (1, 5) else if i = 1 then (2, 1) else (46, 1)
  | 2 => (5 + i, 1)
  | 3 => (5 + i, 2)
  | 4 => (5 + i, 3)
  | 5 => (5 + i, 4)
  | 6 => (5 + i, 5)
  | 7 => (5 + i, 6)
  | 8 => (5 + i, 7)
  | 9 => (5 + i, 8)
  | 10 => (47, i)
  | 11 => (47 + i, 0)
  | 12 => (47 + i, 1)
  | 13 => (47 + i, 2)
  | 14 => (47 + i, 3)
  | 15 => (108 + 43 * i, 3)
  | 16 => (108 + 43 * i, 4)
  | 17 => (108 + 43 * i, 5)
  | 18 => (108 + 43 * i, 6)
  | 20 => (108 + 43 * i, 7)
  | 21 => (108 + 43 * i, 8)
  | 22 => (108 + 43 * i, 9)
  | 23 => (108 + 43 * i, 10)
  | 24 => (110 + 43 * (i / 41) + i % 41, 0)
  | 25 => (110 + 43 * (i / 41) + i % 41, 1)
  | 26 => (110 + 43 * (i / 41) + i % 41, 2)
  | _ => (i / 1200, i % 1200)
theorem zixF_iv {f j A i : Nat} (h : zixF f j = some (A, i)) : ziv A i = (5 + f, j) := by
  unfold zixF at h
  split at h <;> first | (cases h; rfl) | cases h
theorem zixR_iv {f j A i : Nat} (h : zixR f j = some (A, i)) : ziv A i = (47 + f, j) := by
  unfold zixR at h
  split at h <;> first | (cases h; rfl) | cases h
theorem zixW_iv {f j A i : Nat} (h : zixW f j = some (A, i)) : ziv A i = (108 + 43 * f, j) := by
  unfold zixW at h
  split at h <;> first | (cases h; rfl) | cases h
theorem zixS_iv {n j A i : Nat} (h : zixS n j = some (A, i)) : ziv A i = (110 + 43 * (n / 41) + n % 41, j) := by
  unfold zixS at h
  split at h <;> first | (cases h; rfl) | cases h
theorem zix0_iv {a j A i : Nat} (h : zix0 a j = some (A, i)) : ziv A i = (a, j) := by
  unfold zix0 at h
  split at h <;> first | (cases h; rfl) | cases h
theorem zia_iv {a j A i : Nat} (ha : a < 194 ∨ 207 ≤ a) (h : zia a j = some (A, i)) : ziv A i = (a, j) := by
  unfold zia at h
  split at h
  · split at h
    · cases h
      show ((1200 * a + j) / 1200, (1200 * a + j) % 1200) = (a, j)
      congr 1 <;> omega
    · cases h
  split at h
  · exact zix0_iv h
  split at h
  · rw [zixF_iv h]
    congr 1
    omega
  split at h
  · split at h
    · cases h
      next e _ => rw [e]; rfl
    · cases h
  split at h
  · rw [zixR_iv h]
    congr 1
    omega
  split at h
  · rw [zixW_iv h]
    congr 1
    omega
  split at h
  · cases h
  · rw [zixS_iv h]
    congr 1
    omega
theorem zia_inj {a j b i A n : Nat} (ha : a < 194 ∨ 207 ≤ a) (hb : b < 194 ∨ 207 ≤ b) (h1 : zia a j = some (A, n)) (h2 : zia b i = some (A, n)) : a = b ∧ j = i := by
  have e1 := zia_iv ha h1
  have e2 := zia_iv hb h2
  rw [e1] at e2
  cases e2
  exact ⟨rfl, rfl⟩
/-- places that never change -/
def zcc0 (a : Nat) : Nat → Value := match a with
  | 1 => fun j => match j with
    | 0 => .ref 2
    | 1 => .ref 4
    | 2 => .ref 46
    | 3 => .ref 108
    | 4 => .ref 151
    | _ => .int 0
  | 2 => fun j => match j with
    | 0 => .ref 3
    | _ => .int 0
  | 4 => fun j => match j with
    | 0 => .ref 5
    | 1 => .ref 6
    | _ => .null
  | 5 => fun j => if j < 40 then .ref (6 + j) else .null
  | 46 => fun j => match j with
    | 0 => .ref 47
    | _ => .int 0
  | _ => fun _ => .int 0
def zccW (a : Nat) : Nat → Value
  | 0 => .ref 6
  | 1 => .ref 46
  | 2 => .ref (a + 1)
  | _ => .null
def zcc (a j : Nat) : Value :=
  if a = 3 ∨ 207 ≤ a then .int 0
  else if a ≤ 5 ∨ a = 46 then zcc0 a j
  else if a ≤ 45 then (match j with
    | 0 => .int (nI (a - 5))
    | _ => .int 0)
  else if a = 47 then .null
  else if a ≤ 107 then .int 0
  else if (a - 108) % 43 = 0 then zccW a j
  else if (a - 108) % 43 = 1 then (if j < 41 then .ref (a + 1 + j) else .null)
  else .int 0
def zcv (c : Nat → Nat → Nat) (a j : Nat) : Value := match zia a j with
  | some p => zdc p.1 (c p.1 p.2)
  | none => zcc a j
def zch (h0 : zm_H) (c : Nat → Nat → Nat) : zm_H := (h0.1, h0.2.1, h0.2.2.1, fun a j => if (1 ≤ a ∧ a < 194) ∨ 207 ≤ a then zcv c a j else h0.2.2.2 a j)
def zck0 : Nat → Nat × Nat
  | 1 => (7, 6)
  | 2 => (4, 2)
  | 3 => (100, 1200)
  | 4 => (0, 2)
  | 5 => (205, 40)
  | 46 => (2, 2)
  | _ => (201, 60)
def zck (a : Nat) : Nat × Nat := if a ≤ 5 ∨ a = 46 ∨ a = 47 then zck0 a else if a ≤ 45 then (5, 9) else if a ≤ 107 then (1, 4) else if (a - 108) % 43 = 0 then (6, 11) else if (a - 108) % 43 = 1 then (203, 41) else (3, 3)
/-- the class's cells are there -/
def zCS (h0 : zm_H) : Prop := 207 ≤ h0.1 ∧ ∀ a, 1 ≤ a → a < 194 → h0.2.2.1 a = zck a
/-- a byte row of that length -/
def zga (h0 : zm_H) (b n : Nat) : Prop := (b = 3 ∨ 207 ≤ b) ∧ b < h0.1 ∧ h0.2.2.1 b = (100, n) ∧ n ≤ 1200
theorem zga_3 {h0 : zm_H} (hS : zCS h0) : zga h0 3 1200 := ⟨Or.inl rfl, Nat.lt_of_lt_of_le (by decide) hS.1, hS.2 3 (by decide) (by decide), Nat.le_refl _⟩
theorem zch_is {h0 : zm_H} {c : Nat → Nat → Nat} (hS : zCS h0) (a t : Nat) (h1 : 1 ≤ a) (h2 : a < 194) (h3 : (zck a).1 = t) : zm_is (zch h0 c) a t := by
  refine ⟨by omega, ?_, ?_⟩
  · show a < h0.1
    have := hS.1
    omega
  · show (h0.2.2.1 a).1 = t
    rw [hS.2 a h1 h2]
    exact h3
theorem zch_ln {h0 : zm_H} {c : Nat → Nat → Nat} (hS : zCS h0) (a n : Nat) (h1 : 1 ≤ a) (h2 : a < 194) (h3 : (zck a).2 = n) : zm_ln (zch h0 c) a = n := by
  show (h0.2.2.1 a).2 = n
  rw [hS.2 a h1 h2]
  exact h3
theorem zch_at {h0 : zm_H} {c : Nat → Nat → Nat} (a j : Nat) (h : (1 ≤ a ∧ a < 194) ∨ 207 ≤ a) : zm_at (zch h0 c) a j = zcv c a j := by
  show (if (1 ≤ a ∧ a < 194) ∨ 207 ≤ a then zcv c a j else h0.2.2.2 a j) = _
  rw [if_pos h]
theorem zcv_some {c : Nat → Nat → Nat} {a j A i : Nat} (h : zia a j = some (A, i)) : zcv c a j = zdc A (c A i) := by
  unfold zcv
  rw [h]
theorem zcv_none {c : Nat → Nat → Nat} {a j : Nat} (h : zia a j = none) : zcv c a j = zcc a j := by
  unfold zcv
  rw [h]
theorem zch_ext {h0 : zm_H} {c : Nat → Nat → Nat} {f : Nat → Nat → Value} (h : ∀ a j, f a j = (if (1 ≤ a ∧ a < 194) ∨ 207 ≤ a then zcv c a j else h0.2.2.2 a j)) : (h0.1, h0.2.1, h0.2.2.1, f) = zch h0 c := by
  unfold zch
  congr 3
  funext a j
  exact h a j
theorem zch_put {h0 : zm_H} {c : Nat → Nat → Nat} (a j A i v : Nat) (w : Value) (h : (1 ≤ a ∧ a < 194) ∨ 207 ≤ a) (hi : zia a j = some (A, i)) (hw : zdc A v = w) : zm_put (zch h0 c) a j w = zch h0 (zup c A i v) := by
  refine zch_ext (h0 := h0) (fun b k => ?_)
  show (if b = a ∧ k = j then w else zm_at (zch h0 c) b k) = _
  by_cases hb : b = a ∧ k = j
  · obtain ⟨rfl, rfl⟩ := hb
    rw [if_pos ⟨rfl, rfl⟩, if_pos h, zcv_some hi, zup_same, hw]
  · rw [if_neg hb]
    show (if (1 ≤ b ∧ b < 194) ∨ 207 ≤ b then zcv c b k else h0.2.2.2 b k) = _
    by_cases hd : (1 ≤ b ∧ b < 194) ∨ 207 ≤ b
    · rw [if_pos hd, if_pos hd]
      cases hz : zia b k with
      | none => rw [zcv_none hz, zcv_none hz]
      | some p =>
        obtain ⟨B, m⟩ := p
        rw [zcv_some hz, zcv_some hz, zup_ne]
        rintro ⟨rfl, rfl⟩
        exact hb (zia_inj (by omega) (by omega) hz hi)
    · rw [if_neg hd, if_neg hd]
theorem zia_A {b j : Nat} (hb : b = 3 ∨ 207 ≤ b) (hj : j < 1200) : zia b j = some (19, 1200 * b + j) := by
  unfold zia
  rw [if_pos hb, if_pos hj]
theorem zch_cp {h0 : zm_H} {c : Nat → Nat → Nat} (a sp b dp n : Nat) (ha : a = 3 ∨ 207 ≤ a) (hb : b = 3 ∨ 207 ≤ b) (h1 : sp + n ≤ 1200) (h2 : dp + n ≤ 1200) : zm_cp (zch h0 c) a sp b dp n = zch h0 (zwr c 19 (1200 * b + dp) n (fun i => c 19 (1200 * a + (sp + i)))) := by
  refine zch_ext (h0 := h0) (fun e k => ?_)
  show (if e = b ∧ dp ≤ k ∧ k < dp + n then zm_at (zch h0 c) a (sp + (k - dp)) else zm_at (zch h0 c) e k) = _
  by_cases he : e = b ∧ dp ≤ k ∧ k < dp + n
  · obtain ⟨rfl, h3, h4⟩ := he
    rw [if_pos ⟨rfl, h3, h4⟩, zch_at a _ (by omega), if_pos (by omega), zcv_some (zia_A ha (by omega)), zcv_some (zia_A hb (by omega)), zwr_in _ _ (by omega) (by omega), show 1200 * e + k - (1200 * e + dp) = k - dp by omega]
  · rw [if_neg he]
    show (if (1 ≤ e ∧ e < 194) ∨ 207 ≤ e then zcv c e k else h0.2.2.2 e k) = _
    by_cases hd : (1 ≤ e ∧ e < 194) ∨ 207 ≤ e
    · rw [if_pos hd, if_pos hd]
      cases hz : zia e k with
      | none => rw [zcv_none hz, zcv_none hz]
      | some p =>
        obtain ⟨B, m⟩ := p
        rw [zcv_some hz, zcv_some hz, zwr_out]
        rintro ⟨rfl, h3, h4⟩
        have hm := zia_A (b := b) (j := m - 1200 * b) hb (by omega)
        rw [show 1200 * b + (m - 1200 * b) = m by omega] at hm
        have := zia_inj (by omega) (by omega) hz hm
        exact he ⟨this.1, by omega, by omega⟩
    · rw [if_neg hd, if_neg hd]
theorem zch_mk {h0 : zm_H} {c : Nat → Nat → Nat} (n : Nat) (h : 207 ≤ h0.1) : zm_mk (zch h0 c) 100 n (fun _ => .int 0) = zch (zm_mk h0 100 n (fun _ => .int 0)) (zwr c 19 (1200 * h0.1) 1200 (fun _ => 0)) := by
  refine zch_ext (h0 := zm_mk h0 100 n (fun _ => .int 0)) (fun e k => ?_)
  show (if e = h0.1 then Value.int 0 else zm_at (zch h0 c) e k) = (if (1 ≤ e ∧ e < 194) ∨ 207 ≤ e then zcv _ e k else (if e = h0.1 then Value.int 0 else h0.2.2.2 e k))
  by_cases he : e = h0.1
  · rw [if_pos he, if_pos (by omega)]
    by_cases hk : k < 1200
    · rw [zcv_some (zia_A (by omega) hk), zwr_in _ _ (by omega) (by omega)]
      rfl
    · have : zia e k = none := by
        unfold zia
        rw [if_pos (by omega), if_neg hk]
      rw [zcv_none this]
      unfold zcc
      rw [if_pos (by omega)]
  · rw [if_neg he, if_neg he]
    show (if (1 ≤ e ∧ e < 194) ∨ 207 ≤ e then zcv c e k else h0.2.2.2 e k) = _
    by_cases hd : (1 ≤ e ∧ e < 194) ∨ 207 ≤ e
    · rw [if_pos hd, if_pos hd]
      cases hz : zia e k with
      | none => rw [zcv_none hz, zcv_none hz]
      | some p =>
        obtain ⟨B, m⟩ := p
        rw [zcv_some hz, zcv_some hz, zwr_out]
        rintro ⟨rfl, h3, h4⟩
        have hm := zia_A (b := h0.1) (j := m - 1200 * h0.1) (by omega) (by omega)
        rw [show 1200 * h0.1 + (m - 1200 * h0.1) = m by omega] at hm
        exact he (zia_inj (by omega) (by omega) hz hm).1
    · rw [if_neg hd, if_neg hd]
/-! the kinds of cells -/
theorem zia_F {f : Nat} (h1 : 1 ≤ f) (h2 : f ≤ 40) (j : Nat) : zia (5 + f) j = zixF f j := by
  unfold zia
  rw [if_neg (by omega), if_neg (by omega), if_pos (by omega), Nat.add_sub_cancel_left]
theorem zck_F {f : Nat} (h1 : 1 ≤ f) (h2 : f ≤ 40) : zck (5 + f) = (5, 9) := by
  unfold zck
  rw [if_neg (by omega), if_pos (by omega)]
theorem zia_R {f : Nat} (h1 : 1 ≤ f) (h2 : f ≤ 60) (j : Nat) : zia (47 + f) j = zixR f j := by
  unfold zia
  rw [if_neg (by omega), if_neg (by omega), if_neg (by omega), if_neg (by omega), if_pos (by omega), Nat.add_sub_cancel_left]
theorem zck_R {f : Nat} (h1 : 1 ≤ f) (h2 : f ≤ 60) : zck (47 + f) = (1, 4) := by
  unfold zck
  rw [if_neg (by omega), if_neg (by omega), if_pos (by omega)]
theorem zia_W {w : Nat} (h : w ≤ 1) (j : Nat) : zia (108 + 43 * w) j = zixW w j := by
  unfold zia
  rw [if_neg (by omega), if_neg (by omega), if_neg (by omega), if_neg (by omega), if_neg (by omega), if_pos (by omega), show (108 + 43 * w - 108) / 43 = w by omega]
theorem zck_W {w : Nat} (h : w ≤ 1) : zck (108 + 43 * w) = (6, 11) := by
  unfold zck
  rw [if_neg (by omega), if_neg (by omega), if_neg (by omega), if_pos (by omega)]
theorem zia_S {w i : Nat} (h : w ≤ 1) (hi : i < 41) (j : Nat) : zia (110 + 43 * w + i) j = zixS (41 * w + i) j := by
  unfold zia
  rw [if_neg (by omega), if_neg (by omega), if_neg (by omega), if_neg (by omega), if_neg (by omega), if_neg (by omega), if_neg (by omega), show 41 * ((110 + 43 * w + i - 108) / 43) + ((110 + 43 * w + i - 108) % 43 - 2) = 41 * w + i by omega]
theorem zck_S {w i : Nat} (h : w ≤ 1) (hi : i < 41) : zck (110 + 43 * w + i) = (3, 3) := by
  unfold zck
  rw [if_neg (by omega), if_neg (by omega), if_neg (by omega), if_neg (by omega), if_neg (by omega)]
theorem zck_P {w : Nat} (h : w ≤ 1) : zck (109 + 43 * w) = (203, 41) := by
  unfold zck
  rw [if_neg (by omega), if_neg (by omega), if_neg (by omega), if_neg (by omega), if_pos (by omega)]
def zcF (c : Nat → Nat → Nat) (f j : Nat) : Value := match zixF f j with
  | some p => zdc p.1 (c p.1 p.2)
  | none => (match j with
    | 0 => .int (nI f)
    | _ => .int 0)
def zcR (c : Nat → Nat → Nat) (r j : Nat) : Value := match zixR r j with
  | some p => zdc p.1 (c p.1 p.2)
  | none => .int 0
def zcW (c : Nat → Nat → Nat) (w j : Nat) : Value := match zixW w j with
  | some p => zdc p.1 (c p.1 p.2)
  | none => (match j with
    | 0 => .ref 6
    | 1 => .ref 46
    | 2 => .ref (109 + 43 * w)
    | _ => .null)
def zcS (c : Nat → Nat → Nat) (n j : Nat) : Value := match zixS n j with
  | some p => zdc p.1 (c p.1 p.2)
  | none => .int 0
theorem zcv_F {c : Nat → Nat → Nat} {f : Nat} (h1 : 1 ≤ f) (h2 : f ≤ 40) (j : Nat) : zcv c (5 + f) j = zcF c f j := by
  unfold zcv zcF
  rw [zia_F h1 h2]
  cases zixF f j with
  | some p => rfl
  | none =>
    show zcc (5 + f) j = _
    unfold zcc
    rw [if_neg (by omega), if_neg (by omega), if_pos (by omega), Nat.add_sub_cancel_left]
theorem zcv_R {c : Nat → Nat → Nat} {f : Nat} (h1 : 1 ≤ f) (h2 : f ≤ 60) (j : Nat) : zcv c (47 + f) j = zcR c f j := by
  unfold zcv zcR
  rw [zia_R h1 h2]
  cases zixR f j with
  | some p => rfl
  | none =>
    show zcc (47 + f) j = _
    unfold zcc
    rw [if_neg (by omega), if_neg (by omega), if_neg (by omega), if_neg (by omega), if_pos (by omega)]
theorem zcv_W {c : Nat → Nat → Nat} {w : Nat} (h : w ≤ 1) (j : Nat) : zcv c (108 + 43 * w) j = zcW c w j := by
  unfold zcv zcW
  rw [zia_W h]
  cases zixW w j with
  | some p => rfl
  | none =>
    show zcc (108 + 43 * w) j = _
    unfold zcc
    rw [if_neg (by omega), if_neg (by omega), if_neg (by omega), if_neg (by omega), if_neg (by omega), if_pos (by omega)]
    unfold zccW
    rw [show 108 + 43 * w + 1 = 109 + 43 * w by omega]
theorem zcv_S {c : Nat → Nat → Nat} {w i : Nat} (h : w ≤ 1) (hi : i < 41) (j : Nat) : zcv c (110 + 43 * w + i) j = zcS c (41 * w + i) j := by
  unfold zcv zcS
  rw [zia_S h hi]
  cases zixS (41 * w + i) j with
  | some p => rfl
  | none =>
    show zcc (110 + 43 * w + i) j = _
    unfold zcc
    rw [if_neg (by omega), if_neg (by omega), if_neg (by omega), if_neg (by omega), if_neg (by omega), if_neg (by omega), if_neg (by omega)]
theorem zcv_P {c : Nat → Nat → Nat} {w i : Nat} (h : w ≤ 1) (hi : i < 41) : zcv c (109 + 43 * w) i = .ref (110 + 43 * w + i) := by
  unfold zcv
  have : zia (109 + 43 * w) i = none := by
    unfold zia
    rw [if_neg (by omega), if_neg (by omega), if_neg (by omega), if_neg (by omega), if_neg (by omega), if_neg (by omega), if_pos (by omega)]
  rw [this]
  show zcc _ _ = _
  unfold zcc
  rw [if_neg (by omega), if_neg (by omega), if_neg (by omega), if_neg (by omega), if_neg (by omega), if_neg (by omega), if_pos (by omega), if_pos hi, show 109 + 43 * w + 1 + i = 110 + 43 * w + i by omega]
theorem zcv_all {c : Nat → Nat → Nat} {i : Nat} (hi : i < 40) : zcv c 5 i = zrF (i + 1) := by
  show zcc 5 i = _
  show (if i < 40 then Value.ref (6 + i) else .null) = Value.ref (i + 6)
  rw [if_pos hi, Nat.add_comm]
theorem zia_rows {i : Nat} (hi : i < 60) : zia 47 i = some (10, i) := by
  unfold zia
  rw [if_neg (by omega), if_neg (by omega), if_neg (by omega), if_pos rfl, if_pos hi]
/-! rows -/
section
variable {d M pc np x y o : Nat} {sw : List (Int × Nat)} {ls st : List Value} {h0 : zm_H} {c : Nat → Nat → Nat} {Q : Option Value → zm_H → Prop}
/-- a field of one of the single objects -/
theorem wc_get {k : Nat} (a n : Nat) (v : Value) (hS : zCS h0) (hc : zt_code M pc = some (.getfield o, np, x, k, sw)) (h1 : Nat.ble 1 a = true) (h2 : Nat.blt a 194 = true) (hk : zck a = (x, n)) (hv : zcv c a k = v) (kk : zm_wp d M np ls (v :: st) (zch h0 c) Q) : zm_wp d M pc ls (.ref a :: st) (zch h0 c) Q :=
  have g1 := Nat.le_of_ble_eq_true h1
  have g2 := Nat.blt_eq.mp h2
  wx_getfield hc (zch_is hS a x g1 g2 (by rw [hk])) ((zch_at a k (Or.inl ⟨g1, g2⟩)).trans hv) kk
theorem wc_put {k v : Nat} {w : Value} (a n i : Nat) (hS : zCS h0) (hc : zt_code M pc = some (.putfield o, np, x, k, sw)) (h1 : Nat.ble 1 a = true) (h2 : Nat.blt a 194 = true) (hk : zck a = (x, n)) (hi : zia a k = some (0, i)) (hw : zdc 0 v = w) (hf : zm_fit (zt_ty x k) w = true) (kk : zm_wp d M np ls st (zch h0 (zup c 0 i v)) Q) : zm_wp d M pc ls (w :: .ref a :: st) (zch h0 c) Q := by
  have g1 := Nat.le_of_ble_eq_true h1
  have g2 := Nat.blt_eq.mp h2
  refine wx_putfield hc (zch_is hS a x g1 g2 (by rw [hk])) hf ?_
  rw [zch_put a k 0 i v w (Or.inl ⟨g1, g2⟩) hi hw]
  exact kk
theorem wcF_get {k f : Nat} (v : Value) (hS : zCS h0) (hc : zt_code M pc = some (.getfield o, np, 5, k, sw)) (h1 : 1 ≤ f) (h2 : f ≤ 40) (hv : zcF c f k = v) (kk : zm_wp d M np ls (v :: st) (zch h0 c) Q) : zm_wp d M pc ls (zrF f :: st) (zch h0 c) Q := by
  rw [zrF_r h1]
  exact wx_getfield hc (zch_is hS (5 + f) 5 (by omega) (by omega) (by rw [zck_F h1 h2])) ((zch_at (5 + f) k (by omega)).trans ((zcv_F h1 h2 k).trans hv)) kk
theorem wcF_put {k f v : Nat} {w : Value} (A : Nat) (hS : zCS h0) (hc : zt_code M pc = some (.putfield o, np, 5, k, sw)) (h1 : 1 ≤ f) (h2 : f ≤ 40) (hi : zixF f k = some (A, f)) (hw : zdc A v = w) (hf : zm_fit (zt_ty 5 k) w = true) (kk : zm_wp d M np ls st (zch h0 (zup c A f v)) Q) : zm_wp d M pc ls (w :: zrF f :: st) (zch h0 c) Q := by
  rw [zrF_r h1]
  refine wx_putfield hc (zch_is hS (5 + f) 5 (by omega) (by omega) (by rw [zck_F h1 h2])) hf ?_
  rw [zch_put (5 + f) k A f v w (by omega) ((zia_F h1 h2 k).trans hi) hw]
  exact kk
theorem wcR_get {k f : Nat} (v : Value) (hS : zCS h0) (hc : zt_code M pc = some (.getfield o, np, 1, k, sw)) (h1 : 1 ≤ f) (h2 : f ≤ 60) (hv : zcR c f k = v) (kk : zm_wp d M np ls (v :: st) (zch h0 c) Q) : zm_wp d M pc ls (zrR f :: st) (zch h0 c) Q := by
  rw [zrR_r h1]
  exact wx_getfield hc (zch_is hS (47 + f) 1 (by omega) (by omega) (by rw [zck_R h1 h2])) ((zch_at (47 + f) k (by omega)).trans ((zcv_R h1 h2 k).trans hv)) kk
theorem wcR_put {k f v : Nat} {w : Value} (A : Nat) (hS : zCS h0) (hc : zt_code M pc = some (.putfield o, np, 1, k, sw)) (h1 : 1 ≤ f) (h2 : f ≤ 60) (hi : zixR f k = some (A, f)) (hw : zdc A v = w) (hf : zm_fit (zt_ty 1 k) w = true) (kk : zm_wp d M np ls st (zch h0 (zup c A f v)) Q) : zm_wp d M pc ls (w :: zrR f :: st) (zch h0 c) Q := by
  rw [zrR_r h1]
  refine wx_putfield hc (zch_is hS (47 + f) 1 (by omega) (by omega) (by rw [zck_R h1 h2])) hf ?_
  rw [zch_put (47 + f) k A f v w (by omega) ((zia_R h1 h2 k).trans hi) hw]
  exact kk
theorem wcW_get {k w : Nat} (v : Value) (hS : zCS h0) (hc : zt_code M pc = some (.getfield o, np, 6, k, sw)) (hw : w ≤ 1) (hv : zcW c w k = v) (kk : zm_wp d M np ls (v :: st) (zch h0 c) Q) : zm_wp d M pc ls (.ref (108 + 43 * w) :: st) (zch h0 c) Q :=
  wx_getfield hc (zch_is hS (108 + 43 * w) 6 (by omega) (by omega) (by rw [zck_W hw])) ((zch_at (108 + 43 * w) k (by omega)).trans ((zcv_W hw k).trans hv)) kk
theorem wcW_put {k w v : Nat} {u : Value} (A : Nat) (hS : zCS h0) (hc : zt_code M pc = some (.putfield o, np, 6, k, sw)) (hw : w ≤ 1) (hi : zixW w k = some (A, w)) (hu : zdc A v = u) (hf : zm_fit (zt_ty 6 k) u = true) (kk : zm_wp d M np ls st (zch h0 (zup c A w v)) Q) : zm_wp d M pc ls (u :: .ref (108 + 43 * w) :: st) (zch h0 c) Q := by
  refine wx_putfield hc (zch_is hS (108 + 43 * w) 6 (by omega) (by omega) (by rw [zck_W hw])) hf ?_
  rw [zch_put (108 + 43 * w) k A w v u (by omega) ((zia_W hw k).trans hi) hu]
  exact kk
theorem wcS_get {k w i : Nat} (v : Value) (hS : zCS h0) (hc : zt_code M pc = some (.getfield o, np, 3, k, sw)) (hw : w ≤ 1) (h2 : i < 41) (hv : zcS c (41 * w + i) k = v) (kk : zm_wp d M np ls (v :: st) (zch h0 c) Q) : zm_wp d M pc ls (.ref (110 + 43 * w + i) :: st) (zch h0 c) Q :=
  wx_getfield hc (zch_is hS (110 + 43 * w + i) 3 (by omega) (by omega) (by rw [zck_S hw h2])) ((zch_at (110 + 43 * w + i) k (by omega)).trans ((zcv_S hw h2 k).trans hv)) kk
theorem wcS_put {k w i v : Nat} {u : Value} (A : Nat) (hS : zCS h0) (hc : zt_code M pc = some (.putfield o, np, 3, k, sw)) (hw : w ≤ 1) (h2 : i < 41) (hi : zixS (41 * w + i) k = some (A, 41 * w + i)) (hu : zdc A v = u) (hf : zm_fit (zt_ty 3 k) u = true) (kk : zm_wp d M np ls st (zch h0 (zup c A (41 * w + i) v)) Q) : zm_wp d M pc ls (u :: .ref (110 + 43 * w + i) :: st) (zch h0 c) Q := by
  refine wx_putfield hc (zch_is hS (110 + 43 * w + i) 3 (by omega) (by omega) (by rw [zck_S hw h2])) hf ?_
  rw [zch_put (110 + 43 * w + i) k A (41 * w + i) v u (by omega) ((zia_S hw h2 k).trans hi) hu]
  exact kk
/-- the tables of objects -/
theorem wc_all {j : Nat} (hS : zCS h0) (hc : zt_code M pc = some (.aaload, np, x, y, sw)) (hj : j < 40) (kk : zm_wp d M np ls (zrF (j + 1) :: st) (zch h0 c) Q) : zm_wp d M pc ls (.int (nI j) :: .ref 5 :: st) (zch h0 c) Q := by
  have hi := zch_is (c := c) hS 5 205 (by decide) (by decide) rfl
  have hl := zch_ln (c := c) hS 5 40 (by decide) (by decide) rfl
  exact wx_aaload hc hi.2.1 (by rw [hi.2.2]; rfl) (by rw [hl]; exact hj) (by rw [hl]; decide) ((zch_at 5 j (by omega)).trans (zcv_all hj)) kk
theorem wc_rows {j : Nat} (v : Nat) (hS : zCS h0) (hc : zt_code M pc = some (.aaload, np, x, y, sw)) (hj : j < 60) (hv : c 10 j = v) (kk : zm_wp d M np ls (zrR v :: st) (zch h0 c) Q) : zm_wp d M pc ls (.int (nI j) :: .ref 47 :: st) (zch h0 c) Q := by
  have hi := zch_is (c := c) hS 47 201 (by decide) (by decide) rfl
  have hl := zch_ln (c := c) hS 47 60 (by decide) (by decide) rfl
  exact wx_aaload hc hi.2.1 (by rw [hi.2.2]; rfl) (by rw [hl]; exact hj) (by rw [hl]; decide) ((zch_at 47 j (by omega)).trans ((zcv_some (zia_rows hj)).trans (by rw [hv]; rfl))) kk
theorem wc_rowst {j r : Nat} (hS : zCS h0) (hc : zt_code M pc = some (.aastore, np, x, y, sw)) (hj : j < 60) (h1 : 1 ≤ r) (h2 : r ≤ 60) (kk : zm_wp d M np ls st (zch h0 (zup c 10 j r)) Q) : zm_wp d M pc ls (zrR r :: .int (nI j) :: .ref 47 :: st) (zch h0 c) Q := by
  have hi := zch_is (c := c) hS 47 201 (by decide) (by decide) rfl
  have hl := zch_ln (c := c) hS 47 60 (by decide) (by decide) rfl
  have hr := zch_is (c := c) hS (47 + r) 1 (by omega) (by omega) (by rw [zck_R h1 h2])
  have e := zrR_r h1
  rw [e]
  refine wx_aastore hc hi rfl hr (by rw [hl]; exact hj) (by rw [hl]; decide) ?_
  rw [zch_put 47 j 10 j r (.ref (47 + r)) (by omega) (zia_rows hj) e]
  exact kk
theorem wc_spans {w j : Nat} (hS : zCS h0) (hc : zt_code M pc = some (.aaload, np, x, y, sw)) (hw : w ≤ 1) (hj : j < 41) (kk : zm_wp d M np ls (.ref (110 + 43 * w + j) :: st) (zch h0 c) Q) : zm_wp d M pc ls (.int (nI j) :: .ref (109 + 43 * w) :: st) (zch h0 c) Q := by
  have hi := zch_is (c := c) hS (109 + 43 * w) 203 (by omega) (by omega) (by rw [zck_P hw])
  have hl := zch_ln (c := c) hS (109 + 43 * w) 41 (by omega) (by omega) (by rw [zck_P hw])
  exact wx_aaload hc hi.2.1 (by rw [hi.2.2]; rfl) (by rw [hl]; exact hj) (by rw [hl]; decide) ((zch_at (109 + 43 * w) j (by omega)).trans (zcv_P hw hj)) kk
theorem wc_spln {w : Nat} (hS : zCS h0) (hc : zt_code M pc = some (.arraylength, np, x, y, sw)) (hw : w ≤ 1) (kk : zm_wp d M np ls (.int (nI 41) :: st) (zch h0 c) Q) : zm_wp d M pc ls (.ref (109 + 43 * w) :: st) (zch h0 c) Q := by
  have hi := zch_is (c := c) hS (109 + 43 * w) 203 (by omega) (by omega) (by rw [zck_P hw])
  have hl := zch_ln (c := c) hS (109 + 43 * w) 41 (by omega) (by omega) (by rw [zck_P hw])
  exact wx_arraylength hc hi.2.1 (by rw [hi.2.2]; rfl) hl kk
theorem wc_len (a t n : Nat) (hS : zCS h0) (hc : zt_code M pc = some (.arraylength, np, x, y, sw)) (h1 : Nat.ble 1 a = true) (h2 : Nat.blt a 194 = true) (hk : zck a = (t, n)) (ht : (zt_at t).isSome = true) (kk : zm_wp d M np ls (.int (nI n) :: st) (zch h0 c) Q) : zm_wp d M pc ls (.ref a :: st) (zch h0 c) Q := by
  have g1 := Nat.le_of_ble_eq_true h1
  have g2 := Nat.blt_eq.mp h2
  have hi := zch_is (c := c) hS a t g1 g2 (by rw [hk])
  exact wx_arraylength hc hi.2.1 (by rw [hi.2.2]; exact ht) (zch_ln hS a n g1 g2 (by rw [hk])) kk
/-- rows of bytes -/
theorem zga_is {b n : Nat} (hg : zga h0 b n) : zm_is (zch h0 c) b 100 := by
  obtain ⟨h1, h2, h3, h4⟩ := hg
  refine ⟨by omega, h2, ?_⟩
  show (h0.2.2.1 b).1 = 100
  rw [h3]
theorem zga_ln {b n : Nat} (hg : zga h0 b n) : zm_ln (zch h0 c) b = n := by
  show (h0.2.2.1 b).2 = n
  rw [hg.2.2.1]
theorem zga_at {b n j : Nat} (hg : zga h0 b n) (hj : j < n) : zm_at (zch h0 c) b j = .int (zsg (c 19 (1200 * b + j))) := by
  obtain ⟨h1, h2, h3, h4⟩ := hg
  rw [zch_at b j (by omega), zcv_some (zia_A h1 (by omega))]
  rfl
theorem wcA_len {b n : Nat} (hg : zga h0 b n) (hc : zt_code M pc = some (.arraylength, np, x, y, sw)) (kk : zm_wp d M np ls (.int (nI n) :: st) (zch h0 c) Q) : zm_wp d M pc ls (zrA b :: st) (zch h0 c) Q := by
  have hi := zga_is (c := c) hg
  rw [zrA_r hi.1]
  exact wx_arraylength hc hi.2.1 (by rw [hi.2.2]; rfl) (zga_ln hg) kk
theorem wcA_ld {b n j : Nat} (v : Nat) (hg : zga h0 b n) (hc : zt_code M pc = some (.baload, np, x, y, sw)) (hj : j < n) (hv : c 19 (1200 * b + j) = v) (kk : zm_wp d M np ls (.int (zsg v) :: st) (zch h0 c) Q) : zm_wp d M pc ls (.int (nI j) :: zrA b :: st) (zch h0 c) Q := by
  have hi := zga_is (c := c) hg
  have h4 := hg.2.2.2
  rw [zrA_r hi.1]
  exact wx_baload hc hi.2.1 hi.2.2 (by rw [zga_ln hg]; exact hj) (by rw [zga_ln hg]; omega) (by rw [zga_at hg hj, hv]) kk
theorem wcA_st {b n j v : Nat} {w : Int32} (hg : zga h0 b n) (hc : zt_code M pc = some (.bastore, np, x, y, sw)) (hj : j < n) (hw : w.toInt8.toInt32 = zsg v) (kk : zm_wp d M np ls st (zch h0 (zup c 19 (1200 * b + j) v)) Q) : zm_wp d M pc ls (.int w :: .int (nI j) :: zrA b :: st) (zch h0 c) Q := by
  have hi := zga_is (c := c) hg
  have h4 := hg.2.2.2
  have h1 := hg.1
  rw [zrA_r hi.1]
  refine wx_bastore hc hi (by rw [zga_ln hg]; exact hj) (by rw [zga_ln hg]; omega) ?_
  rw [hw, zch_put b j 19 (1200 * b + j) v (.int (zsg v)) (by omega) (zia_A h1 (by omega)) rfl]
  exact kk
theorem wcA_cp {a b na nb sp dp w : Nat} (ga : zga h0 a na) (gb : zga h0 b nb) (hby : ∀ i, c 19 i ≤ 255) (hc : zt_code M pc = some (.invokestatic o, np, 1003, y, sw)) (h4 : Nat.ble st.length 4 = true) (g1 : sp + w ≤ na) (g2 : dp + w ≤ nb) (kk : zm_wp d M np ls st (zch h0 (zwr c 19 (1200 * b + dp) w (fun i => c 19 (1200 * a + (sp + i))))) Q) : zm_wp d M pc ls (.int (nI w) :: .int (nI dp) :: zrA b :: .int (nI sp) :: zrA a :: st) (zch h0 c) Q := by
  have ia := zga_is (c := c) ga
  have ib := zga_is (c := c) gb
  have b1 := ga.2.2.2
  have b2 := gb.2.2.2
  rw [zrA_r ia.1, zrA_r ib.1]
  refine wx_copy hc h4 ia ib (by rw [zga_ln ga]; exact g1) (by rw [zga_ln gb]; exact g2) (by rw [zga_ln ga]; omega) (by rw [zga_ln gb]; omega) (fun i hi => ?_) ?_
  · rw [zga_at ga (by omega)]
    exact zsg_fit (Nat.lt_succ_of_le (hby _))
  · rw [zch_cp a sp b dp w ga.1 gb.1 (by omega) (by omega)]
    exact kk
theorem wcA_new {o : ArrayType} (N : Nat) (hS : zCS h0) (hc : zt_code M pc = some (.newarray o, np, 100, y, sw)) (hN : N ≤ 1200) (kk : zga (zm_mk h0 100 N (fun _ => .int 0)) h0.1 N → zm_wp d M np ls (zrA h0.1 :: st) (zch (zm_mk h0 100 N (fun _ => .int 0)) (zwr c 19 (1200 * h0.1) 1200 (fun _ => 0))) Q) : zm_wp d M pc ls (.int (nI N) :: st) (zch h0 c) Q := by
  have h207 := hS.1
  refine wx_newarray N hc (nI_pos (by omega)) (nI_clamp (by omega)) (by omega) ?_
  have e : zm_mk (zch h0 c) 100 N (fun _ => zm_df 100) = zch (zm_mk h0 100 N (fun _ => .int 0)) (zwr c 19 (1200 * h0.1) 1200 (fun _ => 0)) := zch_mk N h207
  rw [e]
  have k2 := kk ⟨Or.inr h207, Nat.lt_succ_self _, by show (if h0.1 = h0.1 then (100, N) else _) = _; rw [if_pos rfl], hN⟩
  rw [zrA_r (by omega)] at k2
  exact k2
/-- nothing, or a cell -/
theorem wcF_null {f : Nat} {o : Int} (hc : zt_code M pc = some (.ifnull o, np, x, y, sw)) (kt : f = 0 → zm_wp d M x ls st h0 Q) (kf : 1 ≤ f → zm_wp d M np ls st h0 Q) : zm_wp d M pc ls (zrF f :: st) h0 Q := by
  cases f with
  | zero => exact wx_ifnullN hc (kt rfl)
  | succ n => exact wx_ifnullR hc (kf (by omega))
theorem wcF_nnull {f : Nat} {o : Int} (hc : zt_code M pc = some (.ifnonnull o, np, x, y, sw)) (kt : 1 ≤ f → zm_wp d M x ls st h0 Q) (kf : f = 0 → zm_wp d M np ls st h0 Q) : zm_wp d M pc ls (zrF f :: st) h0 Q := by
  cases f with
  | zero => exact wx_ifnonnullN hc (kf rfl)
  | succ n => exact wx_ifnonnullR hc (kt (by omega))
theorem wcR_null {f : Nat} {o : Int} (hc : zt_code M pc = some (.ifnull o, np, x, y, sw)) (kt : f = 0 → zm_wp d M x ls st h0 Q) (kf : 1 ≤ f → zm_wp d M np ls st h0 Q) : zm_wp d M pc ls (zrR f :: st) h0 Q := by
  cases f with
  | zero => exact wx_ifnullN hc (kt rfl)
  | succ n => exact wx_ifnullR hc (kf (by omega))
theorem wcR_nnull {f : Nat} {o : Int} (hc : zt_code M pc = some (.ifnonnull o, np, x, y, sw)) (kt : 1 ≤ f → zm_wp d M x ls st h0 Q) (kf : f = 0 → zm_wp d M np ls st h0 Q) : zm_wp d M pc ls (zrR f :: st) h0 Q := by
  cases f with
  | zero => exact wx_ifnonnullN hc (kf rfl)
  | succ n => exact wx_ifnonnullR hc (kt (by omega))
theorem wcA_null {f : Nat} {o : Int} (hc : zt_code M pc = some (.ifnull o, np, x, y, sw)) (kt : f = 0 → zm_wp d M x ls st h0 Q) (kf : 1 ≤ f → zm_wp d M np ls st h0 Q) : zm_wp d M pc ls (zrA f :: st) h0 Q := by
  cases f with
  | zero => exact wx_ifnullN hc (kt rfl)
  | succ n => exact wx_ifnullR hc (kf (by omega))
theorem wcA_nnull {f : Nat} {o : Int} (hc : zt_code M pc = some (.ifnonnull o, np, x, y, sw)) (kt : 1 ≤ f → zm_wp d M x ls st h0 Q) (kf : f = 0 → zm_wp d M np ls st h0 Q) : zm_wp d M pc ls (zrA f :: st) h0 Q := by
  cases f with
  | zero => exact wx_ifnonnullN hc (kf rfl)
  | succ n => exact wx_ifnonnullR hc (kt (by omega))
theorem wcF_eq {a b : Nat} {o : Int} (hc : zt_code M pc = some (.if_acmp .eq o, np, x, y, sw)) (kt : a = b → zm_wp d M x ls st h0 Q) (kf : a ≠ b → zm_wp d M np ls st h0 Q) : zm_wp d M pc ls (zrF b :: zrF a :: st) h0 Q :=
  wx_acmp_eq hc (zrF_k a) (zrF_k b) (fun e => kt (zrF_inj e)) (fun e => kf (fun z => e (by rw [z])))
theorem wcF_ne {a b : Nat} {o : Int} (hc : zt_code M pc = some (.if_acmp .ne o, np, x, y, sw)) (kt : a ≠ b → zm_wp d M x ls st h0 Q) (kf : a = b → zm_wp d M np ls st h0 Q) : zm_wp d M pc ls (zrF b :: zrF a :: st) h0 Q :=
  wx_acmp_ne hc (zrF_k a) (zrF_k b) (fun e => kt (fun z => e (by rw [z]))) (fun e => kf (zrF_inj e))
theorem wcR_ne {a b : Nat} {o : Int} (hc : zt_code M pc = some (.if_acmp .ne o, np, x, y, sw)) (kt : a ≠ b → zm_wp d M x ls st h0 Q) (kf : a = b → zm_wp d M np ls st h0 Q) : zm_wp d M pc ls (zrR b :: zrR a :: st) h0 Q :=
  wx_acmp_ne hc (zrR_k a) (zrR_k b) (fun e => kt (fun z => e (by rw [z]))) (fun e => kf (zrR_inj e))
end
