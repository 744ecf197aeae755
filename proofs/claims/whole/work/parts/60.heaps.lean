/-! both heaps in one -/
theorem zch_mh (h0 : zm_H) (c s : Nat → Nat → Nat) : zch (zmh h0 s) c = zmh (zch h0 c) s := by
  have e : (fun a j => if (1 ≤ a ∧ a < 194) ∨ 207 ≤ a then zcv c a j else (zmh h0 s).2.2.2 a j) = (fun a j => bif Nat.ble 194 a && Nat.blt a 207 then zme a j (s (a - 194) j) else (zch h0 c).2.2.2 a j) := by
    funext a j
    show (if (1 ≤ a ∧ a < 194) ∨ 207 ≤ a then zcv c a j else (bif Nat.ble 194 a && Nat.blt a 207 then zme a j (s (a - 194) j) else h0.2.2.2 a j)) = (bif Nat.ble 194 a && Nat.blt a 207 then zme a j (s (a - 194) j) else (if (1 ≤ a ∧ a < 194) ∨ 207 ≤ a then zcv c a j else h0.2.2.2 a j))
    by_cases h1 : 194 ≤ a ∧ a < 207
    · have hb : (Nat.ble 194 a && Nat.blt a 207) = true := by
        rw [Bool.and_eq_true]
        exact ⟨Nat.ble_eq_true_of_le h1.1, Nat.ble_eq_true_of_le h1.2⟩
      rw [hb, if_neg (by omega)]
      rfl
    · have hb : (Nat.ble 194 a && Nat.blt a 207) = false := by
        cases hx : (Nat.ble 194 a && Nat.blt a 207) with
        | false => rfl
        | true =>
          rw [Bool.and_eq_true] at hx
          exact absurd ⟨Nat.le_of_ble_eq_true hx.1, Nat.le_of_ble_eq_true hx.2⟩ h1
      rw [hb]
      rfl
  show ((zmh h0 s).1, (zmh h0 s).2.1, (zmh h0 s).2.2.1, (fun a j => if (1 ≤ a ∧ a < 194) ∨ 207 ≤ a then zcv c a j else (zmh h0 s).2.2.2 a j)) = _
  rw [e]
  rfl
theorem zmk_mh {h0 : zm_H} (hx : 207 ≤ h0.1) (s : Nat → Nat → Nat) (t n : Nat) (f : Nat → Value) : zm_mk (zmh h0 s) t n f = zmh (zm_mk h0 t n f) s := by
  have e : (fun b j => if b = (zmh h0 s).1 then f j else (zmh h0 s).2.2.2 b j) = (fun a j => bif Nat.ble 194 a && Nat.blt a 207 then zme a j (s (a - 194) j) else (zm_mk h0 t n f).2.2.2 a j) := by
    funext a j
    show (if a = h0.1 then f j else (bif Nat.ble 194 a && Nat.blt a 207 then zme a j (s (a - 194) j) else h0.2.2.2 a j)) = (bif Nat.ble 194 a && Nat.blt a 207 then zme a j (s (a - 194) j) else (if a = h0.1 then f j else h0.2.2.2 a j))
    by_cases h1 : a = h0.1
    · have hb : (Nat.ble 194 a && Nat.blt a 207) = false := by
        cases hx2 : (Nat.ble 194 a && Nat.blt a 207) with
        | false => rfl
        | true =>
          rw [Bool.and_eq_true] at hx2
          have := Nat.le_of_ble_eq_true hx2.2
          omega
      rw [hb, if_pos h1]
      exact (if_pos h1).symm
    · rw [if_neg h1, if_neg h1]
  show ((zmh h0 s).1 + 1, (zmh h0 s).2.1 + n, (fun b => if b = (zmh h0 s).1 then (t, n) else (zmh h0 s).2.2.1 b), (fun b j => if b = (zmh h0 s).1 then f j else (zmh h0 s).2.2.2 b j)) = _
  rw [e]
  rfl
theorem zEX_mh {h0 h1 : zm_H} {s : Nat → Nat → Nat} {n : Nat} (hx : 207 ≤ h0.1) (h : zEX n (zmh h0 s) h1) : ∃ h2, zEX n h0 h2 ∧ h1 = zmh h2 s := by
  rcases h with h | h
  · exact ⟨h0, Or.inl rfl, h⟩
  · exact ⟨_, Or.inr rfl, by rw [h, zmk_mh hx]⟩
theorem zGR_mh {h0 h1 : zm_H} {s : Nat → Nat → Nat} (hx : 207 ≤ h0.1) (h : zGR (zmh h0 s) h1) : ∃ h2, zGR h0 h2 ∧ h1 = zmh h2 s := by
  obtain ⟨hm, g1, g2⟩ := h
  obtain ⟨h2, k1, rfl⟩ := zEX_mh hx g1
  obtain ⟨h3, k2, e⟩ := zEX_mh (Nat.le_trans hx (zEX_nx k1).1) g2
  exact ⟨h3, ⟨h2, k1, k2⟩, e⟩
theorem zIV_h {h0 h1 : zm_H} {c s : Nat → Nat → Nat} (e1 : h1.1 = h0.1) (e2 : h1.2.2.1 = h0.2.2.1) (h : zIV h0 c s) : zIV h1 c s := by
  obtain ⟨i1, i2, i3, ⟨r1, r2, r3, r4, r5, r6, r7, r8, r9, r10⟩, hs, ⟨a1, a2, a3, a4⟩⟩ := h
  have eg : ∀ b n, zga h0 b n → zga h1 b n := fun b n k => by
    unfold zga at k ⊢
    rw [e1, e2]
    exact k
  have es : zCS h1 := by
    unfold zCS at i1 ⊢
    rw [e1, e2]
    exact i1
  exact ⟨es, i2, i3, ⟨r1, r2, r3, r4, r5, fun f f1 f2 => ⟨eg _ _ (r6 f f1 f2).1, (r6 f f1 f2).2⟩, r7, fun R hR => eg _ _ (r8 R hR), r9, r10⟩, hs, ⟨fun f hf => eg _ _ (a1 f hf), fun r hr => eg _ _ (a2 r hr), a3, a4⟩⟩
theorem zIV_in {h0 : zm_H} {c s t : Nat → Nat → Nat} (h : zIV h0 c s) : zIV (zmh h0 t) c s := zIV_h rfl rfl h
theorem zIV_out {h0 : zm_H} {c s t : Nat → Nat → Nat} (h : zIV (zmh h0 t) c s) : zIV h0 c s := zIV_h (h0 := zmh h0 t) rfl rfl h
/-- what holds before each call of the law -/
def zLI (L : Nat) (xs : Nat → Int32) (n : Nat) (h0 : zm_H) (c s : Nat → Nat → Nat) : Prop := zIV h0 c s ∧ zMS h0 ∧ h0.2.2.1 0 = (101, L) ∧ (∀ j, j < L → h0.2.2.2 0 j = .int (xs j)) ∧ h0.1 ≤ 207 + 2 * n ∧ h0.2.1 ≤ 104000 + 1255 * n
theorem zEX_0 {n : Nat} {h0 h1 : zm_H} (hx : 207 ≤ h0.1) (h : zEX n h0 h1) : h1.2.2.1 0 = h0.2.2.1 0 ∧ ∀ j, h1.2.2.2 0 j = h0.2.2.2 0 j := by
  rcases h with h | h
  · rw [h]
    exact ⟨rfl, fun _ => rfl⟩
  · rw [h]
    exact ⟨if_neg (by omega), fun j => if_neg (by omega)⟩
theorem zLI_gr {L : Nat} {xs : Nat → Int32} {n : Nat} {h0 h1 : zm_H} {c s c2 s2 : Nat → Nat → Nat} (h : zLI L xs n h0 c s) (g : zGR h0 h1) (hv : zIV h1 c2 s2) : zLI L xs (n + 1) h1 c2 s2 := by
  obtain ⟨k1, k2, k3, k4, k5, k6⟩ := h
  obtain ⟨hm, g1, g2⟩ := g
  have x0 : 207 ≤ h0.1 := k2.1
  have n1 := zEX_nx g1
  have n2 := zEX_nx g2
  obtain ⟨p1, p2⟩ := zEX_0 x0 g1
  obtain ⟨q1, q2⟩ := zEX_0 (by omega) g2
  exact ⟨hv, zEX_MS g2 (zEX_MS g1 k2), by rw [q1, p1]; exact k3, fun j hj => by rw [q2, p2]; exact k4 j hj, by omega, by omega⟩
theorem zMS_c {h0 : zm_H} (c : Nat → Nat → Nat) (h : zMS h0) : zMS (zch h0 c) := h
theorem zCS_m {h0 : zm_H} (s : Nat → Nat → Nat) (h : zCS h0) : zCS (zmh h0 s) := h
/-- the script is read -/
theorem wl_read {d M pc np x y j L : Nat} {sw : List (Int × Nat)} {ls st : List Value} {h0 : zm_H} {c s : Nat → Nat → Nat} {Q : Option Value → zm_H → Prop} {xs : Nat → Int32} (hc : zt_code M pc = some (.iaload, np, x, y, sw)) (h0t : h0.2.2.1 0 = (101, L)) (h0v : ∀ j, j < L → h0.2.2.2 0 j = .int (xs j)) (hx : 0 < h0.1) (hL : L ≤ 2048) (hj : j < L) (kk : zm_wp d M np ls (.int (xs j) :: st) (zmh (zch h0 c) s) Q) : zm_wp d M pc ls (.int (nI j) :: .ref 0 :: st) (zmh (zch h0 c) s) Q := by
  have e : zm_ln (zmh (zch h0 c) s) 0 = L := congrArg Prod.snd h0t
  have e2 : zm_at (zmh (zch h0 c) s) 0 j = .int (xs j) := h0v j hj
  exact wx_iaload hc hx (congrArg Prod.fst h0t) (by rw [e]; exact hj) (by rw [e]; omega) e2 kk
theorem wl_len {d M pc np x y L : Nat} {sw : List (Int × Nat)} {ls st : List Value} {h0 : zm_H} {c s : Nat → Nat → Nat} {Q : Option Value → zm_H → Prop} (hc : zt_code M pc = some (.arraylength, np, x, y, sw)) (h0t : h0.2.2.1 0 = (101, L)) (hx : 0 < h0.1) (kk : zm_wp d M np ls (.int (nI L) :: st) (zmh (zch h0 c) s) Q) : zm_wp d M pc ls (.ref 0 :: st) (zmh (zch h0 c) s) Q := by
  have e : zm_ln (zmh (zch h0 c) s) 0 = L := congrArg Prod.snd h0t
  have e2 : zm_tg (zmh (zch h0 c) s) 0 = 101 := congrArg Prod.fst h0t
  exact wx_arraylength hc hx (by rw [e2]; rfl) e kk
