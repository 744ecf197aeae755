/-- the heap with which the small machine begins: the script alone -/
def zm_h0 (L : Nat) (xs : Nat → Int32) : zm_H := (1, 0, fun _ => (101, L), fun b j => if b = 0 then .int (xs j) else .int 0)
theorem zm_arrP {s : State} {args : Array Value} {ty : FieldType} (h : (Jvm.Cond.arrayClass ty).before args s = true) : ∃ cA, ArrOfT s cA ty ∧ s.vm.findClass ("[" ++ ty.toString) = some cA := by
  obtain ⟨c, k, comp, h1, h2, h3⟩ := Cond.arrayClass_spec h
  exact ⟨c, fun n z => ⟨fun k h => (by cases h), k, h2, comp, h3⟩, h1⟩
theorem zm_arrO {s : State} {args : Array Value} {C : String} (h : (Jvm.Cond.arrayOver (.object C)).before args s = true) : ∃ cA, ArrOfT s cA (.object C) ∧ va_RA s cA (.object C) := by
  obtain ⟨comp, c, k, h1, h2, h3, h4, h5⟩ := Cond.arrayOver_spec h
  exact ⟨c, fun n z => ⟨fun k h => (by cases h), k, h3, comp, h4⟩, k, comp, h3, h4, h1, h5⟩
set_option maxHeartbeats 4000000 in
set_option maxRecDepth 100000 in
theorem zm_K0 {s : State} {args : Array Value} (b off : Nat) (hts : ∀ w ∈ lw_tbl, w.before args s = true) : ∃ dC dI dA, zm_K (dC, dI, dA, b, off) s := by
  have hz : ∀ w ∈ zt_ws, w.before args s = true := fun w hw => hts w (List.mem_filter.mp hw).1
  obtain ⟨c0, i0, k0⟩ := u_known (C := ztC0) (T := ztF0) (N := 2) (n := 2) hz zu_0 (hz _ (zt_m1 37 rfl rfl))
  obtain ⟨c1, i1, k1⟩ := u_known (C := ztC1) (T := ztF1) (N := 4) (n := 4) hz zu_1 (hz _ (zt_m1 114 rfl rfl))
  obtain ⟨c2, i2, k2⟩ := u_known (C := ztC2) (T := ztF2) (N := 2) (n := 2) hz zu_2 (hz _ (zt_m1 107 rfl rfl))
  obtain ⟨c3, i3, k3⟩ := u_known (C := ztC3) (T := ztF3) (N := 3) (n := 3) hz zu_3 (hz _ (zt_m1 150 rfl rfl))
  obtain ⟨c4, i4, k4⟩ := u_known (C := ztC4) (T := ztF4) (N := 2) (n := 2) hz zu_4 (hz _ (zt_m1 21 rfl rfl))
  obtain ⟨c5, i5, k5⟩ := u_known (C := ztC5) (T := ztF5) (N := 9) (n := 9) hz zu_5 (hz _ (zt_m1 44 rfl rfl))
  obtain ⟨c6, i6, k6⟩ := u_known (C := ztC6) (T := ztF6) (N := 11) (n := 11) hz zu_6 (hz _ (zt_m1 143 rfl rfl))
  obtain ⟨c7, i7, k7⟩ := u_known (C := ztC7) (T := ztF7) (N := 6) (n := 6) hz zu_7 (hz _ (zt_m1 13 rfl rfl))
  obtain ⟨c8, i8, k8⟩ := u_known (C := ztC8) (T := ztF8) (N := 22) (n := 22) hz zu_8 (hz _ (zt_m3 13 rfl rfl))
  obtain ⟨aB, aB1, aB2⟩ := zm_arrP (hz _ (zt_m1 35 rfl rfl))
  obtain ⟨aI, aI1, aI2⟩ := zm_arrP (hz _ (zt_m3 87 rfl rfl))
  have o201 := hts (.arrayOver (.object "NameTree$NameRow")) (List.mem_append_right _ (List.mem_append_left _ (List.mem_of_getElem? (i := 113) rfl)))
  obtain ⟨a201, b201⟩ := zm_arrO o201
  have o203 := hts (.arrayOver (.object "NameTree$Span")) (List.mem_append_right _ (List.mem_append_left _ (List.mem_of_getElem? (i := 149) rfl)))
  obtain ⟨a203, b203⟩ := zm_arrO o203
  have o205 := hts (.arrayOver (.object "NameTree$TreeFile")) (List.mem_append_right _ (List.mem_append_left _ (List.mem_of_getElem? (i := 43) rfl)))
  obtain ⟨a205, b205⟩ := zm_arrO o205
  refine ⟨fun k => if k = 0 then c0 else if k = 1 then c1 else if k = 2 then c2 else if k = 3 then c3 else if k = 4 then c4 else if k = 5 then c5 else if k = 6 then c6 else if k = 7 then c7 else c8, fun k => if k = 0 then i0 else if k = 1 then i1 else if k = 2 then i2 else if k = 3 then i3 else if k = 4 then i4 else if k = 5 then i5 else if k = 6 then i6 else if k = 7 then i7 else i8, fun t => if t = 100 then aB else if t = 101 then aI else if t = 201 then a201 else if t = 203 then a203 else if t = 205 then a205 else aB, ?_, ?_, ?_, ?_⟩
  · intro k q hq
    match k, hq with
    | 0, hq => cases hq; exact k0
    | 1, hq => cases hq; exact k1
    | 2, hq => cases hq; exact k2
    | 3, hq => cases hq; exact k3
    | 4, hq => cases hq; exact k4
    | 5, hq => cases hq; exact k5
    | 6, hq => cases hq; exact k6
    | 7, hq => cases hq; exact k7
    | 8, hq => cases hq; exact k8
    | k + 9, hq => simp [zt_cl] at hq
  · intro t ty ht
    rcases zt_at_in t ty ht with rfl | rfl | rfl | rfl | rfl
    · cases ht; exact ⟨aB1, aB2⟩
    · cases ht; exact ⟨aI1, aI2⟩
    · cases ht; exact b201
    · cases ht; exact b203
    · cases ht; exact b205
  · intro C hC
    simp only [zt_ao, List.mem_cons, List.not_mem_nil, or_false] at hC
    rcases hC with rfl | rfl | rfl
    · exact va_AO.of o201
    · exact va_AO.of o203
    · exact va_AO.of o205
  · intro q hq
    simp only [zt_nm2, List.mem_cons, List.not_mem_nil, or_false] at hq
    rcases hq with rfl | rfl | rfl | rfl | rfl | rfl | rfl
    · exact va_Nw.of rfl (hts _ (List.mem_append_right _ (List.mem_append_right _ (List.mem_append_left _ (List.mem_of_getElem? (i := 135) rfl)))))
    · exact va_Nw.of rfl (hts _ (List.mem_append_right _ (List.mem_append_left _ (List.mem_of_getElem? (i := 115) rfl))))
    · exact va_Nw.of rfl (hts _ (List.mem_append_right _ (List.mem_append_right _ (List.mem_append_left _ (List.mem_of_getElem? (i := 167) rfl)))))
    · exact va_Nw.of rfl (hts _ (List.mem_append_right _ (List.mem_append_right _ (List.mem_append_left _ (List.mem_of_getElem? (i := 16) rfl)))))
    · exact va_Nw.of rfl (hts _ (List.mem_append_right _ (List.mem_append_right _ (List.mem_append_left _ (List.mem_of_getElem? (i := 19) rfl)))))
    · exact va_Nw.of rfl (hts _ (List.mem_append_right _ (List.mem_append_left _ (List.mem_of_getElem? (i := 151) rfl))))
    · exact va_Nw.of rfl (hts _ (List.mem_append_right _ (List.mem_append_left _ (List.mem_of_getElem? (i := 22) rfl))))
set_option maxRecDepth 100000 in
theorem zm_start {p : Program} {e : Env} {s : State} {m : MethodId} {below : List Frame} {meth : Method} {c : Code} (l : Launch) {b L d : Nat} {xs : Nat → Int32} (C0 : lw_At p s m meth c b L xs) (hp : zm_wp d 0 0 (zm_lo [.ref 0] 4) [] (zm_h0 L xs) (fun r h' => r = some (.int 1) ∧ zm_nx h' ≤ 600001 ∧ zm_sl h' ≤ 7302250)) : W p l e room_1 s m #[Value.ref b] below meth c s.heap [] 0 0 (lw_Z below #[Value.ref b] s) (entryFrame m ([Value.ref b] : List Value).toArray 4) := by
  obtain ⟨hx, hb, hr, hml, hown, hts, hX, hbl, hlocks, hgv⟩ := id C0
  obtain ⟨n, r, h', hrn, rfl, hcl, hsl⟩ := hp
  obtain ⟨dC, dI, dA, hK⟩ := zm_K0 b (s.heap.size - 1) hts
  obtain ⟨scr, x1, x2, x3, x4, x5⟩ := hX
  have X : zm_Cx (dC, dI, dA, b, s.heap.size - 1) p room_1 s m #[Value.ref b] meth c 0 := ⟨hx, hb, hml, hown, fun w hw => hts w (List.mem_filter.mp hw).1, hK, by decide, by decide, fun z => absurd z (by decide)⟩
  have hw : zm_wl (dC, dI, dA, b, s.heap.size - 1) s (zm_h0 L xs) s.heap := by
    refine ⟨?_, Nat.le_refl 1, ?_, rfl, ⟨scr, x1, x2, x3, x4, x5⟩, fun a h1 h2 => ?_⟩
    · show s.heap.size = s.heap.size - 1 + 1
      omega
    · show b ≤ s.heap.size - 1
      omega
    · have h2 : a < 1 := h2
      omega
  have he := zm_lr_entry (G := (dC, dI, dA, b, s.heap.size - 1)) (args := [.ref 0]) (n := 4) (by decide)
  have hb0 : [Value.ref b] = ([Value.ref 0] : List Value).map (zm_cv (dC, dI, dA, b, s.heap.size - 1)) := rfl
  rw [hb0, lg_entry_eq]
  have z1 : zm_nx (zm_h0 L xs) = 1 := rfl
  have z2 : zm_sl (zm_h0 L xs) = 0 := rfl
  have z3 : room_1.cells = 600000 := rfl
  have z4 : room_1.slots = 7302250 := rfl
  refine zm_body (h0 := zm_h0 L xs) (h' := h') (r := some (.int 1)) X ⟨by rw [z1, z3]; omega, by rw [z2, z4]; omega⟩ (fun x a h r1 h1 z => zm_sim l _ d x a h r1 h1 z) ?_ n 0 _ [] _ _ _ _ _ _ hrn he ⟨hw, va_S.rf, rfl, rfl⟩
  intro k i pc st hh lsA H locs cells slots hi hex hdg hd
  obtain ⟨w1, w2, w3, w4⟩ := hd
  have hA : ∀ q ∈ locs, s.heap.size ≤ q.base := fun q hq => by
    have := w2.2.2 q hq
    have : s.heap.size - 1 < q.base := this
    omega
  rcases hi with rfl | rfl | rfl
  · have hex := hex 0 0 0 [] []
    match st, hex with
    | [.int v], hex =>
      obtain ⟨e1, rfl, ty, ht, hf⟩ := hex
      cases e1
      refine va_forget hA ?_
      rw [z1] at w3
      rw [z2] at w4
      refine W.widen (k := 600000) (n := 7302250) (by omega) (by omega) ?_
      exact lw_ret hx hb hr hlocks hdg
  · have hex := hex 0 0 0 [] []
    match st, hex with
    | [v], hex =>
      obtain ⟨e1, -, hk, -⟩ := hex
      cases e1
      cases hk
  · obtain ⟨-, e1, -⟩ := hex 0 0 0 [] []
    cases e1
