/-- a walk of the class over bytes k .. e of the row b -/
def zcg (c : Nat → Nat → Nat) (b k e fo : Nat) : Int32 × Nat × Nat × List Nat × Nat := zcw c (fo == 1) 50000 1 0 (zpt (zls (fun j => c 19 (1200 * b + j)) k e)) 0 [] 1
theorem cW_go {d : Nat} {h0 : zm_H} {c : Nat → Nat → Nat} {Q : Option Value → zm_H → Prop} {w b nb k e fo : Nat} (hS : zCS h0) (hI : zCI c) (hw : w ≤ 1) (hW : zWK h0 c) (gb : zga h0 b nb) (ho : zOK c b) (hk : k ≤ e) (he : e ≤ nb) (hx : h0.1 ≤ 2147483647) (hfo : fo ≤ 1) (hq : ∀ c2, zWE h0 w c c2 (zcg c b k e fo) → Q (some (.int (zcg c b k e fo).1)) (zch h0 c2)) : zm_wc (d + 4) mW_go [.ref (108 + 43 * w), zrA b, .int (nI k), .int (nI e), .int (nI fo)] (zch h0 c) Q := by
  refine zm_enter2 (zfl_cons rfl (zfl_cons (zrA_c1 _) (zfl_cons rfl (zfl_cons rfl (zfl_cons rfl zfl_nil))))) rfl ?_
  show zm_wp _ 36 0 [.ref (108 + 43 * w), zrA b, .int (nI k), .int (nI e), .int (nI fo), zm_un, zm_un] [] (zch h0 c) Q
  refine wx_aload_n kc36_0 rfl rfl ?_
  refine wcW_call hS kc36_1 rfl rfl hw rfl ?_
  refine cW_begin hS hI hw ?_
  show zm_wp _ 36 4 [.ref (108 + 43 * w), zrA b, .int (nI k), .int (nI e), .int (nI fo), zm_un, zm_un] [] (zch h0 (zup (zup (zup (zup (zup (zup (zup (zup c 15 w 0) 16 w 0) 17 w 0) 18 w 0) 20 w 0) 21 w 1) 22 w 0) 23 w 1)) _
  obtain ⟨c1, hc1⟩ : ∃ y, y = (zup (zup (zup (zup (zup (zup (zup (zup c 15 w 0) 16 w 0) 17 w 0) 18 w 0) 20 w 0) 21 w 1) 22 w 0) 23 w 1) := ⟨_, rfl⟩
  rw [← hc1]
  have hI1 : zCI c1 := by rw [hc1]; exact zCI_up (zCI_up (zCI_up (zCI_up (zCI_up (zCI_up (zCI_up (zCI_up hI (Nat.zero_le _)) (Nat.zero_le _)) (Nat.zero_le _)) (Nat.zero_le _)) (Nat.zero_le _)) (show 1 ≤ 40 by decide)) (Nat.zero_le _)) (show 1 ≤ 40 by decide)
  have hG1 : zGF w c c1 := by rw [hc1]; exact zGF_up (zGF_up (zGF_up (zGF_up (zGF_up (zGF_up (zGF_up (zGF_up (zGF_rf w c) (by decide)) (by decide)) (by decide)) (by decide)) (by decide)) (by decide)) (by decide)) (by decide)
  have k15 : c1 15 w = 0 := by rw [hc1]; exact zup_same c 15 w 0
  have k16 : c1 16 w = 0 := by rw [hc1]; exact zup_same c 16 w 0
  have k17 : c1 17 w = 0 := by rw [hc1]; exact zup_same c 17 w 0
  have k18 : c1 18 w = 0 := by rw [hc1]; exact zup_same c 18 w 0
  have k20 : c1 20 w = 0 := by rw [hc1]; exact zup_same c 20 w 0
  have k23 : c1 23 w = 1 := by rw [hc1]; exact zup_same c 23 w 1
  have gb1 := gb.2.2.2
  have gb2 := gb.2.1
  show zm_wp _ 36 4 [.ref (108 + 43 * w), zrA b, .int (nI k), .int (nI e), .int (nI fo), zm_un, zm_un] [] (zch h0 c1) _
  refine wx_aload_n kc36_4 rfl rfl ?_
  refine wx_aload_n kc36_5 rfl (zrA_k _) ?_
  refine wx_iload_n kc36_6 rfl rfl ?_
  refine wx_iload_n kc36_7 rfl rfl ?_
  refine wcW_call hS kc36_8 rfl rfl hw rfl ?_
  refine cW_push hS hI1 hw (by omega) ?_
  show zm_wp _ 36 11 [.ref (108 + 43 * w), zrA b, .int (nI k), .int (nI e), .int (nI fo), zm_un, zm_un] [] (zch h0 (zup (zup (zup (zup c1 24 (41 * w + c1 15 w) b) 25 (41 * w + c1 15 w) k) 26 (41 * w + c1 15 w) e) 15 w (c1 15 w + 1))) _
  obtain ⟨c2, hc2⟩ : ∃ y, y = zup (zup (zup (zup c1 24 (41 * w + c1 15 w) b) 25 (41 * w + c1 15 w) k) 26 (41 * w + c1 15 w) e) 15 w (c1 15 w + 1) := ⟨_, rfl⟩
  rw [← hc2]
  have hI2 : zCI c2 := by rw [hc2]; exact zCI_up (zCI_up (zCI_up (zCI_up hI1 (show b ≤ 2147483647 by omega)) (show k ≤ 1200 by omega)) (show e ≤ 1200 by omega)) (show c1 15 w + 1 ≤ 41 by omega)
  have hG2 : zGF w c c2 := by rw [hc2]; exact zGF_up (zGF_us (zGF_us (zGF_us hG1 (by decide)) (by decide)) (by decide)) (by decide)
  have m15 : c2 15 w = 1 := by rw [hc2, zup_same, k15]
  have m24 : c2 24 (41 * w + 0) = b := by rw [hc2, k15]; exact zup_same c1 24 (41 * w + 0) b
  have m25 : c2 25 (41 * w + 0) = k := by rw [hc2, k15]; exact zup_same c1 25 (41 * w + 0) k
  have m26 : c2 26 (41 * w + 0) = e := by rw [hc2, k15]; exact zup_same c1 26 (41 * w + 0) e
  have m16 : c2 16 w = 0 := by rw [hc2]; exact k16
  have m17 : c2 17 w = 0 := by rw [hc2]; exact k17
  have m18 : c2 18 w = 0 := by rw [hc2]; exact k18
  have m20 : c2 20 w = 0 := by rw [hc2]; exact k20
  have m23 : c2 23 w = 1 := by rw [hc2]; exact k23
  have m19 : c2 19 = c 19 := zGF_a hG2 19 (by decide)
  show zm_wp _ 36 11 [.ref (108 + 43 * w), zrA b, .int (nI k), .int (nI e), .int (nI fo), zm_un, zm_un] [] (zch h0 c2) _
  refine wx_iconst (nI 0) kc36_11 (by decide) ?_
  refine wx_istore (ls' := [.ref (108 + 43 * w), zrA b, .int (nI k), .int (nI e), .int (nI fo), .int (nI 0), zm_un]) kc36_12 rfl rfl rfl rfl ?_
  have hps : zrs c2 w (c2 15 w) = zpt (zls (fun j => c 19 (1200 * b + j)) k e) := by
    rw [m15]
    show zpt (zls (zsb c2 (41 * w + 0)) (c2 25 (41 * w + 0)) (c2 26 (41 * w + 0))) ++ [] = _
    unfold zsb
    rw [m24, m25, m26, m19, List.append_nil]
  have hl := zpt_le (zls (fun j => c 19 (1200 * b + j)) k e)
  rw [zls_len] at hl
  refine lW_go hS hw hfo 50000 c2 0 _ 0 [] 1 0 _ hI2 (zGF_WK hG2 hW) (fun i hi => ?_) hps m16 (by decide) (by omega) (by omega) (by decide) ⟨fun _ => m20, fun z => absurd m17 z⟩ ?_ (fun z => absurd z (by decide)) (fun c3 h3 => ?_)
  · obtain rfl : i = 0 := by omega
    rw [m24, m25, m26]
    exact ⟨nb, zgk_cg (zGF_a hG2 2 (by decide)) (zGF_a hG2 8 (by decide)) ⟨gb, ho⟩, he, hk⟩
  · unfold zpw
    rw [m18, m20]
    rfl
  · rw [zGF_cw hG2, m23] at h3 ⊢
    exact hq c3 (zWE_tr hG2 h3)
theorem zpt_ne {l : List Nat} : ∀ p ∈ zpt l, p ≠ [] := by
  intro p hp z
  have := (List.mem_filter.mp hp).2
  rw [z] at this
  exact absurd this (by decide)
/-- a walk that goes through no last link ends without a name where it has none, or goes up -/
theorem zwk_u {K G : Nat → Nat} {L : Nat → List Nat → Option Nat} {T : Nat → List Nat} (hT : ∀ g, (T g).length ≤ 1000) : ∀ (n cur lk : Nat) (ps : List (List Nat)) (f : Nat) (q : List Nat) (u : Nat), lk ≤ 40 → ps.length + (40 - lk) * 1000 < n → (∀ p ∈ ps, p ≠ []) → (ps = [] → (u ≠ 0 ↔ q = [] ∨ q = [46, 46])) → (zwk K G L T false n cur lk ps f q u).1 = 0 → ((zwk K G L T false n cur lk ps f q u).2.2.2.2 ≠ 0 ↔ (zwk K G L T false n cur lk ps f q u).2.2.2.1 = [] ∨ (zwk K G L T false n cur lk ps f q u).2.2.2.1 = [46, 46])
  | 0, _, _, _, _, _, _, _, h, _, _ => absurd h (by omega)
  | n + 1, cur, lk, [], f, q, u, _, _, _, h => fun _ => h rfl
  | n + 1, cur, lk, w :: ps, f, q, u, hlk, hfu, hne, h => by
    rw [List.length_cons] at hfu
    have hne2 : ∀ p ∈ ps, p ≠ [] := fun p hp => hne p (List.mem_cons_of_mem _ hp)
    have hw : w ≠ [] := hne w List.mem_cons_self
    by_cases h1 : 255 < w.length
    · rw [zwk_long h1]
      exact fun z => absurd (show (-9 : Int32) = 0 from z) (by decide)
    by_cases h2 : K cur = 2
    case neg =>
      rw [zwk_nf h1 h2]
      exact fun z => absurd (show (-4 : Int32) = 0 from z) (by decide)
    by_cases h3 : w = [46, 46]
    · rw [zwk_up h1 h2 h3]
      exact zwk_u hT n _ _ _ _ _ _ hlk (by omega) hne2 (fun _ => ⟨fun _ => Or.inr h3, fun _ => by decide⟩)
    cases h4 : L cur w with
    | none =>
      rw [zwk_no h1 h2 h3 h4]
      exact fun _ => ⟨fun z => absurd rfl z, fun z => z.elim (fun y => absurd y hw) (fun y => absurd y h3)⟩
    | some g =>
      by_cases h5 : K g = 3 ∧ (ps ≠ [] ∨ false = true)
      · by_cases h6 : lk = 40
        · rw [zwk_loop h1 h2 h3 h4 h5 h6]
          exact fun z => absurd (show (-8 : Int32) = 0 from z) (by decide)
        · rw [zwk_link h1 h2 h3 h4 h5 h6]
          have hl := zpt_le (T g)
          have hl2 := hT g
          refine zwk_u hT n _ _ _ _ _ _ (by omega) (by rw [List.length_append]; omega) (fun p hp => ?_) (fun z => ?_)
          · rcases List.mem_append.mp hp with y | y
            · exact zpt_ne p y
            · exact hne2 p y
          · have := (List.append_eq_nil_iff.mp z).2
            exact absurd this (h5.2.elim id (fun y => absurd y (by decide)))
      · rw [zwk_go h1 h2 h3 h4 h5]
        exact zwk_u hT n _ _ _ _ _ _ hlk (by omega) hne2 (fun _ => ⟨fun z => absurd rfl z, fun z => z.elim (fun y => absurd y hw) (fun y => absurd y h3)⟩)
theorem zctg_len {c : Nat → Nat → Nat} (hI : zCI c) (g : Nat) : (zctg c g).length ≤ 1000 := by
  unfold zctg
  rw [zls_len]
  have : c 9 g ≤ 1000 := hI 9 g
  omega
theorem cW_goToName {d : Nat} {h0 : zm_H} {c : Nat → Nat → Nat} {Q : Option Value → zm_H → Prop} {w b nb k e : Nat} (hS : zCS h0) (hI : zCI c) (hw : w ≤ 1) (hW : zWK h0 c) (gb : zga h0 b nb) (ho : zOK c b) (hk : k ≤ e) (he : e ≤ nb) (hx : h0.1 ≤ 2147483647) (hq : ∀ c2, zWE h0 w c c2 (zcg c b k e 0) → Q (some (.int (zna (zcg c b k e 0)))) (zch h0 c2)) : zm_wc (d + 5) mW_goToName [.ref (108 + 43 * w), zrA b, .int (nI k), .int (nI e)] (zch h0 c) Q := by
  refine zm_enter2 (zfl_cons rfl (zfl_cons (zrA_c1 _) (zfl_cons rfl (zfl_cons rfl zfl_nil)))) rfl ?_
  show zm_wp _ 35 0 [.ref (108 + 43 * w), zrA b, .int (nI k), .int (nI e), zm_un] [] (zch h0 c) Q
  refine wx_aload_n kc35_0 rfl rfl ?_
  refine wx_aload_n kc35_1 rfl (zrA_k _) ?_
  refine wx_iload_n kc35_2 rfl rfl ?_
  refine wx_iload_n kc35_3 rfl rfl ?_
  refine wx_iconst (nI 0) kc35_4 (by decide) ?_
  refine wcW_call hS kc35_5 rfl rfl hw rfl ?_
  refine cW_go hS hI hw hW gb ho hk he hx (by decide) (fun c2 h2 => ?_)
  show zm_wp _ 35 8 [.ref (108 + 43 * w), zrA b, .int (nI k), .int (nI e), zm_un] [.int ((zcg c b k e 0).1)] (zch h0 c2) _
  have hcs : (zcg c b k e 0).1 = 0 ∨ (zcg c b k e 0).1 < 0 := zwk_code _ _ _ _ _ _ _
  have hI2 := h2.2.1
  have hb20 : c2 20 w ≤ 1200 := hI2 20 w
  refine wx_istore (ls' := [.ref (108 + 43 * w), zrA b, .int (nI k), .int (nI e), .int ((zcg c b k e 0).1)]) kc35_8 rfl rfl rfl rfl ?_
  refine wx_iload kc35_10 rfl rfl ?_
  refine wx_if_eq kc35_12 (fun hq12 => ?_) (fun hq12 => ?_)
  · skip
    obtain ⟨e1, e2, e3, e4⟩ := h2.2.2 hq12
    have gb1 := gb.2.2.2
    have hl := zpt_le (zls (fun j => c 19 (1200 * b + j)) k e)
    rw [zls_len] at hl
    have hu := zwk_u (K := c 2) (G := c 7) (L := fun f q => (zclk c f q).map (c 12)) (T := zctg c) (zctg_len hI) 50000 1 0 (zpt (zls (fun j => c 19 (1200 * b + j)) k e)) 0 [] 1 (by decide) (by omega) zpt_ne (fun _ => ⟨fun _ => Or.inl rfl, fun _ => by decide⟩) hq12
    have hu : (zcg c b k e 0).2.2.2.2 ≠ 0 ↔ (zcg c b k e 0).2.2.2.1 = [] ∨ (zcg c b k e 0).2.2.2.1 = [46, 46] := hu
    have hlen := zpw_len c2 w
    rw [e3] at hlen
    have hz : zna (zcg c b k e 0) = if (zcg c b k e 0).2.2.2.2 = 0 then 0 else -1 := by
      unfold zna
      rw [if_neg (by rw [hq12]; decide)]
    refine wx_aload_n kc35_18 rfl rfl ?_
    refine wcW_get (.int (nI (c2 20 w))) hS kc35_19 hw rfl ?_
    have hb22_1 : c2 20 w ≤ 1200 := hI2 20 w
    refine wn_if_eq kc35_22 (by omega) (fun hq22 => ?_) (fun hq22 => ?_)
    · skip
      refine wx_iconst (-1) kc35_32 (by decide) ?_
      refine wx_goto kc35_33 ?_
      refine wx_ireturn kc35_37 rfl rfl ?_
      have hu0 : (zcg c b k e 0).2.2.2.2 ≠ 0 := hu.mpr (by
        exact Or.inl (List.eq_nil_of_length_eq_zero (by omega)))
      rw [if_neg hu0] at hz
      have k2 := hq c2 h2
      rw [hz] at k2
      exact k2
    · skip
      refine wx_aload_n kc35_25 rfl rfl ?_
      refine wcW_call hS kc35_26 rfl rfl hw rfl ?_
      refine cW_isUp hS hI2 hw e2 ?_
      show zm_wp _ 35 29 [.ref (108 + 43 * w), zrA b, .int (nI k), .int (nI e), .int ((zcg c b k e 0).1)] [.int (nI (if zpw c2 w = [46, 46] then 1 else 0))] (zch h0 c2) _
      refine wn_if_eq kc35_29 (by split <;> decide) (fun hq29 => ?_) (fun hq29 => ?_)
      · skip
        have hup : ¬ zpw c2 w = [46, 46] := fun z => by rw [if_pos z] at hq29; exact absurd hq29 (by decide)
        refine wx_iconst (nI 0) kc35_36 (by decide) ?_
        refine wx_ireturn kc35_37 rfl rfl ?_
        have hu0 : (zcg c b k e 0).2.2.2.2 = 0 := Classical.byContradiction (fun z => by
          rcases hu.mp z with y | y
          · rw [y] at hlen; exact hq22 hlen.symm
          · exact hup (e3.trans y))
        rw [hu0, if_pos rfl] at hz
        have k2 := hq c2 h2
        rw [hz] at k2
        exact k2
      · skip
        have hup : zpw c2 w = [46, 46] := Classical.byContradiction (fun z => by rw [if_neg z] at hq29; exact absurd rfl hq29)
        refine wx_iconst (-1) kc35_32 (by decide) ?_
        refine wx_goto kc35_33 ?_
        refine wx_ireturn kc35_37 rfl rfl ?_
        have hu0 : (zcg c b k e 0).2.2.2.2 ≠ 0 := hu.mpr (by
          exact Or.inr (e3.symm.trans hup))
        rw [if_neg hu0] at hz
        have k2 := hq c2 h2
        rw [hz] at k2
        exact k2
  · skip
    refine wx_iload kc35_15 rfl rfl ?_
    refine wx_ireturn kc35_17 rfl rfl ?_
    have e : zna (zcg c b k e 0) = (zcg c b k e 0).1 := by
      unfold zna
      rw [if_pos (hcs.elim (fun z => absurd z hq12) id)]
    rw [← e]
    exact hq c2 h2
