/-! the class's walk -/
def zcw (c : Nat → Nat → Nat) (fo : Bool) : Nat → Nat → Nat → List (List Nat) → Nat → List Nat → Nat → Int32 × Nat × Nat × List Nat × Nat := zwk (c 2) (c 7) (fun f q => (zclk c f q).map (c 12)) (zctg c) fo
/-- what a walk may change -/
def zGF (w : Nat) (c c2 : Nat → Nat → Nat) : Prop := ∀ A j, A ≠ 24 → A ≠ 25 → A ≠ 26 → ¬ (15 ≤ A ∧ A ≤ 23 ∧ A ≠ 19 ∧ j = w) → c2 A j = c A j
theorem zGF_rf (w : Nat) (c : Nat → Nat → Nat) : zGF w c c := fun _ _ _ _ _ _ => rfl
theorem zGF_tr {w : Nat} {a b c : Nat → Nat → Nat} (h : zGF w a b) (k : zGF w b c) : zGF w a c := fun A j h1 h2 h3 h4 => (k A j h1 h2 h3 h4).trans (h A j h1 h2 h3 h4)
theorem zGF_HF {w : Nat} {c c2 : Nat → Nat → Nat} (h : zHF w c c2) : zGF w c c2 := fun A j h1 h2 h3 h4 => h A j h2 (fun z => h4 ⟨by omega, by omega, by omega, z.2⟩)
theorem zGF_up {w : Nat} {c c2 : Nat → Nat → Nat} (h : zGF w c c2) {A v : Nat} (hA : 15 ≤ A ∧ A ≤ 23 ∧ A ≠ 19) : zGF w c (zup c2 A w v) := fun B j h1 h2 h3 h4 => by
  rw [zup_ne _ _ (fun z => h4 ⟨by omega, by omega, by omega, z.2⟩)]
  exact h B j h1 h2 h3 h4
theorem zGF_us {w : Nat} {c c2 : Nat → Nat → Nat} (h : zGF w c c2) {A i v : Nat} (hA : A = 24 ∨ A = 25 ∨ A = 26) : zGF w c (zup c2 A i v) := fun B j h1 h2 h3 h4 => by
  rw [zup_na _ _ (by omega)]
  exact h B j h1 h2 h3 h4
theorem zGF_a {w : Nat} {c c2 : Nat → Nat → Nat} (h : zGF w c c2) (A : Nat) (hA : A < 15 ∨ A = 19) : c2 A = c A := funext (fun j => h A j (by omega) (by omega) (by omega) (by omega))
theorem zGF_lk {w : Nat} {c c2 : Nat → Nat → Nat} (h : zGF w c c2) (dd : Nat) (q : List Nat) : zclk c2 dd q = zclk c dd q := zclk_cg (by rw [zGF_a h 0 (by decide)]) (zGF_a h 10 (by decide)) (zGF_a h 11 (by decide)) (zGF_a h 13 (by decide)) (zGF_a h 14 (by decide)) (zGF_a h 19 (by decide)) dd q
theorem zGF_tg {w : Nat} {c c2 : Nat → Nat → Nat} (h : zGF w c c2) (g : Nat) : zctg c2 g = zctg c g := by
  unfold zctg
  rw [zGF_a h 19 (by decide), zGF_a h 8 (by decide), zGF_a h 9 (by decide)]
theorem zGF_cw {w : Nat} {c c2 : Nat → Nat → Nat} (h : zGF w c c2) (fo : Bool) : zcw c2 fo = zcw c fo := by
  unfold zcw
  have e : (fun f q => (zclk c2 f q).map (c2 12)) = (fun f q => (zclk c f q).map (c 12)) := funext (fun f => funext (fun q => by rw [zGF_lk h, zGF_a h 12 (by decide)]))
  rw [zGF_a h 2 (by decide), zGF_a h 7 (by decide), e, show zctg c2 = zctg c from funext (zGF_tg h)]
theorem zGF_WK {w : Nat} {h0 : zm_H} {c c2 : Nat → Nat → Nat} (h : zGF w c c2) (k : zWK h0 c) : zWK h0 c2 := by
  unfold zWK zCR at k ⊢
  rw [zGF_a h 0 (by decide), zGF_a h 10 (by decide), zGF_a h 13 (by decide), zGF_a h 12 (by decide), zGF_a h 2 (by decide), zGF_a h 8 (by decide), zGF_a h 9 (by decide)]
  exact k
/-- where a walk has led -/
def zWE (h0 : zm_H) (w : Nat) (c c2 : Nat → Nat → Nat) (o : Int32 × Nat × Nat × List Nat × Nat) : Prop := zGF w c c2 ∧ zCI c2 ∧ (o.1 = 0 → c2 23 w = o.2.1 ∧ zPG h0 c2 w ∧ zpw c2 w = o.2.2.2.1 ∧ (o.2.2.2.2 = 0 → c2 21 w = o.2.2.1 ∧ c2 22 w = zon (zclk c o.2.2.1 o.2.2.2.1)))
theorem zWE_tr {h0 : zm_H} {w : Nat} {c c2 c3 : Nat → Nat → Nat} {o : Int32 × Nat × Nat × List Nat × Nat} (h : zGF w c c2) (k : zWE h0 w c2 c3 o) : zWE h0 w c c3 o := by
  obtain ⟨k1, k2, k3⟩ := k
  refine ⟨zGF_tr h k1, k2, fun e => ?_⟩
  obtain ⟨g1, g2, g3, g4⟩ := k3 e
  exact ⟨g1, g2, g3, fun e2 => ⟨(g4 e2).1, by rw [(g4 e2).2, zGF_lk h]⟩⟩
theorem zWE_bad {h0 : zm_H} {w : Nat} {c c2 : Nat → Nat → Nat} {o : Int32 × Nat × Nat × List Nat × Nat} (h : zGF w c c2) (k : zCI c2) (e : o.1 ≠ 0) : zWE h0 w c c2 o := ⟨h, k, fun z => absurd z e⟩
theorem zwk_nil2 {K G : Nat → Nat} {L : Nat → List Nat → Option Nat} {T : Nat → List Nat} {fo : Bool} (n cur lk f u : Nat) (q : List Nat) : zwk K G L T fo n cur lk [] f q u = (0, cur, f, q, u) := by
  cases n <;> rfl
/-- the same part, on another state -/
theorem zpw_cg {c c2 : Nat → Nat → Nat} {w : Nat} (h17 : c2 17 w = c 17 w) (h18 : c2 18 w = c 18 w) (h20 : c2 20 w = c 20 w) (h19 : c2 19 = c 19) : zpw c2 w = zpw c w := by
  unfold zpw
  rw [h17, h18, h20, h19]
theorem zPG_cg {h0 : zm_H} {c c2 : Nat → Nat → Nat} {w : Nat} (h17 : c2 17 w = c 17 w) (h18 : c2 18 w = c 18 w) (h20 : c2 20 w = c 20 w) (h2 : c2 2 = c 2) (h8 : c2 8 = c 8) (k : zPG h0 c w) : zPG h0 c2 w := by
  unfold zPG zgk zOK at k ⊢
  rw [h17, h18, h20, h2, h8]
  exact k
theorem lW_g0 {d : Nat} {h : zm_H} {Q : Option Value → zm_H → Prop} {w fo st : Nat} {v1 v2 v3 v6 : Value} (k : zm_wp (d + 3) 36 14 [.ref (108 + 43 * w), v1, v2, v3, .int (nI fo), .int (nI (st + 1)), .int (nI 0)] [] h Q) : zm_wp (d + 3) 36 50 [.ref (108 + 43 * w), v1, v2, v3, .int (nI fo), .int (nI st), v6] [.int (nI 0)] h Q := by
  refine wx_istore (ls' := [.ref (108 + 43 * w), v1, v2, v3, .int (nI fo), .int (nI st), .int (nI 0)]) kc36_50 rfl rfl rfl rfl ?_
  refine wx_iload kc36_52 rfl rfl ?_
  refine wn_if_eq kc36_54 (by decide) (fun _ => ?_) (fun z => absurd z (by decide))
  refine wn_iinc (st + 1) (ls' := [.ref (108 + 43 * w), v1, v2, v3, .int (nI fo), .int (nI (st + 1)), .int (nI 0)]) kc36_60 rfl rfl rfl rfl rfl ?_
  refine wx_goto kc36_63 ?_
  exact k
theorem lW_g1 {d : Nat} {h : zm_H} {Q : Option Value → zm_H → Prop} {w fo st : Nat} {v1 v2 v3 v6 : Value} {x : Int32} (hx : x ≠ 0) (k : Q (some (.int x)) h) : zm_wp (d + 3) 36 50 [.ref (108 + 43 * w), v1, v2, v3, .int (nI fo), .int (nI st), v6] [.int x] h Q := by
  refine wx_istore (ls' := [.ref (108 + 43 * w), v1, v2, v3, .int (nI fo), .int (nI st), .int x]) kc36_50 rfl rfl rfl rfl ?_
  refine wx_iload kc36_52 rfl rfl ?_
  refine wx_if_eq kc36_54 (fun hq54 => ?_) (fun hq54 => ?_)
  · skip
    exact absurd hq54 hx
  · skip
    refine wx_iload kc36_57 rfl rfl ?_
    refine wx_ireturn kc36_59 rfl rfl ?_
    exact k
theorem zrs_ne {c : Nat → Nat → Nat} {w D : Nat} (h : zTP c (41 * w + D)) : zrs c w (D + 1) ≠ [] := by
  obtain ⟨h1, h2, h3⟩ := h
  intro z
  have z1 : zpt (zls (zsb c (41 * w + D)) (c 25 (41 * w + D)) (c 26 (41 * w + D))) = [] := (List.append_eq_nil_iff.mp z).1
  obtain ⟨e, e1, e2, e3, e4⟩ : ∃ e, c 25 (41 * w + D) < e ∧ e ≤ c 26 (41 * w + D) ∧ (∀ i, c 25 (41 * w + D) ≤ i → i < e → zsb c (41 * w + D) i ≠ 47) ∧ (e = c 26 (41 * w + D) ∨ zsb c (41 * w + D) e = 47) := by
    have key : ∀ m a, c 25 (41 * w + D) < a → a + m = c 26 (41 * w + D) → (∀ i, c 25 (41 * w + D) ≤ i → i < a → zsb c (41 * w + D) i ≠ 47) → ∃ e, c 25 (41 * w + D) < e ∧ e ≤ c 26 (41 * w + D) ∧ (∀ i, c 25 (41 * w + D) ≤ i → i < e → zsb c (41 * w + D) i ≠ 47) ∧ (e = c 26 (41 * w + D) ∨ zsb c (41 * w + D) e = 47) := by
      intro m
      induction m with
      | zero => exact fun a a1 a2 a3 => ⟨a, a1, by omega, a3, Or.inl (by omega)⟩
      | succ m ih =>
        intro a a1 a2 a3
        by_cases h47 : zsb c (41 * w + D) a = 47
        · exact ⟨a, a1, by omega, a3, Or.inr h47⟩
        · exact ih (a + 1) (by omega) (by omega) (fun i i1 i2 => by
            by_cases hia : i = a
            · rw [hia]; exact h47
            · exact a3 i i1 (by omega))
    exact key (c 26 (41 * w + D) - (c 25 (41 * w + D) + 1)) (c 25 (41 * w + D) + 1) (by omega) (by omega) (fun i i1 i2 => by rw [show i = c 25 (41 * w + D) by omega]; exact h2)
  rw [zpt_take (zsb c (41 * w + D)) (a := c 25 (41 * w + D)) (b := c 26 (41 * w + D)) (c := e) (by omega) e2 e3 e4] at z1
  have hpk : zpk (zls (zsb c (41 * w + D)) (c 25 (41 * w + D)) e) = true := by
    rw [zls_cons _ e1]
    unfold zpk
    by_cases h46 : zls (zsb c (41 * w + D)) (c 25 (41 * w + D) + 1) e = []
    · have hl := congrArg List.length h46
      rw [zls_len] at hl
      have ee : e = c 25 (41 * w + D) + 1 := by
        have : e - (c 25 (41 * w + D) + 1) = 0 := hl
        omega
      have hn : zsb c (41 * w + D) (c 25 (41 * w + D)) ≠ 46 := fun z => h3 ⟨z, by
        rcases e4 with y | y
        · exact Or.inl (by omega)
        · exact Or.inr (by rw [← ee]; exact y)⟩
      rw [h46]
      simp [hn]
    · simp [h46]
  rw [if_pos hpk] at z1
  cases z1
theorem lW_go {d : Nat} {h0 : zm_H} {Q : Option Value → zm_H → Prop} {w fo : Nat} {v1 v2 v3 : Value} (hS : zCS h0) (hw : w ≤ 1) (hfo : fo ≤ 1) : ∀ (n : Nat) (c : Nat → Nat → Nat) (lk : Nat) (ps : List (List Nat)) (f : Nat) (q : List Nat) (u st : Nat) (v6 : Value), zCI c → zWK h0 c → zsv h0 c w (c 15 w) → zrs c w (c 15 w) = ps → c 16 w = lk → lk ≤ 40 → c 15 w ≤ lk + 1 → ps.length + (40 - lk) * 1000 < n → n + st ≤ 1000000 → zPG h0 c w → zpw c w = q → (u = 0 → c 21 w = f ∧ c 22 w = zon (zclk c f q)) → (∀ c2, zWE h0 w c c2 (zcw c (fo == 1) n (c 23 w) lk ps f q u) → Q (some (.int (zcw c (fo == 1) n (c 23 w) lk ps f q u).1)) (zch h0 c2)) → zm_wp (d + 3) 36 14 [.ref (108 + 43 * w), v1, v2, v3, .int (nI fo), .int (nI st), v6] [] (zch h0 c) Q := by
  intro n
  induction n with
  | zero =>
    intro c lk ps f q u st v6 hI hW hv hps hlk hlk2 hdp hfu hst hp hq0 hu hq
    exact absurd hfu (by omega)
  | succ n ih =>
    intro c lk ps f q u st v6 hI hW hv hps hlk hlk2 hdp hfu hst hp hq0 hu hq
    refine wx_iload kc36_14 rfl rfl ?_
    refine wx_ldc (nI 1000000) kc36_16 (by decide) ?_
    refine wn_icmp_ge kc36_18 (by omega) (by decide) (fun hq18 => ?_) (fun hq18 => ?_)
    · skip
      exact absurd hq18 (by omega)
    · skip
      refine wx_aload_n kc36_21 rfl rfl ?_
      refine wcW_call hS kc36_22 rfl rfl hw rfl ?_
      refine cW_hasPart hS hI hw hv (fun c2 h2 => ?_) (fun c2 h2 => ?_)
      · skip
        show zm_wp _ 36 25 [.ref (108 + 43 * w), v1, v2, v3, .int (nI fo), .int (nI st), v6] [.int (nI 1)] (zch h0 c2) _
        obtain ⟨hF2, hI2, hd2, hd3, hv2, hr2, ht2⟩ := h2
        have hG2 := zGF_HF hF2
        obtain ⟨t, htt⟩ : ∃ y, y = 41 * w + (c2 15 w - 1) := ⟨_, rfl⟩
        rw [← htt] at ht2
        refine wn_if_eq kc36_25 (by decide) (fun z => absurd z (by decide)) (fun _ => ?_)
        refine wx_aload_n kc36_28 rfl rfl ?_
        refine wcW_call hS kc36_29 rfl rfl hw rfl ?_
        refine cW_takePart hS hI2 hw hd2 hv2 (fun e e1 e2 e3 e4 => ?_)
        rw [← htt] at e1 e2 e3 e4 ⊢
        obtain ⟨c3, hc3⟩ : ∃ y, y = zup (zup (zup (zup c2 17 w (c2 24 t)) 18 w (c2 25 t)) 25 t e) 20 w (e - c2 25 t) := ⟨_, rfl⟩
        rw [← hc3]
        obtain ⟨t1, t2, t3⟩ := ht2
        obtain ⟨nb, g1, g2, g3⟩ := hv2 (c2 15 w - 1) (by omega)
        rw [← htt] at g1 g2 g3
        have hb24 : c2 24 t ≤ 2147483647 := hI2 24 _
        have hb25 : c2 25 t ≤ 1200 := hI2 25 _
        have hb26 : c2 26 t ≤ 1200 := hI2 26 _
        have hlt : c2 25 t < e := by
          rcases Nat.lt_or_ge (c2 25 t) e with z | z
          · exact z
          · have ee : e = c2 25 t := by omega
            rcases e4 with y | y
            · omega
            · rw [ee] at y; exact absurd y t2
        have hG3 : zGF w c2 c3 := by rw [hc3]; exact zGF_up (zGF_us (zGF_up (zGF_up (zGF_rf w c2) (by decide)) (by decide)) (by decide)) (by decide)
        have hI3 : zCI c3 := by rw [hc3]; exact zCI_up (zCI_up (zCI_up (zCI_up hI2 hb24) hb25) (show e ≤ 1200 by omega)) (show e - c2 25 t ≤ 1200 by omega)
        have k15 : c3 15 w = c2 15 w := by rw [hc3]; rfl
        have k16 : c3 16 w = c2 16 w := by rw [hc3]; rfl
        have k23 : c3 23 w = c2 23 w := by rw [hc3]; rfl
        have k17 : c3 17 w = c2 24 t := by rw [hc3]; exact zup_same _ _ _ _
        have k18 : c3 18 w = c2 25 t := by rw [hc3]; exact zup_same _ _ _ _
        have k20 : c3 20 w = e - c2 25 t := by rw [hc3]; exact zup_same _ _ _ _
        have k24 : c3 24 = c2 24 := by rw [hc3]; rfl
        have k26 : c3 26 = c2 26 := by rw [hc3]; rfl
        have k19 : c3 19 = c2 19 := by rw [hc3]; rfl
        have k2 : c3 2 = c2 2 := by rw [hc3]; rfl
        have k8 : c3 8 = c2 8 := by rw [hc3]; rfl
        have k25 : c3 25 t = e := by rw [hc3]; exact zup_same (zup (zup c2 17 w (c2 24 t)) 18 w (c2 25 t)) 25 t e
        have k25n : ∀ i, i ≠ t → c3 25 i = c2 25 i := fun i hi => by rw [hc3]; exact zup_nj (zup (zup c2 17 w (c2 24 t)) 18 w (c2 25 t)) _ hi
        have kb : zsb c3 t = zsb c2 t := by
          unfold zsb
          rw [k24, k19]
        have hpart : zpw c3 w = zls (zsb c2 t) (c2 25 t) e := by
          unfold zpw
          rw [k17, k18, k20, k19, show c2 25 t + (e - c2 25 t) = e by omega]
          rfl
        have hP3 : zPG h0 c3 w := by
          refine ⟨fun z => ?_, fun _ => ⟨nb, by rw [k17]; exact zgk_cg k2 k8 g1, by rw [k18, k20]; omega⟩⟩
          have := g1.1.1
          rw [k17] at z
          omega
        have h17 : c3 17 w ≠ 0 := by
          have := g1.1.1
          rw [k17]
          omega
        have hv3 : zsv h0 c3 w (c3 15 w) := by
          rw [k15]
          intro i hi
          obtain ⟨n2, y1, y2, y3⟩ := hv2 i hi
          have y1 := zgk_cg k2 k8 y1
          rw [k24, k26]
          by_cases hit : 41 * w + i = t
          · refine ⟨n2, y1, y2, ?_⟩
            rw [hit, k25]
            exact e2
          · refine ⟨n2, y1, y2, ?_⟩
            rw [k25n _ hit]
            exact y3
        have hpk : zpk (zls (zsb c2 t) (c2 25 t) e) = true := by
          rw [zls_cons _ hlt]
          unfold zpk
          by_cases h46 : zls (zsb c2 t) (c2 25 t + 1) e = []
          · have hl := congrArg List.length h46
            rw [zls_len] at hl
            have ee : e = c2 25 t + 1 := by
              have : e - (c2 25 t + 1) = 0 := hl
              omega
            have hn : zsb c2 t (c2 25 t) ≠ 46 := fun z => t3 ⟨z, by
              rcases e4 with y | y
              · exact Or.inl (by omega)
              · exact Or.inr (by rw [← ee]; exact y)⟩
            rw [h46]
            simp [hn]
          · simp [h46]
        have hD : c2 15 w = (c2 15 w - 1) + 1 := by omega
        have hps2 : ps = zls (zsb c2 t) (c2 25 t) e :: zrs c3 w (c3 15 w) := by
          rw [← hps, ← hr2, k15, hD]
          show zpt (zls (zsb c2 (41 * w + (c2 15 w - 1))) (c2 25 (41 * w + (c2 15 w - 1))) (c2 26 (41 * w + (c2 15 w - 1)))) ++ zrs c2 w (c2 15 w - 1) = _ :: (zpt (zls (zsb c3 (41 * w + (c2 15 w - 1))) (c3 25 (41 * w + (c2 15 w - 1))) (c3 26 (41 * w + (c2 15 w - 1)))) ++ zrs c3 w (c2 15 w - 1))
          rw [← htt, kb, k25, k26, zpt_take (zsb c2 t) (a := c2 25 t) (b := c2 26 t) (c := e) e1 e2 e3 e4, if_pos hpk, zrs_cg (c := c2) (c2 := c3) (c2 15 w - 1) (fun i hi => ⟨by rw [k24], k25n _ (by omega), by rw [k26]⟩) (fun j => by rw [k19])]
          rfl
        show zm_wp _ 36 32 [.ref (108 + 43 * w), v1, v2, v3, .int (nI fo), .int (nI st), v6] [] (zch h0 c3) _
        refine wx_aload_n kc36_32 rfl rfl ?_
        refine wx_aload_n kc36_33 rfl rfl ?_
        refine wcW_call hS kc36_34 rfl rfl hw rfl ?_
        have key : ∀ c4 la, zHF w c3 c4 → zCI c4 → c4 15 w ≤ c3 15 w → zsv h0 c4 w (c4 15 w) → zrs c4 w (c4 15 w) = zrs c3 w (c3 15 w) → la ≤ 1 → (la = 1 ↔ zrs c3 w (c3 15 w) = []) → zm_wp (d + 3) 36 47 [.ref (108 + 43 * w), v1, v2, v3, .int (nI fo), .int (nI st), v6] [.int (nI fo), .int (nI la), .ref (108 + 43 * w)] (zch h0 c4) Q := by
          intro c4 la hF4 hI4 hd4 hv4 hr4 hla hla2
          have hG4 : zGF w c c4 := zGF_tr (zGF_tr hG2 hG3) (zGF_HF hF4)
          have hW4 := zGF_WK hG4 hW
          have m16 : c4 16 w = lk := by rw [hF4 16 w (by decide) (by omega), k16, hF2 16 w (by decide) (by omega), hlk]
          have m23 : c4 23 w = c 23 w := by rw [hF4 23 w (by decide) (by omega), k23, hF2 23 w (by decide) (by omega)]
          have m17 : c4 17 w = c3 17 w := hF4 17 w (by decide) (by omega)
          have m18 : c4 18 w = c3 18 w := hF4 18 w (by decide) (by omega)
          have m20 : c4 20 w = c3 20 w := hF4 20 w (by decide) (by omega)
          have m19 : c4 19 = c3 19 := zGF_a (zGF_HF hF4) 19 (by decide)
          have hp4 : zPG h0 c4 w := zPG_cg m17 m18 m20 (zGF_a (zGF_HF hF4) 2 (by decide)) (zGF_a (zGF_HF hF4) 8 (by decide)) hP3
          have hq4 : zpw c4 w = zls (zsb c2 t) (c2 25 t) e := (zpw_cg m17 m18 m20 m19).trans hpart
          have hW4f := zGF_cw hG4 (fo == 1)
          have hL4 := zGF_lk hG4
          have a2 : c4 2 = c 2 := zGF_a hG4 2 (by decide)
          have a7 : c4 7 = c 7 := zGF_a hG4 7 (by decide)
          have a12 : c4 12 = c 12 := zGF_a hG4 12 (by decide)
          have aT : ∀ g, zctg c4 g = zctg c g := zGF_tg hG4
          have hb15 : c4 15 w ≤ lk + 1 := by omega
          have hb23 : c4 23 w ≤ 40 := hI4 23 w
          obtain ⟨pp, hpp⟩ : ∃ y, y = zls (zsb c2 t) (c2 25 t) e := ⟨_, rfl⟩
          obtain ⟨rs, hrs⟩ : ∃ y, y = zrs c3 w (c3 15 w) := ⟨_, rfl⟩
          rw [← hpp] at hq4
          rw [← hrs] at hr4 hla2
          have hps3 : ps = pp :: rs := by rw [hpp, hrs]; exact hps2
          rw [hps3] at hq hfu
          rw [List.length_cons] at hfu
          have hend : ∀ (x : Int32) c5, x ≠ 0 → zGF w c c5 → zCI c5 → zcw c (fo == 1) (n + 1) (c 23 w) lk (pp :: rs) f q u = (x, (zcw c (fo == 1) (n + 1) (c 23 w) lk (pp :: rs) f q u).2) → Q (some (.int x)) (zch h0 c5) := by
            intro x c5 hx hg hi he
            have hz := hq c5 (zWE_bad hg hi (by rw [he]; exact hx))
            rw [he] at hz
            exact hz
          refine wcW_call hS kc36_47 rfl rfl hw rfl ?_
          refine cW_step hS hI4 hw hW4 hp4 (by rw [m17]; exact h17) hla hfo (by rw [m16]; exact hb15) (fun l1 => ?_) (fun l1 l2 => ?_) (fun l1 l2 l3 => ?_) (fun l1 l2 l3 l4 => ?_) (fun l1 l2 l3 r l4 l5 => ?_) (fun l1 l2 l3 r l4 l5 l6 => ?_) (fun l1 l2 l3 r l4 l5 l6 => ?_)
          · rw [hq4] at l1
            refine lW_g1 (by decide) (hend (-9) c4 (by decide) hG4 hI4 ?_)
            unfold zcw
            rw [zwk_long l1]
          · rw [hq4] at l1
            rw [a2, m23] at l2
            refine lW_g1 (by decide) (hend (-4) c4 (by decide) hG4 hI4 ?_)
            unfold zcw
            rw [zwk_nf (by omega) l2]
          · rw [hq4] at l1 l3
            rw [a2, m23] at l2
            refine lW_g0 ?_
            have hb7 : c4 7 (c4 23 w) ≤ 40 := hI4 7 _
            obtain ⟨c5, hc5⟩ : ∃ y, y = zup (zup (zup c4 21 w (c4 23 w)) 22 w 0) 23 w (c4 7 (c4 23 w)) := ⟨_, rfl⟩
            show zm_wp _ 36 14 _ [] (zch h0 (zup (zup (zup c4 21 w (c4 23 w)) 22 w 0) 23 w (c4 7 (c4 23 w)))) _
            rw [← hc5]
            have hG5 : zGF w c4 c5 := by rw [hc5]; exact zGF_up (zGF_up (zGF_up (zGF_rf w c4) (by decide)) (by decide)) (by decide)
            have n23 : c5 23 w = c 7 (c 23 w) := by rw [hc5, zup_same, a7, m23]
            have e : zcw c (fo == 1) (n + 1) (c 23 w) lk (pp :: rs) f q u = zcw c (fo == 1) n (c 7 (c 23 w)) lk rs f pp 1 := by
              unfold zcw
              rw [zwk_up (by omega) l2 l3]
            rw [e] at hq
            refine ih c5 lk rs f pp 1 (st + 1) _ (by rw [hc5]; exact zCI_up (zCI_up (zCI_up hI4 hb23) (Nat.zero_le _)) hb7) (zGF_WK hG5 hW4) (by rw [hc5]; exact hv4) (Eq.trans (by rw [hc5]; exact zrs_cg (c := c4) _ (fun i _ => ⟨rfl, rfl, rfl⟩) (fun _ => rfl)) hr4) (by rw [hc5]; exact m16) hlk2 (by rw [hc5]; exact hb15) (by omega) (by omega) (by rw [hc5]; exact zPG_cg rfl rfl rfl rfl rfl hp4) (Eq.trans (by rw [hc5]; exact zpw_cg rfl rfl rfl rfl) hq4) (fun z => absurd z (by decide)) (fun c6 h6 => ?_)
            rw [zGF_cw (zGF_tr hG4 hG5), n23] at h6 ⊢
            exact hq c6 (zWE_tr (zGF_tr hG4 hG5) h6)
          · rw [hq4] at l1 l3 l4
            rw [a2, m23] at l2
            rw [m23, hL4] at l4
            have hLn : (zclk c (c 23 w) pp).map (c 12) = none := by rw [l4]; rfl
            have hG5 : zGF w c4 (zup (zup (zup c4 21 w (c4 23 w)) 22 w 0) 23 w 0) := zGF_up (zGF_up (zGF_up (zGF_rf w c4) (by decide)) (by decide)) (by decide)
            have hI5 : zCI (zup (zup (zup c4 21 w (c4 23 w)) 22 w 0) 23 w 0) := zCI_up (zCI_up (zCI_up hI4 hb23) (Nat.zero_le _)) (Nat.zero_le _)
            by_cases hl1 : la = 1
            · rw [if_pos hl1]
              have hr0 := hla2.mp hl1
              refine lW_g0 ?_
              obtain ⟨c5, hc5⟩ : ∃ y, y = zup (zup (zup c4 21 w (c4 23 w)) 22 w 0) 23 w 0 := ⟨_, rfl⟩
              show zm_wp _ 36 14 _ [] (zch h0 (zup (zup (zup c4 21 w (c4 23 w)) 22 w 0) 23 w 0)) _
              rw [← hc5] at hG5 hI5 ⊢
              have n23 : c5 23 w = 0 := by rw [hc5, zup_same]
              have e : zcw c (fo == 1) (n + 1) (c 23 w) lk (pp :: rs) f q u = zcw c (fo == 1) n 0 lk rs (c 23 w) pp 0 := by
                unfold zcw
                rw [zwk_no (by omega) l2 l3 hLn, hr0, if_pos rfl, zwk_nil2]
              rw [e] at hq
              refine ih c5 lk rs (c 23 w) pp 0 (st + 1) _ hI5 (zGF_WK hG5 hW4) (by rw [hc5]; exact hv4) (Eq.trans (by rw [hc5]; exact zrs_cg (c := c4) _ (fun i _ => ⟨rfl, rfl, rfl⟩) (fun _ => rfl)) hr4) (by rw [hc5]; exact m16) hlk2 (by rw [hc5]; exact hb15) (by omega) (by omega) (by rw [hc5]; exact zPG_cg rfl rfl rfl rfl rfl hp4) (Eq.trans (by rw [hc5]; exact zpw_cg rfl rfl rfl rfl) hq4) (fun _ => ⟨?_, ?_⟩) (fun c6 h6 => ?_)
              · rw [hc5]
                exact (show zup c4 21 w (c4 23 w) 21 w = c 23 w from (zup_same _ _ _ _).trans m23)
              · rw [zGF_lk (zGF_tr hG4 hG5), l4, hc5]
                exact zup_same (zup c4 21 w (c4 23 w)) 22 w 0
              · rw [zGF_cw (zGF_tr hG4 hG5), n23] at h6 ⊢
                exact hq c6 (zWE_tr (zGF_tr hG4 hG5) h6)
            · rw [if_neg hl1]
              refine lW_g1 (by decide) (hend (-2) _ (by decide) (zGF_tr hG4 hG5) hI5 ?_)
              unfold zcw
              rw [zwk_no (by omega) l2 l3 hLn, if_neg (fun z => hl1 (hla2.mpr z))]
          · rw [hq4] at l1 l3 l4
            rw [a2, m23] at l2
            rw [a2, a12] at l5
            rw [m23, hL4] at l4
            have hLs : (zclk c (c 23 w) pp).map (c 12) = some (c 12 r) := by rw [l4]; rfl
            have hb12 : c4 12 r ≤ 40 := hI4 12 r
            have hbr : r ≤ 60 := by
              obtain ⟨i, _, i2, _⟩ := zclk_some l4
              rw [i2]
              exact hI 10 i
            refine lW_g0 ?_
            have hG5 : zGF w c4 (zup (zup (zup c4 21 w (c4 23 w)) 22 w r) 23 w (c4 12 r)) := zGF_up (zGF_up (zGF_up (zGF_rf w c4) (by decide)) (by decide)) (by decide)
            have hI5 : zCI (zup (zup (zup c4 21 w (c4 23 w)) 22 w r) 23 w (c4 12 r)) := zCI_up (zCI_up (zCI_up hI4 hb23) (show r ≤ 60 from hbr)) hb12
            obtain ⟨c5, hc5⟩ : ∃ y, y = zup (zup (zup c4 21 w (c4 23 w)) 22 w r) 23 w (c4 12 r) := ⟨_, rfl⟩
            show zm_wp _ 36 14 _ [] (zch h0 (zup (zup (zup c4 21 w (c4 23 w)) 22 w r) 23 w (c4 12 r))) _
            rw [← hc5] at hG5 hI5 ⊢
            have n23 : c5 23 w = c 12 r := by rw [hc5, zup_same, a12]
            have e : zcw c (fo == 1) (n + 1) (c 23 w) lk (pp :: rs) f q u = zcw c (fo == 1) n (c 12 r) lk rs (c 23 w) pp 0 := by
              unfold zcw
              rw [zwk_go (by omega) l2 l3 hLs (fun z => l5 ⟨z.1, z.2.imp (fun y1 y2 => y1 (hla2.mp y2)) (fun y => by simpa using y)⟩)]
            rw [e] at hq
            refine ih c5 lk rs (c 23 w) pp 0 (st + 1) _ hI5 (zGF_WK hG5 hW4) (by rw [hc5]; exact hv4) (Eq.trans (by rw [hc5]; exact zrs_cg (c := c4) _ (fun i _ => ⟨rfl, rfl, rfl⟩) (fun _ => rfl)) hr4) (by rw [hc5]; exact m16) hlk2 (by rw [hc5]; exact hb15) (by omega) (by omega) (by rw [hc5]; exact zPG_cg rfl rfl rfl rfl rfl hp4) (Eq.trans (by rw [hc5]; exact zpw_cg rfl rfl rfl rfl) hq4) (fun _ => ⟨?_, ?_⟩) (fun c6 h6 => ?_)
            · rw [hc5]
              exact (show zup c4 21 w (c4 23 w) 21 w = c 23 w from (zup_same _ _ _ _).trans m23)
            · rw [zGF_lk (zGF_tr hG4 hG5), l4, hc5]
              exact zup_same (zup c4 21 w (c4 23 w)) 22 w r
            · rw [zGF_cw (zGF_tr hG4 hG5), n23] at h6 ⊢
              exact hq c6 (zWE_tr (zGF_tr hG4 hG5) h6)
          · rw [hq4] at l1 l3 l4
            rw [a2, m23] at l2
            rw [a2, a12] at l5
            rw [m23, hL4] at l4
            rw [m16] at l6
            have hLs : (zclk c (c 23 w) pp).map (c 12) = some (c 12 r) := by rw [l4]; rfl
            have hb12 : c4 12 r ≤ 40 := hI4 12 r
            have hbr : r ≤ 60 := by
              obtain ⟨i, _, i2, _⟩ := zclk_some l4
              rw [i2]
              exact hI 10 i
            have hG5 : zGF w c4 (zup (zup (zup c4 21 w (c4 23 w)) 22 w r) 23 w (c4 12 r)) := zGF_up (zGF_up (zGF_up (zGF_rf w c4) (by decide)) (by decide)) (by decide)
            have hI5 : zCI (zup (zup (zup c4 21 w (c4 23 w)) 22 w r) 23 w (c4 12 r)) := zCI_up (zCI_up (zCI_up hI4 hb23) (show r ≤ 60 from hbr)) hb12
            refine lW_g1 (by decide) (hend (-8) _ (by decide) (zGF_tr hG4 hG5) hI5 ?_)
            unfold zcw
            rw [zwk_loop (by omega) l2 l3 hLs ⟨l5.1, l5.2.imp (fun y1 y2 => y1 (hla2.mpr y2)) (fun y => by simpa using y)⟩ (by omega)]
          · rw [hq4] at l1 l3 l4
            rw [a2, m23] at l2
            rw [a2, a12] at l5
            rw [m23, hL4] at l4
            rw [m16] at l6
            have hLs : (zclk c (c 23 w) pp).map (c 12) = some (c 12 r) := by rw [l4]; rfl
            have hb12 : c4 12 r ≤ 40 := hI4 12 r
            have hbr : r ≤ 60 := by
              obtain ⟨i, _, i2, _⟩ := zclk_some l4
              rw [i2]
              exact hI 10 i
            have hb8 : c4 8 (c4 12 r) ≤ 2147483647 := hI4 8 _
            have hb9 : c4 9 (c4 12 r) ≤ 1000 := hI4 9 _
            obtain ⟨gt1, gt2⟩ := hW4.2.2.1 (c4 12 r) hb12 (by rw [a2, a12]; exact l5.1)
            refine lW_g0 ?_
            obtain ⟨v, hv⟩ : ∃ y, y = (if (zctg c4 (c4 12 r)).head? = some 47 then 1 else c4 23 w) := ⟨_, rfl⟩
            have hvb : v ≤ 40 := by rw [hv]; split <;> omega
            obtain ⟨c5, hc5⟩ : ∃ y, y = zup (zup (zup (zup (zup (zup (zup (zup (zup c4 21 w (c4 23 w)) 22 w r) 23 w (c4 12 r)) 16 w (c4 16 w + 1)) 24 (41 * w + c4 15 w) (c4 8 (c4 12 r))) 25 (41 * w + c4 15 w) 0) 26 (41 * w + c4 15 w) (c4 9 (c4 12 r))) 15 w (c4 15 w + 1)) 23 w v := ⟨_, rfl⟩
            show zm_wp _ 36 14 _ [] (zch h0 (zup (zup (zup (zup (zup (zup (zup (zup (zup c4 21 w (c4 23 w)) 22 w r) 23 w (c4 12 r)) 16 w (c4 16 w + 1)) 24 (41 * w + c4 15 w) (c4 8 (c4 12 r))) 25 (41 * w + c4 15 w) 0) 26 (41 * w + c4 15 w) (c4 9 (c4 12 r))) 15 w (c4 15 w + 1)) 23 w (if (zctg c4 (c4 12 r)).head? = some 47 then 1 else c4 23 w))) _
            rw [← hv, ← hc5]
            have hG5 : zGF w c4 c5 := by rw [hc5]; exact zGF_up (zGF_up (zGF_us (zGF_us (zGF_us (zGF_up (zGF_up (zGF_up (zGF_up (zGF_rf w c4) (by decide)) (by decide)) (by decide)) (by decide)) (by decide)) (by decide)) (by decide)) (by decide)) (by decide)
            have hI5 : zCI c5 := by rw [hc5]; exact zCI_up (zCI_up (zCI_up (zCI_up (zCI_up (zCI_up (zCI_up (zCI_up (zCI_up hI4 hb23) (show r ≤ 60 from hbr)) hb12) (show c4 16 w + 1 ≤ 40 by omega)) hb8) (Nat.zero_le _)) (show c4 9 (c4 12 r) ≤ 1200 by omega)) (show c4 15 w + 1 ≤ 41 by omega)) (show v ≤ 40 from hvb)
            have n23 : c5 23 w = v := by rw [hc5, zup_same]
            have n16 : c5 16 w = lk + 1 := by rw [hc5, ← m16]; exact zup_same (zup (zup (zup c4 21 w (c4 23 w)) 22 w r) 23 w (c4 12 r)) 16 w (c4 16 w + 1)
            have n15 : c5 15 w = c4 15 w + 1 := by rw [hc5]; exact zup_same (zup (zup (zup (zup (zup (zup (zup c4 21 w (c4 23 w)) 22 w r) 23 w (c4 12 r)) 16 w (c4 16 w + 1)) 24 (41 * w + c4 15 w) (c4 8 (c4 12 r))) 25 (41 * w + c4 15 w) 0) 26 (41 * w + c4 15 w) (c4 9 (c4 12 r))) 15 w (c4 15 w + 1)
            have n24 : c5 24 (41 * w + c4 15 w) = c4 8 (c4 12 r) := by rw [hc5]; exact zup_same c4 24 (41 * w + c4 15 w) (c4 8 (c4 12 r))
            have n25 : c5 25 (41 * w + c4 15 w) = 0 := by rw [hc5]; exact zup_same c4 25 (41 * w + c4 15 w) 0
            have n26 : c5 26 (41 * w + c4 15 w) = c4 9 (c4 12 r) := by rw [hc5]; exact zup_same c4 26 (41 * w + c4 15 w) (c4 9 (c4 12 r))
            have p24 : ∀ i, i < c4 15 w → c5 24 (41 * w + i) = c4 24 (41 * w + i) := fun i hi => by rw [hc5]; exact (show zup c4 24 (41 * w + c4 15 w) (c4 8 (c4 12 r)) 24 (41 * w + i) = _ from zup_nj _ _ (by omega))
            have p25 : ∀ i, i < c4 15 w → c5 25 (41 * w + i) = c4 25 (41 * w + i) := fun i hi => by rw [hc5]; exact (show zup c4 25 (41 * w + c4 15 w) 0 25 (41 * w + i) = _ from zup_nj _ _ (by omega))
            have p26 : ∀ i, i < c4 15 w → c5 26 (41 * w + i) = c4 26 (41 * w + i) := fun i hi => by rw [hc5]; exact (show zup c4 26 (41 * w + c4 15 w) (c4 9 (c4 12 r)) 26 (41 * w + i) = _ from zup_nj _ _ (by omega))
            have n19 : c5 19 = c4 19 := zGF_a hG5 19 (by decide)
            have hT5 : zpt (zls (zsb c5 (41 * w + c4 15 w)) (c5 25 (41 * w + c4 15 w)) (c5 26 (41 * w + c4 15 w))) = zpt (zctg c (c 12 r)) := by
              rw [← aT, ← a12]
              unfold zsb zctg
              rw [n24, n25, n26, n19, Nat.zero_add]
            have hR5 : zrs c5 w (c5 15 w) = zpt (zctg c (c 12 r)) ++ rs := by
              rw [n15]
              show zpt (zls (zsb c5 (41 * w + c4 15 w)) (c5 25 (41 * w + c4 15 w)) (c5 26 (41 * w + c4 15 w))) ++ zrs c5 w (c4 15 w) = _
              rw [hT5, zrs_cg (c := c4) (c2 := c5) (c4 15 w) (fun i hi => ⟨p24 i hi, p25 i hi, p26 i hi⟩) (fun j => by rw [n19]), hr4]
            have e : zcw c (fo == 1) (n + 1) (c 23 w) lk (pp :: rs) f q u = zcw c (fo == 1) n v (lk + 1) (zpt (zctg c (c 12 r)) ++ rs) (c 23 w) pp 1 := by
              unfold zcw
              rw [zwk_link (by omega) l2 l3 hLs ⟨l5.1, l5.2.imp (fun y1 y2 => y1 (hla2.mpr y2)) (fun y => by simpa using y)⟩ (by omega), hv, aT, a12, m23]
            rw [e] at hq
            have hlen := zpt_le (zctg c (c 12 r))
            have hlen2 : (zctg c (c 12 r)).length ≤ 1000 := by
              rw [← aT, ← a12]
              unfold zctg
              rw [zls_len]
              omega
            refine ih c5 (lk + 1) (zpt (zctg c (c 12 r)) ++ rs) (c 23 w) pp 1 (st + 1) _ hI5 (zGF_WK hG5 hW4) (fun i hi => ?_) hR5 n16 (by omega) (by omega) ?_ (by omega) ?_ (Eq.trans ?_ hq4) (fun z => absurd z (by decide)) (fun c6 h6 => ?_)
            · by_cases hil : i = c4 15 w
              · subst hil
                rw [n24, n25, n26]
                exact ⟨1000, zgk_cg (zGF_a hG5 2 (by decide)) (zGF_a hG5 8 (by decide)) ⟨gt1, Or.inr ⟨c4 12 r, hb12, by rw [a2, a12]; exact l5.1, rfl⟩⟩, hb9, Nat.zero_le _⟩
              · obtain ⟨n2, y1, y2, y3⟩ := hv4 i (by omega)
                rw [p24 i (by omega), p25 i (by omega), p26 i (by omega)]
                exact ⟨n2, zgk_cg (zGF_a hG5 2 (by decide)) (zGF_a hG5 8 (by decide)) y1, y2, y3⟩
            · rw [List.length_append]
              omega
            · rw [hc5]
              exact zPG_cg rfl rfl rfl rfl rfl hp4
            · rw [hc5]
              exact zpw_cg rfl rfl rfl rfl
            · rw [zGF_cw (zGF_tr hG4 hG5), n23] at h6 ⊢
              exact hq c6 (zWE_tr (zGF_tr hG4 hG5) h6)
        refine cW_hasPart hS hI3 hw hv3 (fun c4 h4 => ?_) (fun c4 h4 => ?_)
        · skip
          show zm_wp _ 36 37 [.ref (108 + 43 * w), v1, v2, v3, .int (nI fo), .int (nI st), v6] [.int (nI 1), .ref (108 + 43 * w)] (zch h0 c4) _
          refine wn_if_ne kc36_37 (by decide) (fun _ => ?_) (fun z => absurd z (by decide))
          refine wx_iconst (nI 0) kc36_44 (by decide) ?_
          refine wx_iload kc36_45 rfl rfl ?_
          obtain ⟨y1, y2, y3, y4, y5, y6, y7⟩ := h4
          refine key c4 0 y1 y2 y4 y5 y6 (by decide) ⟨fun z => absurd z (by decide), fun z => ?_⟩
          rw [z] at y6
          have hD4 : c4 15 w = (c4 15 w - 1) + 1 := by omega
          rw [hD4] at y6
          exact absurd y6 (zrs_ne y7)
        · skip
          show zm_wp _ 36 37 [.ref (108 + 43 * w), v1, v2, v3, .int (nI fo), .int (nI st), v6] [.int (nI 0), .ref (108 + 43 * w)] (zch h0 c4) _
          refine wn_if_ne kc36_37 (by decide) (fun z => absurd z (by decide)) (fun _ => ?_)
          refine wx_iconst (nI 1) kc36_40 (by decide) ?_
          refine wx_goto kc36_41 ?_
          refine wx_iload kc36_45 rfl rfl ?_
          obtain ⟨y1, y2, y3, y4⟩ := h4
          exact key c4 1 y1 y2 (by omega) (fun i hi => absurd hi (by omega)) (by rw [y3, y4]; rfl) (by decide) ⟨fun _ => y4, fun _ => rfl⟩
      · skip
        show zm_wp _ 36 25 [.ref (108 + 43 * w), v1, v2, v3, .int (nI fo), .int (nI st), v6] [.int (nI 0)] (zch h0 c2) _
        obtain ⟨hF2, hI2, hd2, hr2⟩ := h2
        have hG2 := zGF_HF hF2
        have hps0 : ps = [] := hps ▸ hr2
        have e17 : c2 17 w = c 17 w := hF2 17 w (by decide) (by omega)
        have e18 : c2 18 w = c 18 w := hF2 18 w (by decide) (by omega)
        have e20 : c2 20 w = c 20 w := hF2 20 w (by decide) (by omega)
        have e19 : c2 19 = c 19 := zGF_a hG2 19 (by decide)
        refine wn_if_eq kc36_25 (by decide) (fun _ => ?_) (fun z => absurd z (by decide))
        refine wx_iconst (nI 0) kc36_66 (by decide) ?_
        refine wx_ireturn kc36_67 rfl rfl ?_
        have e : zcw c (fo == 1) (n + 1) (c 23 w) lk ps f q u = (0, c 23 w, f, q, u) := by
          unfold zcw
          rw [hps0, zwk_nil]
        have hz := hq c2
        rw [e] at hz
        refine hz ⟨hG2, hI2, fun _ => ⟨hF2 23 w (by decide) (by omega), zPG_cg e17 e18 e20 (zGF_a hG2 2 (by decide)) (zGF_a hG2 8 (by decide)) hp, (zpw_cg e17 e18 e20 e19).trans hq0, fun z => ?_⟩⟩
        obtain ⟨u1, u2⟩ := hu z
        exact ⟨(hF2 21 w (by decide) (by omega)).trans u1, (hF2 22 w (by decide) (by omega)).trans u2⟩
