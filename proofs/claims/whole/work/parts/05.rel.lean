/-! the small machine's heap in the machine's heap -/
/-- ids of the numbered kinds, their slots, ids of the arrays' kinds by tags, the script's cell, the cell ahead of the first new one -/
abbrev zm_G : Type := (Nat → ClassId) × (Nat → Nat → Nat) × (Nat → ClassId) × Nat × Nat
def zm_ad (G : zm_G) (a : Nat) : Nat := if a = 0 then G.2.2.2.1 else G.2.2.2.2 + a
def zm_cv (G : zm_G) : Value → Value
  | .ref a => .ref (zm_ad G a)
  | v => v
def zm_A (G : zm_G) : Nat → Prop := fun q => G.2.2.2.2 < q
/-- a cell -/
def zm_ce (G : zm_G) (h : zm_H) (H : Heap) (a : Nat) : Prop :=
  (zm_tg h a < 100 → ∃ q, zt_cl[zm_tg h a]? = some q ∧ t_OB (zm_ad G a) (G.1 (zm_tg h a)) q.2.2 (G.2.1 (zm_tg h a)) H (fun k => zm_cv G (zm_at h a k))) ∧
  (100 ≤ zm_tg h a → H[zm_ad G a]? = some (arrV (G.2.2.1 (zm_tg h a)) (zm_ln h a) (fun j => zm_cv G (zm_at h a j))))
def zm_sc (G : zm_G) (s : State) (h : zm_H) (H : Heap) : Prop := ∃ scr : Cell, H[G.2.2.2.1]? = some scr ∧ s.isArrayOf scr .int ∧ scr.vm ≠ .unknown ∧ scr.slots.size = zm_ln h 0 ∧ ∀ j : Nat, j < zm_ln h 0 → scr.slots[j]? = some (zm_cv G (zm_at h 0 j))
/-- the whole heap -/
def zm_wl (G : zm_G) (s : State) (h : zm_H) (H : Heap) : Prop :=
  H.size = G.2.2.2.2 + zm_nx h ∧ 1 ≤ zm_nx h ∧ G.2.2.2.1 ≤ G.2.2.2.2 ∧ zm_tg h 0 = 101 ∧ zm_sc G s h H ∧ ∀ a, 0 < a → a < zm_nx h → zm_ce G h H a
/-- what is known of the tables -/
def zm_K (G : zm_G) (U : State) : Prop :=
  (∀ (c : Nat) (q : vw_C), zt_cl[c]? = some q → u_Kn U q.1 q.2.1 q.2.2 (G.1 c) (G.2.1 c)) ∧ (∀ (t : Nat) (ty : FieldType), zt_at t = some ty → ArrOfT U (G.2.2.1 t) ty ∧ va_RA U (G.2.2.1 t) ty) ∧
  (∀ C ∈ zt_ao, va_AO C U) ∧ (∀ q ∈ zt_nm2, va_Nw (.methodLinkNest q.1 q.2.1 q.2.2.1 q.2.2.2) U)
theorem zm_K.moved {G : zm_G} {u U : State} (hW : u.WarmedH U.vm) (h : zm_K G u) : zm_K G U :=
  ⟨fun c q hq => u_Kn_moved hW.alike (h.1 c q hq), fun t ty ht => ⟨arrOfT_moved hW.alike (h.2.1 t ty ht).1, (h.2.1 t ty ht).2.moved hW.alike⟩, fun C hC => (h.2.2.1 C hC).moved hW.alike, fun q hq => (h.2.2.2 q hq).warmM hW⟩
theorem zm_K.same {G : zm_G} {u U : State} (hv : u.vm = U.vm) (h : zm_K G u) : zm_K G U := by
  have al : u.vm.Alike U.vm := by rw [hv]; exact Vm.Alike.refl _
  exact ⟨fun c q hq => u_Kn_moved al (h.1 c q hq), fun t ty ht => ⟨arrOfT_moved al (h.2.1 t ty ht).1, (h.2.1 t ty ht).2.moved al⟩, fun C hC => (h.2.2.1 C hC).moved al, fun q hq => (h.2.2.2 q hq).same rfl hv⟩
theorem zm_wl.moved {G : zm_G} {u U : State} {h : zm_H} {H : Heap} (al : u.vm.Alike U.vm) (hw : zm_wl G u h H) : zm_wl G U h H := by
  obtain ⟨a, b, c, d, ⟨scr, e1, e2, e3⟩, f⟩ := hw
  exact ⟨a, b, c, d, ⟨scr, e1, State.isArrayOf_alike al e2, e3⟩, f⟩
theorem zm_ad_pos {G : zm_G} {a : Nat} (ha : 0 < a) : zm_ad G a = G.2.2.2.2 + a := by
  unfold zm_ad
  rw [if_neg (by omega)]
theorem zm_A_ad {G : zm_G} {a : Nat} (ha : 0 < a) : zm_A G (zm_ad G a) := by
  rw [zm_ad_pos ha]
  show G.2.2.2.2 < _
  omega
theorem zm_ce.kept {G : zm_G} {h h2 : zm_H} {H H' : Heap} {a : Nat} (hc : zm_ce G h H a) (ht : zm_tg h2 a = zm_tg h a) (hn : zm_ln h2 a = zm_ln h a) (hat : ∀ j, zm_at h2 a j = zm_at h a j) (hq : H'[zm_ad G a]? = H[zm_ad G a]?) : zm_ce G h2 H' a := by
  refine ⟨fun hl => ?_, fun hl => ?_⟩
  · rw [ht] at hl ⊢
    obtain ⟨q, h1, h2'⟩ := hc.1 hl
    exact ⟨q, h1, (h2'.kept hq).to (fun k _ => by rw [hat])⟩
  · rw [ht] at hl ⊢
    rw [hq, hc.2 hl, hn]
    congr 2
    funext j
    rw [hat]
/-- one cell's contents have changed -/
theorem zm_wl_upd {G : zm_G} {s : State} {h h2 : zm_H} {H H' : Heap} {a : Nat} (hw : zm_wl G s h H) (ha : 0 < a) (hn : zm_nx h2 = zm_nx h) (ht : ∀ b, zm_tg h2 b = zm_tg h b) (hl : ∀ b, zm_ln h2 b = zm_ln h b) (hat : ∀ b j, b ≠ a → zm_at h2 b j = zm_at h b j) (z : H'.size = H.size) (oq : ∀ q, q ≠ zm_ad G a → H'[q]? = H[q]?) (hce : zm_ce G h2 H' a) : zm_wl G s h2 H' := by
  obtain ⟨w1, w2, w3, w4, ⟨scr, e1, e2, e3, e4, e5⟩, w6⟩ := hw
  have hne : G.2.2.2.1 ≠ zm_ad G a := by rw [zm_ad_pos ha]; omega
  refine ⟨by rw [z, hn]; exact w1, by rw [hn]; exact w2, w3, by rw [ht]; exact w4, ⟨scr, by rw [oq _ hne]; exact e1, e2, e3, by rw [hl]; exact e4, fun j hj => ?_⟩, fun b hb hb2 => ?_⟩
  · rw [hl] at hj
    rw [hat 0 j (by omega)]
    exact e5 j hj
  · by_cases hba : b = a
    · rw [hba]; exact hce
    · refine (w6 b hb (by rw [← hn]; exact hb2)).kept (ht b) (hl b) (fun j => hat b j hba) (oq _ ?_)
      rw [zm_ad_pos ha, zm_ad_pos hb]
      omega
/-- a new cell -/
theorem zm_wl_mk {G : zm_G} {s : State} {h : zm_H} {H H' : Heap} {t n : Nat} {f : Nat → Value} (hw : zm_wl G s h H) (z : H'.size = H.size + 1) (oq : ∀ q, q < H.size → H'[q]? = H[q]?) (hce : zm_ce G (zm_mk h t n f) H' (zm_nx h)) : zm_wl G s (zm_mk h t n f) H' := by
  obtain ⟨w1, w2, w3, w4, ⟨scr, e1, e2, e3, e4, e5⟩, w6⟩ := hw
  have hnx : zm_nx (zm_mk h t n f) = zm_nx h + 1 := rfl
  have old : ∀ b, b ≠ zm_nx h → zm_tg (zm_mk h t n f) b = zm_tg h b ∧ zm_ln (zm_mk h t n f) b = zm_ln h b ∧ ∀ j, zm_at (zm_mk h t n f) b j = zm_at h b j := by
    intro b hb
    have hb' : ¬ b = h.1 := hb
    simp [zm_tg, zm_ln, zm_at, zm_mk, hb']
  obtain ⟨o1, o2, o3⟩ := old 0 (by omega)
  refine ⟨by rw [z, hnx, w1]; omega, by rw [hnx]; omega, w3, by rw [o1]; exact w4, ⟨scr, by rw [oq _ (by omega)]; exact e1, e2, e3, by rw [o2]; exact e4, fun j hj => ?_⟩, fun b hb hb2 => ?_⟩
  · rw [o2] at hj
    rw [o3]
    exact e5 j hj
  · by_cases hba : b = zm_nx h
    · rw [hba]; exact hce
    · obtain ⟨p1, p2, p3⟩ := old b hba
      refine (w6 b hb (by omega)).kept p1 p2 p3 (oq _ ?_)
      rw [zm_ad_pos hb]
      omega

def zm_nf : Value → Bool
  | .float _ => false
  | _ => true
def zm_ll (G : zm_G) (ls : List Value) : List (Nat × Value) := (List.range ls.length).filterMap fun j => (ls[j]?).bind fun v => if zm_nf v = true then some (j, zm_cv G v) else none
theorem zm_ll_mem {G : zm_G} {ls : List Value} {q : Nat × Value} : q ∈ zm_ll G ls ↔ ∃ v, ls[q.1]? = some v ∧ zm_nf v = true ∧ q.2 = zm_cv G v := by
  unfold zm_ll
  constructor
  · intro hq
    obtain ⟨j, -, hj⟩ := List.mem_filterMap.mp hq
    obtain ⟨v, hv, hv2⟩ := Option.bind_eq_some_iff.mp hj
    split at hv2
    · next hf => cases hv2; exact ⟨v, hv, hf, rfl⟩
    · cases hv2
  · rintro ⟨v, hv, hf, e⟩
    refine List.mem_filterMap.mpr ⟨q.1, List.mem_range.mpr ((List.getElem?_eq_some_iff.mp hv).1), ?_⟩
    rw [hv, Option.bind_some, if_pos hf, ← e]
def zm_lr (G : zm_G) (n : Nat) (ls : List Value) (lsA : Array Slot) : Prop := ls.length = n ∧ lv_has lsA n (zm_ll G ls)
theorem zm_lr_at {G : zm_G} {n j : Nat} {ls : List Value} {lsA : Array Slot} {v : Value} (h : zm_lr G n ls lsA) (hv : ls[j]? = some v) (hf : zm_nf v = true) : lsA[j]? = some (.val (zm_cv G v)) :=
  h.2.2.2 (j, zm_cv G v) (zm_ll_mem.mpr ⟨v, hv, hf, rfl⟩)
theorem zm_cat {G : zm_G} {v : Value} (h : zm_c1 v = true) : (zm_cv G v).category = 1 := by
  cases v <;> first | rfl | (simp [zm_c1] at h)
theorem zm_lr_st1 {G : zm_G} {n j : Nat} {ls : List Value} {ls' : Array Slot} {v : Value} (hl : ls.length = n) (hn : zm_nl ls j = true) (h' : lv_has ls' n ((j, zm_cv G v) :: (zm_ll G ls).filter (fun q => !(q.1 == j) && !(q.1 + 1 == j && q.2.category == 2)))) : zm_lr G n (ls.set j v) ls' := by
  refine ⟨by rw [List.length_set]; exact hl, h'.1, h'.2.1, fun q hq => h'.2.2 q ?_⟩
  obtain ⟨w, hw, hf, e⟩ := zm_ll_mem.mp hq
  by_cases hqj : q.1 = j
  · rw [hqj] at hw
    have hlt : j < ls.length := by
      have := (List.getElem?_eq_some_iff.mp hw).1
      rwa [List.length_set] at this
    rw [List.getElem?_set_self hlt] at hw
    cases hw
    have : q = (j, zm_cv G v) := Prod.ext hqj e
    rw [this]
    exact List.mem_cons_self
  · rw [List.getElem?_set_ne (Ne.symm hqj)] at hw
    refine List.mem_cons_of_mem _ (List.mem_filter.mpr ⟨zm_ll_mem.mpr ⟨w, hw, hf, e⟩, ?_⟩)
    have h2 : ¬ (q.1 + 1 = j ∧ q.2.category = 2) := by
      rintro ⟨a1, a2⟩
      subst a1
      have hn : (match ls[q.1]? with | some v => zm_c1 v | none => true) = true := hn
      rw [hw] at hn
      rw [e, zm_cat hn] at a2
      exact absurd a2 (by decide)
    simp only [Bool.and_eq_true, Bool.not_eq_true', beq_eq_false_iff_ne, ne_eq, Bool.and_eq_false_iff]
    refine ⟨hqj, ?_⟩
    by_cases a1 : q.1 + 1 = j
    · exact Or.inr (fun a2 => h2 ⟨a1, a2⟩)
    · exact Or.inl a1
theorem zm_lr_st2 {G : zm_G} {n j : Nat} {ls : List Value} {ls' : Array Slot} {v : Value} (hl : ls.length = n) (hn : zm_nl ls j = true) (h' : lv_has ls' n ((j, zm_cv G v) :: (zm_ll G ls).filter (fun q => !(q.1 == j) && (!(q.1 == j + 1) && !(q.1 + 1 == j && q.2.category == 2))))) : zm_lr G n ((ls.set j v).set (j + 1) zm_un) ls' := by
  refine ⟨by rw [List.length_set, List.length_set]; exact hl, h'.1, h'.2.1, fun q hq => h'.2.2 q ?_⟩
  obtain ⟨w, hw, hf, e⟩ := zm_ll_mem.mp hq
  by_cases hq1 : q.1 = j + 1
  · rw [hq1] at hw
    have hlt : j + 1 < (ls.set j v).length := by
      have := (List.getElem?_eq_some_iff.mp hw).1
      rwa [List.length_set] at this
    rw [List.getElem?_set_self hlt] at hw
    cases hw
    exact absurd hf (by decide)
  · rw [List.getElem?_set_ne (Ne.symm hq1)] at hw
    by_cases hqj : q.1 = j
    · rw [hqj] at hw
      have hlt : j < ls.length := by
        have := (List.getElem?_eq_some_iff.mp hw).1
        rwa [List.length_set] at this
      rw [List.getElem?_set_self hlt] at hw
      cases hw
      have : q = (j, zm_cv G v) := Prod.ext hqj e
      rw [this]
      exact List.mem_cons_self
    · rw [List.getElem?_set_ne (Ne.symm hqj)] at hw
      refine List.mem_cons_of_mem _ (List.mem_filter.mpr ⟨zm_ll_mem.mpr ⟨w, hw, hf, e⟩, ?_⟩)
      have h2 : ¬ (q.1 + 1 = j ∧ q.2.category = 2) := by
        rintro ⟨a1, a2⟩
        subst a1
        have hn : (match ls[q.1]? with | some v => zm_c1 v | none => true) = true := hn
        rw [hw] at hn
        rw [e, zm_cat hn] at a2
        exact absurd a2 (by decide)
      simp only [Bool.and_eq_true, Bool.not_eq_true', beq_eq_false_iff_ne, ne_eq, Bool.and_eq_false_iff]
      refine ⟨hqj, hq1, ?_⟩
      by_cases a1 : q.1 + 1 = j
      · exact Or.inr (fun a2 => h2 ⟨a1, a2⟩)
      · exact Or.inl a1
