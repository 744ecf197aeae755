theorem zm_ro_of {t : Nat} (h : zm_ro t = true) : ∃ C, zt_at t = some (.object C) := by
  unfold zm_ro at h
  split at h
  · next C e => exact ⟨C, e⟩
  · cases h
theorem zm_tl {G : zm_G} {r1 : Option Value} : r1.toList.map (zm_cv G) = (r1.map (zm_cv G)).toList := by cases r1 <;> rfl
theorem zm_rfo {G : zm_G} {v : Value} (h : zm_isK 2 v = true) : ∃ o : Option Nat, zm_cv G v = va_rf o := by
  rcases zm_isK2 h with rfl | ⟨a, rfl⟩
  · exact ⟨none, rfl⟩
  · exact ⟨some (zm_ad G a), rfl⟩
theorem zm_ad_inj {G : zm_G} {s : State} {h : zm_H} {H : Heap} (hw : zm_wl G s h H) {a b : Nat} (e : zm_ad G a = zm_ad G b) : a = b := by
  have w3 := hw.2.2.1
  unfold zm_ad at e
  split at e <;> split at e <;> omega
theorem zm_rfo_eq {G : zm_G} {s : State} {h : zm_H} {H : Heap} (hw : zm_wl G s h H) {a b : Value} {ra rb : Option Nat} (ka : zm_isK 2 a = true) (kb : zm_isK 2 b = true) (ea : zm_cv G a = va_rf ra) (eb : zm_cv G b = va_rf rb) : ra = rb ↔ a = b := by
  rcases zm_isK2 ka with rfl | ⟨x, rfl⟩ <;> rcases zm_isK2 kb with rfl | ⟨y, rfl⟩ <;> cases ra <;> cases rb <;> simp only [zm_cv, va_rf] at ea eb <;> first | (cases ea; done) | (cases eb; done) | skip
  · exact ⟨fun _ => rfl, fun _ => rfl⟩
  · exact ⟨fun z => (by cases z), fun z => (by cases z)⟩
  · exact ⟨fun z => (by cases z), fun z => (by cases z)⟩
  · cases ea
    cases eb
    exact ⟨fun z => by rw [zm_ad_inj hw (Option.some.inj z)], fun z => by cases z; rfl⟩
def zm_rm (x mc ms : Nat) : Room := { frames := zt_fr x, cells := mc, slots := ms, locals := zt_lc x }
def zm_Pc (G : zm_G) (av : List Value) (h : zm_H) : Array Value → State → Prop := va_Pc (av.map (zm_cv G)) (fun U => zm_wl G U h U.heap ∧ zm_K G U)
def zm_Qc (G : zm_G) (r : Option Value) (h' : zm_H) : Array Value → State → Outcome → State → Prop := fun _ st oc t => oc = .returned (r.map (zm_cv G)) ∧ zm_wl G t h' t.heap ∧ va_F (zm_A G) st t
def zt_wsM (M : Nat) : List Jvm.Cond := Jvm.Cond.code (zt_nm M) (zt_by M) (zt_ml M) (zt_rt M) :: zt_ws
def zm_Cx (G : zm_G) (p : Program) (R : Room) (s : State) (m : MethodId) (args : Array Value) (meth : Method) (c : Code) (M : Nat) : Prop :=
  p.tables.exec = Jvm.exec ∧ c.code = zt_by M ∧ c.maxLocals = zt_ml M ∧ s.vm.findClass (zt_own M) = some m.cls ∧ (∀ w ∈ zt_ws, w.before args s = true) ∧ zm_K G s ∧ zt_fr M ≤ R.frames ∧ zt_lc M ≤ R.locals ∧ ((zt_nm M).name = "<init>" → meth.name = "<init>")
def zm_Dy (G : zm_G) (s : State) (h0 h : zm_H) (H : Heap) (locs : List Loc) (cells slots : Nat) : Prop := zm_wl G s h H ∧ va_S (zm_A G) s.heap H locs ∧ zm_nx h = zm_nx h0 + cells ∧ zm_sl h = zm_sl h0 + slots
theorem zm_fit_cv {G : zm_G} {ty : FieldType} {v : Value} (h : zm_fit ty v = true) : zm_fit ty (zm_cv G v) = true := by
  cases v <;> first | exact h | (cases ty <;> first | rfl | exact absurd h (by simp [zm_fit]))
section
variable {l : Launch} {G : zm_G} {p : Program} {e : Env} {R : Room} {s : State} {m : MethodId} {args : Array Value} {below : List Frame} {meth : Method} {c : Code} {Q : State → Prop} {M pc : Nat} {H : Heap} {locs : List Loc} {cells slots : Nat} {lsA : Array Slot} {h h0 : zm_H} {rest : List Value}
theorem zm_getf {idx x y a : Nat} (X : zm_Cx G p R s m args meth c M) (hrf : zm_rf (zt_own M) idx x y) (hi : zm_is h a x) (hw : zm_wl G s h H) (hdg : decode (zt_by M) pc = .ok (.getfield idx, 3)) (k0 : W p l e R s m args below meth c H locs cells slots Q (F0 m (pc + 3) lsA (zm_cv G (zm_at h a y) :: rest))) : W p l e R s m args below meth c H locs cells slots Q (F0 m pc lsA (.ref (zm_ad G a) :: rest)) := by
  obtain ⟨hx, hb, hml, hown, hts, hK, -, -, -⟩ := X
  obtain ⟨q, hq, hy, hlk⟩ := hrf
  obtain ⟨ha0, han, htg⟩ := hi
  obtain ⟨hx1, hin, hty, hnm⟩ := zt_cls_ok x q hq
  have hce := hw.2.2.2.2.2 a ha0 han
  obtain ⟨q', hq', cell, q1, q2, q3, q4⟩ := hce.1 (by rw [htg]; exact hx1)
  rw [htg] at hq' q4
  cases hq.symm.trans hq'
  obtain ⟨hS, hfc, kC, hkC, hkind⟩ := hK.1 x q hq
  obtain ⟨cf, kf, fi, f, hi, hsl⟩ := hS y hy
  have hst := (u_facts hfc hkC (u_lays hts hin hy) hi).1
  have hslot : cell.slots[f.slot]? = some (zm_cv G (zm_at h a y)) := by rw [hsl]; exact q4 y hy
  exact W.getf hx hb hown (hts _ hlk) hi hst q1 (by rw [q3]; exact fun z => by cases z) hslot rfl rfl hdg k0
theorem zm_putf {idx x y a : Nat} {v : Value} (X : zm_Cx G p R s m args meth c M) (hrp : zm_rp (zt_own M) (zt_nm M).name idx x y) (hi : zm_is h a x) (hfv : zm_fit (zt_ty x y) v = true) (hw : zm_wl G s h H) (hS0 : va_S (zm_A G) s.heap H locs) (hdg : decode (zt_by M) pc = .ok (.putfield idx, 3))
    (k0 : ∀ (H' : Heap) (locs' : List Loc), zm_wl G s (zm_put h a y v) H' → va_S (zm_A G) s.heap H' locs' → W p l e R s m args below meth c H' locs' cells slots Q (F0 m (pc + 3) lsA rest)) : W p l e R s m args below meth c H locs cells slots Q (F0 m pc lsA (zm_cv G v :: .ref (zm_ad G a) :: rest)) := by
  obtain ⟨hx, hb, hml, hown, hts, hK, -, -, hmn⟩ := X
  obtain ⟨q, hq, hy, hlk, hfl⟩ := hrp
  obtain ⟨ha0, han, htg⟩ := hi
  obtain ⟨hx1, hin, hty, hnm⟩ := zt_cls_ok x q hq
  have hce := hw.2.2.2.2.2 a ha0 han
  obtain ⟨q', hq', cell, q1, q2, q3, q4⟩ := hce.1 (by rw [htg]; exact hx1)
  rw [htg] at hq' q2 q4
  cases hq.symm.trans hq'
  have hap := va_apart (own := "") (D := (G.1, G.2.1)) (cl := zt_cl) (tys := []) (C := q.1) (T := q.2.1) (N := q.2.2) (ci := x) hts hin (zt_ty x) hty hnm ⟨hK.1, fun k z hz => by simp at hz⟩ hq
  obtain ⟨hS, hfc, kC, hkC, hkind⟩ := hK.1 x q hq
  obtain ⟨cf, kf, fi, f, hi, hsl⟩ := hS y hy
  have hst := (u_facts hfc hkC (u_lays hts hin hy) hi).1
  have hd := hty y hy
  obtain ⟨hn1, hf1⟩ := zm_fit_ok (zm_fit_cv (G := G) hfv)
  have hlay := hts _ (hin _ (u_in_lay hy))
  unfold u_lay at hlay
  have hlt : f.slot < cell.slots.size := by rw [hsl]; exact k2_hasslot (q4 y hy)
  have done : ∀ H' : Heap, H'[zm_ad G a]? = some (cell.setSlot f.slot (zm_cv G v)) → H'.size = H.size → (∀ q, q ≠ zm_ad G a → H'[q]? = H[q]?) → W p l e R s m args below meth c H' (locs ++ [⟨zm_ad G a, f.slot⟩]) cells slots Q (F0 m (pc + 3) lsA rest) := by
    intro H' e1 e2 e3
    refine k0 H' _ (zm_wl_upd hw ha0 rfl (fun _ => rfl) (fun _ => rfl) (fun b j hb => ?_) e2 e3 ?_) (hS0.put e2 e3 (zm_A_ad ha0))
    · show (if b = a ∧ j = y then v else zm_at h b j) = zm_at h b j
      rw [if_neg (fun z => hb z.1)]
    · refine ⟨fun _ => ⟨q, by show zt_cl[zm_tg h a]? = some q; rw [htg]; exact hq, ?_⟩, fun hl => absurd hl (by show ¬ 100 ≤ zm_tg h a; rw [htg]; omega)⟩
      show t_OB (zm_ad G a) (G.1 (zm_tg h a)) q.2.2 (G.2.1 (zm_tg h a)) H' (fun k => zm_cv G (zm_at (zm_put h a y v) a k))
      rw [htg]
      rw [hsl] at e1
      refine t_OB.to (V := updV (fun k => zm_cv G (zm_at h a k)) y (zm_cv G v)) ⟨_, e1, q2, q3, t_set q4 hap hy (zm_cv G v)⟩ (fun j _ => ?_)
      show (if j = y then zm_cv G v else zm_cv G (zm_at h a j)) = zm_cv G (if a = a ∧ j = y then v else zm_at h a j)
      by_cases hj : j = y
      · rw [if_pos hj, if_pos ⟨rfl, hj⟩]
      · rw [if_neg hj, if_neg (fun z => hj z.2)]
  rcases hfl with hfin | ⟨hfin, hin2, hdecl⟩
  · rw [if_neg (by rw [hfin]; decide)] at hlay
    exact W.putK hx hb (f := f) ⟨hown, hts _ hlk, ⟨_, _, _, hi⟩, hst⟩ (by rw [q2]; exact u_store hfc hkC hkind hlay hi hd hn1 hf1) q1 q3 hlt rfl rfl hdg done
  · rw [if_pos hfin] at hlay
    have hcf : m.cls = cf := by
      obtain ⟨_, _, c', _, _, _, -, -, hf', -, -, -, hown2, -⟩ := Cond.laysFinal_spec hlay
      have e1 : c' = cf := by have := hi.symm.trans hf'; simp at this; exact this.1.symm
      rw [hdecl] at hown2
      rw [← e1]; exact Option.some.inj (hown.symm.trans hown2)
    exact W.putFinK hx hb hown (hts _ hlk) hi hst hcf (hmn hin2) (by rw [q2]; exact u_fits hfc hkC hkind (Or.inr hlay) hi hd hn1 hf1) q1 q3 hlt rfl rfl hdg done
theorem zm_arr {a : Nat} {ty : FieldType} (hK : zm_K G s) (hw : zm_wl G s h H) (ha : a < zm_nx h) (ht : zt_at (zm_tg h a) = some ty) : ∃ cell : Cell, H[zm_ad G a]? = some cell ∧ s.isArrayOf cell ty ∧ cell.vm ≠ .unknown ∧ cell.slots.size = zm_ln h a ∧ ∀ j, j < zm_ln h a → cell.slots[j]? = some (zm_cv G (zm_at h a j)) := by
  by_cases h0 : a = 0
  · subst h0
    obtain ⟨-, -, -, w4, ⟨scr, e1, e2, e3, e4, e5⟩, -⟩ := hw
    rw [w4, zt_at_101] at ht
    cases ht
    exact ⟨scr, e1, e2, e3, e4, e5⟩
  · have hce := hw.2.2.2.2.2 a (by omega) ha
    refine ⟨_, hce.2 (zt_at_100 _ _ ht), (hK.2.1 _ _ ht).1 _ _, fun z => (by cases z), arrV_size _ _ _, fun j hj => arrV_read _ _ hj⟩
/-- a place of an array that has been written -/
theorem zm_wl_ast {a j : Nat} {v : Value} {H' : Heap} (hw : zm_wl G s h H) (ha0 : 0 < a) (han : a < zm_nx h) (ht : 100 ≤ zm_tg h a) (e1 : H'[zm_ad G a]? = some ((arrV (G.2.2.1 (zm_tg h a)) (zm_ln h a) (fun j => zm_cv G (zm_at h a j))).setSlot j (zm_cv G v))) (e2 : H'.size = H.size) (e3 : ∀ q, q ≠ zm_ad G a → H'[q]? = H[q]?) : zm_wl G s (zm_put h a j v) H' := by
  refine zm_wl_upd hw ha0 rfl (fun _ => rfl) (fun _ => rfl) (fun b i hb => ?_) e2 e3 ⟨fun hl => absurd hl (by show ¬ zm_tg h a < 100; omega), fun _ => ?_⟩
  · show (if b = a ∧ i = j then v else zm_at h b i) = zm_at h b i
    rw [if_neg (fun z => hb z.1)]
  · rw [e1, arrV_store]
    show some (arrV _ _ _) = some (arrV (G.2.2.1 (zm_tg h a)) (zm_ln h a) (fun i => zm_cv G (if a = a ∧ i = j then v else zm_at h a i)))
    congr 2
    funext i
    show (if i = j then zm_cv G v else zm_cv G (zm_at h a i)) = _
    by_cases hj : i = j
    · rw [if_pos hj, if_pos ⟨rfl, hj⟩]
    · rw [if_neg hj, if_neg (fun z => hj z.2)]
theorem zm_cv_df (ty : FieldType) : zm_cv G (defaultValue ty) = defaultValue ty := by cases ty <;> rfl
theorem zm_cv_zdf (t : Nat) : zm_cv G (zm_df t) = zm_df t := by
  unfold zm_df
  split
  · rfl
  · split <;> rfl
theorem zm_newc {idx x y : Nat} (X : zm_Cx G p R s m args meth c M) (hrs : zm_rnw (zt_own M) idx x y ∧ ∀ j, j < y → defaultValue (zt_ty x j) = zt_df x j) (hw : zm_wl G s h H) (hS0 : va_S (zm_A G) s.heap H locs) (hcells : cells + 1 ≤ R.cells) (hslots : slots + y ≤ R.slots) (hdg : decode (zt_by M) pc = .ok (.new idx, 3))
    (k0 : ∀ H' : Heap, zm_wl G s (zm_mk h x y (zt_df x)) H' → va_S (zm_A G) s.heap H' locs → W p l e R s m args below meth c H' locs (cells + 1) (slots + y) Q (F0 m (pc + 3) lsA (.ref (zm_ad G (zm_nx h)) :: rest))) : W p l e R s m args below meth c H locs cells slots Q (F0 m pc lsA rest) := by
  obtain ⟨hx, hb, hml, hown, hts, hK, -, -, hmn⟩ := X
  obtain ⟨⟨q, hq, hqy, h1, h2, h3⟩, hdf⟩ := hrs
  obtain ⟨hx1, hin, hty, hnm⟩ := zt_cls_ok x q hq
  have hKn := hK.1 x q hq
  have hnx : zm_ad G (zm_nx h) = H.size := by rw [zm_ad_pos hw.2.1]; exact hw.1.symm
  rw [hnx] at k0
  refine W.newcK hx hb hown (hts _ h1) (hts _ h2) (hts _ h3) rfl hdg hcells hslots hKn.2.1 rfl fun H' kC hkC e1 z1 o1 => ?_
  have t1 : zm_tg (zm_mk h x y (zt_df x)) (zm_nx h) = x := by simp [zm_tg, zm_mk, zm_nx]
  have t2 : ∀ j, zm_at (zm_mk h x y (zt_df x)) (zm_nx h) j = zt_df x j := fun j => by simp [zm_at, zm_mk, zm_nx]
  refine k0 H' (zm_wl_mk hw z1 o1 ⟨fun _ => ⟨q, by rw [t1]; exact hq, ?_⟩, fun hl => absurd hl (by rw [t1]; omega)⟩) ⟨Nat.le_trans hS0.1 (by omega), fun z g1 g2 => (o1 z (Nat.lt_of_lt_of_le g1 hS0.1)).trans (hS0.2.1 z g1 g2), hS0.2.2⟩
  rw [t1, hnx]
  refine (u_born (zt_ty x) hts hin hKn hkC e1 hty).to (fun j hj => ?_)
  rw [t2, ← hdf j (by omega), zm_cv_df]
theorem zm_newa {t : ArrayType} {x : Nat} {n : Int32} (X : zm_Cx G p R s m args meth c M) (hrs : 100 ≤ x ∧ x < 200 ∧ zt_at x = some (newarray.typeOf t) ∧ Jvm.Cond.arrayClass (newarray.typeOf t) ∈ zt_ws ∧ defaultValue (newarray.typeOf t) = zm_df x ∧ componentBytes (newarray.typeOf t) ≤ 8) (hn : ¬ n < 0) (hbig : n.toNatClampNeg ≤ 60000000) (hw : zm_wl G s h H) (hS0 : va_S (zm_A G) s.heap H locs) (hcells : cells + 1 ≤ R.cells) (hslots : slots + n.toNatClampNeg ≤ R.slots) (hdg : decode (zt_by M) pc = .ok (.newarray t, 2))
    (k0 : ∀ H' : Heap, zm_wl G s (zm_mk h x n.toNatClampNeg (fun _ => zm_df x)) H' → va_S (zm_A G) s.heap H' locs → W p l e R s m args below meth c H' locs (cells + 1) (slots + n.toNatClampNeg) Q (F0 m (pc + 2) lsA (.ref (zm_ad G (zm_nx h)) :: rest))) : W p l e R s m args below meth c H locs cells slots Q (F0 m pc lsA (.int n :: rest)) := by
  obtain ⟨hx, hb, hml, hown, hts, hK, -, -, hmn⟩ := X
  obtain ⟨g1, g2, g3, g4, g5, g6⟩ := hrs
  have hnx : zm_ad G (zm_nx h) = H.size := by rw [zm_ad_pos hw.2.1]; exact hw.1.symm
  rw [hnx] at k0
  refine va_newaK hx hb (hts _ g4) rfl hdg rfl hn rfl (by
    have : n.toNatClampNeg * componentBytes (newarray.typeOf t) ≤ 60000000 * 8 := Nat.mul_le_mul hbig g6
    omega) hcells hslots rfl fun H' cA e1 z1 o1 hAr hNm => ?_
  have hcA : cA = G.2.2.1 x := by
    have hRA := (hK.2.1 x _ g3).2
    have : s.vm.findClass ("[" ++ (newarray.typeOf t).toString) = some (G.2.2.1 x) := by cases t <;> exact hRA
    exact Option.some.inj (hNm.symm.trans this)
  subst hcA
  have t1 : zm_tg (zm_mk h x n.toNatClampNeg (fun _ => zm_df x)) (zm_nx h) = x := by simp [zm_tg, zm_mk, zm_nx]
  have t2 : ∀ j, zm_at (zm_mk h x n.toNatClampNeg (fun _ => zm_df x)) (zm_nx h) j = zm_df x := fun j => by simp [zm_at, zm_mk, zm_nx]
  have t3 : zm_ln (zm_mk h x n.toNatClampNeg (fun _ => zm_df x)) (zm_nx h) = n.toNatClampNeg := by simp [zm_ln, zm_mk, zm_nx]
  refine k0 H' (zm_wl_mk hw z1 o1 ⟨fun hl => absurd hl (by rw [t1]; omega), fun _ => ?_⟩) ⟨Nat.le_trans hS0.1 (by omega), fun z g1 g2 => (o1 z (Nat.lt_of_lt_of_le g1 hS0.1)).trans (hS0.2.1 z g1 g2), hS0.2.2⟩
  rw [t1, t3, hnx, e1]
  congr 2
  funext j
  rw [t2, zm_cv_zdf, g5]
theorem zm_newq {idx x : Nat} {n : Int32} (X : zm_Cx G p R s m args meth c M) (hrs : zm_ran (zt_own M) idx x) (hn : ¬ n < 0) (hbig : n.toNatClampNeg ≤ 60000000) (hw : zm_wl G s h H) (hS0 : va_S (zm_A G) s.heap H locs) (hcells : cells + 1 ≤ R.cells) (hslots : slots + n.toNatClampNeg ≤ R.slots) (hdg : decode (zt_by M) pc = .ok (.anewarray idx, 3))
    (k0 : ∀ H' : Heap, zm_wl G s (zm_mk h x n.toNatClampNeg (fun _ => zm_df x)) H' → va_S (zm_A G) s.heap H' locs → W p l e R s m args below meth c H' locs (cells + 1) (slots + n.toNatClampNeg) Q (F0 m (pc + 3) lsA (.ref (zm_ad G (zm_nx h)) :: rest))) : W p l e R s m args below meth c H locs cells slots Q (F0 m pc lsA (.int n :: rest)) := by
  obtain ⟨hx, hb, hml, hown, hts, hK, -, -, hmn⟩ := X
  obtain ⟨g1, C, g3, g4, g5⟩ := hrs
  have hnx : zm_ad G (zm_nx h) = H.size := by rw [zm_ad_pos hw.2.1]; exact hw.1.symm
  rw [hnx] at k0
  refine W.anew hx hb hown (hts _ g5) (va_AO.use (hK.2.2.1 C g4)) rfl hdg rfl hn (by omega) hcells hslots fun cA kA comp f1 f2 f3 f4 => ?_
  have hcA : cA = G.2.2.1 x := by
    obtain ⟨_, _, _, _, _, r4⟩ := (hK.2.1 x _ g3).2
    exact Option.some.inj (f1.symm.trans r4)
  subst hcA
  have t1 : zm_tg (zm_mk h x n.toNatClampNeg (fun _ => zm_df x)) (zm_nx h) = x := by simp [zm_tg, zm_mk, zm_nx]
  have t2 : ∀ j, zm_at (zm_mk h x n.toNatClampNeg (fun _ => zm_df x)) (zm_nx h) j = zm_df x := fun j => by simp [zm_at, zm_mk, zm_nx]
  have t3 : zm_ln (zm_mk h x n.toNatClampNeg (fun _ => zm_df x)) (zm_nx h) = n.toNatClampNeg := by simp [zm_ln, zm_mk, zm_nx]
  have t4 : zm_df x = .null := by unfold zm_df; rw [if_neg (by omega), if_neg (by omega)]
  have o1 : ∀ q : Nat, q < H.size → (H.push ({ cls := G.2.2.1 x, slots := Array.replicate n.toNatClampNeg .null, vm := .none } : Cell))[q]? = H[q]? := fun q hq => by rw [Array.getElem?_push, if_neg (Nat.ne_of_lt hq)]
  have z1 : (H.push ({ cls := G.2.2.1 x, slots := Array.replicate n.toNatClampNeg .null, vm := .none } : Cell)).size = H.size + 1 := by rw [Array.size_push]
  refine k0 _ (zm_wl_mk hw z1 o1 ⟨fun hl => absurd hl (by rw [t1]; omega), fun _ => ?_⟩) ⟨Nat.le_trans hS0.1 (by omega), fun z g1 g2 => (o1 z (Nat.lt_of_lt_of_le g1 hS0.1)).trans (hS0.2.1 z g1 g2), hS0.2.2⟩
  rw [t1, t3, hnx, Array.getElem?_push_size, arrV_new]
  congr 2
  funext j
  rw [t2, zm_cv_zdf, t4]
/-- behind a call -/
theorem zm_back {h1 : zm_H} {r1 : Option Value} {a : Array Value} {st0 : List Value} (hr : va_Run p l e R s m args below meth c H locs cells slots (zm_nx h1 - zm_nx h) (zm_sl h1 - zm_sl h) (F0 m pc lsA st0) rest (zm_Qc G r1 h1 a) (zm_A G)) (hd : zm_Dy G s h0 h H locs cells slots) (hm : zm_nx h ≤ zm_nx h1 ∧ zm_sl h ≤ zm_sl h1)
    (k0 : ∀ (H' : Heap) (locs' : List Loc), zm_Dy G s h0 h1 H' locs' (cells + (zm_nx h1 - zm_nx h)) (slots + (zm_sl h1 - zm_sl h)) → W p l e R s m args below meth c H' locs' (cells + (zm_nx h1 - zm_nx h)) (slots + (zm_sl h1 - zm_sl h)) Q (F0 m (pc + 3) lsA ((r1.map (zm_cv G)).toList ++ rest))) : W p l e R s m args below meth c H locs cells slots Q (F0 m pc lsA st0) := by
  intro T hT X
  obtain ⟨v, st₀, t, T', L, g0, X', hL, e1, e2, ⟨hv, hw, hF⟩, st⟩ := hr T hT X
  obtain ⟨d1, d2, d3, d4⟩ := hd
  have hv : v = r1.map (zm_cv G) := Outcome.returned.inj hv
  subst hv
  have al : t.vm.Alike s.vm := by rw [← e2]; exact X'.warmed.alike.symm
  have hw' : zm_wl G s h1 T'.heap := by rw [e1]; exact hw.moved al
  have hS' : va_S (zm_A G) s.heap T'.heap (locs ++ L) := by
    refine ⟨Nat.le_trans d2.1 (by rw [e1, ← g0]; exact hF.1), fun q g1 g2 => ?_, fun q hq => ?_⟩
    · rw [e1, hF.2 q (by rw [g0]; exact Nat.lt_of_lt_of_le g1 d2.1) g2, g0]
      exact d2.2.1 q g1 g2
    · rcases List.mem_append.mp hq with z | z
      · exact d2.2.2 q z
      · exact hL q z
  obtain ⟨t2, a1, b1⟩ := k0 T'.heap (locs ++ L) ⟨hw', hS', by omega, by omega⟩ T' rfl X'
  exact ⟨t2, st t2 a1, b1⟩
theorem zm_good {x : Nat} (hc : Jvm.Cond.code (zt_nm x) (zt_by x) (zt_ml x) (zt_rt x) ∈ zt_ws) : GoodIn zt_ws (zt_wsM x) := by
  intro w hw
  rcases List.mem_cons.mp hw with rfl | hw
  · exact ⟨hc, good_of_word rfl⟩
  · exact ⟨hw, good_of_word (List.mem_filter.mp hw).2⟩
theorem zm_blind {av : List Value} : FrameBlind (zm_Pc G av h) := fun a U g mk q => ⟨q.1, q.2.1.moved (U := U.calling g mk a) (Vm.Alike.refl U.vm), zm_K.same (U := U.calling g mk a) rfl q.2.2⟩
theorem zm_pre {av : List Value} {A0 : Array Value} (hw : zm_wl G s h H) (hK : zm_K G s) (e : A0 = (av.map (zm_cv G)).toArray) : ∀ U : State, U.heap = H → s.WarmedH U.vm → zm_Pc G av h A0 U := fun U hU hW => ⟨e, by rw [hU]; exact hw.moved hW.alike, hK.moved hW⟩
theorem zm_mid : ∀ (st : List Value) (y : Nat) (v : Value), st[y]? = some v → st = st.take y ++ v :: st.drop (y + 1)
  | [], _, _, h => by simp at h
  | a :: l, 0, v, h => by cases h; rfl
  | a :: l, y + 1, v, h => by
    have := zm_mid l y v h
    show a :: l = a :: (l.take y ++ v :: l.drop (y + 1))
    rw [← this]
theorem zm_arv {st : List Value} {y : Nat} {v : Value} (h : st[y]? = some v) : zm_ar (y + 1) st = v :: (st.take y).reverse := by
  unfold zm_ar
  have e : st.take (y + 1) = st.take y ++ [v] := by rw [List.take_succ, h]; rfl
  rw [e, List.reverse_append]
  rfl
theorem zm_sum : ∀ (t : List Value), (t.map fun v => v.category).sum ≤ 2 * t.length
  | [] => Nat.le_refl _
  | v :: t => by
    have := zm_sum t
    have h2 : v.category ≤ 2 := by rcases lv_cat v with h | h <;> omega
    simp only [List.map_cons, List.sum_cons, List.length_cons]
    omega
theorem zm_cB {idx x y mc ms : Nat} (X : zm_Cx G p R s m args meth c M) (hcd : zm_cd0 x y) (hroom : zt_fr x + 1 ≤ zt_fr M ∧ 8 + (zt_ml x + 11) + zt_lc x ≤ zt_lc M) (hl : Jvm.Cond.methodLink (zt_own M) idx (zt_nm x) ∈ zt_ws) : CallB R s args (zt_own M) idx (zt_nm x) (zt_by x) (zt_ml x) (zt_rt x) (zt_wsM x) (zm_rm x mc ms) mc ms y := by
  obtain ⟨hx, hb, hml, hown, hts, hK, hfr, hlo, hmn⟩ := X
  obtain ⟨c1, c2, c3, c4, c5⟩ := hcd
  refine ⟨rfl, rfl, Nat.le_trans hroom.1 hfr, Nat.le_trans hroom.2 hlo, pay_in hts (zm_good c1), List.mem_cons_self, hts _ c1, hts _ c2, c4, fun sig h => ?_, hts _ hl⟩
  rw [h] at c5
  exact (Option.some.inj c5).symm
theorem zm_cN {idx x y mc ms : Nat} {host : String} (X : zm_Cx G p R s m args meth c M) (hcd : zm_cd0 x y) (hroom : zt_fr x + 1 ≤ zt_fr M ∧ 8 + (zt_ml x + 11) + zt_lc x ≤ zt_lc M) (hl : (zt_own M, idx, zt_nm x, host) ∈ zt_nm2) : va_CN R s args (zt_own M) idx (zt_nm x) host (zt_by x) (zt_ml x) (zt_rt x) (zt_wsM x) (zm_rm x mc ms) mc ms y := by
  obtain ⟨hx, hb, hml, hown, hts, hK, hfr, hlo, hmn⟩ := X
  obtain ⟨c1, c2, c3, c4, c5⟩ := hcd
  refine ⟨⟨rfl, rfl, Nat.le_trans hroom.1 hfr, Nat.le_trans hroom.2 hlo, pay_in hts (zm_good c1), List.mem_cons_self⟩, hts _ c1, hts _ c2, c4, fun sig h => ?_, va_Nw.use rfl (hK.2.2.2 _ hl)⟩
  rw [h] at c5
  exact (Option.some.inj c5).symm
variable {st : List Value} {r1 : Option Value} {h1 : zm_H}
theorem zm_cS {idx x y mc ms : Nat} (X : zm_Cx G p R s m args meth c M) (hcd : zm_cd0 x y) (hroom : zt_fr x + 1 ≤ zt_fr M ∧ 8 + (zt_ml x + 11) + zt_lc x ≤ zt_lc M) (hlk : zm_lk (zt_own M) idx x) (hstt : Jvm.Cond.static (zt_nm x) ∈ zt_ws) (hM : Met l (zt_nm x) (zt_wsM x) (zm_rm x mc ms) (zm_Pc G (zm_ar y st) h) (zm_Qc G r1 h1) mc ms (zm_A G)) (hw : zm_wl G s h H) (hlen : y ≤ st.length) (h4 : (st.drop y).length ≤ 4) (hsz : lsA.size = zt_ml M) (hdg : decode (zt_by M) pc = .ok (.invokestatic idx, 3)) (hf : cells + mc ≤ R.cells ∧ slots + ms ≤ R.slots) :
    va_Run p l e R s m args below meth c H locs cells slots mc ms (F0 m pc lsA (st.map (zm_cv G))) ((st.drop y).map (zm_cv G)) (zm_Qc G r1 h1 ((zm_ar y st).map (zm_cv G)).toArray) (zm_A G) := by
  have X0 := X
  obtain ⟨hx, hb, hml, hown, hts, hK, hfr, hlo, hmn⟩ := X
  have hn : ((zm_ar y st).map (zm_cv G)).length = y := by simp [zm_ar]; omega
  have hstk : (F0 m pc lsA (st.map (zm_cv G))).stack = ((zm_ar y st).map (zm_cv G)).reverse ++ (st.drop y).map (zm_cv G) := by
    show st.map (zm_cv G) = _
    rw [zm_ar, ← List.map_reverse, List.reverse_reverse, ← List.map_append, List.take_append_drop]
  have hrm : 2 * (F0 m pc lsA (st.map (zm_cv G))).monitorRoom + (((st.drop y).map (zm_cv G)).map fun v => v.category).sum ≤ 8 := lv_room (Nat.le_trans (zm_sum _) (by rw [List.length_map]; omega))
  rcases hlk with hlk | ⟨host, hlk⟩
  · exact va_runS ⟨hx, hb, hml, hown, hts⟩ hM ⟨zm_cB X0 hcd hroom hlk, hts _ hstt⟩ ⟨zm_blind, zm_pre hw hK rfl⟩ rfl hn hsz hstk hrm hdg hf
  · exact va_runSN ⟨hx, hb, hml, hown, hts⟩ hM ⟨zm_cN X0 hcd hroom hlk, hts _ hstt, trivial⟩ ⟨zm_blind, zm_pre hw hK rfl⟩ rfl hn hsz hstk hrm hdg hf
theorem zm_cI {idx x y mc ms a : Nat} (X : zm_Cx G p R s m args meth c M) (hcd : zm_cd0 x y) (hroom : zt_fr x + 1 ≤ zt_fr M ∧ 8 + (zt_ml x + 11) + zt_lc x ≤ zt_lc M) (hlk : zm_lk (zt_own M) idx x) (hin : Jvm.Cond.instanceMethod (zt_nm x) ∈ zt_ws) (hy1 : (zt_nm x).name = "<init>") (hrt : zt_rt x = none) (ha : st[y]? = some (.ref a)) (hM : Met l (zt_nm x) (zt_wsM x) (zm_rm x mc ms) (zm_Pc G (zm_ar (y + 1) st) h) (zm_Qc G r1 h1) mc ms (zm_A G)) (hw : zm_wl G s h H) (h4 : (st.drop (y + 1)).length ≤ 4) (hsz : lsA.size = zt_ml M) (hdg : decode (zt_by M) pc = .ok (.invokespecial idx, 3)) (hf : cells + mc ≤ R.cells ∧ slots + ms ≤ R.slots) :
    va_Run p l e R s m args below meth c H locs cells slots mc ms (F0 m pc lsA (st.map (zm_cv G))) ((st.drop (y + 1)).map (zm_cv G)) (zm_Qc G r1 h1 (.ref (zm_ad G a) :: ((st.take y).reverse.map (zm_cv G))).toArray) (zm_A G) := by
  have X0 := X
  obtain ⟨hx, hb, hml, hown, hts, hK, hfr, hlo, hmn⟩ := X
  have hlt : y < st.length := (List.getElem?_eq_some_iff.mp ha).1
  have hn : ((st.take y).reverse.map (zm_cv G)).length = y := by simp; omega
  have hstk : (F0 m pc lsA (st.map (zm_cv G))).stack = ((st.take y).reverse.map (zm_cv G)).reverse ++ .ref (zm_ad G a) :: (st.drop (y + 1)).map (zm_cv G) := by
    show st.map (zm_cv G) = _
    conv => lhs; rw [zm_mid st y _ ha]
    rw [← List.map_reverse, List.reverse_reverse, List.map_append]
    rfl
  have hrm : 2 * (F0 m pc lsA (st.map (zm_cv G))).monitorRoom + (((st.drop (y + 1)).map (zm_cv G)).map fun v => v.category).sum ≤ 8 := lv_room (Nat.le_trans (zm_sum _) (by rw [List.length_map]; omega))
  have hpre : (Value.ref (zm_ad G a) :: ((st.take y).reverse.map (zm_cv G))).toArray = ((zm_ar (y + 1) st).map (zm_cv G)).toArray := by rw [zm_arv ha]; rfl
  have cB := fun hlk => zm_cB (mc := mc) (ms := ms) (idx := idx) X0 hcd hroom hlk
  have cN := fun host hlk => zm_cN (mc := mc) (ms := ms) (host := host) (idx := idx) X0 hcd hroom hlk
  rw [hrt] at cB cN
  rcases hlk with hlk | ⟨host, hlk⟩
  · exact va_runI ⟨hx, hb, hml, hown, hts⟩ hM ⟨cB hlk, hy1, hts _ hin⟩ ⟨zm_blind, zm_pre hw hK hpre⟩ rfl hn hsz hstk hrm hdg hf
  · exact va_runIN ⟨hx, hb, hml, hown, hts⟩ hM ⟨cN host hlk, hy1, hts _ hin⟩ ⟨zm_blind, zm_pre hw hK hpre⟩ rfl hn hsz hstk hrm hdg hf
theorem zm_cV {idx x y mc ms a : Nat} (X : zm_Cx G p R s m args meth c M) (hcd : zm_cd0 x y) (hroom : zt_fr x + 1 ≤ zt_fr M ∧ 8 + (zt_ml x + 11) + zt_lc x ≤ zt_lc M) (hlk : zm_lk (zt_own M) idx x) (hin : Jvm.Cond.instanceMethod (zt_nm x) ∈ zt_ws) (hse : Jvm.Cond.selects (zt_own x) (zt_nm x) (zt_nm x) ∈ zt_ws) (hmc : ∃ q : vw_C, zt_cl[zt_mc x]? = some q ∧ q.1 = zt_own x) (ha : st[y]? = some (.ref a)) (hia : zm_is h a (zt_mc x)) (hM : Met l (zt_nm x) (zt_wsM x) (zm_rm x mc ms) (zm_Pc G (zm_ar (y + 1) st) h) (zm_Qc G r1 h1) mc ms (zm_A G)) (hw : zm_wl G s h H) (h4 : (st.drop (y + 1)).length ≤ 4) (hsz : lsA.size = zt_ml M) (hdg : decode (zt_by M) pc = .ok (.invokevirtual idx, 3)) (hf : cells + mc ≤ R.cells ∧ slots + ms ≤ R.slots) :
    va_Run p l e R s m args below meth c H locs cells slots mc ms (F0 m pc lsA (st.map (zm_cv G))) ((st.drop (y + 1)).map (zm_cv G)) (zm_Qc G r1 h1 (.ref (zm_ad G a) :: ((st.take y).reverse.map (zm_cv G))).toArray) (zm_A G) := by
  have X0 := X
  obtain ⟨hx, hb, hml, hown, hts, hK, hfr, hlo, hmn⟩ := X
  have hlt : y < st.length := (List.getElem?_eq_some_iff.mp ha).1
  have hn : ((st.take y).reverse.map (zm_cv G)).length = y := by simp; omega
  have hstk : (F0 m pc lsA (st.map (zm_cv G))).stack = ((st.take y).reverse.map (zm_cv G)).reverse ++ .ref (zm_ad G a) :: (st.drop (y + 1)).map (zm_cv G) := by
    show st.map (zm_cv G) = _
    conv => lhs; rw [zm_mid st y _ ha]
    rw [← List.map_reverse, List.reverse_reverse, List.map_append]
    rfl
  have hrm : 2 * (F0 m pc lsA (st.map (zm_cv G))).monitorRoom + (((st.drop (y + 1)).map (zm_cv G)).map fun v => v.category).sum ≤ 8 := lv_room (Nat.le_trans (zm_sum _) (by rw [List.length_map]; omega))
  have hpre : (Value.ref (zm_ad G a) :: ((st.take y).reverse.map (zm_cv G))).toArray = ((zm_ar (y + 1) st).map (zm_cv G)).toArray := by rw [zm_arv ha]; rfl
  obtain ⟨q, hq, hqn⟩ := hmc
  obtain ⟨i1, i2, i3⟩ := hia
  have hrecv : ∃ cellB : Cell, H[zm_ad G a]? = some cellB ∧ cellB.vm.isStatics = false ∧ s.vm.findClass (zt_own x) = some cellB.cls := by
    obtain ⟨q', hq', cell, q1, q2, q3, -⟩ := (hw.2.2.2.2.2 a i1 i2).1 (by rw [i3]; exact (zt_cls_ok _ q hq).1)
    rw [i3] at q2
    exact ⟨cell, q1, by rw [q3]; rfl, by rw [q2, ← hqn]; exact (hK.1 _ q hq).2.1⟩
  rcases hlk with hlk | ⟨host, hlk⟩
  · exact va_runV ⟨hx, hb, hml, hown, hts⟩ hM ⟨zm_cB X0 hcd hroom hlk, hts _ hin, hts _ hse⟩ ⟨zm_blind, hrecv, zm_pre hw hK hpre⟩ rfl hn hsz hstk hrm hdg hf
  · exact va_runVN ⟨hx, hb, hml, hown, hts⟩ hM ⟨zm_cN X0 hcd hroom hlk, hts _ hin, hts _ hse⟩ ⟨zm_blind, hrecv, zm_pre hw hK hpre⟩ rfl hn hsz hstk hrm hdg hf
end
section
variable {l : Launch} {G : zm_G} {p : Program} {e : Env} {R : Room} {s : State} {m : MethodId} {args : Array Value} {below : List Frame} {meth : Method} {c : Code} {Q : State → Prop} {M pc : Nat} {H : Heap} {locs : List Loc} {cells slots : Nat} {lsA : Array Slot} {h h0 h' : zm_H} {rest : List Value}
theorem zm_nn {z : Int32} (hz : ¬ z < 0) : z.toInt = (z.toNatClampNeg : Int) := by
  have hz0 : (0 : Int) ≤ z.toInt := by
    have := Int32.not_lt.mp hz
    simpa using Int32.le_iff_toInt_le.mp this
  show z.toInt = ((z.toInt.toNat : Nat) : Int)
  omega
theorem zm_copy {idx a b : Nat} {sp dp n : Int32} (X : zm_Cx G p R s m args meth c M) (hl1 : Jvm.Cond.methodLink (zt_own M) idx arraycopyName ∈ zt_ws) (hl2 : Jvm.Cond.native arraycopyName ∈ zt_ws) (hl3 : Jvm.Cond.static arraycopyName ∈ zt_ws) (hl4 : Jvm.Cond.initialized "java/lang/System" ∈ zt_ws)
    (hia : zm_is h a 100) (hib : zm_is h b 100) (hro : 1 ≤ zt_fr M ∧ 26 ≤ zt_lc M) (h1 : ¬ sp < 0) (h2 : ¬ dp < 0) (h3 : ¬ n < 0) (h4 : sp.toNatClampNeg + n.toNatClampNeg ≤ zm_ln h a) (h5 : dp.toNatClampNeg + n.toNatClampNeg ≤ zm_ln h b) (hfv : ∀ i, i < n.toNatClampNeg → zm_fit .byte (zm_at h a (sp.toNatClampNeg + i)) = true)
    (hw : zm_wl G s h H) (hS : va_S (zm_A G) s.heap H locs) (hsz : lsA.size = zt_ml M) (hr : rest.length ≤ 4) (hdg : decode (zt_by M) pc = .ok (.invokestatic idx, 3))
    (k0 : ∀ (H' : Heap) (locs' : List Loc), zm_wl G s (zm_cp h a sp.toNatClampNeg b dp.toNatClampNeg n.toNatClampNeg) H' → va_S (zm_A G) s.heap H' locs' → W p l e R s m args below meth c H' locs' cells slots Q (F0 m (pc + 3) lsA rest)) : W p l e R s m args below meth c H locs cells slots Q (F0 m pc lsA (.int n :: .int dp :: .ref (zm_ad G b) :: .int sp :: .ref (zm_ad G a) :: rest)) := by
  obtain ⟨hx, hb, hml, hown, hts, hK, hfr, hlo, hmn⟩ := X
  obtain ⟨a1, a2, a3⟩ := hia
  obtain ⟨b1, b2, b3⟩ := hib
  have hca := (hw.2.2.2.2.2 a a1 a2).2 (by omega)
  have hcb := (hw.2.2.2.2.2 b b1 b2).2 (by omega)
  rw [a3] at hca
  rw [b3] at hcb
  obtain ⟨-, k0', hk0, cm0, hkk0⟩ := (hK.2.1 100 .byte zt_at_b).1 (zm_ln h a) (fun j => zm_cv G (zm_at h a j))
  have hsum : (rest.map fun v => v.category).sum ≤ 8 := Nat.le_trans (zm_sum _) (by omega)
  intro T hT XT
  obtain ⟨vm', X', step⟩ := XT.arraycopy hx hown (hts _ hl1) (hts _ hl2) (hts _ hl3) (hts _ hl4) (src := zm_ad G a) (dst := zm_ad G b) (cs := arrV (G.2.2.1 100) (zm_ln h a) (fun j => zm_cv G (zm_at h a j))) (cd := arrV (G.2.2.1 100) (zm_ln h b) (fun j => zm_cv G (zm_at h b j))) (srcPos := sp) (destPos := dp) (n := n) (by rw [hT]; exact hca) (by rw [hT]; exact hcb)
    (fun _ z => by cases z) (fun _ z => by cases z) (fun z => by cases z) (fun z => by cases z) hk0 hk0 hkk0 hkk0 (by decide) h1 h2 h3
    (by rw [zm_nn h1, zm_nn h3, arrV_size]; omega)
    (by rw [zm_nn h2, zm_nn h3, arrV_size]; omega)
    (fun vm₁ _ i hi => by
      have e : (arrV (G.2.2.1 100) (zm_ln h a) (fun j => zm_cv G (zm_at h a j))).slots.getD (sp.toNatClampNeg + i) .null = zm_cv G (zm_at h a (sp.toNatClampNeg + i)) := by
        rw [Array.getD_eq_getD_getElem?, arrV_read _ _ (by omega)]
        rfl
      have hfi := hfv i hi
      refine ⟨by rw [e]; exact (zm_fit_ok (zm_fit_cv hfi)).2, ?_⟩
      rw [e]
      cases hz : zm_at h a (sp.toNatClampNeg + i) with
      | int z => exact trivial
      | _ => rw [hz] at hfi; simp [zm_fit] at hfi)
    (g := F0 m pc lsA (.int n :: .int dp :: .ref (zm_ad G b) :: .int sp :: .ref (zm_ad G a) :: rest)) rfl (by rw [hml]; exact hsz) (rest := rest) rfl (by rw [hb]; exact hdg) (by omega) (by
      have : nativeFrameWords "java/lang/System" "arraycopy" 5 + 11 = 18 := by decide
      show 2 * 0 + _ + _ ≤ _
      omega)
  have e1 : copied (arrV (G.2.2.1 100) (zm_ln h a) (fun j => zm_cv G (zm_at h a j))) (arrV (G.2.2.1 100) (zm_ln h b) (fun j => zm_cv G (zm_at h b j))) sp dp n = arrV (G.2.2.1 100) (zm_ln h b) (fun j => zm_cv G (va_cpy (zm_at h a) (zm_at h b) sp.toNatClampNeg dp.toNatClampNeg n.toNatClampNeg j)) := va_copied (zm_cv G) _ _ (zm_at h a) (zm_at h b) h4
  rw [e1] at X' step
  have hlt : zm_ad G b < H.size := (Array.getElem?_eq_some_iff.mp hcb).1
  generalize hcell : arrV (G.2.2.1 100) (zm_ln h b) (fun j => zm_cv G (va_cpy (zm_at h a) (zm_at h b) sp.toNatClampNeg dp.toNatClampNeg n.toNatClampNeg j)) = cell1 at X' step
  have hheap : ((T.setVm vm').setCell (zm_ad G b) cell1).heap = H.setIfInBounds (zm_ad G b) cell1 := by rw [← hT]; rfl
  have oq : ∀ q : Nat, q ≠ zm_ad G b → (H.setIfInBounds (zm_ad G b) cell1)[q]? = H[q]? := fun q hq => by simp [Array.getElem?_setIfInBounds, Ne.symm hq]
  have e5 : (H.setIfInBounds (zm_ad G b) cell1)[zm_ad G b]? = some cell1 := by simp [Array.getElem?_setIfInBounds, hlt]
  have z5 : (H.setIfInBounds (zm_ad G b) cell1).size = H.size := by simp
  obtain ⟨t, q1, q2⟩ := k0 (H.setIfInBounds (zm_ad G b) cell1) (locs ++ ((arrV (G.2.2.1 100) (zm_ln h a) (fun j => zm_cv G (zm_at h a j))).stretch sp.toNatClampNeg n.toNatClampNeg).zipIdx.map fun q => ⟨zm_ad G b, dp.toNatClampNeg + q.2⟩)
    (zm_wl_upd hw b1 rfl (fun _ => rfl) (fun _ => rfl) (fun b' j hb' => by
        show (if b' = b ∧ _ ∧ _ then _ else zm_at h b' j) = zm_at h b' j
        rw [if_neg (fun z => hb' z.1)]) z5 oq
      ⟨fun hl => absurd hl (by show ¬ zm_tg h b < 100; omega), fun _ => by
        show _ = some (arrV (G.2.2.1 (zm_tg h b)) (zm_ln h b) (fun j => zm_cv G (if b = b ∧ dp.toNatClampNeg ≤ j ∧ j < dp.toNatClampNeg + n.toNatClampNeg then zm_at h a (sp.toNatClampNeg + (j - dp.toNatClampNeg)) else zm_at h b j)))
        rw [e5, ← hcell, b3]
        congr 2
        funext j
        congr 1
        show (if dp.toNatClampNeg ≤ j ∧ j < dp.toNatClampNeg + n.toNatClampNeg then zm_at h a (sp.toNatClampNeg + (j - dp.toNatClampNeg)) else zm_at h b j) = _
        by_cases hj : dp.toNatClampNeg ≤ j ∧ j < dp.toNatClampNeg + n.toNatClampNeg
        · rw [if_pos hj, if_pos ⟨rfl, hj⟩]
        · rw [if_neg hj, if_neg (fun z => hj z.2)]⟩)
    ⟨by rw [z5]; exact hS.1, fun q g1 g2 => by
      rw [oq q (fun z => g2 (by rw [z]; exact zm_A_ad b1))]
      exact hS.2.1 q g1 g2, fun q hq => by
      rcases List.mem_append.mp hq with z | z
      · exact hS.2.2 q z
      · obtain ⟨w, -, hz⟩ := List.mem_map.mp z
        rw [← hz]
        exact zm_A_ad b1⟩ _ hheap X'
  exact ⟨t, step t q1, q2⟩
variable {C : Nat → List Value → zm_H → Option Value → zm_H → Prop} {k : Nat → List Value → List Value → zm_H → Prop} {r : Option Value}
set_option maxHeartbeats 4000000 in
theorem zm_step (X : zm_Cx G p R s m args meth c M) (hR : zm_nx h' ≤ zm_nx h0 + R.cells ∧ zm_sl h' ≤ zm_sl h0 + R.slots)
    (hm : ∀ pc ls st h, k pc ls st h → zm_nx h ≤ zm_nx h' ∧ zm_sl h ≤ zm_sl h')
    (hC : ∀ x a h r1 h1, C x a h r1 h1 → (zm_nx h ≤ zm_nx h1 ∧ zm_sl h ≤ zm_sl h1) ∧ Met l (zt_nm x) (zt_wsM x) (zm_rm x (zm_nx h1 - zm_nx h) (zm_sl h1 - zm_sl h)) (zm_Pc G a h) (zm_Qc G r1 h1) (zm_nx h1 - zm_nx h) (zm_sl h1 - zm_sl h) (zm_A G))
    (hend : ∀ (i : Instr) (pc : Nat) (st : List Value) (h : zm_H) (lsA : Array Slot) (H : Heap) (locs : List Loc) (cells slots : Nat), (i = .ireturn ∨ i = .areturn ∨ i = .return_) → (∀ np x y sw ls, zm_ex C k np x y sw ls st h (zt_rt M) r h' i) → decode (zt_by M) pc = .ok (i, 1) → zm_Dy G s h0 h H locs cells slots → W p l e R s m args below meth c H locs cells slots Q (F0 m pc lsA (st.map (zm_cv G))))
    (kk : ∀ (pc : Nat) (ls st : List Value) (h : zm_H) (lsA : Array Slot) (H : Heap) (locs : List Loc) (cells slots : Nat), k pc ls st h → zm_lr G (zt_ml M) ls lsA → zm_Dy G s h0 h H locs cells slots → W p l e R s m args below meth c H locs cells slots Q (F0 m pc lsA (st.map (zm_cv G))))
    {i : Instr} {np x y : Nat} {sw : List (Int × Nat)} (ok : zm_ok M pc (i, np, x, y, sw)) {ls st : List Value} (hx : zm_ex C k np x y sw ls st h (zt_rt M) r h' i) (hl : zm_lr G (zt_ml M) ls lsA) (hd : zm_Dy G s h0 h H locs cells slots) :
    W p l e R s m args below meth c H locs cells slots Q (F0 m pc lsA (st.map (zm_cv G))) := by
  obtain ⟨⟨len, hdg, hlen⟩, hrs⟩ := ok
  dsimp only at hdg hlen hrs
  have X0 := X
  obtain ⟨hX, hB, hml, hown, hts, hK, hfr, hlo, hmn⟩ := X
  have hd0 := hd
  obtain ⟨hw, hS, hc1, hc2⟩ := hd
  have hsz : lsA.size = zt_ml M := hl.2.1
  cases i with
  | iconst v =>
    obtain ⟨rfl, rfl⟩ := hlen rfl
    exact lv_iconst hX hB hdg rfl (kk _ _ _ _ _ _ _ _ _ hx hl hd0)
  | bipush v =>
    obtain ⟨rfl, rfl⟩ := hlen rfl
    exact lv_bipush hX hB hdg rfl (kk _ _ _ _ _ _ _ _ _ hx hl hd0)
  | sipush v =>
    obtain ⟨rfl, rfl⟩ := hlen rfl
    exact lv_sipush hX hB hdg rfl (kk _ _ _ _ _ _ _ _ _ hx hl hd0)
  | lconst v =>
    obtain ⟨rfl, rfl⟩ := hlen rfl
    exact lv_lconst hX hB hdg rfl (kk _ _ _ _ _ _ _ _ _ hx hl hd0)
  | ldc idx =>
    obtain ⟨rfl, rfl⟩ := hlen rfl
    obtain ⟨v, n, rfl, hc⟩ := hrs
    exact W.ldc hX hB hown (hts _ hc) rfl hdg (kk _ _ _ _ _ _ _ _ _ hx hl hd0)
  | ldc2_w idx =>
    obtain ⟨rfl, rfl⟩ := hlen rfl
    obtain ⟨v, n, rfl, hc⟩ := hrs
    exact W.ldc2 hX hB hown (hts _ hc) rfl hdg (kk _ _ _ _ _ _ _ _ _ hx hl hd0)
  | aconst_null =>
    obtain ⟨rfl, rfl⟩ := hlen rfl
    exact lv_null hX hB hdg (kk _ _ _ _ _ _ _ _ _ hx hl hd0)
  | iload j =>
    obtain ⟨rfl, rfl⟩ := hlen rfl
    refine zm_ld_el hx (fun v hv hk q => ?_)
    obtain ⟨z, rfl⟩ := zm_isK0 hk
    exact lv_iload hX hB hdg (zm_lr_at hl hv rfl) (kk _ _ _ _ _ _ _ _ _ q hl hd0)
  | iload_n j =>
    obtain ⟨rfl, rfl⟩ := hlen rfl
    refine zm_ld_el hx (fun v hv hk q => ?_)
    obtain ⟨z, rfl⟩ := zm_isK0 hk
    exact lv_iload_n hX hB hdg rfl (zm_lr_at hl hv rfl) (kk _ _ _ _ _ _ _ _ _ q hl hd0)
  | lload j =>
    obtain ⟨rfl, rfl⟩ := hlen rfl
    refine zm_ld_el hx (fun v hv hk q => ?_)
    obtain ⟨z, rfl⟩ := zm_isK1 hk
    exact lv_lload hX hB hdg (zm_lr_at hl hv rfl) (kk _ _ _ _ _ _ _ _ _ q hl hd0)
  | lload_n j =>
    obtain ⟨rfl, rfl⟩ := hlen rfl
    refine zm_ld_el hx (fun v hv hk q => ?_)
    obtain ⟨z, rfl⟩ := zm_isK1 hk
    exact lv_lload_n hX hB hdg rfl (zm_lr_at hl hv rfl) (kk _ _ _ _ _ _ _ _ _ q hl hd0)
  | aload j =>
    obtain ⟨rfl, rfl⟩ := hlen rfl
    refine zm_ld_el hx (fun v hv hk q => ?_)
    rcases zm_isK2 hk with rfl | ⟨z, rfl⟩
    · exact lv_aloadN hX hB hdg (zm_lr_at hl hv rfl) (kk _ _ _ _ _ _ _ _ _ q hl hd0)
    · exact lv_aload hX hB hdg (zm_lr_at hl hv rfl) (kk _ _ _ _ _ _ _ _ _ q hl hd0)
  | aload_n j =>
    obtain ⟨rfl, rfl⟩ := hlen rfl
    refine zm_ld_el hx (fun v hv hk q => ?_)
    rcases zm_isK2 hk with rfl | ⟨z, rfl⟩
    · exact lv_aload_nN hX hB hdg rfl (zm_lr_at hl hv rfl) (kk _ _ _ _ _ _ _ _ _ q hl hd0)
    · exact lv_aload_n hX hB hdg rfl (zm_lr_at hl hv rfl) (kk _ _ _ _ _ _ _ _ _ q hl hd0)
  | istore j =>
    obtain ⟨rfl, rfl⟩ := hlen rfl
    simp only [zm_ex] at hx
    refine zm_sto_el hx (fun v t e1 hk hj hn q => ?_)
    subst e1
    obtain ⟨z, rfl⟩ := zm_isK0 hk
    exact lv_istore hX hB hdg hl.2 (by rw [← hl.1]; exact hj) rfl (fun ls' h' => kk _ _ _ _ _ _ _ _ _ q (zm_lr_st1 hl.1 hn h') hd0)
  | istore_n j =>
    obtain ⟨rfl, rfl⟩ := hlen rfl
    simp only [zm_ex] at hx
    refine zm_sto_el hx (fun v t e1 hk hj hn q => ?_)
    subst e1
    obtain ⟨z, rfl⟩ := zm_isK0 hk
    exact lv_istore_n hX hB hdg rfl hl.2 (by rw [← hl.1]; exact hj) rfl (fun ls' h' => kk _ _ _ _ _ _ _ _ _ q (zm_lr_st1 hl.1 hn h') hd0)
  | astore j =>
    obtain ⟨rfl, rfl⟩ := hlen rfl
    simp only [zm_ex] at hx
    refine zm_sto_el hx (fun v t e1 hk hj hn q => ?_)
    subst e1
    rcases zm_isK2 hk with rfl | ⟨z, rfl⟩
    · exact lv_astoreN hX hB hdg hl.2 (by rw [← hl.1]; exact hj) rfl (fun ls' h' => kk _ _ _ _ _ _ _ _ _ q (zm_lr_st1 hl.1 hn h') hd0)
    · exact lv_astore hX hB hdg hl.2 (by rw [← hl.1]; exact hj) rfl (fun ls' h' => kk _ _ _ _ _ _ _ _ _ q (zm_lr_st1 hl.1 hn h') hd0)
  | astore_n j =>
    obtain ⟨rfl, rfl⟩ := hlen rfl
    simp only [zm_ex] at hx
    refine zm_sto_el hx (fun v t e1 hk hj hn q => ?_)
    subst e1
    rcases zm_isK2 hk with rfl | ⟨z, rfl⟩
    · exact lv_astore_nN hX hB hdg rfl hl.2 (by rw [← hl.1]; exact hj) rfl (fun ls' h' => kk _ _ _ _ _ _ _ _ _ q (zm_lr_st1 hl.1 hn h') hd0)
    · exact lv_astore_n hX hB hdg rfl hl.2 (by rw [← hl.1]; exact hj) rfl (fun ls' h' => kk _ _ _ _ _ _ _ _ _ q (zm_lr_st1 hl.1 hn h') hd0)
  | lstore j =>
    obtain ⟨rfl, rfl⟩ := hlen rfl
    simp only [zm_ex] at hx
    refine zm_stoL_el hx (fun v t e1 hk hj hn q => ?_)
    subst e1
    obtain ⟨z, rfl⟩ := zm_isK1 hk
    exact lv_lstore hX hB hdg hl.2 (by rw [← hl.1]; exact hj) rfl (fun ls' h' => kk _ _ _ _ _ _ _ _ _ q (zm_lr_st2 hl.1 hn h') hd0)
  | lstore_n j =>
    obtain ⟨rfl, rfl⟩ := hlen rfl
    simp only [zm_ex] at hx
    refine zm_stoL_el hx (fun v t e1 hk hj hn q => ?_)
    subst e1
    obtain ⟨z, rfl⟩ := zm_isK1 hk
    exact lv_lstore_n hX hB hdg rfl hl.2 (by rw [← hl.1]; exact hj) rfl (fun ls' h' => kk _ _ _ _ _ _ _ _ _ q (zm_lr_st2 hl.1 hn h') hd0)
  | iinc j n =>
    obtain ⟨rfl, rfl⟩ := hlen rfl
    refine zm_ld_el hx (fun v hv hk q => ?_)
    obtain ⟨z, rfl⟩ := zm_isK0 hk
    obtain ⟨hj, hn, q⟩ := q
    obtain ⟨k1, hk1⟩ := List.getElem?_of_mem (zm_ll_mem.mpr ⟨_, hv, rfl, rfl⟩ : (j, zm_cv G (.int z)) ∈ zm_ll G ls)
    exact lv_iinc hX hB hdg hl.2 hk1 rfl (by rw [← hl.1]; exact hj) rfl (fun ls' h' => kk _ _ _ _ _ _ _ _ _ q (zm_lr_st1 (v := .int (z + Int32.ofInt n)) hl.1 hn h') hd0)
  | iadd =>
    obtain ⟨rfl, rfl⟩ := hlen rfl
    simp only [zm_ex] at hx
    refine zm_s2_el hx (fun a b t e1 q => ?_)
    subst e1
    exact lv_iadd hX hB hdg (kk _ _ _ _ _ _ _ _ _ q hl hd0)
  | isub =>
    obtain ⟨rfl, rfl⟩ := hlen rfl
    simp only [zm_ex] at hx
    refine zm_s2_el hx (fun a b t e1 q => ?_)
    subst e1
    exact lv_isub hX hB hdg (kk _ _ _ _ _ _ _ _ _ q hl hd0)
  | imul =>
    obtain ⟨rfl, rfl⟩ := hlen rfl
    simp only [zm_ex] at hx
    refine zm_s2_el hx (fun a b t e1 q => ?_)
    subst e1
    exact lv_imul hX hB hdg (kk _ _ _ _ _ _ _ _ _ q hl hd0)
  | iand =>
    obtain ⟨rfl, rfl⟩ := hlen rfl
    simp only [zm_ex] at hx
    refine zm_s2_el hx (fun a b t e1 q => ?_)
    subst e1
    exact lv_iand hX hB hdg (kk _ _ _ _ _ _ _ _ _ q hl hd0)
  | ior =>
    obtain ⟨rfl, rfl⟩ := hlen rfl
    simp only [zm_ex] at hx
    refine zm_s2_el hx (fun a b t e1 q => ?_)
    subst e1
    exact lv_ior hX hB hdg (kk _ _ _ _ _ _ _ _ _ q hl hd0)
  | ixor =>
    obtain ⟨rfl, rfl⟩ := hlen rfl
    simp only [zm_ex] at hx
    refine zm_s2_el hx (fun a b t e1 q => ?_)
    subst e1
    exact lv_ixor hX hB hdg (kk _ _ _ _ _ _ _ _ _ q hl hd0)
  | land =>
    obtain ⟨rfl, rfl⟩ := hlen rfl
    simp only [zm_ex] at hx
    refine zm_l2_el hx (fun a b t e1 q => ?_)
    subst e1
    exact lv_land hX hB hdg (kk _ _ _ _ _ _ _ _ _ q hl hd0)
  | lor =>
    obtain ⟨rfl, rfl⟩ := hlen rfl
    simp only [zm_ex] at hx
    refine zm_l2_el hx (fun a b t e1 q => ?_)
    subst e1
    exact lv_lor hX hB hdg (kk _ _ _ _ _ _ _ _ _ q hl hd0)
  | lushr =>
    obtain ⟨rfl, rfl⟩ := hlen rfl
    simp only [zm_ex] at hx
    refine zm_lsh_el hx (fun a b t e1 q => ?_)
    subst e1
    exact lv_lushr hX hB hdg rfl (kk _ _ _ _ _ _ _ _ _ q hl hd0)
  | lshl =>
    obtain ⟨rfl, rfl⟩ := hlen rfl
    simp only [zm_ex] at hx
    refine zm_lsh_el hx (fun a b t e1 q => ?_)
    subst e1
    exact lv_lshl hX hB hdg rfl (kk _ _ _ _ _ _ _ _ _ q hl hd0)
  | lshr =>
    obtain ⟨rfl, rfl⟩ := hlen rfl
    simp only [zm_ex] at hx
    refine zm_lsh_el hx (fun a b t e1 q => ?_)
    subst e1
    exact lv_lshr hX hB hdg rfl (kk _ _ _ _ _ _ _ _ _ q hl hd0)
  | l2i =>
    obtain ⟨rfl, rfl⟩ := hlen rfl
    simp only [zm_ex] at hx
    refine zm_l1_el hx (fun a t e1 q => ?_)
    subst e1
    exact lv_l2i hX hB hdg rfl (kk _ _ _ _ _ _ _ _ _ q hl hd0)
  | i2l =>
    obtain ⟨rfl, rfl⟩ := hlen rfl
    simp only [zm_ex] at hx
    refine zm_s1_el hx (fun a t e1 q => ?_)
    subst e1
    exact lv_i2l hX hB hdg rfl (kk _ _ _ _ _ _ _ _ _ q hl hd0)
  | i2b =>
    obtain ⟨rfl, rfl⟩ := hlen rfl
    simp only [zm_ex] at hx
    refine zm_s1_el hx (fun a t e1 q => ?_)
    subst e1
    exact lv_i2b hX hB hdg rfl (kk _ _ _ _ _ _ _ _ _ q hl hd0)
  | dup =>
    obtain ⟨rfl, rfl⟩ := hlen rfl
    match st, hx with
    | v :: t, hx => exact lv_dup hX hB hdg (zm_cat hx.1) (kk _ _ _ _ _ _ _ _ _ hx.2 hl hd0)
  | pop =>
    obtain ⟨rfl, rfl⟩ := hlen rfl
    match st, hx with
    | v :: t, hx => exact lv_pop hX hB hdg (zm_cat hx.1) (kk _ _ _ _ _ _ _ _ _ hx.2 hl hd0)
  | dup_x1 =>
    obtain ⟨rfl, rfl⟩ := hlen rfl
    match st, hx with
    | v :: w :: t, hx => exact lv_dup_x1 hX hB hdg (zm_cat hx.1) (zm_cat hx.2.1) (kk _ _ _ _ _ _ _ _ _ hx.2.2 hl hd0)
  | dup2 =>
    obtain ⟨rfl, rfl⟩ := hlen rfl
    match st, hx with
    | v :: w :: t, hx => exact lv_dup2_11 hX hB hdg (zm_cat hx.1) (zm_cat hx.2.1) (kk _ _ _ _ _ _ _ _ _ hx.2.2 hl hd0)
  | ifCond cd o =>
    obtain ⟨rfl, rfl⟩ := hlen rfl
    match st, hx with
    | .int a :: t, hx =>
      cases cd with
      | eq => exact lv_if_eq hX hB hdg hrs (fun q => kk _ _ _ _ _ _ _ _ _ (hx.1 q) hl hd0) (fun q => kk _ _ _ _ _ _ _ _ _ (hx.2 q) hl hd0)
      | ne => exact lv_if_ne hX hB hdg hrs (fun q => kk _ _ _ _ _ _ _ _ _ (hx.1 q) hl hd0) (fun q => kk _ _ _ _ _ _ _ _ _ (hx.2 (fun z => z q)) hl hd0)
      | lt => exact lv_if_lt hX hB hdg hrs (fun q => kk _ _ _ _ _ _ _ _ _ (hx.1 q) hl hd0) (fun q => kk _ _ _ _ _ _ _ _ _ (hx.2 q) hl hd0)
      | ge => exact lv_if_ge hX hB hdg hrs (fun q => kk _ _ _ _ _ _ _ _ _ (hx.1 q) hl hd0) (fun q => kk _ _ _ _ _ _ _ _ _ (hx.2 q) hl hd0)
      | gt => exact lv_if_gt hX hB hdg hrs (fun q => kk _ _ _ _ _ _ _ _ _ (hx.1 q) hl hd0) (fun q => kk _ _ _ _ _ _ _ _ _ (hx.2 q) hl hd0)
      | le => exact lv_if_le hX hB hdg hrs (fun q => kk _ _ _ _ _ _ _ _ _ (hx.1 q) hl hd0) (fun q => kk _ _ _ _ _ _ _ _ _ (hx.2 q) hl hd0)
  | if_icmp cd o =>
    obtain ⟨rfl, rfl⟩ := hlen rfl
    match st, hx with
    | .int b :: .int a :: t, hx =>
      cases cd with
      | eq => exact lv_icmp_eq hX hB hdg hrs (fun q => kk _ _ _ _ _ _ _ _ _ (hx.1 q) hl hd0) (fun q => kk _ _ _ _ _ _ _ _ _ (hx.2 q) hl hd0)
      | ne => exact lv_icmp_ne hX hB hdg hrs (fun q => kk _ _ _ _ _ _ _ _ _ (hx.1 q) hl hd0) (fun q => kk _ _ _ _ _ _ _ _ _ (hx.2 (fun z => z q)) hl hd0)
      | lt => exact lv_icmp_lt hX hB hdg hrs (fun q => kk _ _ _ _ _ _ _ _ _ (hx.1 q) hl hd0) (fun q => kk _ _ _ _ _ _ _ _ _ (hx.2 q) hl hd0)
      | ge => exact lv_icmp_ge hX hB hdg hrs (fun q => kk _ _ _ _ _ _ _ _ _ (hx.1 q) hl hd0) (fun q => kk _ _ _ _ _ _ _ _ _ (hx.2 q) hl hd0)
      | gt => exact lv_icmp_gt hX hB hdg hrs (fun q => kk _ _ _ _ _ _ _ _ _ (hx.1 q) hl hd0) (fun q => kk _ _ _ _ _ _ _ _ _ (hx.2 q) hl hd0)
      | le => exact lv_icmp_le hX hB hdg hrs (fun q => kk _ _ _ _ _ _ _ _ _ (hx.1 q) hl hd0) (fun q => kk _ _ _ _ _ _ _ _ _ (hx.2 q) hl hd0)
  | if_acmp cd o =>
    obtain ⟨rfl, rfl⟩ := hlen rfl
    cases cd with
    | eq =>
      match st, hx with
      | b :: a :: t, hx =>
        obtain ⟨ka, kb, q1, q2⟩ := hx
        obtain ⟨ra, ea⟩ := zm_rfo (G := G) ka
        obtain ⟨rb, eb⟩ := zm_rfo (G := G) kb
        have hab : ra = rb ↔ a = b := zm_rfo_eq hw ka kb ea eb
        show W p l e R s m args below meth c H locs cells slots Q (F0 m pc lsA (zm_cv G b :: zm_cv G a :: t.map (zm_cv G)))
        rw [ea, eb]
        exact lv_acmp_eq hX hB hdg hrs (fun z => kk _ _ _ _ _ _ _ _ _ (q1 (hab.mp z)) hl hd0) (fun z => kk _ _ _ _ _ _ _ _ _ (q2 (fun w => z (hab.mpr w))) hl hd0)
    | ne =>
      match st, hx with
      | b :: a :: t, hx =>
        obtain ⟨ka, kb, q1, q2⟩ := hx
        obtain ⟨ra, ea⟩ := zm_rfo (G := G) ka
        obtain ⟨rb, eb⟩ := zm_rfo (G := G) kb
        have hab : ra = rb ↔ a = b := zm_rfo_eq hw ka kb ea eb
        show W p l e R s m args below meth c H locs cells slots Q (F0 m pc lsA (zm_cv G b :: zm_cv G a :: t.map (zm_cv G)))
        rw [ea, eb]
        exact lv_acmp_ne hX hB hdg hrs (fun z => kk _ _ _ _ _ _ _ _ _ (q1 (fun w => z (hab.mpr w))) hl hd0) (fun z => kk _ _ _ _ _ _ _ _ _ (q2 (hab.mp z)) hl hd0)
  | ifnull o =>
    obtain ⟨rfl, rfl⟩ := hlen rfl
    match st, hx with
    | .null :: t, hx => exact lv_ifnullN hX hB hdg hrs (kk _ _ _ _ _ _ _ _ _ hx hl hd0)
    | .ref a :: t, hx => exact lv_ifnull hX hB hdg (kk _ _ _ _ _ _ _ _ _ hx hl hd0)
  | ifnonnull o =>
    obtain ⟨rfl, rfl⟩ := hlen rfl
    match st, hx with
    | .null :: t, hx => exact lv_ifnonnullN hX hB hdg (kk _ _ _ _ _ _ _ _ _ hx hl hd0)
    | .ref a :: t, hx => exact lv_ifnonnull hX hB hdg hrs (kk _ _ _ _ _ _ _ _ _ hx hl hd0)
  | goto o =>
    exact lv_goto hX hB (by obtain ⟨rfl, rfl⟩ := hlen rfl; exact hdg) hrs (kk _ _ _ _ _ _ _ _ _ hx hl hd0)
  | tableswitch dd lo hi offs =>
    match st, hx with
    | .int a :: t, hx =>
      obtain ⟨r1, r2⟩ := hrs
      by_cases ho : a.toInt < lo ∨ hi < a.toInt
      · have e1 := (r2 a.toInt).1 ho
        have hx : k (zm_sw x sw a.toInt) ls t h := hx
        rw [e1] at hx
        exact lv_tableOut hX hB hdg ho r1 (kk _ _ _ _ _ _ _ _ _ hx hl hd0)
      · obtain ⟨o, e1, e2⟩ := (r2 a.toInt).2 (fun z => ho (Or.inl z)) (fun z => ho (Or.inr z))
        exact lv_tableIn hX hB hdg (fun z => ho (Or.inl z)) (fun z => ho (Or.inr z)) e1 e2 (kk _ _ _ _ _ _ _ _ _ hx hl hd0)
  | getfield idx =>
    obtain ⟨rfl, rfl⟩ := hlen rfl
    match st, hx with
    | .ref a :: t, hx => exact zm_getf X0 hrs hx.1 hw hdg (kk _ _ _ _ _ _ _ _ _ hx.2 hl hd0)
  | putfield idx =>
    obtain ⟨rfl, rfl⟩ := hlen rfl
    match st, hx with
    | v :: .ref a :: t, hx => exact zm_putf X0 hrs hx.1 hx.2.1 hw hS hdg (fun H' locs' w1 w2 => kk _ _ _ _ _ _ _ _ _ hx.2.2 hl ⟨w1, w2, hc1, hc2⟩)
  | new idx =>
    obtain ⟨rfl, rfl⟩ := hlen rfl
    have hmm := hm _ _ _ _ hx
    have e1 : zm_nx (zm_mk h x y (zt_df x)) = zm_nx h + 1 := rfl
    have e2 : zm_sl (zm_mk h x y (zt_df x)) = zm_sl h + y := rfl
    exact zm_newc X0 hrs hw hS (by omega) (by omega) hdg (fun H' w1 w2 => kk _ _ _ _ _ _ _ _ _ hx hl ⟨w1, w2, by omega, by omega⟩)
  | newarray t0 =>
    obtain ⟨rfl, rfl⟩ := hlen rfl
    match st, hx with
    | .int n :: t, hx =>
      have hmm := hm _ _ _ _ hx.2.2
      have e1 : zm_nx (zm_mk h x n.toNatClampNeg (fun _ => zm_df x)) = zm_nx h + 1 := rfl
      have e2 : zm_sl (zm_mk h x n.toNatClampNeg (fun _ => zm_df x)) = zm_sl h + n.toNatClampNeg := rfl
      exact zm_newa X0 hrs hx.1 hx.2.1 hw hS (by omega) (by omega) hdg (fun H' w1 w2 => kk _ _ _ _ _ _ _ _ _ hx.2.2 hl ⟨w1, w2, by omega, by omega⟩)
  | anewarray idx =>
    obtain ⟨rfl, rfl⟩ := hlen rfl
    match st, hx with
    | .int n :: t, hx =>
      have hmm := hm _ _ _ _ hx.2.2
      have e1 : zm_nx (zm_mk h x n.toNatClampNeg (fun _ => zm_df x)) = zm_nx h + 1 := rfl
      have e2 : zm_sl (zm_mk h x n.toNatClampNeg (fun _ => zm_df x)) = zm_sl h + n.toNatClampNeg := rfl
      exact zm_newq X0 hrs hx.1 hx.2.1 hw hS (by omega) (by omega) hdg (fun H' w1 w2 => kk _ _ _ _ _ _ _ _ _ hx.2.2 hl ⟨w1, w2, by omega, by omega⟩)
  | arraylength =>
    obtain ⟨rfl, rfl⟩ := hlen rfl
    match st, hx with
    | .ref a :: t, hx =>
      obtain ⟨ty, hty⟩ := Option.isSome_iff_exists.mp hx.2.1
      obtain ⟨cell, q1, q2, q3, q4, q5⟩ := zm_arr hK hw hx.1 hty
      exact W.alen hX hB q1 q2 (by rw [q4]) rfl rfl hdg (kk _ _ _ _ _ _ _ _ _ hx.2.2 hl hd0)
  | iaload =>
    obtain ⟨rfl, rfl⟩ := hlen rfl
    simp only [zm_ex] at hx
    refine zm_rd_el hx (fun i a t e1 ha ht hin q => ?_)
    subst e1
    have htg : zm_tg h a = 101 := by simpa using ht
    obtain ⟨cell, q1, q2, q3, q4, q5⟩ := zm_arr (ty := .int) hK hw ha (by rw [htg]; exact zt_at_101)
    exact W.iald hX hB q1 q2 q3 (by rw [q4]; exact hin) (q5 _ (Nat.not_le.mp fun z => hin (Or.inr z))) rfl rfl hdg (kk _ _ _ _ _ _ _ _ _ q hl hd0)
  | baload =>
    obtain ⟨rfl, rfl⟩ := hlen rfl
    simp only [zm_ex] at hx
    refine zm_rd_el hx (fun i a t e1 ha ht hin q => ?_)
    subst e1
    have htg : zm_tg h a = 100 := by simpa using ht
    obtain ⟨cell, q1, q2, q3, q4, q5⟩ := zm_arr (ty := .byte) hK hw ha (by rw [htg]; exact zt_at_b)
    exact W.bald hX hB q1 q2 q3 (by rw [q4]; exact hin) (q5 _ (Nat.not_le.mp fun z => hin (Or.inr z))) rfl rfl hdg (kk _ _ _ _ _ _ _ _ _ q hl hd0)
  | aaload =>
    obtain ⟨rfl, rfl⟩ := hlen rfl
    simp only [zm_ex] at hx
    refine zm_rd_el hx (fun i a t e1 ha ht hin q => ?_)
    subst e1
    obtain ⟨C0, hC0⟩ := zm_ro_of ht
    obtain ⟨cell, q1, q2, q3, q4, q5⟩ := zm_arr (ty := .object C0) hK hw ha hC0
    exact W.aald hX hB q1 q2 rfl q3 (by rw [q4]; exact hin) (q5 _ (Nat.not_le.mp fun z => hin (Or.inr z))) rfl rfl hdg (kk _ _ _ _ _ _ _ _ _ q hl hd0)
  | iastore =>
    obtain ⟨rfl, rfl⟩ := hlen rfl
    simp only [zm_ex] at hx
    refine zm_wr_el hx (fun v i a t e1 hi hin q => ?_)
    subst e1
    obtain ⟨i1, i2, i3⟩ := hi
    have hce := (hw.2.2.2.2.2 a i1 i2).2 (by omega)
    exact W.iast hX hB hce (by rw [i3]; exact (hK.2.1 101 .int zt_at_101).1 _ _) (fun z => by cases z) (by rw [arrV_size]; exact hin) rfl rfl hdg (fun H' e1 e2 e3 => kk _ _ _ _ _ _ _ _ _ q hl ⟨zm_wl_ast hw i1 i2 (by omega) e1 e2 e3, hS.put e2 e3 (zm_A_ad i1), hc1, hc2⟩)
  | bastore =>
    obtain ⟨rfl, rfl⟩ := hlen rfl
    simp only [zm_ex] at hx
    refine zm_wr_el hx (fun v i a t e1 hi hin q => ?_)
    subst e1
    obtain ⟨i1, i2, i3⟩ := hi
    have hce := (hw.2.2.2.2.2 a i1 i2).2 (by omega)
    exact W.bast hX hB hce (by rw [i3]; exact (hK.2.1 100 .byte zt_at_b).1 _ _) (fun z => by cases z) (by rw [arrV_size]; exact hin) rfl rfl hdg (fun H' e1 e2 e3 => kk _ _ _ _ _ _ _ _ _ q hl ⟨zm_wl_ast hw i1 i2 (by omega) e1 e2 e3, hS.put e2 e3 (zm_A_ad i1), hc1, hc2⟩)
  | aastore =>
    obtain ⟨rfl, rfl⟩ := hlen rfl
    match st, hx with
    | .null :: .int i :: .ref a :: t, hx =>
      obtain ⟨g1, ⟨i1, i2, -⟩, hin, q⟩ := hx
      obtain ⟨C0, hC0⟩ := zm_ro_of g1
      have h1 := zt_at_100 _ _ hC0
      have hce := (hw.2.2.2.2.2 a i1 i2).2 h1
      exact va_WaastN hX hB hce ((hK.2.1 _ _ hC0).1 _ _) (fun z => by cases z) (by rw [arrV_size]; exact hin) rfl rfl hdg (fun H' e1 e2 e3 => kk _ _ _ _ _ _ _ _ _ q hl ⟨zm_wl_ast (v := .null) hw i1 i2 h1 e1 e2 e3, hS.put e2 e3 (zm_A_ad i1), hc1, hc2⟩)
    | .ref b :: .int i :: .ref a :: t, hx =>
      obtain ⟨g1, ⟨i1, i2, -⟩, ⟨j1, j2, j3⟩, hin, q⟩ := hx
      obtain ⟨C0, hC0⟩ := zm_ro_of g1
      have h1 := zt_at_100 _ _ hC0
      have hce := (hw.2.2.2.2.2 a i1 i2).2 h1
      obtain ⟨q0, hq0, hq1⟩ := zt_ro_ok _ _ hC0
      obtain ⟨q0', hq0', cellV, p1, p2, p3, -⟩ := (hw.2.2.2.2.2 b j1 j2).1 (by rw [j3]; exact (zt_cls_ok _ _ hq0).1)
      rw [j3] at p2
      have hcls := (hK.1 _ _ hq0).2
      obtain ⟨kA, comp, k1, k2, k3, -⟩ := (hK.2.1 _ _ hC0).2
      have hcomp : comp = G.1 (zm_tg h a - 200) := Option.some.inj (k3.symm.trans (by rw [← hq1]; exact hcls.1))
      subst hcomp
      obtain ⟨kC, hkC, -⟩ := hcls.2
      exact W.aast hX hB hce (fun z w => by cases w) (fun z => by cases z) k1 k2 rfl hkC ⟨fun z => hin (Or.inl z), by rw [arrV_size]; exact Nat.not_le.mp fun z => hin (Or.inr z)⟩ p1 (fun z w => by rw [p3] at w; cases w) (by rw [p2]; exact hkC) (by rw [p2]; exact va_assign hcls) rfl rfl hdg (fun H' e1 e2 e3 => kk _ _ _ _ _ _ _ _ _ q hl ⟨zm_wl_ast (v := .ref b) hw i1 i2 h1 e1 e2 e3, hS.put e2 e3 (zm_A_ad i1), hc1, hc2⟩)
  | invokestatic idx =>
    obtain ⟨rfl, rfl⟩ := hlen rfl
    rcases hrs with ⟨rfl, ⟨l1, l2, l3, l4⟩, l5⟩ | ⟨rfl, ⟨l1, l2, l3, l4⟩, l5⟩ | ⟨rfl, ⟨l1, l2, l3, l4⟩, l5⟩ | ⟨⟨hx1, hcd, hlk, hstt⟩, hroom⟩
    · match st, hx with
      | .int b :: .int a :: t, hx =>
        obtain ⟨ht, q⟩ := hx
        have hmm := hm _ _ _ _ q
        refine va_mmax hX hB (by rw [hml]; exact hsz.symm) hown (hts _ l1) (hts _ l2) (hts _ l3) (hts _ l4) (by omega) (Nat.le_trans (Nat.add_le_add_right (Nat.le_trans (zm_sum _) (by rw [List.length_map]; omega : _ ≤ 8)) 13) (by omega)) (by omega) (by omega) hdg (kk _ _ _ _ _ _ _ _ _ q hl hd0)
    · match st, hx with
      | .int b :: .int a :: t, hx =>
        obtain ⟨ht, q⟩ := hx
        have hmm := hm _ _ _ _ q
        refine va_mmin hX hB (by rw [hml]; exact hsz.symm) hown (hts _ l1) (hts _ l2) (hts _ l3) (hts _ l4) (by omega) (Nat.le_trans (Nat.add_le_add_right (Nat.le_trans (zm_sum _) (by rw [List.length_map]; omega : _ ≤ 8)) 13) (by omega)) (by omega) (by omega) hdg (kk _ _ _ _ _ _ _ _ _ q hl hd0)
    · match st, hx with
      | .int n :: .int dp :: .ref b :: .int sp :: .ref a :: t, hx =>
        obtain ⟨ht, ia, ib, g1, g2, g3, g4, g5, g6, q⟩ := hx
        exact zm_copy X0 l1 l2 l3 l4 ia ib l5 g1 g2 g3 g4 g5 g6 hw hS hsz (by rw [List.length_map]; exact ht) hdg (fun H' locs' w1 w2 => kk _ _ _ _ _ _ _ _ _ q hl ⟨w1, w2, hc1, hc2⟩)
    · have hx : zm_cl C k (pc + 3) x ls st h y := by
        have hn : ¬ 1000 < x := by omega
        have hx := hx
        simp only [zm_ex, if_neg hn] at hx
        exact hx
      obtain ⟨n1, n2, r1, h1, c1, q⟩ := hx
      obtain ⟨mo, hM⟩ := hC _ _ _ _ _ c1
      have hmm := hm _ _ _ _ q
      refine zm_back (zm_cS X0 hcd hroom hlk hstt hM hw n1 n2 hsz hdg (by omega)) hd0 mo (fun H' locs' hd' => ?_)
      have := kk _ _ _ _ lsA _ _ _ _ q hl hd'
      rwa [List.map_append, zm_tl] at this
  | invokevirtual idx =>
    obtain ⟨rfl, rfl⟩ := hlen rfl
    obtain ⟨⟨hx1, hcd, hlk, hin, hse, hmc⟩, hroom⟩ := hrs
    obtain ⟨⟨a, ha, hia⟩, n1, n2, r1, h1, c1, q⟩ := hx
    obtain ⟨mo, hM⟩ := hC _ _ _ _ _ c1
    have hmm := hm _ _ _ _ q
    refine zm_back (zm_cV X0 hcd hroom hlk hin hse hmc ha hia hM hw n2 hsz hdg (by omega)) hd0 mo (fun H' locs' hd' => ?_)
    have := kk _ _ _ _ lsA _ _ _ _ q hl hd'
    rwa [List.map_append, zm_tl] at this
  | invokespecial idx =>
    obtain ⟨rfl, rfl⟩ := hlen rfl
    rcases hrs with ⟨rfl, ⟨l1, l2, l3⟩, l5⟩ | ⟨⟨hx1, hcd, hlk, hin, hy1, hrt⟩, hroom⟩
    · match st, hx with
      | .ref a :: t, hx =>
        obtain ⟨ht, q⟩ := hx
        exact W.objInit hX hB hown (hts _ l1) (hts _ l2) (hts _ l3) rfl (by rw [hml]; exact hsz) rfl hdg (by omega) (by
          have h8 : ((t.map (zm_cv G)).map fun v => v.category).sum ≤ 8 := Nat.le_trans (zm_sum _) (by rw [List.length_map]; omega)
          show 2 * 0 + _ + 12 ≤ _
          omega) (kk _ _ _ _ _ _ _ _ _ q hl hd0)
    · have hx : (∃ a, st[y]? = some (.ref a)) ∧ zm_cl C k (pc + 3) x ls st h (y + 1) := by
        have hn : ¬ x = 1000 := by omega
        have hx := hx
        simp only [zm_ex, if_neg hn] at hx
        exact hx
      obtain ⟨⟨a, ha⟩, n1, n2, r1, h1, c1, q⟩ := hx
      obtain ⟨mo, hM⟩ := hC _ _ _ _ _ c1
      have hmm := hm _ _ _ _ q
      refine zm_back (zm_cI X0 hcd hroom hlk hin hy1 hrt ha hM hw n2 hsz hdg (by omega)) hd0 mo (fun H' locs' hd' => ?_)
      have := kk _ _ _ _ lsA _ _ _ _ q hl hd'
      rwa [List.map_append, zm_tl] at this
  | ireturn =>
    obtain ⟨rfl, rfl⟩ := hlen rfl
    exact hend _ _ _ _ _ _ _ _ _ (Or.inl rfl) (fun _ _ _ _ _ => hx) hdg hd0
  | areturn =>
    obtain ⟨rfl, rfl⟩ := hlen rfl
    exact hend _ _ _ _ _ _ _ _ _ (Or.inr (Or.inl rfl)) (fun _ _ _ _ _ => hx) hdg hd0
  | return_ =>
    obtain ⟨rfl, rfl⟩ := hlen rfl
    exact hend _ _ _ _ _ _ _ _ _ (Or.inr (Or.inr rfl)) (fun _ _ _ _ _ => hx) hdg hd0
  | _ => exact False.elim hx
end
