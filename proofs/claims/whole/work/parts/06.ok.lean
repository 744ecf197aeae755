theorem zm_c1_cat {G : zm_G} {v : Value} : ¬ zm_c1 v = true → (zm_cv G v).category = 2 := by
  intro h
  cases v <;> first | rfl | (exact absurd rfl h)
theorem zm_fl_mem {G : zm_G} : ∀ (args : List Value) (i j : Nat) (v : Value), (zm_fl args)[j]? = some v → zm_nf v = true → (i + j, zm_cv G v) ∈ lv_args i (args.map (zm_cv G))
  | [], _, _, _, h, _ => by simp [zm_fl] at h
  | a :: l, i, j, v, h, hf => by
    have e : zm_fl (a :: l) = (if zm_c1 a = true then [a] else [a, zm_un]) ++ zm_fl l := rfl
    rw [e] at h
    show _ ∈ (i, zm_cv G a) :: lv_args (if (zm_cv G a).category = 2 then i + 2 else i + 1) (l.map (zm_cv G))
    by_cases hc : zm_c1 a = true
    · rw [if_pos hc] at h
      rw [if_neg (by rw [zm_cat hc]; decide)]
      cases j with
      | zero => cases h; exact List.mem_cons_self
      | succ j =>
        have h' : (zm_fl l)[j]? = some v := h
        have := zm_fl_mem (G := G) l (i + 1) j v h' hf
        rw [show i + 1 + j = i + (j + 1) by omega] at this
        exact List.mem_cons_of_mem _ this
    · rw [if_neg hc] at h
      rw [if_pos (zm_c1_cat hc)]
      cases j with
      | zero => cases h; exact List.mem_cons_self
      | succ j =>
        cases j with
        | zero => cases h; exact absurd hf (by decide)
        | succ j =>
          have h' : (zm_fl l)[j]? = some v := h
          have := zm_fl_mem (G := G) l (i + 2) j v h' hf
          rw [show i + 2 + j = i + (j + 1 + 1) by omega] at this
          exact List.mem_cons_of_mem _ this
theorem zm_fl_len {G : zm_G} : ∀ args : List Value, (lg_sl (args.map (zm_cv G))).length = (zm_fl args).length
  | [] => rfl
  | a :: l => by
    have e : zm_fl (a :: l) = (if zm_c1 a = true then [a] else [a, zm_un]) ++ zm_fl l := rfl
    have e2 : lg_sl ((a :: l).map (zm_cv G)) = (if (zm_cv G a).category = 2 then [Slot.val (zm_cv G a), Slot.second] else [Slot.val (zm_cv G a)]) ++ lg_sl (l.map (zm_cv G)) := rfl
    rw [e, e2, List.length_append, List.length_append, zm_fl_len l]
    by_cases hc : zm_c1 a = true
    · rw [if_pos hc, if_neg (by rw [zm_cat (G := G) hc]; decide)]; rfl
    · rw [if_neg hc, if_pos (zm_c1_cat hc)]; rfl
theorem zm_lr_entry {G : zm_G} {args : List Value} {n : Nat} (h : (zm_fl args).length ≤ n) : zm_lr G n (zm_lo args n) ((lg_sl (args.map (zm_cv G)) ++ List.replicate (n - (lg_sl (args.map (zm_cv G))).length) Slot.unset).toArray) := by
  have hb := lv_entry (args.map (zm_cv G)) (n := n) (by rw [zm_fl_len]; exact h)
  refine ⟨?_, hb.1, hb.2.1, fun q hq => hb.2.2 q ?_⟩
  · show (zm_fl args ++ List.replicate (n - (zm_fl args).length) zm_un).length = n
    rw [List.length_append, List.length_replicate]
    omega
  · obtain ⟨v, hv, hf, e⟩ := zm_ll_mem.mp hq
    have hv' : (zm_fl args ++ List.replicate (n - (zm_fl args).length) zm_un)[q.1]? = some v := hv
    by_cases hl : q.1 < (zm_fl args).length
    · rw [List.getElem?_append_left hl] at hv'
      have := zm_fl_mem (G := G) args 0 q.1 v hv' hf
      rw [Nat.zero_add, ← e] at this
      exact this
    · rw [List.getElem?_append_right (by omega)] at hv'
      have := List.mem_of_getElem? hv'
      rw [List.mem_replicate] at this
      rw [this.2] at hf
      exact absurd hf (by decide)
/-! a method's bytes, as the small machine has them, are what the machine runs -/
def zm_len : Instr → Nat
  | .bipush _ | .ldc _ | .iload _ | .lload _ | .aload _ | .istore _ | .lstore _ | .astore _ | .newarray _ => 2
  | .sipush _ | .ldc2_w _ | .iinc _ _ | .ifCond _ _ | .if_icmp _ _ | .if_acmp _ _ | .ifnull _ | .ifnonnull _ | .goto _ | .getfield _ | .putfield _ | .new _ | .anewarray _ | .invokestatic _ | .invokevirtual _ | .invokespecial _ => 3
  | _ => 1
/-- a field's entry -/
def zm_rf (own : String) (idx x y : Nat) : Prop := ∃ q : vw_C, zt_cl[x]? = some q ∧ y < q.2.2 ∧ Jvm.Cond.fieldLink own idx (q.2.1 y).1 (q.2.1 y).2.1 (q.2.1 y).2.2.1 ∈ zt_ws
/-- a field's entry that is written -/
def zm_rp (own nm : String) (idx x y : Nat) : Prop := ∃ q : vw_C, zt_cl[x]? = some q ∧ y < q.2.2 ∧ Jvm.Cond.fieldLink own idx (q.2.1 y).1 (q.2.1 y).2.1 (q.2.1 y).2.2.1 ∈ zt_ws ∧ ((q.2.1 y).2.2.2 = false ∨ ((q.2.1 y).2.2.2 = true ∧ nm = "<init>" ∧ (q.2.1 y).1 = own))
theorem zm_rp_any {own nm : String} {idx x y : Nat} (h : zm_rp own "" idx x y) : zm_rp own nm idx x y := by
  obtain ⟨q, h1, h2, h3, h4 | ⟨-, h4, -⟩⟩ := h
  · exact ⟨q, h1, h2, h3, Or.inl h4⟩
  · exact absurd h4 (by decide)
def zm_rnw (own : String) (idx x y : Nat) : Prop := ∃ q : vw_C, zt_cl[x]? = some q ∧ q.2.2 = y ∧ Jvm.Cond.classLink own idx q.1 ∈ zt_ws ∧ Jvm.Cond.instantiable q.1 y ∈ zt_ws ∧ Jvm.Cond.initialized q.1 ∈ zt_ws
def zm_ran (own : String) (idx x : Nat) : Prop := 200 ≤ x ∧ ∃ C, zt_at x = some (.object C) ∧ C ∈ zt_ao ∧ Jvm.Cond.classLink own idx C ∈ zt_ws
def zm_robj (own : String) (idx : Nat) : Prop := Jvm.Cond.methodLink own idx Lib.objectInit ∈ zt_ws ∧ Jvm.Cond.instanceMethod Lib.objectInit ∈ zt_ws ∧ Jvm.Cond.code Lib.objectInit ⟨#[0xb1]⟩ 1 none ∈ zt_ws
def zm_rmax (own : String) (idx : Nat) : Prop := Jvm.Cond.methodLink own idx Lib.Math.max.name ∈ zt_ws ∧ Jvm.Cond.static Lib.Math.max.name ∈ zt_ws ∧ Jvm.Cond.initialized "java/lang/Math" ∈ zt_ws ∧ Jvm.Cond.code Lib.Math.max.name Lib.Math.max.code 2 (some .int) ∈ zt_ws
def zm_rmin (own : String) (idx : Nat) : Prop := Jvm.Cond.methodLink own idx Lib.Math.min.name ∈ zt_ws ∧ Jvm.Cond.static Lib.Math.min.name ∈ zt_ws ∧ Jvm.Cond.initialized "java/lang/Math" ∈ zt_ws ∧ Jvm.Cond.code Lib.Math.min.name Lib.Math.min.code 2 (some .int) ∈ zt_ws
def zm_rcopy (own : String) (idx : Nat) : Prop := Jvm.Cond.methodLink own idx arraycopyName ∈ zt_ws ∧ Jvm.Cond.native arraycopyName ∈ zt_ws ∧ Jvm.Cond.static arraycopyName ∈ zt_ws ∧ Jvm.Cond.initialized "java/lang/System" ∈ zt_ws
/-- a callee's words -/
def zm_cd0 (x y : Nat) : Prop := Jvm.Cond.code (zt_nm x) (zt_by x) (zt_ml x) (zt_rt x) ∈ zt_ws ∧ Jvm.Cond.initialized (zt_nm x).cls ∈ zt_ws ∧ (zt_nm x).cls = zt_own x ∧ ((zt_nm x).cls ≠ "java/lang/invoke/MethodHandle" ∧ (zt_nm x).cls ≠ "java/lang/invoke/VarHandle") ∧ (parseMethodDescriptor (zt_nm x).desc).map (fun d => d.parameters.length) = some y
def zm_lk (own : String) (idx x : Nat) : Prop := Jvm.Cond.methodLink own idx (zt_nm x) ∈ zt_ws ∨ ∃ host, (own, idx, zt_nm x, host) ∈ zt_nm2
def zm_rst (own : String) (idx x y : Nat) : Prop := x < 1000 ∧ zm_cd0 x y ∧ zm_lk own idx x ∧ Jvm.Cond.static (zt_nm x) ∈ zt_ws
def zm_rvi (own : String) (idx x y : Nat) : Prop := x < 1000 ∧ zm_cd0 x y ∧ zm_lk own idx x ∧ Jvm.Cond.instanceMethod (zt_nm x) ∈ zt_ws ∧ Jvm.Cond.selects (zt_own x) (zt_nm x) (zt_nm x) ∈ zt_ws ∧ ∃ q : vw_C, zt_cl[zt_mc x]? = some q ∧ q.1 = zt_own x
def zm_rsp (own : String) (idx x y : Nat) : Prop := x < 1000 ∧ zm_cd0 x y ∧ zm_lk own idx x ∧ Jvm.Cond.instanceMethod (zt_nm x) ∈ zt_ws ∧ (zt_nm x).name = "<init>" ∧ zt_rt x = none
def zm_rs (M pc : Nat) (i : Instr) (x y : Nat) (sw : List (Int × Nat)) : Prop := match i with
  | .ldc idx => ∃ v n, sw = [(v, n)] ∧ Jvm.Cond.constant (zt_own M) idx (Int32.ofInt v) ∈ zt_ws
  | .ldc2_w idx => ∃ v n, sw = [(v, n)] ∧ Jvm.Cond.constantLong (zt_own M) idx (Int64.ofInt v) ∈ zt_ws
  | .ifCond _ o | .if_icmp _ o | .if_acmp _ o | .ifnull o | .ifnonnull o | .goto o => (pc : Int) + o = (x : Int)
  | .tableswitch d lo hi offs => (pc : Int) + d = (x : Int) ∧ ∀ z : Int, ((z < lo ∨ hi < z) → zm_sw x sw z = x) ∧ (¬ z < lo → ¬ hi < z → ∃ o, offs[(z - lo).toNat]? = some o ∧ (pc : Int) + o = (zm_sw x sw z : Int))
  | .getfield idx => zm_rf (zt_own M) idx x y
  | .putfield idx => zm_rp (zt_own M) (zt_nm M).name idx x y
  | .new idx => zm_rnw (zt_own M) idx x y ∧ ∀ j, j < y → defaultValue (zt_ty x j) = zt_df x j
  | .newarray t => 100 ≤ x ∧ x < 200 ∧ zt_at x = some (newarray.typeOf t) ∧ Jvm.Cond.arrayClass (newarray.typeOf t) ∈ zt_ws ∧ defaultValue (newarray.typeOf t) = zm_df x ∧ componentBytes (newarray.typeOf t) ≤ 8
  | .anewarray idx => zm_ran (zt_own M) idx x
  | .invokestatic idx => (x = 1001 ∧ zm_rmax (zt_own M) idx ∧ 1 ≤ zt_fr M ∧ 21 ≤ zt_lc M) ∨ (x = 1002 ∧ zm_rmin (zt_own M) idx ∧ 1 ≤ zt_fr M ∧ 21 ≤ zt_lc M) ∨ (x = 1003 ∧ zm_rcopy (zt_own M) idx ∧ 1 ≤ zt_fr M ∧ 26 ≤ zt_lc M) ∨
      (zm_rst (zt_own M) idx x y ∧ zt_fr x + 1 ≤ zt_fr M ∧ 8 + (zt_ml x + 11) + zt_lc x ≤ zt_lc M)
  | .invokevirtual idx => zm_rvi (zt_own M) idx x y ∧ zt_fr x + 1 ≤ zt_fr M ∧ 8 + (zt_ml x + 11) + zt_lc x ≤ zt_lc M
  | .invokespecial idx => (x = 1000 ∧ zm_robj (zt_own M) idx ∧ 1 ≤ zt_fr M ∧ 20 ≤ zt_lc M) ∨ (zm_rsp (zt_own M) idx x y ∧ zt_fr x + 1 ≤ zt_fr M ∧ 8 + (zt_ml x + 11) + zt_lc x ≤ zt_lc M)
  | _ => True
def zm_mksw (pc : Nat) : Int → List Int → List (Int × Nat)
  | _, [] => []
  | lo, o :: os => (lo, ((pc : Int) + o).toNat) :: zm_mksw pc (lo + 1) os
theorem zm_mksw_out {pc d : Nat} : ∀ (os : List Int) (lo z : Int), (z < lo ∨ lo + os.length ≤ z) → zm_sw d (zm_mksw pc lo os) z = d
  | [], _, _, _ => rfl
  | o :: os, lo, z, h => by
    rw [List.length_cons] at h
    show (if lo = z then _ else zm_sw d (zm_mksw pc (lo + 1) os) z) = d
    rw [if_neg (by omega)]
    exact zm_mksw_out os (lo + 1) z (by omega)
theorem zm_mksw_in {pc d : Nat} : ∀ (os : List Int) (lo z : Int), lo ≤ z → z < lo + os.length → ∃ o, os[(z - lo).toNat]? = some o ∧ zm_sw d (zm_mksw pc lo os) z = ((pc : Int) + o).toNat
  | [], lo, z, h1, h2 => by simp at h2; omega
  | o :: os, lo, z, h1, h2 => by
    rw [List.length_cons] at h2
    by_cases e : lo = z
    · subst e
      refine ⟨o, by simp, ?_⟩
      show (if lo = lo then _ else _) = _
      rw [if_pos rfl]
    · obtain ⟨o', q1, q2⟩ := zm_mksw_in (pc := pc) (d := d) os (lo + 1) z (by omega) (by omega)
      refine ⟨o', ?_, ?_⟩
      · have : (z - lo).toNat = (z - (lo + 1)).toNat + 1 := by omega
        rw [this]
        exact q1
      · show (if lo = z then _ else zm_sw d (zm_mksw pc (lo + 1) os) z) = _
        rw [if_neg e]
        exact q2
theorem zm_tsw {M pc x y : Nat} {sw : List (Int × Nat)} {d lo hi : Int} {offs : Array Int} (h1 : (pc : Int) + d = (x : Int)) (h2 : sw = zm_mksw pc lo offs.toList) (h3 : hi - lo + 1 = (offs.toList.length : Int)) (h4 : offs.toList.all (fun o => decide (0 ≤ (pc : Int) + o)) = true) : zm_rs M pc (.tableswitch d lo hi offs) x y sw := by
  refine ⟨h1, fun z => ⟨fun h => ?_, fun a b => ?_⟩⟩
  · rw [h2]
    exact zm_mksw_out _ _ _ (by omega)
  · obtain ⟨o, q1, q2⟩ := zm_mksw_in (pc := pc) (d := x) offs.toList lo z (by omega) (by omega)
    refine ⟨o, by rw [← Array.getElem?_toList]; exact q1, ?_⟩
    have hp := List.all_eq_true.mp h4 o (List.mem_of_getElem? q1)
    simp only [decide_eq_true_eq] at hp
    rw [h2, q2]
    omega
def zm_swi : Instr → Bool
  | .tableswitch .. => true
  | _ => false
def zm_ok (M pc : Nat) (E : zm_E) : Prop := (∃ len, decode (zt_by M) pc = .ok (E.1, len) ∧ (zm_swi E.1 = false → len = zm_len E.1 ∧ E.2.1 = pc + zm_len E.1)) ∧ zm_rs M pc E.1 E.2.2.1 E.2.2.2.1 E.2.2.2.2
def zm_chk (b : ByteArray) (q : Nat × zm_E) : Bool := match decode b q.1 with
  | .ok (i, len) => decide (i = q.2.1) && (zm_swi q.2.1 || (Nat.beq len (zm_len q.2.1) && Nat.beq q.2.2.1 (q.1 + zm_len q.2.1)))
  | .error _ => false
theorem zm_chk_ok {b : ByteArray} {q : Nat × zm_E} (h : zm_chk b q = true) : ∃ len, decode b q.1 = .ok (q.2.1, len) ∧ (zm_swi q.2.1 = false → len = zm_len q.2.1 ∧ q.2.2.1 = q.1 + zm_len q.2.1) := by
  unfold zm_chk at h
  split at h
  · next i len e =>
    simp only [Bool.and_eq_true, decide_eq_true_eq, Bool.or_eq_true] at h
    obtain ⟨h1, h2⟩ := h
    subst h1
    refine ⟨len, e, fun hs => ?_⟩
    rcases h2 with h2 | h2
    · rw [h2] at hs; cases hs
    · exact ⟨Nat.eq_of_beq_eq_true h2.1, Nat.eq_of_beq_eq_true h2.2⟩
  · cases h
theorem zm_ac {α : Type} {P : α → Prop} {a : α} {l : List α} (h : P a) (t : ∀ q ∈ l, P q) : ∀ q ∈ a :: l, P q := List.forall_mem_cons.mpr ⟨h, t⟩
theorem zm_an {α : Type} {P : α → Prop} : ∀ q ∈ ([] : List α), P q := fun _ h => absurd h List.not_mem_nil
theorem zm_lku_mem : ∀ (l : List (Nat × zm_E)) (pc : Nat) (E : zm_E), zm_lku l pc = some E → (pc, E) ∈ l
  | [], _, _, h => by cases h
  | q :: l, pc, E, h => by
    unfold zm_lku at h
    cases hb : Nat.beq q.1 pc with
    | true =>
      rw [hb] at h
      have e := Nat.eq_of_beq_eq_true hb
      cases h
      rw [← e]
      exact List.mem_cons_self
    | false =>
      rw [hb] at h
      exact List.mem_cons_of_mem _ (zm_lku_mem l pc E h)
theorem zm_okl {M pc : Nat} {E : zm_E} {l : List (Nat × zm_E)} {b : ByteArray} (hb : zt_by M = b) (h : zm_lku l pc = some E) (h1 : l.all (zm_chk b) = true) (h2 : ∀ q ∈ l, zm_rs M q.1 q.2.1 q.2.2.2.1 q.2.2.2.2.1 q.2.2.2.2.2) : zm_ok M pc E := by
  have hm : (pc, E) ∈ l := zm_lku_mem l pc E h
  have h3 : zm_chk b (pc, E) = true := List.all_eq_true.mp h1 (pc, E) hm
  have h4 := zm_chk_ok h3
  have h5 := h2 (pc, E) hm
  unfold zm_ok
  rw [hb]
  exact And.intro h4 h5
theorem zm_jp {a b : Int} (h : a = b) : a = b := h
