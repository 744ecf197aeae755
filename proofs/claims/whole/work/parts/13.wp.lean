/-- from here on the method ends, and Q holds of its answer and heap -/
def zm_wp (d M pc : Nat) (ls st : List Value) (h : zm_H) (Q : Option Value → zm_H → Prop) : Prop := ∃ n r h', zm_rn (zm_ca d) M r h' n pc ls st h ∧ Q r h'
/-- the method, called so, ends, and Q holds of its answer and heap -/
def zm_wc (d M : Nat) (a : List Value) (h : zm_H) (Q : Option Value → zm_H → Prop) : Prop := ∃ r h', zm_ca d M a h r h' ∧ Q r h'
theorem zm_wc_mono {d M : Nat} {a : List Value} {h : zm_H} {Q Q' : Option Value → zm_H → Prop} (k : zm_wc d M a h Q) (f : ∀ r h', Q r h' → Q' r h') : zm_wc d M a h Q' := by
  obtain ⟨r, h', h1, h2⟩ := k
  exact ⟨r, h', h1, f r h' h2⟩
theorem zm_wp_mono {d M pc : Nat} {ls st : List Value} {h : zm_H} {Q Q' : Option Value → zm_H → Prop} (k : zm_wp d M pc ls st h Q) (f : ∀ r h', Q r h' → Q' r h') : zm_wp d M pc ls st h Q' := by
  obtain ⟨n, r, h', h1, h2⟩ := k
  exact ⟨n, r, h', h1, f r h' h2⟩
theorem zm_enter {d M : Nat} {a : List Value} {h : zm_H} {Q : Option Value → zm_H → Prop} (hl : (zm_fl a).length ≤ zt_ml M) (k : zm_wp d M 0 (zm_lo a (zt_ml M)) [] h Q) : zm_wc (d + 1) M a h Q := by
  obtain ⟨n, r, h', h1, h2⟩ := k
  exact ⟨r, h', ⟨hl, n, h1⟩, h2⟩
section
variable {d M pc np x y : Nat} {sw : List (Int × Nat)} {ls st : List Value} {h : zm_H} {Q : Option Value → zm_H → Prop}
theorem wx_iconst {w : Int} (v : Int32) (hc : zt_code M pc = some (.iconst w, np, x, y, sw)) (hv : Int32.ofInt w = v) (kk : zm_wp d M np ls (.int v :: st) h Q) : zm_wp d M pc ls st h Q := by
  subst hv
  obtain ⟨n, r, h', hr, hq⟩ := kk
  exact ⟨n + 1, r, h', ⟨_, hc, hr⟩, hq⟩
theorem wx_bipush {w : Int} (v : Int32) (hc : zt_code M pc = some (.bipush w, np, x, y, sw)) (hv : (Int8.ofInt w).toInt32 = v) (kk : zm_wp d M np ls (.int v :: st) h Q) : zm_wp d M pc ls st h Q := by
  subst hv
  obtain ⟨n, r, h', hr, hq⟩ := kk
  exact ⟨n + 1, r, h', ⟨_, hc, hr⟩, hq⟩
theorem wx_sipush {w : Int} (v : Int32) (hc : zt_code M pc = some (.sipush w, np, x, y, sw)) (hv : (Int16.ofInt w).toInt32 = v) (kk : zm_wp d M np ls (.int v :: st) h Q) : zm_wp d M pc ls st h Q := by
  subst hv
  obtain ⟨n, r, h', hr, hq⟩ := kk
  exact ⟨n + 1, r, h', ⟨_, hc, hr⟩, hq⟩
theorem wx_lconst {w : Fin 2} (v : Int64) (hc : zt_code M pc = some (.lconst w, np, x, y, sw)) (hv : Int64.ofNat w = v) (kk : zm_wp d M np ls (.long v :: st) h Q) : zm_wp d M pc ls st h Q := by
  subst hv
  obtain ⟨n, r, h', hr, hq⟩ := kk
  exact ⟨n + 1, r, h', ⟨_, hc, hr⟩, hq⟩
theorem wx_ldc {o u : Nat} {w : Int} (v : Int32) (hc : zt_code M pc = some (.ldc o, np, x, y, [(w, u)])) (hv : Int32.ofInt w = v) (kk : zm_wp d M np ls (.int v :: st) h Q) : zm_wp d M pc ls st h Q := by
  subst hv
  obtain ⟨n, r, h', hr, hq⟩ := kk
  exact ⟨n + 1, r, h', ⟨_, hc, hr⟩, hq⟩
theorem wx_ldc2_w {o u : Nat} {w : Int} (v : Int64) (hc : zt_code M pc = some (.ldc2_w o, np, x, y, [(w, u)])) (hv : Int64.ofInt w = v) (kk : zm_wp d M np ls (.long v :: st) h Q) : zm_wp d M pc ls st h Q := by
  subst hv
  obtain ⟨n, r, h', hr, hq⟩ := kk
  exact ⟨n + 1, r, h', ⟨_, hc, hr⟩, hq⟩
theorem wx_aconst_null (hc : zt_code M pc = some (.aconst_null, np, x, y, sw)) (kk : zm_wp d M np ls (.null :: st) h Q) : zm_wp d M pc ls st h Q := by
  obtain ⟨n, r, h', hr, hq⟩ := kk
  exact ⟨n + 1, r, h', ⟨_, hc, hr⟩, hq⟩
theorem wx_iload {j : Nat} {v : Value} (hc : zt_code M pc = some (.iload j, np, x, y, sw)) (hv : ls[(j : Nat)]? = some v) (hk : zm_isK 0 v = true) (kk : zm_wp d M np ls (v :: st) h Q) : zm_wp d M pc ls st h Q := by
  obtain ⟨n, r, h', hr, hq⟩ := kk
  exact ⟨n + 1, r, h', ⟨_, hc, (by show zm_ld 0 ls j _; unfold zm_ld; rw [hv]; exact ⟨hk, hr⟩)⟩, hq⟩
theorem wx_iload_n {j : Fin 4} {v : Value} (hc : zt_code M pc = some (.iload_n j, np, x, y, sw)) (hv : ls[(j : Nat)]? = some v) (hk : zm_isK 0 v = true) (kk : zm_wp d M np ls (v :: st) h Q) : zm_wp d M pc ls st h Q := by
  obtain ⟨n, r, h', hr, hq⟩ := kk
  exact ⟨n + 1, r, h', ⟨_, hc, (by show zm_ld 0 ls j _; unfold zm_ld; rw [hv]; exact ⟨hk, hr⟩)⟩, hq⟩
theorem wx_lload {j : Nat} {v : Value} (hc : zt_code M pc = some (.lload j, np, x, y, sw)) (hv : ls[(j : Nat)]? = some v) (hk : zm_isK 1 v = true) (kk : zm_wp d M np ls (v :: st) h Q) : zm_wp d M pc ls st h Q := by
  obtain ⟨n, r, h', hr, hq⟩ := kk
  exact ⟨n + 1, r, h', ⟨_, hc, (by show zm_ld 1 ls j _; unfold zm_ld; rw [hv]; exact ⟨hk, hr⟩)⟩, hq⟩
theorem wx_lload_n {j : Fin 4} {v : Value} (hc : zt_code M pc = some (.lload_n j, np, x, y, sw)) (hv : ls[(j : Nat)]? = some v) (hk : zm_isK 1 v = true) (kk : zm_wp d M np ls (v :: st) h Q) : zm_wp d M pc ls st h Q := by
  obtain ⟨n, r, h', hr, hq⟩ := kk
  exact ⟨n + 1, r, h', ⟨_, hc, (by show zm_ld 1 ls j _; unfold zm_ld; rw [hv]; exact ⟨hk, hr⟩)⟩, hq⟩
theorem wx_aload {j : Nat} {v : Value} (hc : zt_code M pc = some (.aload j, np, x, y, sw)) (hv : ls[(j : Nat)]? = some v) (hk : zm_isK 2 v = true) (kk : zm_wp d M np ls (v :: st) h Q) : zm_wp d M pc ls st h Q := by
  obtain ⟨n, r, h', hr, hq⟩ := kk
  exact ⟨n + 1, r, h', ⟨_, hc, (by show zm_ld 2 ls j _; unfold zm_ld; rw [hv]; exact ⟨hk, hr⟩)⟩, hq⟩
theorem wx_aload_n {j : Fin 4} {v : Value} (hc : zt_code M pc = some (.aload_n j, np, x, y, sw)) (hv : ls[(j : Nat)]? = some v) (hk : zm_isK 2 v = true) (kk : zm_wp d M np ls (v :: st) h Q) : zm_wp d M pc ls st h Q := by
  obtain ⟨n, r, h', hr, hq⟩ := kk
  exact ⟨n + 1, r, h', ⟨_, hc, (by show zm_ld 2 ls j _; unfold zm_ld; rw [hv]; exact ⟨hk, hr⟩)⟩, hq⟩
theorem wx_istore {j : Nat} {v : Value} {ls' : List Value} (hc : zt_code M pc = some (.istore j, np, x, y, sw)) (hk : zm_isK 0 v = true) (hj : Nat.blt j ls.length = true) (hn : zm_nl ls j = true) (hs : ls.set j v = ls') (kk : zm_wp d M np ls' st h Q) : zm_wp d M pc ls (v :: st) h Q := by
  subst hs
  obtain ⟨n, r, h', hr, hq⟩ := kk
  exact ⟨n + 1, r, h', ⟨_, hc, ⟨hk, Nat.blt_eq.mp hj, hn, hr⟩⟩, hq⟩
theorem wx_istore_n {j : Fin 4} {v : Value} {ls' : List Value} (hc : zt_code M pc = some (.istore_n j, np, x, y, sw)) (hk : zm_isK 0 v = true) (hj : Nat.blt j ls.length = true) (hn : zm_nl ls j = true) (hs : ls.set j v = ls') (kk : zm_wp d M np ls' st h Q) : zm_wp d M pc ls (v :: st) h Q := by
  subst hs
  obtain ⟨n, r, h', hr, hq⟩ := kk
  exact ⟨n + 1, r, h', ⟨_, hc, ⟨hk, Nat.blt_eq.mp hj, hn, hr⟩⟩, hq⟩
theorem wx_astore {j : Nat} {v : Value} {ls' : List Value} (hc : zt_code M pc = some (.astore j, np, x, y, sw)) (hk : zm_isK 2 v = true) (hj : Nat.blt j ls.length = true) (hn : zm_nl ls j = true) (hs : ls.set j v = ls') (kk : zm_wp d M np ls' st h Q) : zm_wp d M pc ls (v :: st) h Q := by
  subst hs
  obtain ⟨n, r, h', hr, hq⟩ := kk
  exact ⟨n + 1, r, h', ⟨_, hc, ⟨hk, Nat.blt_eq.mp hj, hn, hr⟩⟩, hq⟩
theorem wx_astore_n {j : Fin 4} {v : Value} {ls' : List Value} (hc : zt_code M pc = some (.astore_n j, np, x, y, sw)) (hk : zm_isK 2 v = true) (hj : Nat.blt j ls.length = true) (hn : zm_nl ls j = true) (hs : ls.set j v = ls') (kk : zm_wp d M np ls' st h Q) : zm_wp d M pc ls (v :: st) h Q := by
  subst hs
  obtain ⟨n, r, h', hr, hq⟩ := kk
  exact ⟨n + 1, r, h', ⟨_, hc, ⟨hk, Nat.blt_eq.mp hj, hn, hr⟩⟩, hq⟩
theorem wx_lstore {j : Nat} {v : Value} {ls' : List Value} (hc : zt_code M pc = some (.lstore j, np, x, y, sw)) (hk : zm_isK 1 v = true) (hj : Nat.blt (j + 1) ls.length = true) (hn : zm_nl ls j = true) (hs : (ls.set j v).set (j + 1) zm_un = ls') (kk : zm_wp d M np ls' st h Q) : zm_wp d M pc ls (v :: st) h Q := by
  subst hs
  obtain ⟨n, r, h', hr, hq⟩ := kk
  exact ⟨n + 1, r, h', ⟨_, hc, ⟨hk, Nat.blt_eq.mp hj, hn, hr⟩⟩, hq⟩
theorem wx_lstore_n {j : Fin 4} {v : Value} {ls' : List Value} (hc : zt_code M pc = some (.lstore_n j, np, x, y, sw)) (hk : zm_isK 1 v = true) (hj : Nat.blt (j + 1) ls.length = true) (hn : zm_nl ls j = true) (hs : (ls.set j v).set (j + 1) zm_un = ls') (kk : zm_wp d M np ls' st h Q) : zm_wp d M pc ls (v :: st) h Q := by
  subst hs
  obtain ⟨n, r, h', hr, hq⟩ := kk
  exact ⟨n + 1, r, h', ⟨_, hc, ⟨hk, Nat.blt_eq.mp hj, hn, hr⟩⟩, hq⟩
theorem wx_iinc {j : Nat} {w : Int} {z z' : Int32} {ls' : List Value} (hc : zt_code M pc = some (.iinc j w, np, x, y, sw)) (hv : ls[j]? = some (.int z)) (hj : Nat.blt j ls.length = true) (hn : zm_nl ls j = true) (hz : z + Int32.ofInt w = z') (hs : ls.set j (.int z') = ls') (kk : zm_wp d M np ls' st h Q) : zm_wp d M pc ls st h Q := by
  subst hz
  subst hs
  obtain ⟨n, r, h', hr, hq⟩ := kk
  exact ⟨n + 1, r, h', ⟨_, hc, (by show zm_ld 0 ls j _; unfold zm_ld; rw [hv]; exact ⟨rfl, Nat.blt_eq.mp hj, hn, hr⟩)⟩, hq⟩
theorem wx_iadd {a b : Int32} (hc : zt_code M pc = some (.iadd, np, x, y, sw)) (kk : zm_wp d M np ls (.int (a + b) :: st) h Q) : zm_wp d M pc ls (.int b :: .int a :: st) h Q := by
  obtain ⟨n, r, h', hr, hq⟩ := kk
  exact ⟨n + 1, r, h', ⟨_, hc, hr⟩, hq⟩
theorem wx_isub {a b : Int32} (hc : zt_code M pc = some (.isub, np, x, y, sw)) (kk : zm_wp d M np ls (.int (a - b) :: st) h Q) : zm_wp d M pc ls (.int b :: .int a :: st) h Q := by
  obtain ⟨n, r, h', hr, hq⟩ := kk
  exact ⟨n + 1, r, h', ⟨_, hc, hr⟩, hq⟩
theorem wx_imul {a b : Int32} (hc : zt_code M pc = some (.imul, np, x, y, sw)) (kk : zm_wp d M np ls (.int (a * b) :: st) h Q) : zm_wp d M pc ls (.int b :: .int a :: st) h Q := by
  obtain ⟨n, r, h', hr, hq⟩ := kk
  exact ⟨n + 1, r, h', ⟨_, hc, hr⟩, hq⟩
theorem wx_iand {a b : Int32} (hc : zt_code M pc = some (.iand, np, x, y, sw)) (kk : zm_wp d M np ls (.int (a &&& b) :: st) h Q) : zm_wp d M pc ls (.int b :: .int a :: st) h Q := by
  obtain ⟨n, r, h', hr, hq⟩ := kk
  exact ⟨n + 1, r, h', ⟨_, hc, hr⟩, hq⟩
theorem wx_ior {a b : Int32} (hc : zt_code M pc = some (.ior, np, x, y, sw)) (kk : zm_wp d M np ls (.int (a ||| b) :: st) h Q) : zm_wp d M pc ls (.int b :: .int a :: st) h Q := by
  obtain ⟨n, r, h', hr, hq⟩ := kk
  exact ⟨n + 1, r, h', ⟨_, hc, hr⟩, hq⟩
theorem wx_ixor {a b : Int32} (hc : zt_code M pc = some (.ixor, np, x, y, sw)) (kk : zm_wp d M np ls (.int (a ^^^ b) :: st) h Q) : zm_wp d M pc ls (.int b :: .int a :: st) h Q := by
  obtain ⟨n, r, h', hr, hq⟩ := kk
  exact ⟨n + 1, r, h', ⟨_, hc, hr⟩, hq⟩
theorem wx_land {a b : Int64} (hc : zt_code M pc = some (.land, np, x, y, sw)) (kk : zm_wp d M np ls (.long (a &&& b) :: st) h Q) : zm_wp d M pc ls (.long b :: .long a :: st) h Q := by
  obtain ⟨n, r, h', hr, hq⟩ := kk
  exact ⟨n + 1, r, h', ⟨_, hc, hr⟩, hq⟩
theorem wx_lor {a b : Int64} (hc : zt_code M pc = some (.lor, np, x, y, sw)) (kk : zm_wp d M np ls (.long (a ||| b) :: st) h Q) : zm_wp d M pc ls (.long b :: .long a :: st) h Q := by
  obtain ⟨n, r, h', hr, hq⟩ := kk
  exact ⟨n + 1, r, h', ⟨_, hc, hr⟩, hq⟩
theorem wx_lushr {a : Int64} {b : Int32} (hc : zt_code M pc = some (.lushr, np, x, y, sw)) (kk : zm_wp d M np ls (.long (a.toUInt64 >>> (b.toInt64.toUInt64 &&& Int64.toUInt64 63)).toInt64 :: st) h Q) : zm_wp d M pc ls (.int b :: .long a :: st) h Q := by
  obtain ⟨n, r, h', hr, hq⟩ := kk
  exact ⟨n + 1, r, h', ⟨_, hc, hr⟩, hq⟩
theorem wx_lshr {a : Int64} {b : Int32} (hc : zt_code M pc = some (.lshr, np, x, y, sw)) (kk : zm_wp d M np ls (.long (a >>> (b.toInt64 &&& 63)) :: st) h Q) : zm_wp d M pc ls (.int b :: .long a :: st) h Q := by
  obtain ⟨n, r, h', hr, hq⟩ := kk
  exact ⟨n + 1, r, h', ⟨_, hc, hr⟩, hq⟩
theorem wx_lshl {a : Int64} {b : Int32} (hc : zt_code M pc = some (.lshl, np, x, y, sw)) (kk : zm_wp d M np ls (.long (a <<< (b.toInt64 &&& 63)) :: st) h Q) : zm_wp d M pc ls (.int b :: .long a :: st) h Q := by
  obtain ⟨n, r, h', hr, hq⟩ := kk
  exact ⟨n + 1, r, h', ⟨_, hc, hr⟩, hq⟩
theorem wx_l2i {a : Int64} (hc : zt_code M pc = some (.l2i, np, x, y, sw)) (kk : zm_wp d M np ls (.int a.toInt32 :: st) h Q) : zm_wp d M pc ls (.long a :: st) h Q := by
  obtain ⟨n, r, h', hr, hq⟩ := kk
  exact ⟨n + 1, r, h', ⟨_, hc, hr⟩, hq⟩
theorem wx_i2l {a : Int32} (hc : zt_code M pc = some (.i2l, np, x, y, sw)) (kk : zm_wp d M np ls (.long a.toInt64 :: st) h Q) : zm_wp d M pc ls (.int a :: st) h Q := by
  obtain ⟨n, r, h', hr, hq⟩ := kk
  exact ⟨n + 1, r, h', ⟨_, hc, hr⟩, hq⟩
theorem wx_i2b {a : Int32} (hc : zt_code M pc = some (.i2b, np, x, y, sw)) (kk : zm_wp d M np ls (.int a.toInt8.toInt32 :: st) h Q) : zm_wp d M pc ls (.int a :: st) h Q := by
  obtain ⟨n, r, h', hr, hq⟩ := kk
  exact ⟨n + 1, r, h', ⟨_, hc, hr⟩, hq⟩
theorem wx_dup {v : Value} (hc : zt_code M pc = some (.dup, np, x, y, sw)) (hv : zm_c1 v = true) (kk : zm_wp d M np ls (v :: v :: st) h Q) : zm_wp d M pc ls (v :: st) h Q := by
  obtain ⟨n, r, h', hr, hq⟩ := kk
  exact ⟨n + 1, r, h', ⟨_, hc, ⟨hv, hr⟩⟩, hq⟩
theorem wx_pop {v : Value} (hc : zt_code M pc = some (.pop, np, x, y, sw)) (hv : zm_c1 v = true) (kk : zm_wp d M np ls st h Q) : zm_wp d M pc ls (v :: st) h Q := by
  obtain ⟨n, r, h', hr, hq⟩ := kk
  exact ⟨n + 1, r, h', ⟨_, hc, ⟨hv, hr⟩⟩, hq⟩
theorem wx_dup_x1 {v w : Value} (hc : zt_code M pc = some (.dup_x1, np, x, y, sw)) (hv : zm_c1 v = true) (hw : zm_c1 w = true) (kk : zm_wp d M np ls (v :: w :: v :: st) h Q) : zm_wp d M pc ls (v :: w :: st) h Q := by
  obtain ⟨n, r, h', hr, hq⟩ := kk
  exact ⟨n + 1, r, h', ⟨_, hc, ⟨hv, hw, hr⟩⟩, hq⟩
theorem wx_dup2 {v w : Value} (hc : zt_code M pc = some (.dup2, np, x, y, sw)) (hv : zm_c1 v = true) (hw : zm_c1 w = true) (kk : zm_wp d M np ls (v :: w :: v :: w :: st) h Q) : zm_wp d M pc ls (v :: w :: st) h Q := by
  obtain ⟨n, r, h', hr, hq⟩ := kk
  exact ⟨n + 1, r, h', ⟨_, hc, ⟨hv, hw, hr⟩⟩, hq⟩
theorem wx_if_eq {a : Int32} {o : Int} (hc : zt_code M pc = some (.ifCond .eq o, np, x, y, sw)) (kt : a = 0 → zm_wp d M x ls st h Q) (kf : ¬ (a = 0) → zm_wp d M np ls st h Q) : zm_wp d M pc ls (.int a :: st) h Q := by
  rcases Classical.em (a = 0) with q | q
  · obtain ⟨n, r, h', hr, hq⟩ := kt q
    exact ⟨n + 1, r, h', ⟨_, hc, ⟨fun _ => hr, fun z => absurd q z⟩⟩, hq⟩
  · obtain ⟨n, r, h', hr, hq⟩ := kf q
    exact ⟨n + 1, r, h', ⟨_, hc, ⟨fun z => absurd z q, fun _ => hr⟩⟩, hq⟩
theorem wx_icmp_eq {a b : Int32} {o : Int} (hc : zt_code M pc = some (.if_icmp .eq o, np, x, y, sw)) (kt : a = b → zm_wp d M x ls st h Q) (kf : ¬ (a = b) → zm_wp d M np ls st h Q) : zm_wp d M pc ls (.int b :: .int a :: st) h Q := by
  rcases Classical.em (a = b) with q | q
  · obtain ⟨n, r, h', hr, hq⟩ := kt q
    exact ⟨n + 1, r, h', ⟨_, hc, ⟨fun _ => hr, fun z => absurd q z⟩⟩, hq⟩
  · obtain ⟨n, r, h', hr, hq⟩ := kf q
    exact ⟨n + 1, r, h', ⟨_, hc, ⟨fun z => absurd z q, fun _ => hr⟩⟩, hq⟩
theorem wx_if_ne {a : Int32} {o : Int} (hc : zt_code M pc = some (.ifCond .ne o, np, x, y, sw)) (kt : ¬ a = 0 → zm_wp d M x ls st h Q) (kf : a = 0 → zm_wp d M np ls st h Q) : zm_wp d M pc ls (.int a :: st) h Q := by
  rcases Classical.em (¬ a = 0) with q | q
  · obtain ⟨n, r, h', hr, hq⟩ := kt q
    exact ⟨n + 1, r, h', ⟨_, hc, ⟨fun _ => hr, fun z => absurd q z⟩⟩, hq⟩
  · obtain ⟨n, r, h', hr, hq⟩ := kf (Classical.not_not.mp q)
    exact ⟨n + 1, r, h', ⟨_, hc, ⟨fun z => absurd z q, fun _ => hr⟩⟩, hq⟩
theorem wx_icmp_ne {a b : Int32} {o : Int} (hc : zt_code M pc = some (.if_icmp .ne o, np, x, y, sw)) (kt : ¬ a = b → zm_wp d M x ls st h Q) (kf : a = b → zm_wp d M np ls st h Q) : zm_wp d M pc ls (.int b :: .int a :: st) h Q := by
  rcases Classical.em (¬ a = b) with q | q
  · obtain ⟨n, r, h', hr, hq⟩ := kt q
    exact ⟨n + 1, r, h', ⟨_, hc, ⟨fun _ => hr, fun z => absurd q z⟩⟩, hq⟩
  · obtain ⟨n, r, h', hr, hq⟩ := kf (Classical.not_not.mp q)
    exact ⟨n + 1, r, h', ⟨_, hc, ⟨fun z => absurd z q, fun _ => hr⟩⟩, hq⟩
theorem wx_if_lt {a : Int32} {o : Int} (hc : zt_code M pc = some (.ifCond .lt o, np, x, y, sw)) (kt : a < 0 → zm_wp d M x ls st h Q) (kf : ¬ (a < 0) → zm_wp d M np ls st h Q) : zm_wp d M pc ls (.int a :: st) h Q := by
  rcases Classical.em (a < 0) with q | q
  · obtain ⟨n, r, h', hr, hq⟩ := kt q
    exact ⟨n + 1, r, h', ⟨_, hc, ⟨fun _ => hr, fun z => absurd q z⟩⟩, hq⟩
  · obtain ⟨n, r, h', hr, hq⟩ := kf q
    exact ⟨n + 1, r, h', ⟨_, hc, ⟨fun z => absurd z q, fun _ => hr⟩⟩, hq⟩
theorem wx_icmp_lt {a b : Int32} {o : Int} (hc : zt_code M pc = some (.if_icmp .lt o, np, x, y, sw)) (kt : a < b → zm_wp d M x ls st h Q) (kf : ¬ (a < b) → zm_wp d M np ls st h Q) : zm_wp d M pc ls (.int b :: .int a :: st) h Q := by
  rcases Classical.em (a < b) with q | q
  · obtain ⟨n, r, h', hr, hq⟩ := kt q
    exact ⟨n + 1, r, h', ⟨_, hc, ⟨fun _ => hr, fun z => absurd q z⟩⟩, hq⟩
  · obtain ⟨n, r, h', hr, hq⟩ := kf q
    exact ⟨n + 1, r, h', ⟨_, hc, ⟨fun z => absurd z q, fun _ => hr⟩⟩, hq⟩
theorem wx_if_ge {a : Int32} {o : Int} (hc : zt_code M pc = some (.ifCond .ge o, np, x, y, sw)) (kt : 0 ≤ a → zm_wp d M x ls st h Q) (kf : ¬ (0 ≤ a) → zm_wp d M np ls st h Q) : zm_wp d M pc ls (.int a :: st) h Q := by
  rcases Classical.em (0 ≤ a) with q | q
  · obtain ⟨n, r, h', hr, hq⟩ := kt q
    exact ⟨n + 1, r, h', ⟨_, hc, ⟨fun _ => hr, fun z => absurd q z⟩⟩, hq⟩
  · obtain ⟨n, r, h', hr, hq⟩ := kf q
    exact ⟨n + 1, r, h', ⟨_, hc, ⟨fun z => absurd z q, fun _ => hr⟩⟩, hq⟩
theorem wx_icmp_ge {a b : Int32} {o : Int} (hc : zt_code M pc = some (.if_icmp .ge o, np, x, y, sw)) (kt : b ≤ a → zm_wp d M x ls st h Q) (kf : ¬ (b ≤ a) → zm_wp d M np ls st h Q) : zm_wp d M pc ls (.int b :: .int a :: st) h Q := by
  rcases Classical.em (b ≤ a) with q | q
  · obtain ⟨n, r, h', hr, hq⟩ := kt q
    exact ⟨n + 1, r, h', ⟨_, hc, ⟨fun _ => hr, fun z => absurd q z⟩⟩, hq⟩
  · obtain ⟨n, r, h', hr, hq⟩ := kf q
    exact ⟨n + 1, r, h', ⟨_, hc, ⟨fun z => absurd z q, fun _ => hr⟩⟩, hq⟩
theorem wx_if_gt {a : Int32} {o : Int} (hc : zt_code M pc = some (.ifCond .gt o, np, x, y, sw)) (kt : 0 < a → zm_wp d M x ls st h Q) (kf : ¬ (0 < a) → zm_wp d M np ls st h Q) : zm_wp d M pc ls (.int a :: st) h Q := by
  rcases Classical.em (0 < a) with q | q
  · obtain ⟨n, r, h', hr, hq⟩ := kt q
    exact ⟨n + 1, r, h', ⟨_, hc, ⟨fun _ => hr, fun z => absurd q z⟩⟩, hq⟩
  · obtain ⟨n, r, h', hr, hq⟩ := kf q
    exact ⟨n + 1, r, h', ⟨_, hc, ⟨fun z => absurd z q, fun _ => hr⟩⟩, hq⟩
theorem wx_icmp_gt {a b : Int32} {o : Int} (hc : zt_code M pc = some (.if_icmp .gt o, np, x, y, sw)) (kt : b < a → zm_wp d M x ls st h Q) (kf : ¬ (b < a) → zm_wp d M np ls st h Q) : zm_wp d M pc ls (.int b :: .int a :: st) h Q := by
  rcases Classical.em (b < a) with q | q
  · obtain ⟨n, r, h', hr, hq⟩ := kt q
    exact ⟨n + 1, r, h', ⟨_, hc, ⟨fun _ => hr, fun z => absurd q z⟩⟩, hq⟩
  · obtain ⟨n, r, h', hr, hq⟩ := kf q
    exact ⟨n + 1, r, h', ⟨_, hc, ⟨fun z => absurd z q, fun _ => hr⟩⟩, hq⟩
theorem wx_if_le {a : Int32} {o : Int} (hc : zt_code M pc = some (.ifCond .le o, np, x, y, sw)) (kt : a ≤ 0 → zm_wp d M x ls st h Q) (kf : ¬ (a ≤ 0) → zm_wp d M np ls st h Q) : zm_wp d M pc ls (.int a :: st) h Q := by
  rcases Classical.em (a ≤ 0) with q | q
  · obtain ⟨n, r, h', hr, hq⟩ := kt q
    exact ⟨n + 1, r, h', ⟨_, hc, ⟨fun _ => hr, fun z => absurd q z⟩⟩, hq⟩
  · obtain ⟨n, r, h', hr, hq⟩ := kf q
    exact ⟨n + 1, r, h', ⟨_, hc, ⟨fun z => absurd z q, fun _ => hr⟩⟩, hq⟩
theorem wx_icmp_le {a b : Int32} {o : Int} (hc : zt_code M pc = some (.if_icmp .le o, np, x, y, sw)) (kt : a ≤ b → zm_wp d M x ls st h Q) (kf : ¬ (a ≤ b) → zm_wp d M np ls st h Q) : zm_wp d M pc ls (.int b :: .int a :: st) h Q := by
  rcases Classical.em (a ≤ b) with q | q
  · obtain ⟨n, r, h', hr, hq⟩ := kt q
    exact ⟨n + 1, r, h', ⟨_, hc, ⟨fun _ => hr, fun z => absurd q z⟩⟩, hq⟩
  · obtain ⟨n, r, h', hr, hq⟩ := kf q
    exact ⟨n + 1, r, h', ⟨_, hc, ⟨fun z => absurd z q, fun _ => hr⟩⟩, hq⟩
theorem wx_acmp_eq {a b : Value} {o : Int} (hc : zt_code M pc = some (.if_acmp .eq o, np, x, y, sw)) (ka : zm_isK 2 a = true) (kb : zm_isK 2 b = true) (kt : a = b → zm_wp d M x ls st h Q) (kf : ¬ a = b → zm_wp d M np ls st h Q) : zm_wp d M pc ls (b :: a :: st) h Q := by
  rcases Classical.em (a = b) with q | q
  · obtain ⟨n, r, h', hr, hq⟩ := kt q
    exact ⟨n + 1, r, h', ⟨_, hc, ⟨ka, kb, fun _ => hr, fun z => absurd q z⟩⟩, hq⟩
  · obtain ⟨n, r, h', hr, hq⟩ := kf q
    exact ⟨n + 1, r, h', ⟨_, hc, ⟨ka, kb, fun z => absurd z q, fun _ => hr⟩⟩, hq⟩
theorem wx_acmp_ne {a b : Value} {o : Int} (hc : zt_code M pc = some (.if_acmp .ne o, np, x, y, sw)) (ka : zm_isK 2 a = true) (kb : zm_isK 2 b = true) (kt : ¬ a = b → zm_wp d M x ls st h Q) (kf : a = b → zm_wp d M np ls st h Q) : zm_wp d M pc ls (b :: a :: st) h Q := by
  rcases Classical.em (a = b) with q | q
  · obtain ⟨n, r, h', hr, hq⟩ := kf q
    exact ⟨n + 1, r, h', ⟨_, hc, ⟨ka, kb, fun z => absurd q z, fun _ => hr⟩⟩, hq⟩
  · obtain ⟨n, r, h', hr, hq⟩ := kt q
    exact ⟨n + 1, r, h', ⟨_, hc, ⟨ka, kb, fun _ => hr, fun z => absurd z q⟩⟩, hq⟩
theorem wx_ifnullN {o : Int} (hc : zt_code M pc = some (.ifnull o, np, x, y, sw)) (kk : zm_wp d M x ls st h Q) : zm_wp d M pc ls (.null :: st) h Q := by
  obtain ⟨n, r, h', hr, hq⟩ := kk
  exact ⟨n + 1, r, h', ⟨_, hc, hr⟩, hq⟩
theorem wx_ifnullR {o : Int} {a : Nat} (hc : zt_code M pc = some (.ifnull o, np, x, y, sw)) (kk : zm_wp d M np ls st h Q) : zm_wp d M pc ls (.ref a :: st) h Q := by
  obtain ⟨n, r, h', hr, hq⟩ := kk
  exact ⟨n + 1, r, h', ⟨_, hc, hr⟩, hq⟩
theorem wx_ifnonnullN {o : Int} (hc : zt_code M pc = some (.ifnonnull o, np, x, y, sw)) (kk : zm_wp d M np ls st h Q) : zm_wp d M pc ls (.null :: st) h Q := by
  obtain ⟨n, r, h', hr, hq⟩ := kk
  exact ⟨n + 1, r, h', ⟨_, hc, hr⟩, hq⟩
theorem wx_ifnonnullR {o : Int} {a : Nat} (hc : zt_code M pc = some (.ifnonnull o, np, x, y, sw)) (kk : zm_wp d M x ls st h Q) : zm_wp d M pc ls (.ref a :: st) h Q := by
  obtain ⟨n, r, h', hr, hq⟩ := kk
  exact ⟨n + 1, r, h', ⟨_, hc, hr⟩, hq⟩
theorem wx_goto {o : Int} (hc : zt_code M pc = some (.goto o, np, x, y, sw)) (kk : zm_wp d M x ls st h Q) : zm_wp d M pc ls st h Q := by
  obtain ⟨n, r, h', hr, hq⟩ := kk
  exact ⟨n + 1, r, h', ⟨_, hc, hr⟩, hq⟩
theorem wx_tableswitch {a : Int32} {q1 q2 q3 : Int} {os : Array Int} {tgt : Nat} (hc : zt_code M pc = some (.tableswitch q1 q2 q3 os, np, x, y, sw)) (ht : zm_sw x sw a.toInt = tgt) (kk : zm_wp d M tgt ls st h Q) : zm_wp d M pc ls (.int a :: st) h Q := by
  subst ht
  obtain ⟨n, r, h', hr, hq⟩ := kk
  exact ⟨n + 1, r, h', ⟨_, hc, hr⟩, hq⟩
theorem wx_getfield {o a : Nat} {v : Value} (hc : zt_code M pc = some (.getfield o, np, x, y, sw)) (hi : zm_is h a x) (hv : zm_at h a y = v) (kk : zm_wp d M np ls (v :: st) h Q) : zm_wp d M pc ls (.ref a :: st) h Q := by
  subst hv
  obtain ⟨n, r, h', hr, hq⟩ := kk
  exact ⟨n + 1, r, h', ⟨_, hc, ⟨hi, hr⟩⟩, hq⟩
theorem wx_putfield {o a : Nat} {v : Value} (hc : zt_code M pc = some (.putfield o, np, x, y, sw)) (hi : zm_is h a x) (hf : zm_fit (zt_ty x y) v = true) (kk : zm_wp d M np ls st (zm_put h a y v) Q) : zm_wp d M pc ls (v :: .ref a :: st) h Q := by
  obtain ⟨n, r, h', hr, hq⟩ := kk
  exact ⟨n + 1, r, h', ⟨_, hc, ⟨hi, hf, hr⟩⟩, hq⟩
theorem wx_new {o : Nat} (hc : zt_code M pc = some (.new o, np, x, y, sw)) (kk : zm_wp d M np ls (.ref (zm_nx h) :: st) (zm_mk h x y (zt_df x)) Q) : zm_wp d M pc ls st h Q := by
  obtain ⟨n, r, h', hr, hq⟩ := kk
  exact ⟨n + 1, r, h', ⟨_, hc, hr⟩, hq⟩
theorem wx_newarray {o : ArrayType} {w : Int32} (N : Nat) (hc : zt_code M pc = some (.newarray o, np, x, y, sw)) (h1 : ¬ w < 0) (hN : w.toNatClampNeg = N) (h2 : N ≤ 60000000) (kk : zm_wp d M np ls (.ref (zm_nx h) :: st) (zm_mk h x N (fun _ => zm_df x)) Q) : zm_wp d M pc ls (.int w :: st) h Q := by
  subst hN
  obtain ⟨n, r, h', hr, hq⟩ := kk
  exact ⟨n + 1, r, h', ⟨_, hc, ⟨h1, h2, hr⟩⟩, hq⟩
theorem wx_anewarray {o : Nat} {w : Int32} (N : Nat) (hc : zt_code M pc = some (.anewarray o, np, x, y, sw)) (h1 : ¬ w < 0) (hN : w.toNatClampNeg = N) (h2 : N ≤ 60000000) (kk : zm_wp d M np ls (.ref (zm_nx h) :: st) (zm_mk h x N (fun _ => zm_df x)) Q) : zm_wp d M pc ls (.int w :: st) h Q := by
  subst hN
  obtain ⟨n, r, h', hr, hq⟩ := kk
  exact ⟨n + 1, r, h', ⟨_, hc, ⟨h1, h2, hr⟩⟩, hq⟩
theorem wx_arraylength {a N : Nat} (hc : zt_code M pc = some (.arraylength, np, x, y, sw)) (ha : a < zm_nx h) (ht : (zt_at (zm_tg h a)).isSome = true) (hN : zm_ln h a = N) (kk : zm_wp d M np ls (.int (nI N) :: st) h Q) : zm_wp d M pc ls (.ref a :: st) h Q := by
  subst hN
  obtain ⟨n, r, h', hr, hq⟩ := kk
  exact ⟨n + 1, r, h', ⟨_, hc, ⟨ha, ht, hr⟩⟩, hq⟩
theorem wx_iaload {a j : Nat} {v : Value} (hc : zt_code M pc = some (.iaload, np, x, y, sw)) (ha : a < zm_nx h) (ht : zm_tg h a = 101) (hj : j < zm_ln h a) (hb : zm_ln h a < 2 ^ 31) (hv : zm_at h a j = v) (kk : zm_wp d M np ls (v :: st) h Q) : zm_wp d M pc ls (.int (nI j) :: .ref a :: st) h Q := by
  subst hv
  obtain ⟨n, r, h', hr, hq⟩ := kk
  refine ⟨n + 1, r, h', ⟨_, hc, ⟨ha, by rw [ht]; rfl, vp_in_nI hj hb, ?_⟩⟩, hq⟩
  rw [nI_clamp (Nat.lt_trans hj hb)]
  exact hr
theorem wx_baload {a j : Nat} {v : Value} (hc : zt_code M pc = some (.baload, np, x, y, sw)) (ha : a < zm_nx h) (ht : zm_tg h a = 100) (hj : j < zm_ln h a) (hb : zm_ln h a < 2 ^ 31) (hv : zm_at h a j = v) (kk : zm_wp d M np ls (v :: st) h Q) : zm_wp d M pc ls (.int (nI j) :: .ref a :: st) h Q := by
  subst hv
  obtain ⟨n, r, h', hr, hq⟩ := kk
  refine ⟨n + 1, r, h', ⟨_, hc, ⟨ha, by rw [ht]; rfl, vp_in_nI hj hb, ?_⟩⟩, hq⟩
  rw [nI_clamp (Nat.lt_trans hj hb)]
  exact hr
theorem wx_aaload {a j : Nat} {v : Value} (hc : zt_code M pc = some (.aaload, np, x, y, sw)) (ha : a < zm_nx h) (ht : zm_ro (zm_tg h a) = true) (hj : j < zm_ln h a) (hb : zm_ln h a < 2 ^ 31) (hv : zm_at h a j = v) (kk : zm_wp d M np ls (v :: st) h Q) : zm_wp d M pc ls (.int (nI j) :: .ref a :: st) h Q := by
  subst hv
  obtain ⟨n, r, h', hr, hq⟩ := kk
  refine ⟨n + 1, r, h', ⟨_, hc, ⟨ha, ht, vp_in_nI hj hb, ?_⟩⟩, hq⟩
  rw [nI_clamp (Nat.lt_trans hj hb)]
  exact hr
theorem wx_iastore {a j : Nat} {v : Int32} (hc : zt_code M pc = some (.iastore, np, x, y, sw)) (hi : zm_is h a 101) (hj : j < zm_ln h a) (hb : zm_ln h a < 2 ^ 31) (kk : zm_wp d M np ls st (zm_put h a j (.int v)) Q) : zm_wp d M pc ls (.int v :: .int (nI j) :: .ref a :: st) h Q := by
  obtain ⟨n, r, h', hr, hq⟩ := kk
  refine ⟨n + 1, r, h', ⟨_, hc, ⟨hi, vp_in_nI hj hb, ?_⟩⟩, hq⟩
  rw [nI_clamp (Nat.lt_trans hj hb)]
  exact hr
theorem wx_bastore {a j : Nat} {v : Int32} (hc : zt_code M pc = some (.bastore, np, x, y, sw)) (hi : zm_is h a 100) (hj : j < zm_ln h a) (hb : zm_ln h a < 2 ^ 31) (kk : zm_wp d M np ls st (zm_put h a j (.int v.toInt8.toInt32)) Q) : zm_wp d M pc ls (.int v :: .int (nI j) :: .ref a :: st) h Q := by
  obtain ⟨n, r, h', hr, hq⟩ := kk
  refine ⟨n + 1, r, h', ⟨_, hc, ⟨hi, vp_in_nI hj hb, ?_⟩⟩, hq⟩
  rw [nI_clamp (Nat.lt_trans hj hb)]
  exact hr
theorem wx_aastore {a b j t : Nat} (hc : zt_code M pc = some (.aastore, np, x, y, sw)) (hi : zm_is h a t) (ht : zm_ro t = true) (hb2 : zm_is h b (t - 200)) (hj : j < zm_ln h a) (hb : zm_ln h a < 2 ^ 31) (kk : zm_wp d M np ls st (zm_put h a j (.ref b)) Q) : zm_wp d M pc ls (.ref b :: .int (nI j) :: .ref a :: st) h Q := by
  obtain ⟨n, r, h', hr, hq⟩ := kk
  refine ⟨n + 1, r, h', ⟨_, hc, ⟨by rw [hi.2.2]; exact ht, ⟨hi.1, hi.2.1, rfl⟩, by rw [hi.2.2]; exact hb2, vp_in_nI hj hb, ?_⟩⟩, hq⟩
  rw [nI_clamp (Nat.lt_trans hj hb)]
  exact hr
theorem wx_max {o : Nat} {a b : Int32} (hc : zt_code M pc = some (.invokestatic o, np, 1001, y, sw)) (h4 : Nat.ble st.length 4 = true) (kk : zm_wp d M np ls (.int (if a < b then b else a) :: st) h Q) : zm_wp d M pc ls (.int b :: .int a :: st) h Q := by
  obtain ⟨n, r, h', hr, hq⟩ := kk
  exact ⟨n + 1, r, h', ⟨_, hc, ⟨Nat.le_of_ble_eq_true h4, hr⟩⟩, hq⟩
theorem wx_min {o : Nat} {a b : Int32} (hc : zt_code M pc = some (.invokestatic o, np, 1002, y, sw)) (h4 : Nat.ble st.length 4 = true) (kk : zm_wp d M np ls (.int (if b < a then b else a) :: st) h Q) : zm_wp d M pc ls (.int b :: .int a :: st) h Q := by
  obtain ⟨n, r, h', hr, hq⟩ := kk
  exact ⟨n + 1, r, h', ⟨_, hc, ⟨Nat.le_of_ble_eq_true h4, hr⟩⟩, hq⟩
theorem wx_copy {o a b sp dp w : Nat} (hc : zt_code M pc = some (.invokestatic o, np, 1003, y, sw)) (h4 : Nat.ble st.length 4 = true) (ia : zm_is h a 100) (ib : zm_is h b 100) (g1 : sp + w ≤ zm_ln h a) (g2 : dp + w ≤ zm_ln h b) (b1 : zm_ln h a < 2 ^ 31) (b2 : zm_ln h b < 2 ^ 31) (hf : ∀ i, i < w → zm_fit .byte (zm_at h a (sp + i)) = true) (kk : zm_wp d M np ls st (zm_cp h a sp b dp w) Q) : zm_wp d M pc ls (.int (nI w) :: .int (nI dp) :: .ref b :: .int (nI sp) :: .ref a :: st) h Q := by
  obtain ⟨n, r, h', hr, hq⟩ := kk
  have e1 : (nI w).toNatClampNeg = w := nI_clamp (by omega)
  have e2 : (nI dp).toNatClampNeg = dp := nI_clamp (by omega)
  have e3 : (nI sp).toNatClampNeg = sp := nI_clamp (by omega)
  refine ⟨n + 1, r, h', ⟨_, hc, ⟨Nat.le_of_ble_eq_true h4, ia, ib, nI_pos (by omega), nI_pos (by omega), nI_pos (by omega), by rw [e1, e3]; exact g1, by rw [e1, e2]; exact g2, by rw [e1, e3]; exact hf, ?_⟩⟩, hq⟩
  rw [e1, e2, e3]
  exact hr
theorem wx_static {o : Nat} (hc : zt_code M pc = some (.invokestatic o, np, x, y, sw)) (hx : Nat.blt x 1000 = true) (hn : Nat.ble y st.length = true) (h4 : Nat.ble (st.drop y).length 4 = true) (kk : zm_wc d x (zm_ar y st) h (fun r1 h1 => zm_wp d M np ls (r1.toList ++ st.drop y) h1 Q)) : zm_wp d M pc ls st h Q := by
  obtain ⟨r1, h1, hca, n, r, h', hr, hq⟩ := kk
  have hx : ¬ 1000 < x := by have := Nat.blt_eq.mp hx; omega
  refine ⟨n + 1, r, h', ⟨_, hc, ?_⟩, hq⟩
  show zm_ex (zm_ca d) _ np x y sw ls st h (zt_rt M) r h' (.invokestatic o)
  simp only [zm_ex, if_neg hx]
  exact ⟨Nat.le_of_ble_eq_true hn, Nat.le_of_ble_eq_true h4, r1, h1, hca, hr⟩
theorem wx_virtual {o a : Nat} (hc : zt_code M pc = some (.invokevirtual o, np, x, y, sw)) (ha : st[y]? = some (.ref a)) (hi : zm_is h a (zt_mc x)) (h4 : Nat.ble (st.drop (y + 1)).length 4 = true) (kk : zm_wc d x (zm_ar (y + 1) st) h (fun r1 h1 => zm_wp d M np ls (r1.toList ++ st.drop (y + 1)) h1 Q)) : zm_wp d M pc ls st h Q := by
  obtain ⟨r1, h1, hca, n, r, h', hr, hq⟩ := kk
  have hl : y + 1 ≤ st.length := (List.getElem?_eq_some_iff.mp ha).1
  exact ⟨n + 1, r, h', ⟨_, hc, ⟨⟨a, ha, hi⟩, hl, Nat.le_of_ble_eq_true h4, r1, h1, hca, hr⟩⟩, hq⟩
theorem wx_special {o a : Nat} (hc : zt_code M pc = some (.invokespecial o, np, x, y, sw)) (hx : Nat.blt x 1000 = true) (ha : st[y]? = some (.ref a)) (h4 : Nat.ble (st.drop (y + 1)).length 4 = true) (kk : zm_wc d x (zm_ar (y + 1) st) h (fun r1 h1 => zm_wp d M np ls (r1.toList ++ st.drop (y + 1)) h1 Q)) : zm_wp d M pc ls st h Q := by
  obtain ⟨r1, h1, hca, n, r, h', hr, hq⟩ := kk
  have hl : y + 1 ≤ st.length := (List.getElem?_eq_some_iff.mp ha).1
  have hx : ¬ x = 1000 := by have := Nat.blt_eq.mp hx; omega
  refine ⟨n + 1, r, h', ⟨_, hc, ?_⟩, hq⟩
  show zm_ex (zm_ca d) _ np x y sw ls st h (zt_rt M) r h' (.invokespecial o)
  simp only [zm_ex, if_neg hx]
  exact ⟨⟨a, ha⟩, hl, Nat.le_of_ble_eq_true h4, r1, h1, hca, hr⟩
theorem wx_objinit {o a : Nat} (hc : zt_code M pc = some (.invokespecial o, np, 1000, y, sw)) (h4 : Nat.ble st.length 4 = true) (kk : zm_wp d M np ls st h Q) : zm_wp d M pc ls (.ref a :: st) h Q := by
  obtain ⟨n, r, h', hr, hq⟩ := kk
  exact ⟨n + 1, r, h', ⟨_, hc, ⟨Nat.le_of_ble_eq_true h4, hr⟩⟩, hq⟩
theorem wx_ireturn {v : Int32} {ty : FieldType} (hc : zt_code M pc = some (.ireturn, np, x, y, sw)) (ht : zt_rt M = some ty) (hf : zm_fit ty (.int v) = true) (hq : Q (some (.int v)) h) : zm_wp d M pc ls [.int v] h Q := ⟨1, _, _, ⟨_, hc, ⟨rfl, rfl, ty, ht, hf⟩⟩, hq⟩
theorem wx_areturn {v : Value} {ty : FieldType} (hc : zt_code M pc = some (.areturn, np, x, y, sw)) (hk : zm_isK 2 v = true) (ht : zt_rt M = some ty) (hf : zm_fit ty v = true) (hq : Q (some v) h) : zm_wp d M pc ls [v] h Q := ⟨1, _, _, ⟨_, hc, ⟨rfl, rfl, hk, ty, ht, hf⟩⟩, hq⟩
theorem wx_return (hc : zt_code M pc = some (.return_, np, x, y, sw)) (ht : zt_rt M = none) (hq : Q none h) : zm_wp d M pc ls [] h Q := ⟨1, _, _, ⟨_, hc, ⟨rfl, rfl, rfl, ht⟩⟩, hq⟩
end
