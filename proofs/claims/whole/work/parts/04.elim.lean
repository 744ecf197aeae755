/-! what the small machine's steps give, taken apart -/
section
variable {P : Prop}
theorem zm_ld_el {k : Nat} {ls : List Value} {j : Nat} {K : Value → Prop} (h : zm_ld k ls j K) (f : ∀ v, ls[j]? = some v → zm_isK k v = true → K v → P) : P := by
  unfold zm_ld at h
  split at h
  · next v e => exact f v e h.1 h.2
  · exact h.elim
theorem zm_sto_el {k : Nat} {ls st : List Value} {j : Nat} {K : List Value → List Value → Prop} (h : zm_sto k ls st j K) (f : ∀ v t, st = v :: t → zm_isK k v = true → j < ls.length → zm_nl ls j = true → K (ls.set j v) t → P) : P := by
  unfold zm_sto at h
  split at h
  · next v t => exact f v t rfl h.1 h.2.1 h.2.2.1 h.2.2.2
  · exact h.elim
theorem zm_stoL_el {ls st : List Value} {j : Nat} {K : List Value → List Value → Prop} (h : zm_stoL ls st j K) (f : ∀ v t, st = v :: t → zm_isK 1 v = true → j + 1 < ls.length → zm_nl ls j = true → K ((ls.set j v).set (j + 1) zm_un) t → P) : P := by
  unfold zm_stoL at h
  split at h
  · next v t => exact f v t rfl h.1 h.2.1 h.2.2.1 h.2.2.2
  · exact h.elim
theorem zm_s1_el {st : List Value} {g : Int32 → Value} {K : List Value → Prop} (h : zm_s1 st g K) (f : ∀ x t, st = .int x :: t → K (g x :: t) → P) : P := by
  unfold zm_s1 at h
  split at h
  · next x t => exact f x t rfl h
  · exact h.elim
theorem zm_s2_el {st : List Value} {g : Int32 → Int32 → Value} {K : List Value → Prop} (h : zm_s2 st g K) (f : ∀ x y t, st = .int y :: .int x :: t → K (g x y :: t) → P) : P := by
  unfold zm_s2 at h
  split at h
  · next y x t => exact f x y t rfl h
  · exact h.elim
theorem zm_l1_el {st : List Value} {g : Int64 → Value} {K : List Value → Prop} (h : zm_l1 st g K) (f : ∀ x t, st = .long x :: t → K (g x :: t) → P) : P := by
  unfold zm_l1 at h
  split at h
  · next x t => exact f x t rfl h
  · exact h.elim
theorem zm_l2_el {st : List Value} {g : Int64 → Int64 → Value} {K : List Value → Prop} (h : zm_l2 st g K) (f : ∀ x y t, st = .long y :: .long x :: t → K (g x y :: t) → P) : P := by
  unfold zm_l2 at h
  split at h
  · next y x t => exact f x y t rfl h
  · exact h.elim
theorem zm_lsh_el {st : List Value} {g : Int64 → Int32 → Value} {K : List Value → Prop} (h : zm_lsh st g K) (f : ∀ x y t, st = .int y :: .long x :: t → K (g x y :: t) → P) : P := by
  unfold zm_lsh at h
  split at h
  · next y x t => exact f x y t rfl h
  · exact h.elim
theorem zm_rd_el {st : List Value} {h : zm_H} {T : Nat → Bool} {K : List Value → Prop} (hh : zm_rd st h T K) (f : ∀ i a t, st = .int i :: .ref a :: t → a < zm_nx h → T (zm_tg h a) = true → vp_in i (zm_ln h a) → K (zm_at h a i.toNatClampNeg :: t) → P) : P := by
  unfold zm_rd at hh
  split at hh
  · next i a t => exact f i a t rfl hh.1 hh.2.1 hh.2.2.1 hh.2.2.2
  · exact hh.elim
theorem zm_wr_el {st : List Value} {h : zm_H} {T : Nat} {g : Int32 → Int32} {K : List Value → zm_H → Prop} (hh : zm_wr st h T g K) (f : ∀ v i a t, st = .int v :: .int i :: .ref a :: t → zm_is h a T → vp_in i (zm_ln h a) → K t (zm_put h a i.toNatClampNeg (.int (g v))) → P) : P := by
  unfold zm_wr at hh
  split at hh
  · next v i a t => exact f v i a t rfl hh.1 hh.2.1 hh.2.2
  · exact hh.elim
end
theorem zm_isK0 {v : Value} (h : zm_isK 0 v = true) : ∃ x, v = .int x := by
  cases v <;> first | exact ⟨_, rfl⟩ | (simp [zm_isK] at h)
theorem zm_isK1 {v : Value} (h : zm_isK 1 v = true) : ∃ x, v = .long x := by
  cases v <;> first | exact ⟨_, rfl⟩ | (simp [zm_isK] at h)
theorem zm_isK2 {v : Value} (h : zm_isK 2 v = true) : v = .null ∨ ∃ a, v = .ref a := by
  cases v <;> first | exact Or.inl rfl | exact Or.inr ⟨_, rfl⟩ | (simp [zm_isK] at h)
theorem zm_fit_ok {ty : FieldType} {v : Value} (h : zm_fit ty v = true) : narrow ty v = v ∧ fits ty v = true := by
  cases ty <;> cases v <;> simp only [zm_fit, Bool.or_eq_true, beq_iff_eq, Bool.and_eq_true] at h <;> first | exact ⟨rfl, rfl⟩ | (rcases h with rfl | rfl <;> exact ⟨by decide, by decide⟩) | exact ⟨by rw [narrow_byte, h.1], h.2⟩ | (exact absurd h (by decide))
section
variable {C : Nat → List Value → zm_H → Option Value → zm_H → Prop} {k : Nat → List Value → List Value → zm_H → Prop} {np x y : Nat} {sw : List (Int × Nat)} {ls st : List Value} {h h' : zm_H} {ret : Option FieldType} {r : Option Value}
/-- nothing that was made goes -/
theorem zm_ex_mono (hC : ∀ M a h r h1, C M a h r h1 → zm_nx h ≤ zm_nx h1 ∧ zm_sl h ≤ zm_sl h1) (hk : ∀ pc ls st h, k pc ls st h → zm_nx h ≤ zm_nx h' ∧ zm_sl h ≤ zm_sl h') {i : Instr} (hx : zm_ex C k np x y sw ls st h ret r h' i) : zm_nx h ≤ zm_nx h' ∧ zm_sl h ≤ zm_sl h' := by
  have hcl : ∀ n, zm_cl C k np x ls st h n → zm_nx h ≤ zm_nx h' ∧ zm_sl h ≤ zm_sl h' := by
    intro n hn
    obtain ⟨-, -, r1, h1, c1, k1⟩ := hn
    have a1 := hC _ _ _ _ _ c1
    have a2 := hk _ _ _ _ k1
    exact ⟨Nat.le_trans a1.1 a2.1, Nat.le_trans a1.2 a2.2⟩
  have hmk : ∀ t n f (h2 : zm_nx (zm_mk h t n f) ≤ zm_nx h' ∧ zm_sl (zm_mk h t n f) ≤ zm_sl h'), zm_nx h ≤ zm_nx h' ∧ zm_sl h ≤ zm_sl h' := by
    intro t n f h2
    have e1 : zm_nx (zm_mk h t n f) = zm_nx h + 1 := rfl
    have e2 : zm_sl (zm_mk h t n f) = zm_sl h + n := rfl
    omega
  cases i with
  | iconst v | bipush v | sipush v | lconst v | aconst_null | goto o => exact hk _ _ _ _ hx
  | ldc v | ldc2_w v =>
    simp only [zm_ex] at hx
    split at hx
    · exact hk _ _ _ _ hx
    · exact hx.elim
  | iload j | iload_n j | lload j | lload_n j | aload j | aload_n j => exact zm_ld_el hx (fun v _ _ q => hk _ _ _ _ q)
  | istore j | istore_n j | astore j | astore_n j =>
    simp only [zm_ex] at hx
    exact zm_sto_el hx (fun v t _ _ _ _ q => hk _ _ _ _ q)
  | lstore j | lstore_n j =>
    simp only [zm_ex] at hx
    exact zm_stoL_el hx (fun v t _ _ _ _ q => hk _ _ _ _ q)
  | iinc j n =>
    refine zm_ld_el hx (fun v _ _ q => ?_)
    split at q
    · exact hk _ _ _ _ q.2.2
    · exact q.elim
  | iadd | isub | imul | iand | ior | ixor =>
    simp only [zm_ex] at hx
    exact zm_s2_el hx (fun _ _ _ _ q => hk _ _ _ _ q)
  | land | lor =>
    simp only [zm_ex] at hx
    exact zm_l2_el hx (fun _ _ _ _ q => hk _ _ _ _ q)
  | lushr | lshl | lshr =>
    simp only [zm_ex] at hx
    exact zm_lsh_el hx (fun _ _ _ _ q => hk _ _ _ _ q)
  | l2i =>
    simp only [zm_ex] at hx
    exact zm_l1_el hx (fun _ _ _ q => hk _ _ _ _ q)
  | i2l | i2b =>
    simp only [zm_ex] at hx
    exact zm_s1_el hx (fun _ _ _ q => hk _ _ _ _ q)
  | dup | pop =>
    simp only [zm_ex] at hx
    split at hx
    · exact hk _ _ _ _ hx.2
    · exact hx.elim
  | dup_x1 | dup2 =>
    simp only [zm_ex] at hx
    split at hx
    · exact hk _ _ _ _ hx.2.2
    · exact hx.elim
  | ifCond cd o | if_icmp cd o =>
    simp only [zm_ex] at hx
    split at hx
    · next a => exact (Classical.em _).elim (fun q => hk _ _ _ _ (hx.1 q)) (fun q => hk _ _ _ _ (hx.2 q))
    · exact hx.elim
  | if_acmp cd o =>
    cases cd <;> simp only [zm_ex] at hx <;> split at hx
    · exact (Classical.em _).elim (fun q => hk _ _ _ _ (hx.2.2.1 q)) (fun q => hk _ _ _ _ (hx.2.2.2 q))
    · exact hx.elim
    · exact (Classical.em _).elim (fun q => hk _ _ _ _ (hx.2.2.2 q)) (fun q => hk _ _ _ _ (hx.2.2.1 q))
    · exact hx.elim
  | ifnull o | ifnonnull o =>
    simp only [zm_ex] at hx
    split at hx
    · exact hk _ _ _ _ hx
    · exact hk _ _ _ _ hx
    · exact hx.elim
  | tableswitch =>
    simp only [zm_ex] at hx
    split at hx
    · exact hk _ _ _ _ hx
    · exact hx.elim
  | getfield o =>
    simp only [zm_ex] at hx
    split at hx
    · exact hk _ _ _ _ hx.2
    · exact hx.elim
  | putfield o =>
    simp only [zm_ex] at hx
    split at hx
    · have z := hk _ _ _ _ hx.2.2
      exact z
    · exact hx.elim
  | new o => exact hmk _ _ _ (hk _ _ _ _ hx)
  | newarray o | anewarray o =>
    simp only [zm_ex] at hx
    split at hx
    · exact hmk _ _ _ (hk _ _ _ _ hx.2.2)
    · exact hx.elim
  | arraylength =>
    simp only [zm_ex] at hx
    split at hx
    · exact hk _ _ _ _ hx.2.2
    · exact hx.elim
  | iaload | baload | aaload =>
    simp only [zm_ex] at hx
    exact zm_rd_el hx (fun _ _ _ _ _ _ _ q => hk _ _ _ _ q)
  | iastore | bastore =>
    simp only [zm_ex] at hx
    refine zm_wr_el hx (fun _ _ _ _ _ _ _ q => ?_)
    have z := hk _ _ _ _ q
    exact z
  | aastore =>
    simp only [zm_ex] at hx
    split at hx
    · have z := hk _ _ _ _ hx.2.2.2
      exact z
    · have z := hk _ _ _ _ hx.2.2.2.2
      exact z
    · exact hx.elim
  | invokestatic o =>
    simp only [zm_ex] at hx
    split at hx
    · unfold zm_in at hx
      split at hx
      · exact hk _ _ _ _ hx.2
      · exact hk _ _ _ _ hx.2
      · have z := hk _ _ _ _ hx.2.2.2.2.2.2.2.2.2
        exact z
      · exact hx.elim
    · exact hcl _ hx
  | invokevirtual o =>
    exact hcl _ hx.2
  | invokespecial o =>
    simp only [zm_ex] at hx
    split at hx
    · split at hx
      · exact hk _ _ _ _ hx.2
      · exact hx.elim
    · exact hcl _ hx.2
  | ireturn =>
    simp only [zm_ex] at hx
    split at hx
    · obtain ⟨-, e, -⟩ := hx
      rw [e]; exact ⟨Nat.le_refl _, Nat.le_refl _⟩
    · exact hx.elim
  | areturn =>
    simp only [zm_ex] at hx
    split at hx
    · obtain ⟨-, e, -⟩ := hx
      rw [e]; exact ⟨Nat.le_refl _, Nat.le_refl _⟩
    · exact hx.elim
  | return_ =>
    obtain ⟨-, -, e, -⟩ := hx
    rw [e]; exact ⟨Nat.le_refl _, Nat.le_refl _⟩
  | _ => exact False.elim hx
end
theorem zm_rn_mono {C : Nat → List Value → zm_H → Option Value → zm_H → Prop} {M : Nat} {r : Option Value} {h' : zm_H} (hC : ∀ M a h r h1, C M a h r h1 → zm_nx h ≤ zm_nx h1 ∧ zm_sl h ≤ zm_sl h1) : ∀ (n pc : Nat) (ls st : List Value) (h : zm_H), zm_rn C M r h' n pc ls st h → zm_nx h ≤ zm_nx h' ∧ zm_sl h ≤ zm_sl h'
  | 0, _, _, _, _, hr => False.elim hr
  | n + 1, _, _, _, _, hr => by
    obtain ⟨E, -, hx⟩ := hr
    exact zm_ex_mono hC (fun pc ls st h q => zm_rn_mono hC n pc ls st h q) hx
theorem zm_ca_mono : ∀ (d M : Nat) (a : List Value) (h : zm_H) (r : Option Value) (h1 : zm_H), zm_ca d M a h r h1 → zm_nx h ≤ zm_nx h1 ∧ zm_sl h ≤ zm_sl h1
  | 0, _, _, _, _, _, hr => False.elim hr
  | d + 1, _, _, _, _, _, hr => by
    obtain ⟨-, n, hn⟩ := hr
    exact zm_rn_mono (fun M a h r h1 q => zm_ca_mono d M a h r h1 q) n _ _ _ _ hn
