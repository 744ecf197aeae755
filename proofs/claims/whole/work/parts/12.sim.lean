section
variable {l : Launch} {G : zm_G} {d : Nat} {p : Program} {e : Env} {R : Room} {s : State} {m : MethodId} {args : Array Value} {below : List Frame} {meth : Method} {c : Code} {Q : State → Prop} {M : Nat} {h0 h' : zm_H} {r : Option Value}
/-- a run of the small machine is a run of the machine -/
theorem zm_body (X : zm_Cx G p R s m args meth c M) (hR : zm_nx h' ≤ zm_nx h0 + R.cells ∧ zm_sl h' ≤ zm_sl h0 + R.slots)
    (hC : ∀ x a h r1 h1, zm_ca d x a h r1 h1 → (zm_nx h ≤ zm_nx h1 ∧ zm_sl h ≤ zm_sl h1) ∧ Met l (zt_nm x) (zt_wsM x) (zm_rm x (zm_nx h1 - zm_nx h) (zm_sl h1 - zm_sl h)) (zm_Pc G a h) (zm_Qc G r1 h1) (zm_nx h1 - zm_nx h) (zm_sl h1 - zm_sl h) (zm_A G))
    (hend : ∀ (k : Nat → List Value → List Value → zm_H → Prop) (i : Instr) (pc : Nat) (st : List Value) (h : zm_H) (lsA : Array Slot) (H : Heap) (locs : List Loc) (cells slots : Nat), (i = .ireturn ∨ i = .areturn ∨ i = .return_) → (∀ np x y sw ls, zm_ex (zm_ca d) k np x y sw ls st h (zt_rt M) r h' i) → decode (zt_by M) pc = .ok (i, 1) → zm_Dy G s h0 h H locs cells slots → W p l e R s m args below meth c H locs cells slots Q (F0 m pc lsA (st.map (zm_cv G)))) :
    ∀ (n pc : Nat) (ls st : List Value) (h : zm_H) (lsA : Array Slot) (H : Heap) (locs : List Loc) (cells slots : Nat), zm_rn (zm_ca d) M r h' n pc ls st h → zm_lr G (zt_ml M) ls lsA → zm_Dy G s h0 h H locs cells slots → W p l e R s m args below meth c H locs cells slots Q (F0 m pc lsA (st.map (zm_cv G))) := by
  intro n
  induction n with
  | zero => intro pc ls st h lsA H locs cells slots hr; exact False.elim hr
  | succ n ih =>
    intro pc ls st h lsA H locs cells slots hr hl hd
    obtain ⟨E, hE, hx⟩ := hr
    obtain ⟨i, np, x, y, sw⟩ := E
    exact zm_step X hR (fun pc ls st h q => zm_rn_mono (fun M a h r h1 z => zm_ca_mono d M a h r h1 z) n pc ls st h q) hC (hend _) ih (zt_ok M pc _ hE) hx hl hd
end
theorem zm_sim (l : Launch) (G : zm_G) : ∀ (d x : Nat) (a : List Value) (h : zm_H) (r1 : Option Value) (h1 : zm_H), zm_ca d x a h r1 h1 → (zm_nx h ≤ zm_nx h1 ∧ zm_sl h ≤ zm_sl h1) ∧ Met l (zt_nm x) (zt_wsM x) (zm_rm x (zm_nx h1 - zm_nx h) (zm_sl h1 - zm_sl h)) (zm_Pc G a h) (zm_Qc G r1 h1) (zm_nx h1 - zm_nx h) (zm_sl h1 - zm_sl h) (zm_A G)
  | 0, _, _, _, _, _, hc => False.elim hc
  | d + 1, x, a, h, r1, h1, hc => by
    have mo := zm_ca_mono _ _ _ _ _ _ hc
    refine ⟨mo, ?_⟩
    obtain ⟨hlen, n, hr⟩ := hc
    refine Met.ofW (cc := zt_by x) (maxL := zt_ml x) (ret := zt_rt x) (zt_plain x) rfl ?_
    intro p e s m args below meth c s₁ B hml hv
    obtain ⟨rfl, hw, hK⟩ := hv
    have hts := atoms_spec (ws := zt_wsM x) B.pre
    have hr2 := B.returns
    have hlocks := B.notSynchronized
    have X : zm_Cx G p (headSpec (zt_wsM x) (zm_rm x (zm_nx h1 - zm_nx h) (zm_sl h1 - zm_sl h))).room s m (a.map (zm_cv G)).toArray meth c x :=
      ⟨B.exec, B.bytes, hml, findClass_of_methodNamed B.named, fun w z => hts w (List.mem_cons_of_mem _ z), hK, Nat.le_refl _, Nat.le_refl _, fun z => (name_of_methodNamed B.named B.method).1.trans z⟩
    rw [lg_entry_eq]
    refine zm_body (h0 := h) (h' := h1) (r := r1) X ⟨by show _ ≤ _ + (zm_nx h1 - zm_nx h); omega, by show _ ≤ _ + (zm_sl h1 - zm_sl h); omega⟩ (fun x a h r1 h1 z => zm_sim l G d x a h r1 h1 z) ?_ n 0 _ [] h _ _ _ _ _ hr (zm_lr_entry hlen) ⟨hw, va_S.rf, rfl, rfl⟩
    intro k i pc st hh lsA H locs cells slots hi hx hdg hd
    obtain ⟨w1, w2, w3, w4⟩ := hd
    rcases hi with rfl | rfl | rfl
    · have hx := hx 0 0 0 [] []
      match st, hx with
      | [.int v], hx =>
        obtain ⟨rfl, rfl, ty, ht, hf⟩ := hx
        obtain rfl : cells = zm_nx h1 - zm_nx h := by omega
        obtain rfl : slots = zm_sl h1 - zm_sl h := by omega
        exact W.zret B.exec B.bytes (hr2.trans ht) (zm_fit_ok hf).1 (fun t e1 hW => ⟨rfl, by rw [e1]; exact w1.moved hW.alike, w2.F e1⟩) w2.2.2 hdg
    · have hx := hx 0 0 0 [] []
      match st, hx with
      | [v], hx =>
        obtain ⟨rfl, rfl, hk, ty, ht, hf⟩ := hx
        obtain rfl : cells = zm_nx h1 - zm_nx h := by omega
        obtain rfl : slots = zm_sl h1 - zm_sl h := by omega
        refine W.aret B.exec B.bytes (hr2.trans ht) ?_ ?_ (fun t e1 hW => ⟨rfl, by rw [e1]; exact w1.moved hW.alike, w2.F e1⟩) w2.2.2 hdg
        · rcases zm_isK2 hk with rfl | ⟨z, rfl⟩ <;> cases ty <;> first | exact Or.inl ⟨_, rfl⟩ | exact Or.inr ⟨_, rfl⟩ | (simp [zm_fit] at hf)
        · rcases zm_isK2 hk with rfl | ⟨z, rfl⟩
          · exact Or.inl rfl
          · exact Or.inr ⟨_, rfl⟩
    · obtain ⟨rfl, rfl, rfl, ht⟩ := hx 0 0 0 [] []
      obtain rfl : cells = zm_nx h1 - zm_nx h := by omega
      obtain rfl : slots = zm_sl h1 - zm_sl h := by omega
      exact W.vret B.exec B.bytes (hr2.trans ht) (fun t e1 hW => ⟨rfl, by rw [e1]; exact w1.moved hW.alike, w2.F e1⟩) w2.2.2 hdg
