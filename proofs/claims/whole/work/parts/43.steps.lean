/-! one name more, one name less: the reference's numbers -/
theorem zsum_one_ch {g g2 : Nat → Nat} {k : Nat} : ∀ n, k < n → (∀ j, j < n → j ≠ k → g2 j = g j) → zsum g2 n + g k = zsum g n + g2 k
  | 0, h, _ => absurd h (by omega)
  | n + 1, h, e => by
    show zsum g2 n + g2 n + g k = zsum g n + g n + g2 k
    by_cases hk : k = n
    · subst hk
      rw [zsum_cg k (fun i hi => e i (by omega) (by omega))]
      omega
    · have := zsum_one_ch n (by omega) (fun j h1 h2 => e j (by omega) h2)
      rw [e n (by omega) (fun z => hk z.symm)]
      omega
theorem zsum_rm {g g2 : Nat → Nat} {k N : Nat} (hk : k < N) (h1 : ∀ j, j < N - 1 → j ≠ k → g2 j = g j) (h2 : k < N - 1 → g2 k = g (N - 1)) : zsum g2 (N - 1) + g k = zsum g N := by
  obtain ⟨M, rfl⟩ : ∃ M, N = M + 1 := ⟨N - 1, by omega⟩
  show zsum g2 M + g k = zsum g M + g M
  by_cases h : k = M
  · subst h
    rw [zsum_cg k (fun i hi => h1 i (by omega) (by omega))]
  · have e := zsum_one_ch (g := g) (g2 := g2) M (by omega) (fun j h3 h4 => h1 j (by omega) h4)
    rw [h2 (by omega)] at e
    exact e
/-- where a name lies that lay at .. -/
def zpx (k M j : Nat) : Nat := if j = k then M else j
theorem zpx_lt {k N j : Nat} (hk : k < N) (hj : j < N - 1) : zpx k (N - 1) j < N ∧ zpx k (N - 1) j ≠ k := by
  unfold zpx
  split <;> omega
theorem zpx_inj {k N i j : Nat} (hi : i < N - 1) (hj : j < N - 1) (h : zpx k (N - 1) i = zpx k (N - 1) j) : i = j := by
  unfold zpx at h
  split at h <;> split at h <;> omega
theorem zpx_su {k N l : Nat} (hl : l < N) (hn : l ≠ k) (hk : k < N) : ∃ j, j < N - 1 ∧ zpx k (N - 1) j = l := by
  by_cases h : l = N - 1
  · exact ⟨k, by omega, by unfold zpx; rw [if_pos rfl, h]⟩
  · exact ⟨l, by omega, by unfold zpx; rw [if_neg hn]⟩
theorem zrm_8 (s : Nat → Nat → Nat) (k j : Nat) : zrm1 s k 8 j = s 8 (zpx k (s 0 10 - 1) j) := by
  rw [zrm1_8]; unfold zpx; split <;> rfl
theorem zrm_9 (s : Nat → Nat → Nat) (k j : Nat) : zrm1 s k 9 j = s 9 (zpx k (s 0 10 - 1) j) := by
  rw [zrm1_9]; unfold zpx; split <;> rfl
theorem zrm_nm {s : Nat → Nat → Nat} (hI : zMI s) (k j : Nat) : znm (zrm1 s k) j = znm s (zpx k (s 0 10 - 1) j) := by
  rw [zrm1_nm hI]; unfold zpx; split <;> rfl
theorem zrm_10 (s : Nat → Nat → Nat) (k : Nat) : zrm1 s k 0 10 = s 0 10 - 1 := rfl
theorem zrm_RS {s : Nat → Nat → Nat} {la : Nat → Nat} {Y : Nat → Prop} {D F : Nat → Nat} {M : Nat → List Nat} (hI : zMI s) (h : zRS s la Y D F M) {k : Nat} (hk : k < s 0 10) : zRS (zrm1 s k) (fun j => la (zpx k (s 0 10 - 1) j)) (fun R => Y R ∧ R ≠ la k) D F M := by
  obtain ⟨h1, h2, h3⟩ := h
  refine ⟨fun j hj => ?_, fun R hR => ?_, fun i j hi hj e => ?_⟩
  · obtain ⟨p1, p2⟩ := zpx_lt hk hj
    obtain ⟨y1, y2, y3, y4⟩ := h1 _ p1
    exact ⟨⟨y1, fun z => p2 (h3 _ _ p1 hk z)⟩, by rw [zrm_8]; exact y2, by rw [zrm_9]; exact y3, by rw [zrm_nm hI]; exact y4⟩
  · obtain ⟨l, l1, l2⟩ := h2 R hR.1
    obtain ⟨j, j1, j2⟩ := zpx_su l1 (fun z => hR.2 (by rw [← z, l2])) hk
    exact ⟨j, j1, (congrArg la j2).trans l2⟩
  · exact zpx_inj hi hj (h3 _ _ (zpx_lt hk hi).1 (zpx_lt hk hj).1 e)
theorem zrm_no (s : Nat → Nat → Nat) {k : Nat} (hk : k < s 0 10) (x : Nat) : zmno (zrm1 s k) x (s 0 10 - 1) + (if s 9 k = x then 1 else 0) = zmno s x (s 0 10) :=
  zsum_rm (g := fun k => if s 9 k = x then 1 else 0) (g2 := fun j => if zrm1 s k 9 j = x then 1 else 0) hk (fun j _ h2 => by rw [zrm1_9, if_neg h2]) (fun _ => by rw [zrm1_9, if_pos rfl])
theorem zrm_ni (s : Nat → Nat → Nat) {k : Nat} (hk : k < s 0 10) (x : Nat) : zmni (zrm1 s k) x (s 0 10 - 1) + (if s 8 k = x then 1 else 0) = zmni s x (s 0 10) :=
  zsum_rm (g := fun k => if s 8 k = x then 1 else 0) (g2 := fun j => if zrm1 s k 8 j = x then 1 else 0) hk (fun j _ h2 => by rw [zrm1_8, if_neg h2]) (fun _ => by rw [zrm1_8, if_pos rfl])
theorem zrm_SN {s : Nat → Nat → Nat} (hI : zMI s) (h : zSN s) {k : Nat} (hk : k < s 0 10) : zSN (zrm1 s k) := by
  obtain ⟨h1, h2, h3⟩ := h
  refine ⟨fun j hj => ?_, fun i j hi hj e1 e2 => ?_, fun i j hi hj e1 e2 => ?_⟩
  · obtain ⟨p1, p2⟩ := zpx_lt hk hj
    rw [zrm_8, zrm_9]
    exact h1 _ p1
  · rw [zrm_8, zrm_8] at e1
    rw [zrm_nm hI, zrm_nm hI] at e2
    exact zpx_inj hi hj (h2 _ _ (zpx_lt hk hi).1 (zpx_lt hk hj).1 e1 e2)
  · rw [zrm_9, zrm_9] at e1
    rw [zrm_9] at e2
    exact zpx_inj hi hj (h3 _ _ (zpx_lt hk hi).1 (zpx_lt hk hj).1 e1 e2)
/-- one more -/
theorem zad_8 (s : Nat → Nat → Nat) (dd n : Nat) (g : Nat → Nat) (f j : Nat) : zad1 s dd n g f 8 j = if j = s 0 10 then dd else s 8 j := by
  show zup s 8 (s 0 10) dd 8 j = _
  split
  · next h => rw [h, zup_same]
  · next h => rw [zup_nj _ _ h]
theorem zad_9 (s : Nat → Nat → Nat) (dd n : Nat) (g : Nat → Nat) (f j : Nat) : zad1 s dd n g f 9 j = if j = s 0 10 then f else s 9 j := by
  show zup s 9 (s 0 10) f 9 j = _
  split
  · next h => rw [h, zup_same]
  · next h => rw [zup_nj _ _ h]
theorem zad_10 (s : Nat → Nat → Nat) (dd n : Nat) (g : Nat → Nat) (f j : Nat) : zad1 s dd n g f 10 j = if j = s 0 10 then n else s 10 j := by
  show zup s 10 (s 0 10) n 10 j = _
  split
  · next h => rw [h, zup_same]
  · next h => rw [zup_nj _ _ h]
theorem zad_nm {s : Nat → Nat → Nat} (hI : zMI s) (dd n : Nat) (g : Nat → Nat) (f j : Nat) (hn : n ≤ 255) : znm (zad1 s dd n g f) j = if j = s 0 10 then zls g 0 (0 + n) else znm s j := by
  unfold znm
  rw [zad_10]
  by_cases h : j = s 0 10
  · subst h
    rw [if_pos rfl, if_pos rfl]
    refine zls_shift (fun i hi => ?_)
    show zwr _ 11 (255 * s 0 10) n g 11 (255 * s 0 10 + i) = _
    rw [zwr_in _ _ (by omega) (by omega), Nat.add_sub_cancel_left, Nat.zero_add]
  · rw [if_neg h, if_neg h]
    have hl : s 10 j ≤ 255 := hI 10 _
    refine zls_congr (fun i h1 h2 => ?_)
    show zwr _ 11 (255 * s 0 10) n g 11 i = _
    rw [zwr_out _ _ (by omega)]
    rfl
def zuf {α : Type} (D : Nat → α) (R : Nat) (v : α) : Nat → α := fun x => if x = R then v else D x
theorem zad_RS {s : Nat → Nat → Nat} {la : Nat → Nat} {Y : Nat → Prop} {D F : Nat → Nat} {M : Nat → List Nat} (hI : zMI s) (h : zRS s la Y D F M) {dd n f R : Nat} {g : Nat → Nat} (hn : n ≤ 255) (hR : ¬ Y R) : zRS (zad1 s dd n g f) (zuf la (s 0 10) R) (fun x => Y x ∨ x = R) (zuf D R dd) (zuf F R f) (zuf M R (zls g 0 (0 + n))) := by
  obtain ⟨h1, h2, h3⟩ := h
  have e10 : zad1 s dd n g f 0 10 = s 0 10 + 1 := rfl
  refine ⟨fun j hj => ?_, fun x hx => ?_, fun i j hi hj e => ?_⟩
  · rw [e10] at hj
    unfold zuf
    rw [zad_8, zad_9, zad_nm hI _ _ _ _ _ hn]
    by_cases hjn : j = s 0 10
    · rw [if_pos hjn, if_pos hjn, if_pos hjn, if_pos hjn, if_pos rfl, if_pos rfl, if_pos rfl]
      exact ⟨Or.inr rfl, rfl, rfl, rfl⟩
    · rw [if_neg hjn, if_neg hjn, if_neg hjn, if_neg hjn]
      obtain ⟨y1, y2, y3, y4⟩ := h1 j (by omega)
      have hne : la j ≠ R := fun z => hR (z ▸ y1)
      rw [if_neg hne, if_neg hne, if_neg hne]
      exact ⟨Or.inl y1, y2, y3, y4⟩
  · rcases hx with hx | hx
    · obtain ⟨k, k1, k2⟩ := h2 x hx
      refine ⟨k, by rw [e10]; omega, ?_⟩
      unfold zuf
      rw [if_neg (by omega)]
      exact k2
    · refine ⟨s 0 10, by rw [e10]; omega, ?_⟩
      unfold zuf
      rw [if_pos rfl, hx]
  · rw [e10] at hi hj
    unfold zuf at e
    split at e
    · split at e
      · omega
      · exact absurd (e ▸ (h1 j (by omega)).1) hR
    · split at e
      · exact absurd (e.symm ▸ (h1 i (by omega)).1) hR
      · exact h3 i j (by omega) (by omega) e
theorem zad_no (s : Nat → Nat → Nat) (dd n : Nat) (g : Nat → Nat) (f x : Nat) : zmno (zad1 s dd n g f) x (s 0 10 + 1) = zmno s x (s 0 10) + (if f = x then 1 else 0) := by
  show zsum _ (s 0 10) + (if zad1 s dd n g f 9 (s 0 10) = x then 1 else 0) = _
  rw [zad_9, if_pos rfl, zsum_cg (g := fun k => if s 9 k = x then 1 else 0) (s 0 10) (fun i hi => by have e := zad_9 s dd n g f i; rw [if_neg (by omega)] at e; rw [e])]
  rfl
theorem zad_ni (s : Nat → Nat → Nat) (dd n : Nat) (g : Nat → Nat) (f x : Nat) : zmni (zad1 s dd n g f) x (s 0 10 + 1) = zmni s x (s 0 10) + (if dd = x then 1 else 0) := by
  show zsum _ (s 0 10) + (if zad1 s dd n g f 8 (s 0 10) = x then 1 else 0) = _
  rw [zad_8, if_pos rfl, zsum_cg (g := fun k => if s 8 k = x then 1 else 0) (s 0 10) (fun i hi => by have e := zad_8 s dd n g f i; rw [if_neg (by omega)] at e; rw [e])]
  rfl
theorem zad_SN {s : Nat → Nat → Nat} (hI : zMI s) (h : zSN s) {dd n f : Nat} {g : Nat → Nat} (hn : n ≤ 255) (hd : 1 ≤ dd ∧ s 3 dd = 2) (hf : 1 ≤ f ∧ s 3 f ≠ 0 ∧ f ≠ 1) (hl : zlkn s dd (zls g 0 (0 + n)) (s 0 10) = none) (h2f : s 3 f = 2 → ∀ k, k < s 0 10 → s 9 k ≠ f) : zSN (zad1 s dd n g f) := by
  obtain ⟨h1, h2, h3⟩ := h
  have e10 : zad1 s dd n g f 0 10 = s 0 10 + 1 := rfl
  have e3 : ∀ x, zad1 s dd n g f 3 x = s 3 x := fun x => rfl
  refine ⟨fun j hj => ?_, fun i j hi hj e1 e2 => ?_, fun i j hi hj e1 e2 => ?_⟩
  · rw [e10] at hj
    rw [zad_8, zad_9]
    by_cases hjn : j = s 0 10
    · rw [if_pos hjn, if_pos hjn]
      exact ⟨hd.1, hd.2, hf.1, hf.2.1, hf.2.2⟩
    · rw [if_neg hjn, if_neg hjn]
      exact h1 j (by omega)
  · rw [e10] at hi hj
    rw [zad_8, zad_8] at e1
    rw [zad_nm hI _ _ _ _ _ hn, zad_nm hI _ _ _ _ _ hn] at e2
    by_cases h5 : i = s 0 10
    · by_cases h6 : j = s 0 10
      · omega
      · rw [if_pos h5, if_neg h6] at e1 e2
        exact absurd ⟨e1.symm, e2.symm⟩ (zlkn_none hl (by omega))
    · by_cases h6 : j = s 0 10
      · rw [if_neg h5, if_pos h6] at e1 e2
        exact absurd ⟨e1, e2⟩ (zlkn_none hl (by omega))
      · rw [if_neg h5, if_neg h6] at e1 e2
        exact h2 i j (by omega) (by omega) e1 e2
  · rw [e10] at hi hj
    rw [zad_9, zad_9] at e1
    rw [zad_9, e3] at e2
    by_cases h5 : i = s 0 10
    · by_cases h6 : j = s 0 10
      · omega
      · rw [if_pos h5, if_neg h6] at e1
        rw [if_pos h5] at e2
        exact absurd e1.symm (h2f e2 j (by omega))
    · by_cases h6 : j = s 0 10
      · rw [if_neg h5, if_pos h6] at e1
        rw [if_neg h5, e1] at e2
        exact absurd e1 (h2f e2 i (by omega))
      · rw [if_neg h5, if_neg h6] at e1
        rw [if_neg h5] at e2
        exact h3 i j (by omega) (by omega) e1 e2
/-- the folder above, by the rows -/
theorem zRS_pa {s : Nat → Nat → Nat} {la : Nat → Nat} {Y : Nat → Prop} {D F : Nat → Nat} {M : Nat → List Nat} (h : zRS s la Y D F M) {f R : Nat} (hR : Y R) (hf : F R = f) (hu : ∀ x, Y x → F x = f → x = R) : zmpa s f (s 0 10) = D R := by
  obtain ⟨h1, h2, h3⟩ := h
  rcases zmpa_cs (s := s) f (s 0 10) with ⟨_, e⟩ | ⟨k, k1, k2, e⟩
  · obtain ⟨k, k1, k2⟩ := h2 R hR
    exact absurd ((h1 k k1).2.2.1.symm.trans (by rw [k2]; exact hf)) (e k k1)
  · obtain ⟨y1, y2, y3, _⟩ := h1 k k1
    have : la k = R := hu _ y1 (y3.trans k2)
    rw [e, ← y2, this]
theorem zRS_pa0 {s : Nat → Nat → Nat} {la : Nat → Nat} {Y : Nat → Prop} {D F : Nat → Nat} {M : Nat → List Nat} (h : zRS s la Y D F M) {f : Nat} (hu : ∀ x, Y x → F x ≠ f) : zmpa s f (s 0 10) = 1 := by
  obtain ⟨h1, h2, h3⟩ := h
  rcases zmpa_cs (s := s) f (s 0 10) with ⟨e, _⟩ | ⟨k, k1, k2, e⟩
  · exact e
  · obtain ⟨y1, y2, y3, _⟩ := h1 k k1
    exact absurd (y3.trans k2) (hu _ y1)
/-- zero names: nobody has it -/
theorem zsum_0 {g : Nat → Nat} : ∀ n, zsum g n = 0 → ∀ k, k < n → g k = 0
  | 0, _, k, hk => absurd hk (by omega)
  | n + 1, h, k, hk => by
    have h1 : zsum g n + g n = 0 := h
    by_cases hkn : k = n
    · rw [hkn]; omega
    · exact zsum_0 n (by omega) k (by omega)
theorem zmno_0 {s : Nat → Nat → Nat} {f n : Nat} (h : zmno s f n = 0) {k : Nat} (hk : k < n) : s 9 k ≠ f := by
  intro z
  have := zsum_0 n h k hk
  simp only [z] at this
  simp at this
theorem zmni_0 {s : Nat → Nat → Nat} {f n : Nat} (h : zmni s f n = 0) {k : Nat} (hk : k < n) : s 8 k ≠ f := by
  intro z
  have := zsum_0 n h k hk
  simp only [z] at this
  simp at this
theorem zsum_z {g : Nat → Nat} : ∀ n, (∀ k, k < n → g k = 0) → zsum g n = 0
  | 0, _ => rfl
  | n + 1, h => by
    show zsum g n + g n = 0
    rw [zsum_z n (fun k hk => h k (by omega)), h n (by omega)]
theorem zmno_z {s : Nat → Nat → Nat} {f n : Nat} (h : ∀ k, k < n → s 9 k ≠ f) : zmno s f n = 0 := zsum_z n (fun k hk => if_neg (h k hk))
theorem zmni_z {s : Nat → Nat → Nat} {f n : Nat} (h : ∀ k, k < n → s 8 k ≠ f) : zmni s f n = 0 := zsum_z n (fun k hk => if_neg (h k hk))
theorem zmno_p {s : Nat → Nat → Nat} {f n k : Nat} (hk : k < n) (h : s 9 k = f) : 1 ≤ zmno s f n := by
  have h2 := zsum_one (g := fun k => if s 9 k = f then 1 else 0) n k hk
  have h3 : (if s 9 k = f then 1 else 0) ≤ zmno s f n := h2
  rw [if_pos h] at h3
  exact h3
theorem zsum_u1 {g : Nat → Nat} {k : Nat} : ∀ n, k < n → (∀ j, j < n → j ≠ k → g j = 0) → zsum g n = g k
  | 0, h, _ => absurd h (by omega)
  | n + 1, h, e => by
    show zsum g n + g n = g k
    by_cases hk : k = n
    · subst hk
      rw [zsum_z k (fun j hj => e j (by omega) (by omega)), Nat.zero_add]
    · rw [zsum_u1 n (by omega) (fun j h1 h2 => e j (by omega) h2), e n (by omega) (fun z => hk z.symm)]
      omega
theorem zmno_u {s : Nat → Nat → Nat} {f n k : Nat} (hk : k < n) (h : s 9 k = f) (hu : ∀ j, j < n → s 9 j = f → j = k) : zmno s f n = 1 := by
  have e := zsum_u1 (g := fun k => if s 9 k = f then 1 else 0) n hk (fun j h1 h2 => if_neg (fun z => h2 (hu j h1 z)))
  show zsum (fun k => if s 9 k = f then 1 else 0) n = 1
  rw [e]
  exact if_pos h
