/-! bytes as lists, the parts of a path -/
def zls (f : Nat → Nat) (a b : Nat) : List Nat := (List.range (b - a)).map (fun i => f (a + i))
theorem zls_len (f : Nat → Nat) (a b : Nat) : (zls f a b).length = b - a := by simp [zls]
theorem zls_nil (f : Nat → Nat) {a b : Nat} (h : b ≤ a) : zls f a b = [] := by
  unfold zls
  rw [Nat.sub_eq_zero_of_le h]
  rfl
theorem zls_get (f : Nat → Nat) {a b i : Nat} (h : i < b - a) : (zls f a b)[i]? = some (f (a + i)) := by
  unfold zls
  rw [List.getElem?_map, List.getElem?_range h]
  rfl
theorem zls_cons (f : Nat → Nat) {a b : Nat} (h : a < b) : zls f a b = f a :: zls f (a + 1) b := by
  apply List.ext_getElem?
  intro i
  cases i with
  | zero =>
    rw [zls_get f (by omega)]
    rfl
  | succ i =>
    rw [List.getElem?_cons_succ]
    by_cases hi : i + 1 < b - a
    · rw [zls_get f hi, zls_get f (by omega)]
      congr 2
      omega
    · rw [List.getElem?_eq_none (by rw [zls_len]; omega), List.getElem?_eq_none (by rw [zls_len]; omega)]
theorem zls_app (f : Nat → Nat) {b c : Nat} : ∀ (n a : Nat), b - a = n → a ≤ b → b ≤ c → zls f a c = zls f a b ++ zls f b c
  | 0, a, h0, h1, h2 => by
    have : a = b := by omega
    subst this
    rw [zls_nil f (Nat.le_refl a)]
    rfl
  | n + 1, a, h0, h1, h2 => by
    rw [zls_cons f (show a < c by omega), zls_cons f (show a < b by omega), zls_app f n (a + 1) (by omega) (by omega) h2]
    rfl
theorem zls_congr {f g : Nat → Nat} {a b : Nat} (h : ∀ i, a ≤ i → i < b → f i = g i) : zls f a b = zls g a b := by
  unfold zls
  apply List.map_congr_left
  intro i hi
  have := List.mem_range.mp hi
  exact h _ (by omega) (by omega)
theorem zls_shift {f g : Nat → Nat} {a b n : Nat} (h : ∀ i, i < n → f (a + i) = g (b + i)) : zls f a (a + n) = zls g b (b + n) := by
  unfold zls
  rw [Nat.add_sub_cancel_left, Nat.add_sub_cancel_left]
  apply List.map_congr_left
  intro i hi
  exact h i (List.mem_range.mp hi)
theorem zls_eq {f g : Nat → Nat} {a b n m : Nat} : zls f a (a + n) = zls g b (b + m) ↔ n = m ∧ ∀ i, i < n → f (a + i) = g (b + i) := by
  constructor
  · intro h
    have hl := congrArg List.length h
    rw [zls_len, zls_len, Nat.add_sub_cancel_left, Nat.add_sub_cancel_left] at hl
    subst hl
    refine ⟨rfl, fun i hi => ?_⟩
    have : (zls f a (a + n))[i]? = (zls g b (b + n))[i]? := by rw [h]
    rw [zls_get f (by omega), zls_get g (by omega)] at this
    exact Option.some.inj this
  · rintro ⟨rfl, h⟩
    exact zls_shift h
/-- a row of bytes cut at the bytes 47 -/
def zsp : List Nat → List (List Nat)
  | [] => [[]]
  | c :: l => if c = 47 then [] :: zsp l else match zsp l with
    | [] => [[c]]
    | w :: ws => (c :: w) :: ws
def zpk (w : List Nat) : Bool := !(w == [] || w == [46])
/-- the parts of a path -/
def zpt (l : List Nat) : List (List Nat) := (zsp l).filter zpk
theorem zsp_ne : ∀ l, zsp l ≠ []
  | [] => by simp [zsp]
  | c :: l => by
    unfold zsp
    split
    · simp
    · split <;> simp
theorem zsp_word : ∀ (w r : List Nat), (∀ c ∈ w, c ≠ 47) → ∃ v vs, zsp r = v :: vs ∧ zsp (w ++ r) = (w ++ v) :: vs
  | [], r, _ => by
    cases h : zsp r with
    | nil => exact absurd h (zsp_ne r)
    | cons v vs => exact ⟨v, vs, rfl, h⟩
  | c :: w, r, hw => by
    obtain ⟨v, vs, h1, h2⟩ := zsp_word w r (fun c hc => hw c (List.mem_cons_of_mem _ hc))
    refine ⟨v, vs, h1, ?_⟩
    show (if c = 47 then _ else match zsp (w ++ r) with | [] => [[c]] | w :: ws => (c :: w) :: ws) = _
    rw [if_neg (hw c List.mem_cons_self), h2]
    rfl
theorem zpt_nil : zpt [] = [] := by decide
theorem zpt_47 (l : List Nat) : zpt (47 :: l) = zpt l := by
  unfold zpt
  have : zsp (47 :: l) = [] :: zsp l := by
    show (if 47 = 47 then [] :: zsp l else _) = _
    rw [if_pos rfl]
  rw [this]
  rfl
theorem zpt_end {w : List Nat} (hw : ∀ c ∈ w, c ≠ 47) : zpt w = if zpk w = true then [w] else [] := by
  obtain ⟨v, vs, h1, h2⟩ := zsp_word w [] hw
  have e : zsp [] = [[]] := rfl
  rw [e] at h1
  cases h1
  rw [List.append_nil] at h2
  unfold zpt
  rw [h2]
  by_cases hp : zpk w = true
  · rw [if_pos hp]
    simp [hp]
  · rw [if_neg hp]
    simp [hp]
theorem zpt_word {w r : List Nat} (hw : ∀ c ∈ w, c ≠ 47) : zpt (w ++ 47 :: r) = (if zpk w = true then [w] else []) ++ zpt r := by
  obtain ⟨v, vs, h1, h2⟩ := zsp_word w (47 :: r) hw
  have e : zsp (47 :: r) = [] :: zsp r := by
    show (if 47 = 47 then [] :: zsp r else _) = _
    rw [if_pos rfl]
  rw [e] at h1
  cases h1
  rw [List.append_nil] at h2
  unfold zpt
  rw [h2]
  by_cases hp : zpk w = true
  · rw [if_pos hp]
    simp [hp]
  · rw [if_neg hp]
    simp [hp]
/-- a path put ahead of another one -/
theorem zpt_app : ∀ (a b : List Nat), zpt (a ++ 47 :: b) = zpt a ++ zpt b := by
  intro a
  have key : ∀ (n : Nat) (a b : List Nat), a.length ≤ n → zpt (a ++ 47 :: b) = zpt a ++ zpt b := by
    intro n
    induction n with
    | zero =>
      intro a b h
      have : a = [] := List.eq_nil_of_length_eq_zero (by omega)
      subst this
      rw [zpt_nil]
      exact zpt_47 b
    | succ n ih =>
      intro a b h
      by_cases h47 : ∀ c ∈ a, c ≠ 47
      · rw [zpt_word h47, zpt_end h47]
      · have : ∃ w r, a = w ++ 47 :: r ∧ ∀ c ∈ w, c ≠ 47 := by
          clear ih h
          induction a with
          | nil => exact absurd (fun c hc => absurd hc List.not_mem_nil) h47
          | cons c a iha =>
            by_cases hc : c = 47
            · exact ⟨[], a, by rw [hc]; rfl, fun c hc => absurd hc List.not_mem_nil⟩
            · obtain ⟨w, r, e, hw⟩ := iha (fun hz => h47 (fun d hd => by
                rcases List.mem_cons.mp hd with rfl | hd
                · exact hc
                · exact hz d hd))
              refine ⟨c :: w, r, by rw [e]; rfl, fun d hd => ?_⟩
              rcases List.mem_cons.mp hd with rfl | hd
              · exact hc
              · exact hw d hd
        obtain ⟨w, r, rfl, hw⟩ := this
        have hl : r.length ≤ n := by
          rw [List.length_append, List.length_cons] at h
          omega
        rw [List.append_assoc, List.cons_append, zpt_word hw, zpt_word hw, ih r b hl, List.append_assoc]
  exact fun b => key a.length a b (Nat.le_refl _)
theorem zpt_le : ∀ (l : List Nat), (zpt l).length ≤ l.length := by
  intro l
  have key : ∀ l, (zsp l).length ≤ l.length + 1 ∧ (zpt l).length ≤ l.length := by
    intro l
    induction l with
    | nil => exact ⟨by decide, by decide⟩
    | cons c l ih =>
      by_cases hc : c = 47
      · subst hc
        rw [zpt_47]
        refine ⟨?_, by rw [List.length_cons]; omega⟩
        have : zsp (47 :: l) = [] :: zsp l := by
          show (if 47 = 47 then [] :: zsp l else _) = _
          rw [if_pos rfl]
        rw [this, List.length_cons, List.length_cons]
        omega
      · obtain ⟨v, vs, h1, h2⟩ := zsp_word [c] l (fun d hd => by
          rw [List.mem_singleton] at hd
          rw [hd]; exact hc)
        have h2 : zsp (c :: l) = (c :: v) :: vs := h2
        rw [h1, List.length_cons] at ih
        refine ⟨by rw [h2, List.length_cons, List.length_cons]; omega, ?_⟩
        unfold zpt at ih ⊢
        rw [h2]
        rw [h1] at ih
        rw [List.length_cons]
        have : ((v :: vs).filter zpk).length ≥ (vs.filter zpk).length := by
          rw [List.filter_cons]
          split
          · rw [List.length_cons]; omega
          · exact Nat.le_refl _
        rw [List.filter_cons]
        split
        · rw [List.length_cons]
          omega
        · omega
  exact (key l).2
/-- three ways to read on in a path that lies in f from a to b -/
theorem zpt_skip (f : Nat → Nat) {a b : Nat} (h : a < b) (h47 : f a = 47) : zpt (zls f a b) = zpt (zls f (a + 1) b) := by
  rw [zls_cons f h, h47, zpt_47]
theorem zls_no {f : Nat → Nat} {a c : Nat} (hn : ∀ i, a ≤ i → i < c → f i ≠ 47) : ∀ x ∈ zls f a c, x ≠ 47 := by
  intro x hx
  unfold zls at hx
  obtain ⟨i, hi, rfl⟩ := List.mem_map.mp hx
  have := List.mem_range.mp hi
  exact hn _ (by omega) (by omega)
theorem zpt_take (f : Nat → Nat) {a b c : Nat} (h1 : a ≤ c) (h2 : c ≤ b) (hn : ∀ i, a ≤ i → i < c → f i ≠ 47) (he : c = b ∨ f c = 47) : zpt (zls f a b) = (if zpk (zls f a c) = true then [zls f a c] else []) ++ zpt (zls f c b) := by
  rcases Nat.lt_or_ge c b with hlt | hge
  · have h47 : f c = 47 := by
      rcases he with he | he
      · omega
      · exact he
    rw [zls_app f (b := c) (c := b) (c - a) a rfl h1 h2, zls_cons f hlt, h47, zpt_word (zls_no hn), zpt_47]
  · have : c = b := by omega
    subst this
    rw [zls_nil f (Nat.le_refl c), zpt_nil, List.append_nil, zpt_end (zls_no hn)]
