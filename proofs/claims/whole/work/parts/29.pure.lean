/-! what of the reference's numbers lasts from call to call -/
def zPE (s t : Nat → Nat → Nat) : Prop := ∀ a j, a ≠ 12 → a ≠ 2 → ¬ (a = 0 ∧ (16 ≤ j ∨ j = 3)) → t a j = s a j
theorem zPE_rf (s : Nat → Nat → Nat) : zPE s s := fun _ _ _ _ _ => rfl
theorem zPE_tr {s t u : Nat → Nat → Nat} (h : zPE s t) (k : zPE t u) : zPE s u := fun a j h1 h2 h3 => (k a j h1 h2 h3).trans (h a j h1 h2 h3)
theorem zPE_sy {s t : Nat → Nat → Nat} (h : zPE s t) : zPE t s := fun a j h1 h2 h3 => (h a j h1 h2 h3).symm
theorem zPE_up {s t : Nat → Nat → Nat} (h : zPE s t) (a j v : Nat) : zPE (zup s a j v) (zup t a j v) := by
  intro b i h1 h2 h3
  by_cases e : b = a ∧ i = j
  · obtain ⟨rfl, rfl⟩ := e
    rw [zup_same, zup_same]
  · rw [zup_ne _ _ e, zup_ne _ _ e]
    exact h b i h1 h2 h3
theorem zPE_wr {s t : Nat → Nat → Nat} (h : zPE s t) (a lo n : Nat) {g g' : Nat → Nat} (hg : ∀ i, i < n → g' i = g i) : zPE (zwr s a lo n g) (zwr t a lo n g') := by
  intro b i h1 h2 h3
  by_cases e : b = a ∧ lo ≤ i ∧ i < lo + n
  · obtain ⟨rfl, e1, e2⟩ := e
    rw [zwr_in _ _ e1 e2, zwr_in _ _ e1 e2]
    exact hg _ (by omega)
  · rw [zwr_out _ _ e, zwr_out _ _ e]
    exact h b i h1 h2 h3
theorem zPE_F {s t u : Nat → Nat → Nat} (h : zPE s t) (k : zZF t u) : zPE s u := fun a j h1 h2 h3 => (k a j h1 (fun z => h3 ⟨z.1, Or.inl z.2⟩)).trans (h a j h1 h2 h3)
theorem zsum_cg {f g : Nat → Nat} : ∀ n, (∀ i, i < n → f i = g i) → zsum f n = zsum g n
  | 0, _ => rfl
  | n + 1, h => by
    show zsum f n + f n = zsum g n + g n
    rw [zsum_cg n (fun i hi => h i (by omega)), h n (by omega)]
theorem zPE_a {s t : Nat → Nat → Nat} (h : zPE s t) (a j : Nat) (h1 : a ≠ 0 ∧ a ≠ 2 ∧ a ≠ 12) : t a j = s a j := h a j h1.2.2 h1.2.1 (fun z => h1.1 z.1)
theorem zPE_f {s t : Nat → Nat → Nat} (h : zPE s t) (a : Nat) (h1 : a ≠ 0 ∧ a ≠ 2 ∧ a ≠ 12) : t a = s a := funext (fun j => zPE_a h a j h1)
theorem zPE_0 {s t : Nat → Nat → Nat} (h : zPE s t) (j : Nat) (h1 : j < 16 ∧ j ≠ 3) : t 0 j = s 0 j := h 0 j (by decide) (by decide) (fun z => by omega)
theorem zPE_no {s t : Nat → Nat → Nat} (h : zPE s t) (f n : Nat) : zmno t f n = zmno s f n := zsum_cg n (fun i _ => by rw [zPE_a h 9 i (by decide)])
theorem zPE_ni {s t : Nat → Nat → Nat} (h : zPE s t) (f n : Nat) : zmni t f n = zmni s f n := zsum_cg n (fun i _ => by rw [zPE_a h 8 i (by decide)])
theorem zPE_fi {s t : Nat → Nat → Nat} (h : zPE s t) (f n : Nat) : zmfi t f n = zmfi s f n := zsum_cg n (fun i _ => by rw [zPE_a h 8 i (by decide), zPE_a h 9 i (by decide), zPE_a h 3 _ (by decide)])
theorem zPE_t {s t : Nat → Nat → Nat} (h : zPE s t) (f : Nat) : zmt t f = zmt s f := by
  unfold zmt
  rw [zPE_f h 3 (by decide), zPE_f h 6 (by decide), zPE_f h 4 (by decide)]
theorem zPE_at {s t : Nat → Nat → Nat} (h : zPE s t) : zmat t = zmat s := zsum_cg 40 (fun i _ => zPE_t h (i + 1))
theorem zPE_fc {s t : Nat → Nat → Nat} (h : zPE s t) : zmfc t = zmfc s := zsum_cg 40 (fun i _ => by rw [zPE_a h 3 _ (by decide)])
theorem zPE_gr {s t : Nat → Nat → Nat} (h : zPE s t) (f n : Nat) : zmgr t f n = zmgr s f n := by
  unfold zmgr
  rw [zPE_f h 4 (by decide)]
theorem zPE_pa {s t : Nat → Nat → Nat} (h : zPE s t) (f : Nat) : ∀ n, zmpa t f n = zmpa s f n
  | 0 => rfl
  | n + 1 => by
    unfold zmpa
    rw [zPE_a h 9 n (by decide), zPE_a h 8 n (by decide), zPE_pa h f n]
theorem zPE_fx {s t : Nat → Nat → Nat} (h : zPE s t) : ∀ n f, zfx t n f = zfx s n f
  | 0, _ => rfl
  | n + 1, f => by
    unfold zfx
    rw [zPE_a h 3 f (by decide), zPE_fx h n (f + 1)]
theorem zPE_it {s t : Nat → Nat → Nat} (h : zPE s t) : ∀ n f, zit t n f = zit s n f
  | 0, _ => rfl
  | n + 1, f => by
    show zit t n (zmpa t f (t 0 10)) = zit s n (zmpa s f (s 0 10))
    rw [zPE_0 h 10 (by decide), zPE_pa h, zPE_it h n]
theorem zPE_wi {s t : Nat → Nat → Nat} (h : zPE s t) (o : Nat) : ∀ n f, zwi t o n f = zwi s o n f
  | 0, _ => rfl
  | n + 1, f => by
    show (if f = o then 1 else if f = 1 then 0 else zwi t o n (zmpa t f (t 0 10))) = (if f = o then 1 else if f = 1 then 0 else zwi s o n (zmpa s f (s 0 10)))
    rw [zPE_0 h 10 (by decide), zPE_pa h, zPE_wi h o n]
theorem zPE_nm {s t : Nat → Nat → Nat} (h : zPE s t) (k : Nat) : znm t k = znm s k := by
  unfold znm
  rw [zPE_f h 11 (by decide), zPE_f h 10 (by decide)]
theorem zPE_lk {s t : Nat → Nat → Nat} (h : zPE s t) (f : Nat) (w : List Nat) : ∀ n, zlkn t f w n = zlkn s f w n
  | 0 => rfl
  | n + 1 => by
    unfold zlkn
    rw [zPE_a h 8 n (by decide), zPE_nm h n, zPE_lk h f w n]
theorem zPE_tg {s t : Nat → Nat → Nat} (h : zPE s t) (g : Nat) : ztg t g = ztg s g := by
  unfold ztg
  rw [zPE_f h 7 (by decide), zPE_f h 6 (by decide)]
theorem zPE_wm {s t : Nat → Nat → Nat} (h : zPE s t) (fo : Bool) : zwm t fo = zwm s fo := by
  unfold zwm
  have e1 : (fun f => zmpa t f (t 0 10)) = (fun f => zmpa s f (s 0 10)) := funext (fun f => by rw [zPE_0 h 10 (by decide), zPE_pa h])
  have e2 : (fun f w => (zlkn t f w (t 0 10)).map (t 9)) = (fun f w => (zlkn s f w (s 0 10)).map (s 9)) := funext (fun f => funext (fun w => by rw [zPE_0 h 10 (by decide), zPE_lk h, zPE_f h 9 (by decide)]))
  rw [zPE_f h 3 (by decide), e1, e2, show ztg t = ztg s from funext (zPE_tg h)]
theorem zPE_ad1 {s t : Nat → Nat → Nat} (h : zPE s t) (dd n f : Nat) {g g' : Nat → Nat} (hg : ∀ i, i < n → g' i = g i) : zPE (zad1 s dd n g f) (zad1 t dd n g' f) := by
  unfold zad1
  rw [zPE_0 h 10 (by decide)]
  exact zPE_up (zPE_wr (zPE_up (zPE_up (zPE_up h _ _ _) _ _ _) _ _ _) _ _ _ hg) _ _ _
theorem zPE_add {s t : Nat → Nat → Nat} (h : zPE s t) (dd n f : Nat) {g g' : Nat → Nat} (hg : ∀ i, i < n → g' i = g i) : zPE (zadd s dd n g f) (zadd t dd n g' f) := by
  have k := zPE_ad1 h dd n f hg
  unfold zadd
  rw [zPE_0 h 10 (by decide), zPE_ni k, zPE_a h 4 dd (by decide)]
  exact zPE_up k _ _ _
theorem zPE_rm1 {s t : Nat → Nat → Nat} (h : zPE s t) (k : Nat) : zPE (zrm1 s k) (zrm1 t k) := by
  unfold zrm1
  rw [zPE_0 h 10 (by decide), zPE_f h 8 (by decide), zPE_f h 9 (by decide), zPE_f h 10 (by decide), zPE_f h 11 (by decide)]
  exact zPE_wr (zPE_up (zPE_up (zPE_up (zPE_up h _ _ _) _ _ _) _ _ _) _ _ _) _ _ _ (fun _ _ => rfl)
theorem zPE_rem {s t : Nat → Nat → Nat} (h : zPE s t) (k : Nat) : zPE (zrem s k) (zrem t k) := by
  have e := zPE_rm1 h k
  unfold zrem
  rw [zPE_0 h 10 (by decide), zPE_f h 9 (by decide), zPE_no e, zPE_f h 5 (by decide)]
  split
  · exact zPE_up e _ _ _
  · exact e
/-- the tape is used up -/
def zt0 (s : Nat → Nat → Nat) : Nat → Nat → Nat := zup s 0 1 0
theorem zPE_ts (s : Nat → Nat → Nat) : zPE (zt0 s) (zmts s) := by
  intro a j h1 h2 h3
  show zwr (zup (zup s 0 3 (s 0 1)) 0 1 0) 2 0 (s 0 1) (fun i => s 1 i) a j = zup s 0 1 0 a j
  rw [zwr_na _ _ h2]
  by_cases e : a = 0 ∧ j = 1
  · obtain ⟨rfl, rfl⟩ := e
    rfl
  · rw [zup_ne _ _ e, zup_ne _ _ e, zup_ne _ _ (fun z => h3 ⟨z.1, Or.inr z.2⟩)]
/-- a walk over bytes of the tape -/
def zwt (s : Nat → Nat → Nat) (f k fo : Nat) : Int32 × Nat × Nat × List Nat × Nat := zwm s (fo == 1) 50000 1 0 (zpt (zls (s 1) f (f + k))) 0 [] 1
theorem zwo_wt {s t : Nat → Nat → Nat} (h : zPE s t) {f k fo T : Nat} (hin : ∀ i, i < T → t 2 i = s 1 i) (hk : f + k ≤ T) : zwo t f k fo = zwt s f k fo := by
  unfold zwo zwt
  rw [zPE_wm h, zls_congr (fun i _ hi => hin i (by omega))]
theorem zwt_0 (s : Nat → Nat → Nat) (f k fo : Nat) : zwt (zt0 s) f k fo = zwm (zt0 s) (fo == 1) 50000 1 0 (zpt (zls (s 1) f (f + k))) 0 [] 1 := rfl
/-- the answer of a walk that wants a name -/
def zna (o : Int32 × Nat × Nat × List Nat × Nat) : Int32 := if o.1 < 0 then o.1 else if o.2.2.2.2 = 0 then 0 else -1
/-- what a walk's end says of its name -/
theorem zwk_end {K G : Nat → Nat} {L : Nat → List Nat → Option Nat} {T : Nat → List Nat} {fo : Bool} : ∀ (n cur lk : Nat) (ps : List (List Nat)) (f : Nat) (q : List Nat) (u : Nat), (u = 0 → q.length ≤ 255 ∧ K f = 2 ∧ q ≠ [46, 46] ∧ (L f q = some cur ∨ (L f q = none ∧ cur = 0))) → ((zwk K G L T fo n cur lk ps f q u).2.2.2.2 = 0 → (zwk K G L T fo n cur lk ps f q u).1 = 0 → (zwk K G L T fo n cur lk ps f q u).2.2.2.1.length ≤ 255 ∧ K (zwk K G L T fo n cur lk ps f q u).2.2.1 = 2 ∧ (zwk K G L T fo n cur lk ps f q u).2.2.2.1 ≠ [46, 46] ∧ (L (zwk K G L T fo n cur lk ps f q u).2.2.1 (zwk K G L T fo n cur lk ps f q u).2.2.2.1 = some (zwk K G L T fo n cur lk ps f q u).2.1 ∨ (L (zwk K G L T fo n cur lk ps f q u).2.2.1 (zwk K G L T fo n cur lk ps f q u).2.2.2.1 = none ∧ (zwk K G L T fo n cur lk ps f q u).2.1 = 0)))
  | 0, cur, lk, ps, f, q, u => fun h e _ => h e
  | n + 1, cur, lk, [], f, q, u => fun h e _ => h e
  | n + 1, cur, lk, w :: ps, f, q, u => by
    intro h
    by_cases h1 : 255 < w.length
    · rw [zwk_long h1]
      exact fun _ z => absurd (show (-9 : Int32) = 0 from z) (by decide)
    by_cases h2 : K cur = 2
    case neg =>
      rw [zwk_nf h1 h2]
      exact fun _ z => absurd (show (-4 : Int32) = 0 from z) (by decide)
    by_cases h3 : w = [46, 46]
    · rw [zwk_up h1 h2 h3]
      exact zwk_end n _ _ _ _ _ _ (fun z => absurd z (by decide))
    cases h4 : L cur w with
    | none =>
      rw [zwk_no h1 h2 h3 h4]
      exact fun _ _ => ⟨Nat.not_lt.mp h1, h2, h3, Or.inr ⟨h4, rfl⟩⟩
    | some g =>
      by_cases h5 : K g = 3 ∧ (ps ≠ [] ∨ fo = true)
      · by_cases h6 : lk = 40
        · rw [zwk_loop h1 h2 h3 h4 h5 h6]
          exact fun _ z => absurd (show (-8 : Int32) = 0 from z) (by decide)
        · rw [zwk_link h1 h2 h3 h4 h5 h6]
          exact zwk_end n _ _ _ _ _ _ (fun z => absurd z (by decide))
      · rw [zwk_go h1 h2 h3 h4 h5]
        exact zwk_end n _ _ _ _ _ _ (fun _ => ⟨by omega, h2, h3, Or.inl h4⟩)
/-- where a walk can lead -/
theorem zwk_rng {K G : Nat → Nat} {L : Nat → List Nat → Option Nat} {T : Nat → List Nat} {fo : Bool} (P : Nat → Prop) (hK : K 0 ≠ 2) (hG : ∀ f, P f → K f = 2 → P (G f)) (hL : ∀ f w g, L f w = some g → P g) (h1 : P 1) : ∀ (n cur lk : Nat) (ps : List (List Nat)) (f : Nat) (q : List Nat) (u : Nat), (cur = 0 ∨ P cur) → (u = 0 → P f) → ((zwk K G L T fo n cur lk ps f q u).2.1 = 0 ∨ P (zwk K G L T fo n cur lk ps f q u).2.1) ∧ ((zwk K G L T fo n cur lk ps f q u).2.2.2.2 = 0 → (zwk K G L T fo n cur lk ps f q u).1 = 0 → P (zwk K G L T fo n cur lk ps f q u).2.2.1)
  | 0, cur, lk, ps, f, q, u, hc, hf => ⟨hc, fun e _ => hf e⟩
  | n + 1, cur, lk, [], f, q, u, hc, hf => ⟨hc, fun e _ => hf e⟩
  | n + 1, cur, lk, w :: ps, f, q, u, hc, hf => by
    by_cases g1 : 255 < w.length
    · rw [zwk_long g1]
      exact ⟨hc, fun _ z => absurd (show (-9 : Int32) = 0 from z) (by decide)⟩
    by_cases g2 : K cur = 2
    case neg =>
      rw [zwk_nf g1 g2]
      exact ⟨hc, fun _ z => absurd (show (-4 : Int32) = 0 from z) (by decide)⟩
    have hp : P cur := hc.elim (fun z => absurd (z ▸ g2) hK) id
    by_cases h3 : w = [46, 46]
    · rw [zwk_up g1 g2 h3]
      exact zwk_rng P hK hG hL h1 n _ _ _ _ _ _ (Or.inr (hG _ hp g2)) (fun z => absurd z (by decide))
    cases h4 : L cur w with
    | none =>
      rw [zwk_no g1 g2 h3 h4]
      exact ⟨Or.inl rfl, fun _ _ => hp⟩
    | some g =>
      by_cases h5 : K g = 3 ∧ (ps ≠ [] ∨ fo = true)
      · by_cases h6 : lk = 40
        · rw [zwk_loop g1 g2 h3 h4 h5 h6]
          exact ⟨Or.inr (hL _ _ _ h4), fun _ z => absurd (show (-8 : Int32) = 0 from z) (by decide)⟩
        · rw [zwk_link g1 g2 h3 h4 h5 h6]
          refine zwk_rng P hK hG hL h1 n _ _ _ _ _ _ ?_ (fun z => absurd z (by decide))
          split
          · exact Or.inr h1
          · exact Or.inr hp
      · rw [zwk_go g1 g2 h3 h4 h5]
        exact zwk_rng P hK hG hL h1 n _ _ _ _ _ _ (Or.inr (hL _ _ _ h4)) (fun _ => hp)
/-- how the bytes 0 lie on the tape -/
theorem ztk_cs (t : Nat → Nat) : ∀ n, (ztkz t n = 0 ∧ ztkr t n = -1 ∧ ∀ i, i < n → t i ≠ 0) ∨ (∃ k, k < n ∧ ztkz t n = 1 ∧ ztkr t n = nI k ∧ t k = 0 ∧ ∀ i, i < n → i ≠ k → t i ≠ 0) ∨ (1 < ztkz t n ∧ ∃ i j, i < j ∧ j < n ∧ t i = 0 ∧ t j = 0)
  | 0 => Or.inl ⟨rfl, rfl, fun i hi => absurd hi (by omega)⟩
  | n + 1 => by
    have e1 : ztkz t (n + 1) = ztkz t n + (if t n = 0 then 1 else 0) := rfl
    have ih := ztk_cs t n
    by_cases hz : t n = 0
    · rw [if_pos hz] at e1
      rcases ih with ⟨h1, h2, h3⟩ | ⟨k, h1, h2, h3, h4, h5⟩ | ⟨h1, i, j, h2, h3, h4, h5⟩
      · refine Or.inr (Or.inl ⟨n, by omega, by omega, ?_, hz, fun i hi hn => h3 i (by omega)⟩)
        unfold ztkr
        simp [hz, h2]
      · exact Or.inr (Or.inr ⟨by omega, k, n, h1, by omega, h4, hz⟩)
      · exact Or.inr (Or.inr ⟨by omega, i, j, h2, by omega, h4, h5⟩)
    · rw [if_neg hz] at e1
      have e2 : ztkr t (n + 1) = ztkr t n := by
        conv => lhs; unfold ztkr
        simp [hz]
      rcases ih with ⟨h1, h2, h3⟩ | ⟨k, h1, h2, h3, h4, h5⟩ | ⟨h1, i, j, h2, h3, h4, h5⟩
      · refine Or.inl ⟨by omega, by rw [e2, h2], fun i hi => ?_⟩
        by_cases hin : i = n
        · rw [hin]; exact hz
        · exact h3 i (by omega)
      · refine Or.inr (Or.inl ⟨k, by omega, by omega, by rw [e2, h3], h4, fun i hi hn => ?_⟩)
        by_cases hin : i = n
        · rw [hin]; exact hz
        · exact h5 i (by omega) hn
      · exact Or.inr (Or.inr ⟨by omega, i, j, h2, by omega, h4, h5⟩)
theorem zmtk_cs (s : Nat → Nat → Nat) : (zmtk s = -1 ∧ ∀ i, i < s 0 1 → s 1 i ≠ 0) ∨ (∃ k, k < s 0 1 ∧ zmtk s = nI k ∧ s 1 k = 0 ∧ ∀ i, i < s 0 1 → i ≠ k → s 1 i ≠ 0) ∨ (zmtk s = -2 ∧ ∃ i j, i < j ∧ j < s 0 1 ∧ s 1 i = 0 ∧ s 1 j = 0) := by
  unfold zmtk
  rcases ztk_cs (s 1) (s 0 1) with ⟨h1, h2, h3⟩ | ⟨k, h1, h2, h3, h4, h5⟩ | ⟨h1, h2⟩
  · rw [if_neg (by omega)]
    exact Or.inl ⟨h2, h3⟩
  · rw [if_neg (by omega)]
    exact Or.inr (Or.inl ⟨k, h1, h3, h4, h5⟩)
  · rw [if_pos h1]
    exact Or.inr (Or.inr ⟨rfl, h2⟩)
/-! the calls, as the reference answers them: answer and numbers -/
/-- the name's bytes -/
def zgd (w : List Nat) (i : Nat) : Nat := (w[i]?).getD 0
def zsNew (s : Nat → Nat → Nat) (kind more dd : Nat) (w : List Nat) : Int32 × (Nat → Nat → Nat) :=
  if 40 < zfx s 39 2 ∨ s 0 10 = 60 ∨ s 0 0 < zmat s + more + zmgr s dd (zmni s dd (s 0 10) + 1) then (-7, s)
  else (nI (zfx s 39 2), zadd (zup (zup (zup s 3 (zfx s 39 2) kind) 4 (zfx s 39 2) 0) 5 (zfx s 39 2) 0) dd w.length (zgd w) (zfx s 39 2))
def zsMake (s : Nat → Nat → Nat) (x : Int32) : Int32 × (Nat → Nat → Nat) :=
  if ¬ (x = nI 1 ∨ x = nI 2) ∨ zmtk s ≠ -1 then (-1, zt0 s)
  else if zna (zwt (zt0 s) 0 (s 0 1) 0) ≠ 0 then (zna (zwt (zt0 s) 0 (s 0 1) 0), zt0 s)
  else if (zwt (zt0 s) 0 (s 0 1) 0).2.1 ≠ 0 then (-3, zt0 s)
  else zsNew (zt0 s) (if x = nI 1 then 1 else 2) 1 (zwt (zt0 s) 0 (s 0 1) 0).2.2.1 (zwt (zt0 s) 0 (s 0 1) 0).2.2.2.1
/-- behind two walks: the file f gets the name -/
def zsLnk (s : Nat → Nat → Nat) (f : Nat) (o : Int32 × Nat × Nat × List Nat × Nat) : Int32 × (Nat → Nat → Nat) :=
  if f = 0 then (-2, s) else if s 3 f = 2 then (-5, s) else if o.2.1 ≠ 0 then (-3, s)
  else if s 0 10 = 60 ∨ s 0 0 < zmat s + zmgr s o.2.2.1 (zmni s o.2.2.1 (s 0 10) + 1) then (-7, s)
  else (nI f, zadd s o.2.2.1 o.2.2.2.1.length (zgd o.2.2.2.1) f)
def zsLink (s : Nat → Nat → Nat) : Int32 × (Nat → Nat → Nat) :=
  if zmtk s < 0 then (-1, zt0 s)
  else if (zwt (zt0 s) 0 (zmtk s).toNatClampNeg 0).1 < 0 then ((zwt (zt0 s) 0 (zmtk s).toNatClampNeg 0).1, zt0 s)
  else if zna (zwt (zt0 s) ((zmtk s).toNatClampNeg + 1) (s 0 1 - (zmtk s).toNatClampNeg - 1) 0) ≠ 0 then (zna (zwt (zt0 s) ((zmtk s).toNatClampNeg + 1) (s 0 1 - (zmtk s).toNatClampNeg - 1) 0), zt0 s)
  else zsLnk (zt0 s) (zwt (zt0 s) 0 (zmtk s).toNatClampNeg 0).2.1 (zwt (zt0 s) ((zmtk s).toNatClampNeg + 1) (s 0 1 - (zmtk s).toNatClampNeg - 1) 0)
def zsSy1 (s : Nat → Nat → Nat) (z n : Nat) (r : Int32 × (Nat → Nat → Nat)) : Int32 × (Nat → Nat → Nat) :=
  if r.1 < 0 then r else (r.1, zwr (zup r.2 6 r.1.toNatClampNeg n) 7 (1000 * r.1.toNatClampNeg) n (fun i => s 1 (z + 1 + i)))
def zsSym (s : Nat → Nat → Nat) : Int32 × (Nat → Nat → Nat) :=
  if zmtk s < 0 ∨ s 0 1 - (zmtk s).toNatClampNeg - 1 < 1 ∨ 1000 < s 0 1 - (zmtk s).toNatClampNeg - 1 then (-1, zt0 s)
  else if zna (zwt (zt0 s) 0 (zmtk s).toNatClampNeg 0) ≠ 0 then (zna (zwt (zt0 s) 0 (zmtk s).toNatClampNeg 0), zt0 s)
  else if (zwt (zt0 s) 0 (zmtk s).toNatClampNeg 0).2.1 ≠ 0 then (-3, zt0 s)
  else zsSy1 s (zmtk s).toNatClampNeg (s 0 1 - (zmtk s).toNatClampNeg - 1) (zsNew (zt0 s) 3 (if 59 < s 0 1 - (zmtk s).toNatClampNeg - 1 then 1 else 0) (zwt (zt0 s) 0 (zmtk s).toNatClampNeg 0).2.2.1 (zwt (zt0 s) 0 (zmtk s).toNatClampNeg 0).2.2.2.1)
/-- which name it is -/
def zix (s : Nat → Nat → Nat) (o : Int32 × Nat × Nat × List Nat × Nat) : Nat := (zlkn s o.2.2.1 o.2.2.2.1 (s 0 10)).getD 0
def zsRm1 (s : Nat → Nat → Nat) (fld : Bool) (o : Int32 × Nat × Nat × List Nat × Nat) : Int32 × (Nat → Nat → Nat) :=
  if zna o ≠ 0 then (zna o, s) else if o.2.1 = 0 then (-2, s)
  else if fld = false ∧ s 3 o.2.1 = 2 then (-5, s) else if fld = true ∧ s 3 o.2.1 ≠ 2 then (-4, s)
  else if fld = true ∧ 0 < zmni s o.2.1 (s 0 10) then (-6, s)
  else (nI o.2.1, zrem s (zix s o))
def zsRm (s : Nat → Nat → Nat) (fld : Bool) : Int32 × (Nat → Nat → Nat) :=
  if zmtk s ≠ -1 then (-1, zt0 s) else zsRm1 (zt0 s) fld (zwt (zt0 s) 0 (s 0 1) 0)
def zsFnd (s : Nat → Nat → Nat) (o : Int32 × Nat × Nat × List Nat × Nat) : Int32 × (Nat → Nat → Nat) :=
  if o.1 < 0 then (o.1, s) else if o.2.1 = 0 then (-2, s) else (nI o.2.1, s)
def zsFind (s : Nat → Nat → Nat) (fo : Nat) : Int32 × (Nat → Nat → Nat) :=
  if zmtk s ≠ -1 then (-1, zt0 s) else zsFnd (zt0 s) (zwt (zt0 s) 0 (s 0 1) fo)
def zsHd1 (s : Nat → Nat → Nat) (o : Int32 × Nat × Nat × List Nat × Nat) : Int32 × (Nat → Nat → Nat) :=
  if o.1 < 0 then (o.1, s) else if o.2.1 = 0 then (-2, s)
  else if s 3 o.2.1 ≠ 1 ∨ s 5 o.2.1 = 100 then (-1, s) else (nI o.2.1, zup s 5 o.2.1 (s 5 o.2.1 + 1))
def zsHold (s : Nat → Nat → Nat) : Int32 × (Nat → Nat → Nat) :=
  if zmtk s ≠ -1 then (-1, zt0 s) else zsHd1 (zt0 s) (zwt (zt0 s) 0 (s 0 1) 1)
/-- behind the walks of a rename: f the file, k its name, o the second walk -/
def zsMv1 (s : Nat → Nat → Nat) (f k : Nat) (o : Int32 × Nat × Nat × List Nat × Nat) : Nat → Nat → Nat :=
  zrem (zup s 5 f (s 5 f + 1)) k
def zsMv2 (s : Nat → Nat → Nat) (f k : Nat) (o : Int32 × Nat × Nat × List Nat × Nat) : Nat → Nat → Nat :=
  if 0 < o.2.1 then zrem (zsMv1 s f k o) (zix (zsMv1 s f k o) o) else zsMv1 s f k o
def zsMv3 (s : Nat → Nat → Nat) (f k : Nat) (o : Int32 × Nat × Nat × List Nat × Nat) : Nat → Nat → Nat :=
  zadd (zup (zsMv2 s f k o) 5 f (zsMv2 s f k o 5 f - 1)) o.2.2.1 o.2.2.2.1.length (zgd o.2.2.2.1) f
def zsMv (s : Nat → Nat → Nat) (f k m : Nat) (o : Int32 × Nat × Nat × List Nat × Nat) : Int32 × (Nat → Nat → Nat) :=
  if f = 0 then (-2, s) else if o.2.1 = f then (nI f, s)
  else if s 3 f = 2 ∧ zwi s f m o.2.2.1 = 1 then (-10, s)
  else if 0 < o.2.1 ∧ s 3 f = 2 ∧ s 3 o.2.1 ≠ 2 then (-4, s)
  else if 0 < o.2.1 ∧ s 3 f ≠ 2 ∧ s 3 o.2.1 = 2 then (-5, s)
  else if 0 < o.2.1 ∧ s 3 o.2.1 = 2 ∧ 0 < zmni s o.2.1 (s 0 10) then (-6, s)
  else if s 0 0 < zmat s - (if 0 < o.2.1 ∧ zmno s o.2.1 (s 0 10) = 1 ∧ s 5 o.2.1 = 0 then zmt s o.2.1 else 0) + zmgr s o.2.2.1 (zmni s o.2.2.1 (s 0 10) + 1 - (if s 8 k = o.2.2.1 then 1 else 0) - (if 0 < o.2.1 then 1 else 0)) then (-7, s)
  else (nI f, zsMv3 s f k o)
def zsRen (s : Nat → Nat → Nat) (m : Nat) : Int32 × (Nat → Nat → Nat) :=
  if zmtk s < 0 then (-1, zt0 s)
  else if zna (zwt (zt0 s) 0 (zmtk s).toNatClampNeg 0) ≠ 0 then (zna (zwt (zt0 s) 0 (zmtk s).toNatClampNeg 0), zt0 s)
  else if zna (zwt (zt0 s) ((zmtk s).toNatClampNeg + 1) (s 0 1 - (zmtk s).toNatClampNeg - 1) 0) ≠ 0 then (zna (zwt (zt0 s) ((zmtk s).toNatClampNeg + 1) (s 0 1 - (zmtk s).toNatClampNeg - 1) 0), zt0 s)
  else zsMv (zt0 s) (zwt (zt0 s) 0 (zmtk s).toNatClampNeg 0).2.1 (zix (zt0 s) (zwt (zt0 s) 0 (zmtk s).toNatClampNeg 0)) m (zwt (zt0 s) ((zmtk s).toNatClampNeg + 1) (s 0 1 - (zmtk s).toNatClampNeg - 1) 0)
