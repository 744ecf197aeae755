theorem zhm_0 {t : Nat → Nat → Nat} {k : Nat} : zhm t k = 0 ↔ zpt (zls (t 12) k 42000) = [] := by
  unfold zhm
  split
  · next h => exact ⟨fun _ => h, fun _ => rfl⟩
  · next h => exact ⟨fun z => (by cases z), fun z => absurd z h⟩
theorem zls_dd {f : Nat → Nat} {a n : Nat} : zls f a (a + n) = [46, 46] ↔ n = 2 ∧ f a = 46 ∧ f (a + 1) = 46 := by
  constructor
  · intro h
    have hl := congrArg List.length h
    rw [zls_len, Nat.add_sub_cancel_left] at hl
    have hl : n = 2 := hl
    subst hl
    rw [zls_cons f (by omega), zls_cons f (by omega)] at h
    refine ⟨rfl, ?_, ?_⟩
    · exact (List.cons.inj h).1
    · exact (List.cons.inj (List.cons.inj h).2).1
  · rintro ⟨rfl, h1, h2⟩
    rw [zls_cons f (by omega), zls_cons f (by omega), zls_nil f (by omega), h1, h2]
theorem lM_walk {d : Nat} {h0 : zm_H} {s : Nat → Nat → Nat} {Q : Option Value → zm_H → Prop} {fo : Nat} (hS : zMS h0) (hI0 : zMI s) (hfo : fo ≤ 1) (hlinks : ∀ g, g ≤ 40 → s 3 g = 3 → 1 ≤ s 6 g) : ∀ (m : Nat) (t : Nat → Nat → Nat) (n lk : Nat) (ps : List (List Nat)) (af : Nat) (ap : List Nat) (au : Nat) (v1 v2 v5 v6 : Value), zZF s t → zMI t → zpt (zls (t 12) (t 0 16) 42000) = ps → lk ≤ 40 → 40800 ≤ t 0 16 + lk * 1001 → (42000 - t 0 16) + (40 - lk) * 1001 < m → ps.length + (40 - lk) * 1000 < n → zAc t ps af ap au → (∀ t2, zZW s t2 (zwm s (fo == 1) n (t 0 20) lk ps af ap au) → Q (some (.int (zwm s (fo == 1) n (t 0 20) lk ps af ap au).1)) (zmh h0 t2)) → zm_wp (d + 2) 90 57 [.ref 194, v1, v2, .int (nI fo), .int (nI lk), v5, v6] [] (zmh h0 t) Q := by
  intro m
  induction m with
  | zero =>
    intro t n lk ps af ap au v1 v2 v5 v6 _ _ _ _ _ h6
    exact absurd h6 (Nat.not_lt_zero _)
  | succ m ih =>
    intro t n lk ps af ap au v1 v2 v5 v6 hF hI hps hlk hat hm hn hac hq
    have hB := zMIb hI
    have h16 : t 0 16 ≤ 42000 := hI 0 16
    have h20 : t 0 20 ≤ 40 := hI 0 20
    have hk3 : ∀ f, t 3 f = s 3 f := fun f => hF 3 f (by decide) (by omega)
    obtain ⟨n, rfl⟩ : ∃ k, n = k + 1 := ⟨n - 1, by omega⟩
    refine wx_aload_n kc90_57 rfl rfl ?_
    refine wx_virtual kc90_58 rfl (zmh_is hS 194 8 (by decide) (by decide) rfl) rfl ?_
    refine cM_hasMore hS hI ?_
    show zm_wp _ 90 61 [.ref 194, v1, v2, .int (nI fo), .int (nI lk), v5, v6] [.int (nI (zhm t (t 0 16)))] (zmh h0 t) _
    have hzl := zhm_le t (t 0 16)
    refine wn_if_eq kc90_61 (by omega) (fun hq61 => ?_) (fun hq61 => ?_)
    · skip
      have hnil : ps = [] := by rw [← hps]; exact zhm_0.mp hq61
      subst hnil
      refine wx_iconst (nI 0) kc90_394 (by decide) ?_
      refine wx_ireturn kc90_395 rfl rfl ?_
      refine hq t ⟨hF, hI, fun _ => ⟨rfl, hac.1, fun hu => hac.2 rfl hu⟩⟩
    · skip
      have hne : ps ≠ [] := fun z => hq61 (zhm_0.mpr (hps.trans z))
      have hlt : t 0 16 < 42000 := by
        rcases Nat.lt_or_ge (t 0 16) 42000 with z | z
        · exact z
        · exact absurd (zhm_end z) hq61
      refine wx_aload_n kc90_64 rfl rfl ?_
      refine wm_getf (.ref 206) hS kc90_65 rfl ?_
      refine wx_aload_n kc90_68 rfl rfl ?_
      refine wm_getf (.int (nI (t 0 16))) hS kc90_69 rfl ?_
      have hb72_1 := hB 0 16
      refine wm_iald 206 42000 (t 12 (t 0 16)) hS kc90_72 rfl rfl rfl rfl (by omega) (fun _ => rfl) rfl ?_
      have hb73_2 := hB 12 (t 0 16)
      refine wx_bipush (nI 47) kc90_73 (by decide) ?_
      refine wn_icmp_ne kc90_75 (hB _ _) (by decide) (fun hq75 => ?_) (fun hq75 => ?_)
      · skip
        refine wx_aload_n kc90_91 rfl rfl ?_
        refine wx_aload_n kc90_92 rfl rfl ?_
        refine wm_getf (.int (nI (t 0 16))) hS kc90_93 rfl ?_
        have hb96_3 := hB 0 16
        refine wm_putf (v := t 0 16) hS kc90_96 rfl rfl ?_
        show zm_wp _ 90 99 [.ref 194, v1, v2, .int (nI fo), .int (nI lk), v5, v6] [] (zmh h0 (zup t 0 18 (t 0 16))) _
        rw [show zup t 0 18 (t 0 16) = zup (zup t 0 18 (t 0 16)) 0 16 (t 0 16) from (zup_id rfl).symm]
        refine lM_wk1 hS hI h16 ?_ (42000 - t 0 16) (t 0 16) (by omega) (Nat.le_refl _) (fun i h1 h2 => absurd h1 (by omega))
        intro c hc1 hc2 hno hend
        have hca : t 0 16 < c := by
          rcases Nat.lt_or_ge (t 0 16) c with z | z
          · exact z
          · have e1 : c = t 0 16 := by omega
            rcases hend with z2 | z2
            · omega
            · rw [e1] at z2; exact absurd z2 hq75
        obtain ⟨len, hlen⟩ : ∃ z, z = c - t 0 16 := ⟨_, rfl⟩
        have hce : c = t 0 16 + len := by omega
        have htk := zpt_take (t 12) hc1 hc2 hno hend
        rw [hps] at htk
        refine wx_aload_n kc90_135 rfl rfl ?_
        refine wx_aload_n kc90_136 rfl rfl ?_
        refine wm_getf (.int (nI c)) hS kc90_137 rfl ?_
        refine wx_aload_n kc90_140 rfl rfl ?_
        refine wm_getf (.int (nI (t 0 16))) hS kc90_141 rfl ?_
        have hb144_4 := hB 0 16
        refine wn_isub len kc90_144 (by omega) ?_
        refine wm_putf (v := len) hS kc90_145 rfl rfl ?_
        have hj173 : ¬ (len = 1 ∧ t 12 (t 0 16) = 46) → zm_wp (d + 2) 90 173 [.ref 194, v1, v2, .int (nI fo), .int (nI lk), v5, v6] [] (zmh h0 (zup (zup (zup t 0 18 (t 0 16)) 0 16 c) 0 19 len)) Q := by
          intro hj
          have hpk : zpk (zls (t 12) (t 0 16) c) = true := by
            rcases Nat.lt_or_ge 1 len with z | z
            · exact zpk_2 (by omega)
            · rw [hce, show len = 1 by omega, zpk_1]
              have hz46 : ¬ t 12 (t 0 16) = 46 := fun z => hj ⟨by omega, z⟩
              simpa using hz46
          rw [hpk, if_pos rfl] at htk
          obtain ⟨w, hw⟩ : ∃ z, z = zls (t 12) (t 0 16) c := ⟨_, rfl⟩
          obtain ⟨rs, hrs⟩ : ∃ z, z = zpt (zls (t 12) c 42000) := ⟨_, rfl⟩
          rw [← hw, ← hrs] at htk
          have htk : ps = w :: rs := htk
          subst htk
          have hwl : w.length = len := by rw [hw, zls_len]; exact hlen.symm
          have hnl : rs.length + (40 - lk) * 1000 < n := by
            rw [List.length_cons] at hn
            omega
          refine wx_aload_n kc90_173 rfl rfl ?_
          refine wm_getf (.int (nI len)) hS kc90_174 rfl ?_
          refine wx_sipush (nI 255) kc90_177 (by decide) ?_
          refine wn_icmp_le kc90_180 (by omega) (by decide) (fun hq180 => ?_) (fun hq180 => ?_)
          · skip
            refine wx_aload_n kc90_186 rfl rfl ?_
            refine wm_getf (.ref 197) hS kc90_187 rfl ?_
            refine wx_aload_n kc90_190 rfl rfl ?_
            refine wm_getf (.int (nI (t 0 20))) hS kc90_191 rfl ?_
            have hb194_5 := hB 0 20
            refine wm_iald 197 41 (t 3 (t 0 20)) hS kc90_194 rfl rfl rfl rfl (by omega) (fun _ => rfl) rfl ?_
            have hb195_6 := hB 3 (t 0 20)
            refine wx_iconst (nI 2) kc90_195 (by decide) ?_
            refine wn_icmp_eq kc90_196 (hB _ _) (by decide) (fun hq196 => ?_) (fun hq196 => ?_)
            · skip
              refine wx_aload_n kc90_202 rfl rfl ?_
              have hk2 : s 3 (t 0 20) = 2 := by rw [← hk3]; exact hq196
              refine wx_virtual kc90_203 rfl (zmh_is hS 194 8 (by decide) (by decide) rfl) rfl ?_
              refine cM_hasMore hS (zMI_up (zMI_up (zMI_up hI (show (t 0 16) ≤ 42000 by omega)) (show c ≤ 42000 by omega)) (show len ≤ 42000 by omega)) ?_
              show zm_wp _ 90 206 [.ref 194, v1, v2, .int (nI fo), .int (nI lk), v5, v6] [.int (nI (zhm t c))] (zmh h0 (zup (zup (zup t 0 18 (t 0 16)) 0 16 c) 0 19 len)) _
              have hzl2 := zhm_le t c
              have hrn : zhm t c = 0 ↔ rs = [] := by rw [hrs]; exact zhm_0
              have hj214 : ∀ l1 : Nat, l1 ≤ 1 → (l1 = 1 ↔ rs = []) → zm_wp (d + 2) 90 214 [.ref 194, v1, v2, .int (nI fo), .int (nI lk), v5, v6] [.int (nI l1)] (zmh h0 (zup (zup (zup t 0 18 (t 0 16)) 0 16 c) 0 19 len)) Q := by
                intro l1 hl1 hl2
                refine wx_istore (ls' := [.ref 194, v1, v2, .int (nI fo), .int (nI lk), .int (nI l1), v6]) kc90_214 rfl rfl rfl rfl ?_
                refine wx_aload_n kc90_216 rfl rfl ?_
                have hj260 : ∀ b1 : Nat, b1 ≤ 1 → (b1 = 1 ↔ w = [46, 46]) → zm_wp (d + 2) 90 260 [.ref 194, v1, v2, .int (nI fo), .int (nI lk), .int (nI l1), v6] [.int (nI b1), .ref 194] (zmh h0 (zup (zup (zup t 0 18 (t 0 16)) 0 16 c) 0 19 len)) Q := by
                  intro b1 hb1 hb2
                  have hbf : zm_fit .boolean (.int (nI b1)) = true := by rcases (show b1 = 0 ∨ b1 = 1 by omega) with e | e <;> rw [e] <;> decide
                  refine wm_putf (v := b1) hS kc90_260 rfl hbf ?_
                  refine wx_aload_n kc90_263 rfl rfl ?_
                  refine wm_getf (.int (nI b1)) hS kc90_264 rfl ?_
                  refine wn_if_eq kc90_267 (by omega) (fun hq267 => ?_) (fun hq267 => ?_)
                  · skip
                    have hup : w ≠ [46, 46] := fun z => by have := hb2.mpr z; omega
                    refine wx_aload_n kc90_285 rfl rfl ?_
                    refine wx_aload_n kc90_286 rfl rfl ?_
                    refine wm_getf (.int (nI (t 0 20))) hS kc90_287 rfl ?_
                    have hb290_7 := hB 0 20
                    refine wm_putf (v := t 0 20) hS kc90_290 rfl rfl ?_
                    refine wx_aload_n kc90_293 rfl rfl ?_
                    refine wx_aload_n kc90_294 rfl rfl ?_
                    refine wm_getf (.int (nI (t 0 20))) hS kc90_295 rfl ?_
                    refine wx_aload_n kc90_298 rfl rfl ?_
                    refine wm_getf (.int (nI (t 0 16))) hS kc90_299 rfl ?_
                    have hb302_8 := hB 0 16
                    refine wx_aload_n kc90_302 rfl rfl ?_
                    refine wm_getf (.int (nI len)) hS kc90_303 rfl ?_
                    have hFc : zZF s (zup (zup (zup (zup (zup t 0 18 (t 0 16)) 0 16 c) 0 19 len) 0 21 b1) 0 17 (t 0 20)) := (zZF_up (zZF_up (zZF_up (zZF_up (zZF_up hF (by decide)) (by decide)) (by decide)) (by decide)) (by decide))
                    have hfe := zfn_lk hFc (t 0 20) (t 0 16) len (s 0 10)
                    rw [show zls ((zup (zup (zup (zup (zup t 0 18 (t 0 16)) 0 16 c) 0 19 len) 0 21 b1) 0 17 (t 0 20)) 12) (t 0 16) (t 0 16 + len) = w by rw [hw, hce]; rfl] at hfe
                    have h10 : (zup (zup (zup (zup (zup t 0 18 (t 0 16)) 0 16 c) 0 19 len) 0 21 b1) 0 17 (t 0 20)) 0 10 = s 0 10 := hFc 0 10 (by decide) (by omega)
                    refine wx_virtual kc90_306 rfl (zmh_is hS 194 8 (by decide) (by decide) rfl) rfl ?_
                    refine cM_findName hS (zMI_up (zMI_up (zMI_up (zMI_up (zMI_up hI (show (t 0 16) ≤ 42000 by omega)) (show c ≤ 42000 by omega)) (show len ≤ 42000 by omega)) (show b1 ≤ 1 by omega)) (show t 0 20 ≤ 40 by omega)) (by omega) (by omega) (by omega) ?_
                    rw [h10, hfe]
                    cases hlk1 : zlkn s (t 0 20) w (s 0 10) with
                    | none =>
                      show zm_wp _ 90 309 [.ref 194, v1, v2, .int (nI fo), .int (nI lk), .int (nI l1), v6] [.int (-1)] (zmh h0 (zup (zup (zup (zup (zup t 0 18 (t 0 16)) 0 16 c) 0 19 len) 0 21 b1) 0 17 (t 0 20))) _
                      refine wx_istore (ls' := [.ref 194, v1, v2, .int (nI fo), .int (nI lk), .int (nI l1), .int (-1)]) kc90_309 rfl rfl rfl rfl ?_
                      refine wx_aload_n kc90_311 rfl rfl ?_
                      refine wx_iload kc90_312 rfl rfl ?_
                      refine wx_if_ge kc90_314 (fun z => absurd z (by decide)) (fun _ => ?_)
                      refine wx_iconst (nI 0) kc90_317 (by decide) ?_
                      refine wx_goto kc90_318 ?_
                      refine wm_putf (v := 0) hS kc90_328 rfl rfl ?_
                      refine wx_iload kc90_331 rfl rfl ?_
                      refine wx_if_ge kc90_333 (fun z => absurd z (by decide)) (fun _ => ?_)
                      refine wx_iload kc90_336 rfl rfl ?_
                      refine wn_if_eq kc90_338 (by omega) (fun hq338 => ?_) (fun hq338 => ?_)
                      · skip
                        refine wx_bipush (-2) kc90_345 (by decide) ?_
                        refine wx_ireturn kc90_347 rfl rfl ?_
                        have e9 : zwm s (fo == 1) (n + 1) (t 0 20) lk (w :: rs) af ap au = _ := zwk_no (by omega) hk2 hup (by show Option.map (s 9) (zlkn s (t 0 20) w (s 0 10)) = none; rw [hlk1]; rfl)
                        rw [if_neg (fun z => by have := hl2.mpr z; omega)] at e9
                        rw [e9] at hq
                        refine hq _ ⟨(zZF_up (zZF_up (zZF_up (zZF_up (zZF_up (zZF_up hF (by decide)) (by decide)) (by decide)) (by decide)) (by decide)) (by decide)), (zMI_up (zMI_up (zMI_up (zMI_up (zMI_up (zMI_up hI (show (t 0 16) ≤ 42000 by omega)) (show c ≤ 42000 by omega)) (show len ≤ 42000 by omega)) (show b1 ≤ 1 by omega)) (show t 0 20 ≤ 40 by omega)) (show 0 ≤ 40 by omega)), fun z => absurd z (show ¬ ((-2 : Int32) = 0) by decide)⟩
                      · skip
                        refine wx_iconst (nI 0) kc90_341 (by decide) ?_
                        refine wx_goto kc90_342 ?_
                        refine wx_ireturn kc90_347 rfl rfl ?_
                        have e9 : zwm s (fo == 1) (n + 1) (t 0 20) lk (w :: rs) af ap au = _ := zwk_no (by omega) hk2 hup (by show Option.map (s 9) (zlkn s (t 0 20) w (s 0 10)) = none; rw [hlk1]; rfl)
                        rw [if_pos (hl2.mp (by omega))] at e9
                        have hb0 : b1 = 0 := by omega
                        rw [e9] at hq
                        refine hq _ ⟨(zZF_up (zZF_up (zZF_up (zZF_up (zZF_up (zZF_up hF (by decide)) (by decide)) (by decide)) (by decide)) (by decide)) (by decide)), (zMI_up (zMI_up (zMI_up (zMI_up (zMI_up (zMI_up hI (show (t 0 16) ≤ 42000 by omega)) (show c ≤ 42000 by omega)) (show len ≤ 42000 by omega)) (show b1 ≤ 1 by omega)) (show t 0 20 ≤ 40 by omega)) (show 0 ≤ 40 by omega)), fun _ => ⟨rfl, hb0, fun _ => ⟨rfl, ?_, ?_, ?_⟩⟩⟩
                        · exact hwl.symm
                        · show t 0 16 + len ≤ 42000
                          omega
                        · show zls (t 12) (t 0 16) (t 0 16 + len) = w
                          rw [hw, hce]
                    | some kk =>
                      obtain ⟨hkk1, hkk2, hkk3⟩ := zlkn_lt hlk1
                      have h10b : s 0 10 ≤ 60 := hI0 0 10
                      have h9 : t 9 kk = s 9 kk := hF 9 kk (by decide) (by omega)
                      have h9b : s 9 kk ≤ 40 := hI0 9 kk
                      show zm_wp _ 90 309 [.ref 194, v1, v2, .int (nI fo), .int (nI lk), .int (nI l1), v6] [.int (nI kk)] (zmh h0 (zup (zup (zup (zup (zup t 0 18 (t 0 16)) 0 16 c) 0 19 len) 0 21 b1) 0 17 (t 0 20))) _
                      refine wx_istore (ls' := [.ref 194, v1, v2, .int (nI fo), .int (nI lk), .int (nI l1), .int (nI kk)]) kc90_309 rfl rfl rfl rfl ?_
                      refine wx_aload_n kc90_311 rfl rfl ?_
                      refine wx_iload kc90_312 rfl rfl ?_
                      refine wn_if_ge kc90_314 (by omega) ?_
                      refine wx_aload_n kc90_321 rfl rfl ?_
                      refine wm_getf (.ref 203) hS kc90_322 rfl ?_
                      refine wx_iload kc90_325 rfl rfl ?_
                      refine wm_iald 203 60 (t 9 kk) hS kc90_327 rfl rfl rfl rfl (by omega) (fun _ => rfl) rfl ?_
                      have hb328_9 := hB 9 kk
                      refine wm_putf (v := (t 9 kk)) hS kc90_328 rfl rfl ?_
                      refine wx_iload kc90_331 rfl rfl ?_
                      refine wn_if_ge kc90_333 (by omega) ?_
                      refine wx_aload_n kc90_348 rfl rfl ?_
                      refine wm_getf (.ref 197) hS kc90_349 rfl ?_
                      refine wx_aload_n kc90_352 rfl rfl ?_
                      refine wm_getf (.int (nI (t 9 kk))) hS kc90_353 rfl ?_
                      refine wm_iald 197 41 (t 3 (t 9 kk)) hS kc90_356 rfl rfl rfl rfl (by omega) (fun _ => rfl) rfl ?_
                      have hb357_10 := hB 3 (t 9 kk)
                      refine wx_iconst (nI 3) kc90_357 (by decide) ?_
                      refine wn_icmp_ne kc90_358 (hB _ _) (by decide) (fun hq358 => ?_) (fun hq358 => ?_)
                      · skip
                        have hfl : ¬ (s 3 (t 9 kk) = 3 ∧ (rs ≠ [] ∨ fo = 1)) := fun z => hq358 ((hk3 _).trans z.1)
                        refine wx_goto kc90_391 ?_
                        obtain ⟨u1, huu1⟩ : ∃ z, z = (zup (zup (zup (zup (zup (zup t 0 18 (t 0 16)) 0 16 c) 0 19 len) 0 21 b1) 0 17 (t 0 20)) 0 20 (t 9 kk)) := ⟨_, rfl⟩
                        show zm_wp _ 90 57 [.ref 194, v1, v2, .int (nI fo), .int (nI lk), .int (nI l1), .int (nI kk)] [] (zmh h0 (zup (zup (zup (zup (zup (zup t 0 18 (t 0 16)) 0 16 c) 0 19 len) 0 21 b1) 0 17 (t 0 20)) 0 20 (t 9 kk))) _
                        rw [← huu1]
                        have u1_16 : u1 0 16 = c := by rw [huu1]; rfl
                        have u1_17 : u1 0 17 = t 0 20 := by rw [huu1]; rfl
                        have u1_18 : u1 0 18 = (t 0 16) := by rw [huu1]; rfl
                        have u1_19 : u1 0 19 = len := by rw [huu1]; rfl
                        have u1_20 : u1 0 20 = (t 9 kk) := by rw [huu1]; rfl
                        have u1_21 : u1 0 21 = b1 := by rw [huu1]; rfl
                        have u1_12 : u1 12 = t 12 := by rw [huu1]; rfl
                        have u1_F : zZF s u1 := by rw [huu1]; exact (zZF_up (zZF_up (zZF_up (zZF_up (zZF_up (zZF_up hF (by decide)) (by decide)) (by decide)) (by decide)) (by decide)) (by decide))
                        have u1_I : zMI u1 := by rw [huu1]; exact (zMI_up (zMI_up (zMI_up (zMI_up (zMI_up (zMI_up hI (show (t 0 16) ≤ 42000 by omega)) (show c ≤ 42000 by omega)) (show len ≤ 42000 by omega)) (show b1 ≤ 1 by omega)) (show t 0 20 ≤ 40 by omega)) (show (t 9 kk) ≤ 40 by omega))
                        have e9 : zwm s (fo == 1) (n + 1) (t 0 20) lk (w :: rs) af ap au = zwm s (fo == 1) n (t 9 kk) lk rs (t 0 20) w 0 := zwk_go (by omega) hk2 hup (by show Option.map (s 9) (zlkn s (t 0 20) w (s 0 10)) = some (t 9 kk); rw [hlk1, h9]; rfl) (fun z => hfl ⟨z.1, z.2.imp id (fun z3 => by simpa using z3)⟩)
                        rw [e9] at hq
                        refine ih u1 n lk rs (t 0 20) w 0 _ _ _ _ u1_F u1_I ?_ hlk (by omega) (by omega) hnl ?_ ?_
                        · rw [u1_12, u1_16]; exact hrs.symm
                        · exact ⟨by omega, fun _ _ => ⟨u1_17, by rw [u1_19]; exact hwl.symm, by omega, by rw [u1_12, u1_18, u1_19, hw, hce]⟩⟩
                        · rw [u1_20]; exact hq
                      · skip
                        have hj370 : (rs ≠ [] ∨ fo = 1) → zm_wp (d + 2) 90 370 [.ref 194, v1, v2, .int (nI fo), .int (nI lk), .int (nI l1), .int (nI kk)] [] (zmh h0 (zup (zup (zup (zup (zup (zup t 0 18 (t 0 16)) 0 16 c) 0 19 len) 0 21 b1) 0 17 (t 0 20)) 0 20 (t 9 kk))) Q := by
                          intro hfl
                          refine wx_iload kc90_370 rfl rfl ?_
                          refine wx_bipush (nI 40) kc90_372 (by decide) ?_
                          refine wn_icmp_ne kc90_374 (by omega) (by decide) (fun hq374 => ?_) (fun hq374 => ?_)
                          · skip
                            refine wn_iinc (lk + 1) (ls' := [.ref 194, v1, v2, .int (nI fo), .int (nI (lk + 1)), .int (nI l1), .int (nI kk)]) kc90_380 rfl rfl rfl rfl rfl ?_
                            refine wx_aload_n kc90_383 rfl rfl ?_
                            refine wx_aload_n kc90_384 rfl rfl ?_
                            refine wm_getf (.int (nI (t 9 kk))) hS kc90_385 rfl ?_
                            have hb388_11 := hB 9 kk
                            have h6f : (zup (zup (zup (zup (zup (zup t 0 18 (t 0 16)) 0 16 c) 0 19 len) 0 21 b1) 0 17 (t 0 20)) 0 20 (t 9 kk)) 6 (t 9 kk) = s 6 (t 9 kk) := hF 6 _ (by decide) (by omega)
                            have h6b : s 6 (t 9 kk) ≤ 1000 := hI0 6 _
                            have hlk2 : lk < 40 := by omega
                            have hFc2 : zZF s (zup (zup (zup (zup (zup (zup t 0 18 (t 0 16)) 0 16 c) 0 19 len) 0 21 b1) 0 17 (t 0 20)) 0 20 (t 9 kk)) := (zZF_up (zZF_up (zZF_up (zZF_up (zZF_up (zZF_up hF (by decide)) (by decide)) (by decide)) (by decide)) (by decide)) (by decide))
                            refine wx_virtual kc90_388 rfl (zmh_is hS 194 8 (by decide) (by decide) rfl) rfl ?_
                            refine cM_splice hS (zMI_up (zMI_up (zMI_up (zMI_up (zMI_up (zMI_up hI (show (t 0 16) ≤ 42000 by omega)) (show c ≤ 42000 by omega)) (show len ≤ 42000 by omega)) (show b1 ≤ 1 by omega)) (show t 0 20 ≤ 40 by omega)) (show (t 9 kk) ≤ 40 by omega)) (by omega) (by rw [h6f]; show s 6 (t 9 kk) + 1 ≤ c; omega) ?_
                            rintro t2 ⟨z1, z2, z3, z4, z5, z6⟩
                            show zm_wp _ 90 391 [.ref 194, v1, v2, .int (nI fo), .int (nI (lk + 1)), .int (nI l1), .int (nI kk)] [] (zmh h0 t2) _
                            refine wx_goto kc90_391 ?_
                            have z3 : t2 0 16 = c - 1 - s 6 (t 9 kk) := by rw [z3, h6f]; rfl
                            have ztt : ztg (zup (zup (zup (zup (zup (zup t 0 18 (t 0 16)) 0 16 c) 0 19 len) 0 21 b1) 0 17 (t 0 20)) 0 20 (t 9 kk)) (t 9 kk) = ztg s (t 9 kk) := by
                              unfold ztg
                              rw [h6f]
                              exact zls_congr (fun i _ _ => hF 7 i (by decide) (by omega))
                            rw [ztt] at z4 z5
                            have z4 : zls (t2 12) (t2 0 16) 42000 = ztg s (t 9 kk) ++ 47 :: zls (t 12) c 42000 := z4
                            have e9 : zwm s (fo == 1) (n + 1) (t 0 20) lk (w :: rs) af ap au = zwm s (fo == 1) n (if (ztg s (t 9 kk)).head? = some 47 then 1 else t 0 20) (lk + 1) (zpt (ztg s (t 9 kk)) ++ rs) (t 0 20) w 1 := zwk_link (by omega) hk2 hup (by show Option.map (s 9) (zlkn s (t 0 20) w (s 0 10)) = some (t 9 kk); rw [hlk1, h9]; rfl) ⟨by rw [← hk3]; exact hq358, (hfl.imp id (fun z => by rw [z]; rfl))⟩ (by omega)
                            rw [e9] at hq
                            have h61 : 1 ≤ s 6 (t 9 kk) := hlinks _ (by omega) (by rw [← hk3]; exact hq358)
                            have z5 : t2 0 20 = (if (ztg s (t 9 kk)).head? = some 47 then 1 else t 0 20) := by
                              rw [z5]
                              by_cases hh : (ztg s (t 9 kk)).head? = some 47
                              · rw [if_pos (Or.inl hh), if_pos hh]
                              · rw [if_neg (fun z => z.elim hh (fun z => by rw [h6f] at z; omega)), if_neg hh]
                                rfl
                            have hzl3 := zpt_le (ztg s (t 9 kk))
                            have hzl4 : (ztg s (t 9 kk)).length = s 6 (t 9 kk) := by unfold ztg; rw [zls_len]; omega
                            refine ih t2 n (lk + 1) (zpt (ztg s (t 9 kk)) ++ rs) (t 0 20) w 1 _ _ _ _ (fun a j h1 h2 => (z1 a j h1 h2).trans (hFc2 a j h1 h2)) z2 ?_ (by omega) (by omega) (by omega) ?_ ?_ ?_
                            · rw [z4, zpt_app, ← hrs]
                            · rw [List.length_append]; omega
                            · exact ⟨z6, fun _ z => absurd z (by decide)⟩
                            · rw [z5]; exact hq
                          · skip
                            refine wx_bipush (-8) kc90_377 (by decide) ?_
                            refine wx_ireturn kc90_379 rfl rfl ?_
                            have e9 : zwm s (fo == 1) (n + 1) (t 0 20) lk (w :: rs) af ap au = _ := zwk_loop (by omega) hk2 hup (by show Option.map (s 9) (zlkn s (t 0 20) w (s 0 10)) = some (t 9 kk); rw [hlk1, h9]; rfl) ⟨by rw [← hk3]; exact hq358, (hfl.imp id (fun z => by rw [z]; rfl))⟩ (by omega)
                            rw [e9] at hq
                            refine hq _ ⟨(zZF_up (zZF_up (zZF_up (zZF_up (zZF_up (zZF_up hF (by decide)) (by decide)) (by decide)) (by decide)) (by decide)) (by decide)), (zMI_up (zMI_up (zMI_up (zMI_up (zMI_up (zMI_up hI (show (t 0 16) ≤ 42000 by omega)) (show c ≤ 42000 by omega)) (show len ≤ 42000 by omega)) (show b1 ≤ 1 by omega)) (show t 0 20 ≤ 40 by omega)) (show (t 9 kk) ≤ 40 by omega)), fun z => absurd z (show ¬ ((-8 : Int32) = 0) by decide)⟩
                        have hj391 : ¬ (s 3 (t 9 kk) = 3 ∧ (rs ≠ [] ∨ fo = 1)) → zm_wp (d + 2) 90 391 [.ref 194, v1, v2, .int (nI fo), .int (nI lk), .int (nI l1), .int (nI kk)] [] (zmh h0 (zup (zup (zup (zup (zup (zup t 0 18 (t 0 16)) 0 16 c) 0 19 len) 0 21 b1) 0 17 (t 0 20)) 0 20 (t 9 kk))) Q := by
                          intro hfl
                          refine wx_goto kc90_391 ?_
                          obtain ⟨u2, huu2⟩ : ∃ z, z = (zup (zup (zup (zup (zup (zup t 0 18 (t 0 16)) 0 16 c) 0 19 len) 0 21 b1) 0 17 (t 0 20)) 0 20 (t 9 kk)) := ⟨_, rfl⟩
                          show zm_wp _ 90 57 [.ref 194, v1, v2, .int (nI fo), .int (nI lk), .int (nI l1), .int (nI kk)] [] (zmh h0 (zup (zup (zup (zup (zup (zup t 0 18 (t 0 16)) 0 16 c) 0 19 len) 0 21 b1) 0 17 (t 0 20)) 0 20 (t 9 kk))) _
                          rw [← huu2]
                          have u2_16 : u2 0 16 = c := by rw [huu2]; rfl
                          have u2_17 : u2 0 17 = t 0 20 := by rw [huu2]; rfl
                          have u2_18 : u2 0 18 = (t 0 16) := by rw [huu2]; rfl
                          have u2_19 : u2 0 19 = len := by rw [huu2]; rfl
                          have u2_20 : u2 0 20 = (t 9 kk) := by rw [huu2]; rfl
                          have u2_21 : u2 0 21 = b1 := by rw [huu2]; rfl
                          have u2_12 : u2 12 = t 12 := by rw [huu2]; rfl
                          have u2_F : zZF s u2 := by rw [huu2]; exact (zZF_up (zZF_up (zZF_up (zZF_up (zZF_up (zZF_up hF (by decide)) (by decide)) (by decide)) (by decide)) (by decide)) (by decide))
                          have u2_I : zMI u2 := by rw [huu2]; exact (zMI_up (zMI_up (zMI_up (zMI_up (zMI_up (zMI_up hI (show (t 0 16) ≤ 42000 by omega)) (show c ≤ 42000 by omega)) (show len ≤ 42000 by omega)) (show b1 ≤ 1 by omega)) (show t 0 20 ≤ 40 by omega)) (show (t 9 kk) ≤ 40 by omega))
                          have e9 : zwm s (fo == 1) (n + 1) (t 0 20) lk (w :: rs) af ap au = zwm s (fo == 1) n (t 9 kk) lk rs (t 0 20) w 0 := zwk_go (by omega) hk2 hup (by show Option.map (s 9) (zlkn s (t 0 20) w (s 0 10)) = some (t 9 kk); rw [hlk1, h9]; rfl) (fun z => hfl ⟨z.1, z.2.imp id (fun z3 => by simpa using z3)⟩)
                          rw [e9] at hq
                          refine ih u2 n lk rs (t 0 20) w 0 _ _ _ _ u2_F u2_I ?_ hlk (by omega) (by omega) hnl ?_ ?_
                          · rw [u2_12, u2_16]; exact hrs.symm
                          · exact ⟨by omega, fun _ _ => ⟨u2_17, by rw [u2_19]; exact hwl.symm, by omega, by rw [u2_12, u2_18, u2_19, hw, hce]⟩⟩
                          · rw [u2_20]; exact hq
                        refine wx_iload kc90_361 rfl rfl ?_
                        refine wn_if_eq kc90_363 (by omega) (fun hq363 => ?_) (fun hq363 => ?_)
                        · skip
                          exact hj370 (by first | exact Or.inl (fun z => by have := hl2.mpr z; omega) | exact Or.inr (by omega))
                        · skip
                          refine wx_iload_n kc90_366 rfl rfl ?_
                          refine wn_if_eq kc90_367 (by omega) (fun hq367 => ?_) (fun hq367 => ?_)
                          · skip
                            exact hj391 (fun z => z.2.elim (fun z => z (hl2.mp (by omega))) (fun z => by omega))
                          · skip
                            exact hj370 (by first | exact Or.inl (fun z => by have := hl2.mpr z; omega) | exact Or.inr (by omega))
                  · skip
                    refine wx_aload_n kc90_270 rfl rfl ?_
                    refine wx_aload_n kc90_271 rfl rfl ?_
                    refine wx_aload_n kc90_272 rfl rfl ?_
                    refine wm_getf (.int (nI (t 0 20))) hS kc90_273 rfl ?_
                    have hb276_7 := hB 0 20
                    have hup : w = [46, 46] := by
                      exact hb2.mp (by omega)
                    have hpe : zmpa (zup (zup (zup (zup t 0 18 (t 0 16)) 0 16 c) 0 19 len) 0 21 b1) (t 0 20) ((zup (zup (zup (zup t 0 18 (t 0 16)) 0 16 c) 0 19 len) 0 21 b1) 0 10) = zmpa s (t 0 20) (s 0 10) := by
                      have hFc : zZF s (zup (zup (zup (zup t 0 18 (t 0 16)) 0 16 c) 0 19 len) 0 21 b1) := (zZF_up (zZF_up (zZF_up (zZF_up hF (by decide)) (by decide)) (by decide)) (by decide))
                      rw [hFc 0 10 (by decide) (by omega)]
                      exact zmpa_F hFc _ _
                    refine wx_virtual kc90_276 rfl (zmh_is hS 194 8 (by decide) (by decide) rfl) rfl ?_
                    refine cM_parent hS (zMI_up (zMI_up (zMI_up (zMI_up hI (show (t 0 16) ≤ 42000 by omega)) (show c ≤ 42000 by omega)) (show len ≤ 42000 by omega)) (show b1 ≤ 1 by omega)) (by omega) ?_
                    rw [hpe]
                    have hpl := zmpa_le hI0 (t 0 20) (s 0 10)
                    show zm_wp _ 90 279 [.ref 194, v1, v2, .int (nI fo), .int (nI lk), .int (nI l1), v6] [.int (nI (zmpa s (t 0 20) (s 0 10))), .ref 194] (zmh h0 (zup (zup (zup (zup t 0 18 (t 0 16)) 0 16 c) 0 19 len) 0 21 b1)) _
                    refine wm_putf (v := (zmpa s (t 0 20) (s 0 10))) hS kc90_279 rfl rfl ?_
                    refine wx_goto kc90_282 ?_
                    obtain ⟨u3, huu3⟩ : ∃ z, z = (zup (zup (zup (zup (zup t 0 18 (t 0 16)) 0 16 c) 0 19 len) 0 21 b1) 0 20 (zmpa s (t 0 20) (s 0 10))) := ⟨_, rfl⟩
                    show zm_wp _ 90 57 [.ref 194, v1, v2, .int (nI fo), .int (nI lk), .int (nI l1), v6] [] (zmh h0 (zup (zup (zup (zup (zup t 0 18 (t 0 16)) 0 16 c) 0 19 len) 0 21 b1) 0 20 (zmpa s (t 0 20) (s 0 10)))) _
                    rw [← huu3]
                    have u3_16 : u3 0 16 = c := by rw [huu3]; rfl
                    have u3_17 : u3 0 17 = t 0 17 := by rw [huu3]; rfl
                    have u3_18 : u3 0 18 = (t 0 16) := by rw [huu3]; rfl
                    have u3_19 : u3 0 19 = len := by rw [huu3]; rfl
                    have u3_20 : u3 0 20 = (zmpa s (t 0 20) (s 0 10)) := by rw [huu3]; rfl
                    have u3_21 : u3 0 21 = b1 := by rw [huu3]; rfl
                    have u3_12 : u3 12 = t 12 := by rw [huu3]; rfl
                    have u3_F : zZF s u3 := by rw [huu3]; exact (zZF_up (zZF_up (zZF_up (zZF_up (zZF_up hF (by decide)) (by decide)) (by decide)) (by decide)) (by decide))
                    have u3_I : zMI u3 := by rw [huu3]; exact (zMI_up (zMI_up (zMI_up (zMI_up (zMI_up hI (show (t 0 16) ≤ 42000 by omega)) (show c ≤ 42000 by omega)) (show len ≤ 42000 by omega)) (show b1 ≤ 1 by omega)) (show (zmpa s (t 0 20) (s 0 10)) ≤ 40 by omega))
                    have e9 : zwm s (fo == 1) (n + 1) (t 0 20) lk (w :: rs) af ap au = zwm s (fo == 1) n (zmpa s (t 0 20) (s 0 10)) lk rs af w 1 := zwk_up (by omega) hk2 hup
                    rw [e9] at hq
                    refine ih u3 n lk rs af w 1 _ _ _ _ u3_F u3_I ?_ hlk (by omega) (by omega) hnl ?_ ?_
                    · rw [u3_12, u3_16]; exact hrs.symm
                    · exact ⟨by omega, fun _ z => absurd z (by decide)⟩
                    · rw [u3_20]; exact hq
                have hdd : w = [46, 46] ↔ len = 2 ∧ t 12 (t 0 16) = 46 ∧ t 12 (t 0 16 + 1) = 46 := by rw [hw, hce]; exact zls_dd
                refine wx_aload_n kc90_217 rfl rfl ?_
                refine wm_getf (.int (nI len)) hS kc90_218 rfl ?_
                refine wx_iconst (nI 2) kc90_221 (by decide) ?_
                refine wn_icmp_ne kc90_222 (by omega) (by decide) (fun hq222 => ?_) (fun hq222 => ?_)
                · skip
                  refine wx_iconst (nI 0) kc90_259 (by decide) ?_
                  exact hj260 0 (by decide) (by rw [hdd]; omega)
                · skip
                  refine wx_aload_n kc90_225 rfl rfl ?_
                  refine wm_getf (.ref 206) hS kc90_226 rfl ?_
                  refine wx_aload_n kc90_229 rfl rfl ?_
                  refine wm_getf (.int (nI (t 0 16))) hS kc90_230 rfl ?_
                  have hb233_7 := hB 0 16
                  refine wm_iald 206 42000 (t 12 (t 0 16)) hS kc90_233 rfl rfl rfl rfl (by omega) (fun _ => rfl) rfl ?_
                  have hb234_8 := hB 12 (t 0 16)
                  refine wx_bipush (nI 46) kc90_234 (by decide) ?_
                  refine wn_icmp_ne kc90_236 (hB _ _) (by decide) (fun hq236 => ?_) (fun hq236 => ?_)
                  · skip
                    refine wx_iconst (nI 0) kc90_259 (by decide) ?_
                    exact hj260 0 (by decide) (by rw [hdd]; omega)
                  · skip
                    refine wx_aload_n kc90_239 rfl rfl ?_
                    refine wm_getf (.ref 206) hS kc90_240 rfl ?_
                    refine wx_aload_n kc90_243 rfl rfl ?_
                    refine wm_getf (.int (nI (t 0 16))) hS kc90_244 rfl ?_
                    have hb247_9 := hB 0 16
                    refine wx_iconst (nI 1) kc90_247 (by decide) ?_
                    refine wn_iadd ((t 0 16) + 1) kc90_248 rfl ?_
                    refine wm_iald 206 42000 (t 12 ((t 0 16) + 1)) hS kc90_249 rfl rfl rfl rfl (by omega) (fun _ => rfl) rfl ?_
                    have hb250_10 := hB 12 ((t 0 16) + 1)
                    refine wx_bipush (nI 46) kc90_250 (by decide) ?_
                    refine wn_icmp_ne kc90_252 (hB _ _) (by decide) (fun hq252 => ?_) (fun hq252 => ?_)
                    · skip
                      refine wx_iconst (nI 0) kc90_259 (by decide) ?_
                      exact hj260 0 (by decide) (by rw [hdd]; omega)
                    · skip
                      refine wx_iconst (nI 1) kc90_255 (by decide) ?_
                      refine wx_goto kc90_256 ?_
                      exact hj260 1 (by decide) (by rw [hdd]; omega)
              refine wn_if_ne kc90_206 (by omega) (fun hq206 => ?_) (fun hq206 => ?_)
              · skip
                refine wx_iconst (nI 0) kc90_213 (by decide) ?_
                exact hj214 0 (by decide) (by constructor <;> intro z <;> first | rfl | exact hrn.mp (by omega) | (have := hrn.mpr z; omega) | omega)
              · skip
                refine wx_iconst (nI 1) kc90_209 (by decide) ?_
                refine wx_goto kc90_210 ?_
                exact hj214 1 (by decide) (by constructor <;> intro z <;> first | rfl | exact hrn.mp (by omega) | (have := hrn.mpr z; omega) | omega)
            · skip
              refine wx_bipush (-4) kc90_199 (by decide) ?_
              refine wx_ireturn kc90_201 rfl rfl ?_
              have e9 : zwm s (fo == 1) (n + 1) (t 0 20) lk (w :: rs) af ap au = _ := zwk_nf (by omega) (by rw [← hk3]; exact hq196)
              rw [e9] at hq
              refine hq _ ⟨(zZF_up (zZF_up (zZF_up hF (by decide)) (by decide)) (by decide)), (zMI_up (zMI_up (zMI_up hI (show (t 0 16) ≤ 42000 by omega)) (show c ≤ 42000 by omega)) (show len ≤ 42000 by omega)), fun z => absurd z (show ¬ ((-4 : Int32) = 0) by decide)⟩
          · skip
            refine wx_bipush (-9) kc90_183 (by decide) ?_
            refine wx_ireturn kc90_185 rfl rfl ?_
            have e9 : zwm s (fo == 1) (n + 1) (t 0 20) lk (w :: rs) af ap au = _ := zwk_long (by omega)
            rw [e9] at hq
            refine hq _ ⟨(zZF_up (zZF_up (zZF_up hF (by decide)) (by decide)) (by decide)), (zMI_up (zMI_up (zMI_up hI (show (t 0 16) ≤ 42000 by omega)) (show c ≤ 42000 by omega)) (show len ≤ 42000 by omega)), fun z => absurd z (show ¬ ((-9 : Int32) = 0) by decide)⟩
        refine wx_aload_n kc90_148 rfl rfl ?_
        refine wm_getf (.int (nI len)) hS kc90_149 rfl ?_
        refine wx_iconst (nI 1) kc90_152 (by decide) ?_
        refine wn_icmp_ne kc90_153 (by omega) (by decide) (fun hq153 => ?_) (fun hq153 => ?_)
        · skip
          exact hj173 (by omega)
        · skip
          refine wx_aload_n kc90_156 rfl rfl ?_
          refine wm_getf (.ref 206) hS kc90_157 rfl ?_
          refine wx_aload_n kc90_160 rfl rfl ?_
          refine wm_getf (.int (nI (t 0 16))) hS kc90_161 rfl ?_
          have hb164_5 := hB 0 16
          refine wm_iald 206 42000 (t 12 (t 0 16)) hS kc90_164 rfl rfl rfl rfl (by omega) (fun _ => rfl) rfl ?_
          have hb165_6 := hB 12 (t 0 16)
          refine wx_bipush (nI 46) kc90_165 (by decide) ?_
          refine wn_icmp_ne kc90_167 (hB _ _) (by decide) (fun hq167 => ?_) (fun hq167 => ?_)
          · skip
            exact hj173 (by omega)
          · skip
            refine wx_goto kc90_170 ?_
            obtain ⟨u4, huu4⟩ : ∃ z, z = (zup (zup (zup t 0 18 (t 0 16)) 0 16 c) 0 19 len) := ⟨_, rfl⟩
            show zm_wp _ 90 57 [.ref 194, v1, v2, .int (nI fo), .int (nI lk), v5, v6] [] (zmh h0 (zup (zup (zup t 0 18 (t 0 16)) 0 16 c) 0 19 len)) _
            rw [← huu4]
            have u4_16 : u4 0 16 = c := by rw [huu4]; rfl
            have u4_17 : u4 0 17 = t 0 17 := by rw [huu4]; rfl
            have u4_18 : u4 0 18 = (t 0 16) := by rw [huu4]; rfl
            have u4_19 : u4 0 19 = len := by rw [huu4]; rfl
            have u4_20 : u4 0 20 = t 0 20 := by rw [huu4]; rfl
            have u4_21 : u4 0 21 = t 0 21 := by rw [huu4]; rfl
            have u4_12 : u4 12 = t 12 := by rw [huu4]; rfl
            have u4_F : zZF s u4 := by rw [huu4]; exact (zZF_up (zZF_up (zZF_up hF (by decide)) (by decide)) (by decide))
            have u4_I : zMI u4 := by rw [huu4]; exact (zMI_up (zMI_up (zMI_up hI (show (t 0 16) ≤ 42000 by omega)) (show c ≤ 42000 by omega)) (show len ≤ 42000 by omega))
            have hdot : ps = zpt (zls (t 12) c 42000) := by
              rw [htk, hce, show len = 1 by omega, zpk_1, hq167]
              rfl
            refine ih u4 (n + 1) lk ps af ap au _ _ _ _ u4_F u4_I ?_ hlk (by omega) (by omega) hn ?_ ?_
            · rw [u4_12, u4_16]; exact hdot.symm
            · exact ⟨u4_21.trans hac.1, fun z => absurd z hne⟩
            · rw [u4_20]; exact hq
      · skip
        refine wx_aload_n kc90_78 rfl rfl ?_
        refine wx_dup kc90_79 rfl ?_
        refine wm_getf (.int (nI (t 0 16))) hS kc90_80 rfl ?_
        have hb83_3 := hB 0 16
        refine wx_iconst (nI 1) kc90_83 (by decide) ?_
        refine wn_iadd ((t 0 16) + 1) kc90_84 rfl ?_
        refine wm_putf (v := ((t 0 16) + 1)) hS kc90_85 rfl rfl ?_
        refine wx_goto kc90_88 ?_
        obtain ⟨u5, huu5⟩ : ∃ z, z = (zup t 0 16 ((t 0 16) + 1)) := ⟨_, rfl⟩
        show zm_wp _ 90 57 [.ref 194, v1, v2, .int (nI fo), .int (nI lk), v5, v6] [] (zmh h0 (zup t 0 16 ((t 0 16) + 1))) _
        rw [← huu5]
        have u5_16 : u5 0 16 = ((t 0 16) + 1) := by rw [huu5]; rfl
        have u5_17 : u5 0 17 = t 0 17 := by rw [huu5]; rfl
        have u5_18 : u5 0 18 = t 0 18 := by rw [huu5]; rfl
        have u5_19 : u5 0 19 = t 0 19 := by rw [huu5]; rfl
        have u5_20 : u5 0 20 = t 0 20 := by rw [huu5]; rfl
        have u5_21 : u5 0 21 = t 0 21 := by rw [huu5]; rfl
        have u5_12 : u5 12 = t 12 := by rw [huu5]; rfl
        have u5_F : zZF s u5 := by rw [huu5]; exact (zZF_up hF (by decide))
        have u5_I : zMI u5 := by rw [huu5]; exact (zMI_up hI (show ((t 0 16) + 1) ≤ 42000 by omega))
        refine ih u5 (n + 1) lk ps af ap au _ _ _ _ u5_F u5_I ?_ hlk (by omega) (by omega) hn ?_ ?_
        · rw [u5_12, u5_16, ← zpt_skip (t 12) hlt hq75]; exact hps
        · exact ⟨u5_21.trans hac.1, fun z => absurd z hne⟩
        · rw [u5_20]; exact hq
