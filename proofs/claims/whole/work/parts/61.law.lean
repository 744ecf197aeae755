/-! the law, case by case -/
theorem lL_make {d : Nat} {L : Nat} {xs : Nat → Int32} {n i : Nat} {h0 : zm_H} {c s : Nat → Nat → Nat} {Q : Option Value → zm_H → Prop} (hn : n ≤ 600) (hL : L ≤ 2048) (hi : i + 4 ≤ L) (h : zLI L xs n h0 c s) (hnext : ∀ h1 c2 t, zLI L xs (n + 1) h1 c2 t → zm_wp (d + 8) 0 479 [.ref 0, .ref 1, .ref 194, .int (nI i)] [] (zmh (zch h1 c2) t) Q) : zm_wp (d + 8) 0 227 [.ref 0, .ref 1, .ref 194, .int (nI i)] [] (zmh (zch h0 c) s) Q := by
  obtain ⟨hV, hMS, h0t, h0v, hnx, hsl⟩ := id h
  have hx7 : 207 ≤ h0.1 := hMS.1
  have hCS := hV.1
  have hMI := hV.2.2.1
  have hlk : ∀ g, g ≤ 40 → s 3 g = 3 → 1 ≤ s 6 g := hV.2.2.2.2.1.2.2.2.2.2.2.2.1
  have h100 := hV.2.2.2.2.1.2.2.2.2.2.1
  have h00h0 : 0 < h0.1 := by omega
  have h0th0 := h0t
  have h0vh0 := h0v
  have hVs : zIV (zmh h0 s) c s := zIV_in hV
  refine wx_aload_n kc0_227 rfl rfl ?_
  refine wx_aload_n kc0_228 rfl rfl ?_
  refine wx_iload_n kc0_229 rfl rfl ?_
  refine wx_iconst (nI 1) kc0_230 (by decide) ?_
  refine wn_iadd (i + 1) kc0_231 rfl ?_
  refine wl_read kc0_232 h0th0 h0vh0 h00h0 hL (by omega) ?_
  rw [← zch_mh]
  refine wc_call (zCS_m s hCS) kc0_233 rfl rfl rfl rfl rfl ?_
  refine fN_make hVs (show h0.1 ≤ 2147483646 by omega) (fun h1 c2 hg hv => ?_)
  obtain ⟨h2, g2, rfl⟩ := zGR_mh hx7 hg
  have hli := zLI_gr h g2 (zIV_out hv)
  obtain ⟨hV2, hMS2, h0th2, h0vh2, _, _⟩ := id hli
  have h00h2 : 0 < h2.1 := by have := hMS2.1; omega
  rw [zch_mh]
  show zm_wp _ 0 236 [.ref 0, .ref 1, .ref 194, .int (nI i)] [.int (zsMake s (xs (i + 1))).1] (zmh (zch h2 c2) s) _
  refine wx_aload_n kc0_236 rfl rfl ?_
  refine wx_aload_n kc0_237 rfl rfl ?_
  refine wx_iload_n kc0_238 rfl rfl ?_
  refine wx_iconst (nI 1) kc0_239 (by decide) ?_
  refine wn_iadd (i + 1) kc0_240 rfl ?_
  refine wl_read kc0_241 h0th2 h0vh2 h00h2 hL (by omega) ?_
  refine wx_virtual kc0_242 rfl (zmh_is (zMS_c _ hMS2) 194 8 (by decide) (by decide) rfl) rfl ?_
  refine eM_make (zMS_c c2 hMS2) hMI hlk (fun t hp ht => ?_)
  show zm_wp _ 0 245 [.ref 0, .ref 1, .ref 194, .int (nI i)] [.int (zsMake s (xs (i + 1))).1, .int (zsMake s (xs (i + 1))).1] (zmh (zch h2 c2) t) _
  refine wx_icmp_eq kc0_245 (fun _ => ?_) (fun z => absurd rfl z)
  exact hnext h2 c2 t (zLI_gr h g2 (zIV_PE (zIV_out hv) hp ht))
theorem lL_link {d : Nat} {L : Nat} {xs : Nat → Int32} {n i : Nat} {h0 : zm_H} {c s : Nat → Nat → Nat} {Q : Option Value → zm_H → Prop} (hn : n ≤ 600) (hL : L ≤ 2048) (hi : i + 4 ≤ L) (h : zLI L xs n h0 c s) (hnext : ∀ h1 c2 t, zLI L xs (n + 1) h1 c2 t → zm_wp (d + 8) 0 479 [.ref 0, .ref 1, .ref 194, .int (nI i)] [] (zmh (zch h1 c2) t) Q) : zm_wp (d + 8) 0 250 [.ref 0, .ref 1, .ref 194, .int (nI i)] [] (zmh (zch h0 c) s) Q := by
  obtain ⟨hV, hMS, h0t, h0v, hnx, hsl⟩ := id h
  have hx7 : 207 ≤ h0.1 := hMS.1
  have hCS := hV.1
  have hMI := hV.2.2.1
  have hlk : ∀ g, g ≤ 40 → s 3 g = 3 → 1 ≤ s 6 g := hV.2.2.2.2.1.2.2.2.2.2.2.2.1
  have h100 := hV.2.2.2.2.1.2.2.2.2.2.1
  have h00h0 : 0 < h0.1 := by omega
  have h0th0 := h0t
  have h0vh0 := h0v
  have hVs : zIV (zmh h0 s) c s := zIV_in hV
  refine wx_aload_n kc0_250 rfl rfl ?_
  rw [← zch_mh]
  refine wc_call (zCS_m s hCS) kc0_251 rfl rfl rfl rfl rfl ?_
  refine fN_link hVs (show h0.1 ≤ 2147483646 by omega) (fun h1 c2 hg hv => ?_)
  obtain ⟨h2, g2, rfl⟩ := zGR_mh hx7 hg
  have hli := zLI_gr h g2 (zIV_out hv)
  obtain ⟨hV2, hMS2, h0th2, h0vh2, _, _⟩ := id hli
  have h00h2 : 0 < h2.1 := by have := hMS2.1; omega
  rw [zch_mh]
  show zm_wp _ 0 254 [.ref 0, .ref 1, .ref 194, .int (nI i)] [.int (zsLink s).1] (zmh (zch h2 c2) s) _
  refine wx_aload_n kc0_254 rfl rfl ?_
  refine wx_virtual kc0_255 rfl (zmh_is (zMS_c _ hMS2) 194 8 (by decide) (by decide) rfl) rfl ?_
  refine eM_link (zMS_c c2 hMS2) hMI hlk (fun t hp ht => ?_)
  show zm_wp _ 0 258 [.ref 0, .ref 1, .ref 194, .int (nI i)] [.int (zsLink s).1, .int (zsLink s).1] (zmh (zch h2 c2) t) _
  refine wx_icmp_eq kc0_258 (fun _ => ?_) (fun z => absurd rfl z)
  exact hnext h2 c2 t (zLI_gr h g2 (zIV_PE (zIV_out hv) hp ht))
theorem lL_symlink {d : Nat} {L : Nat} {xs : Nat → Int32} {n i : Nat} {h0 : zm_H} {c s : Nat → Nat → Nat} {Q : Option Value → zm_H → Prop} (hn : n ≤ 600) (hL : L ≤ 2048) (hi : i + 4 ≤ L) (h : zLI L xs n h0 c s) (hnext : ∀ h1 c2 t, zLI L xs (n + 1) h1 c2 t → zm_wp (d + 8) 0 479 [.ref 0, .ref 1, .ref 194, .int (nI i)] [] (zmh (zch h1 c2) t) Q) : zm_wp (d + 8) 0 263 [.ref 0, .ref 1, .ref 194, .int (nI i)] [] (zmh (zch h0 c) s) Q := by
  obtain ⟨hV, hMS, h0t, h0v, hnx, hsl⟩ := id h
  have hx7 : 207 ≤ h0.1 := hMS.1
  have hCS := hV.1
  have hMI := hV.2.2.1
  have hlk : ∀ g, g ≤ 40 → s 3 g = 3 → 1 ≤ s 6 g := hV.2.2.2.2.1.2.2.2.2.2.2.2.1
  have h100 := hV.2.2.2.2.1.2.2.2.2.2.1
  have h00h0 : 0 < h0.1 := by omega
  have h0th0 := h0t
  have h0vh0 := h0v
  have hVs : zIV (zmh h0 s) c s := zIV_in hV
  refine wx_aload_n kc0_263 rfl rfl ?_
  rw [← zch_mh]
  refine wc_call (zCS_m s hCS) kc0_264 rfl rfl rfl rfl rfl ?_
  refine fN_symlink hVs (show h0.1 ≤ 2147483646 by omega) (fun h1 c2 hg hv => ?_)
  obtain ⟨h2, g2, rfl⟩ := zGR_mh hx7 hg
  have hli := zLI_gr h g2 (zIV_out hv)
  obtain ⟨hV2, hMS2, h0th2, h0vh2, _, _⟩ := id hli
  have h00h2 : 0 < h2.1 := by have := hMS2.1; omega
  rw [zch_mh]
  show zm_wp _ 0 267 [.ref 0, .ref 1, .ref 194, .int (nI i)] [.int (zsSym s).1] (zmh (zch h2 c2) s) _
  refine wx_aload_n kc0_267 rfl rfl ?_
  refine wx_virtual kc0_268 rfl (zmh_is (zMS_c _ hMS2) 194 8 (by decide) (by decide) rfl) rfl ?_
  refine eM_symlink (zMS_c c2 hMS2) hMI hlk (fun t hp ht => ?_)
  show zm_wp _ 0 271 [.ref 0, .ref 1, .ref 194, .int (nI i)] [.int (zsSym s).1, .int (zsSym s).1] (zmh (zch h2 c2) t) _
  refine wx_icmp_eq kc0_271 (fun _ => ?_) (fun z => absurd rfl z)
  exact hnext h2 c2 t (zLI_gr h g2 (zIV_PE (zIV_out hv) hp ht))
theorem lL_remove {d : Nat} {L : Nat} {xs : Nat → Int32} {n i : Nat} {h0 : zm_H} {c s : Nat → Nat → Nat} {Q : Option Value → zm_H → Prop} (hn : n ≤ 600) (hL : L ≤ 2048) (hi : i + 4 ≤ L) (h : zLI L xs n h0 c s) (hnext : ∀ h1 c2 t, zLI L xs (n + 1) h1 c2 t → zm_wp (d + 8) 0 479 [.ref 0, .ref 1, .ref 194, .int (nI i)] [] (zmh (zch h1 c2) t) Q) : zm_wp (d + 8) 0 276 [.ref 0, .ref 1, .ref 194, .int (nI i)] [] (zmh (zch h0 c) s) Q := by
  obtain ⟨hV, hMS, h0t, h0v, hnx, hsl⟩ := id h
  have hx7 : 207 ≤ h0.1 := hMS.1
  have hCS := hV.1
  have hMI := hV.2.2.1
  have hlk : ∀ g, g ≤ 40 → s 3 g = 3 → 1 ≤ s 6 g := hV.2.2.2.2.1.2.2.2.2.2.2.2.1
  have h100 := hV.2.2.2.2.1.2.2.2.2.2.1
  have h00h0 : 0 < h0.1 := by omega
  have h0th0 := h0t
  have h0vh0 := h0v
  have hVs : zIV (zmh h0 s) c s := zIV_in hV
  refine wx_aload_n kc0_276 rfl rfl ?_
  rw [← zch_mh]
  refine wc_call (zCS_m s hCS) kc0_277 rfl rfl rfl rfl rfl ?_
  refine fN_remove hVs (show h0.1 ≤ 2147483646 by omega) (fun h1 c2 hg hv => ?_)
  obtain ⟨h2, g2, rfl⟩ := zGR_mh hx7 hg
  have hli := zLI_gr h g2 (zIV_out hv)
  obtain ⟨hV2, hMS2, h0th2, h0vh2, _, _⟩ := id hli
  have h00h2 : 0 < h2.1 := by have := hMS2.1; omega
  rw [zch_mh]
  show zm_wp _ 0 280 [.ref 0, .ref 1, .ref 194, .int (nI i)] [.int (zsRm s false).1] (zmh (zch h2 c2) s) _
  refine wx_aload_n kc0_280 rfl rfl ?_
  refine wx_virtual kc0_281 rfl (zmh_is (zMS_c _ hMS2) 194 8 (by decide) (by decide) rfl) rfl ?_
  refine eM_remove (zMS_c c2 hMS2) hMI hlk (fun t hp ht => ?_)
  show zm_wp _ 0 284 [.ref 0, .ref 1, .ref 194, .int (nI i)] [.int (zsRm s false).1, .int (zsRm s false).1] (zmh (zch h2 c2) t) _
  refine wx_icmp_eq kc0_284 (fun _ => ?_) (fun z => absurd rfl z)
  exact hnext h2 c2 t (zLI_gr h g2 (zIV_PE (zIV_out hv) hp ht))
theorem lL_removeFolder {d : Nat} {L : Nat} {xs : Nat → Int32} {n i : Nat} {h0 : zm_H} {c s : Nat → Nat → Nat} {Q : Option Value → zm_H → Prop} (hn : n ≤ 600) (hL : L ≤ 2048) (hi : i + 4 ≤ L) (h : zLI L xs n h0 c s) (hnext : ∀ h1 c2 t, zLI L xs (n + 1) h1 c2 t → zm_wp (d + 8) 0 479 [.ref 0, .ref 1, .ref 194, .int (nI i)] [] (zmh (zch h1 c2) t) Q) : zm_wp (d + 8) 0 289 [.ref 0, .ref 1, .ref 194, .int (nI i)] [] (zmh (zch h0 c) s) Q := by
  obtain ⟨hV, hMS, h0t, h0v, hnx, hsl⟩ := id h
  have hx7 : 207 ≤ h0.1 := hMS.1
  have hCS := hV.1
  have hMI := hV.2.2.1
  have hlk : ∀ g, g ≤ 40 → s 3 g = 3 → 1 ≤ s 6 g := hV.2.2.2.2.1.2.2.2.2.2.2.2.1
  have h100 := hV.2.2.2.2.1.2.2.2.2.2.1
  have h00h0 : 0 < h0.1 := by omega
  have h0th0 := h0t
  have h0vh0 := h0v
  have hVs : zIV (zmh h0 s) c s := zIV_in hV
  refine wx_aload_n kc0_289 rfl rfl ?_
  rw [← zch_mh]
  refine wc_call (zCS_m s hCS) kc0_290 rfl rfl rfl rfl rfl ?_
  refine fN_removeFolder hVs (show h0.1 ≤ 2147483646 by omega) (fun h1 c2 hg hv => ?_)
  obtain ⟨h2, g2, rfl⟩ := zGR_mh hx7 hg
  have hli := zLI_gr h g2 (zIV_out hv)
  obtain ⟨hV2, hMS2, h0th2, h0vh2, _, _⟩ := id hli
  have h00h2 : 0 < h2.1 := by have := hMS2.1; omega
  rw [zch_mh]
  show zm_wp _ 0 293 [.ref 0, .ref 1, .ref 194, .int (nI i)] [.int (zsRm s true).1] (zmh (zch h2 c2) s) _
  refine wx_aload_n kc0_293 rfl rfl ?_
  refine wx_virtual kc0_294 rfl (zmh_is (zMS_c _ hMS2) 194 8 (by decide) (by decide) rfl) rfl ?_
  refine eM_removeFolder (zMS_c c2 hMS2) hMI hlk (fun t hp ht => ?_)
  show zm_wp _ 0 297 [.ref 0, .ref 1, .ref 194, .int (nI i)] [.int (zsRm s true).1, .int (zsRm s true).1] (zmh (zch h2 c2) t) _
  refine wx_icmp_eq kc0_297 (fun _ => ?_) (fun z => absurd rfl z)
  exact hnext h2 c2 t (zLI_gr h g2 (zIV_PE (zIV_out hv) hp ht))
theorem lL_rename {d : Nat} {L : Nat} {xs : Nat → Int32} {n i : Nat} {h0 : zm_H} {c s : Nat → Nat → Nat} {Q : Option Value → zm_H → Prop} (hn : n ≤ 600) (hL : L ≤ 2048) (hi : i + 4 ≤ L) (h : zLI L xs n h0 c s) (hnext : ∀ h1 c2 t, zLI L xs (n + 1) h1 c2 t → zm_wp (d + 8) 0 479 [.ref 0, .ref 1, .ref 194, .int (nI i)] [] (zmh (zch h1 c2) t) Q) : zm_wp (d + 8) 0 302 [.ref 0, .ref 1, .ref 194, .int (nI i)] [] (zmh (zch h0 c) s) Q := by
  obtain ⟨hV, hMS, h0t, h0v, hnx, hsl⟩ := id h
  have hx7 : 207 ≤ h0.1 := hMS.1
  have hCS := hV.1
  have hMI := hV.2.2.1
  have hlk : ∀ g, g ≤ 40 → s 3 g = 3 → 1 ≤ s 6 g := hV.2.2.2.2.1.2.2.2.2.2.2.2.1
  have h100 := hV.2.2.2.2.1.2.2.2.2.2.1
  have h00h0 : 0 < h0.1 := by omega
  have h0th0 := h0t
  have h0vh0 := h0v
  have hVs : zIV (zmh h0 s) c s := zIV_in hV
  refine wx_aload_n kc0_302 rfl rfl ?_
  rw [← zch_mh]
  refine wc_call (zCS_m s hCS) kc0_303 rfl rfl rfl rfl rfl ?_
  refine fN_rename hVs (show h0.1 ≤ 2147483646 by omega) (fun h1 c2 hg hv => ?_)
  obtain ⟨h2, g2, rfl⟩ := zGR_mh hx7 hg
  have hli := zLI_gr h g2 (zIV_out hv)
  obtain ⟨hV2, hMS2, h0th2, h0vh2, _, _⟩ := id hli
  have h00h2 : 0 < h2.1 := by have := hMS2.1; omega
  rw [zch_mh]
  show zm_wp _ 0 306 [.ref 0, .ref 1, .ref 194, .int (nI i)] [.int (zsRen s 39).1] (zmh (zch h2 c2) s) _
  refine wx_aload_n kc0_306 rfl rfl ?_
  refine wx_virtual kc0_307 rfl (zmh_is (zMS_c _ hMS2) 194 8 (by decide) (by decide) rfl) rfl ?_
  refine eM_rename (m := 39) (zMS_c c2 hMS2) hMI hlk h100 (fun g g1 g2 => (zit_cg (s := s) (fun x => zmpa_cg (s := s) (t := zt0 s) _ (fun _ _ => rfl) (fun _ _ => rfl)) 39 g).trans (zIV_39 hV (Nat.pos_of_ne_zero (fun z => by rw [z, hV.2.2.2.2.1.2.1] at g2; exact absurd g2 (by decide))) g1 g2)) (fun t hp ht => ?_)
  show zm_wp _ 0 310 [.ref 0, .ref 1, .ref 194, .int (nI i)] [.int (zsRen s 39).1, .int (zsRen s 39).1] (zmh (zch h2 c2) t) _
  refine wx_icmp_eq kc0_310 (fun _ => ?_) (fun z => absurd rfl z)
  exact hnext h2 c2 t (zLI_gr h g2 (zIV_PE (zIV_out hv) hp ht))
theorem lL_hold {d : Nat} {L : Nat} {xs : Nat → Int32} {n i : Nat} {h0 : zm_H} {c s : Nat → Nat → Nat} {Q : Option Value → zm_H → Prop} (hn : n ≤ 600) (hL : L ≤ 2048) (hi : i + 4 ≤ L) (h : zLI L xs n h0 c s) (hnext : ∀ h1 c2 t, zLI L xs (n + 1) h1 c2 t → zm_wp (d + 8) 0 479 [.ref 0, .ref 1, .ref 194, .int (nI i)] [] (zmh (zch h1 c2) t) Q) : zm_wp (d + 8) 0 354 [.ref 0, .ref 1, .ref 194, .int (nI i)] [] (zmh (zch h0 c) s) Q := by
  obtain ⟨hV, hMS, h0t, h0v, hnx, hsl⟩ := id h
  have hx7 : 207 ≤ h0.1 := hMS.1
  have hCS := hV.1
  have hMI := hV.2.2.1
  have hlk : ∀ g, g ≤ 40 → s 3 g = 3 → 1 ≤ s 6 g := hV.2.2.2.2.1.2.2.2.2.2.2.2.1
  have h100 := hV.2.2.2.2.1.2.2.2.2.2.1
  have h00h0 : 0 < h0.1 := by omega
  have h0th0 := h0t
  have h0vh0 := h0v
  have hVs : zIV (zmh h0 s) c s := zIV_in hV
  refine wx_aload_n kc0_354 rfl rfl ?_
  rw [← zch_mh]
  refine wc_call (zCS_m s hCS) kc0_355 rfl rfl rfl rfl rfl ?_
  refine fN_hold hVs (show h0.1 ≤ 2147483646 by omega) (fun h1 c2 hg hv => ?_)
  obtain ⟨h2, g2, rfl⟩ := zGR_mh hx7 hg
  have hli := zLI_gr h g2 (zIV_out hv)
  obtain ⟨hV2, hMS2, h0th2, h0vh2, _, _⟩ := id hli
  have h00h2 : 0 < h2.1 := by have := hMS2.1; omega
  rw [zch_mh]
  show zm_wp _ 0 358 [.ref 0, .ref 1, .ref 194, .int (nI i)] [.int (zsHold s).1] (zmh (zch h2 c2) s) _
  refine wx_aload_n kc0_358 rfl rfl ?_
  refine wx_virtual kc0_359 rfl (zmh_is (zMS_c _ hMS2) 194 8 (by decide) (by decide) rfl) rfl ?_
  refine eM_hold (zMS_c c2 hMS2) hMI hlk h100 (fun t hp ht => ?_)
  show zm_wp _ 0 362 [.ref 0, .ref 1, .ref 194, .int (nI i)] [.int (zsHold s).1, .int (zsHold s).1] (zmh (zch h2 c2) t) _
  refine wx_icmp_eq kc0_362 (fun _ => ?_) (fun z => absurd rfl z)
  exact hnext h2 c2 t (zLI_gr h g2 (zIV_PE (zIV_out hv) hp ht))
theorem lL_find {d : Nat} {L : Nat} {xs : Nat → Int32} {n i : Nat} {h0 : zm_H} {c s : Nat → Nat → Nat} {Q : Option Value → zm_H → Prop} (hn : n ≤ 600) (hL : L ≤ 2048) (hi : i + 4 ≤ L) (h : zLI L xs n h0 c s) (hnext : ∀ h1 c2 t, zLI L xs (n + 1) h1 c2 t → zm_wp (d + 8) 0 479 [.ref 0, .ref 1, .ref 194, .int (nI i)] [] (zmh (zch h1 c2) t) Q) : zm_wp (d + 8) 0 315 [.ref 0, .ref 1, .ref 194, .int (nI i)] [] (zmh (zch h0 c) s) Q := by
  obtain ⟨hV, hMS, h0t, h0v, hnx, hsl⟩ := id h
  have hx7 : 207 ≤ h0.1 := hMS.1
  have hCS := hV.1
  have hMI := hV.2.2.1
  have hlk : ∀ g, g ≤ 40 → s 3 g = 3 → 1 ≤ s 6 g := hV.2.2.2.2.1.2.2.2.2.2.2.2.1
  have h100 := hV.2.2.2.2.1.2.2.2.2.2.1
  have h00h0 : 0 < h0.1 := by omega
  have h0th0 := h0t
  have h0vh0 := h0v
  have hVs : zIV (zmh h0 s) c s := zIV_in hV
  refine wx_aload_n kc0_315 rfl rfl ?_
  refine wx_aload_n kc0_316 rfl rfl ?_
  refine wx_iload_n kc0_317 rfl rfl ?_
  refine wx_iconst (nI 1) kc0_318 (by decide) ?_
  refine wn_iadd (i + 1) kc0_319 rfl ?_
  refine wl_read kc0_320 h0th0 h0vh0 h00h0 hL (by omega) ?_
  refine wx_if_eq kc0_321 (fun hz => ?_) (fun hz => ?_)
  · refine wx_iconst (nI 0) kc0_328 (by decide) ?_
    rw [← zch_mh]
    refine wc_call (zCS_m s hCS) kc0_329 rfl rfl rfl rfl rfl ?_
    refine fN_find (fo := 0) hVs (show h0.1 ≤ 2147483646 by omega) (by decide) (fun h1 c2 hg hv => ?_)
    obtain ⟨h2, g2, rfl⟩ := zGR_mh hx7 hg
    have hli := zLI_gr h g2 (zIV_out hv)
    obtain ⟨hV2, hMS2, h0th2, h0vh2, _, _⟩ := id hli
    have h00h2 : 0 < h2.1 := by have := hMS2.1; omega
    rw [zch_mh]
    show zm_wp _ 0 332 [.ref 0, .ref 1, .ref 194, .int (nI i)] [.int (zsFind s 0).1] (zmh (zch h2 c2) s) _
    refine wx_aload_n kc0_332 rfl rfl ?_
    refine wx_aload_n kc0_333 rfl rfl ?_
    refine wx_iload_n kc0_334 rfl rfl ?_
    refine wx_iconst (nI 1) kc0_335 (by decide) ?_
    refine wn_iadd (i + 1) kc0_336 rfl ?_
    refine wl_read kc0_337 h0th2 h0vh2 h00h2 hL (by omega) ?_
    refine wx_if_eq kc0_338 (fun _ => ?_) (fun z => absurd hz z)
    refine wx_iconst (nI 0) kc0_345 (by decide) ?_
    refine wx_virtual kc0_346 rfl (zmh_is (zMS_c _ hMS2) 194 8 (by decide) (by decide) rfl) rfl ?_
    refine eM_find (fo := 0) (zMS_c c2 hMS2) hMI hlk (by decide) (fun t hp ht => ?_)
    show zm_wp _ 0 349 [.ref 0, .ref 1, .ref 194, .int (nI i)] [.int (zsFind s 0).1, .int (zsFind s 0).1] (zmh (zch h2 c2) t) _
    refine wx_icmp_eq kc0_349 (fun _ => ?_) (fun z => absurd rfl z)
    exact hnext h2 c2 t (zLI_gr h g2 (zIV_PE (zIV_out hv) hp ht))
  · refine wx_iconst (nI 1) kc0_324 (by decide) ?_
    refine wx_goto kc0_325 ?_
    rw [← zch_mh]
    refine wc_call (zCS_m s hCS) kc0_329 rfl rfl rfl rfl rfl ?_
    refine fN_find (fo := 1) hVs (show h0.1 ≤ 2147483646 by omega) (by decide) (fun h1 c2 hg hv => ?_)
    obtain ⟨h2, g2, rfl⟩ := zGR_mh hx7 hg
    have hli := zLI_gr h g2 (zIV_out hv)
    obtain ⟨hV2, hMS2, h0th2, h0vh2, _, _⟩ := id hli
    have h00h2 : 0 < h2.1 := by have := hMS2.1; omega
    rw [zch_mh]
    show zm_wp _ 0 332 [.ref 0, .ref 1, .ref 194, .int (nI i)] [.int (zsFind s 1).1] (zmh (zch h2 c2) s) _
    refine wx_aload_n kc0_332 rfl rfl ?_
    refine wx_aload_n kc0_333 rfl rfl ?_
    refine wx_iload_n kc0_334 rfl rfl ?_
    refine wx_iconst (nI 1) kc0_335 (by decide) ?_
    refine wn_iadd (i + 1) kc0_336 rfl ?_
    refine wl_read kc0_337 h0th2 h0vh2 h00h2 hL (by omega) ?_
    refine wx_if_eq kc0_338 (fun z => absurd z hz) (fun _ => ?_)
    refine wx_iconst (nI 1) kc0_341 (by decide) ?_
    refine wx_goto kc0_342 ?_
    refine wx_virtual kc0_346 rfl (zmh_is (zMS_c _ hMS2) 194 8 (by decide) (by decide) rfl) rfl ?_
    refine eM_find (fo := 1) (zMS_c c2 hMS2) hMI hlk (by decide) (fun t hp ht => ?_)
    show zm_wp _ 0 349 [.ref 0, .ref 1, .ref 194, .int (nI i)] [.int (zsFind s 1).1, .int (zsFind s 1).1] (zmh (zch h2 c2) t) _
    refine wx_icmp_eq kc0_349 (fun _ => ?_) (fun z => absurd rfl z)
    exact hnext h2 c2 t (zLI_gr h g2 (zIV_PE (zIV_out hv) hp ht))
theorem lL_room {d : Nat} {L : Nat} {xs : Nat → Int32} {n i : Nat} {h0 : zm_H} {c s : Nat → Nat → Nat} {Q : Option Value → zm_H → Prop} (hn : n ≤ 600) (hL : L ≤ 2048) (hi : i + 4 ≤ L) (h : zLI L xs n h0 c s) (hnext : ∀ h1 c2 t, zLI L xs (n + 1) h1 c2 t → zm_wp (d + 8) 0 479 [.ref 0, .ref 1, .ref 194, .int (nI i)] [] (zmh (zch h1 c2) t) Q) : zm_wp (d + 8) 0 204 [.ref 0, .ref 1, .ref 194, .int (nI i)] [] (zmh (zch h0 c) s) Q := by
  obtain ⟨hV, hMS, h0t, h0v, hnx, hsl⟩ := id h
  have hx7 : 207 ≤ h0.1 := hMS.1
  have hCS := hV.1
  have hMI := hV.2.2.1
  have hlk : ∀ g, g ≤ 40 → s 3 g = 3 → 1 ≤ s 6 g := hV.2.2.2.2.1.2.2.2.2.2.2.2.1
  have h100 := hV.2.2.2.2.1.2.2.2.2.2.1
  have h00h0 : 0 < h0.1 := by omega
  have h0th0 := h0t
  have h0vh0 := h0v
  have hVs : zIV (zmh h0 s) c s := zIV_in hV
  refine wx_aload_n kc0_204 rfl rfl ?_
  refine wx_aload_n kc0_205 rfl rfl ?_
  refine wx_iload_n kc0_206 rfl rfl ?_
  refine wx_iconst (nI 1) kc0_207 (by decide) ?_
  refine wn_iadd (i + 1) kc0_208 rfl ?_
  refine wl_read kc0_209 h0th0 h0vh0 h00h0 hL (by omega) ?_
  rw [← zch_mh]
  refine wc_call (zCS_m s hCS) kc0_210 rfl rfl rfl rfl rfl ?_
  refine fN_room hVs ?good ?bad
  case good =>
    intro k k1 k2 k3
    rw [zch_mh]
    have hv : zIV h0 (zup c 0 0 k) (zup s 0 0 k) := zIV_rr hV k1 k2
    have hli := zLI_gr h (zGR_rf h0) hv
    show zm_wp _ 0 213 [.ref 0, .ref 1, .ref 194, .int (nI i)] [.int (nI (k - zmat s))] (zmh (zch h0 (zup c 0 0 k)) s) _
    refine wx_aload_n kc0_213 rfl rfl ?_
    refine wx_aload_n kc0_214 rfl rfl ?_
    refine wx_iload_n kc0_215 rfl rfl ?_
    refine wx_iconst (nI 1) kc0_216 (by decide) ?_
    refine wn_iadd (i + 1) kc0_217 rfl ?_
    refine wl_read kc0_218 h0th0 h0vh0 h00h0 hL (by omega) ?_
    refine wx_virtual kc0_219 rfl (zmh_is (zMS_c _ hMS) 194 8 (by decide) (by decide) rfl) rfl ?_
    refine cM_room (zMS_c _ hMS) hMI ?mgood ?mbad
    case mgood =>
      intro k' q1 q2 q3
      obtain rfl : k = k' := (nI_eq (by omega) (by omega)).mp (k3.symm.trans q3)
      show zm_wp _ 0 222 [.ref 0, .ref 1, .ref 194, .int (nI i)] [.int (nI (k - zmat s)), .int (nI (k - zmat s))] (zmh (zch h0 (zup c 0 0 k)) (zup s 0 0 k)) _
      refine wx_icmp_eq kc0_222 (fun _ => ?_) (fun z => absurd rfl z)
      exact hnext h0 _ _ hli
    case mbad =>
      exact fun hb => absurd k3 (hb k k1 k2)
  case bad =>
    intro hb
    rw [zch_mh]
    have hli := zLI_gr h (zGR_rf h0) hV
    show zm_wp _ 0 213 [.ref 0, .ref 1, .ref 194, .int (nI i)] [.int (-1)] (zmh (zch h0 c) s) _
    refine wx_aload_n kc0_213 rfl rfl ?_
    refine wx_aload_n kc0_214 rfl rfl ?_
    refine wx_iload_n kc0_215 rfl rfl ?_
    refine wx_iconst (nI 1) kc0_216 (by decide) ?_
    refine wn_iadd (i + 1) kc0_217 rfl ?_
    refine wl_read kc0_218 h0th0 h0vh0 h00h0 hL (by omega) ?_
    refine wx_virtual kc0_219 rfl (zmh_is (zMS_c _ hMS) 194 8 (by decide) (by decide) rfl) rfl ?_
    refine cM_room (zMS_c _ hMS) hMI ?mgood ?mbad
    case mgood =>
      exact fun k k1 k2 k3 => absurd k3 (hb k k1 k2)
    case mbad =>
      intro _
      show zm_wp _ 0 222 [.ref 0, .ref 1, .ref 194, .int (nI i)] [.int (-1), .int (-1)] (zmh (zch h0 c) s) _
      refine wx_icmp_eq kc0_222 (fun _ => ?_) (fun z => absurd rfl z)
      exact hnext h0 c s hli
theorem lL_release {d : Nat} {L : Nat} {xs : Nat → Int32} {n i : Nat} {h0 : zm_H} {c s : Nat → Nat → Nat} {Q : Option Value → zm_H → Prop} (hn : n ≤ 600) (hL : L ≤ 2048) (hi : i + 4 ≤ L) (h : zLI L xs n h0 c s) (hnext : ∀ h1 c2 t, zLI L xs (n + 1) h1 c2 t → zm_wp (d + 8) 0 479 [.ref 0, .ref 1, .ref 194, .int (nI i)] [] (zmh (zch h1 c2) t) Q) : zm_wp (d + 8) 0 367 [.ref 0, .ref 1, .ref 194, .int (nI i)] [] (zmh (zch h0 c) s) Q := by
  obtain ⟨hV, hMS, h0t, h0v, hnx, hsl⟩ := id h
  have hx7 : 207 ≤ h0.1 := hMS.1
  have hCS := hV.1
  have hMI := hV.2.2.1
  have hlk : ∀ g, g ≤ 40 → s 3 g = 3 → 1 ≤ s 6 g := hV.2.2.2.2.1.2.2.2.2.2.2.2.1
  have h100 := hV.2.2.2.2.1.2.2.2.2.2.1
  have h00h0 : 0 < h0.1 := by omega
  have h0th0 := h0t
  have h0vh0 := h0v
  have hVs : zIV (zmh h0 s) c s := zIV_in hV
  refine wx_aload_n kc0_367 rfl rfl ?_
  refine wx_aload_n kc0_368 rfl rfl ?_
  refine wx_iload_n kc0_369 rfl rfl ?_
  refine wx_iconst (nI 1) kc0_370 (by decide) ?_
  refine wn_iadd (i + 1) kc0_371 rfl ?_
  refine wl_read kc0_372 h0th0 h0vh0 h00h0 hL (by omega) ?_
  rw [← zch_mh]
  refine wc_call (zCS_m s hCS) kc0_373 rfl rfl rfl rfl rfl ?_
  refine fN_release hVs ?good ?bad
  case good =>
    intro f f1 f2 f3 f4 f5
    rw [zch_mh]
    have hv : zIV h0 (zgu (zup c 4 f (s 5 f - 1)) f) (if zmno s f (s 0 10) = 0 ∧ s 5 f - 1 = 0 then zup (zup s 5 f (s 5 f - 1)) 3 f 0 else zup s 5 f (s 5 f - 1)) := zIV_rl hV f1 f2 f4
    have hli := zLI_gr h (zGR_rf h0) hv
    show zm_wp _ 0 376 [.ref 0, .ref 1, .ref 194, .int (nI i)] [.int (nI (zmno s f (s 0 10)))] (zmh (zch h0 (zgu (zup c 4 f (s 5 f - 1)) f)) s) _
    refine wx_aload_n kc0_376 rfl rfl ?_
    refine wx_aload_n kc0_377 rfl rfl ?_
    refine wx_iload_n kc0_378 rfl rfl ?_
    refine wx_iconst (nI 1) kc0_379 (by decide) ?_
    refine wn_iadd (i + 1) kc0_380 rfl ?_
    refine wl_read kc0_381 h0th0 h0vh0 h00h0 hL (by omega) ?_
    refine wx_virtual kc0_382 rfl (zmh_is (zMS_c _ hMS) 194 8 (by decide) (by decide) rfl) rfl ?_
    refine cM_release (zMS_c _ hMS) hMI ?mgood ?mbad
    case mgood =>
      intro g q1 q2 q3 q4 q5
      obtain rfl : f = g := (nI_eq (by omega) (by omega)).mp (f5.symm.trans q5)
      show zm_wp _ 0 385 [.ref 0, .ref 1, .ref 194, .int (nI i)] [.int (nI (zmno s f (s 0 10))), .int (nI (zmno s f (s 0 10)))] (zmh (zch h0 (zgu (zup c 4 f (s 5 f - 1)) f)) (if zmno s f (s 0 10) = 0 ∧ s 5 f - 1 = 0 then zup (zup s 5 f (s 5 f - 1)) 3 f 0 else zup s 5 f (s 5 f - 1))) _
      refine wx_icmp_eq kc0_385 (fun _ => ?_) (fun z => absurd rfl z)
      exact hnext h0 _ _ hli
    case mbad =>
      exact fun hb => absurd f5 (hb f f1 f2 f3 f4)
  case bad =>
    intro hb
    rw [zch_mh]
    have hli := zLI_gr h (zGR_rf h0) hV
    show zm_wp _ 0 376 [.ref 0, .ref 1, .ref 194, .int (nI i)] [.int (-1)] (zmh (zch h0 c) s) _
    refine wx_aload_n kc0_376 rfl rfl ?_
    refine wx_aload_n kc0_377 rfl rfl ?_
    refine wx_iload_n kc0_378 rfl rfl ?_
    refine wx_iconst (nI 1) kc0_379 (by decide) ?_
    refine wn_iadd (i + 1) kc0_380 rfl ?_
    refine wl_read kc0_381 h0th0 h0vh0 h00h0 hL (by omega) ?_
    refine wx_virtual kc0_382 rfl (zmh_is (zMS_c _ hMS) 194 8 (by decide) (by decide) rfl) rfl ?_
    refine cM_release (zMS_c _ hMS) hMI ?mgood ?mbad
    case mgood =>
      exact fun f f1 f2 f3 f4 f5 => absurd f5 (hb f f1 f2 f3 f4)
    case mbad =>
      intro _
      show zm_wp _ 0 385 [.ref 0, .ref 1, .ref 194, .int (nI i)] [.int (-1), .int (-1)] (zmh (zch h0 c) s) _
      refine wx_icmp_eq kc0_385 (fun _ => ?_) (fun z => absurd rfl z)
      exact hnext h0 c s hli
theorem lL_about {d : Nat} {L : Nat} {xs : Nat → Int32} {n i : Nat} {h0 : zm_H} {c s : Nat → Nat → Nat} {Q : Option Value → zm_H → Prop} (hn : n ≤ 600) (hL : L ≤ 2048) (hi : i + 4 ≤ L) (h : zLI L xs n h0 c s) (hnext : ∀ h1 c2 t, zLI L xs (n + 1) h1 c2 t → zm_wp (d + 8) 0 479 [.ref 0, .ref 1, .ref 194, .int (nI i)] [] (zmh (zch h1 c2) t) Q) : zm_wp (d + 8) 0 390 [.ref 0, .ref 1, .ref 194, .int (nI i)] [] (zmh (zch h0 c) s) Q := by
  obtain ⟨hV, hMS, h0t, h0v, hnx, hsl⟩ := id h
  have hx7 : 207 ≤ h0.1 := hMS.1
  have hCS := hV.1
  have hMI := hV.2.2.1
  have hlk : ∀ g, g ≤ 40 → s 3 g = 3 → 1 ≤ s 6 g := hV.2.2.2.2.1.2.2.2.2.2.2.2.1
  have h100 := hV.2.2.2.2.1.2.2.2.2.2.1
  have h00h0 : 0 < h0.1 := by omega
  have h0th0 := h0t
  have h0vh0 := h0v
  have hVs : zIV (zmh h0 s) c s := zIV_in hV
  refine wx_aload_n kc0_390 rfl rfl ?_
  refine wx_aload_n kc0_391 rfl rfl ?_
  refine wx_iload_n kc0_392 rfl rfl ?_
  refine wx_iconst (nI 1) kc0_393 (by decide) ?_
  refine wn_iadd (i + 1) kc0_394 rfl ?_
  refine wl_read kc0_395 h0th0 h0vh0 h00h0 hL (by omega) ?_
  refine wx_aload_n kc0_396 rfl rfl ?_
  refine wx_iload_n kc0_397 rfl rfl ?_
  refine wx_iconst (nI 2) kc0_398 (by decide) ?_
  refine wn_iadd (i + 2) kc0_399 rfl ?_
  refine wl_read kc0_400 h0th0 h0vh0 h00h0 hL (by omega) ?_
  rw [← zch_mh]
  refine wc_call (zCS_m s hCS) kc0_401 rfl rfl rfl rfl rfl ?_
  refine fN_about hVs ?good ?bad
  case good =>
    intro f w f1 f2 f3 f4 f5 f6
    rw [zch_mh]
    have hv : zIV h0 c s := hV
    have hli := zLI_gr h (zGR_rf h0) hv
    show zm_wp _ 0 404 [.ref 0, .ref 1, .ref 194, .int (nI i)] [.int (nI (zmab s f w))] (zmh (zch h0 c) s) _
    refine wx_aload_n kc0_404 rfl rfl ?_
    refine wx_aload_n kc0_405 rfl rfl ?_
    refine wx_iload_n kc0_406 rfl rfl ?_
    refine wx_iconst (nI 1) kc0_407 (by decide) ?_
    refine wn_iadd (i + 1) kc0_408 rfl ?_
    refine wl_read kc0_409 h0th0 h0vh0 h00h0 hL (by omega) ?_
    refine wx_aload_n kc0_410 rfl rfl ?_
    refine wx_iload_n kc0_411 rfl rfl ?_
    refine wx_iconst (nI 2) kc0_412 (by decide) ?_
    refine wn_iadd (i + 2) kc0_413 rfl ?_
    refine wl_read kc0_414 h0th0 h0vh0 h00h0 hL (by omega) ?_
    refine wx_virtual kc0_415 rfl (zmh_is (zMS_c _ hMS) 194 8 (by decide) (by decide) rfl) rfl ?_
    refine cM_about (zMS_c _ hMS) hMI ?mgood ?mbad
    case mgood =>
      intro g w2 q1 q2 q3 q4 q5 q6
      obtain rfl : f = g := (nI_eq (by omega) (by omega)).mp (f5.symm.trans q5)
      obtain rfl : w = w2 := (nI_eq (by omega) (by omega)).mp (f6.symm.trans q6)
      show zm_wp _ 0 418 [.ref 0, .ref 1, .ref 194, .int (nI i)] [.int (nI (zmab s f w)), .int (nI (zmab s f w))] (zmh (zch h0 c) s) _
      refine wx_icmp_eq kc0_418 (fun _ => ?_) (fun z => absurd rfl z)
      exact hnext h0 _ _ hli
    case mbad =>
      exact fun hb => absurd ⟨f5, f6⟩ (hb f w f1 f2 f3 f4)
  case bad =>
    intro hb
    rw [zch_mh]
    have hli := zLI_gr h (zGR_rf h0) hV
    show zm_wp _ 0 404 [.ref 0, .ref 1, .ref 194, .int (nI i)] [.int (-1)] (zmh (zch h0 c) s) _
    refine wx_aload_n kc0_404 rfl rfl ?_
    refine wx_aload_n kc0_405 rfl rfl ?_
    refine wx_iload_n kc0_406 rfl rfl ?_
    refine wx_iconst (nI 1) kc0_407 (by decide) ?_
    refine wn_iadd (i + 1) kc0_408 rfl ?_
    refine wl_read kc0_409 h0th0 h0vh0 h00h0 hL (by omega) ?_
    refine wx_aload_n kc0_410 rfl rfl ?_
    refine wx_iload_n kc0_411 rfl rfl ?_
    refine wx_iconst (nI 2) kc0_412 (by decide) ?_
    refine wn_iadd (i + 2) kc0_413 rfl ?_
    refine wl_read kc0_414 h0th0 h0vh0 h00h0 hL (by omega) ?_
    refine wx_virtual kc0_415 rfl (zmh_is (zMS_c _ hMS) 194 8 (by decide) (by decide) rfl) rfl ?_
    refine cM_about (zMS_c _ hMS) hMI ?mgood ?mbad
    case mgood =>
      exact fun f w f1 f2 f3 f4 f5 f6 => absurd ⟨f5, f6⟩ (hb f w f1 f2 f3 f4)
    case mbad =>
      intro _
      show zm_wp _ 0 418 [.ref 0, .ref 1, .ref 194, .int (nI i)] [.int (-1), .int (-1)] (zmh (zch h0 c) s) _
      refine wx_icmp_eq kc0_418 (fun _ => ?_) (fun z => absurd rfl z)
      exact hnext h0 c s hli
theorem lL_targetByte {d : Nat} {L : Nat} {xs : Nat → Int32} {n i : Nat} {h0 : zm_H} {c s : Nat → Nat → Nat} {Q : Option Value → zm_H → Prop} (hn : n ≤ 600) (hL : L ≤ 2048) (hi : i + 4 ≤ L) (h : zLI L xs n h0 c s) (hnext : ∀ h1 c2 t, zLI L xs (n + 1) h1 c2 t → zm_wp (d + 8) 0 479 [.ref 0, .ref 1, .ref 194, .int (nI i)] [] (zmh (zch h1 c2) t) Q) : zm_wp (d + 8) 0 423 [.ref 0, .ref 1, .ref 194, .int (nI i)] [] (zmh (zch h0 c) s) Q := by
  obtain ⟨hV, hMS, h0t, h0v, hnx, hsl⟩ := id h
  have hx7 : 207 ≤ h0.1 := hMS.1
  have hCS := hV.1
  have hMI := hV.2.2.1
  have hlk : ∀ g, g ≤ 40 → s 3 g = 3 → 1 ≤ s 6 g := hV.2.2.2.2.1.2.2.2.2.2.2.2.1
  have h100 := hV.2.2.2.2.1.2.2.2.2.2.1
  have h00h0 : 0 < h0.1 := by omega
  have h0th0 := h0t
  have h0vh0 := h0v
  have hVs : zIV (zmh h0 s) c s := zIV_in hV
  refine wx_aload_n kc0_423 rfl rfl ?_
  refine wx_aload_n kc0_424 rfl rfl ?_
  refine wx_iload_n kc0_425 rfl rfl ?_
  refine wx_iconst (nI 1) kc0_426 (by decide) ?_
  refine wn_iadd (i + 1) kc0_427 rfl ?_
  refine wl_read kc0_428 h0th0 h0vh0 h00h0 hL (by omega) ?_
  refine wx_aload_n kc0_429 rfl rfl ?_
  refine wx_iload_n kc0_430 rfl rfl ?_
  refine wx_iconst (nI 2) kc0_431 (by decide) ?_
  refine wn_iadd (i + 2) kc0_432 rfl ?_
  refine wl_read kc0_433 h0th0 h0vh0 h00h0 hL (by omega) ?_
  rw [← zch_mh]
  refine wc_call (zCS_m s hCS) kc0_434 rfl rfl rfl rfl rfl ?_
  refine fN_targetByte hVs ?good ?bad
  case good =>
    intro f k f1 f2 f3 f4 f5 f6
    rw [zch_mh]
    have hv : zIV h0 c s := hV
    have hli := zLI_gr h (zGR_rf h0) hv
    show zm_wp _ 0 437 [.ref 0, .ref 1, .ref 194, .int (nI i)] [.int (nI (s 7 (1000 * f + k)))] (zmh (zch h0 c) s) _
    refine wx_aload_n kc0_437 rfl rfl ?_
    refine wx_aload_n kc0_438 rfl rfl ?_
    refine wx_iload_n kc0_439 rfl rfl ?_
    refine wx_iconst (nI 1) kc0_440 (by decide) ?_
    refine wn_iadd (i + 1) kc0_441 rfl ?_
    refine wl_read kc0_442 h0th0 h0vh0 h00h0 hL (by omega) ?_
    refine wx_aload_n kc0_443 rfl rfl ?_
    refine wx_iload_n kc0_444 rfl rfl ?_
    refine wx_iconst (nI 2) kc0_445 (by decide) ?_
    refine wn_iadd (i + 2) kc0_446 rfl ?_
    refine wl_read kc0_447 h0th0 h0vh0 h00h0 hL (by omega) ?_
    refine wx_virtual kc0_448 rfl (zmh_is (zMS_c _ hMS) 194 8 (by decide) (by decide) rfl) rfl ?_
    refine cM_targetByte (zMS_c _ hMS) hMI ?mgood ?mbad
    case mgood =>
      have hs6 : s 6 f ≤ 1000 := hMI 6 f
      intro g w2 q1 q2 q3 q4 q5 q6
      have hs62 : s 6 g ≤ 1000 := hMI 6 g
      obtain rfl : f = g := (nI_eq (by omega) (by omega)).mp (f5.symm.trans q5)
      obtain rfl : k = w2 := (nI_eq (by omega) (by omega)).mp (f6.symm.trans q6)
      show zm_wp _ 0 451 [.ref 0, .ref 1, .ref 194, .int (nI i)] [.int (nI (s 7 (1000 * f + k))), .int (nI (s 7 (1000 * f + k)))] (zmh (zch h0 c) s) _
      refine wx_icmp_eq kc0_451 (fun _ => ?_) (fun z => absurd rfl z)
      exact hnext h0 _ _ hli
    case mbad =>
      exact fun hb => absurd ⟨f5, f6⟩ (hb f k f1 f2 f3 f4)
  case bad =>
    intro hb
    rw [zch_mh]
    have hli := zLI_gr h (zGR_rf h0) hV
    show zm_wp _ 0 437 [.ref 0, .ref 1, .ref 194, .int (nI i)] [.int (-1)] (zmh (zch h0 c) s) _
    refine wx_aload_n kc0_437 rfl rfl ?_
    refine wx_aload_n kc0_438 rfl rfl ?_
    refine wx_iload_n kc0_439 rfl rfl ?_
    refine wx_iconst (nI 1) kc0_440 (by decide) ?_
    refine wn_iadd (i + 1) kc0_441 rfl ?_
    refine wl_read kc0_442 h0th0 h0vh0 h00h0 hL (by omega) ?_
    refine wx_aload_n kc0_443 rfl rfl ?_
    refine wx_iload_n kc0_444 rfl rfl ?_
    refine wx_iconst (nI 2) kc0_445 (by decide) ?_
    refine wn_iadd (i + 2) kc0_446 rfl ?_
    refine wl_read kc0_447 h0th0 h0vh0 h00h0 hL (by omega) ?_
    refine wx_virtual kc0_448 rfl (zmh_is (zMS_c _ hMS) 194 8 (by decide) (by decide) rfl) rfl ?_
    refine cM_targetByte (zMS_c _ hMS) hMI ?mgood ?mbad
    case mgood =>
      exact fun f k f1 f2 f3 f4 f5 f6 => absurd ⟨f5, f6⟩ (hb f k f1 f2 f3 f4)
    case mbad =>
      intro _
      show zm_wp _ 0 451 [.ref 0, .ref 1, .ref 194, .int (nI i)] [.int (-1), .int (-1)] (zmh (zch h0 c) s) _
      refine wx_icmp_eq kc0_451 (fun _ => ?_) (fun z => absurd rfl z)
      exact hnext h0 c s hli
theorem lL_type {d : Nat} {L : Nat} {xs : Nat → Int32} {n i : Nat} {h0 : zm_H} {c s : Nat → Nat → Nat} {Q : Option Value → zm_H → Prop} (hn : n ≤ 600) (hL : L ≤ 2048) (hi : i + 4 ≤ L) (h : zLI L xs n h0 c s) (hnext : ∀ h1 c2 t, zLI L xs (n + 1) h1 c2 t → zm_wp (d + 8) 0 479 [.ref 0, .ref 1, .ref 194, .int (nI i)] [] (zmh (zch h1 c2) t) Q) : zm_wp (d + 8) 0 108 [.ref 0, .ref 1, .ref 194, .int (nI i)] [] (zmh (zch h0 c) s) Q := by
  obtain ⟨hV, hMS, h0t, h0v, hnx, hsl⟩ := id h
  have hx7 : 207 ≤ h0.1 := hMS.1
  have hCS := hV.1
  have hMI := hV.2.2.1
  have hlk : ∀ g, g ≤ 40 → s 3 g = 3 → 1 ≤ s 6 g := hV.2.2.2.2.1.2.2.2.2.2.2.2.1
  have h100 := hV.2.2.2.2.1.2.2.2.2.2.1
  have h00h0 : 0 < h0.1 := by omega
  have h0th0 := h0t
  have h0vh0 := h0v
  have hVs : zIV (zmh h0 s) c s := zIV_in hV
  refine wx_aload_n kc0_108 rfl rfl ?_
  refine wx_aload_n kc0_109 rfl rfl ?_
  refine wx_iload_n kc0_110 rfl rfl ?_
  refine wx_iconst (nI 1) kc0_111 (by decide) ?_
  refine wn_iadd (i + 1) kc0_112 rfl ?_
  refine wl_read kc0_113 h0th0 h0vh0 h00h0 hL (by omega) ?_
  refine wx_i2l kc0_114 ?_
  refine wx_bipush (nI 32) kc0_115 (by decide) ?_
  refine wx_lshl kc0_117 ?_
  refine wx_aload_n kc0_118 rfl rfl ?_
  refine wx_iload_n kc0_119 rfl rfl ?_
  refine wx_iconst (nI 2) kc0_120 (by decide) ?_
  refine wn_iadd (i + 2) kc0_121 rfl ?_
  refine wl_read kc0_122 h0th0 h0vh0 h00h0 hL (by omega) ?_
  refine wx_i2l kc0_123 ?_
  refine wx_ldc2_w (4294967295) kc0_124 (by decide) ?_
  refine wx_land kc0_127 ?_
  refine wx_lor kc0_128 ?_
  refine wx_aload_n kc0_129 rfl rfl ?_
  refine wx_iload_n kc0_130 rfl rfl ?_
  refine wx_iconst (nI 3) kc0_131 (by decide) ?_
  refine wn_iadd (i + 3) kc0_132 rfl ?_
  refine wl_read kc0_133 h0th0 h0vh0 h00h0 hL (by omega) ?_
  rw [← zch_mh]
  refine wc_call (zCS_m s hCS) kc0_134 rfl rfl rfl rfl rfl ?_
  refine fN_type hVs ?bad ?good
  case good =>
    intro k k1 k2 k3 k4
    rw [zch_mh]
    have hv : zIV h0 (zup (zwr c 19 (1200 * 3 + s 0 1) k (fun j => zby (((xs (i + 1)).toInt64 <<< ((nI 32).toInt64 &&& 63)) ||| ((xs (i + 2)).toInt64 &&& 4294967295)) (k - 1 - j))) 0 1 (s 0 1 + k)) (zup (zwr s 1 (s 0 1) k (fun j => zby (((xs (i + 1)).toInt64 <<< ((nI 32).toInt64 &&& 63)) ||| ((xs (i + 2)).toInt64 &&& 4294967295)) (k - 1 - j))) 0 1 (s 0 1 + k)) := zIV_ap hV k3 (fun j => Nat.le_of_lt_succ (zby_lt _ _))
    have hli := zLI_gr h (zGR_rf h0) hv
    show zm_wp _ 0 137 [.ref 0, .ref 1, .ref 194, .int (nI i)] [.int (nI (s 0 1 + k))] (zmh (zch h0 (zup (zwr c 19 (1200 * 3 + s 0 1) k (fun j => zby (((xs (i + 1)).toInt64 <<< ((nI 32).toInt64 &&& 63)) ||| ((xs (i + 2)).toInt64 &&& 4294967295)) (k - 1 - j))) 0 1 (s 0 1 + k))) s) _
    refine wx_aload_n kc0_137 rfl rfl ?_
    refine wx_aload_n kc0_138 rfl rfl ?_
    refine wx_iload_n kc0_139 rfl rfl ?_
    refine wx_iconst (nI 1) kc0_140 (by decide) ?_
    refine wn_iadd (i + 1) kc0_141 rfl ?_
    refine wl_read kc0_142 h0th0 h0vh0 h00h0 hL (by omega) ?_
    refine wx_i2l kc0_143 ?_
    refine wx_bipush (nI 32) kc0_144 (by decide) ?_
    refine wx_lshl kc0_146 ?_
    refine wx_aload_n kc0_147 rfl rfl ?_
    refine wx_iload_n kc0_148 rfl rfl ?_
    refine wx_iconst (nI 2) kc0_149 (by decide) ?_
    refine wn_iadd (i + 2) kc0_150 rfl ?_
    refine wl_read kc0_151 h0th0 h0vh0 h00h0 hL (by omega) ?_
    refine wx_i2l kc0_152 ?_
    refine wx_ldc2_w (4294967295) kc0_153 (by decide) ?_
    refine wx_land kc0_156 ?_
    refine wx_lor kc0_157 ?_
    refine wx_aload_n kc0_158 rfl rfl ?_
    refine wx_iload_n kc0_159 rfl rfl ?_
    refine wx_iconst (nI 3) kc0_160 (by decide) ?_
    refine wn_iadd (i + 3) kc0_161 rfl ?_
    refine wl_read kc0_162 h0th0 h0vh0 h00h0 hL (by omega) ?_
    refine wx_virtual kc0_163 rfl (zmh_is (zMS_c _ hMS) 194 8 (by decide) (by decide) rfl) rfl ?_
    refine cM_type (zMS_c _ hMS) (zMIb hMI) (hMI 0 1) ?mbad ?mgood
    case mgood =>
      intro k' q1 q2 q3 q4
      obtain rfl : k = k' := (nI_eq (by omega) (by omega)).mp (k4.symm.trans q4)
      show zm_wp _ 0 166 [.ref 0, .ref 1, .ref 194, .int (nI i)] [.int (nI (s 0 1 + k)), .int (nI (s 0 1 + k))] (zmh (zch h0 (zup (zwr c 19 (1200 * 3 + s 0 1) k (fun j => zby (((xs (i + 1)).toInt64 <<< ((nI 32).toInt64 &&& 63)) ||| ((xs (i + 2)).toInt64 &&& 4294967295)) (k - 1 - j))) 0 1 (s 0 1 + k))) (zup (zwr s 1 (s 0 1) k (fun j => zby (((xs (i + 1)).toInt64 <<< ((nI 32).toInt64 &&& 63)) ||| ((xs (i + 2)).toInt64 &&& 4294967295)) (k - 1 - j))) 0 1 (s 0 1 + k))) _
      refine wx_icmp_eq kc0_166 (fun _ => ?_) (fun z => absurd rfl z)
      exact hnext h0 _ _ hli
    case mbad =>
      exact fun hb => absurd k4 (hb k k1 k2 k3)
  case bad =>
    intro hb
    rw [zch_mh]
    have hli := zLI_gr h (zGR_rf h0) hV
    show zm_wp _ 0 137 [.ref 0, .ref 1, .ref 194, .int (nI i)] [.int (-1)] (zmh (zch h0 c) s) _
    refine wx_aload_n kc0_137 rfl rfl ?_
    refine wx_aload_n kc0_138 rfl rfl ?_
    refine wx_iload_n kc0_139 rfl rfl ?_
    refine wx_iconst (nI 1) kc0_140 (by decide) ?_
    refine wn_iadd (i + 1) kc0_141 rfl ?_
    refine wl_read kc0_142 h0th0 h0vh0 h00h0 hL (by omega) ?_
    refine wx_i2l kc0_143 ?_
    refine wx_bipush (nI 32) kc0_144 (by decide) ?_
    refine wx_lshl kc0_146 ?_
    refine wx_aload_n kc0_147 rfl rfl ?_
    refine wx_iload_n kc0_148 rfl rfl ?_
    refine wx_iconst (nI 2) kc0_149 (by decide) ?_
    refine wn_iadd (i + 2) kc0_150 rfl ?_
    refine wl_read kc0_151 h0th0 h0vh0 h00h0 hL (by omega) ?_
    refine wx_i2l kc0_152 ?_
    refine wx_ldc2_w (4294967295) kc0_153 (by decide) ?_
    refine wx_land kc0_156 ?_
    refine wx_lor kc0_157 ?_
    refine wx_aload_n kc0_158 rfl rfl ?_
    refine wx_iload_n kc0_159 rfl rfl ?_
    refine wx_iconst (nI 3) kc0_160 (by decide) ?_
    refine wn_iadd (i + 3) kc0_161 rfl ?_
    refine wl_read kc0_162 h0th0 h0vh0 h00h0 hL (by omega) ?_
    refine wx_virtual kc0_163 rfl (zmh_is (zMS_c _ hMS) 194 8 (by decide) (by decide) rfl) rfl ?_
    refine cM_type (zMS_c _ hMS) (zMIb hMI) (hMI 0 1) ?mbad ?mgood
    case mgood =>
      exact fun k k1 k2 k3 k4 => absurd k4 (hb k k1 k2 k3)
    case mbad =>
      intro _
      show zm_wp _ 0 166 [.ref 0, .ref 1, .ref 194, .int (nI i)] [.int (-1), .int (-1)] (zmh (zch h0 c) s) _
      refine wx_icmp_eq kc0_166 (fun _ => ?_) (fun z => absurd rfl z)
      exact hnext h0 c s hli
theorem lL_fill {d : Nat} {L : Nat} {xs : Nat → Int32} {n i : Nat} {h0 : zm_H} {c s : Nat → Nat → Nat} {Q : Option Value → zm_H → Prop} (hn : n ≤ 600) (hL : L ≤ 2048) (hi : i + 4 ≤ L) (h : zLI L xs n h0 c s) (hnext : ∀ h1 c2 t, zLI L xs (n + 1) h1 c2 t → zm_wp (d + 8) 0 479 [.ref 0, .ref 1, .ref 194, .int (nI i)] [] (zmh (zch h1 c2) t) Q) : zm_wp (d + 8) 0 171 [.ref 0, .ref 1, .ref 194, .int (nI i)] [] (zmh (zch h0 c) s) Q := by
  obtain ⟨hV, hMS, h0t, h0v, hnx, hsl⟩ := id h
  have hx7 : 207 ≤ h0.1 := hMS.1
  have hCS := hV.1
  have hMI := hV.2.2.1
  have hlk : ∀ g, g ≤ 40 → s 3 g = 3 → 1 ≤ s 6 g := hV.2.2.2.2.1.2.2.2.2.2.2.2.1
  have h100 := hV.2.2.2.2.1.2.2.2.2.2.1
  have h00h0 : 0 < h0.1 := by omega
  have h0th0 := h0t
  have h0vh0 := h0v
  have hVs : zIV (zmh h0 s) c s := zIV_in hV
  refine wx_aload_n kc0_171 rfl rfl ?_
  refine wx_aload_n kc0_172 rfl rfl ?_
  refine wx_iload_n kc0_173 rfl rfl ?_
  refine wx_iconst (nI 1) kc0_174 (by decide) ?_
  refine wn_iadd (i + 1) kc0_175 rfl ?_
  refine wl_read kc0_176 h0th0 h0vh0 h00h0 hL (by omega) ?_
  refine wx_aload_n kc0_177 rfl rfl ?_
  refine wx_iload_n kc0_178 rfl rfl ?_
  refine wx_iconst (nI 2) kc0_179 (by decide) ?_
  refine wn_iadd (i + 2) kc0_180 rfl ?_
  refine wl_read kc0_181 h0th0 h0vh0 h00h0 hL (by omega) ?_
  rw [← zch_mh]
  refine wc_call (zCS_m s hCS) kc0_182 rfl rfl rfl rfl rfl ?_
  refine fN_fill hVs ?bad ?good
  case good =>
    intro k b b1 k0 k1 k2 k3 k4 k5
    rw [zch_mh]
    have hv : zIV h0 (zup (zwr c 19 (1200 * 3 + s 0 1) k (fun _ => b)) 0 1 (s 0 1 + k)) (zup (zwr s 1 (s 0 1) k (fun _ => b)) 0 1 (s 0 1 + k)) := zIV_ap hV k3 (fun _ => b1)
    have hli := zLI_gr h (zGR_rf h0) hv
    show zm_wp _ 0 185 [.ref 0, .ref 1, .ref 194, .int (nI i)] [.int (nI (s 0 1 + k))] (zmh (zch h0 (zup (zwr c 19 (1200 * 3 + s 0 1) k (fun _ => b)) 0 1 (s 0 1 + k))) s) _
    refine wx_aload_n kc0_185 rfl rfl ?_
    refine wx_aload_n kc0_186 rfl rfl ?_
    refine wx_iload_n kc0_187 rfl rfl ?_
    refine wx_iconst (nI 1) kc0_188 (by decide) ?_
    refine wn_iadd (i + 1) kc0_189 rfl ?_
    refine wl_read kc0_190 h0th0 h0vh0 h00h0 hL (by omega) ?_
    refine wx_aload_n kc0_191 rfl rfl ?_
    refine wx_iload_n kc0_192 rfl rfl ?_
    refine wx_iconst (nI 2) kc0_193 (by decide) ?_
    refine wn_iadd (i + 2) kc0_194 rfl ?_
    refine wl_read kc0_195 h0th0 h0vh0 h00h0 hL (by omega) ?_
    refine wx_virtual kc0_196 rfl (zmh_is (zMS_c _ hMS) 194 8 (by decide) (by decide) rfl) rfl ?_
    refine cM_fill (zMS_c _ hMS) (zMIb hMI) (hMI 0 1) ?mbad ?mgood
    case mgood =>
      intro k' b' q1 q0 q2 q3 q4 q5 q6
      obtain rfl : k = k' := (nI_eq (by omega) (by omega)).mp (k5.symm.trans q6)
      obtain rfl : b = b' := (nI_eq (by omega) (by omega)).mp (k4.symm.trans q5)
      show zm_wp _ 0 199 [.ref 0, .ref 1, .ref 194, .int (nI i)] [.int (nI (s 0 1 + k)), .int (nI (s 0 1 + k))] (zmh (zch h0 (zup (zwr c 19 (1200 * 3 + s 0 1) k (fun _ => b)) 0 1 (s 0 1 + k))) (zup (zwr s 1 (s 0 1) k (fun _ => b)) 0 1 (s 0 1 + k))) _
      refine wx_icmp_eq kc0_199 (fun _ => ?_) (fun z => absurd rfl z)
      exact hnext h0 _ _ hli
    case mbad =>
      exact fun hb => absurd ⟨k4, k5⟩ (hb k b b1 k1 k2 k3)
  case bad =>
    intro hb
    rw [zch_mh]
    have hli := zLI_gr h (zGR_rf h0) hV
    show zm_wp _ 0 185 [.ref 0, .ref 1, .ref 194, .int (nI i)] [.int (-1)] (zmh (zch h0 c) s) _
    refine wx_aload_n kc0_185 rfl rfl ?_
    refine wx_aload_n kc0_186 rfl rfl ?_
    refine wx_iload_n kc0_187 rfl rfl ?_
    refine wx_iconst (nI 1) kc0_188 (by decide) ?_
    refine wn_iadd (i + 1) kc0_189 rfl ?_
    refine wl_read kc0_190 h0th0 h0vh0 h00h0 hL (by omega) ?_
    refine wx_aload_n kc0_191 rfl rfl ?_
    refine wx_iload_n kc0_192 rfl rfl ?_
    refine wx_iconst (nI 2) kc0_193 (by decide) ?_
    refine wn_iadd (i + 2) kc0_194 rfl ?_
    refine wl_read kc0_195 h0th0 h0vh0 h00h0 hL (by omega) ?_
    refine wx_virtual kc0_196 rfl (zmh_is (zMS_c _ hMS) 194 8 (by decide) (by decide) rfl) rfl ?_
    refine cM_fill (zMS_c _ hMS) (zMIb hMI) (hMI 0 1) ?mbad ?mgood
    case mgood =>
      exact fun k b b1 k0 k1 k2 k3 k4 k5 => absurd ⟨k4, k5⟩ (hb k b b1 k1 k2 k3)
    case mbad =>
      intro _
      show zm_wp _ 0 199 [.ref 0, .ref 1, .ref 194, .int (nI i)] [.int (-1), .int (-1)] (zmh (zch h0 c) s) _
      refine wx_icmp_eq kc0_199 (fun _ => ?_) (fun z => absurd rfl z)
      exact hnext h0 c s hli
theorem lL_count {d : Nat} {L : Nat} {xs : Nat → Int32} {n i : Nat} {h0 : zm_H} {c s : Nat → Nat → Nat} {Q : Option Value → zm_H → Prop} (hn : n ≤ 600) (hL : L ≤ 2048) (hi : i + 4 ≤ L) (h : zLI L xs n h0 c s) (hnext : ∀ h1 c2 t, zLI L xs (n + 1) h1 c2 t → zm_wp (d + 8) 0 479 [.ref 0, .ref 1, .ref 194, .int (nI i)] [] (zmh (zch h1 c2) t) Q) : zm_wp (d + 8) 0 456 [.ref 0, .ref 1, .ref 194, .int (nI i)] [] (zmh (zch h0 c) s) Q := by
  obtain ⟨hV, hMS, h0t, h0v, hnx, hsl⟩ := id h
  have hx7 : 207 ≤ h0.1 := hMS.1
  have hCS := hV.1
  have hMI := hV.2.2.1
  have hlk : ∀ g, g ≤ 40 → s 3 g = 3 → 1 ≤ s 6 g := hV.2.2.2.2.1.2.2.2.2.2.2.2.1
  have h100 := hV.2.2.2.2.1.2.2.2.2.2.1
  have h00h0 : 0 < h0.1 := by omega
  have h0th0 := h0t
  have h0vh0 := h0v
  have hVs : zIV (zmh h0 s) c s := zIV_in hV
  refine wx_aload_n kc0_456 rfl rfl ?_
  refine wx_aload_n kc0_457 rfl rfl ?_
  refine wx_iload_n kc0_458 rfl rfl ?_
  refine wx_iconst (nI 1) kc0_459 (by decide) ?_
  refine wn_iadd (i + 1) kc0_460 rfl ?_
  refine wl_read kc0_461 h0th0 h0vh0 h00h0 hL (by omega) ?_
  rw [← zch_mh]
  refine wc_call (zCS_m s hCS) kc0_462 rfl rfl rfl rfl rfl ?_
  refine fN_count hVs ?_
  rw [zch_mh]
  show zm_wp _ 0 465 [.ref 0, .ref 1, .ref 194, .int (nI i)] [.int (zmct s (xs (i + 1)))] (zmh (zch h0 c) s) _
  refine wx_aload_n kc0_465 rfl rfl ?_
  refine wx_aload_n kc0_466 rfl rfl ?_
  refine wx_iload_n kc0_467 rfl rfl ?_
  refine wx_iconst (nI 1) kc0_468 (by decide) ?_
  refine wn_iadd (i + 1) kc0_469 rfl ?_
  refine wl_read kc0_470 h0th0 h0vh0 h00h0 hL (by omega) ?_
  refine wx_virtual kc0_471 rfl (zmh_is (zMS_c _ hMS) 194 8 (by decide) (by decide) rfl) rfl ?_
  refine cM_count (zMS_c _ hMS) hMI ?_
  show zm_wp _ 0 474 [.ref 0, .ref 1, .ref 194, .int (nI i)] [.int (zmct s (xs (i + 1))), .int (zmct s (xs (i + 1)))] (zmh (zch h0 c) s) _
  refine wx_icmp_eq kc0_474 (fun _ => ?_) (fun z => absurd rfl z)
  exact hnext h0 c s (zLI_gr h (zGR_rf h0) hV)
