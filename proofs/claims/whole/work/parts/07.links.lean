theorem zt_m0 {w : Jvm.Cond} (i : Nat) (h : (k2_sels lw_privs)[i]? = some w) (g : goodWord w = true) : w ∈ zt_ws := List.mem_filter.mpr ⟨List.mem_append_left _ (List.mem_of_getElem? h), g⟩
theorem zt_m1 {w : Jvm.Cond} (i : Nat) (h : tables_1_1[i]? = some w) (g : goodWord w = true) : w ∈ zt_ws := List.mem_filter.mpr ⟨List.mem_append_right _ (List.mem_append_left _ (List.mem_of_getElem? h)), g⟩
theorem zt_m2 {w : Jvm.Cond} (i : Nat) (h : tables_1_2[i]? = some w) (g : goodWord w = true) : w ∈ zt_ws := List.mem_filter.mpr ⟨List.mem_append_right _ (List.mem_append_right _ (List.mem_append_left _ (List.mem_of_getElem? h))), g⟩
theorem zt_m3 {w : Jvm.Cond} (i : Nat) (h : tables_1_3[i]? = some w) (g : goodWord w = true) : w ∈ zt_ws := List.mem_filter.mpr ⟨List.mem_append_right _ (List.mem_append_right _ (List.mem_append_right _ (List.mem_of_getElem? h))), g⟩
theorem zu_0 : ∀ w ∈ u_ws ztC0 ztF0 2, w ∈ zt_ws := by
  intro w hw
  obtain ⟨k, hk, rfl⟩ := List.mem_map.mp hw
  have hk := List.mem_range.mp hk
  rcases (show k = 0 ∨ k = 1 by omega) with rfl | rfl
  · exact (zt_m1 101 rfl rfl)
  · exact (zt_m1 103 rfl rfl)
theorem zy_0 : ∀ k, k < 2 → parseFieldDescriptor (ztF0 k).2.2.1 = some (zt_ty 0 k) := by decide +kernel
theorem zn_0 : ∀ a, a < 2 → ∀ b, b < 2 → a ≠ b → (ztF0 a).2.1 ≠ (ztF0 b).2.1 := by decide +kernel
theorem zu_1 : ∀ w ∈ u_ws ztC1 ztF1 4, w ∈ zt_ws := by
  intro w hw
  obtain ⟨k, hk, rfl⟩ := List.mem_map.mp hw
  have hk := List.mem_range.mp hk
  rcases (show k = 0 ∨ k = 1 ∨ k = 2 ∨ k = 3 by omega) with rfl | rfl | rfl | rfl
  · exact (zt_m1 125 rfl rfl)
  · exact (zt_m1 127 rfl rfl)
  · exact (zt_m1 129 rfl rfl)
  · exact (zt_m1 131 rfl rfl)
theorem zy_1 : ∀ k, k < 4 → parseFieldDescriptor (ztF1 k).2.2.1 = some (zt_ty 1 k) := by decide +kernel
theorem zn_1 : ∀ a, a < 4 → ∀ b, b < 4 → a ≠ b → (ztF1 a).2.1 ≠ (ztF1 b).2.1 := by decide +kernel
theorem zu_2 : ∀ w ∈ u_ws ztC2 ztF2 2, w ∈ zt_ws := by
  intro w hw
  obtain ⟨k, hk, rfl⟩ := List.mem_map.mp hw
  have hk := List.mem_range.mp hk
  rcases (show k = 0 ∨ k = 1 by omega) with rfl | rfl
  · exact (zt_m1 137 rfl rfl)
  · exact (zt_m1 139 rfl rfl)
theorem zy_2 : ∀ k, k < 2 → parseFieldDescriptor (ztF2 k).2.2.1 = some (zt_ty 2 k) := by decide +kernel
theorem zn_2 : ∀ a, a < 2 → ∀ b, b < 2 → a ≠ b → (ztF2 a).2.1 ≠ (ztF2 b).2.1 := by decide +kernel
theorem zu_3 : ∀ w ∈ u_ws ztC3 ztF3 3, w ∈ zt_ws := by
  intro w hw
  obtain ⟨k, hk, rfl⟩ := List.mem_map.mp hw
  have hk := List.mem_range.mp hk
  rcases (show k = 0 ∨ k = 1 ∨ k = 2 by omega) with rfl | rfl | rfl
  · exact (zt_m1 161 rfl rfl)
  · exact (zt_m1 163 rfl rfl)
  · exact (zt_m1 165 rfl rfl)
theorem zy_3 : ∀ k, k < 3 → parseFieldDescriptor (ztF3 k).2.2.1 = some (zt_ty 3 k) := by decide +kernel
theorem zn_3 : ∀ a, a < 3 → ∀ b, b < 3 → a ≠ b → (ztF3 a).2.1 ≠ (ztF3 b).2.1 := by decide +kernel
theorem zu_4 : ∀ w ∈ u_ws ztC4 ztF4 2, w ∈ zt_ws := by
  intro w hw
  obtain ⟨k, hk, rfl⟩ := List.mem_map.mp hw
  have hk := List.mem_range.mp hk
  rcases (show k = 0 ∨ k = 1 by omega) with rfl | rfl
  · exact (zt_m1 30 rfl rfl)
  · exact (zt_m1 32 rfl rfl)
theorem zy_4 : ∀ k, k < 2 → parseFieldDescriptor (ztF4 k).2.2.1 = some (zt_ty 4 k) := by decide +kernel
theorem zn_4 : ∀ a, a < 2 → ∀ b, b < 2 → a ≠ b → (ztF4 a).2.1 ≠ (ztF4 b).2.1 := by decide +kernel
theorem zu_5 : ∀ w ∈ u_ws ztC5 ztF5 9, w ∈ zt_ws := by
  intro w hw
  obtain ⟨k, hk, rfl⟩ := List.mem_map.mp hw
  have hk := List.mem_range.mp hk
  rcases (show k = 0 ∨ k = 1 ∨ k = 2 ∨ k = 3 ∨ k = 4 ∨ k = 5 ∨ k = 6 ∨ k = 7 ∨ k = 8 by omega) with rfl | rfl | rfl | rfl | rfl | rfl | rfl | rfl | rfl
  · exact (zt_m1 75 rfl rfl)
  · exact (zt_m1 77 rfl rfl)
  · exact (zt_m1 79 rfl rfl)
  · exact (zt_m1 81 rfl rfl)
  · exact (zt_m1 83 rfl rfl)
  · exact (zt_m1 85 rfl rfl)
  · exact (zt_m1 87 rfl rfl)
  · exact (zt_m1 89 rfl rfl)
  · exact (zt_m1 91 rfl rfl)
theorem zy_5 : ∀ k, k < 9 → parseFieldDescriptor (ztF5 k).2.2.1 = some (zt_ty 5 k) := by decide +kernel
theorem zn_5 : ∀ a, a < 9 → ∀ b, b < 9 → a ≠ b → (ztF5 a).2.1 ≠ (ztF5 b).2.1 := by decide +kernel
theorem zu_6 : ∀ w ∈ u_ws ztC6 ztF6 11, w ∈ zt_ws := by
  intro w hw
  obtain ⟨k, hk, rfl⟩ := List.mem_map.mp hw
  have hk := List.mem_range.mp hk
  rcases (show k = 0 ∨ k = 1 ∨ k = 2 ∨ k = 3 ∨ k = 4 ∨ k = 5 ∨ k = 6 ∨ k = 7 ∨ k = 8 ∨ k = 9 ∨ k = 10 by omega) with rfl | rfl | rfl | rfl | rfl | rfl | rfl | rfl | rfl | rfl | rfl
  · exact (zt_m1 186 rfl rfl)
  · exact (zt_m1 188 rfl rfl)
  · exact (zt_m1 190 rfl rfl)
  · exact (zt_m1 192 rfl rfl)
  · exact (zt_m1 194 rfl rfl)
  · exact (zt_m1 196 rfl rfl)
  · exact (zt_m1 198 rfl rfl)
  · exact (zt_m1 200 rfl rfl)
  · exact (zt_m1 202 rfl rfl)
  · exact (zt_m1 204 rfl rfl)
  · exact (zt_m1 206 rfl rfl)
theorem zy_6 : ∀ k, k < 11 → parseFieldDescriptor (ztF6 k).2.2.1 = some (zt_ty 6 k) := by decide +kernel
theorem zn_6 : ∀ a, a < 11 → ∀ b, b < 11 → a ≠ b → (ztF6 a).2.1 ≠ (ztF6 b).2.1 := by decide +kernel
theorem zu_7 : ∀ w ∈ u_ws ztC7 ztF7 6, w ∈ zt_ws := by
  intro w hw
  obtain ⟨k, hk, rfl⟩ := List.mem_map.mp hw
  have hk := List.mem_range.mp hk
  rcases (show k = 0 ∨ k = 1 ∨ k = 2 ∨ k = 3 ∨ k = 4 ∨ k = 5 by omega) with rfl | rfl | rfl | rfl | rfl | rfl
  · exact (zt_m1 215 rfl rfl)
  · exact (zt_m1 217 rfl rfl)
  · exact (zt_m1 219 rfl rfl)
  · exact (zt_m1 221 rfl rfl)
  · exact (zt_m1 223 rfl rfl)
  · exact (zt_m1 225 rfl rfl)
theorem zy_7 : ∀ k, k < 6 → parseFieldDescriptor (ztF7 k).2.2.1 = some (zt_ty 7 k) := by decide +kernel
theorem zn_7 : ∀ a, a < 6 → ∀ b, b < 6 → a ≠ b → (ztF7 a).2.1 ≠ (ztF7 b).2.1 := by decide +kernel
theorem zu_8 : ∀ w ∈ u_ws ztC8 ztF8 22, w ∈ zt_ws := by
  intro w hw
  obtain ⟨k, hk, rfl⟩ := List.mem_map.mp hw
  have hk := List.mem_range.mp hk
  rcases (show k = 0 ∨ k = 1 ∨ k = 2 ∨ k = 3 ∨ k = 4 ∨ k = 5 ∨ k = 6 ∨ k = 7 ∨ k = 8 ∨ k = 9 ∨ k = 10 ∨ k = 11 ∨ k = 12 ∨ k = 13 ∨ k = 14 ∨ k = 15 ∨ k = 16 ∨ k = 17 ∨ k = 18 ∨ k = 19 ∨ k = 20 ∨ k = 21 by omega) with rfl | rfl | rfl | rfl | rfl | rfl | rfl | rfl | rfl | rfl | rfl | rfl | rfl | rfl | rfl | rfl | rfl | rfl | rfl | rfl | rfl | rfl
  · exact (zt_m3 42 rfl rfl)
  · exact (zt_m3 44 rfl rfl)
  · exact (zt_m3 46 rfl rfl)
  · exact (zt_m3 48 rfl rfl)
  · exact (zt_m3 50 rfl rfl)
  · exact (zt_m3 52 rfl rfl)
  · exact (zt_m3 54 rfl rfl)
  · exact (zt_m3 56 rfl rfl)
  · exact (zt_m3 58 rfl rfl)
  · exact (zt_m3 60 rfl rfl)
  · exact (zt_m3 62 rfl rfl)
  · exact (zt_m3 64 rfl rfl)
  · exact (zt_m3 66 rfl rfl)
  · exact (zt_m3 68 rfl rfl)
  · exact (zt_m3 70 rfl rfl)
  · exact (zt_m3 72 rfl rfl)
  · exact (zt_m3 74 rfl rfl)
  · exact (zt_m3 76 rfl rfl)
  · exact (zt_m3 78 rfl rfl)
  · exact (zt_m3 80 rfl rfl)
  · exact (zt_m3 82 rfl rfl)
  · exact (zt_m3 84 rfl rfl)
theorem zy_8 : ∀ k, k < 22 → parseFieldDescriptor (ztF8 k).2.2.1 = some (zt_ty 8 k) := by decide +kernel
theorem zn_8 : ∀ a, a < 22 → ∀ b, b < 22 → a ≠ b → (ztF8 a).2.1 ≠ (ztF8 b).2.1 := by decide +kernel
theorem zt_cls_ok : ∀ (x : Nat) (q : vw_C), zt_cl[x]? = some q → x < 100 ∧ (∀ w ∈ u_ws q.1 q.2.1 q.2.2, w ∈ zt_ws) ∧ (∀ k, k < q.2.2 → parseFieldDescriptor (q.2.1 k).2.2.1 = some (zt_ty x k)) ∧ (∀ a, a < q.2.2 → ∀ b, b < q.2.2 → a ≠ b → (q.2.1 a).2.1 ≠ (q.2.1 b).2.1) := by
  intro x q hq
  match x, hq with
  | 0, hq => cases hq; exact ⟨by decide, zu_0, zy_0, zn_0⟩
  | 1, hq => cases hq; exact ⟨by decide, zu_1, zy_1, zn_1⟩
  | 2, hq => cases hq; exact ⟨by decide, zu_2, zy_2, zn_2⟩
  | 3, hq => cases hq; exact ⟨by decide, zu_3, zy_3, zn_3⟩
  | 4, hq => cases hq; exact ⟨by decide, zu_4, zy_4, zn_4⟩
  | 5, hq => cases hq; exact ⟨by decide, zu_5, zy_5, zn_5⟩
  | 6, hq => cases hq; exact ⟨by decide, zu_6, zy_6, zn_6⟩
  | 7, hq => cases hq; exact ⟨by decide, zu_7, zy_7, zn_7⟩
  | 8, hq => cases hq; exact ⟨by decide, zu_8, zy_8, zn_8⟩
  | n + 9, hq => simp [zt_cl] at hq
theorem zt_at_101 : zt_at 101 = some .int := rfl
theorem zt_at_b : zt_at 100 = some .byte := rfl
theorem zt_at_in : ∀ (t : Nat) (ty : FieldType), zt_at t = some ty → t = 100 ∨ t = 101 ∨ t = 201 ∨ t = 203 ∨ t = 205 := by
  intro t ty h
  unfold zt_at at h
  split at h <;> first | omega | (cases h)
theorem zt_at_100 : ∀ (t : Nat) (ty : FieldType), zt_at t = some ty → 100 ≤ t := by
  intro t ty h
  have := zt_at_in t ty h
  omega
theorem zt_ro_ok : ∀ (t : Nat) (C : String), zt_at t = some (.object C) → ∃ q : vw_C, zt_cl[t - 200]? = some q ∧ q.1 = C := by
  intro t C h
  rcases zt_at_in t _ h with rfl | rfl | rfl | rfl | rfl
  · cases h
  · cases h
  · cases h; exact ⟨_, rfl, rfl⟩
  · cases h; exact ⟨_, rfl, rfl⟩
  · cases h; exact ⟨_, rfl, rfl⟩
theorem zk_new_NameTreeLaw_7 : zm_rnw "NameTreeLaw" 7 7 6 := ⟨_, rfl, rfl, (zt_m1 12 rfl rfl), (zt_m1 13 rfl rfl), (zt_m1 1 rfl rfl)⟩
theorem zd_45 : zm_cd0 45 0 := ⟨(zt_m1 16 rfl rfl), (zt_m1 1 rfl rfl), rfl, ⟨by decide, by decide⟩, by decide +kernel⟩
theorem zk_spec_NameTreeLaw_9 : zm_rsp "NameTreeLaw" 9 45 0 := ⟨by decide, zd_45, Or.inl (zt_m1 14 rfl rfl), (zt_m1 15 rfl rfl), rfl, rfl⟩
theorem zk_new_NameTreeLaw_10 : zm_rnw "NameTreeLaw" 10 8 22 := ⟨_, rfl, rfl, (zt_m3 12 rfl rfl), (zt_m3 13 rfl rfl), (zt_m1 9 rfl rfl)⟩
theorem zd_73 : zm_cd0 73 0 := ⟨(zt_m3 16 rfl rfl), (zt_m1 9 rfl rfl), rfl, ⟨by decide, by decide⟩, by decide +kernel⟩
theorem zk_spec_NameTreeLaw_12 : zm_rsp "NameTreeLaw" 12 73 0 := ⟨by decide, zd_73, Or.inl (zt_m3 14 rfl rfl), (zt_m3 15 rfl rfl), rfl, rfl⟩
theorem zk_ldc2_NameTreeLaw_13 : Jvm.Cond.constantLong "NameTreeLaw" 13 (Int64.ofInt 4294967295) ∈ zt_ws := (zt_m3 232 rfl rfl)
theorem zd_46 : zm_cd0 46 2 := ⟨(zt_m1 231 rfl rfl), (zt_m1 1 rfl rfl), rfl, ⟨by decide, by decide⟩, by decide +kernel⟩
theorem zk_virt_NameTreeLaw_15 : zm_rvi "NameTreeLaw" 15 46 2 := ⟨by decide, zd_46, Or.inl (zt_m1 228 rfl rfl), (zt_m1 229 rfl rfl), (zt_m1 230 rfl rfl), _, rfl, rfl⟩
theorem zd_74 : zm_cd0 74 2 := ⟨(zt_m3 91 rfl rfl), (zt_m1 9 rfl rfl), rfl, ⟨by decide, by decide⟩, by decide +kernel⟩
theorem zk_virt_NameTreeLaw_19 : zm_rvi "NameTreeLaw" 19 74 2 := ⟨by decide, zd_74, Or.inl (zt_m3 88 rfl rfl), (zt_m3 89 rfl rfl), (zt_m3 90 rfl rfl), _, rfl, rfl⟩
theorem zd_47 : zm_cd0 47 2 := ⟨(zt_m2 3 rfl rfl), (zt_m1 1 rfl rfl), rfl, ⟨by decide, by decide⟩, by decide +kernel⟩
theorem zk_virt_NameTreeLaw_20 : zm_rvi "NameTreeLaw" 20 47 2 := ⟨by decide, zd_47, Or.inl (zt_m2 0 rfl rfl), (zt_m2 1 rfl rfl), (zt_m2 2 rfl rfl), _, rfl, rfl⟩
theorem zd_75 : zm_cd0 75 2 := ⟨(zt_m3 96 rfl rfl), (zt_m1 9 rfl rfl), rfl, ⟨by decide, by decide⟩, by decide +kernel⟩
theorem zk_virt_NameTreeLaw_24 : zm_rvi "NameTreeLaw" 24 75 2 := ⟨by decide, zd_75, Or.inl (zt_m3 93 rfl rfl), (zt_m3 94 rfl rfl), (zt_m3 95 rfl rfl), _, rfl, rfl⟩
theorem zd_48 : zm_cd0 48 1 := ⟨(zt_m2 7 rfl rfl), (zt_m1 1 rfl rfl), rfl, ⟨by decide, by decide⟩, by decide +kernel⟩
theorem zk_virt_NameTreeLaw_25 : zm_rvi "NameTreeLaw" 25 48 1 := ⟨by decide, zd_48, Or.inl (zt_m2 4 rfl rfl), (zt_m2 5 rfl rfl), (zt_m2 6 rfl rfl), _, rfl, rfl⟩
theorem zd_93 : zm_cd0 93 1 := ⟨(zt_m3 100 rfl rfl), (zt_m1 9 rfl rfl), rfl, ⟨by decide, by decide⟩, by decide +kernel⟩
theorem zk_virt_NameTreeLaw_29 : zm_rvi "NameTreeLaw" 29 93 1 := ⟨by decide, zd_93, Or.inl (zt_m3 97 rfl rfl), (zt_m3 98 rfl rfl), (zt_m3 99 rfl rfl), _, rfl, rfl⟩
theorem zd_49 : zm_cd0 49 1 := ⟨(zt_m2 25 rfl rfl), (zt_m1 1 rfl rfl), rfl, ⟨by decide, by decide⟩, by decide +kernel⟩
theorem zk_virt_NameTreeLaw_30 : zm_rvi "NameTreeLaw" 30 49 1 := ⟨by decide, zd_49, Or.inl (zt_m2 22 rfl rfl), (zt_m2 23 rfl rfl), (zt_m2 24 rfl rfl), _, rfl, rfl⟩
theorem zd_95 : zm_cd0 95 1 := ⟨(zt_m3 115 rfl rfl), (zt_m1 9 rfl rfl), rfl, ⟨by decide, by decide⟩, by decide +kernel⟩
theorem zk_virt_NameTreeLaw_33 : zm_rvi "NameTreeLaw" 33 95 1 := ⟨by decide, zd_95, Or.inl (zt_m3 112 rfl rfl), (zt_m3 113 rfl rfl), (zt_m3 114 rfl rfl), _, rfl, rfl⟩
theorem zd_50 : zm_cd0 50 0 := ⟨(zt_m2 148 rfl rfl), (zt_m1 1 rfl rfl), rfl, ⟨by decide, by decide⟩, by decide +kernel⟩
theorem zk_virt_NameTreeLaw_34 : zm_rvi "NameTreeLaw" 34 50 0 := ⟨by decide, zd_50, Or.inl (zt_m2 145 rfl rfl), (zt_m2 146 rfl rfl), (zt_m2 147 rfl rfl), _, rfl, rfl⟩
theorem zd_96 : zm_cd0 96 0 := ⟨(zt_m3 167 rfl rfl), (zt_m1 9 rfl rfl), rfl, ⟨by decide, by decide⟩, by decide +kernel⟩
theorem zk_virt_NameTreeLaw_38 : zm_rvi "NameTreeLaw" 38 96 0 := ⟨by decide, zd_96, Or.inl (zt_m3 164 rfl rfl), (zt_m3 165 rfl rfl), (zt_m3 166 rfl rfl), _, rfl, rfl⟩
theorem zd_51 : zm_cd0 51 0 := ⟨(zt_m2 161 rfl rfl), (zt_m1 1 rfl rfl), rfl, ⟨by decide, by decide⟩, by decide +kernel⟩
theorem zk_virt_NameTreeLaw_39 : zm_rvi "NameTreeLaw" 39 51 0 := ⟨by decide, zd_51, Or.inl (zt_m2 158 rfl rfl), (zt_m2 159 rfl rfl), (zt_m2 160 rfl rfl), _, rfl, rfl⟩
theorem zd_97 : zm_cd0 97 0 := ⟨(zt_m3 171 rfl rfl), (zt_m1 9 rfl rfl), rfl, ⟨by decide, by decide⟩, by decide +kernel⟩
theorem zk_virt_NameTreeLaw_42 : zm_rvi "NameTreeLaw" 42 97 0 := ⟨by decide, zd_97, Or.inl (zt_m3 168 rfl rfl), (zt_m3 169 rfl rfl), (zt_m3 170 rfl rfl), _, rfl, rfl⟩
theorem zd_52 : zm_cd0 52 0 := ⟨(zt_m2 171 rfl rfl), (zt_m1 1 rfl rfl), rfl, ⟨by decide, by decide⟩, by decide +kernel⟩
theorem zk_virt_NameTreeLaw_43 : zm_rvi "NameTreeLaw" 43 52 0 := ⟨by decide, zd_52, Or.inl (zt_m2 168 rfl rfl), (zt_m2 169 rfl rfl), (zt_m2 170 rfl rfl), _, rfl, rfl⟩
theorem zd_98 : zm_cd0 98 0 := ⟨(zt_m3 175 rfl rfl), (zt_m1 9 rfl rfl), rfl, ⟨by decide, by decide⟩, by decide +kernel⟩
theorem zk_virt_NameTreeLaw_46 : zm_rvi "NameTreeLaw" 46 98 0 := ⟨by decide, zd_98, Or.inl (zt_m3 172 rfl rfl), (zt_m3 173 rfl rfl), (zt_m3 174 rfl rfl), _, rfl, rfl⟩
theorem zd_53 : zm_cd0 53 0 := ⟨(zt_m2 191 rfl rfl), (zt_m1 1 rfl rfl), rfl, ⟨by decide, by decide⟩, by decide +kernel⟩
theorem zk_virt_NameTreeLaw_47 : zm_rvi "NameTreeLaw" 47 53 0 := ⟨by decide, zd_53, Or.inl (zt_m2 188 rfl rfl), (zt_m2 189 rfl rfl), (zt_m2 190 rfl rfl), _, rfl, rfl⟩
theorem zd_99 : zm_cd0 99 0 := ⟨(zt_m3 187 rfl rfl), (zt_m1 9 rfl rfl), rfl, ⟨by decide, by decide⟩, by decide +kernel⟩
theorem zk_virt_NameTreeLaw_50 : zm_rvi "NameTreeLaw" 50 99 0 := ⟨by decide, zd_99, Or.inl (zt_m3 184 rfl rfl), (zt_m3 185 rfl rfl), (zt_m3 186 rfl rfl), _, rfl, rfl⟩
theorem zd_54 : zm_cd0 54 0 := ⟨(zt_m2 195 rfl rfl), (zt_m1 1 rfl rfl), rfl, ⟨by decide, by decide⟩, by decide +kernel⟩
theorem zk_virt_NameTreeLaw_51 : zm_rvi "NameTreeLaw" 51 54 0 := ⟨by decide, zd_54, Or.inl (zt_m2 192 rfl rfl), (zt_m2 193 rfl rfl), (zt_m2 194 rfl rfl), _, rfl, rfl⟩
theorem zd_101 : zm_cd0 101 0 := ⟨(zt_m3 191 rfl rfl), (zt_m1 9 rfl rfl), rfl, ⟨by decide, by decide⟩, by decide +kernel⟩
theorem zk_virt_NameTreeLaw_54 : zm_rvi "NameTreeLaw" 54 101 0 := ⟨by decide, zd_101, Or.inl (zt_m3 188 rfl rfl), (zt_m3 189 rfl rfl), (zt_m3 190 rfl rfl), _, rfl, rfl⟩
theorem zd_55 : zm_cd0 55 1 := ⟨(zt_m2 209 rfl rfl), (zt_m1 1 rfl rfl), rfl, ⟨by decide, by decide⟩, by decide +kernel⟩
theorem zk_virt_NameTreeLaw_55 : zm_rvi "NameTreeLaw" 55 55 1 := ⟨by decide, zd_55, Or.inl (zt_m2 206 rfl rfl), (zt_m2 207 rfl rfl), (zt_m2 208 rfl rfl), _, rfl, rfl⟩
theorem zd_102 : zm_cd0 102 1 := ⟨(zt_m3 199 rfl rfl), (zt_m1 9 rfl rfl), rfl, ⟨by decide, by decide⟩, by decide +kernel⟩
theorem zk_virt_NameTreeLaw_59 : zm_rvi "NameTreeLaw" 59 102 1 := ⟨by decide, zd_102, Or.inl (zt_m3 196 rfl rfl), (zt_m3 197 rfl rfl), (zt_m3 198 rfl rfl), _, rfl, rfl⟩
theorem zd_56 : zm_cd0 56 0 := ⟨(zt_m2 217 rfl rfl), (zt_m1 1 rfl rfl), rfl, ⟨by decide, by decide⟩, by decide +kernel⟩
theorem zk_virt_NameTreeLaw_60 : zm_rvi "NameTreeLaw" 60 56 0 := ⟨by decide, zd_56, Or.inl (zt_m2 214 rfl rfl), (zt_m2 215 rfl rfl), (zt_m2 216 rfl rfl), _, rfl, rfl⟩
theorem zd_103 : zm_cd0 103 0 := ⟨(zt_m3 203 rfl rfl), (zt_m1 9 rfl rfl), rfl, ⟨by decide, by decide⟩, by decide +kernel⟩
theorem zk_virt_NameTreeLaw_63 : zm_rvi "NameTreeLaw" 63 103 0 := ⟨by decide, zd_103, Or.inl (zt_m3 200 rfl rfl), (zt_m3 201 rfl rfl), (zt_m3 202 rfl rfl), _, rfl, rfl⟩
theorem zd_57 : zm_cd0 57 1 := ⟨(zt_m2 221 rfl rfl), (zt_m1 1 rfl rfl), rfl, ⟨by decide, by decide⟩, by decide +kernel⟩
theorem zk_virt_NameTreeLaw_64 : zm_rvi "NameTreeLaw" 64 57 1 := ⟨by decide, zd_57, Or.inl (zt_m2 218 rfl rfl), (zt_m2 219 rfl rfl), (zt_m2 220 rfl rfl), _, rfl, rfl⟩
theorem zd_105 : zm_cd0 105 1 := ⟨(zt_m3 207 rfl rfl), (zt_m1 9 rfl rfl), rfl, ⟨by decide, by decide⟩, by decide +kernel⟩
theorem zk_virt_NameTreeLaw_67 : zm_rvi "NameTreeLaw" 67 105 1 := ⟨by decide, zd_105, Or.inl (zt_m3 204 rfl rfl), (zt_m3 205 rfl rfl), (zt_m3 206 rfl rfl), _, rfl, rfl⟩
theorem zd_58 : zm_cd0 58 2 := ⟨(zt_m2 229 rfl rfl), (zt_m1 1 rfl rfl), rfl, ⟨by decide, by decide⟩, by decide +kernel⟩
theorem zk_virt_NameTreeLaw_68 : zm_rvi "NameTreeLaw" 68 58 2 := ⟨by decide, zd_58, Or.inl (zt_m2 226 rfl rfl), (zt_m2 227 rfl rfl), (zt_m2 228 rfl rfl), _, rfl, rfl⟩
theorem zd_107 : zm_cd0 107 2 := ⟨(zt_m3 215 rfl rfl), (zt_m1 9 rfl rfl), rfl, ⟨by decide, by decide⟩, by decide +kernel⟩
theorem zk_virt_NameTreeLaw_71 : zm_rvi "NameTreeLaw" 71 107 2 := ⟨by decide, zd_107, Or.inl (zt_m3 212 rfl rfl), (zt_m3 213 rfl rfl), (zt_m3 214 rfl rfl), _, rfl, rfl⟩
theorem zd_59 : zm_cd0 59 2 := ⟨(zt_m3 2 rfl rfl), (zt_m1 1 rfl rfl), rfl, ⟨by decide, by decide⟩, by decide +kernel⟩
theorem zk_virt_NameTreeLaw_72 : zm_rvi "NameTreeLaw" 72 59 2 := ⟨by decide, zd_59, Or.inl (zt_m2 239 rfl rfl), (zt_m3 0 rfl rfl), (zt_m3 1 rfl rfl), _, rfl, rfl⟩
theorem zd_108 : zm_cd0 108 2 := ⟨(zt_m3 223 rfl rfl), (zt_m1 9 rfl rfl), rfl, ⟨by decide, by decide⟩, by decide +kernel⟩
theorem zk_virt_NameTreeLaw_75 : zm_rvi "NameTreeLaw" 75 108 2 := ⟨by decide, zd_108, Or.inl (zt_m3 220 rfl rfl), (zt_m3 221 rfl rfl), (zt_m3 222 rfl rfl), _, rfl, rfl⟩
theorem zd_60 : zm_cd0 60 1 := ⟨(zt_m3 7 rfl rfl), (zt_m1 1 rfl rfl), rfl, ⟨by decide, by decide⟩, by decide +kernel⟩
theorem zk_virt_NameTreeLaw_76 : zm_rvi "NameTreeLaw" 76 60 1 := ⟨by decide, zd_60, Or.inl (zt_m3 4 rfl rfl), (zt_m3 5 rfl rfl), (zt_m3 6 rfl rfl), _, rfl, rfl⟩
theorem zd_109 : zm_cd0 109 1 := ⟨(zt_m3 227 rfl rfl), (zt_m1 9 rfl rfl), rfl, ⟨by decide, by decide⟩, by decide +kernel⟩
theorem zk_virt_NameTreeLaw_79 : zm_rvi "NameTreeLaw" 79 109 1 := ⟨by decide, zd_109, Or.inl (zt_m3 224 rfl rfl), (zt_m3 225 rfl rfl), (zt_m3 226 rfl rfl), _, rfl, rfl⟩
theorem zk_obj_NameTree_FileTable_3 : zm_robj "NameTree$FileTable" 3 := ⟨(zt_m1 41 rfl rfl), (zt_m1 18 rfl rfl), (zt_m1 19 rfl rfl)⟩
theorem zk_anew_NameTree_FileTable_9 : zm_ran "NameTree$FileTable" 9 205 := ⟨by decide, _, rfl, by decide, (zt_m1 42 rfl rfl)⟩
theorem zk_putF_NameTree_FileTable_11 : zm_rp "NameTree$FileTable" "<init>" 11 0 0 := ⟨_, rfl, by decide, (zt_m1 98 rfl rfl), Or.inr ⟨rfl, rfl, rfl⟩⟩
theorem zk_new_NameTree_FileTable_9 : zm_rnw "NameTree$FileTable" 9 5 9 := ⟨_, rfl, rfl, (zt_m1 42 rfl rfl), (zt_m1 44 rfl rfl), (zt_m1 4 rfl rfl)⟩
theorem zd_26 : zm_cd0 26 1 := ⟨(zt_m1 47 rfl rfl), (zt_m1 4 rfl rfl), rfl, ⟨by decide, by decide⟩, by decide +kernel⟩
theorem zk_spec_NameTree_FileTable_17 : zm_rsp "NameTree$FileTable" 17 26 1 := ⟨by decide, zd_26, Or.inl (zt_m1 45 rfl rfl), (zt_m1 46 rfl rfl), rfl, rfl⟩
theorem zk_putF_NameTree_FileTable_20 : zm_rp "NameTree$FileTable" "<init>" 20 0 1 := ⟨_, rfl, by decide, (zt_m1 99 rfl rfl), Or.inr ⟨rfl, rfl, rfl⟩⟩
theorem zk_get_NameTree_FileTable_20 : zm_rf "NameTree$FileTable" 20 0 1 := ⟨_, rfl, by decide, (zt_m1 99 rfl rfl)⟩
theorem zd_27 : zm_cd0 27 1 := ⟨(zt_m1 97 rfl rfl), (zt_m1 4 rfl rfl), rfl, ⟨by decide, by decide⟩, by decide +kernel⟩
theorem zk_virt_NameTree_FileTable_24 : zm_rvi "NameTree$FileTable" 24 27 1 := ⟨by decide, zd_27, Or.inl (zt_m1 94 rfl rfl), (zt_m1 95 rfl rfl), (zt_m1 96 rfl rfl), _, rfl, rfl⟩
theorem zk_put_NameTree_FileTable_27 : zm_rp "NameTree$FileTable" "" 27 5 6 := ⟨_, rfl, by decide, (zt_m1 66 rfl rfl), Or.inl rfl⟩
theorem zk_get_NameTree_FileTable_11 : zm_rf "NameTree$FileTable" 11 0 0 := ⟨_, rfl, by decide, (zt_m1 98 rfl rfl)⟩
theorem zk_get_NameTree_FileTable_30 : zm_rf "NameTree$FileTable" 30 5 1 := ⟨_, rfl, by decide, (zt_m1 52 rfl rfl)⟩
theorem zd_30 : zm_cd0 30 0 := ⟨(zt_m2 15 rfl rfl), (zt_m1 4 rfl rfl), rfl, ⟨by decide, by decide⟩, by decide +kernel⟩
theorem zk_virt_NameTree_FileTable_34 : zm_rvi "NameTree$FileTable" 34 30 0 := ⟨by decide, zd_30, Or.inl (zt_m2 12 rfl rfl), (zt_m2 13 rfl rfl), (zt_m2 14 rfl rfl), _, rfl, rfl⟩
theorem zk_get_NameTree_FileTable_27 : zm_rf "NameTree$FileTable" 27 5 6 := ⟨_, rfl, by decide, (zt_m1 66 rfl rfl)⟩
theorem zk_obj_NameTree_NameRow_3 : zm_robj "NameTree$NameRow" 3 := ⟨(zt_m1 118 rfl rfl), (zt_m1 18 rfl rfl), (zt_m1 19 rfl rfl)⟩
theorem zk_get_NameTree_NameRow_9 : zm_rf "NameTree$NameRow" 9 1 2 := ⟨_, rfl, by decide, (zt_m1 123 rfl rfl)⟩
theorem zk_put_NameTree_NameRow_9 : zm_rp "NameTree$NameRow" "" 9 1 2 := ⟨_, rfl, by decide, (zt_m1 123 rfl rfl), Or.inl rfl⟩
theorem zd_72 : zm_cd0 72 4 := ⟨(zt_m2 137 rfl rfl), (zt_m1 1 rfl rfl), rfl, ⟨by decide, by decide⟩, by decide +kernel⟩
theorem zk_stat_NameTree_NameRow_15 : zm_rst "NameTree$NameRow" 15 72 4 := ⟨by decide, zd_72, Or.inr ⟨_, List.mem_of_getElem? (i := 0) rfl⟩, (zt_m2 136 rfl rfl)⟩
theorem zk_put_NameTree_NameRow_19 : zm_rp "NameTree$NameRow" "" 19 1 3 := ⟨_, rfl, by decide, (zt_m1 124 rfl rfl), Or.inl rfl⟩
theorem zk_get_NameTree_NameRow_19 : zm_rf "NameTree$NameRow" 19 1 3 := ⟨_, rfl, by decide, (zt_m1 124 rfl rfl)⟩
theorem zk_obj_NameTree_NameTable_3 : zm_robj "NameTree$NameTable" 3 := ⟨(zt_m1 111 rfl rfl), (zt_m1 18 rfl rfl), (zt_m1 19 rfl rfl)⟩
theorem zk_anew_NameTree_NameTable_9 : zm_ran "NameTree$NameTable" 9 201 := ⟨by decide, _, rfl, by decide, (zt_m1 112 rfl rfl)⟩
theorem zk_putF_NameTree_NameTable_11 : zm_rp "NameTree$NameTable" "<init>" 11 2 0 := ⟨_, rfl, by decide, (zt_m1 134 rfl rfl), Or.inr ⟨rfl, rfl, rfl⟩⟩
theorem zk_get_NameTree_NameTable_11 : zm_rf "NameTree$NameTable" 11 2 0 := ⟨_, rfl, by decide, (zt_m1 134 rfl rfl)⟩
theorem zk_new_NameTree_NameTable_9 : zm_rnw "NameTree$NameTable" 9 1 4 := ⟨_, rfl, rfl, (zt_m1 112 rfl rfl), (zt_m1 114 rfl rfl), (zt_m1 6 rfl rfl)⟩
theorem zd_7 : zm_cd0 7 0 := ⟨(zt_m1 117 rfl rfl), (zt_m1 6 rfl rfl), rfl, ⟨by decide, by decide⟩, by decide +kernel⟩
theorem zk_spec_NameTree_NameTable_17 : zm_rsp "NameTree$NameTable" 17 7 0 := ⟨by decide, zd_7, Or.inr ⟨_, List.mem_of_getElem? (i := 1) rfl⟩, (zt_m1 116 rfl rfl), rfl, rfl⟩
theorem zk_get_NameTree_NameTable_18 : zm_rf "NameTree$NameTable" 18 2 1 := ⟨_, rfl, by decide, (zt_m1 135 rfl rfl)⟩
theorem zk_get_NameTree_NameTable_22 : zm_rf "NameTree$NameTable" 22 1 0 := ⟨_, rfl, by decide, (zt_m1 119 rfl rfl)⟩
theorem zd_9 : zm_cd0 9 3 := ⟨(zt_m2 98 rfl rfl), (zt_m1 6 rfl rfl), rfl, ⟨by decide, by decide⟩, by decide +kernel⟩
theorem zk_virt_NameTree_NameTable_26 : zm_rvi "NameTree$NameTable" 26 9 3 := ⟨by decide, zd_9, Or.inl (zt_m2 95 rfl rfl), (zt_m2 96 rfl rfl), (zt_m2 97 rfl rfl), _, rfl, rfl⟩
theorem zk_get_NameTree_NameTable_30 : zm_rf "NameTree$NameTable" 30 6 8 := ⟨_, rfl, by decide, (zt_m1 179 rfl rfl)⟩
theorem zk_put_NameTree_NameTable_18 : zm_rp "NameTree$NameTable" "" 18 2 1 := ⟨_, rfl, by decide, (zt_m1 135 rfl rfl), Or.inl rfl⟩
theorem zk_get_NameTree_NameTable_33 : zm_rf "NameTree$NameTable" 33 6 5 := ⟨_, rfl, by decide, (zt_m1 173 rfl rfl)⟩
theorem zk_get_NameTree_NameTable_37 : zm_rf "NameTree$NameTable" 37 6 6 := ⟨_, rfl, by decide, (zt_m1 175 rfl rfl)⟩
theorem zk_get_NameTree_NameTable_40 : zm_rf "NameTree$NameTable" 40 6 7 := ⟨_, rfl, by decide, (zt_m1 178 rfl rfl)⟩
theorem zd_8 : zm_cd0 8 3 := ⟨(zt_m2 134 rfl rfl), (zt_m1 6 rfl rfl), rfl, ⟨by decide, by decide⟩, by decide +kernel⟩
theorem zk_virt_NameTree_NameTable_43 : zm_rvi "NameTree$NameTable" 43 8 3 := ⟨by decide, zd_8, Or.inl (zt_m2 131 rfl rfl), (zt_m2 132 rfl rfl), (zt_m2 133 rfl rfl), _, rfl, rfl⟩
theorem zk_put_NameTree_NameTable_22 : zm_rp "NameTree$NameTable" "" 22 1 0 := ⟨_, rfl, by decide, (zt_m1 119 rfl rfl), Or.inl rfl⟩
theorem zk_put_NameTree_NameTable_47 : zm_rp "NameTree$NameTable" "" 47 1 1 := ⟨_, rfl, by decide, (zt_m1 120 rfl rfl), Or.inl rfl⟩
theorem zk_get_NameTree_NameTable_50 : zm_rf "NameTree$NameTable" 50 5 4 := ⟨_, rfl, by decide, (zt_m1 62 rfl rfl)⟩
theorem zk_put_NameTree_NameTable_50 : zm_rp "NameTree$NameTable" "" 50 5 4 := ⟨_, rfl, by decide, (zt_m1 62 rfl rfl), Or.inl rfl⟩
theorem zk_get_NameTree_NameTable_55 : zm_rf "NameTree$NameTable" 55 5 5 := ⟨_, rfl, by decide, (zt_m1 65 rfl rfl)⟩
theorem zk_max_NameTree_NameTable_58 : zm_rmax "NameTree$NameTable" 58 := ⟨(zt_m2 144 rfl rfl), (zt_m2 124 rfl rfl), (zt_m1 10 rfl rfl), (zt_m2 125 rfl rfl)⟩
theorem zk_put_NameTree_NameTable_55 : zm_rp "NameTree$NameTable" "" 55 5 5 := ⟨_, rfl, by decide, (zt_m1 65 rfl rfl), Or.inl rfl⟩
theorem zk_get_NameTree_NameTable_64 : zm_rf "NameTree$NameTable" 64 5 2 := ⟨_, rfl, by decide, (zt_m1 57 rfl rfl)⟩
theorem zk_put_NameTree_NameTable_64 : zm_rp "NameTree$NameTable" "" 64 5 2 := ⟨_, rfl, by decide, (zt_m1 57 rfl rfl), Or.inl rfl⟩
theorem zk_get_NameTree_NameTable_67 : zm_rf "NameTree$NameTable" 67 5 1 := ⟨_, rfl, by decide, (zt_m1 53 rfl rfl)⟩
theorem zk_put_NameTree_NameTable_70 : zm_rp "NameTree$NameTable" "" 70 5 6 := ⟨_, rfl, by decide, (zt_m1 68 rfl rfl), Or.inl rfl⟩
theorem zd_14 : zm_cd0 14 1 := ⟨(zt_m2 182 rfl rfl), (zt_m1 5 rfl rfl), rfl, ⟨by decide, by decide⟩, by decide +kernel⟩
theorem zk_stat_NameTree_NameTable_73 : zm_rst "NameTree$NameTable" 73 14 1 := ⟨by decide, zd_14, Or.inl (zt_m2 180 rfl rfl), (zt_m2 181 rfl rfl)⟩
theorem zk_get_NameTree_NameTable_47 : zm_rf "NameTree$NameTable" 47 1 1 := ⟨_, rfl, by decide, (zt_m1 120 rfl rfl)⟩
theorem zk_obj_NameTree_Span_3 : zm_robj "NameTree$Span" 3 := ⟨(zt_m1 154 rfl rfl), (zt_m1 18 rfl rfl), (zt_m1 19 rfl rfl)⟩
theorem zk_get_NameTree_Span_9 : zm_rf "NameTree$Span" 9 3 1 := ⟨_, rfl, by decide, (zt_m1 157 rfl rfl)⟩
theorem zk_get_NameTree_Span_15 : zm_rf "NameTree$Span" 15 3 2 := ⟨_, rfl, by decide, (zt_m1 159 rfl rfl)⟩
theorem zd_18 : zm_cd0 18 2 := ⟨(zt_m2 74 rfl rfl), (zt_m1 8 rfl rfl), rfl, ⟨by decide, by decide⟩, by decide +kernel⟩
theorem zk_virt_NameTree_Span_18 : zm_rvi "NameTree$Span" 18 18 2 := ⟨by decide, zd_18, Or.inl (zt_m2 71 rfl rfl), (zt_m2 73 rfl rfl), (zt_m0 6 rfl rfl), _, rfl, rfl⟩
theorem zk_put_NameTree_Span_9 : zm_rp "NameTree$Span" "" 9 3 1 := ⟨_, rfl, by decide, (zt_m1 157 rfl rfl), Or.inl rfl⟩
theorem zk_get_NameTree_Span_22 : zm_rf "NameTree$Span" 22 3 0 := ⟨_, rfl, by decide, (zt_m1 155 rfl rfl)⟩
theorem zk_obj_NameTree_Tape_3 : zm_robj "NameTree$Tape" 3 := ⟨(zt_m1 25 rfl rfl), (zt_m1 18 rfl rfl), (zt_m1 19 rfl rfl)⟩
theorem zk_putF_NameTree_Tape_9 : zm_rp "NameTree$Tape" "<init>" 9 4 0 := ⟨_, rfl, by decide, (zt_m1 26 rfl rfl), Or.inr ⟨rfl, rfl, rfl⟩⟩
theorem zk_get_NameTree_Tape_15 : zm_rf "NameTree$Tape" 15 4 1 := ⟨_, rfl, by decide, (zt_m1 28 rfl rfl)⟩
theorem zk_get_NameTree_Tape_9 : zm_rf "NameTree$Tape" 9 4 0 := ⟨_, rfl, by decide, (zt_m1 26 rfl rfl)⟩
theorem zk_put_NameTree_Tape_15 : zm_rp "NameTree$Tape" "" 15 4 1 := ⟨_, rfl, by decide, (zt_m1 28 rfl rfl), Or.inl rfl⟩
theorem zd_25 : zm_cd0 25 2 := ⟨(zt_m2 41 rfl rfl), (zt_m1 2 rfl rfl), rfl, ⟨by decide, by decide⟩, by decide +kernel⟩
theorem zk_virt_NameTree_Tape_19 : zm_rvi "NameTree$Tape" 19 25 2 := ⟨by decide, zd_25, Or.inl (zt_m2 38 rfl rfl), (zt_m2 40 rfl rfl), (zt_m0 1 rfl rfl), _, rfl, rfl⟩
theorem zk_obj_NameTree_TreeFile_3 : zm_robj "NameTree$TreeFile" 3 := ⟨(zt_m1 48 rfl rfl), (zt_m1 18 rfl rfl), (zt_m1 19 rfl rfl)⟩
theorem zk_putF_NameTree_TreeFile_9 : zm_rp "NameTree$TreeFile" "<init>" 9 5 0 := ⟨_, rfl, by decide, (zt_m1 49 rfl rfl), Or.inr ⟨rfl, rfl, rfl⟩⟩
theorem zk_put_NameTree_TreeFile_15 : zm_rp "NameTree$TreeFile" "" 15 5 1 := ⟨_, rfl, by decide, (zt_m1 51 rfl rfl), Or.inl rfl⟩
theorem zk_put_NameTree_TreeFile_18 : zm_rp "NameTree$TreeFile" "" 18 5 2 := ⟨_, rfl, by decide, (zt_m1 56 rfl rfl), Or.inl rfl⟩
theorem zk_put_NameTree_TreeFile_21 : zm_rp "NameTree$TreeFile" "" 21 5 3 := ⟨_, rfl, by decide, (zt_m1 59 rfl rfl), Or.inl rfl⟩
theorem zk_put_NameTree_TreeFile_24 : zm_rp "NameTree$TreeFile" "" 24 5 4 := ⟨_, rfl, by decide, (zt_m1 61 rfl rfl), Or.inl rfl⟩
theorem zk_put_NameTree_TreeFile_27 : zm_rp "NameTree$TreeFile" "" 27 5 5 := ⟨_, rfl, by decide, (zt_m1 64 rfl rfl), Or.inl rfl⟩
theorem zk_put_NameTree_TreeFile_30 : zm_rp "NameTree$TreeFile" "" 30 5 6 := ⟨_, rfl, by decide, (zt_m1 67 rfl rfl), Or.inl rfl⟩
theorem zk_put_NameTree_TreeFile_34 : zm_rp "NameTree$TreeFile" "" 34 5 8 := ⟨_, rfl, by decide, (zt_m1 73 rfl rfl), Or.inl rfl⟩
theorem zk_get_NameTree_TreeFile_37 : zm_rf "NameTree$TreeFile" 37 5 7 := ⟨_, rfl, by decide, (zt_m1 71 rfl rfl)⟩
theorem zk_put_NameTree_TreeFile_37 : zm_rp "NameTree$TreeFile" "" 37 5 7 := ⟨_, rfl, by decide, (zt_m1 71 rfl rfl), Or.inl rfl⟩
theorem zk_stat_NameTree_TreeFile_41 : zm_rst "NameTree$TreeFile" 41 72 4 := ⟨by decide, zd_72, Or.inr ⟨_, List.mem_of_getElem? (i := 2) rfl⟩, (zt_m2 136 rfl rfl)⟩
theorem zk_get_NameTree_TreeFile_15 : zm_rf "NameTree$TreeFile" 15 5 1 := ⟨_, rfl, by decide, (zt_m1 51 rfl rfl)⟩
theorem zk_get_NameTree_TreeFile_34 : zm_rf "NameTree$TreeFile" 34 5 8 := ⟨_, rfl, by decide, (zt_m1 73 rfl rfl)⟩
theorem zk_get_NameTree_TreeFile_27 : zm_rf "NameTree$TreeFile" 27 5 5 := ⟨_, rfl, by decide, (zt_m1 64 rfl rfl)⟩
theorem zd_71 : zm_cd0 71 1 := ⟨(zt_m2 18 rfl rfl), (zt_m1 1 rfl rfl), rfl, ⟨by decide, by decide⟩, by decide +kernel⟩
theorem zk_stat_NameTree_TreeFile_45 : zm_rst "NameTree$TreeFile" 45 71 1 := ⟨by decide, zd_71, Or.inr ⟨_, List.mem_of_getElem? (i := 3) rfl⟩, (zt_m2 17 rfl rfl)⟩
theorem zd_70 : zm_cd0 70 1 := ⟨(zt_m2 21 rfl rfl), (zt_m1 1 rfl rfl), rfl, ⟨by decide, by decide⟩, by decide +kernel⟩
theorem zk_stat_NameTree_TreeFile_49 : zm_rst "NameTree$TreeFile" 49 70 1 := ⟨by decide, zd_70, Or.inr ⟨_, List.mem_of_getElem? (i := 4) rfl⟩, (zt_m2 20 rfl rfl)⟩
theorem zk_get_NameTree_TreeFile_24 : zm_rf "NameTree$TreeFile" 24 5 4 := ⟨_, rfl, by decide, (zt_m1 61 rfl rfl)⟩
theorem zk_max_NameTree_TreeFile_52 : zm_rmax "NameTree$TreeFile" 52 := ⟨(zt_m2 123 rfl rfl), (zt_m2 124 rfl rfl), (zt_m1 10 rfl rfl), (zt_m2 125 rfl rfl)⟩
theorem zk_get_NameTree_TreeFile_21 : zm_rf "NameTree$TreeFile" 21 5 3 := ⟨_, rfl, by decide, (zt_m1 59 rfl rfl)⟩
theorem zk_get_NameTree_TreeFile_18 : zm_rf "NameTree$TreeFile" 18 5 2 := ⟨_, rfl, by decide, (zt_m1 56 rfl rfl)⟩
theorem zk_virt_NameTree_TreeFile_58 : zm_rvi "NameTree$TreeFile" 58 27 1 := ⟨by decide, zd_27, Or.inl (zt_m2 187 rfl rfl), (zt_m1 95 rfl rfl), (zt_m1 96 rfl rfl), _, rfl, rfl⟩
theorem zk_obj_NameTree_Walk_3 : zm_robj "NameTree$Walk" 3 := ⟨(zt_m1 147 rfl rfl), (zt_m1 18 rfl rfl), (zt_m1 19 rfl rfl)⟩
theorem zk_anew_NameTree_Walk_9 : zm_ran "NameTree$Walk" 9 203 := ⟨by decide, _, rfl, by decide, (zt_m1 148 rfl rfl)⟩
theorem zk_putF_NameTree_Walk_11 : zm_rp "NameTree$Walk" "<init>" 11 6 2 := ⟨_, rfl, by decide, (zt_m1 170 rfl rfl), Or.inr ⟨rfl, rfl, rfl⟩⟩
theorem zk_putF_NameTree_Walk_17 : zm_rp "NameTree$Walk" "<init>" 17 6 0 := ⟨_, rfl, by decide, (zt_m1 168 rfl rfl), Or.inr ⟨rfl, rfl, rfl⟩⟩
theorem zk_putF_NameTree_Walk_21 : zm_rp "NameTree$Walk" "<init>" 21 6 1 := ⟨_, rfl, by decide, (zt_m1 169 rfl rfl), Or.inr ⟨rfl, rfl, rfl⟩⟩
theorem zk_get_NameTree_Walk_11 : zm_rf "NameTree$Walk" 11 6 2 := ⟨_, rfl, by decide, (zt_m1 170 rfl rfl)⟩
theorem zk_new_NameTree_Walk_9 : zm_rnw "NameTree$Walk" 9 3 3 := ⟨_, rfl, rfl, (zt_m1 148 rfl rfl), (zt_m1 150 rfl rfl), (zt_m1 8 rfl rfl)⟩
theorem zd_15 : zm_cd0 15 0 := ⟨(zt_m1 153 rfl rfl), (zt_m1 8 rfl rfl), rfl, ⟨by decide, by decide⟩, by decide +kernel⟩
theorem zk_spec_NameTree_Walk_25 : zm_rsp "NameTree$Walk" 25 15 0 := ⟨by decide, zd_15, Or.inr ⟨_, List.mem_of_getElem? (i := 5) rfl⟩, (zt_m1 152 rfl rfl), rfl, rfl⟩
theorem zd_36 : zm_cd0 36 4 := ⟨(zt_m2 49 rfl rfl), (zt_m1 7 rfl rfl), rfl, ⟨by decide, by decide⟩, by decide +kernel⟩
theorem zk_virt_NameTree_Walk_26 : zm_rvi "NameTree$Walk" 26 36 4 := ⟨by decide, zd_36, Or.inl (zt_m2 46 rfl rfl), (zt_m2 47 rfl rfl), (zt_m2 48 rfl rfl), _, rfl, rfl⟩
theorem zk_get_NameTree_Walk_30 : zm_rf "NameTree$Walk" 30 6 7 := ⟨_, rfl, by decide, (zt_m1 177 rfl rfl)⟩
theorem zd_44 : zm_cd0 44 0 := ⟨(zt_m2 90 rfl rfl), (zt_m1 7 rfl rfl), rfl, ⟨by decide, by decide⟩, by decide +kernel⟩
theorem zk_virt_NameTree_Walk_34 : zm_rvi "NameTree$Walk" 34 44 0 := ⟨by decide, zd_44, Or.inl (zt_m2 87 rfl rfl), (zt_m2 89 rfl rfl), (zt_m0 9 rfl rfl), _, rfl, rfl⟩
theorem zd_37 : zm_cd0 37 0 := ⟨(zt_m2 53 rfl rfl), (zt_m1 7 rfl rfl), rfl, ⟨by decide, by decide⟩, by decide +kernel⟩
theorem zk_virt_NameTree_Walk_38 : zm_rvi "NameTree$Walk" 38 37 0 := ⟨by decide, zd_37, Or.inl (zt_m2 50 rfl rfl), (zt_m2 52 rfl rfl), (zt_m0 2 rfl rfl), _, rfl, rfl⟩
theorem zd_38 : zm_cd0 38 3 := ⟨(zt_m2 57 rfl rfl), (zt_m1 7 rfl rfl), rfl, ⟨by decide, by decide⟩, by decide +kernel⟩
theorem zk_virt_NameTree_Walk_41 : zm_rvi "NameTree$Walk" 41 38 3 := ⟨by decide, zd_38, Or.inl (zt_m2 54 rfl rfl), (zt_m2 56 rfl rfl), (zt_m0 3 rfl rfl), _, rfl, rfl⟩
theorem zk_ldc_NameTree_Walk_45 : Jvm.Cond.constant "NameTree$Walk" 45 (Int32.ofInt 1000000) ∈ zt_ws := (zt_m2 58 rfl rfl)
theorem zd_39 : zm_cd0 39 0 := ⟨(zt_m2 62 rfl rfl), (zt_m1 7 rfl rfl), rfl, ⟨by decide, by decide⟩, by decide +kernel⟩
theorem zk_virt_NameTree_Walk_46 : zm_rvi "NameTree$Walk" 46 39 0 := ⟨by decide, zd_39, Or.inl (zt_m2 59 rfl rfl), (zt_m2 61 rfl rfl), (zt_m0 4 rfl rfl), _, rfl, rfl⟩
theorem zd_41 : zm_cd0 41 0 := ⟨(zt_m2 78 rfl rfl), (zt_m1 7 rfl rfl), rfl, ⟨by decide, by decide⟩, by decide +kernel⟩
theorem zk_virt_NameTree_Walk_49 : zm_rvi "NameTree$Walk" 49 41 0 := ⟨by decide, zd_41, Or.inl (zt_m2 75 rfl rfl), (zt_m2 77 rfl rfl), (zt_m0 7 rfl rfl), _, rfl, rfl⟩
theorem zd_42 : zm_cd0 42 2 := ⟨(zt_m2 86 rfl rfl), (zt_m1 7 rfl rfl), rfl, ⟨by decide, by decide⟩, by decide +kernel⟩
theorem zk_virt_NameTree_Walk_52 : zm_rvi "NameTree$Walk" 52 42 2 := ⟨by decide, zd_42, Or.inl (zt_m2 83 rfl rfl), (zt_m2 85 rfl rfl), (zt_m0 8 rfl rfl), _, rfl, rfl⟩
theorem zk_put_NameTree_Walk_56 : zm_rp "NameTree$Walk" "" 56 6 3 := ⟨_, rfl, by decide, (zt_m1 171 rfl rfl), Or.inl rfl⟩
theorem zk_put_NameTree_Walk_59 : zm_rp "NameTree$Walk" "" 59 6 4 := ⟨_, rfl, by decide, (zt_m1 172 rfl rfl), Or.inl rfl⟩
theorem zk_put_NameTree_Walk_62 : zm_rp "NameTree$Walk" "" 62 6 5 := ⟨_, rfl, by decide, (zt_m1 174 rfl rfl), Or.inl rfl⟩
theorem zk_put_NameTree_Walk_66 : zm_rp "NameTree$Walk" "" 66 6 6 := ⟨_, rfl, by decide, (zt_m1 176 rfl rfl), Or.inl rfl⟩
theorem zk_put_NameTree_Walk_30 : zm_rp "NameTree$Walk" "" 30 6 7 := ⟨_, rfl, by decide, (zt_m1 177 rfl rfl), Or.inl rfl⟩
theorem zk_get_NameTree_Walk_17 : zm_rf "NameTree$Walk" 17 6 0 := ⟨_, rfl, by decide, (zt_m1 168 rfl rfl)⟩
theorem zk_put_NameTree_Walk_69 : zm_rp "NameTree$Walk" "" 69 6 8 := ⟨_, rfl, by decide, (zt_m1 180 rfl rfl), Or.inl rfl⟩
theorem zk_put_NameTree_Walk_72 : zm_rp "NameTree$Walk" "" 72 6 9 := ⟨_, rfl, by decide, (zt_m1 182 rfl rfl), Or.inl rfl⟩
theorem zk_put_NameTree_Walk_76 : zm_rp "NameTree$Walk" "" 76 6 10 := ⟨_, rfl, by decide, (zt_m1 184 rfl rfl), Or.inl rfl⟩
theorem zk_get_NameTree_Walk_56 : zm_rf "NameTree$Walk" 56 6 3 := ⟨_, rfl, by decide, (zt_m1 171 rfl rfl)⟩
theorem zk_put_NameTree_Walk_79 : zm_rp "NameTree$Walk" "" 79 3 0 := ⟨_, rfl, by decide, (zt_m1 156 rfl rfl), Or.inl rfl⟩
theorem zk_put_NameTree_Walk_82 : zm_rp "NameTree$Walk" "" 82 3 1 := ⟨_, rfl, by decide, (zt_m1 158 rfl rfl), Or.inl rfl⟩
theorem zk_put_NameTree_Walk_85 : zm_rp "NameTree$Walk" "" 85 3 2 := ⟨_, rfl, by decide, (zt_m1 160 rfl rfl), Or.inl rfl⟩
theorem zd_40 : zm_cd0 40 0 := ⟨(zt_m2 66 rfl rfl), (zt_m1 7 rfl rfl), rfl, ⟨by decide, by decide⟩, by decide +kernel⟩
theorem zk_virt_NameTree_Walk_88 : zm_rvi "NameTree$Walk" 88 40 0 := ⟨by decide, zd_40, Or.inl (zt_m2 63 rfl rfl), (zt_m2 65 rfl rfl), (zt_m0 5 rfl rfl), _, rfl, rfl⟩
theorem zd_16 : zm_cd0 16 0 := ⟨(zt_m2 70 rfl rfl), (zt_m1 8 rfl rfl), rfl, ⟨by decide, by decide⟩, by decide +kernel⟩
theorem zk_virt_NameTree_Walk_92 : zm_rvi "NameTree$Walk" 92 16 0 := ⟨by decide, zd_16, Or.inl (zt_m2 67 rfl rfl), (zt_m2 68 rfl rfl), (zt_m2 69 rfl rfl), _, rfl, rfl⟩
theorem zk_get_NameTree_Walk_79 : zm_rf "NameTree$Walk" 79 3 0 := ⟨_, rfl, by decide, (zt_m1 156 rfl rfl)⟩
theorem zk_get_NameTree_Walk_82 : zm_rf "NameTree$Walk" 82 3 1 := ⟨_, rfl, by decide, (zt_m1 158 rfl rfl)⟩
theorem zd_17 : zm_cd0 17 0 := ⟨(zt_m2 82 rfl rfl), (zt_m1 8 rfl rfl), rfl, ⟨by decide, by decide⟩, by decide +kernel⟩
theorem zk_virt_NameTree_Walk_95 : zm_rvi "NameTree$Walk" 95 17 0 := ⟨by decide, zd_17, Or.inl (zt_m2 79 rfl rfl), (zt_m2 80 rfl rfl), (zt_m2 81 rfl rfl), _, rfl, rfl⟩
theorem zk_get_NameTree_Walk_66 : zm_rf "NameTree$Walk" 66 6 6 := ⟨_, rfl, by decide, (zt_m1 176 rfl rfl)⟩
theorem zk_get_NameTree_Walk_76 : zm_rf "NameTree$Walk" 76 6 10 := ⟨_, rfl, by decide, (zt_m1 184 rfl rfl)⟩
theorem zk_get_NameTree_Walk_99 : zm_rf "NameTree$Walk" 99 5 1 := ⟨_, rfl, by decide, (zt_m1 55 rfl rfl)⟩
theorem zk_get_NameTree_Walk_69 : zm_rf "NameTree$Walk" 69 6 8 := ⟨_, rfl, by decide, (zt_m1 180 rfl rfl)⟩
theorem zk_get_NameTree_Walk_104 : zm_rf "NameTree$Walk" 104 5 6 := ⟨_, rfl, by decide, (zt_m1 69 rfl rfl)⟩
theorem zk_get_NameTree_Walk_21 : zm_rf "NameTree$Walk" 21 6 1 := ⟨_, rfl, by decide, (zt_m1 169 rfl rfl)⟩
theorem zk_get_NameTree_Walk_62 : zm_rf "NameTree$Walk" 62 6 5 := ⟨_, rfl, by decide, (zt_m1 174 rfl rfl)⟩
theorem zd_11 : zm_cd0 11 4 := ⟨(zt_m2 94 rfl rfl), (zt_m1 5 rfl rfl), rfl, ⟨by decide, by decide⟩, by decide +kernel⟩
theorem zk_virt_NameTree_Walk_107 : zm_rvi "NameTree$Walk" 107 11 4 := ⟨by decide, zd_11, Or.inl (zt_m2 91 rfl rfl), (zt_m2 92 rfl rfl), (zt_m2 93 rfl rfl), _, rfl, rfl⟩
theorem zk_get_NameTree_Walk_72 : zm_rf "NameTree$Walk" 72 6 9 := ⟨_, rfl, by decide, (zt_m1 182 rfl rfl)⟩
theorem zk_get_NameTree_Walk_113 : zm_rf "NameTree$Walk" 113 1 1 := ⟨_, rfl, by decide, (zt_m1 121 rfl rfl)⟩
theorem zd_43 : zm_cd0 43 1 := ⟨(zt_m2 102 rfl rfl), (zt_m1 7 rfl rfl), rfl, ⟨by decide, by decide⟩, by decide +kernel⟩
theorem zk_virt_NameTree_Walk_118 : zm_rvi "NameTree$Walk" 118 43 1 := ⟨by decide, zd_43, Or.inl (zt_m2 99 rfl rfl), (zt_m2 101 rfl rfl), (zt_m0 10 rfl rfl), _, rfl, rfl⟩
theorem zk_get_NameTree_Walk_59 : zm_rf "NameTree$Walk" 59 6 4 := ⟨_, rfl, by decide, (zt_m1 172 rfl rfl)⟩
theorem zk_get_NameTree_Walk_122 : zm_rf "NameTree$Walk" 122 5 7 := ⟨_, rfl, by decide, (zt_m1 72 rfl rfl)⟩
theorem zk_get_NameTree_Walk_125 : zm_rf "NameTree$Walk" 125 5 8 := ⟨_, rfl, by decide, (zt_m1 74 rfl rfl)⟩
theorem zd_29 : zm_cd0 29 1 := ⟨(zt_m2 106 rfl rfl), (zt_m1 4 rfl rfl), rfl, ⟨by decide, by decide⟩, by decide +kernel⟩
theorem zk_virt_NameTree_Walk_128 : zm_rvi "NameTree$Walk" 128 29 1 := ⟨by decide, zd_29, Or.inl (zt_m2 103 rfl rfl), (zt_m2 104 rfl rfl), (zt_m2 105 rfl rfl), _, rfl, rfl⟩
theorem zk_obj_NameTree_1 : zm_robj "NameTree" 1 := ⟨(zt_m1 17 rfl rfl), (zt_m1 18 rfl rfl), (zt_m1 19 rfl rfl)⟩
theorem zk_new_NameTree_7 : zm_rnw "NameTree" 7 4 2 := ⟨_, rfl, rfl, (zt_m1 20 rfl rfl), (zt_m1 21 rfl rfl), (zt_m1 2 rfl rfl)⟩
theorem zd_19 : zm_cd0 19 0 := ⟨(zt_m1 24 rfl rfl), (zt_m1 2 rfl rfl), rfl, ⟨by decide, by decide⟩, by decide +kernel⟩
theorem zk_spec_NameTree_9 : zm_rsp "NameTree" 9 19 0 := ⟨by decide, zd_19, Or.inr ⟨_, List.mem_of_getElem? (i := 6) rfl⟩, (zt_m1 23 rfl rfl), rfl, rfl⟩
theorem zk_putF_NameTree_10 : zm_rp "NameTree" "<init>" 10 7 0 := ⟨_, rfl, by decide, (zt_m1 209 rfl rfl), Or.inr ⟨rfl, rfl, rfl⟩⟩
theorem zk_new_NameTree_16 : zm_rnw "NameTree" 16 0 2 := ⟨_, rfl, rfl, (zt_m1 36 rfl rfl), (zt_m1 37 rfl rfl), (zt_m1 3 rfl rfl)⟩
theorem zd_1 : zm_cd0 1 0 := ⟨(zt_m1 40 rfl rfl), (zt_m1 3 rfl rfl), rfl, ⟨by decide, by decide⟩, by decide +kernel⟩
theorem zk_spec_NameTree_18 : zm_rsp "NameTree" 18 1 0 := ⟨by decide, zd_1, Or.inl (zt_m1 38 rfl rfl), (zt_m1 39 rfl rfl), rfl, rfl⟩
theorem zk_putF_NameTree_19 : zm_rp "NameTree" "<init>" 19 7 1 := ⟨_, rfl, by decide, (zt_m1 210 rfl rfl), Or.inr ⟨rfl, rfl, rfl⟩⟩
theorem zk_new_NameTree_23 : zm_rnw "NameTree" 23 2 2 := ⟨_, rfl, rfl, (zt_m1 106 rfl rfl), (zt_m1 107 rfl rfl), (zt_m1 5 rfl rfl)⟩
theorem zd_10 : zm_cd0 10 0 := ⟨(zt_m1 110 rfl rfl), (zt_m1 5 rfl rfl), rfl, ⟨by decide, by decide⟩, by decide +kernel⟩
theorem zk_spec_NameTree_25 : zm_rsp "NameTree" 25 10 0 := ⟨by decide, zd_10, Or.inl (zt_m1 108 rfl rfl), (zt_m1 109 rfl rfl), rfl, rfl⟩
theorem zk_putF_NameTree_26 : zm_rp "NameTree" "<init>" 26 7 2 := ⟨_, rfl, by decide, (zt_m1 211 rfl rfl), Or.inr ⟨rfl, rfl, rfl⟩⟩
theorem zk_new_NameTree_30 : zm_rnw "NameTree" 30 6 11 := ⟨_, rfl, rfl, (zt_m1 142 rfl rfl), (zt_m1 143 rfl rfl), (zt_m1 7 rfl rfl)⟩
theorem zk_get_NameTree_19 : zm_rf "NameTree" 19 7 1 := ⟨_, rfl, by decide, (zt_m1 210 rfl rfl)⟩
theorem zk_get_NameTree_32 : zm_rf "NameTree" 32 0 1 := ⟨_, rfl, by decide, (zt_m1 100 rfl rfl)⟩
theorem zk_get_NameTree_26 : zm_rf "NameTree" 26 7 2 := ⟨_, rfl, by decide, (zt_m1 211 rfl rfl)⟩
theorem zd_34 : zm_cd0 34 2 := ⟨(zt_m1 146 rfl rfl), (zt_m1 7 rfl rfl), rfl, ⟨by decide, by decide⟩, by decide +kernel⟩
theorem zk_spec_NameTree_36 : zm_rsp "NameTree" 36 34 2 := ⟨by decide, zd_34, Or.inl (zt_m1 144 rfl rfl), (zt_m1 145 rfl rfl), rfl, rfl⟩
theorem zk_putF_NameTree_39 : zm_rp "NameTree" "<init>" 39 7 3 := ⟨_, rfl, by decide, (zt_m1 212 rfl rfl), Or.inr ⟨rfl, rfl, rfl⟩⟩
theorem zk_putF_NameTree_43 : zm_rp "NameTree" "<init>" 43 7 4 := ⟨_, rfl, by decide, (zt_m1 213 rfl rfl), Or.inr ⟨rfl, rfl, rfl⟩⟩
theorem zk_put_NameTree_46 : zm_rp "NameTree" "" 46 7 5 := ⟨_, rfl, by decide, (zt_m1 214 rfl rfl), Or.inl rfl⟩
theorem zk_get_NameTree_10 : zm_rf "NameTree" 10 7 0 := ⟨_, rfl, by decide, (zt_m1 209 rfl rfl)⟩
theorem zd_20 : zm_cd0 20 1 := ⟨(zt_m1 235 rfl rfl), (zt_m1 2 rfl rfl), rfl, ⟨by decide, by decide⟩, by decide +kernel⟩
theorem zk_virt_NameTree_50 : zm_rvi "NameTree" 50 20 1 := ⟨by decide, zd_20, Or.inl (zt_m1 232 rfl rfl), (zt_m1 233 rfl rfl), (zt_m1 234 rfl rfl), _, rfl, rfl⟩
theorem zd_21 : zm_cd0 21 1 := ⟨(zt_m1 239 rfl rfl), (zt_m1 2 rfl rfl), rfl, ⟨by decide, by decide⟩, by decide +kernel⟩
theorem zk_virt_NameTree_54 : zm_rvi "NameTree" 54 21 1 := ⟨by decide, zd_21, Or.inl (zt_m1 236 rfl rfl), (zt_m1 237 rfl rfl), (zt_m1 238 rfl rfl), _, rfl, rfl⟩
theorem zk_get_NameTree_58 : zm_rf "NameTree" 58 4 1 := ⟨_, rfl, by decide, (zt_m1 29 rfl rfl)⟩
theorem zd_5 : zm_cd0 5 0 := ⟨(zt_m2 11 rfl rfl), (zt_m1 3 rfl rfl), rfl, ⟨by decide, by decide⟩, by decide +kernel⟩
theorem zk_virt_NameTree_61 : zm_rvi "NameTree" 61 5 0 := ⟨by decide, zd_5, Or.inl (zt_m2 8 rfl rfl), (zt_m2 9 rfl rfl), (zt_m2 10 rfl rfl), _, rfl, rfl⟩
theorem zd_62 : zm_cd0 62 0 := ⟨(zt_m2 29 rfl rfl), (zt_m1 1 rfl rfl), rfl, ⟨by decide, by decide⟩, by decide +kernel⟩
theorem zk_virt_NameTree_65 : zm_rvi "NameTree" 65 62 0 := ⟨by decide, zd_62, Or.inl (zt_m2 26 rfl rfl), (zt_m2 28 rfl rfl), (zt_m0 0 rfl rfl), _, rfl, rfl⟩
theorem zk_get_NameTree_39 : zm_rf "NameTree" 39 7 3 := ⟨_, rfl, by decide, (zt_m1 212 rfl rfl)⟩
theorem zk_get_NameTree_68 : zm_rf "NameTree" 68 6 10 := ⟨_, rfl, by decide, (zt_m1 185 rfl rfl)⟩
theorem zd_3 : zm_cd0 3 0 := ⟨(zt_m2 110 rfl rfl), (zt_m1 3 rfl rfl), rfl, ⟨by decide, by decide⟩, by decide +kernel⟩
theorem zk_virt_NameTree_71 : zm_rvi "NameTree" 71 3 0 := ⟨by decide, zd_3, Or.inl (zt_m2 107 rfl rfl), (zt_m2 108 rfl rfl), (zt_m2 109 rfl rfl), _, rfl, rfl⟩
theorem zk_get_NameTree_75 : zm_rf "NameTree" 75 6 8 := ⟨_, rfl, by decide, (zt_m1 181 rfl rfl)⟩
theorem zd_64 : zm_cd0 64 2 := ⟨(zt_m2 114 rfl rfl), (zt_m1 1 rfl rfl), rfl, ⟨by decide, by decide⟩, by decide +kernel⟩
theorem zk_virt_NameTree_78 : zm_rvi "NameTree" 78 64 2 := ⟨by decide, zd_64, Or.inl (zt_m2 111 rfl rfl), (zt_m2 113 rfl rfl), (zt_m0 11 rfl rfl), _, rfl, rfl⟩
theorem zk_virt_NameTree_82 : zm_rvi "NameTree" 82 27 1 := ⟨by decide, zd_27, Or.inl (zt_m2 126 rfl rfl), (zt_m1 95 rfl rfl), (zt_m1 96 rfl rfl), _, rfl, rfl⟩
theorem zd_12 : zm_cd0 12 2 := ⟨(zt_m2 130 rfl rfl), (zt_m1 5 rfl rfl), rfl, ⟨by decide, by decide⟩, by decide +kernel⟩
theorem zk_virt_NameTree_88 : zm_rvi "NameTree" 88 12 2 := ⟨by decide, zd_12, Or.inl (zt_m2 127 rfl rfl), (zt_m2 128 rfl rfl), (zt_m2 129 rfl rfl), _, rfl, rfl⟩
theorem zk_get_NameTree_92 : zm_rf "NameTree" 92 5 0 := ⟨_, rfl, by decide, (zt_m1 50 rfl rfl)⟩
theorem zd_63 : zm_cd0 63 1 := ⟨(zt_m2 152 rfl rfl), (zt_m1 1 rfl rfl), rfl, ⟨by decide, by decide⟩, by decide +kernel⟩
theorem zk_virt_NameTree_95 : zm_rvi "NameTree" 95 63 1 := ⟨by decide, zd_63, Or.inl (zt_m2 149 rfl rfl), (zt_m2 151 rfl rfl), (zt_m0 13 rfl rfl), _, rfl, rfl⟩
theorem zk_get_NameTree_99 : zm_rf "NameTree" 99 5 1 := ⟨_, rfl, by decide, (zt_m1 54 rfl rfl)⟩
theorem zk_get_NameTree_43 : zm_rf "NameTree" 43 7 4 := ⟨_, rfl, by decide, (zt_m1 213 rfl rfl)⟩
theorem zd_22 : zm_cd0 22 0 := ⟨(zt_m2 33 rfl rfl), (zt_m1 2 rfl rfl), rfl, ⟨by decide, by decide⟩, by decide +kernel⟩
theorem zk_virt_NameTree_102 : zm_rvi "NameTree" 102 22 0 := ⟨by decide, zd_22, Or.inl (zt_m2 30 rfl rfl), (zt_m2 31 rfl rfl), (zt_m2 32 rfl rfl), _, rfl, rfl⟩
theorem zd_24 : zm_cd0 24 1 := ⟨(zt_m2 156 rfl rfl), (zt_m1 2 rfl rfl), rfl, ⟨by decide, by decide⟩, by decide +kernel⟩
theorem zk_virt_NameTree_105 : zm_rvi "NameTree" 105 24 1 := ⟨by decide, zd_24, Or.inl (zt_m2 153 rfl rfl), (zt_m2 154 rfl rfl), (zt_m2 155 rfl rfl), _, rfl, rfl⟩
theorem zk_get_NameTree_109 : zm_rf "NameTree" 109 4 0 := ⟨_, rfl, by decide, (zt_m1 27 rfl rfl)⟩
theorem zd_35 : zm_cd0 35 3 := ⟨(zt_m2 45 rfl rfl), (zt_m1 7 rfl rfl), rfl, ⟨by decide, by decide⟩, by decide +kernel⟩
theorem zk_virt_NameTree_113 : zm_rvi "NameTree" 113 35 3 := ⟨by decide, zd_35, Or.inl (zt_m2 42 rfl rfl), (zt_m2 43 rfl rfl), (zt_m2 44 rfl rfl), _, rfl, rfl⟩
theorem zk_stat_NameTree_117 : zm_rst "NameTree" 117 70 1 := ⟨by decide, zd_70, Or.inl (zt_m2 162 rfl rfl), (zt_m2 20 rfl rfl)⟩
theorem zd_28 : zm_cd0 28 3 := ⟨(zt_m2 166 rfl rfl), (zt_m1 4 rfl rfl), rfl, ⟨by decide, by decide⟩, by decide +kernel⟩
theorem zk_virt_NameTree_120 : zm_rvi "NameTree" 120 28 3 := ⟨by decide, zd_28, Or.inl (zt_m2 163 rfl rfl), (zt_m2 164 rfl rfl), (zt_m2 165 rfl rfl), _, rfl, rfl⟩
theorem zk_get_NameTree_124 : zm_rf "NameTree" 124 6 9 := ⟨_, rfl, by decide, (zt_m1 183 rfl rfl)⟩
theorem zd_69 : zm_cd0 69 1 := ⟨(zt_m2 175 rfl rfl), (zt_m1 1 rfl rfl), rfl, ⟨by decide, by decide⟩, by decide +kernel⟩
theorem zk_virt_NameTree_128 : zm_rvi "NameTree" 128 69 1 := ⟨by decide, zd_69, Or.inl (zt_m2 172 rfl rfl), (zt_m2 174 rfl rfl), (zt_m0 14 rfl rfl), _, rfl, rfl⟩
theorem zk_get_NameTree_132 : zm_rf "NameTree" 132 5 4 := ⟨_, rfl, by decide, (zt_m1 63 rfl rfl)⟩
theorem zd_68 : zm_cd0 68 2 := ⟨(zt_m2 198 rfl rfl), (zt_m1 1 rfl rfl), rfl, ⟨by decide, by decide⟩, by decide +kernel⟩
theorem zk_stat_NameTree_135 : zm_rst "NameTree" 135 68 2 := ⟨by decide, zd_68, Or.inl (zt_m2 196 rfl rfl), (zt_m2 197 rfl rfl)⟩
theorem zd_66 : zm_cd0 66 0 := ⟨(zt_m2 202 rfl rfl), (zt_m1 1 rfl rfl), rfl, ⟨by decide, by decide⟩, by decide +kernel⟩
theorem zk_virt_NameTree_139 : zm_rvi "NameTree" 139 66 0 := ⟨by decide, zd_66, Or.inl (zt_m2 199 rfl rfl), (zt_m2 201 rfl rfl), (zt_m0 15 rfl rfl), _, rfl, rfl⟩
theorem zd_67 : zm_cd0 67 2 := ⟨(zt_m2 205 rfl rfl), (zt_m1 1 rfl rfl), rfl, ⟨by decide, by decide⟩, by decide +kernel⟩
theorem zk_stat_NameTree_142 : zm_rst "NameTree" 142 67 2 := ⟨by decide, zd_67, Or.inl (zt_m2 203 rfl rfl), (zt_m2 204 rfl rfl)⟩
theorem zd_13 : zm_cd0 13 1 := ⟨(zt_m2 179 rfl rfl), (zt_m1 5 rfl rfl), rfl, ⟨by decide, by decide⟩, by decide +kernel⟩
theorem zk_virt_NameTree_146 : zm_rvi "NameTree" 146 13 1 := ⟨by decide, zd_13, Or.inl (zt_m2 176 rfl rfl), (zt_m2 177 rfl rfl), (zt_m2 178 rfl rfl), _, rfl, rfl⟩
theorem zd_61 : zm_cd0 61 1 := ⟨(zt_m2 213 rfl rfl), (zt_m1 1 rfl rfl), rfl, ⟨by decide, by decide⟩, by decide +kernel⟩
theorem zk_virt_NameTree_149 : zm_rvi "NameTree" 149 61 1 := ⟨by decide, zd_61, Or.inl (zt_m2 210 rfl rfl), (zt_m2 212 rfl rfl), (zt_m0 16 rfl rfl), _, rfl, rfl⟩
theorem zk_get_NameTree_152 : zm_rf "NameTree" 152 5 3 := ⟨_, rfl, by decide, (zt_m1 60 rfl rfl)⟩
theorem zk_put_NameTree_152 : zm_rp "NameTree" "" 152 5 3 := ⟨_, rfl, by decide, (zt_m1 60 rfl rfl), Or.inl rfl⟩
theorem zd_2 : zm_cd0 2 1 := ⟨(zt_m2 225 rfl rfl), (zt_m1 3 rfl rfl), rfl, ⟨by decide, by decide⟩, by decide +kernel⟩
theorem zk_virt_NameTree_155 : zm_rvi "NameTree" 155 2 1 := ⟨by decide, zd_2, Or.inl (zt_m2 222 rfl rfl), (zt_m2 223 rfl rfl), (zt_m2 224 rfl rfl), _, rfl, rfl⟩
theorem zk_get_NameTree_159 : zm_rf "NameTree" 159 5 2 := ⟨_, rfl, by decide, (zt_m1 58 rfl rfl)⟩
theorem zd_33 : zm_cd0 33 0 := ⟨(zt_m2 186 rfl rfl), (zt_m1 4 rfl rfl), rfl, ⟨by decide, by decide⟩, by decide +kernel⟩
theorem zk_virt_NameTree_161 : zm_rvi "NameTree" 161 33 0 := ⟨by decide, zd_33, Or.inl (zt_m2 183 rfl rfl), (zt_m2 184 rfl rfl), (zt_m2 185 rfl rfl), _, rfl, rfl⟩
theorem zd_6 : zm_cd0 6 1 := ⟨(zt_m2 233 rfl rfl), (zt_m1 3 rfl rfl), rfl, ⟨by decide, by decide⟩, by decide +kernel⟩
theorem zk_virt_NameTree_164 : zm_rvi "NameTree" 164 6 1 := ⟨by decide, zd_6, Or.inl (zt_m2 230 rfl rfl), (zt_m2 231 rfl rfl), (zt_m2 232 rfl rfl), _, rfl, rfl⟩
theorem zd_32 : zm_cd0 32 0 := ⟨(zt_m2 237 rfl rfl), (zt_m1 4 rfl rfl), rfl, ⟨by decide, by decide⟩, by decide +kernel⟩
theorem zk_virt_NameTree_168 : zm_rvi "NameTree" 168 32 0 := ⟨by decide, zd_32, Or.inl (zt_m2 234 rfl rfl), (zt_m2 235 rfl rfl), (zt_m2 236 rfl rfl), _, rfl, rfl⟩
theorem zk_virt_NameTree_171 : zm_rvi "NameTree" 171 30 0 := ⟨by decide, zd_30, Or.inl (zt_m2 238 rfl rfl), (zt_m2 13 rfl rfl), (zt_m2 14 rfl rfl), _, rfl, rfl⟩
theorem zk_get_NameTree_174 : zm_rf "NameTree" 174 5 6 := ⟨_, rfl, by decide, (zt_m1 70 rfl rfl)⟩
theorem zk_virt_NameTree_177 : zm_rvi "NameTree" 177 29 1 := ⟨by decide, zd_29, Or.inl (zt_m3 3 rfl rfl), (zt_m2 104 rfl rfl), (zt_m2 105 rfl rfl), _, rfl, rfl⟩
theorem zd_4 : zm_cd0 4 0 := ⟨(zt_m3 11 rfl rfl), (zt_m1 3 rfl rfl), rfl, ⟨by decide, by decide⟩, by decide +kernel⟩
theorem zk_virt_NameTree_180 : zm_rvi "NameTree" 180 4 0 := ⟨by decide, zd_4, Or.inl (zt_m3 8 rfl rfl), (zt_m3 9 rfl rfl), (zt_m3 10 rfl rfl), _, rfl, rfl⟩
theorem zk_get_NameTree_183 : zm_rf "NameTree" 183 2 1 := ⟨_, rfl, by decide, (zt_m1 136 rfl rfl)⟩
theorem zd_23 : zm_cd0 23 1 := ⟨(zt_m2 37 rfl rfl), (zt_m1 2 rfl rfl), rfl, ⟨by decide, by decide⟩, by decide +kernel⟩
theorem zk_virt_NameTree_186 : zm_rvi "NameTree" 186 23 1 := ⟨by decide, zd_23, Or.inl (zt_m2 34 rfl rfl), (zt_m2 35 rfl rfl), (zt_m2 36 rfl rfl), _, rfl, rfl⟩
theorem zk_virt_NameTree_189 : zm_rvi "NameTree" 189 36 4 := ⟨by decide, zd_36, Or.inl (zt_m2 157 rfl rfl), (zt_m2 47 rfl rfl), (zt_m2 48 rfl rfl), _, rfl, rfl⟩
theorem zd_65 : zm_cd0 65 2 := ⟨(zt_m2 118 rfl rfl), (zt_m1 1 rfl rfl), rfl, ⟨by decide, by decide⟩, by decide +kernel⟩
theorem zk_virt_NameTree_193 : zm_rvi "NameTree" 193 65 2 := ⟨by decide, zd_65, Or.inl (zt_m2 115 rfl rfl), (zt_m2 117 rfl rfl), (zt_m0 12 rfl rfl), _, rfl, rfl⟩
theorem zd_31 : zm_cd0 31 0 := ⟨(zt_m2 122 rfl rfl), (zt_m1 4 rfl rfl), rfl, ⟨by decide, by decide⟩, by decide +kernel⟩
theorem zk_virt_NameTree_196 : zm_rvi "NameTree" 196 31 0 := ⟨by decide, zd_31, Or.inl (zt_m2 119 rfl rfl), (zt_m2 120 rfl rfl), (zt_m2 121 rfl rfl), _, rfl, rfl⟩
theorem zk_get_NameTree_46 : zm_rf "NameTree" 46 7 5 := ⟨_, rfl, by decide, (zt_m1 214 rfl rfl)⟩
theorem zk_get_NameTree_199 : zm_rf "NameTree" 199 1 1 := ⟨_, rfl, by decide, (zt_m1 122 rfl rfl)⟩
theorem zk_min_NameTree_204 : zm_rmin "NameTree" 204 := ⟨(zt_m2 138 rfl rfl), (zt_m2 139 rfl rfl), (zt_m1 10 rfl rfl), (zt_m2 140 rfl rfl)⟩
theorem zk_copy_NameTree_210 : zm_rcopy "NameTree" 210 := ⟨(zt_m2 141 rfl rfl), (zt_m2 143 rfl rfl), (zt_m2 142 rfl rfl), (zt_m1 11 rfl rfl)⟩
theorem zk_obj_NameTreeModel_1 : zm_robj "NameTreeModel" 1 := ⟨(zt_m3 17 rfl rfl), (zt_m1 18 rfl rfl), (zt_m1 19 rfl rfl)⟩
theorem zk_put_NameTreeModel_7 : zm_rp "NameTreeModel" "" 7 8 0 := ⟨_, rfl, by decide, (zt_m3 20 rfl rfl), Or.inl rfl⟩
theorem zk_putF_NameTreeModel_13 : zm_rp "NameTreeModel" "<init>" 13 8 2 := ⟨_, rfl, by decide, (zt_m3 22 rfl rfl), Or.inr ⟨rfl, rfl, rfl⟩⟩
theorem zk_putF_NameTreeModel_17 : zm_rp "NameTreeModel" "<init>" 17 8 4 := ⟨_, rfl, by decide, (zt_m3 24 rfl rfl), Or.inr ⟨rfl, rfl, rfl⟩⟩
theorem zk_putF_NameTreeModel_20 : zm_rp "NameTreeModel" "<init>" 20 8 5 := ⟨_, rfl, by decide, (zt_m3 25 rfl rfl), Or.inr ⟨rfl, rfl, rfl⟩⟩
theorem zk_putF_NameTreeModel_23 : zm_rp "NameTreeModel" "<init>" 23 8 6 := ⟨_, rfl, by decide, (zt_m3 26 rfl rfl), Or.inr ⟨rfl, rfl, rfl⟩⟩
theorem zk_putF_NameTreeModel_26 : zm_rp "NameTreeModel" "<init>" 26 8 7 := ⟨_, rfl, by decide, (zt_m3 27 rfl rfl), Or.inr ⟨rfl, rfl, rfl⟩⟩
theorem zk_putF_NameTreeModel_29 : zm_rp "NameTreeModel" "<init>" 29 8 8 := ⟨_, rfl, by decide, (zt_m3 28 rfl rfl), Or.inr ⟨rfl, rfl, rfl⟩⟩
theorem zk_ldc_NameTreeModel_32 : Jvm.Cond.constant "NameTreeModel" 32 (Int32.ofInt 41000) ∈ zt_ws := (zt_m3 18 rfl rfl)
theorem zk_putF_NameTreeModel_33 : zm_rp "NameTreeModel" "<init>" 33 8 9 := ⟨_, rfl, by decide, (zt_m3 29 rfl rfl), Or.inr ⟨rfl, rfl, rfl⟩⟩
theorem zk_putF_NameTreeModel_37 : zm_rp "NameTreeModel" "<init>" 37 8 11 := ⟨_, rfl, by decide, (zt_m3 31 rfl rfl), Or.inr ⟨rfl, rfl, rfl⟩⟩
theorem zk_putF_NameTreeModel_40 : zm_rp "NameTreeModel" "<init>" 40 8 12 := ⟨_, rfl, by decide, (zt_m3 32 rfl rfl), Or.inr ⟨rfl, rfl, rfl⟩⟩
theorem zk_putF_NameTreeModel_43 : zm_rp "NameTreeModel" "<init>" 43 8 13 := ⟨_, rfl, by decide, (zt_m3 33 rfl rfl), Or.inr ⟨rfl, rfl, rfl⟩⟩
theorem zk_putF_NameTreeModel_46 : zm_rp "NameTreeModel" "<init>" 46 8 14 := ⟨_, rfl, by decide, (zt_m3 34 rfl rfl), Or.inr ⟨rfl, rfl, rfl⟩⟩
theorem zk_ldc_NameTreeModel_49 : Jvm.Cond.constant "NameTreeModel" 49 (Int32.ofInt 42000) ∈ zt_ws := (zt_m3 19 rfl rfl)
theorem zk_putF_NameTreeModel_50 : zm_rp "NameTreeModel" "<init>" 50 8 15 := ⟨_, rfl, by decide, (zt_m3 35 rfl rfl), Or.inr ⟨rfl, rfl, rfl⟩⟩
theorem zk_get_NameTreeModel_20 : zm_rf "NameTreeModel" 20 8 5 := ⟨_, rfl, by decide, (zt_m3 25 rfl rfl)⟩
theorem zk_get_NameTreeModel_53 : zm_rf "NameTreeModel" 53 8 1 := ⟨_, rfl, by decide, (zt_m3 21 rfl rfl)⟩
theorem zk_get_NameTreeModel_13 : zm_rf "NameTreeModel" 13 8 2 := ⟨_, rfl, by decide, (zt_m3 22 rfl rfl)⟩
theorem zk_ldc2_NameTreeModel_56 : Jvm.Cond.constantLong "NameTreeModel" 56 (Int64.ofInt 255) ∈ zt_ws := (zt_m3 92 rfl rfl)
theorem zk_put_NameTreeModel_53 : zm_rp "NameTreeModel" "" 53 8 1 := ⟨_, rfl, by decide, (zt_m3 21 rfl rfl), Or.inl rfl⟩
theorem zk_put_NameTreeModel_58 : zm_rp "NameTreeModel" "" 58 8 3 := ⟨_, rfl, by decide, (zt_m3 23 rfl rfl), Or.inl rfl⟩
theorem zk_get_NameTreeModel_58 : zm_rf "NameTreeModel" 58 8 3 := ⟨_, rfl, by decide, (zt_m3 23 rfl rfl)⟩
theorem zk_get_NameTreeModel_17 : zm_rf "NameTreeModel" 17 8 4 := ⟨_, rfl, by decide, (zt_m3 24 rfl rfl)⟩
theorem zk_get_NameTreeModel_29 : zm_rf "NameTreeModel" 29 8 8 := ⟨_, rfl, by decide, (zt_m3 28 rfl rfl)⟩
theorem zk_get_NameTreeModel_23 : zm_rf "NameTreeModel" 23 8 6 := ⟨_, rfl, by decide, (zt_m3 26 rfl rfl)⟩
theorem zd_77 : zm_cd0 77 1 := ⟨(zt_m3 111 rfl rfl), (zt_m1 9 rfl rfl), rfl, ⟨by decide, by decide⟩, by decide +kernel⟩
theorem zk_stat_NameTreeModel_61 : zm_rst "NameTreeModel" 61 77 1 := ⟨by decide, zd_77, Or.inl (zt_m3 109 rfl rfl), (zt_m3 110 rfl rfl)⟩
theorem zd_78 : zm_cd0 78 1 := ⟨(zt_m3 108 rfl rfl), (zt_m1 9 rfl rfl), rfl, ⟨by decide, by decide⟩, by decide +kernel⟩
theorem zk_virt_NameTreeModel_65 : zm_rvi "NameTreeModel" 65 78 1 := ⟨by decide, zd_78, Or.inl (zt_m3 105 rfl rfl), (zt_m3 107 rfl rfl), (zt_m0 18 rfl rfl), _, rfl, rfl⟩
theorem zk_get_NameTreeModel_68 : zm_rf "NameTreeModel" 68 8 10 := ⟨_, rfl, by decide, (zt_m3 30 rfl rfl)⟩
theorem zk_get_NameTreeModel_40 : zm_rf "NameTreeModel" 40 8 12 := ⟨_, rfl, by decide, (zt_m3 32 rfl rfl)⟩
theorem zk_get_NameTreeModel_37 : zm_rf "NameTreeModel" 37 8 11 := ⟨_, rfl, by decide, (zt_m3 31 rfl rfl)⟩
theorem zk_get_NameTreeModel_43 : zm_rf "NameTreeModel" 43 8 13 := ⟨_, rfl, by decide, (zt_m3 33 rfl rfl)⟩
theorem zk_get_NameTreeModel_46 : zm_rf "NameTreeModel" 46 8 14 := ⟨_, rfl, by decide, (zt_m3 34 rfl rfl)⟩
theorem zk_get_NameTreeModel_50 : zm_rf "NameTreeModel" 50 8 15 := ⟨_, rfl, by decide, (zt_m3 35 rfl rfl)⟩
theorem zd_84 : zm_cd0 84 3 := ⟨(zt_m3 143 rfl rfl), (zt_m1 9 rfl rfl), rfl, ⟨by decide, by decide⟩, by decide +kernel⟩
theorem zk_virt_NameTreeModel_71 : zm_rvi "NameTreeModel" 71 84 3 := ⟨by decide, zd_84, Or.inl (zt_m3 140 rfl rfl), (zt_m3 142 rfl rfl), (zt_m0 25 rfl rfl), _, rfl, rfl⟩
theorem zk_get_NameTreeModel_75 : zm_rf "NameTreeModel" 75 8 17 := ⟨_, rfl, by decide, (zt_m3 37 rfl rfl)⟩
theorem zk_get_NameTreeModel_78 : zm_rf "NameTreeModel" 78 8 19 := ⟨_, rfl, by decide, (zt_m3 39 rfl rfl)⟩
theorem zk_get_NameTreeModel_81 : zm_rf "NameTreeModel" 81 8 18 := ⟨_, rfl, by decide, (zt_m3 38 rfl rfl)⟩
theorem zk_put_NameTreeModel_68 : zm_rp "NameTreeModel" "" 68 8 10 := ⟨_, rfl, by decide, (zt_m3 30 rfl rfl), Or.inl rfl⟩
theorem zd_82 : zm_cd0 82 1 := ⟨(zt_m3 155 rfl rfl), (zt_m1 9 rfl rfl), rfl, ⟨by decide, by decide⟩, by decide +kernel⟩
theorem zk_virt_NameTreeModel_84 : zm_rvi "NameTreeModel" 84 82 1 := ⟨by decide, zd_82, Or.inl (zt_m3 152 rfl rfl), (zt_m3 154 rfl rfl), (zt_m0 28 rfl rfl), _, rfl, rfl⟩
theorem zd_81 : zm_cd0 81 1 := ⟨(zt_m3 183 rfl rfl), (zt_m1 9 rfl rfl), rfl, ⟨by decide, by decide⟩, by decide +kernel⟩
theorem zk_virt_NameTreeModel_87 : zm_rvi "NameTreeModel" 87 81 1 := ⟨by decide, zd_81, Or.inl (zt_m3 180 rfl rfl), (zt_m3 182 rfl rfl), (zt_m0 32 rfl rfl), _, rfl, rfl⟩
theorem zk_get_NameTreeModel_26 : zm_rf "NameTreeModel" 26 8 7 := ⟨_, rfl, by decide, (zt_m3 27 rfl rfl)⟩
theorem zk_get_NameTreeModel_90 : zm_rf "NameTreeModel" 90 8 16 := ⟨_, rfl, by decide, (zt_m3 36 rfl rfl)⟩
theorem zk_put_NameTreeModel_90 : zm_rp "NameTreeModel" "" 90 8 16 := ⟨_, rfl, by decide, (zt_m3 36 rfl rfl), Or.inl rfl⟩
theorem zk_put_NameTreeModel_93 : zm_rp "NameTreeModel" "" 93 8 20 := ⟨_, rfl, by decide, (zt_m3 40 rfl rfl), Or.inl rfl⟩
theorem zk_put_NameTreeModel_96 : zm_rp "NameTreeModel" "" 96 8 21 := ⟨_, rfl, by decide, (zt_m3 41 rfl rfl), Or.inl rfl⟩
theorem zd_89 : zm_cd0 89 0 := ⟨(zt_m3 131 rfl rfl), (zt_m1 9 rfl rfl), rfl, ⟨by decide, by decide⟩, by decide +kernel⟩
theorem zk_virt_NameTreeModel_100 : zm_rvi "NameTreeModel" 100 89 0 := ⟨by decide, zd_89, Or.inl (zt_m3 128 rfl rfl), (zt_m3 130 rfl rfl), (zt_m0 22 rfl rfl), _, rfl, rfl⟩
theorem zk_put_NameTreeModel_81 : zm_rp "NameTreeModel" "" 81 8 18 := ⟨_, rfl, by decide, (zt_m3 38 rfl rfl), Or.inl rfl⟩
theorem zk_put_NameTreeModel_78 : zm_rp "NameTreeModel" "" 78 8 19 := ⟨_, rfl, by decide, (zt_m3 39 rfl rfl), Or.inl rfl⟩
theorem zk_get_NameTreeModel_93 : zm_rf "NameTreeModel" 93 8 20 := ⟨_, rfl, by decide, (zt_m3 40 rfl rfl)⟩
theorem zk_get_NameTreeModel_96 : zm_rf "NameTreeModel" 96 8 21 := ⟨_, rfl, by decide, (zt_m3 41 rfl rfl)⟩
theorem zd_83 : zm_cd0 83 1 := ⟨(zt_m3 135 rfl rfl), (zt_m1 9 rfl rfl), rfl, ⟨by decide, by decide⟩, by decide +kernel⟩
theorem zk_virt_NameTreeModel_104 : zm_rvi "NameTreeModel" 104 83 1 := ⟨by decide, zd_83, Or.inl (zt_m3 132 rfl rfl), (zt_m3 134 rfl rfl), (zt_m0 23 rfl rfl), _, rfl, rfl⟩
theorem zk_put_NameTreeModel_75 : zm_rp "NameTreeModel" "" 75 8 17 := ⟨_, rfl, by decide, (zt_m3 37 rfl rfl), Or.inl rfl⟩
theorem zd_85 : zm_cd0 85 3 := ⟨(zt_m3 139 rfl rfl), (zt_m1 9 rfl rfl), rfl, ⟨by decide, by decide⟩, by decide +kernel⟩
theorem zk_virt_NameTreeModel_107 : zm_rvi "NameTreeModel" 107 85 3 := ⟨by decide, zd_85, Or.inl (zt_m3 136 rfl rfl), (zt_m3 138 rfl rfl), (zt_m0 24 rfl rfl), _, rfl, rfl⟩
theorem zd_91 : zm_cd0 91 1 := ⟨(zt_m3 147 rfl rfl), (zt_m1 9 rfl rfl), rfl, ⟨by decide, by decide⟩, by decide +kernel⟩
theorem zk_virt_NameTreeModel_111 : zm_rvi "NameTreeModel" 111 91 1 := ⟨by decide, zd_91, Or.inl (zt_m3 144 rfl rfl), (zt_m3 146 rfl rfl), (zt_m0 26 rfl rfl), _, rfl, rfl⟩
theorem zk_get_NameTreeModel_33 : zm_rf "NameTreeModel" 33 8 9 := ⟨_, rfl, by decide, (zt_m3 29 rfl rfl)⟩
theorem zd_90 : zm_cd0 90 3 := ⟨(zt_m3 127 rfl rfl), (zt_m1 9 rfl rfl), rfl, ⟨by decide, by decide⟩, by decide +kernel⟩
theorem zk_virt_NameTreeModel_115 : zm_rvi "NameTreeModel" 115 90 3 := ⟨by decide, zd_90, Or.inl (zt_m3 124 rfl rfl), (zt_m3 126 rfl rfl), (zt_m0 21 rfl rfl), _, rfl, rfl⟩
theorem zd_79 : zm_cd0 79 0 := ⟨(zt_m3 104 rfl rfl), (zt_m1 9 rfl rfl), rfl, ⟨by decide, by decide⟩, by decide +kernel⟩
theorem zk_virt_NameTreeModel_119 : zm_rvi "NameTreeModel" 119 79 0 := ⟨by decide, zd_79, Or.inl (zt_m3 101 rfl rfl), (zt_m3 103 rfl rfl), (zt_m0 17 rfl rfl), _, rfl, rfl⟩
theorem zk_get_NameTreeModel_7 : zm_rf "NameTreeModel" 7 8 0 := ⟨_, rfl, by decide, (zt_m3 20 rfl rfl)⟩
theorem zd_86 : zm_cd0 86 2 := ⟨(zt_m3 159 rfl rfl), (zt_m1 9 rfl rfl), rfl, ⟨by decide, by decide⟩, by decide +kernel⟩
theorem zk_virt_NameTreeModel_123 : zm_rvi "NameTreeModel" 123 86 2 := ⟨by decide, zd_86, Or.inl (zt_m3 156 rfl rfl), (zt_m3 158 rfl rfl), (zt_m0 29 rfl rfl), _, rfl, rfl⟩
theorem zd_87 : zm_cd0 87 1 := ⟨(zt_m3 163 rfl rfl), (zt_m1 9 rfl rfl), rfl, ⟨by decide, by decide⟩, by decide +kernel⟩
theorem zk_virt_NameTreeModel_127 : zm_rvi "NameTreeModel" 127 87 1 := ⟨by decide, zd_87, Or.inl (zt_m3 160 rfl rfl), (zt_m3 162 rfl rfl), (zt_m0 30 rfl rfl), _, rfl, rfl⟩
theorem zd_76 : zm_cd0 76 0 := ⟨(zt_m3 119 rfl rfl), (zt_m1 9 rfl rfl), rfl, ⟨by decide, by decide⟩, by decide +kernel⟩
theorem zk_virt_NameTreeModel_130 : zm_rvi "NameTreeModel" 130 76 0 := ⟨by decide, zd_76, Or.inl (zt_m3 116 rfl rfl), (zt_m3 118 rfl rfl), (zt_m0 19 rfl rfl), _, rfl, rfl⟩
theorem zd_92 : zm_cd0 92 2 := ⟨(zt_m3 123 rfl rfl), (zt_m1 9 rfl rfl), rfl, ⟨by decide, by decide⟩, by decide +kernel⟩
theorem zk_virt_NameTreeModel_133 : zm_rvi "NameTreeModel" 133 92 2 := ⟨by decide, zd_92, Or.inl (zt_m3 120 rfl rfl), (zt_m3 122 rfl rfl), (zt_m0 20 rfl rfl), _, rfl, rfl⟩
theorem zd_94 : zm_cd0 94 2 := ⟨(zt_m3 151 rfl rfl), (zt_m1 9 rfl rfl), rfl, ⟨by decide, by decide⟩, by decide +kernel⟩
theorem zk_virt_NameTreeModel_136 : zm_rvi "NameTreeModel" 136 94 2 := ⟨by decide, zd_94, Or.inl (zt_m3 148 rfl rfl), (zt_m3 150 rfl rfl), (zt_m0 27 rfl rfl), _, rfl, rfl⟩
theorem zd_88 : zm_cd0 88 1 := ⟨(zt_m3 179 rfl rfl), (zt_m1 9 rfl rfl), rfl, ⟨by decide, by decide⟩, by decide +kernel⟩
theorem zk_virt_NameTreeModel_139 : zm_rvi "NameTreeModel" 139 88 1 := ⟨by decide, zd_88, Or.inl (zt_m3 176 rfl rfl), (zt_m3 178 rfl rfl), (zt_m0 31 rfl rfl), _, rfl, rfl⟩
theorem zd_100 : zm_cd0 100 2 := ⟨(zt_m3 195 rfl rfl), (zt_m1 9 rfl rfl), rfl, ⟨by decide, by decide⟩, by decide +kernel⟩
theorem zk_virt_NameTreeModel_142 : zm_rvi "NameTreeModel" 142 100 2 := ⟨by decide, zd_100, Or.inl (zt_m3 192 rfl rfl), (zt_m3 194 rfl rfl), (zt_m0 33 rfl rfl), _, rfl, rfl⟩
theorem zd_104 : zm_cd0 104 1 := ⟨(zt_m3 211 rfl rfl), (zt_m1 9 rfl rfl), rfl, ⟨by decide, by decide⟩, by decide +kernel⟩
theorem zk_virt_NameTreeModel_146 : zm_rvi "NameTreeModel" 146 104 1 := ⟨by decide, zd_104, Or.inl (zt_m3 208 rfl rfl), (zt_m3 210 rfl rfl), (zt_m0 34 rfl rfl), _, rfl, rfl⟩
theorem zd_106 : zm_cd0 106 1 := ⟨(zt_m3 219 rfl rfl), (zt_m1 9 rfl rfl), rfl, ⟨by decide, by decide⟩, by decide +kernel⟩
theorem zk_virt_NameTreeModel_150 : zm_rvi "NameTreeModel" 150 106 1 := ⟨by decide, zd_106, Or.inl (zt_m3 216 rfl rfl), (zt_m3 218 rfl rfl), (zt_m0 35 rfl rfl), _, rfl, rfl⟩
theorem zd_80 : zm_cd0 80 0 := ⟨(zt_m3 231 rfl rfl), (zt_m1 9 rfl rfl), rfl, ⟨by decide, by decide⟩, by decide +kernel⟩
theorem zk_virt_NameTreeModel_153 : zm_rvi "NameTreeModel" 153 80 0 := ⟨by decide, zd_80, Or.inl (zt_m3 228 rfl rfl), (zt_m3 230 rfl rfl), (zt_m0 36 rfl rfl), _, rfl, rfl⟩
