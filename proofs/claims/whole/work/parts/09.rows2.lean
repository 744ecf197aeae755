set_option maxRecDepth 100000 in
set_option maxHeartbeats 4000000 in
theorem zs_0 : ∀ q ∈ zc0, zm_rs 0 q.1 q.2.1 q.2.2.2.1 q.2.2.2.2.1 q.2.2.2.2.2 :=
  zm_ac ⟨zk_new_NameTreeLaw_7, fun _ _ => rfl⟩ <|
  zm_ac trivial <|
  zm_ac (Or.inr ⟨zk_spec_NameTreeLaw_9, by decide, by decide⟩) <|
  zm_ac trivial <|
  zm_ac ⟨zk_new_NameTreeLaw_10, fun _ _ => rfl⟩ <|
  zm_ac trivial <|
  zm_ac (Or.inr ⟨zk_spec_NameTreeLaw_12, by decide, by decide⟩) <|
  zm_ac trivial <|
  zm_ac trivial <|
  zm_ac trivial <|
  zm_ac trivial <|
  zm_ac trivial <|
  zm_ac trivial <|
  zm_ac trivial <|
  zm_ac trivial <|
  zm_ac (zm_jp rfl) <|
  zm_ac trivial <|
  zm_ac trivial <|
  zm_ac trivial <|
  zm_ac trivial <|
  zm_ac trivial <|
  zm_ac (zm_tsw (by decide) (by decide) (by decide) (by decide)) <|
  zm_ac trivial <|
  zm_ac trivial <|
  zm_ac trivial <|
  zm_ac trivial <|
  zm_ac trivial <|
  zm_ac trivial <|
  zm_ac trivial <|
  zm_ac trivial <|
  zm_ac trivial <|
  zm_ac trivial <|
  zm_ac trivial <|
  zm_ac trivial <|
  zm_ac trivial <|
  zm_ac trivial <|
  zm_ac trivial <|
  zm_ac ⟨_, _, rfl, zk_ldc2_NameTreeLaw_13⟩ <|
  zm_ac trivial <|
  zm_ac trivial <|
  zm_ac trivial <|
  zm_ac trivial <|
  zm_ac trivial <|
  zm_ac trivial <|
  zm_ac trivial <|
  zm_ac ⟨zk_virt_NameTreeLaw_15, by decide, by decide⟩ <|
  zm_ac trivial <|
  zm_ac trivial <|
  zm_ac trivial <|
  zm_ac trivial <|
  zm_ac trivial <|
  zm_ac trivial <|
  zm_ac trivial <|
  zm_ac trivial <|
  zm_ac trivial <|
  zm_ac trivial <|
  zm_ac trivial <|
  zm_ac trivial <|
  zm_ac trivial <|
  zm_ac trivial <|
  zm_ac trivial <|
  zm_ac ⟨_, _, rfl, zk_ldc2_NameTreeLaw_13⟩ <|
  zm_ac trivial <|
  zm_ac trivial <|
  zm_ac trivial <|
  zm_ac trivial <|
  zm_ac trivial <|
  zm_ac trivial <|
  zm_ac trivial <|
  zm_ac ⟨zk_virt_NameTreeLaw_19, by decide, by decide⟩ <|
  zm_ac (zm_jp rfl) <|
  zm_ac trivial <|
  zm_ac trivial <|
  zm_ac trivial <|
  zm_ac trivial <|
  zm_ac trivial <|
  zm_ac trivial <|
  zm_ac trivial <|
  zm_ac trivial <|
  zm_ac trivial <|
  zm_ac trivial <|
  zm_ac trivial <|
  zm_ac trivial <|
  zm_ac trivial <|
  zm_ac ⟨zk_virt_NameTreeLaw_20, by decide, by decide⟩ <|
  zm_ac trivial <|
  zm_ac trivial <|
  zm_ac trivial <|
  zm_ac trivial <|
  zm_ac trivial <|
  zm_ac trivial <|
  zm_ac trivial <|
  zm_ac trivial <|
  zm_ac trivial <|
  zm_ac trivial <|
  zm_ac trivial <|
  zm_ac ⟨zk_virt_NameTreeLaw_24, by decide, by decide⟩ <|
  zm_ac (zm_jp rfl) <|
  zm_ac trivial <|
  zm_ac trivial <|
  zm_ac trivial <|
  zm_ac trivial <|
  zm_ac trivial <|
  zm_ac trivial <|
  zm_ac trivial <|
  zm_ac trivial <|
  zm_ac ⟨zk_virt_NameTreeLaw_25, by decide, by decide⟩ <|
  zm_ac trivial <|
  zm_ac trivial <|
  zm_ac trivial <|
  zm_ac trivial <|
  zm_ac trivial <|
  zm_ac trivial <|
  zm_ac ⟨zk_virt_NameTreeLaw_29, by decide, by decide⟩ <|
  zm_ac (zm_jp rfl) <|
  zm_ac trivial <|
  zm_ac trivial <|
  zm_ac trivial <|
  zm_ac trivial <|
  zm_ac trivial <|
  zm_ac trivial <|
  zm_ac trivial <|
  zm_ac trivial <|
  zm_ac ⟨zk_virt_NameTreeLaw_30, by decide, by decide⟩ <|
  zm_ac trivial <|
  zm_ac trivial <|
  zm_ac trivial <|
  zm_ac trivial <|
  zm_ac trivial <|
  zm_ac trivial <|
  zm_ac ⟨zk_virt_NameTreeLaw_33, by decide, by decide⟩ <|
  zm_ac (zm_jp rfl) <|
  zm_ac trivial <|
  zm_ac trivial <|
  zm_ac trivial <|
  zm_ac ⟨zk_virt_NameTreeLaw_34, by decide, by decide⟩ <|
  zm_ac trivial <|
  zm_ac ⟨zk_virt_NameTreeLaw_38, by decide, by decide⟩ <|
  zm_ac (zm_jp rfl) <|
  zm_ac trivial <|
  zm_ac trivial <|
  zm_ac trivial <|
  zm_ac ⟨zk_virt_NameTreeLaw_39, by decide, by decide⟩ <|
  zm_ac trivial <|
  zm_ac ⟨zk_virt_NameTreeLaw_42, by decide, by decide⟩ <|
  zm_ac (zm_jp rfl) <|
  zm_ac trivial <|
  zm_ac trivial <|
  zm_ac trivial <|
  zm_ac ⟨zk_virt_NameTreeLaw_43, by decide, by decide⟩ <|
  zm_ac trivial <|
  zm_ac ⟨zk_virt_NameTreeLaw_46, by decide, by decide⟩ <|
  zm_ac (zm_jp rfl) <|
  zm_ac trivial <|
  zm_ac trivial <|
  zm_ac trivial <|
  zm_ac ⟨zk_virt_NameTreeLaw_47, by decide, by decide⟩ <|
  zm_ac trivial <|
  zm_ac ⟨zk_virt_NameTreeLaw_50, by decide, by decide⟩ <|
  zm_ac (zm_jp rfl) <|
  zm_ac trivial <|
  zm_ac trivial <|
  zm_ac trivial <|
  zm_ac ⟨zk_virt_NameTreeLaw_51, by decide, by decide⟩ <|
  zm_ac trivial <|
  zm_ac ⟨zk_virt_NameTreeLaw_54, by decide, by decide⟩ <|
  zm_ac (zm_jp rfl) <|
  zm_ac trivial <|
  zm_ac trivial <|
  zm_ac trivial <|
  zm_ac trivial <|
  zm_ac trivial <|
  zm_ac trivial <|
  zm_ac trivial <|
  zm_ac trivial <|
  zm_ac (zm_jp rfl) <|
  zm_ac trivial <|
  zm_ac (zm_jp rfl) <|
  zm_ac trivial <|
  zm_ac ⟨zk_virt_NameTreeLaw_55, by decide, by decide⟩ <|
  zm_ac trivial <|
  zm_ac trivial <|
  zm_ac trivial <|
  zm_ac trivial <|
  zm_ac trivial <|
  zm_ac trivial <|
  zm_ac (zm_jp rfl) <|
  zm_ac trivial <|
  zm_ac (zm_jp rfl) <|
  zm_ac trivial <|
  zm_ac ⟨zk_virt_NameTreeLaw_59, by decide, by decide⟩ <|
  zm_ac (zm_jp rfl) <|
  zm_ac trivial <|
  zm_ac trivial <|
  zm_ac trivial <|
  zm_ac ⟨zk_virt_NameTreeLaw_60, by decide, by decide⟩ <|
  zm_ac trivial <|
  zm_ac ⟨zk_virt_NameTreeLaw_63, by decide, by decide⟩ <|
  zm_ac (zm_jp rfl) <|
  zm_ac trivial <|
  zm_ac trivial <|
  zm_ac trivial <|
  zm_ac trivial <|
  zm_ac trivial <|
  zm_ac trivial <|
  zm_ac trivial <|
  zm_ac trivial <|
  zm_ac ⟨zk_virt_NameTreeLaw_64, by decide, by decide⟩ <|
  zm_ac trivial <|
  zm_ac trivial <|
  zm_ac trivial <|
  zm_ac trivial <|
  zm_ac trivial <|
  zm_ac trivial <|
  zm_ac ⟨zk_virt_NameTreeLaw_67, by decide, by decide⟩ <|
  zm_ac (zm_jp rfl) <|
  zm_ac trivial <|
  zm_ac trivial <|
  zm_ac trivial <|
  zm_ac trivial <|
  zm_ac trivial <|
  zm_ac trivial <|
  zm_ac trivial <|
  zm_ac trivial <|
  zm_ac trivial <|
  zm_ac trivial <|
  zm_ac trivial <|
  zm_ac trivial <|
  zm_ac trivial <|
  zm_ac ⟨zk_virt_NameTreeLaw_68, by decide, by decide⟩ <|
  zm_ac trivial <|
  zm_ac trivial <|
  zm_ac trivial <|
  zm_ac trivial <|
  zm_ac trivial <|
  zm_ac trivial <|
  zm_ac trivial <|
  zm_ac trivial <|
  zm_ac trivial <|
  zm_ac trivial <|
  zm_ac trivial <|
  zm_ac ⟨zk_virt_NameTreeLaw_71, by decide, by decide⟩ <|
  zm_ac (zm_jp rfl) <|
  zm_ac trivial <|
  zm_ac trivial <|
  zm_ac trivial <|
  zm_ac trivial <|
  zm_ac trivial <|
  zm_ac trivial <|
  zm_ac trivial <|
  zm_ac trivial <|
  zm_ac trivial <|
  zm_ac trivial <|
  zm_ac trivial <|
  zm_ac trivial <|
  zm_ac trivial <|
  zm_ac ⟨zk_virt_NameTreeLaw_72, by decide, by decide⟩ <|
  zm_ac trivial <|
  zm_ac trivial <|
  zm_ac trivial <|
  zm_ac trivial <|
  zm_ac trivial <|
  zm_ac trivial <|
  zm_ac trivial <|
  zm_ac trivial <|
  zm_ac trivial <|
  zm_ac trivial <|
  zm_ac trivial <|
  zm_ac ⟨zk_virt_NameTreeLaw_75, by decide, by decide⟩ <|
  zm_ac (zm_jp rfl) <|
  zm_ac trivial <|
  zm_ac trivial <|
  zm_ac trivial <|
  zm_ac trivial <|
  zm_ac trivial <|
  zm_ac trivial <|
  zm_ac trivial <|
  zm_ac trivial <|
  zm_ac ⟨zk_virt_NameTreeLaw_76, by decide, by decide⟩ <|
  zm_ac trivial <|
  zm_ac trivial <|
  zm_ac trivial <|
  zm_ac trivial <|
  zm_ac trivial <|
  zm_ac trivial <|
  zm_ac ⟨zk_virt_NameTreeLaw_79, by decide, by decide⟩ <|
  zm_ac (zm_jp rfl) <|
  zm_ac trivial <|
  zm_ac trivial <|
  zm_ac trivial <|
  zm_ac (zm_jp rfl) <|
  zm_ac trivial <|
  zm_ac trivial <|
  zm_an
set_option maxRecDepth 100000 in
set_option maxHeartbeats 4000000 in
theorem zs_1 : ∀ q ∈ zc1, zm_rs 1 q.1 q.2.1 q.2.2.2.1 q.2.2.2.2.1 q.2.2.2.2.2 :=
  zm_ac trivial <|
  zm_ac (Or.inl ⟨rfl, zk_obj_NameTree_FileTable_3, by decide, by decide⟩) <|
  zm_ac trivial <|
  zm_ac trivial <|
  zm_ac zk_anew_NameTree_FileTable_9 <|
  zm_ac zk_putF_NameTree_FileTable_11 <|
  zm_ac trivial <|
  zm_ac ⟨zk_new_NameTree_FileTable_9, fun _ _ => rfl⟩ <|
  zm_ac trivial <|
  zm_ac trivial <|
  zm_ac (Or.inr ⟨zk_spec_NameTree_FileTable_17, by decide, by decide⟩) <|
  zm_ac zk_putF_NameTree_FileTable_20 <|
  zm_ac trivial <|
  zm_ac zk_get_NameTree_FileTable_20 <|
  zm_ac trivial <|
  zm_ac ⟨zk_virt_NameTree_FileTable_24, by decide, by decide⟩ <|
  zm_ac trivial <|
  zm_ac zk_get_NameTree_FileTable_20 <|
  zm_ac trivial <|
  zm_ac zk_get_NameTree_FileTable_20 <|
  zm_ac (zm_rp_any zk_put_NameTree_FileTable_27) <|
  zm_ac trivial <|
  zm_ac zk_get_NameTree_FileTable_11 <|
  zm_ac trivial <|
  zm_ac trivial <|
  zm_ac zk_get_NameTree_FileTable_20 <|
  zm_ac trivial <|
  zm_ac trivial <|
  zm_ac trivial <|
  zm_ac trivial <|
  zm_ac trivial <|
  zm_ac zk_get_NameTree_FileTable_11 <|
  zm_ac trivial <|
  zm_ac (zm_jp rfl) <|
  zm_ac trivial <|
  zm_ac zk_get_NameTree_FileTable_11 <|
  zm_ac trivial <|
  zm_ac ⟨zk_new_NameTree_FileTable_9, fun _ _ => rfl⟩ <|
  zm_ac trivial <|
  zm_ac trivial <|
  zm_ac trivial <|
  zm_ac trivial <|
  zm_ac (Or.inr ⟨zk_spec_NameTree_FileTable_17, by decide, by decide⟩) <|
  zm_ac trivial <|
  zm_ac trivial <|
  zm_ac (zm_jp rfl) <|
  zm_ac trivial <|
  zm_an
set_option maxRecDepth 100000 in
set_option maxHeartbeats 4000000 in
theorem zs_2 : ∀ q ∈ zc2, zm_rs 2 q.1 q.2.1 q.2.2.2.1 q.2.2.2.2.1 q.2.2.2.2.2 :=
  zm_ac trivial <|
  zm_ac trivial <|
  zm_ac (zm_jp rfl) <|
  zm_ac trivial <|
  zm_ac trivial <|
  zm_ac zk_get_NameTree_FileTable_11 <|
  zm_ac trivial <|
  zm_ac (zm_jp rfl) <|
  zm_ac trivial <|
  zm_ac trivial <|
  zm_ac trivial <|
  zm_ac zk_get_NameTree_FileTable_11 <|
  zm_ac trivial <|
  zm_ac trivial <|
  zm_ac trivial <|
  zm_ac trivial <|
  zm_ac trivial <|
  zm_ac trivial <|
  zm_ac (zm_jp rfl) <|
  zm_ac trivial <|
  zm_ac zk_get_NameTree_FileTable_30 <|
  zm_ac (zm_jp rfl) <|
  zm_ac trivial <|
  zm_ac (zm_jp rfl) <|
  zm_ac trivial <|
  zm_ac trivial <|
  zm_an
set_option maxRecDepth 100000 in
set_option maxHeartbeats 4000000 in
theorem zs_3 : ∀ q ∈ zc3, zm_rs 3 q.1 q.2.1 q.2.2.2.1 q.2.2.2.2.1 q.2.2.2.2.2 :=
  zm_ac trivial <|
  zm_ac zk_get_NameTree_FileTable_11 <|
  zm_ac trivial <|
  zm_ac trivial <|
  zm_ac trivial <|
  zm_ac trivial <|
  zm_ac trivial <|
  zm_ac trivial <|
  zm_ac trivial <|
  zm_ac trivial <|
  zm_ac (zm_jp rfl) <|
  zm_ac trivial <|
  zm_ac trivial <|
  zm_ac trivial <|
  zm_ac trivial <|
  zm_ac trivial <|
  zm_ac (zm_jp rfl) <|
  zm_ac trivial <|
  zm_ac zk_get_NameTree_FileTable_30 <|
  zm_ac (zm_jp rfl) <|
  zm_ac trivial <|
  zm_ac trivial <|
  zm_ac trivial <|
  zm_ac (zm_jp rfl) <|
  zm_ac trivial <|
  zm_ac trivial <|
  zm_an
set_option maxRecDepth 100000 in
set_option maxHeartbeats 4000000 in
theorem zs_4 : ∀ q ∈ zc4, zm_rs 4 q.1 q.2.1 q.2.2.2.1 q.2.2.2.2.1 q.2.2.2.2.2 :=
  zm_ac trivial <|
  zm_ac trivial <|
  zm_ac trivial <|
  zm_ac zk_get_NameTree_FileTable_11 <|
  zm_ac trivial <|
  zm_ac trivial <|
  zm_ac trivial <|
  zm_ac trivial <|
  zm_ac trivial <|
  zm_ac trivial <|
  zm_ac trivial <|
  zm_ac trivial <|
  zm_ac (zm_jp rfl) <|
  zm_ac trivial <|
  zm_ac trivial <|
  zm_ac trivial <|
  zm_ac trivial <|
  zm_ac trivial <|
  zm_ac (zm_jp rfl) <|
  zm_ac trivial <|
  zm_ac zk_get_NameTree_FileTable_30 <|
  zm_ac (zm_jp rfl) <|
  zm_ac trivial <|
  zm_ac trivial <|
  zm_ac (zm_jp rfl) <|
  zm_ac trivial <|
  zm_ac trivial <|
  zm_an
set_option maxRecDepth 100000 in
set_option maxHeartbeats 4000000 in
theorem zs_5 : ∀ q ∈ zc5, zm_rs 5 q.1 q.2.1 q.2.2.2.1 q.2.2.2.2.1 q.2.2.2.2.2 :=
  zm_ac trivial <|
  zm_ac trivial <|
  zm_ac trivial <|
  zm_ac zk_get_NameTree_FileTable_11 <|
  zm_ac trivial <|
  zm_ac trivial <|
  zm_ac trivial <|
  zm_ac trivial <|
  zm_ac trivial <|
  zm_ac trivial <|
  zm_ac trivial <|
  zm_ac trivial <|
  zm_ac (zm_jp rfl) <|
  zm_ac trivial <|
  zm_ac trivial <|
  zm_ac trivial <|
  zm_ac trivial <|
  zm_ac trivial <|
  zm_ac (zm_jp rfl) <|
  zm_ac trivial <|
  zm_ac trivial <|
  zm_ac ⟨zk_virt_NameTree_FileTable_34, by decide, by decide⟩ <|
  zm_ac trivial <|
  zm_ac trivial <|
  zm_ac trivial <|
  zm_ac (zm_jp rfl) <|
  zm_ac trivial <|
  zm_ac trivial <|
  zm_an
set_option maxRecDepth 100000 in
set_option maxHeartbeats 4000000 in
theorem zs_6 : ∀ q ∈ zc6, zm_rs 6 q.1 q.2.1 q.2.2.2.1 q.2.2.2.2.1 q.2.2.2.2.2 :=
  zm_ac trivial <|
  zm_ac trivial <|
  zm_ac trivial <|
  zm_ac zk_get_NameTree_FileTable_11 <|
  zm_ac trivial <|
  zm_ac trivial <|
  zm_ac trivial <|
  zm_ac trivial <|
  zm_ac trivial <|
  zm_ac trivial <|
  zm_ac trivial <|
  zm_ac trivial <|
  zm_ac (zm_jp rfl) <|
  zm_ac trivial <|
  zm_ac trivial <|
  zm_ac trivial <|
  zm_ac trivial <|
  zm_ac trivial <|
  zm_ac (zm_jp rfl) <|
  zm_ac trivial <|
  zm_ac trivial <|
  zm_ac zk_get_NameTree_FileTable_20 <|
  zm_ac (zm_jp rfl) <|
  zm_ac trivial <|
  zm_ac zk_get_NameTree_FileTable_27 <|
  zm_ac trivial <|
  zm_ac (zm_jp rfl) <|
  zm_ac trivial <|
  zm_ac trivial <|
  zm_ac (zm_jp rfl) <|
  zm_ac trivial <|
  zm_ac trivial <|
  zm_an
set_option maxRecDepth 100000 in
set_option maxHeartbeats 4000000 in
theorem zs_7 : ∀ q ∈ zc7, zm_rs 7 q.1 q.2.1 q.2.2.2.1 q.2.2.2.2.1 q.2.2.2.2.2 :=
  zm_ac trivial <|
  zm_ac (Or.inl ⟨rfl, zk_obj_NameTree_NameRow_3, by decide, by decide⟩) <|
  zm_ac trivial <|
  zm_an
set_option maxRecDepth 100000 in
set_option maxHeartbeats 4000000 in
theorem zs_8 : ∀ q ∈ zc8, zm_rs 8 q.1 q.2.1 q.2.2.2.1 q.2.2.2.2.1 q.2.2.2.2.2 :=
  zm_ac trivial <|
  zm_ac zk_get_NameTree_NameRow_9 <|
  zm_ac (zm_jp rfl) <|
  zm_ac trivial <|
  zm_ac trivial <|
  zm_ac ⟨by decide, by decide, rfl, (zt_m1 35 rfl rfl), rfl, by decide⟩ <|
  zm_ac (zm_rp_any zk_put_NameTree_NameRow_9) <|
  zm_ac trivial <|
  zm_ac trivial <|
  zm_ac trivial <|
  zm_ac trivial <|
  zm_ac trivial <|
  zm_ac zk_get_NameTree_NameRow_9 <|
  zm_ac (Or.inr (Or.inr (Or.inr ⟨zk_stat_NameTree_NameRow_15, by decide, by decide⟩))) <|
  zm_ac (zm_rp_any zk_put_NameTree_NameRow_19) <|
  zm_ac trivial <|
  zm_an
set_option maxRecDepth 100000 in
set_option maxHeartbeats 4000000 in
theorem zs_9 : ∀ q ∈ zc9, zm_rs 9 q.1 q.2.1 q.2.2.2.1 q.2.2.2.2.1 q.2.2.2.2.2 :=
  zm_ac trivial <|
  zm_ac zk_get_NameTree_NameRow_9 <|
  zm_ac (zm_jp rfl) <|
  zm_ac trivial <|
  zm_ac (zm_jp rfl) <|
  zm_ac trivial <|
  zm_ac trivial <|
  zm_ac zk_get_NameTree_NameRow_19 <|
  zm_ac (zm_jp rfl) <|
  zm_ac trivial <|
  zm_ac trivial <|
  zm_ac zk_get_NameTree_NameRow_9 <|
  zm_ac trivial <|
  zm_ac (zm_jp rfl) <|
  zm_ac trivial <|
  zm_ac (zm_jp rfl) <|
  zm_ac trivial <|
  zm_ac trivial <|
  zm_ac trivial <|
  zm_ac trivial <|
  zm_ac trivial <|
  zm_ac (zm_jp rfl) <|
  zm_ac trivial <|
  zm_ac trivial <|
  zm_ac trivial <|
  zm_ac trivial <|
  zm_ac trivial <|
  zm_ac trivial <|
  zm_ac (zm_jp rfl) <|
  zm_ac trivial <|
  zm_ac zk_get_NameTree_NameRow_9 <|
  zm_ac trivial <|
  zm_ac trivial <|
  zm_ac trivial <|
  zm_ac trivial <|
  zm_ac trivial <|
  zm_ac trivial <|
  zm_ac trivial <|
  zm_ac (zm_jp rfl) <|
  zm_ac trivial <|
  zm_ac trivial <|
  zm_ac trivial <|
  zm_ac (zm_jp rfl) <|
  zm_ac trivial <|
  zm_ac trivial <|
  zm_an
set_option maxRecDepth 100000 in
set_option maxHeartbeats 4000000 in
theorem zs_10 : ∀ q ∈ zc10, zm_rs 10 q.1 q.2.1 q.2.2.2.1 q.2.2.2.2.1 q.2.2.2.2.2 :=
  zm_ac trivial <|
  zm_ac (Or.inl ⟨rfl, zk_obj_NameTree_NameTable_3, by decide, by decide⟩) <|
  zm_ac trivial <|
  zm_ac trivial <|
  zm_ac zk_anew_NameTree_NameTable_9 <|
  zm_ac zk_putF_NameTree_NameTable_11 <|
  zm_ac trivial <|
  zm_ac trivial <|
  zm_ac trivial <|
  zm_ac trivial <|
  zm_ac zk_get_NameTree_NameTable_11 <|
  zm_ac trivial <|
  zm_ac (zm_jp rfl) <|
  zm_ac trivial <|
  zm_ac zk_get_NameTree_NameTable_11 <|
  zm_ac trivial <|
  zm_ac ⟨zk_new_NameTree_NameTable_9, fun _ _ => rfl⟩ <|
  zm_ac trivial <|
  zm_ac (Or.inr ⟨zk_spec_NameTree_NameTable_17, by decide, by decide⟩) <|
  zm_ac trivial <|
  zm_ac trivial <|
  zm_ac (zm_jp rfl) <|
  zm_ac trivial <|
  zm_an
set_option maxRecDepth 100000 in
set_option maxHeartbeats 4000000 in
theorem zs_11 : ∀ q ∈ zc11, zm_rs 11 q.1 q.2.1 q.2.2.2.1 q.2.2.2.2.1 q.2.2.2.2.2 :=
  zm_ac trivial <|
  zm_ac trivial <|
  zm_ac trivial <|
  zm_ac trivial <|
  zm_ac zk_get_NameTree_NameTable_18 <|
  zm_ac (zm_jp rfl) <|
  zm_ac trivial <|
  zm_ac trivial <|
  zm_ac zk_get_NameTree_NameTable_11 <|
  zm_ac trivial <|
  zm_ac (zm_jp rfl) <|
  zm_ac trivial <|
  zm_ac zk_get_NameTree_NameTable_11 <|
  zm_ac trivial <|
  zm_ac trivial <|
  zm_ac trivial <|
  zm_ac trivial <|
  zm_ac (zm_jp rfl) <|
  zm_ac trivial <|
  zm_ac zk_get_NameTree_NameTable_22 <|
  zm_ac trivial <|
  zm_ac (zm_jp rfl) <|
  zm_ac trivial <|
  zm_ac trivial <|
  zm_ac trivial <|
  zm_ac trivial <|
  zm_ac ⟨zk_virt_NameTree_NameTable_26, by decide, by decide⟩ <|
  zm_ac (zm_jp rfl) <|
  zm_ac trivial <|
  zm_ac trivial <|
  zm_ac trivial <|
  zm_ac (zm_jp rfl) <|
  zm_ac trivial <|
  zm_ac trivial <|
  zm_an
set_option maxRecDepth 100000 in
set_option maxHeartbeats 4000000 in
theorem zs_12 : ∀ q ∈ zc12, zm_rs 12 q.1 q.2.1 q.2.2.2.1 q.2.2.2.2.1 q.2.2.2.2.2 :=
  zm_ac trivial <|
  zm_ac zk_get_NameTree_NameTable_18 <|
  zm_ac (zm_jp rfl) <|
  zm_ac trivial <|
  zm_ac zk_get_NameTree_NameTable_18 <|
  zm_ac trivial <|
  zm_ac zk_get_NameTree_NameTable_11 <|
  zm_ac trivial <|
  zm_ac (zm_jp rfl) <|
  zm_ac trivial <|
  zm_ac trivial <|
  zm_ac zk_get_NameTree_NameTable_11 <|
  zm_ac trivial <|
  zm_ac zk_get_NameTree_NameTable_18 <|
  zm_ac trivial <|
  zm_ac trivial <|
  zm_ac trivial <|
  zm_ac zk_get_NameTree_NameTable_30 <|
  zm_ac trivial <|
  zm_ac trivial <|
  zm_ac (zm_jp rfl) <|
  zm_ac trivial <|
  zm_ac (zm_jp rfl) <|
  zm_ac trivial <|
  zm_ac trivial <|
  zm_ac trivial <|
  zm_ac zk_get_NameTree_NameTable_18 <|
  zm_ac trivial <|
  zm_ac trivial <|
  zm_ac (zm_rp_any zk_put_NameTree_NameTable_18) <|
  zm_ac trivial <|
  zm_ac trivial <|
  zm_ac zk_get_NameTree_NameTable_33 <|
  zm_ac trivial <|
  zm_ac zk_get_NameTree_NameTable_37 <|
  zm_ac trivial <|
  zm_ac zk_get_NameTree_NameTable_40 <|
  zm_ac ⟨zk_virt_NameTree_NameTable_43, by decide, by decide⟩ <|
  zm_ac trivial <|
  zm_ac trivial <|
  zm_ac (zm_rp_any zk_put_NameTree_NameTable_22) <|
  zm_ac trivial <|
  zm_ac trivial <|
  zm_ac (zm_rp_any zk_put_NameTree_NameTable_47) <|
  zm_ac trivial <|
  zm_ac trivial <|
  zm_ac zk_get_NameTree_NameTable_50 <|
  zm_ac trivial <|
  zm_ac trivial <|
  zm_ac (zm_rp_any zk_put_NameTree_NameTable_50) <|
  zm_ac trivial <|
  zm_ac trivial <|
  zm_ac zk_get_NameTree_NameTable_55 <|
  zm_ac trivial <|
  zm_ac zk_get_NameTree_NameTable_50 <|
  zm_ac (Or.inl ⟨rfl, zk_max_NameTree_NameTable_58, by decide, by decide⟩) <|
  zm_ac (zm_rp_any zk_put_NameTree_NameTable_55) <|
  zm_ac trivial <|
  zm_ac trivial <|
  zm_ac zk_get_NameTree_NameTable_64 <|
  zm_ac trivial <|
  zm_ac trivial <|
  zm_ac (zm_rp_any zk_put_NameTree_NameTable_64) <|
  zm_ac trivial <|
  zm_ac zk_get_NameTree_NameTable_67 <|
  zm_ac trivial <|
  zm_ac (zm_jp rfl) <|
  zm_ac trivial <|
  zm_ac trivial <|
  zm_ac (zm_rp_any zk_put_NameTree_NameTable_70) <|
  zm_ac trivial <|
  zm_an
set_option maxRecDepth 100000 in
set_option maxHeartbeats 4000000 in
theorem zs_13 : ∀ q ∈ zc13, zm_rs 13 q.1 q.2.1 q.2.2.2.1 q.2.2.2.2.1 q.2.2.2.2.2 :=
  zm_ac trivial <|
  zm_ac zk_get_NameTree_NameTable_18 <|
  zm_ac trivial <|
  zm_ac trivial <|
  zm_ac trivial <|
  zm_ac trivial <|
  zm_ac trivial <|
  zm_ac trivial <|
  zm_ac trivial <|
  zm_ac (zm_jp rfl) <|
  zm_ac trivial <|
  zm_ac trivial <|
  zm_ac zk_get_NameTree_NameTable_11 <|
  zm_ac trivial <|
  zm_ac (zm_jp rfl) <|
  zm_ac trivial <|
  zm_ac zk_get_NameTree_NameTable_11 <|
  zm_ac trivial <|
  zm_ac trivial <|
  zm_ac trivial <|
  zm_ac (zm_jp rfl) <|
  zm_ac trivial <|
  zm_ac zk_get_NameTree_NameTable_11 <|
  zm_ac trivial <|
  zm_ac trivial <|
  zm_ac zk_get_NameTree_NameTable_11 <|
  zm_ac trivial <|
  zm_ac trivial <|
  zm_ac trivial <|
  zm_ac trivial <|
  zm_ac zk_get_NameTree_NameTable_11 <|
  zm_ac trivial <|
  zm_ac trivial <|
  zm_ac trivial <|
  zm_ac trivial <|
  zm_ac trivial <|
  zm_ac (zm_rp_any zk_put_NameTree_NameTable_18) <|
  zm_ac trivial <|
  zm_ac (Or.inr (Or.inr (Or.inr ⟨zk_stat_NameTree_NameTable_73, by decide, by decide⟩))) <|
  zm_ac trivial <|
  zm_ac trivial <|
  zm_ac (zm_jp rfl) <|
  zm_ac trivial <|
  zm_an
set_option maxRecDepth 100000 in
set_option maxHeartbeats 4000000 in
theorem zs_14 : ∀ q ∈ zc14, zm_rs 14 q.1 q.2.1 q.2.2.2.1 q.2.2.2.2.1 q.2.2.2.2.2 :=
  zm_ac trivial <|
  zm_ac (zm_jp rfl) <|
  zm_ac trivial <|
  zm_ac trivial <|
  zm_ac zk_get_NameTree_NameTable_22 <|
  zm_ac (zm_jp rfl) <|
  zm_ac trivial <|
  zm_ac zk_get_NameTree_NameTable_22 <|
  zm_ac trivial <|
  zm_ac zk_get_NameTree_NameTable_50 <|
  zm_ac trivial <|
  zm_ac trivial <|
  zm_ac (zm_rp_any zk_put_NameTree_NameTable_50) <|
  zm_ac trivial <|
  zm_ac zk_get_NameTree_NameTable_47 <|
  zm_ac (zm_jp rfl) <|
  zm_ac trivial <|
  zm_ac zk_get_NameTree_NameTable_47 <|
  zm_ac trivial <|
  zm_ac zk_get_NameTree_NameTable_64 <|
  zm_ac trivial <|
  zm_ac trivial <|
  zm_ac (zm_rp_any zk_put_NameTree_NameTable_64) <|
  zm_ac trivial <|
  zm_ac trivial <|
  zm_ac (zm_rp_any zk_put_NameTree_NameTable_22) <|
  zm_ac trivial <|
  zm_ac trivial <|
  zm_ac (zm_rp_any zk_put_NameTree_NameTable_47) <|
  zm_ac trivial <|
  zm_an
set_option maxRecDepth 100000 in
set_option maxHeartbeats 4000000 in
theorem zs_15 : ∀ q ∈ zc15, zm_rs 15 q.1 q.2.1 q.2.2.2.1 q.2.2.2.2.1 q.2.2.2.2.2 :=
  zm_ac trivial <|
  zm_ac (Or.inl ⟨rfl, zk_obj_NameTree_Span_3, by decide, by decide⟩) <|
  zm_ac trivial <|
  zm_an
set_option maxRecDepth 100000 in
set_option maxHeartbeats 4000000 in
theorem zs_16 : ∀ q ∈ zc16, zm_rs 16 q.1 q.2.1 q.2.2.2.1 q.2.2.2.2.1 q.2.2.2.2.2 :=
  zm_ac trivial <|
  zm_ac zk_get_NameTree_Span_9 <|
  zm_ac trivial <|
  zm_ac zk_get_NameTree_Span_15 <|
  zm_ac (zm_jp rfl) <|
  zm_ac trivial <|
  zm_ac trivial <|
  zm_ac zk_get_NameTree_Span_9 <|
  zm_ac trivial <|
  zm_ac ⟨zk_virt_NameTree_Span_18, by decide, by decide⟩ <|
  zm_ac (zm_jp rfl) <|
  zm_ac trivial <|
  zm_ac trivial <|
  zm_ac zk_get_NameTree_Span_9 <|
  zm_ac trivial <|
  zm_ac ⟨zk_virt_NameTree_Span_18, by decide, by decide⟩ <|
  zm_ac (zm_jp rfl) <|
  zm_ac trivial <|
  zm_ac zk_get_NameTree_Span_9 <|
  zm_ac trivial <|
  zm_ac trivial <|
  zm_ac trivial <|
  zm_ac zk_get_NameTree_Span_15 <|
  zm_ac (zm_jp rfl) <|
  zm_ac trivial <|
  zm_ac trivial <|
  zm_ac zk_get_NameTree_Span_9 <|
  zm_ac trivial <|
  zm_ac trivial <|
  zm_ac trivial <|
  zm_ac ⟨zk_virt_NameTree_Span_18, by decide, by decide⟩ <|
  zm_ac (zm_jp rfl) <|
  zm_ac trivial <|
  zm_ac (zm_jp rfl) <|
  zm_ac trivial <|
  zm_ac trivial <|
  zm_ac trivial <|
  zm_ac (zm_jp rfl) <|
  zm_ac trivial <|
  zm_ac trivial <|
  zm_ac trivial <|
  zm_ac trivial <|
  zm_ac zk_get_NameTree_Span_9 <|
  zm_ac trivial <|
  zm_ac trivial <|
  zm_ac (zm_rp_any zk_put_NameTree_Span_9) <|
  zm_ac (zm_jp rfl) <|
  zm_ac trivial <|
  zm_ac trivial <|
  zm_an
set_option maxRecDepth 100000 in
set_option maxHeartbeats 4000000 in
theorem zs_17 : ∀ q ∈ zc17, zm_rs 17 q.1 q.2.1 q.2.2.2.1 q.2.2.2.2.1 q.2.2.2.2.2 :=
  zm_ac trivial <|
  zm_ac zk_get_NameTree_Span_9 <|
  zm_ac trivial <|
  zm_ac zk_get_NameTree_Span_15 <|
  zm_ac (zm_jp rfl) <|
  zm_ac trivial <|
  zm_ac trivial <|
  zm_ac zk_get_NameTree_Span_9 <|
  zm_ac trivial <|
  zm_ac ⟨zk_virt_NameTree_Span_18, by decide, by decide⟩ <|
  zm_ac (zm_jp rfl) <|
  zm_ac trivial <|
  zm_ac trivial <|
  zm_ac zk_get_NameTree_Span_9 <|
  zm_ac trivial <|
  zm_ac trivial <|
  zm_ac (zm_rp_any zk_put_NameTree_Span_9) <|
  zm_ac (zm_jp rfl) <|
  zm_ac trivial <|
  zm_ac zk_get_NameTree_Span_9 <|
  zm_ac trivial <|
  zm_an
set_option maxRecDepth 100000 in
set_option maxHeartbeats 4000000 in
theorem zs_18 : ∀ q ∈ zc18, zm_rs 18 q.1 q.2.1 q.2.2.2.1 q.2.2.2.2.1 q.2.2.2.2.2 :=
  zm_ac trivial <|
  zm_ac zk_get_NameTree_Span_22 <|
  zm_ac (zm_jp rfl) <|
  zm_ac trivial <|
  zm_ac (zm_jp rfl) <|
  zm_ac trivial <|
  zm_ac trivial <|
  zm_ac zk_get_NameTree_Span_22 <|
  zm_ac trivial <|
  zm_ac (zm_jp rfl) <|
  zm_ac trivial <|
  zm_ac zk_get_NameTree_Span_22 <|
  zm_ac trivial <|
  zm_ac trivial <|
  zm_ac trivial <|
  zm_ac (zm_jp rfl) <|
  zm_ac trivial <|
  zm_ac (zm_jp rfl) <|
  zm_ac trivial <|
  zm_ac trivial <|
  zm_an
set_option maxRecDepth 100000 in
set_option maxHeartbeats 4000000 in
theorem zs_19 : ∀ q ∈ zc19, zm_rs 19 q.1 q.2.1 q.2.2.2.1 q.2.2.2.2.1 q.2.2.2.2.2 :=
  zm_ac trivial <|
  zm_ac (Or.inl ⟨rfl, zk_obj_NameTree_Tape_3, by decide, by decide⟩) <|
  zm_ac trivial <|
  zm_ac trivial <|
  zm_ac ⟨by decide, by decide, rfl, (zt_m1 35 rfl rfl), rfl, by decide⟩ <|
  zm_ac zk_putF_NameTree_Tape_9 <|
  zm_ac trivial <|
  zm_an
set_option maxRecDepth 100000 in
set_option maxHeartbeats 4000000 in
theorem zs_20 : ∀ q ∈ zc20, zm_rs 20 q.1 q.2.1 q.2.2.2.1 q.2.2.2.2.1 q.2.2.2.2.2 :=
  zm_ac trivial <|
  zm_ac trivial <|
  zm_ac trivial <|
  zm_ac zk_get_NameTree_Tape_15 <|
  zm_ac trivial <|
  zm_ac (zm_jp rfl) <|
  zm_ac trivial <|
  zm_ac (zm_jp rfl) <|
  zm_ac trivial <|
  zm_ac trivial <|
  zm_an
set_option maxRecDepth 100000 in
set_option maxHeartbeats 4000000 in
theorem zs_21 : ∀ q ∈ zc21, zm_rs 21 q.1 q.2.1 q.2.2.2.1 q.2.2.2.2.1 q.2.2.2.2.2 :=
  zm_ac trivial <|
  zm_ac zk_get_NameTree_Tape_15 <|
  zm_ac (zm_jp rfl) <|
  zm_ac trivial <|
  zm_ac zk_get_NameTree_Tape_15 <|
  zm_ac trivial <|
  zm_ac zk_get_NameTree_Tape_9 <|
  zm_ac trivial <|
  zm_ac (zm_jp rfl) <|
  zm_ac trivial <|
  zm_ac zk_get_NameTree_Tape_9 <|
  zm_ac trivial <|
  zm_ac zk_get_NameTree_Tape_15 <|
  zm_ac trivial <|
  zm_ac trivial <|
  zm_ac trivial <|
  zm_ac trivial <|
  zm_ac zk_get_NameTree_Tape_15 <|
  zm_ac trivial <|
  zm_ac trivial <|
  zm_ac (zm_rp_any zk_put_NameTree_Tape_15) <|
  zm_ac trivial <|
  zm_an
set_option maxRecDepth 100000 in
set_option maxHeartbeats 4000000 in
theorem zs_22 : ∀ q ∈ zc22, zm_rs 22 q.1 q.2.1 q.2.2.2.1 q.2.2.2.2.1 q.2.2.2.2.2 :=
  zm_ac trivial <|
  zm_ac zk_get_NameTree_Tape_15 <|
  zm_ac trivial <|
  zm_ac trivial <|
  zm_ac trivial <|
  zm_ac (zm_rp_any zk_put_NameTree_Tape_15) <|
  zm_ac trivial <|
  zm_ac trivial <|
  zm_an
set_option maxRecDepth 100000 in
set_option maxHeartbeats 4000000 in
theorem zs_23 : ∀ q ∈ zc23, zm_rs 23 q.1 q.2.1 q.2.2.2.1 q.2.2.2.2.1 q.2.2.2.2.2 :=
  zm_ac trivial <|
  zm_ac trivial <|
  zm_ac trivial <|
  zm_ac ⟨zk_virt_NameTree_Tape_19, by decide, by decide⟩ <|
  zm_ac (zm_jp rfl) <|
  zm_ac trivial <|
  zm_ac (zm_jp rfl) <|
  zm_ac trivial <|
  zm_ac trivial <|
  zm_an
set_option maxRecDepth 100000 in
set_option maxHeartbeats 4000000 in
theorem zs_24 : ∀ q ∈ zc24, zm_rs 24 q.1 q.2.1 q.2.2.2.1 q.2.2.2.2.1 q.2.2.2.2.2 :=
  zm_ac trivial <|
  zm_ac trivial <|
  zm_ac trivial <|
  zm_ac ⟨zk_virt_NameTree_Tape_19, by decide, by decide⟩ <|
  zm_ac trivial <|
  zm_ac trivial <|
  zm_ac (zm_jp rfl) <|
  zm_ac trivial <|
  zm_ac trivial <|
  zm_ac trivial <|
  zm_ac trivial <|
  zm_ac trivial <|
  zm_ac ⟨zk_virt_NameTree_Tape_19, by decide, by decide⟩ <|
  zm_ac (zm_jp rfl) <|
  zm_ac trivial <|
  zm_ac (zm_jp rfl) <|
  zm_ac trivial <|
  zm_ac trivial <|
  zm_an
set_option maxRecDepth 100000 in
set_option maxHeartbeats 4000000 in
theorem zs_25 : ∀ q ∈ zc25, zm_rs 25 q.1 q.2.1 q.2.2.2.1 q.2.2.2.2.1 q.2.2.2.2.2 :=
  zm_ac trivial <|
  zm_ac trivial <|
  zm_ac trivial <|
  zm_ac (zm_jp rfl) <|
  zm_ac trivial <|
  zm_ac trivial <|
  zm_ac (zm_jp rfl) <|
  zm_ac trivial <|
  zm_ac trivial <|
  zm_ac zk_get_NameTree_Tape_9 <|
  zm_ac trivial <|
  zm_ac (zm_jp rfl) <|
  zm_ac trivial <|
  zm_ac zk_get_NameTree_Tape_9 <|
  zm_ac trivial <|
  zm_ac trivial <|
  zm_ac (zm_jp rfl) <|
  zm_ac trivial <|
  zm_ac trivial <|
  zm_ac trivial <|
  zm_ac (zm_jp rfl) <|
  zm_ac trivial <|
  zm_ac trivial <|
  zm_an
set_option maxRecDepth 100000 in
set_option maxHeartbeats 4000000 in
theorem zs_26 : ∀ q ∈ zc26, zm_rs 26 q.1 q.2.1 q.2.2.2.1 q.2.2.2.2.1 q.2.2.2.2.2 :=
  zm_ac trivial <|
  zm_ac (Or.inl ⟨rfl, zk_obj_NameTree_TreeFile_3, by decide, by decide⟩) <|
  zm_ac trivial <|
  zm_ac trivial <|
  zm_ac zk_putF_NameTree_TreeFile_9 <|
  zm_ac trivial <|
  zm_an
set_option maxRecDepth 100000 in
set_option maxHeartbeats 4000000 in
theorem zs_27 : ∀ q ∈ zc27, zm_rs 27 q.1 q.2.1 q.2.2.2.1 q.2.2.2.2.1 q.2.2.2.2.2 :=
  zm_ac trivial <|
  zm_ac trivial <|
  zm_ac (zm_rp_any zk_put_NameTree_TreeFile_15) <|
  zm_ac trivial <|
  zm_ac trivial <|
  zm_ac (zm_rp_any zk_put_NameTree_TreeFile_18) <|
  zm_ac trivial <|
  zm_ac trivial <|
  zm_ac (zm_rp_any zk_put_NameTree_TreeFile_21) <|
  zm_ac trivial <|
  zm_ac trivial <|
  zm_ac (zm_rp_any zk_put_NameTree_TreeFile_24) <|
  zm_ac trivial <|
  zm_ac trivial <|
  zm_ac (zm_rp_any zk_put_NameTree_TreeFile_27) <|
  zm_ac trivial <|
  zm_ac trivial <|
  zm_ac (zm_rp_any zk_put_NameTree_TreeFile_30) <|
  zm_ac trivial <|
  zm_ac trivial <|
  zm_ac (zm_rp_any zk_put_NameTree_TreeFile_34) <|
  zm_ac trivial <|
  zm_an
set_option maxRecDepth 100000 in
set_option maxHeartbeats 4000000 in
theorem zs_28 : ∀ q ∈ zc28, zm_rs 28 q.1 q.2.1 q.2.2.2.1 q.2.2.2.2.1 q.2.2.2.2.2 :=
  zm_ac trivial <|
  zm_ac zk_get_NameTree_TreeFile_37 <|
  zm_ac (zm_jp rfl) <|
  zm_ac trivial <|
  zm_ac trivial <|
  zm_ac ⟨by decide, by decide, rfl, (zt_m1 35 rfl rfl), rfl, by decide⟩ <|
  zm_ac (zm_rp_any zk_put_NameTree_TreeFile_37) <|
  zm_ac trivial <|
  zm_ac trivial <|
  zm_ac trivial <|
  zm_ac trivial <|
  zm_ac trivial <|
  zm_ac zk_get_NameTree_TreeFile_37 <|
  zm_ac (Or.inr (Or.inr (Or.inr ⟨zk_stat_NameTree_TreeFile_41, by decide, by decide⟩))) <|
  zm_ac (zm_rp_any zk_put_NameTree_TreeFile_34) <|
  zm_ac trivial <|
  zm_an
set_option maxRecDepth 100000 in
set_option maxHeartbeats 4000000 in
theorem zs_29 : ∀ q ∈ zc29, zm_rs 29 q.1 q.2.1 q.2.2.2.1 q.2.2.2.2.1 q.2.2.2.2.2 :=
  zm_ac trivial <|
  zm_ac zk_get_NameTree_TreeFile_15 <|
  zm_ac trivial <|
  zm_ac (zm_jp rfl) <|
  zm_ac trivial <|
  zm_ac zk_get_NameTree_TreeFile_37 <|
  zm_ac (zm_jp rfl) <|
  zm_ac trivial <|
  zm_ac (zm_jp rfl) <|
  zm_ac trivial <|
  zm_ac trivial <|
  zm_ac zk_get_NameTree_TreeFile_34 <|
  zm_ac (zm_jp rfl) <|
  zm_ac trivial <|
  zm_ac trivial <|
  zm_ac zk_get_NameTree_TreeFile_37 <|
  zm_ac trivial <|
  zm_ac (zm_jp rfl) <|
  zm_ac trivial <|
  zm_ac trivial <|
  zm_ac trivial <|
  zm_ac zk_get_NameTree_TreeFile_37 <|
  zm_ac trivial <|
  zm_ac trivial <|
  zm_ac trivial <|
  zm_ac trivial <|
  zm_ac trivial <|
  zm_an
set_option maxRecDepth 100000 in
set_option maxHeartbeats 4000000 in
theorem zs_30 : ∀ q ∈ zc30, zm_rs 30 q.1 q.2.1 q.2.2.2.1 q.2.2.2.2.1 q.2.2.2.2.2 :=
  zm_ac trivial <|
  zm_ac zk_get_NameTree_TreeFile_15 <|
  zm_ac (zm_tsw (by decide) (by decide) (by decide) (by decide)) <|
  zm_ac trivial <|
  zm_ac trivial <|
  zm_ac trivial <|
  zm_ac zk_get_NameTree_TreeFile_27 <|
  zm_ac (Or.inr (Or.inr (Or.inr ⟨zk_stat_NameTree_TreeFile_45, by decide, by decide⟩))) <|
  zm_ac trivial <|
  zm_ac trivial <|
  zm_ac zk_get_NameTree_TreeFile_34 <|
  zm_ac (Or.inr (Or.inr (Or.inr ⟨zk_stat_NameTree_TreeFile_49, by decide, by decide⟩))) <|
  zm_ac trivial <|
  zm_ac trivial <|
  zm_ac trivial <|
  zm_an
set_option maxRecDepth 100000 in
set_option maxHeartbeats 4000000 in
theorem zs_31 : ∀ q ∈ zc31, zm_rs 31 q.1 q.2.1 q.2.2.2.1 q.2.2.2.2.1 q.2.2.2.2.2 :=
  zm_ac trivial <|
  zm_ac zk_get_NameTree_TreeFile_27 <|
  zm_ac trivial <|
  zm_ac zk_get_NameTree_TreeFile_24 <|
  zm_ac trivial <|
  zm_ac trivial <|
  zm_ac (Or.inl ⟨rfl, zk_max_NameTree_TreeFile_52, by decide, by decide⟩) <|
  zm_ac (Or.inr (Or.inr (Or.inr ⟨zk_stat_NameTree_TreeFile_45, by decide, by decide⟩))) <|
  zm_ac trivial <|
  zm_ac zk_get_NameTree_TreeFile_27 <|
  zm_ac (Or.inr (Or.inr (Or.inr ⟨zk_stat_NameTree_TreeFile_45, by decide, by decide⟩))) <|
  zm_ac trivial <|
  zm_ac trivial <|
  zm_an
set_option maxRecDepth 100000 in
set_option maxHeartbeats 4000000 in
theorem zs_32 : ∀ q ∈ zc32, zm_rs 32 q.1 q.2.1 q.2.2.2.1 q.2.2.2.2.1 q.2.2.2.2.2 :=
  zm_ac trivial <|
  zm_ac zk_get_NameTree_TreeFile_15 <|
  zm_ac (zm_tsw (by decide) (by decide) (by decide) (by decide)) <|
  zm_ac trivial <|
  zm_ac zk_get_NameTree_TreeFile_21 <|
  zm_ac trivial <|
  zm_ac trivial <|
  zm_ac zk_get_NameTree_TreeFile_24 <|
  zm_ac trivial <|
  zm_ac trivial <|
  zm_ac zk_get_NameTree_TreeFile_34 <|
  zm_ac trivial <|
  zm_ac trivial <|
  zm_ac trivial <|
  zm_an
set_option maxRecDepth 100000 in
set_option maxHeartbeats 4000000 in
theorem zs_33 : ∀ q ∈ zc33, zm_rs 33 q.1 q.2.1 q.2.2.2.1 q.2.2.2.2.1 q.2.2.2.2.2 :=
  zm_ac trivial <|
  zm_ac zk_get_NameTree_TreeFile_18 <|
  zm_ac (zm_jp rfl) <|
  zm_ac trivial <|
  zm_ac zk_get_NameTree_TreeFile_21 <|
  zm_ac (zm_jp rfl) <|
  zm_ac trivial <|
  zm_ac trivial <|
  zm_ac ⟨zk_virt_NameTree_TreeFile_58, by decide, by decide⟩ <|
  zm_ac trivial <|
  zm_an
set_option maxRecDepth 100000 in
set_option maxHeartbeats 4000000 in
theorem zs_34 : ∀ q ∈ zc34, zm_rs 34 q.1 q.2.1 q.2.2.2.1 q.2.2.2.2.1 q.2.2.2.2.2 :=
  zm_ac trivial <|
  zm_ac (Or.inl ⟨rfl, zk_obj_NameTree_Walk_3, by decide, by decide⟩) <|
  zm_ac trivial <|
  zm_ac trivial <|
  zm_ac zk_anew_NameTree_Walk_9 <|
  zm_ac zk_putF_NameTree_Walk_11 <|
  zm_ac trivial <|
  zm_ac trivial <|
  zm_ac zk_putF_NameTree_Walk_17 <|
  zm_ac trivial <|
  zm_ac trivial <|
  zm_ac zk_putF_NameTree_Walk_21 <|
  zm_ac trivial <|
  zm_ac trivial <|
  zm_ac trivial <|
  zm_ac trivial <|
  zm_ac zk_get_NameTree_Walk_11 <|
  zm_ac trivial <|
  zm_ac (zm_jp rfl) <|
  zm_ac trivial <|
  zm_ac zk_get_NameTree_Walk_11 <|
  zm_ac trivial <|
  zm_ac ⟨zk_new_NameTree_Walk_9, fun _ _ => rfl⟩ <|
  zm_ac trivial <|
  zm_ac (Or.inr ⟨zk_spec_NameTree_Walk_25, by decide, by decide⟩) <|
  zm_ac trivial <|
  zm_ac trivial <|
  zm_ac (zm_jp rfl) <|
  zm_ac trivial <|
  zm_an
set_option maxRecDepth 100000 in
set_option maxHeartbeats 4000000 in
theorem zs_35 : ∀ q ∈ zc35, zm_rs 35 q.1 q.2.1 q.2.2.2.1 q.2.2.2.2.1 q.2.2.2.2.2 :=
  zm_ac trivial <|
  zm_ac trivial <|
  zm_ac trivial <|
  zm_ac trivial <|
  zm_ac trivial <|
  zm_ac ⟨zk_virt_NameTree_Walk_26, by decide, by decide⟩ <|
  zm_ac trivial <|
  zm_ac trivial <|
  zm_ac (zm_jp rfl) <|
  zm_ac trivial <|
  zm_ac trivial <|
  zm_ac trivial <|
  zm_ac zk_get_NameTree_Walk_30 <|
  zm_ac (zm_jp rfl) <|
  zm_ac trivial <|
  zm_ac ⟨zk_virt_NameTree_Walk_34, by decide, by decide⟩ <|
  zm_ac (zm_jp rfl) <|
  zm_ac trivial <|
  zm_ac (zm_jp rfl) <|
  zm_ac trivial <|
  zm_ac trivial <|
  zm_an
set_option maxRecDepth 100000 in
set_option maxHeartbeats 4000000 in
theorem zs_36 : ∀ q ∈ zc36, zm_rs 36 q.1 q.2.1 q.2.2.2.1 q.2.2.2.2.1 q.2.2.2.2.2 :=
  zm_ac trivial <|
  zm_ac ⟨zk_virt_NameTree_Walk_38, by decide, by decide⟩ <|
  zm_ac trivial <|
  zm_ac trivial <|
  zm_ac trivial <|
  zm_ac trivial <|
  zm_ac ⟨zk_virt_NameTree_Walk_41, by decide, by decide⟩ <|
  zm_ac trivial <|
  zm_ac trivial <|
  zm_ac trivial <|
  zm_ac ⟨_, _, rfl, zk_ldc_NameTree_Walk_45⟩ <|
  zm_ac (zm_jp rfl) <|
  zm_ac trivial <|
  zm_ac ⟨zk_virt_NameTree_Walk_46, by decide, by decide⟩ <|
  zm_ac (zm_jp rfl) <|
  zm_ac trivial <|
  zm_ac ⟨zk_virt_NameTree_Walk_49, by decide, by decide⟩ <|
  zm_ac trivial <|
  zm_ac trivial <|
  zm_ac ⟨zk_virt_NameTree_Walk_46, by decide, by decide⟩ <|
  zm_ac (zm_jp rfl) <|
  zm_ac trivial <|
  zm_ac (zm_jp rfl) <|
  zm_ac trivial <|
  zm_ac trivial <|
  zm_ac ⟨zk_virt_NameTree_Walk_52, by decide, by decide⟩ <|
  zm_ac trivial <|
  zm_ac trivial <|
  zm_ac (zm_jp rfl) <|
  zm_ac trivial <|
  zm_ac trivial <|
  zm_ac trivial <|
  zm_ac (zm_jp rfl) <|
  zm_ac trivial <|
  zm_ac trivial <|
  zm_an
set_option maxRecDepth 100000 in
set_option maxHeartbeats 4000000 in
theorem zs_37 : ∀ q ∈ zc37, zm_rs 37 q.1 q.2.1 q.2.2.2.1 q.2.2.2.2.1 q.2.2.2.2.2 :=
  zm_ac trivial <|
  zm_ac trivial <|
  zm_ac (zm_rp_any zk_put_NameTree_Walk_56) <|
  zm_ac trivial <|
  zm_ac trivial <|
  zm_ac (zm_rp_any zk_put_NameTree_Walk_59) <|
  zm_ac trivial <|
  zm_ac trivial <|
  zm_ac (zm_rp_any zk_put_NameTree_Walk_62) <|
  zm_ac trivial <|
  zm_ac trivial <|
  zm_ac (zm_rp_any zk_put_NameTree_Walk_66) <|
  zm_ac trivial <|
  zm_ac trivial <|
  zm_ac (zm_rp_any zk_put_NameTree_Walk_30) <|
  zm_ac trivial <|
  zm_ac trivial <|
  zm_ac zk_get_NameTree_Walk_17 <|
  zm_ac (zm_rp_any zk_put_NameTree_Walk_69) <|
  zm_ac trivial <|
  zm_ac trivial <|
  zm_ac (zm_rp_any zk_put_NameTree_Walk_72) <|
  zm_ac trivial <|
  zm_ac trivial <|
  zm_ac zk_get_NameTree_Walk_17 <|
  zm_ac (zm_rp_any zk_put_NameTree_Walk_76) <|
  zm_ac trivial <|
  zm_an
set_option maxRecDepth 100000 in
set_option maxHeartbeats 4000000 in
theorem zs_38 : ∀ q ∈ zc38, zm_rs 38 q.1 q.2.1 q.2.2.2.1 q.2.2.2.2.1 q.2.2.2.2.2 :=
  zm_ac trivial <|
  zm_ac zk_get_NameTree_Walk_56 <|
  zm_ac (zm_jp rfl) <|
  zm_ac trivial <|
  zm_ac zk_get_NameTree_Walk_56 <|
  zm_ac trivial <|
  zm_ac zk_get_NameTree_Walk_11 <|
  zm_ac trivial <|
  zm_ac (zm_jp rfl) <|
  zm_ac trivial <|
  zm_ac zk_get_NameTree_Walk_11 <|
  zm_ac trivial <|
  zm_ac zk_get_NameTree_Walk_56 <|
  zm_ac trivial <|
  zm_ac (zm_jp rfl) <|
  zm_ac trivial <|
  zm_ac trivial <|
  zm_ac zk_get_NameTree_Walk_11 <|
  zm_ac trivial <|
  zm_ac zk_get_NameTree_Walk_56 <|
  zm_ac trivial <|
  zm_ac trivial <|
  zm_ac trivial <|
  zm_ac trivial <|
  zm_ac (zm_rp_any zk_put_NameTree_Walk_79) <|
  zm_ac trivial <|
  zm_ac trivial <|
  zm_ac (zm_rp_any zk_put_NameTree_Walk_82) <|
  zm_ac trivial <|
  zm_ac trivial <|
  zm_ac (zm_rp_any zk_put_NameTree_Walk_85) <|
  zm_ac trivial <|
  zm_ac trivial <|
  zm_ac zk_get_NameTree_Walk_56 <|
  zm_ac trivial <|
  zm_ac trivial <|
  zm_ac (zm_rp_any zk_put_NameTree_Walk_56) <|
  zm_ac trivial <|
  zm_an
set_option maxRecDepth 100000 in
set_option maxHeartbeats 4000000 in
theorem zs_39 : ∀ q ∈ zc39, zm_rs 39 q.1 q.2.1 q.2.2.2.1 q.2.2.2.2.1 q.2.2.2.2.2 :=
  zm_ac trivial <|
  zm_ac zk_get_NameTree_Walk_56 <|
  zm_ac (zm_jp rfl) <|
  zm_ac trivial <|
  zm_ac ⟨zk_virt_NameTree_Walk_88, by decide, by decide⟩ <|
  zm_ac trivial <|
  zm_ac trivial <|
  zm_ac (zm_jp rfl) <|
  zm_ac trivial <|
  zm_ac ⟨zk_virt_NameTree_Walk_92, by decide, by decide⟩ <|
  zm_ac (zm_jp rfl) <|
  zm_ac trivial <|
  zm_ac trivial <|
  zm_ac trivial <|
  zm_ac trivial <|
  zm_ac zk_get_NameTree_Walk_56 <|
  zm_ac trivial <|
  zm_ac trivial <|
  zm_ac (zm_rp_any zk_put_NameTree_Walk_56) <|
  zm_ac (zm_jp rfl) <|
  zm_ac trivial <|
  zm_ac trivial <|
  zm_an
set_option maxRecDepth 100000 in
set_option maxHeartbeats 4000000 in
theorem zs_40 : ∀ q ∈ zc40, zm_rs 40 q.1 q.2.1 q.2.2.2.1 q.2.2.2.2.1 q.2.2.2.2.2 :=
  zm_ac trivial <|
  zm_ac zk_get_NameTree_Walk_56 <|
  zm_ac (zm_jp rfl) <|
  zm_ac trivial <|
  zm_ac zk_get_NameTree_Walk_56 <|
  zm_ac trivial <|
  zm_ac zk_get_NameTree_Walk_11 <|
  zm_ac trivial <|
  zm_ac (zm_jp rfl) <|
  zm_ac trivial <|
  zm_ac zk_get_NameTree_Walk_11 <|
  zm_ac trivial <|
  zm_ac zk_get_NameTree_Walk_56 <|
  zm_ac trivial <|
  zm_ac trivial <|
  zm_ac trivial <|
  zm_ac (zm_jp rfl) <|
  zm_ac trivial <|
  zm_ac trivial <|
  zm_an
set_option maxRecDepth 100000 in
set_option maxHeartbeats 4000000 in
theorem zs_41 : ∀ q ∈ zc41, zm_rs 41 q.1 q.2.1 q.2.2.2.1 q.2.2.2.2.1 q.2.2.2.2.2 :=
  zm_ac trivial <|
  zm_ac ⟨zk_virt_NameTree_Walk_88, by decide, by decide⟩ <|
  zm_ac trivial <|
  zm_ac trivial <|
  zm_ac (zm_jp rfl) <|
  zm_ac trivial <|
  zm_ac trivial <|
  zm_ac zk_get_NameTree_Walk_79 <|
  zm_ac (zm_rp_any zk_put_NameTree_Walk_62) <|
  zm_ac trivial <|
  zm_ac trivial <|
  zm_ac zk_get_NameTree_Walk_82 <|
  zm_ac (zm_rp_any zk_put_NameTree_Walk_66) <|
  zm_ac trivial <|
  zm_ac trivial <|
  zm_ac ⟨zk_virt_NameTree_Walk_95, by decide, by decide⟩ <|
  zm_ac trivial <|
  zm_ac zk_get_NameTree_Walk_66 <|
  zm_ac trivial <|
  zm_ac (zm_rp_any zk_put_NameTree_Walk_30) <|
  zm_ac trivial <|
  zm_an
set_option maxRecDepth 100000 in
set_option maxHeartbeats 4000000 in
theorem zs_42 : ∀ q ∈ zc42, zm_rs 42 q.1 q.2.1 q.2.2.2.1 q.2.2.2.2.1 q.2.2.2.2.2 :=
  zm_ac trivial <|
  zm_ac zk_get_NameTree_Walk_30 <|
  zm_ac trivial <|
  zm_ac (zm_jp rfl) <|
  zm_ac trivial <|
  zm_ac trivial <|
  zm_ac trivial <|
  zm_ac zk_get_NameTree_Walk_76 <|
  zm_ac (zm_jp rfl) <|
  zm_ac trivial <|
  zm_ac zk_get_NameTree_Walk_76 <|
  zm_ac zk_get_NameTree_Walk_99 <|
  zm_ac trivial <|
  zm_ac (zm_jp rfl) <|
  zm_ac trivial <|
  zm_ac trivial <|
  zm_ac trivial <|
  zm_ac trivial <|
  zm_ac zk_get_NameTree_Walk_76 <|
  zm_ac (zm_rp_any zk_put_NameTree_Walk_69) <|
  zm_ac trivial <|
  zm_ac ⟨zk_virt_NameTree_Walk_34, by decide, by decide⟩ <|
  zm_ac (zm_jp rfl) <|
  zm_ac trivial <|
  zm_ac trivial <|
  zm_ac (zm_rp_any zk_put_NameTree_Walk_72) <|
  zm_ac trivial <|
  zm_ac trivial <|
  zm_ac zk_get_NameTree_Walk_69 <|
  zm_ac zk_get_NameTree_Walk_104 <|
  zm_ac (zm_rp_any zk_put_NameTree_Walk_76) <|
  zm_ac trivial <|
  zm_ac trivial <|
  zm_ac trivial <|
  zm_ac trivial <|
  zm_ac zk_get_NameTree_Walk_21 <|
  zm_ac trivial <|
  zm_ac zk_get_NameTree_Walk_69 <|
  zm_ac trivial <|
  zm_ac zk_get_NameTree_Walk_62 <|
  zm_ac trivial <|
  zm_ac zk_get_NameTree_Walk_66 <|
  zm_ac trivial <|
  zm_ac zk_get_NameTree_Walk_30 <|
  zm_ac ⟨zk_virt_NameTree_Walk_107, by decide, by decide⟩ <|
  zm_ac (zm_rp_any zk_put_NameTree_Walk_72) <|
  zm_ac trivial <|
  zm_ac zk_get_NameTree_Walk_72 <|
  zm_ac (zm_jp rfl) <|
  zm_ac trivial <|
  zm_ac trivial <|
  zm_ac (zm_rp_any zk_put_NameTree_Walk_76) <|
  zm_ac trivial <|
  zm_ac (zm_jp rfl) <|
  zm_ac trivial <|
  zm_ac (zm_jp rfl) <|
  zm_ac trivial <|
  zm_ac trivial <|
  zm_ac trivial <|
  zm_ac trivial <|
  zm_ac zk_get_NameTree_Walk_72 <|
  zm_ac zk_get_NameTree_Walk_113 <|
  zm_ac (zm_rp_any zk_put_NameTree_Walk_76) <|
  zm_ac trivial <|
  zm_ac zk_get_NameTree_Walk_76 <|
  zm_ac (zm_jp rfl) <|
  zm_ac trivial <|
  zm_ac zk_get_NameTree_Walk_76 <|
  zm_ac zk_get_NameTree_Walk_99 <|
  zm_ac trivial <|
  zm_ac (zm_jp rfl) <|
  zm_ac trivial <|
  zm_ac (zm_jp rfl) <|
  zm_ac trivial <|
  zm_ac (zm_jp rfl) <|
  zm_ac trivial <|
  zm_ac (zm_jp rfl) <|
  zm_ac trivial <|
  zm_ac trivial <|
  zm_ac trivial <|
  zm_ac (zm_jp rfl) <|
  zm_ac trivial <|
  zm_ac trivial <|
  zm_ac zk_get_NameTree_Walk_76 <|
  zm_ac ⟨zk_virt_NameTree_Walk_118, by decide, by decide⟩ <|
  zm_ac (zm_jp rfl) <|
  zm_ac trivial <|
  zm_ac trivial <|
  zm_an
set_option maxRecDepth 100000 in
set_option maxHeartbeats 4000000 in
theorem zs_43 : ∀ q ∈ zc43, zm_rs 43 q.1 q.2.1 q.2.2.2.1 q.2.2.2.2.1 q.2.2.2.2.2 :=
  zm_ac trivial <|
  zm_ac zk_get_NameTree_Walk_59 <|
  zm_ac trivial <|
  zm_ac (zm_jp rfl) <|
  zm_ac trivial <|
  zm_ac trivial <|
  zm_ac trivial <|
  zm_ac trivial <|
  zm_ac zk_get_NameTree_Walk_59 <|
  zm_ac trivial <|
  zm_ac trivial <|
  zm_ac (zm_rp_any zk_put_NameTree_Walk_59) <|
  zm_ac trivial <|
  zm_ac trivial <|
  zm_ac zk_get_NameTree_Walk_122 <|
  zm_ac trivial <|
  zm_ac trivial <|
  zm_ac zk_get_NameTree_Walk_125 <|
  zm_ac ⟨zk_virt_NameTree_Walk_41, by decide, by decide⟩ <|
  zm_ac trivial <|
  zm_ac trivial <|
  zm_ac trivial <|
  zm_ac ⟨zk_virt_NameTree_Walk_128, by decide, by decide⟩ <|
  zm_ac trivial <|
  zm_ac (zm_jp rfl) <|
  zm_ac trivial <|
  zm_ac zk_get_NameTree_Walk_17 <|
  zm_ac (zm_jp rfl) <|
  zm_ac trivial <|
  zm_ac zk_get_NameTree_Walk_69 <|
  zm_ac (zm_rp_any zk_put_NameTree_Walk_76) <|
  zm_ac trivial <|
  zm_ac trivial <|
  zm_an
set_option maxRecDepth 100000 in
set_option maxHeartbeats 4000000 in
theorem zs_44 : ∀ q ∈ zc44, zm_rs 44 q.1 q.2.1 q.2.2.2.1 q.2.2.2.2.1 q.2.2.2.2.2 :=
  zm_ac trivial <|
  zm_ac zk_get_NameTree_Walk_30 <|
  zm_ac trivial <|
  zm_ac (zm_jp rfl) <|
  zm_ac trivial <|
  zm_ac zk_get_NameTree_Walk_62 <|
  zm_ac (zm_jp rfl) <|
  zm_ac trivial <|
  zm_ac zk_get_NameTree_Walk_66 <|
  zm_ac (zm_jp rfl) <|
  zm_ac trivial <|
  zm_ac zk_get_NameTree_Walk_66 <|
  zm_ac trivial <|
  zm_ac zk_get_NameTree_Walk_62 <|
  zm_ac trivial <|
  zm_ac trivial <|
  zm_ac trivial <|
  zm_ac (zm_jp rfl) <|
  zm_ac trivial <|
  zm_ac zk_get_NameTree_Walk_62 <|
  zm_ac trivial <|
  zm_ac zk_get_NameTree_Walk_66 <|
  zm_ac trivial <|
  zm_ac trivial <|
  zm_ac (zm_jp rfl) <|
  zm_ac trivial <|
  zm_ac zk_get_NameTree_Walk_62 <|
  zm_ac trivial <|
  zm_ac zk_get_NameTree_Walk_66 <|
  zm_ac trivial <|
  zm_ac trivial <|
  zm_ac trivial <|
  zm_ac trivial <|
  zm_ac (zm_jp rfl) <|
  zm_ac trivial <|
  zm_ac (zm_jp rfl) <|
  zm_ac trivial <|
  zm_ac trivial <|
  zm_an
set_option maxRecDepth 100000 in
set_option maxHeartbeats 4000000 in
theorem zs_45 : ∀ q ∈ zc45, zm_rs 45 q.1 q.2.1 q.2.2.2.1 q.2.2.2.2.1 q.2.2.2.2.2 :=
  zm_ac trivial <|
  zm_ac (Or.inl ⟨rfl, zk_obj_NameTree_1, by decide, by decide⟩) <|
  zm_ac trivial <|
  zm_ac ⟨zk_new_NameTree_7, fun _ _ => rfl⟩ <|
  zm_ac trivial <|
  zm_ac (Or.inr ⟨zk_spec_NameTree_9, by decide, by decide⟩) <|
  zm_ac zk_putF_NameTree_10 <|
  zm_ac trivial <|
  zm_ac ⟨zk_new_NameTree_16, fun _ _ => rfl⟩ <|
  zm_ac trivial <|
  zm_ac (Or.inr ⟨zk_spec_NameTree_18, by decide, by decide⟩) <|
  zm_ac zk_putF_NameTree_19 <|
  zm_ac trivial <|
  zm_ac ⟨zk_new_NameTree_23, fun _ _ => rfl⟩ <|
  zm_ac trivial <|
  zm_ac (Or.inr ⟨zk_spec_NameTree_25, by decide, by decide⟩) <|
  zm_ac zk_putF_NameTree_26 <|
  zm_ac trivial <|
  zm_ac ⟨zk_new_NameTree_30, fun _ _ => rfl⟩ <|
  zm_ac trivial <|
  zm_ac trivial <|
  zm_ac zk_get_NameTree_19 <|
  zm_ac zk_get_NameTree_32 <|
  zm_ac trivial <|
  zm_ac zk_get_NameTree_26 <|
  zm_ac (Or.inr ⟨zk_spec_NameTree_36, by decide, by decide⟩) <|
  zm_ac zk_putF_NameTree_39 <|
  zm_ac trivial <|
  zm_ac ⟨zk_new_NameTree_30, fun _ _ => rfl⟩ <|
  zm_ac trivial <|
  zm_ac trivial <|
  zm_ac zk_get_NameTree_19 <|
  zm_ac zk_get_NameTree_32 <|
  zm_ac trivial <|
  zm_ac zk_get_NameTree_26 <|
  zm_ac (Or.inr ⟨zk_spec_NameTree_36, by decide, by decide⟩) <|
  zm_ac zk_putF_NameTree_43 <|
  zm_ac trivial <|
  zm_ac trivial <|
  zm_ac (zm_rp_any zk_put_NameTree_46) <|
  zm_ac trivial <|
  zm_an
set_option maxRecDepth 100000 in
set_option maxHeartbeats 4000000 in
theorem zs_46 : ∀ q ∈ zc46, zm_rs 46 q.1 q.2.1 q.2.2.2.1 q.2.2.2.2.1 q.2.2.2.2.2 :=
  zm_ac trivial <|
  zm_ac trivial <|
  zm_ac (zm_jp rfl) <|
  zm_ac trivial <|
  zm_ac trivial <|
  zm_ac (zm_jp rfl) <|
  zm_ac trivial <|
  zm_ac zk_get_NameTree_10 <|
  zm_ac trivial <|
  zm_ac ⟨zk_virt_NameTree_50, by decide, by decide⟩ <|
  zm_ac (zm_jp rfl) <|
  zm_ac trivial <|
  zm_ac trivial <|
  zm_ac trivial <|
  zm_ac trivial <|
  zm_ac trivial <|
  zm_ac trivial <|
  zm_ac trivial <|
  zm_ac (zm_jp rfl) <|
  zm_ac trivial <|
  zm_ac zk_get_NameTree_10 <|
  zm_ac trivial <|
  zm_ac trivial <|
  zm_ac trivial <|
  zm_ac trivial <|
  zm_ac trivial <|
  zm_ac trivial <|
  zm_ac trivial <|
  zm_ac ⟨zk_virt_NameTree_54, by decide, by decide⟩ <|
  zm_ac trivial <|
  zm_ac (zm_jp rfl) <|
  zm_ac trivial <|
  zm_ac zk_get_NameTree_10 <|
  zm_ac zk_get_NameTree_58 <|
  zm_ac trivial <|
  zm_an
set_option maxRecDepth 100000 in
set_option maxHeartbeats 4000000 in
theorem zs_47 : ∀ q ∈ zc47, zm_rs 47 q.1 q.2.1 q.2.2.2.1 q.2.2.2.2.1 q.2.2.2.2.2 :=
  zm_ac trivial <|
  zm_ac (zm_jp rfl) <|
  zm_ac trivial <|
  zm_ac trivial <|
  zm_ac (zm_jp rfl) <|
  zm_ac trivial <|
  zm_ac trivial <|
  zm_ac (zm_jp rfl) <|
  zm_ac trivial <|
  zm_ac trivial <|
  zm_ac (zm_jp rfl) <|
  zm_ac trivial <|
  zm_ac zk_get_NameTree_10 <|
  zm_ac trivial <|
  zm_ac ⟨zk_virt_NameTree_50, by decide, by decide⟩ <|
  zm_ac (zm_jp rfl) <|
  zm_ac trivial <|
  zm_ac trivial <|
  zm_ac trivial <|
  zm_ac trivial <|
  zm_ac trivial <|
  zm_ac trivial <|
  zm_ac (zm_jp rfl) <|
  zm_ac trivial <|
  zm_ac zk_get_NameTree_10 <|
  zm_ac trivial <|
  zm_ac trivial <|
  zm_ac ⟨zk_virt_NameTree_54, by decide, by decide⟩ <|
  zm_ac trivial <|
  zm_ac (zm_jp rfl) <|
  zm_ac trivial <|
  zm_ac zk_get_NameTree_10 <|
  zm_ac zk_get_NameTree_58 <|
  zm_ac trivial <|
  zm_an
set_option maxRecDepth 100000 in
set_option maxHeartbeats 4000000 in
theorem zs_48 : ∀ q ∈ zc48, zm_rs 48 q.1 q.2.1 q.2.2.2.1 q.2.2.2.2.1 q.2.2.2.2.2 :=
  zm_ac trivial <|
  zm_ac zk_get_NameTree_19 <|
  zm_ac ⟨zk_virt_NameTree_61, by decide, by decide⟩ <|
  zm_ac trivial <|
  zm_ac trivial <|
  zm_ac trivial <|
  zm_ac (zm_jp rfl) <|
  zm_ac trivial <|
  zm_ac trivial <|
  zm_ac (zm_jp rfl) <|
  zm_ac trivial <|
  zm_ac trivial <|
  zm_ac trivial <|
  zm_ac trivial <|
  zm_ac (zm_rp_any zk_put_NameTree_46) <|
  zm_ac trivial <|
  zm_ac trivial <|
  zm_ac trivial <|
  zm_ac trivial <|
  zm_an
set_option maxRecDepth 100000 in
set_option maxHeartbeats 4000000 in
theorem zs_49 : ∀ q ∈ zc49, zm_rs 49 q.1 q.2.1 q.2.2.2.1 q.2.2.2.2.1 q.2.2.2.2.2 :=
  zm_ac trivial <|
  zm_ac ⟨zk_virt_NameTree_65, by decide, by decide⟩ <|
  zm_ac trivial <|
  zm_ac trivial <|
  zm_ac trivial <|
  zm_ac (zm_jp rfl) <|
  zm_ac trivial <|
  zm_ac trivial <|
  zm_ac (zm_jp rfl) <|
  zm_ac trivial <|
  zm_ac trivial <|
  zm_ac trivial <|
  zm_ac (zm_jp rfl) <|
  zm_ac trivial <|
  zm_ac trivial <|
  zm_ac trivial <|
  zm_ac zk_get_NameTree_39 <|
  zm_ac zk_get_NameTree_68 <|
  zm_ac (zm_jp rfl) <|
  zm_ac trivial <|
  zm_ac trivial <|
  zm_ac trivial <|
  zm_ac zk_get_NameTree_19 <|
  zm_ac ⟨zk_virt_NameTree_71, by decide, by decide⟩ <|
  zm_ac trivial <|
  zm_ac trivial <|
  zm_ac (zm_jp rfl) <|
  zm_ac trivial <|
  zm_ac trivial <|
  zm_ac zk_get_NameTree_39 <|
  zm_ac zk_get_NameTree_75 <|
  zm_ac trivial <|
  zm_ac ⟨zk_virt_NameTree_78, by decide, by decide⟩ <|
  zm_ac (zm_jp rfl) <|
  zm_ac trivial <|
  zm_ac trivial <|
  zm_ac trivial <|
  zm_ac trivial <|
  zm_ac ⟨zk_virt_NameTree_82, by decide, by decide⟩ <|
  zm_ac trivial <|
  zm_ac zk_get_NameTree_26 <|
  zm_ac trivial <|
  zm_ac trivial <|
  zm_ac zk_get_NameTree_39 <|
  zm_ac ⟨zk_virt_NameTree_88, by decide, by decide⟩ <|
  zm_ac trivial <|
  zm_ac zk_get_NameTree_92 <|
  zm_ac trivial <|
  zm_an
set_option maxRecDepth 100000 in
set_option maxHeartbeats 4000000 in
theorem zs_50 : ∀ q ∈ zc50, zm_rs 50 q.1 q.2.1 q.2.2.2.1 q.2.2.2.2.1 q.2.2.2.2.2 :=
  zm_ac trivial <|
  zm_ac trivial <|
  zm_ac ⟨zk_virt_NameTree_95, by decide, by decide⟩ <|
  zm_ac trivial <|
  zm_ac trivial <|
  zm_ac (zm_jp rfl) <|
  zm_ac trivial <|
  zm_ac trivial <|
  zm_ac trivial <|
  zm_ac zk_get_NameTree_39 <|
  zm_ac zk_get_NameTree_68 <|
  zm_ac trivial <|
  zm_ac trivial <|
  zm_ac (zm_jp rfl) <|
  zm_ac trivial <|
  zm_ac trivial <|
  zm_ac trivial <|
  zm_ac zk_get_NameTree_99 <|
  zm_ac trivial <|
  zm_ac (zm_jp rfl) <|
  zm_ac trivial <|
  zm_ac trivial <|
  zm_ac trivial <|
  zm_ac zk_get_NameTree_43 <|
  zm_ac zk_get_NameTree_68 <|
  zm_ac (zm_jp rfl) <|
  zm_ac trivial <|
  zm_ac trivial <|
  zm_ac trivial <|
  zm_ac trivial <|
  zm_ac zk_get_NameTree_43 <|
  zm_ac zk_get_NameTree_75 <|
  zm_ac trivial <|
  zm_ac ⟨zk_virt_NameTree_78, by decide, by decide⟩ <|
  zm_ac (zm_jp rfl) <|
  zm_ac trivial <|
  zm_ac trivial <|
  zm_ac trivial <|
  zm_ac zk_get_NameTree_26 <|
  zm_ac trivial <|
  zm_ac trivial <|
  zm_ac zk_get_NameTree_43 <|
  zm_ac ⟨zk_virt_NameTree_88, by decide, by decide⟩ <|
  zm_ac trivial <|
  zm_ac zk_get_NameTree_92 <|
  zm_ac trivial <|
  zm_an
set_option maxRecDepth 100000 in
set_option maxHeartbeats 4000000 in
theorem zs_51 : ∀ q ∈ zc51, zm_rs 51 q.1 q.2.1 q.2.2.2.1 q.2.2.2.2.1 q.2.2.2.2.2 :=
  zm_ac trivial <|
  zm_ac zk_get_NameTree_10 <|
  zm_ac ⟨zk_virt_NameTree_102, by decide, by decide⟩ <|
  zm_ac trivial <|
  zm_ac trivial <|
  zm_ac zk_get_NameTree_10 <|
  zm_ac trivial <|
  zm_ac ⟨zk_virt_NameTree_105, by decide, by decide⟩ <|
  zm_ac trivial <|
  zm_ac trivial <|
  zm_ac trivial <|
  zm_ac trivial <|
  zm_ac trivial <|
  zm_ac trivial <|
  zm_ac trivial <|
  zm_ac trivial <|
  zm_ac (zm_jp rfl) <|
  zm_ac trivial <|
  zm_ac trivial <|
  zm_ac (zm_jp rfl) <|
  zm_ac trivial <|
  zm_ac trivial <|
  zm_ac (zm_jp rfl) <|
  zm_ac trivial <|
  zm_ac trivial <|
  zm_ac trivial <|
  zm_ac zk_get_NameTree_39 <|
  zm_ac trivial <|
  zm_ac zk_get_NameTree_10 <|
  zm_ac zk_get_NameTree_109 <|
  zm_ac trivial <|
  zm_ac trivial <|
  zm_ac ⟨zk_virt_NameTree_113, by decide, by decide⟩ <|
  zm_ac trivial <|
  zm_ac trivial <|
  zm_ac (zm_jp rfl) <|
  zm_ac trivial <|
  zm_ac trivial <|
  zm_ac trivial <|
  zm_ac zk_get_NameTree_39 <|
  zm_ac zk_get_NameTree_68 <|
  zm_ac (zm_jp rfl) <|
  zm_ac trivial <|
  zm_ac trivial <|
  zm_ac trivial <|
  zm_ac zk_get_NameTree_19 <|
  zm_ac ⟨zk_virt_NameTree_71, by decide, by decide⟩ <|
  zm_ac trivial <|
  zm_ac trivial <|
  zm_ac (zm_jp rfl) <|
  zm_ac trivial <|
  zm_ac trivial <|
  zm_ac zk_get_NameTree_39 <|
  zm_ac zk_get_NameTree_75 <|
  zm_ac trivial <|
  zm_ac (Or.inr (Or.inr (Or.inr ⟨zk_stat_NameTree_117, by decide, by decide⟩))) <|
  zm_ac ⟨zk_virt_NameTree_78, by decide, by decide⟩ <|
  zm_ac (zm_jp rfl) <|
  zm_ac trivial <|
  zm_ac trivial <|
  zm_ac trivial <|
  zm_ac trivial <|
  zm_ac ⟨zk_virt_NameTree_82, by decide, by decide⟩ <|
  zm_ac trivial <|
  zm_ac trivial <|
  zm_ac zk_get_NameTree_10 <|
  zm_ac zk_get_NameTree_109 <|
  zm_ac trivial <|
  zm_ac trivial <|
  zm_ac trivial <|
  zm_ac trivial <|
  zm_ac ⟨zk_virt_NameTree_120, by decide, by decide⟩ <|
  zm_ac trivial <|
  zm_ac zk_get_NameTree_26 <|
  zm_ac trivial <|
  zm_ac trivial <|
  zm_ac zk_get_NameTree_39 <|
  zm_ac ⟨zk_virt_NameTree_88, by decide, by decide⟩ <|
  zm_ac trivial <|
  zm_ac zk_get_NameTree_92 <|
  zm_ac trivial <|
  zm_an
set_option maxRecDepth 100000 in
set_option maxHeartbeats 4000000 in
theorem zs_52 : ∀ q ∈ zc52, zm_rs 52 q.1 q.2.1 q.2.2.2.1 q.2.2.2.2.1 q.2.2.2.2.2 :=
  zm_ac trivial <|
  zm_ac ⟨zk_virt_NameTree_65, by decide, by decide⟩ <|
  zm_ac trivial <|
  zm_ac trivial <|
  zm_ac (zm_jp rfl) <|
  zm_ac trivial <|
  zm_ac trivial <|
  zm_ac trivial <|
  zm_ac zk_get_NameTree_39 <|
  zm_ac zk_get_NameTree_68 <|
  zm_ac trivial <|
  zm_ac trivial <|
  zm_ac (zm_jp rfl) <|
  zm_ac trivial <|
  zm_ac trivial <|
  zm_ac trivial <|
  zm_ac zk_get_NameTree_99 <|
  zm_ac trivial <|
  zm_ac (zm_jp rfl) <|
  zm_ac trivial <|
  zm_ac trivial <|
  zm_ac trivial <|
  zm_ac trivial <|
  zm_ac zk_get_NameTree_39 <|
  zm_ac zk_get_NameTree_124 <|
  zm_ac ⟨zk_virt_NameTree_128, by decide, by decide⟩ <|
  zm_ac trivial <|
  zm_ac zk_get_NameTree_92 <|
  zm_ac trivial <|
  zm_an
set_option maxRecDepth 100000 in
set_option maxHeartbeats 4000000 in
theorem zs_53 : ∀ q ∈ zc53, zm_rs 53 q.1 q.2.1 q.2.2.2.1 q.2.2.2.2.1 q.2.2.2.2.2 :=
  zm_ac trivial <|
  zm_ac ⟨zk_virt_NameTree_65, by decide, by decide⟩ <|
  zm_ac trivial <|
  zm_ac trivial <|
  zm_ac (zm_jp rfl) <|
  zm_ac trivial <|
  zm_ac trivial <|
  zm_ac trivial <|
  zm_ac zk_get_NameTree_39 <|
  zm_ac zk_get_NameTree_68 <|
  zm_ac trivial <|
  zm_ac trivial <|
  zm_ac (zm_jp rfl) <|
  zm_ac trivial <|
  zm_ac trivial <|
  zm_ac trivial <|
  zm_ac zk_get_NameTree_99 <|
  zm_ac trivial <|
  zm_ac (zm_jp rfl) <|
  zm_ac trivial <|
  zm_ac trivial <|
  zm_ac trivial <|
  zm_ac zk_get_NameTree_132 <|
  zm_ac (zm_jp rfl) <|
  zm_ac trivial <|
  zm_ac trivial <|
  zm_ac trivial <|
  zm_ac trivial <|
  zm_ac zk_get_NameTree_39 <|
  zm_ac zk_get_NameTree_124 <|
  zm_ac ⟨zk_virt_NameTree_128, by decide, by decide⟩ <|
  zm_ac trivial <|
  zm_ac zk_get_NameTree_92 <|
  zm_ac trivial <|
  zm_an
set_option maxRecDepth 100000 in
set_option maxHeartbeats 4000000 in
theorem zs_54 : ∀ q ∈ zc54, zm_rs 54 q.1 q.2.1 q.2.2.2.1 q.2.2.2.2.1 q.2.2.2.2.2 :=
  zm_ac trivial <|
  zm_ac trivial <|
  zm_ac ⟨zk_virt_NameTree_95, by decide, by decide⟩ <|
  zm_ac trivial <|
  zm_ac trivial <|
  zm_ac (zm_jp rfl) <|
  zm_ac trivial <|
  zm_ac trivial <|
  zm_ac trivial <|
  zm_ac zk_get_NameTree_39 <|
  zm_ac zk_get_NameTree_68 <|
  zm_ac trivial <|
  zm_ac trivial <|
  zm_ac (zm_jp rfl) <|
  zm_ac trivial <|
  zm_ac trivial <|
  zm_ac trivial <|
  zm_ac zk_get_NameTree_43 <|
  zm_ac zk_get_NameTree_68 <|
  zm_ac trivial <|
  zm_ac trivial <|
  zm_ac trivial <|
  zm_ac (zm_jp rfl) <|
  zm_ac trivial <|
  zm_ac zk_get_NameTree_92 <|
  zm_ac trivial <|
  zm_ac trivial <|
  zm_ac zk_get_NameTree_99 <|
  zm_ac trivial <|
  zm_ac (zm_jp rfl) <|
  zm_ac trivial <|
  zm_ac zk_get_NameTree_43 <|
  zm_ac zk_get_NameTree_75 <|
  zm_ac trivial <|
  zm_ac (Or.inr (Or.inr (Or.inr ⟨zk_stat_NameTree_135, by decide, by decide⟩))) <|
  zm_ac (zm_jp rfl) <|
  zm_ac trivial <|
  zm_ac trivial <|
  zm_ac trivial <|
  zm_ac (zm_jp rfl) <|
  zm_ac trivial <|
  zm_ac ⟨zk_virt_NameTree_139, by decide, by decide⟩ <|
  zm_ac (zm_jp rfl) <|
  zm_ac trivial <|
  zm_ac trivial <|
  zm_ac (Or.inr (Or.inr (Or.inr ⟨zk_stat_NameTree_142, by decide, by decide⟩))) <|
  zm_ac trivial <|
  zm_ac trivial <|
  zm_ac (zm_jp rfl) <|
  zm_ac trivial <|
  zm_ac trivial <|
  zm_ac trivial <|
  zm_ac trivial <|
  zm_ac zk_get_NameTree_43 <|
  zm_ac zk_get_NameTree_124 <|
  zm_ac ⟨zk_virt_NameTree_128, by decide, by decide⟩ <|
  zm_ac trivial <|
  zm_ac zk_get_NameTree_26 <|
  zm_ac trivial <|
  zm_ac zk_get_NameTree_39 <|
  zm_ac zk_get_NameTree_124 <|
  zm_ac ⟨zk_virt_NameTree_146, by decide, by decide⟩ <|
  zm_ac trivial <|
  zm_ac zk_get_NameTree_26 <|
  zm_ac trivial <|
  zm_ac trivial <|
  zm_ac zk_get_NameTree_43 <|
  zm_ac ⟨zk_virt_NameTree_88, by decide, by decide⟩ <|
  zm_ac trivial <|
  zm_ac zk_get_NameTree_92 <|
  zm_ac trivial <|
  zm_an
set_option maxRecDepth 100000 in
set_option maxHeartbeats 4000000 in
theorem zs_55 : ∀ q ∈ zc55, zm_rs 55 q.1 q.2.1 q.2.2.2.1 q.2.2.2.2.1 q.2.2.2.2.2 :=
  zm_ac trivial <|
  zm_ac trivial <|
  zm_ac ⟨zk_virt_NameTree_149, by decide, by decide⟩ <|
  zm_ac trivial <|
  zm_ac trivial <|
  zm_ac (zm_jp rfl) <|
  zm_ac trivial <|
  zm_ac trivial <|
  zm_ac trivial <|
  zm_ac zk_get_NameTree_39 <|
  zm_ac zk_get_NameTree_68 <|
  zm_ac (zm_jp rfl) <|
  zm_ac trivial <|
  zm_ac (zm_jp rfl) <|
  zm_ac trivial <|
  zm_ac zk_get_NameTree_39 <|
  zm_ac zk_get_NameTree_68 <|
  zm_ac zk_get_NameTree_92 <|
  zm_ac trivial <|
  zm_an
set_option maxRecDepth 100000 in
set_option maxHeartbeats 4000000 in
theorem zs_56 : ∀ q ∈ zc56, zm_rs 56 q.1 q.2.1 q.2.2.2.1 q.2.2.2.2.1 q.2.2.2.2.2 :=
  zm_ac trivial <|
  zm_ac trivial <|
  zm_ac ⟨zk_virt_NameTree_149, by decide, by decide⟩ <|
  zm_ac trivial <|
  zm_ac trivial <|
  zm_ac (zm_jp rfl) <|
  zm_ac trivial <|
  zm_ac trivial <|
  zm_ac trivial <|
  zm_ac zk_get_NameTree_39 <|
  zm_ac zk_get_NameTree_68 <|
  zm_ac trivial <|
  zm_ac trivial <|
  zm_ac (zm_jp rfl) <|
  zm_ac trivial <|
  zm_ac trivial <|
  zm_ac trivial <|
  zm_ac zk_get_NameTree_99 <|
  zm_ac trivial <|
  zm_ac (zm_jp rfl) <|
  zm_ac trivial <|
  zm_ac zk_get_NameTree_152 <|
  zm_ac trivial <|
  zm_ac (zm_jp rfl) <|
  zm_ac trivial <|
  zm_ac trivial <|
  zm_ac trivial <|
  zm_ac trivial <|
  zm_ac zk_get_NameTree_152 <|
  zm_ac trivial <|
  zm_ac trivial <|
  zm_ac (zm_rp_any zk_put_NameTree_152) <|
  zm_ac trivial <|
  zm_ac zk_get_NameTree_92 <|
  zm_ac trivial <|
  zm_an
set_option maxRecDepth 100000 in
set_option maxHeartbeats 4000000 in
theorem zs_57 : ∀ q ∈ zc57, zm_rs 57 q.1 q.2.1 q.2.2.2.1 q.2.2.2.2.1 q.2.2.2.2.2 :=
  zm_ac trivial <|
  zm_ac zk_get_NameTree_19 <|
  zm_ac trivial <|
  zm_ac ⟨zk_virt_NameTree_155, by decide, by decide⟩ <|
  zm_ac trivial <|
  zm_ac trivial <|
  zm_ac (zm_jp rfl) <|
  zm_ac trivial <|
  zm_ac zk_get_NameTree_152 <|
  zm_ac trivial <|
  zm_ac (zm_jp rfl) <|
  zm_ac trivial <|
  zm_ac trivial <|
  zm_ac trivial <|
  zm_ac trivial <|
  zm_ac zk_get_NameTree_152 <|
  zm_ac trivial <|
  zm_ac trivial <|
  zm_ac (zm_rp_any zk_put_NameTree_152) <|
  zm_ac trivial <|
  zm_ac zk_get_NameTree_159 <|
  zm_ac trivial <|
  zm_ac trivial <|
  zm_ac ⟨zk_virt_NameTree_161, by decide, by decide⟩ <|
  zm_ac trivial <|
  zm_ac trivial <|
  zm_an
set_option maxRecDepth 100000 in
set_option maxHeartbeats 4000000 in
theorem zs_58 : ∀ q ∈ zc58, zm_rs 58 q.1 q.2.1 q.2.2.2.1 q.2.2.2.2.1 q.2.2.2.2.2 :=
  zm_ac trivial <|
  zm_ac zk_get_NameTree_19 <|
  zm_ac trivial <|
  zm_ac ⟨zk_virt_NameTree_155, by decide, by decide⟩ <|
  zm_ac trivial <|
  zm_ac trivial <|
  zm_ac (zm_jp rfl) <|
  zm_ac trivial <|
  zm_ac trivial <|
  zm_ac trivial <|
  zm_ac (zm_tsw (by decide) (by decide) (by decide) (by decide)) <|
  zm_ac trivial <|
  zm_ac zk_get_NameTree_99 <|
  zm_ac trivial <|
  zm_ac trivial <|
  zm_ac zk_get_NameTree_99 <|
  zm_ac trivial <|
  zm_ac (zm_jp rfl) <|
  zm_ac trivial <|
  zm_ac trivial <|
  zm_ac zk_get_NameTree_19 <|
  zm_ac trivial <|
  zm_ac ⟨zk_virt_NameTree_164, by decide, by decide⟩ <|
  zm_ac trivial <|
  zm_ac (zm_jp rfl) <|
  zm_ac trivial <|
  zm_ac zk_get_NameTree_159 <|
  zm_ac trivial <|
  zm_ac trivial <|
  zm_ac ⟨zk_virt_NameTree_168, by decide, by decide⟩ <|
  zm_ac trivial <|
  zm_ac trivial <|
  zm_ac ⟨zk_virt_NameTree_171, by decide, by decide⟩ <|
  zm_ac trivial <|
  zm_ac trivial <|
  zm_ac zk_get_NameTree_174 <|
  zm_ac (zm_jp rfl) <|
  zm_ac trivial <|
  zm_ac (zm_jp rfl) <|
  zm_ac trivial <|
  zm_ac zk_get_NameTree_174 <|
  zm_ac zk_get_NameTree_92 <|
  zm_ac trivial <|
  zm_ac trivial <|
  zm_ac trivial <|
  zm_an
set_option maxRecDepth 100000 in
set_option maxHeartbeats 4000000 in
theorem zs_59 : ∀ q ∈ zc59, zm_rs 59 q.1 q.2.1 q.2.2.2.1 q.2.2.2.2.1 q.2.2.2.2.2 :=
  zm_ac trivial <|
  zm_ac zk_get_NameTree_19 <|
  zm_ac trivial <|
  zm_ac ⟨zk_virt_NameTree_155, by decide, by decide⟩ <|
  zm_ac trivial <|
  zm_ac trivial <|
  zm_ac (zm_jp rfl) <|
  zm_ac trivial <|
  zm_ac (zm_jp rfl) <|
  zm_ac trivial <|
  zm_ac trivial <|
  zm_ac ⟨zk_virt_NameTree_177, by decide, by decide⟩ <|
  zm_ac trivial <|
  zm_an
set_option maxRecDepth 100000 in
set_option maxHeartbeats 4000000 in
theorem zs_60 : ∀ q ∈ zc60, zm_rs 60 q.1 q.2.1 q.2.2.2.1 q.2.2.2.2.1 q.2.2.2.2.2 :=
  zm_ac trivial <|
  zm_ac (zm_tsw (by decide) (by decide) (by decide) (by decide)) <|
  zm_ac trivial <|
  zm_ac zk_get_NameTree_19 <|
  zm_ac ⟨zk_virt_NameTree_180, by decide, by decide⟩ <|
  zm_ac trivial <|
  zm_ac trivial <|
  zm_ac zk_get_NameTree_26 <|
  zm_ac zk_get_NameTree_183 <|
  zm_ac trivial <|
  zm_ac trivial <|
  zm_ac zk_get_NameTree_10 <|
  zm_ac zk_get_NameTree_58 <|
  zm_ac trivial <|
  zm_ac trivial <|
  zm_ac zk_get_NameTree_19 <|
  zm_ac ⟨zk_virt_NameTree_61, by decide, by decide⟩ <|
  zm_ac trivial <|
  zm_ac trivial <|
  zm_ac trivial <|
  zm_an
set_option maxRecDepth 100000 in
set_option maxHeartbeats 4000000 in
theorem zs_61 : ∀ q ∈ zc61, zm_rs 61 q.1 q.2.1 q.2.2.2.1 q.2.2.2.2.1 q.2.2.2.2.2 :=
  zm_ac trivial <|
  zm_ac zk_get_NameTree_10 <|
  zm_ac ⟨zk_virt_NameTree_102, by decide, by decide⟩ <|
  zm_ac trivial <|
  zm_ac trivial <|
  zm_ac zk_get_NameTree_10 <|
  zm_ac trivial <|
  zm_ac ⟨zk_virt_NameTree_186, by decide, by decide⟩ <|
  zm_ac (zm_jp rfl) <|
  zm_ac trivial <|
  zm_ac (zm_jp rfl) <|
  zm_ac trivial <|
  zm_ac zk_get_NameTree_39 <|
  zm_ac trivial <|
  zm_ac zk_get_NameTree_10 <|
  zm_ac zk_get_NameTree_109 <|
  zm_ac trivial <|
  zm_ac trivial <|
  zm_ac trivial <|
  zm_ac ⟨zk_virt_NameTree_189, by decide, by decide⟩ <|
  zm_ac trivial <|
  zm_an
set_option maxRecDepth 100000 in
set_option maxHeartbeats 4000000 in
theorem zs_62 : ∀ q ∈ zc62, zm_rs 62 q.1 q.2.1 q.2.2.2.1 q.2.2.2.2.1 q.2.2.2.2.2 :=
  zm_ac trivial <|
  zm_ac zk_get_NameTree_10 <|
  zm_ac ⟨zk_virt_NameTree_102, by decide, by decide⟩ <|
  zm_ac trivial <|
  zm_ac trivial <|
  zm_ac zk_get_NameTree_10 <|
  zm_ac trivial <|
  zm_ac ⟨zk_virt_NameTree_186, by decide, by decide⟩ <|
  zm_ac (zm_jp rfl) <|
  zm_ac trivial <|
  zm_ac (zm_jp rfl) <|
  zm_ac trivial <|
  zm_ac zk_get_NameTree_39 <|
  zm_ac trivial <|
  zm_ac zk_get_NameTree_10 <|
  zm_ac zk_get_NameTree_109 <|
  zm_ac trivial <|
  zm_ac trivial <|
  zm_ac ⟨zk_virt_NameTree_113, by decide, by decide⟩ <|
  zm_ac trivial <|
  zm_an
set_option maxRecDepth 100000 in
set_option maxHeartbeats 4000000 in
theorem zs_63 : ∀ q ∈ zc63, zm_rs 63 q.1 q.2.1 q.2.2.2.1 q.2.2.2.2.1 q.2.2.2.2.2 :=
  zm_ac trivial <|
  zm_ac zk_get_NameTree_10 <|
  zm_ac ⟨zk_virt_NameTree_102, by decide, by decide⟩ <|
  zm_ac trivial <|
  zm_ac trivial <|
  zm_ac zk_get_NameTree_10 <|
  zm_ac trivial <|
  zm_ac ⟨zk_virt_NameTree_105, by decide, by decide⟩ <|
  zm_ac trivial <|
  zm_ac trivial <|
  zm_ac (zm_jp rfl) <|
  zm_ac trivial <|
  zm_ac trivial <|
  zm_ac trivial <|
  zm_ac (zm_jp rfl) <|
  zm_ac trivial <|
  zm_ac zk_get_NameTree_39 <|
  zm_ac trivial <|
  zm_ac zk_get_NameTree_10 <|
  zm_ac zk_get_NameTree_109 <|
  zm_ac trivial <|
  zm_ac trivial <|
  zm_ac ⟨zk_virt_NameTree_113, by decide, by decide⟩ <|
  zm_ac (zm_jp rfl) <|
  zm_ac trivial <|
  zm_ac zk_get_NameTree_39 <|
  zm_ac trivial <|
  zm_ac zk_get_NameTree_10 <|
  zm_ac zk_get_NameTree_109 <|
  zm_ac trivial <|
  zm_ac trivial <|
  zm_ac trivial <|
  zm_ac ⟨zk_virt_NameTree_189, by decide, by decide⟩ <|
  zm_ac trivial <|
  zm_ac trivial <|
  zm_ac (zm_jp rfl) <|
  zm_ac trivial <|
  zm_ac (zm_jp rfl) <|
  zm_ac trivial <|
  zm_ac zk_get_NameTree_43 <|
  zm_ac trivial <|
  zm_ac zk_get_NameTree_10 <|
  zm_ac zk_get_NameTree_109 <|
  zm_ac trivial <|
  zm_ac trivial <|
  zm_ac trivial <|
  zm_ac trivial <|
  zm_ac ⟨zk_virt_NameTree_113, by decide, by decide⟩ <|
  zm_ac trivial <|
  zm_an
set_option maxRecDepth 100000 in
set_option maxHeartbeats 4000000 in
theorem zs_64 : ∀ q ∈ zc64, zm_rs 64 q.1 q.2.1 q.2.2.2.1 q.2.2.2.2.1 q.2.2.2.2.2 :=
  zm_ac trivial <|
  zm_ac zk_get_NameTree_26 <|
  zm_ac zk_get_NameTree_183 <|
  zm_ac trivial <|
  zm_ac (zm_jp rfl) <|
  zm_ac trivial <|
  zm_ac trivial <|
  zm_ac trivial <|
  zm_ac ⟨zk_virt_NameTree_193, by decide, by decide⟩ <|
  zm_ac (zm_jp rfl) <|
  zm_ac trivial <|
  zm_ac (zm_jp rfl) <|
  zm_ac trivial <|
  zm_ac trivial <|
  zm_an
set_option maxRecDepth 100000 in
set_option maxHeartbeats 4000000 in
theorem zs_65 : ∀ q ∈ zc65, zm_rs 65 q.1 q.2.1 q.2.2.2.1 q.2.2.2.2.1 q.2.2.2.2.2 :=
  zm_ac trivial <|
  zm_ac (zm_jp rfl) <|
  zm_ac trivial <|
  zm_ac (zm_jp rfl) <|
  zm_ac trivial <|
  zm_ac ⟨zk_virt_NameTree_196, by decide, by decide⟩ <|
  zm_ac trivial <|
  zm_ac trivial <|
  zm_ac zk_get_NameTree_19 <|
  zm_ac ⟨zk_virt_NameTree_61, by decide, by decide⟩ <|
  zm_ac trivial <|
  zm_ac trivial <|
  zm_ac trivial <|
  zm_ac trivial <|
  zm_ac trivial <|
  zm_ac zk_get_NameTree_46 <|
  zm_ac (zm_jp rfl) <|
  zm_ac trivial <|
  zm_ac (zm_jp rfl) <|
  zm_ac trivial <|
  zm_ac trivial <|
  zm_an
set_option maxRecDepth 100000 in
set_option maxHeartbeats 4000000 in
theorem zs_66 : ∀ q ∈ zc66, zm_rs 66 q.1 q.2.1 q.2.2.2.1 q.2.2.2.2.1 q.2.2.2.2.2 :=
  zm_ac trivial <|
  zm_ac zk_get_NameTree_39 <|
  zm_ac zk_get_NameTree_75 <|
  zm_ac trivial <|
  zm_ac zk_get_NameTree_43 <|
  zm_ac zk_get_NameTree_75 <|
  zm_ac (zm_jp rfl) <|
  zm_ac trivial <|
  zm_ac (zm_jp rfl) <|
  zm_ac trivial <|
  zm_ac trivial <|
  zm_ac trivial <|
  zm_ac (zm_jp rfl) <|
  zm_ac trivial <|
  zm_ac trivial <|
  zm_ac zk_get_NameTree_43 <|
  zm_ac zk_get_NameTree_75 <|
  zm_ac trivial <|
  zm_ac ⟨zk_virt_NameTree_193, by decide, by decide⟩ <|
  zm_ac (zm_jp rfl) <|
  zm_ac trivial <|
  zm_ac (zm_jp rfl) <|
  zm_ac trivial <|
  zm_ac trivial <|
  zm_an
set_option maxRecDepth 100000 in
set_option maxHeartbeats 4000000 in
theorem zs_67 : ∀ q ∈ zc67, zm_rs 67 q.1 q.2.1 q.2.2.2.1 q.2.2.2.2.1 q.2.2.2.2.2 :=
  zm_ac trivial <|
  zm_ac zk_get_NameTree_99 <|
  zm_ac trivial <|
  zm_ac (zm_jp rfl) <|
  zm_ac trivial <|
  zm_ac zk_get_NameTree_99 <|
  zm_ac trivial <|
  zm_ac (zm_jp rfl) <|
  zm_ac trivial <|
  zm_ac trivial <|
  zm_ac trivial <|
  zm_ac zk_get_NameTree_99 <|
  zm_ac trivial <|
  zm_ac (zm_jp rfl) <|
  zm_ac trivial <|
  zm_ac zk_get_NameTree_99 <|
  zm_ac trivial <|
  zm_ac (zm_jp rfl) <|
  zm_ac trivial <|
  zm_ac trivial <|
  zm_ac trivial <|
  zm_ac zk_get_NameTree_132 <|
  zm_ac (zm_jp rfl) <|
  zm_ac trivial <|
  zm_ac (zm_jp rfl) <|
  zm_ac trivial <|
  zm_ac trivial <|
  zm_an
set_option maxRecDepth 100000 in
set_option maxHeartbeats 4000000 in
theorem zs_68 : ∀ q ∈ zc68, zm_rs 68 q.1 q.2.1 q.2.2.2.1 q.2.2.2.2.1 q.2.2.2.2.2 :=
  zm_ac trivial <|
  zm_ac trivial <|
  zm_ac trivial <|
  zm_ac trivial <|
  zm_ac trivial <|
  zm_ac trivial <|
  zm_ac (zm_jp rfl) <|
  zm_ac trivial <|
  zm_ac (zm_jp rfl) <|
  zm_ac trivial <|
  zm_ac trivial <|
  zm_ac (zm_jp rfl) <|
  zm_ac trivial <|
  zm_ac trivial <|
  zm_ac trivial <|
  zm_ac zk_get_NameTree_174 <|
  zm_ac trivial <|
  zm_ac trivial <|
  zm_ac (zm_jp rfl) <|
  zm_ac trivial <|
  zm_ac trivial <|
  zm_an
set_option maxRecDepth 100000 in
set_option maxHeartbeats 4000000 in
theorem zs_69 : ∀ q ∈ zc69, zm_rs 69 q.1 q.2.1 q.2.2.2.1 q.2.2.2.2.1 q.2.2.2.2.2 :=
  zm_ac trivial <|
  zm_ac (zm_jp rfl) <|
  zm_ac trivial <|
  zm_ac trivial <|
  zm_ac zk_get_NameTree_199 <|
  zm_ac trivial <|
  zm_ac trivial <|
  zm_ac zk_get_NameTree_26 <|
  zm_ac trivial <|
  zm_ac ⟨zk_virt_NameTree_146, by decide, by decide⟩ <|
  zm_ac trivial <|
  zm_ac (zm_jp rfl) <|
  zm_ac trivial <|
  zm_ac ⟨zk_virt_NameTree_161, by decide, by decide⟩ <|
  zm_ac trivial <|
  zm_an
set_option maxRecDepth 100000 in
set_option maxHeartbeats 4000000 in
theorem zs_70 : ∀ q ∈ zc70, zm_rs 70 q.1 q.2.1 q.2.2.2.1 q.2.2.2.2.1 q.2.2.2.2.2 :=
  zm_ac trivial <|
  zm_ac trivial <|
  zm_ac (zm_jp rfl) <|
  zm_ac trivial <|
  zm_ac (zm_jp rfl) <|
  zm_ac trivial <|
  zm_ac trivial <|
  zm_an
set_option maxRecDepth 100000 in
set_option maxHeartbeats 4000000 in
theorem zs_71 : ∀ q ∈ zc71, zm_rs 71 q.1 q.2.1 q.2.2.2.1 q.2.2.2.2.1 q.2.2.2.2.2 :=
  zm_ac trivial <|
  zm_ac trivial <|
  zm_ac (zm_jp rfl) <|
  zm_ac trivial <|
  zm_ac (zm_jp rfl) <|
  zm_ac trivial <|
  zm_ac trivial <|
  zm_an
set_option maxRecDepth 100000 in
set_option maxHeartbeats 4000000 in
theorem zs_72 : ∀ q ∈ zc72, zm_rs 72 q.1 q.2.1 q.2.2.2.1 q.2.2.2.2.1 q.2.2.2.2.2 :=
  zm_ac trivial <|
  zm_ac (zm_jp rfl) <|
  zm_ac trivial <|
  zm_ac (zm_jp rfl) <|
  zm_ac trivial <|
  zm_ac (zm_jp rfl) <|
  zm_ac trivial <|
  zm_ac trivial <|
  zm_ac trivial <|
  zm_ac (zm_jp rfl) <|
  zm_ac trivial <|
  zm_ac (zm_jp rfl) <|
  zm_ac trivial <|
  zm_ac trivial <|
  zm_ac trivial <|
  zm_ac trivial <|
  zm_ac trivial <|
  zm_ac trivial <|
  zm_ac trivial <|
  zm_ac trivial <|
  zm_ac trivial <|
  zm_ac (Or.inr (Or.inl ⟨rfl, zk_min_NameTree_204, by decide, by decide⟩)) <|
  zm_ac (Or.inr (Or.inl ⟨rfl, zk_min_NameTree_204, by decide, by decide⟩)) <|
  zm_ac trivial <|
  zm_ac trivial <|
  zm_ac trivial <|
  zm_ac trivial <|
  zm_ac trivial <|
  zm_ac trivial <|
  zm_ac (Or.inr (Or.inr (Or.inl ⟨rfl, zk_copy_NameTree_210, by decide, by decide⟩))) <|
  zm_ac trivial <|
  zm_ac trivial <|
  zm_an
set_option maxRecDepth 100000 in
set_option maxHeartbeats 4000000 in
theorem zs_73 : ∀ q ∈ zc73, zm_rs 73 q.1 q.2.1 q.2.2.2.1 q.2.2.2.2.1 q.2.2.2.2.2 :=
  zm_ac trivial <|
  zm_ac (Or.inl ⟨rfl, zk_obj_NameTreeModel_1, by decide, by decide⟩) <|
  zm_ac trivial <|
  zm_ac trivial <|
  zm_ac (zm_rp_any zk_put_NameTreeModel_7) <|
  zm_ac trivial <|
  zm_ac trivial <|
  zm_ac ⟨by decide, by decide, rfl, (zt_m3 87 rfl rfl), rfl, by decide⟩ <|
  zm_ac zk_putF_NameTreeModel_13 <|
  zm_ac trivial <|
  zm_ac trivial <|
  zm_ac ⟨by decide, by decide, rfl, (zt_m3 87 rfl rfl), rfl, by decide⟩ <|
  zm_ac zk_putF_NameTreeModel_17 <|
  zm_ac trivial <|
  zm_ac trivial <|
  zm_ac ⟨by decide, by decide, rfl, (zt_m3 87 rfl rfl), rfl, by decide⟩ <|
  zm_ac zk_putF_NameTreeModel_20 <|
  zm_ac trivial <|
  zm_ac trivial <|
  zm_ac ⟨by decide, by decide, rfl, (zt_m3 87 rfl rfl), rfl, by decide⟩ <|
  zm_ac zk_putF_NameTreeModel_23 <|
  zm_ac trivial <|
  zm_ac trivial <|
  zm_ac ⟨by decide, by decide, rfl, (zt_m3 87 rfl rfl), rfl, by decide⟩ <|
  zm_ac zk_putF_NameTreeModel_26 <|
  zm_ac trivial <|
  zm_ac trivial <|
  zm_ac ⟨by decide, by decide, rfl, (zt_m3 87 rfl rfl), rfl, by decide⟩ <|
  zm_ac zk_putF_NameTreeModel_29 <|
  zm_ac trivial <|
  zm_ac ⟨_, _, rfl, zk_ldc_NameTreeModel_32⟩ <|
  zm_ac ⟨by decide, by decide, rfl, (zt_m1 35 rfl rfl), rfl, by decide⟩ <|
  zm_ac zk_putF_NameTreeModel_33 <|
  zm_ac trivial <|
  zm_ac trivial <|
  zm_ac ⟨by decide, by decide, rfl, (zt_m3 87 rfl rfl), rfl, by decide⟩ <|
  zm_ac zk_putF_NameTreeModel_37 <|
  zm_ac trivial <|
  zm_ac trivial <|
  zm_ac ⟨by decide, by decide, rfl, (zt_m3 87 rfl rfl), rfl, by decide⟩ <|
  zm_ac zk_putF_NameTreeModel_40 <|
  zm_ac trivial <|
  zm_ac trivial <|
  zm_ac ⟨by decide, by decide, rfl, (zt_m3 87 rfl rfl), rfl, by decide⟩ <|
  zm_ac zk_putF_NameTreeModel_43 <|
  zm_ac trivial <|
  zm_ac trivial <|
  zm_ac ⟨by decide, by decide, rfl, (zt_m1 35 rfl rfl), rfl, by decide⟩ <|
  zm_ac zk_putF_NameTreeModel_46 <|
  zm_ac trivial <|
  zm_ac ⟨_, _, rfl, zk_ldc_NameTreeModel_49⟩ <|
  zm_ac ⟨by decide, by decide, rfl, (zt_m3 87 rfl rfl), rfl, by decide⟩ <|
  zm_ac zk_putF_NameTreeModel_50 <|
  zm_ac trivial <|
  zm_ac zk_get_NameTreeModel_20 <|
  zm_ac trivial <|
  zm_ac trivial <|
  zm_ac trivial <|
  zm_ac trivial <|
  zm_an
set_option maxRecDepth 100000 in
set_option maxHeartbeats 4000000 in
theorem zs_74 : ∀ q ∈ zc74, zm_rs 74 q.1 q.2.1 q.2.2.2.1 q.2.2.2.2.1 q.2.2.2.2.2 :=
  zm_ac trivial <|
  zm_ac trivial <|
  zm_ac (zm_jp rfl) <|
  zm_ac trivial <|
  zm_ac trivial <|
  zm_ac (zm_jp rfl) <|
  zm_ac trivial <|
  zm_ac zk_get_NameTreeModel_53 <|
  zm_ac trivial <|
  zm_ac trivial <|
  zm_ac trivial <|
  zm_ac (zm_jp rfl) <|
  zm_ac trivial <|
  zm_ac trivial <|
  zm_ac trivial <|
  zm_ac trivial <|
  zm_ac trivial <|
  zm_ac trivial <|
  zm_ac trivial <|
  zm_ac (zm_jp rfl) <|
  zm_ac trivial <|
  zm_ac zk_get_NameTreeModel_13 <|
  zm_ac trivial <|
  zm_ac zk_get_NameTreeModel_53 <|
  zm_ac trivial <|
  zm_ac trivial <|
  zm_ac trivial <|
  zm_ac trivial <|
  zm_ac trivial <|
  zm_ac ⟨_, _, rfl, zk_ldc2_NameTreeModel_56⟩ <|
  zm_ac trivial <|
  zm_ac trivial <|
  zm_ac trivial <|
  zm_ac trivial <|
  zm_ac trivial <|
  zm_ac zk_get_NameTreeModel_53 <|
  zm_ac trivial <|
  zm_ac trivial <|
  zm_ac (zm_rp_any zk_put_NameTreeModel_53) <|
  zm_ac trivial <|
  zm_ac (zm_jp rfl) <|
  zm_ac trivial <|
  zm_ac zk_get_NameTreeModel_53 <|
  zm_ac trivial <|
  zm_an
set_option maxRecDepth 100000 in
set_option maxHeartbeats 4000000 in
theorem zs_75 : ∀ q ∈ zc75, zm_rs 75 q.1 q.2.1 q.2.2.2.1 q.2.2.2.2.1 q.2.2.2.2.2 :=
  zm_ac trivial <|
  zm_ac (zm_jp rfl) <|
  zm_ac trivial <|
  zm_ac trivial <|
  zm_ac (zm_jp rfl) <|
  zm_ac trivial <|
  zm_ac trivial <|
  zm_ac (zm_jp rfl) <|
  zm_ac trivial <|
  zm_ac trivial <|
  zm_ac (zm_jp rfl) <|
  zm_ac trivial <|
  zm_ac zk_get_NameTreeModel_53 <|
  zm_ac trivial <|
  zm_ac trivial <|
  zm_ac trivial <|
  zm_ac (zm_jp rfl) <|
  zm_ac trivial <|
  zm_ac trivial <|
  zm_ac trivial <|
  zm_ac trivial <|
  zm_ac trivial <|
  zm_ac trivial <|
  zm_ac (zm_jp rfl) <|
  zm_ac trivial <|
  zm_ac zk_get_NameTreeModel_13 <|
  zm_ac trivial <|
  zm_ac zk_get_NameTreeModel_53 <|
  zm_ac trivial <|
  zm_ac trivial <|
  zm_ac trivial <|
  zm_ac trivial <|
  zm_ac trivial <|
  zm_ac (zm_jp rfl) <|
  zm_ac trivial <|
  zm_ac trivial <|
  zm_ac zk_get_NameTreeModel_53 <|
  zm_ac trivial <|
  zm_ac trivial <|
  zm_ac (zm_rp_any zk_put_NameTreeModel_53) <|
  zm_ac trivial <|
  zm_ac zk_get_NameTreeModel_53 <|
  zm_ac trivial <|
  zm_an
set_option maxRecDepth 100000 in
set_option maxHeartbeats 4000000 in
theorem zs_76 : ∀ q ∈ zc76, zm_rs 76 q.1 q.2.1 q.2.2.2.1 q.2.2.2.2.1 q.2.2.2.2.2 :=
  zm_ac trivial <|
  zm_ac trivial <|
  zm_ac zk_get_NameTreeModel_53 <|
  zm_ac (zm_rp_any zk_put_NameTreeModel_58) <|
  zm_ac trivial <|
  zm_ac trivial <|
  zm_ac (zm_rp_any zk_put_NameTreeModel_53) <|
  zm_ac trivial <|
  zm_ac trivial <|
  zm_ac trivial <|
  zm_ac trivial <|
  zm_ac trivial <|
  zm_ac trivial <|
  zm_ac zk_get_NameTreeModel_58 <|
  zm_ac (zm_jp rfl) <|
  zm_ac trivial <|
  zm_ac zk_get_NameTreeModel_17 <|
  zm_ac trivial <|
  zm_ac trivial <|
  zm_ac zk_get_NameTreeModel_13 <|
  zm_ac trivial <|
  zm_ac trivial <|
  zm_ac trivial <|
  zm_ac trivial <|
  zm_ac zk_get_NameTreeModel_17 <|
  zm_ac trivial <|
  zm_ac trivial <|
  zm_ac (zm_jp rfl) <|
  zm_ac trivial <|
  zm_ac trivial <|
  zm_ac (zm_jp rfl) <|
  zm_ac trivial <|
  zm_ac (zm_jp rfl) <|
  zm_ac trivial <|
  zm_ac trivial <|
  zm_ac trivial <|
  zm_ac (zm_jp rfl) <|
  zm_ac trivial <|
  zm_ac trivial <|
  zm_ac trivial <|
  zm_ac trivial <|
  zm_ac trivial <|
  zm_ac trivial <|
  zm_ac zk_get_NameTreeModel_58 <|
  zm_ac (zm_jp rfl) <|
  zm_ac trivial <|
  zm_ac trivial <|
  zm_ac zk_get_NameTreeModel_17 <|
  zm_ac trivial <|
  zm_ac trivial <|
  zm_ac (zm_jp rfl) <|
  zm_ac trivial <|
  zm_ac (zm_jp rfl) <|
  zm_ac trivial <|
  zm_ac trivial <|
  zm_ac trivial <|
  zm_ac trivial <|
  zm_ac (zm_jp rfl) <|
  zm_ac trivial <|
  zm_ac trivial <|
  zm_ac (zm_jp rfl) <|
  zm_ac trivial <|
  zm_ac (zm_jp rfl) <|
  zm_ac trivial <|
  zm_ac trivial <|
  zm_an
set_option maxRecDepth 100000 in
set_option maxHeartbeats 4000000 in
theorem zs_77 : ∀ q ∈ zc77, zm_rs 77 q.1 q.2.1 q.2.2.2.1 q.2.2.2.2.1 q.2.2.2.2.2 :=
  zm_ac trivial <|
  zm_ac trivial <|
  zm_ac (zm_jp rfl) <|
  zm_ac trivial <|
  zm_ac (zm_jp rfl) <|
  zm_ac trivial <|
  zm_ac trivial <|
  zm_an
set_option maxRecDepth 100000 in
set_option maxHeartbeats 4000000 in
theorem zs_78 : ∀ q ∈ zc78, zm_rs 78 q.1 q.2.1 q.2.2.2.1 q.2.2.2.2.1 q.2.2.2.2.2 :=
  zm_ac trivial <|
  zm_ac zk_get_NameTreeModel_20 <|
  zm_ac trivial <|
  zm_ac trivial <|
  zm_ac (zm_jp rfl) <|
  zm_ac trivial <|
  zm_ac trivial <|
  zm_ac trivial <|
  zm_ac zk_get_NameTreeModel_20 <|
  zm_ac trivial <|
  zm_ac trivial <|
  zm_ac trivial <|
  zm_ac (zm_jp rfl) <|
  zm_ac trivial <|
  zm_ac (zm_jp rfl) <|
  zm_ac trivial <|
  zm_ac zk_get_NameTreeModel_20 <|
  zm_ac trivial <|
  zm_ac trivial <|
  zm_ac trivial <|
  zm_ac (zm_jp rfl) <|
  zm_ac trivial <|
  zm_ac zk_get_NameTreeModel_29 <|
  zm_ac trivial <|
  zm_ac trivial <|
  zm_ac trivial <|
  zm_ac (zm_jp rfl) <|
  zm_ac trivial <|
  zm_ac (zm_jp rfl) <|
  zm_ac trivial <|
  zm_ac (zm_jp rfl) <|
  zm_ac trivial <|
  zm_ac zk_get_NameTreeModel_23 <|
  zm_ac trivial <|
  zm_ac trivial <|
  zm_ac (Or.inr (Or.inr (Or.inr ⟨zk_stat_NameTreeModel_61, by decide, by decide⟩))) <|
  zm_ac trivial <|
  zm_an
set_option maxRecDepth 100000 in
set_option maxHeartbeats 4000000 in
theorem zs_79 : ∀ q ∈ zc79, zm_rs 79 q.1 q.2.1 q.2.2.2.1 q.2.2.2.2.1 q.2.2.2.2.2 :=
  zm_ac trivial <|
  zm_ac trivial <|
  zm_ac trivial <|
  zm_ac trivial <|
  zm_ac trivial <|
  zm_ac trivial <|
  zm_ac (zm_jp rfl) <|
  zm_ac trivial <|
  zm_ac trivial <|
  zm_ac trivial <|
  zm_ac ⟨zk_virt_NameTreeModel_65, by decide, by decide⟩ <|
  zm_ac trivial <|
  zm_ac trivial <|
  zm_ac trivial <|
  zm_ac (zm_jp rfl) <|
  zm_ac trivial <|
  zm_ac trivial <|
  zm_an
set_option maxRecDepth 100000 in
set_option maxHeartbeats 4000000 in
theorem zs_80 : ∀ q ∈ zc80, zm_rs 80 q.1 q.2.1 q.2.2.2.1 q.2.2.2.2.1 q.2.2.2.2.2 :=
  zm_ac trivial <|
  zm_ac trivial <|
  zm_ac trivial <|
  zm_ac trivial <|
  zm_ac trivial <|
  zm_ac trivial <|
  zm_ac (zm_jp rfl) <|
  zm_ac trivial <|
  zm_ac trivial <|
  zm_ac zk_get_NameTreeModel_20 <|
  zm_ac trivial <|
  zm_ac trivial <|
  zm_ac (zm_jp rfl) <|
  zm_ac trivial <|
  zm_ac (zm_jp rfl) <|
  zm_ac trivial <|
  zm_ac trivial <|
  zm_ac trivial <|
  zm_ac trivial <|
  zm_ac (zm_jp rfl) <|
  zm_ac trivial <|
  zm_ac trivial <|
  zm_an
set_option maxRecDepth 100000 in
set_option maxHeartbeats 4000000 in
theorem zs_81 : ∀ q ∈ zc81, zm_rs 81 q.1 q.2.1 q.2.2.2.1 q.2.2.2.2.1 q.2.2.2.2.2 :=
  zm_ac trivial <|
  zm_ac trivial <|
  zm_ac trivial <|
  zm_ac trivial <|
  zm_ac trivial <|
  zm_ac trivial <|
  zm_ac zk_get_NameTreeModel_68 <|
  zm_ac (zm_jp rfl) <|
  zm_ac trivial <|
  zm_ac trivial <|
  zm_ac zk_get_NameTreeModel_40 <|
  zm_ac trivial <|
  zm_ac trivial <|
  zm_ac trivial <|
  zm_ac (zm_jp rfl) <|
  zm_ac trivial <|
  zm_ac (zm_jp rfl) <|
  zm_ac trivial <|
  zm_ac trivial <|
  zm_ac trivial <|
  zm_ac trivial <|
  zm_ac (zm_jp rfl) <|
  zm_ac trivial <|
  zm_ac trivial <|
  zm_an
set_option maxRecDepth 100000 in
set_option maxHeartbeats 4000000 in
theorem zs_82 : ∀ q ∈ zc82, zm_rs 82 q.1 q.2.1 q.2.2.2.1 q.2.2.2.2.1 q.2.2.2.2.2 :=
  zm_ac trivial <|
  zm_ac trivial <|
  zm_ac trivial <|
  zm_ac trivial <|
  zm_ac trivial <|
  zm_ac trivial <|
  zm_ac zk_get_NameTreeModel_68 <|
  zm_ac (zm_jp rfl) <|
  zm_ac trivial <|
  zm_ac trivial <|
  zm_ac zk_get_NameTreeModel_37 <|
  zm_ac trivial <|
  zm_ac trivial <|
  zm_ac trivial <|
  zm_ac (zm_jp rfl) <|
  zm_ac trivial <|
  zm_ac (zm_jp rfl) <|
  zm_ac trivial <|
  zm_ac trivial <|
  zm_ac trivial <|
  zm_ac trivial <|
  zm_ac (zm_jp rfl) <|
  zm_ac trivial <|
  zm_ac trivial <|
  zm_an
set_option maxRecDepth 100000 in
set_option maxHeartbeats 4000000 in
theorem zs_83 : ∀ q ∈ zc83, zm_rs 83 q.1 q.2.1 q.2.2.2.1 q.2.2.2.2.1 q.2.2.2.2.2 :=
  zm_ac trivial <|
  zm_ac trivial <|
  zm_ac trivial <|
  zm_ac trivial <|
  zm_ac trivial <|
  zm_ac trivial <|
  zm_ac zk_get_NameTreeModel_68 <|
  zm_ac (zm_jp rfl) <|
  zm_ac trivial <|
  zm_ac zk_get_NameTreeModel_40 <|
  zm_ac trivial <|
  zm_ac trivial <|
  zm_ac trivial <|
  zm_ac (zm_jp rfl) <|
  zm_ac trivial <|
  zm_ac zk_get_NameTreeModel_37 <|
  zm_ac trivial <|
  zm_ac trivial <|
  zm_ac (zm_jp rfl) <|
  zm_ac trivial <|
  zm_ac trivial <|
  zm_ac trivial <|
  zm_ac (zm_jp rfl) <|
  zm_ac trivial <|
  zm_ac trivial <|
  zm_an
set_option maxRecDepth 100000 in
set_option maxHeartbeats 4000000 in
theorem zs_84 : ∀ q ∈ zc84, zm_rs 84 q.1 q.2.1 q.2.2.2.1 q.2.2.2.2.1 q.2.2.2.2.2 :=
  zm_ac trivial <|
  zm_ac zk_get_NameTreeModel_43 <|
  zm_ac trivial <|
  zm_ac trivial <|
  zm_ac trivial <|
  zm_ac (zm_jp rfl) <|
  zm_ac trivial <|
  zm_ac (zm_jp rfl) <|
  zm_ac trivial <|
  zm_ac trivial <|
  zm_ac trivial <|
  zm_ac trivial <|
  zm_ac trivial <|
  zm_ac trivial <|
  zm_ac (zm_jp rfl) <|
  zm_ac trivial <|
  zm_ac (zm_jp rfl) <|
  zm_ac trivial <|
  zm_ac zk_get_NameTreeModel_46 <|
  zm_ac trivial <|
  zm_ac trivial <|
  zm_ac trivial <|
  zm_ac trivial <|
  zm_ac trivial <|
  zm_ac trivial <|
  zm_ac trivial <|
  zm_ac trivial <|
  zm_ac trivial <|
  zm_ac zk_get_NameTreeModel_50 <|
  zm_ac trivial <|
  zm_ac trivial <|
  zm_ac trivial <|
  zm_ac trivial <|
  zm_ac (zm_jp rfl) <|
  zm_ac trivial <|
  zm_ac (zm_jp rfl) <|
  zm_ac trivial <|
  zm_ac trivial <|
  zm_ac trivial <|
  zm_ac (zm_jp rfl) <|
  zm_ac trivial <|
  zm_ac trivial <|
  zm_an
set_option maxRecDepth 100000 in
set_option maxHeartbeats 4000000 in
theorem zs_85 : ∀ q ∈ zc85, zm_rs 85 q.1 q.2.1 q.2.2.2.1 q.2.2.2.2.1 q.2.2.2.2.2 :=
  zm_ac trivial <|
  zm_ac trivial <|
  zm_ac trivial <|
  zm_ac trivial <|
  zm_ac trivial <|
  zm_ac trivial <|
  zm_ac zk_get_NameTreeModel_68 <|
  zm_ac (zm_jp rfl) <|
  zm_ac trivial <|
  zm_ac zk_get_NameTreeModel_37 <|
  zm_ac trivial <|
  zm_ac trivial <|
  zm_ac trivial <|
  zm_ac (zm_jp rfl) <|
  zm_ac trivial <|
  zm_ac trivial <|
  zm_ac trivial <|
  zm_ac trivial <|
  zm_ac ⟨zk_virt_NameTreeModel_71, by decide, by decide⟩ <|
  zm_ac (zm_jp rfl) <|
  zm_ac trivial <|
  zm_ac (zm_jp rfl) <|
  zm_ac trivial <|
  zm_ac trivial <|
  zm_ac trivial <|
  zm_ac (zm_jp rfl) <|
  zm_ac trivial <|
  zm_ac trivial <|
  zm_an
set_option maxRecDepth 100000 in
set_option maxHeartbeats 4000000 in
theorem zs_86 : ∀ q ∈ zc86, zm_rs 86 q.1 q.2.1 q.2.2.2.1 q.2.2.2.2.1 q.2.2.2.2.2 :=
  zm_ac trivial <|
  zm_ac trivial <|
  zm_ac zk_get_NameTreeModel_23 <|
  zm_ac trivial <|
  zm_ac trivial <|
  zm_ac (zm_jp rfl) <|
  zm_ac trivial <|
  zm_ac (Or.inr (Or.inr (Or.inr ⟨zk_stat_NameTreeModel_61, by decide, by decide⟩))) <|
  zm_ac trivial <|
  zm_ac zk_get_NameTreeModel_23 <|
  zm_ac trivial <|
  zm_ac trivial <|
  zm_ac (Or.inr (Or.inr (Or.inr ⟨zk_stat_NameTreeModel_61, by decide, by decide⟩))) <|
  zm_ac trivial <|
  zm_ac (zm_jp rfl) <|
  zm_ac trivial <|
  zm_ac trivial <|
  zm_an
set_option maxRecDepth 100000 in
set_option maxHeartbeats 4000000 in
theorem zs_87 : ∀ q ∈ zc87, zm_rs 87 q.1 q.2.1 q.2.2.2.1 q.2.2.2.2.1 q.2.2.2.2.2 :=
  zm_ac trivial <|
  zm_ac zk_get_NameTreeModel_37 <|
  zm_ac trivial <|
  zm_ac zk_get_NameTreeModel_68 <|
  zm_ac trivial <|
  zm_ac zk_get_NameTreeModel_75 <|
  zm_ac trivial <|
  zm_ac trivial <|
  zm_ac zk_get_NameTreeModel_40 <|
  zm_ac trivial <|
  zm_ac zk_get_NameTreeModel_68 <|
  zm_ac trivial <|
  zm_ac trivial <|
  zm_ac trivial <|
  zm_ac zk_get_NameTreeModel_43 <|
  zm_ac trivial <|
  zm_ac zk_get_NameTreeModel_68 <|
  zm_ac trivial <|
  zm_ac zk_get_NameTreeModel_78 <|
  zm_ac trivial <|
  zm_ac trivial <|
  zm_ac trivial <|
  zm_ac trivial <|
  zm_ac trivial <|
  zm_ac zk_get_NameTreeModel_78 <|
  zm_ac (zm_jp rfl) <|
  zm_ac trivial <|
  zm_ac zk_get_NameTreeModel_46 <|
  zm_ac trivial <|
  zm_ac trivial <|
  zm_ac zk_get_NameTreeModel_68 <|
  zm_ac trivial <|
  zm_ac trivial <|
  zm_ac trivial <|
  zm_ac trivial <|
  zm_ac zk_get_NameTreeModel_50 <|
  zm_ac trivial <|
  zm_ac zk_get_NameTreeModel_81 <|
  zm_ac trivial <|
  zm_ac trivial <|
  zm_ac trivial <|
  zm_ac trivial <|
  zm_ac trivial <|
  zm_ac trivial <|
  zm_ac (zm_jp rfl) <|
  zm_ac trivial <|
  zm_ac trivial <|
  zm_ac zk_get_NameTreeModel_68 <|
  zm_ac trivial <|
  zm_ac trivial <|
  zm_ac (zm_rp_any zk_put_NameTreeModel_68) <|
  zm_ac trivial <|
  zm_ac trivial <|
  zm_ac zk_get_NameTreeModel_75 <|
  zm_ac ⟨zk_virt_NameTreeModel_84, by decide, by decide⟩ <|
  zm_ac trivial <|
  zm_ac trivial <|
  zm_ac zk_get_NameTreeModel_23 <|
  zm_ac trivial <|
  zm_ac zk_get_NameTreeModel_75 <|
  zm_ac trivial <|
  zm_ac trivial <|
  zm_ac zk_get_NameTreeModel_23 <|
  zm_ac trivial <|
  zm_ac zk_get_NameTreeModel_75 <|
  zm_ac trivial <|
  zm_ac (zm_jp rfl) <|
  zm_ac trivial <|
  zm_ac (zm_jp rfl) <|
  zm_ac trivial <|
  zm_ac zk_get_NameTreeModel_23 <|
  zm_ac trivial <|
  zm_ac zk_get_NameTreeModel_75 <|
  zm_ac trivial <|
  zm_ac trivial <|
  zm_ac trivial <|
  zm_an
set_option maxRecDepth 100000 in
set_option maxHeartbeats 4000000 in
theorem zs_88 : ∀ q ∈ zc88, zm_rs 88 q.1 q.2.1 q.2.2.2.1 q.2.2.2.2.1 q.2.2.2.2.2 :=
  zm_ac trivial <|
  zm_ac zk_get_NameTreeModel_40 <|
  zm_ac trivial <|
  zm_ac trivial <|
  zm_ac trivial <|
  zm_ac trivial <|
  zm_ac trivial <|
  zm_ac zk_get_NameTreeModel_68 <|
  zm_ac trivial <|
  zm_ac trivial <|
  zm_ac (zm_rp_any zk_put_NameTreeModel_68) <|
  zm_ac trivial <|
  zm_ac zk_get_NameTreeModel_37 <|
  zm_ac trivial <|
  zm_ac trivial <|
  zm_ac zk_get_NameTreeModel_37 <|
  zm_ac trivial <|
  zm_ac zk_get_NameTreeModel_68 <|
  zm_ac trivial <|
  zm_ac trivial <|
  zm_ac trivial <|
  zm_ac zk_get_NameTreeModel_40 <|
  zm_ac trivial <|
  zm_ac trivial <|
  zm_ac zk_get_NameTreeModel_40 <|
  zm_ac trivial <|
  zm_ac zk_get_NameTreeModel_68 <|
  zm_ac trivial <|
  zm_ac trivial <|
  zm_ac trivial <|
  zm_ac zk_get_NameTreeModel_43 <|
  zm_ac trivial <|
  zm_ac trivial <|
  zm_ac zk_get_NameTreeModel_43 <|
  zm_ac trivial <|
  zm_ac zk_get_NameTreeModel_68 <|
  zm_ac trivial <|
  zm_ac trivial <|
  zm_ac trivial <|
  zm_ac trivial <|
  zm_ac trivial <|
  zm_ac trivial <|
  zm_ac (zm_jp rfl) <|
  zm_ac trivial <|
  zm_ac zk_get_NameTreeModel_46 <|
  zm_ac trivial <|
  zm_ac trivial <|
  zm_ac trivial <|
  zm_ac trivial <|
  zm_ac trivial <|
  zm_ac trivial <|
  zm_ac zk_get_NameTreeModel_46 <|
  zm_ac trivial <|
  zm_ac trivial <|
  zm_ac zk_get_NameTreeModel_68 <|
  zm_ac trivial <|
  zm_ac trivial <|
  zm_ac trivial <|
  zm_ac trivial <|
  zm_ac trivial <|
  zm_ac trivial <|
  zm_ac (zm_jp rfl) <|
  zm_ac trivial <|
  zm_ac trivial <|
  zm_ac ⟨zk_virt_NameTreeModel_87, by decide, by decide⟩ <|
  zm_ac (zm_jp rfl) <|
  zm_ac trivial <|
  zm_ac zk_get_NameTreeModel_26 <|
  zm_ac trivial <|
  zm_ac trivial <|
  zm_ac (zm_jp rfl) <|
  zm_ac trivial <|
  zm_ac zk_get_NameTreeModel_20 <|
  zm_ac trivial <|
  zm_ac trivial <|
  zm_ac trivial <|
  zm_ac trivial <|
  zm_an
set_option maxRecDepth 100000 in
set_option maxHeartbeats 4000000 in
theorem zs_89 : ∀ q ∈ zc89, zm_rs 89 q.1 q.2.1 q.2.2.2.1 q.2.2.2.2.1 q.2.2.2.2.2 :=
  zm_ac trivial <|
  zm_ac zk_get_NameTreeModel_90 <|
  zm_ac trivial <|
  zm_ac trivial <|
  zm_ac ⟨_, _, rfl, zk_ldc_NameTreeModel_49⟩ <|
  zm_ac (zm_jp rfl) <|
  zm_ac trivial <|
  zm_ac trivial <|
  zm_ac trivial <|
  zm_ac ⟨_, _, rfl, zk_ldc_NameTreeModel_49⟩ <|
  zm_ac (zm_jp rfl) <|
  zm_ac trivial <|
  zm_ac zk_get_NameTreeModel_50 <|
  zm_ac trivial <|
  zm_ac trivial <|
  zm_ac trivial <|
  zm_ac (zm_jp rfl) <|
  zm_ac trivial <|
  zm_ac (zm_jp rfl) <|
  zm_ac trivial <|
  zm_ac trivial <|
  zm_ac trivial <|
  zm_ac trivial <|
  zm_ac (zm_jp rfl) <|
  zm_ac trivial <|
  zm_ac trivial <|
  zm_ac trivial <|
  zm_ac trivial <|
  zm_ac (zm_jp rfl) <|
  zm_ac trivial <|
  zm_ac zk_get_NameTreeModel_50 <|
  zm_ac trivial <|
  zm_ac trivial <|
  zm_ac trivial <|
  zm_ac (zm_jp rfl) <|
  zm_ac trivial <|
  zm_ac trivial <|
  zm_ac trivial <|
  zm_ac (zm_jp rfl) <|
  zm_ac trivial <|
  zm_ac trivial <|
  zm_an
set_option maxRecDepth 100000 in
set_option maxHeartbeats 4000000 in
theorem zs_90 : ∀ q ∈ zc90, zm_rs 90 q.1 q.2.1 q.2.2.2.1 q.2.2.2.2.1 q.2.2.2.2.2 :=
  zm_ac trivial <|
  zm_ac ⟨_, _, rfl, zk_ldc_NameTreeModel_49⟩ <|
  zm_ac trivial <|
  zm_ac trivial <|
  zm_ac (zm_rp_any zk_put_NameTreeModel_90) <|
  zm_ac trivial <|
  zm_ac trivial <|
  zm_ac trivial <|
  zm_ac trivial <|
  zm_ac (zm_jp rfl) <|
  zm_ac trivial <|
  zm_ac zk_get_NameTreeModel_50 <|
  zm_ac trivial <|
  zm_ac zk_get_NameTreeModel_90 <|
  zm_ac trivial <|
  zm_ac trivial <|
  zm_ac trivial <|
  zm_ac zk_get_NameTreeModel_17 <|
  zm_ac trivial <|
  zm_ac trivial <|
  zm_ac trivial <|
  zm_ac trivial <|
  zm_ac trivial <|
  zm_ac trivial <|
  zm_ac (zm_jp rfl) <|
  zm_ac trivial <|
  zm_ac trivial <|
  zm_ac trivial <|
  zm_ac trivial <|
  zm_ac (zm_rp_any zk_put_NameTreeModel_93) <|
  zm_ac trivial <|
  zm_ac trivial <|
  zm_ac (zm_rp_any zk_put_NameTreeModel_96) <|
  zm_ac trivial <|
  zm_ac ⟨zk_virt_NameTreeModel_100, by decide, by decide⟩ <|
  zm_ac (zm_jp rfl) <|
  zm_ac trivial <|
  zm_ac zk_get_NameTreeModel_50 <|
  zm_ac trivial <|
  zm_ac zk_get_NameTreeModel_90 <|
  zm_ac trivial <|
  zm_ac trivial <|
  zm_ac (zm_jp rfl) <|
  zm_ac trivial <|
  zm_ac trivial <|
  zm_ac zk_get_NameTreeModel_90 <|
  zm_ac trivial <|
  zm_ac trivial <|
  zm_ac (zm_rp_any zk_put_NameTreeModel_90) <|
  zm_ac (zm_jp rfl) <|
  zm_ac trivial <|
  zm_ac trivial <|
  zm_ac zk_get_NameTreeModel_90 <|
  zm_ac (zm_rp_any zk_put_NameTreeModel_81) <|
  zm_ac trivial <|
  zm_ac zk_get_NameTreeModel_90 <|
  zm_ac ⟨_, _, rfl, zk_ldc_NameTreeModel_49⟩ <|
  zm_ac (zm_jp rfl) <|
  zm_ac trivial <|
  zm_ac zk_get_NameTreeModel_50 <|
  zm_ac trivial <|
  zm_ac zk_get_NameTreeModel_90 <|
  zm_ac trivial <|
  zm_ac trivial <|
  zm_ac (zm_jp rfl) <|
  zm_ac trivial <|
  zm_ac trivial <|
  zm_ac zk_get_NameTreeModel_90 <|
  zm_ac trivial <|
  zm_ac trivial <|
  zm_ac (zm_rp_any zk_put_NameTreeModel_90) <|
  zm_ac (zm_jp rfl) <|
  zm_ac trivial <|
  zm_ac trivial <|
  zm_ac zk_get_NameTreeModel_90 <|
  zm_ac trivial <|
  zm_ac zk_get_NameTreeModel_81 <|
  zm_ac trivial <|
  zm_ac (zm_rp_any zk_put_NameTreeModel_78) <|
  zm_ac trivial <|
  zm_ac zk_get_NameTreeModel_78 <|
  zm_ac trivial <|
  zm_ac (zm_jp rfl) <|
  zm_ac trivial <|
  zm_ac zk_get_NameTreeModel_50 <|
  zm_ac trivial <|
  zm_ac zk_get_NameTreeModel_81 <|
  zm_ac trivial <|
  zm_ac trivial <|
  zm_ac (zm_jp rfl) <|
  zm_ac (zm_jp rfl) <|
  zm_ac trivial <|
  zm_ac zk_get_NameTreeModel_78 <|
  zm_ac trivial <|
  zm_ac (zm_jp rfl) <|
  zm_ac trivial <|
  zm_ac trivial <|
  zm_ac trivial <|
  zm_ac zk_get_NameTreeModel_20 <|
  zm_ac trivial <|
  zm_ac zk_get_NameTreeModel_93 <|
  zm_ac trivial <|
  zm_ac trivial <|
  zm_ac (zm_jp rfl) <|
  zm_ac trivial <|
  zm_ac trivial <|
  zm_ac trivial <|
  zm_ac ⟨zk_virt_NameTreeModel_100, by decide, by decide⟩ <|
  zm_ac (zm_jp rfl) <|
  zm_ac trivial <|
  zm_ac (zm_jp rfl) <|
  zm_ac trivial <|
  zm_ac trivial <|
  zm_ac trivial <|
  zm_ac trivial <|
  zm_ac zk_get_NameTreeModel_78 <|
  zm_ac trivial <|
  zm_ac (zm_jp rfl) <|
  zm_ac trivial <|
  zm_ac zk_get_NameTreeModel_50 <|
  zm_ac trivial <|
  zm_ac zk_get_NameTreeModel_81 <|
  zm_ac trivial <|
  zm_ac trivial <|
  zm_ac (zm_jp rfl) <|
  zm_ac trivial <|
  zm_ac zk_get_NameTreeModel_50 <|
  zm_ac trivial <|
  zm_ac zk_get_NameTreeModel_81 <|
  zm_ac trivial <|
  zm_ac trivial <|
  zm_ac trivial <|
  zm_ac trivial <|
  zm_ac (zm_jp rfl) <|
  zm_ac trivial <|
  zm_ac (zm_jp rfl) <|
  zm_ac trivial <|
  zm_ac (zm_rp_any zk_put_NameTreeModel_96) <|
  zm_ac trivial <|
  zm_ac zk_get_NameTreeModel_96 <|
  zm_ac (zm_jp rfl) <|
  zm_ac trivial <|
  zm_ac trivial <|
  zm_ac trivial <|
  zm_ac zk_get_NameTreeModel_93 <|
  zm_ac ⟨zk_virt_NameTreeModel_104, by decide, by decide⟩ <|
  zm_ac (zm_rp_any zk_put_NameTreeModel_93) <|
  zm_ac (zm_jp rfl) <|
  zm_ac trivial <|
  zm_ac trivial <|
  zm_ac zk_get_NameTreeModel_93 <|
  zm_ac (zm_rp_any zk_put_NameTreeModel_75) <|
  zm_ac trivial <|
  zm_ac trivial <|
  zm_ac zk_get_NameTreeModel_75 <|
  zm_ac trivial <|
  zm_ac zk_get_NameTreeModel_81 <|
  zm_ac trivial <|
  zm_ac zk_get_NameTreeModel_78 <|
  zm_ac ⟨zk_virt_NameTreeModel_107, by decide, by decide⟩ <|
  zm_ac trivial <|
  zm_ac trivial <|
  zm_ac trivial <|
  zm_ac (zm_jp rfl) <|
  zm_ac trivial <|
  zm_ac (zm_jp rfl) <|
  zm_ac trivial <|
  zm_ac zk_get_NameTreeModel_40 <|
  zm_ac trivial <|
  zm_ac trivial <|
  zm_ac (zm_rp_any zk_put_NameTreeModel_93) <|
  zm_ac trivial <|
  zm_ac (zm_jp rfl) <|
  zm_ac trivial <|
  zm_ac (zm_jp rfl) <|
  zm_ac trivial <|
  zm_ac (zm_jp rfl) <|
  zm_ac trivial <|
  zm_ac trivial <|
  zm_ac trivial <|
  zm_ac zk_get_NameTreeModel_20 <|
  zm_ac trivial <|
  zm_ac zk_get_NameTreeModel_93 <|
  zm_ac trivial <|
  zm_ac trivial <|
  zm_ac (zm_jp rfl) <|
  zm_ac trivial <|
  zm_ac (zm_jp rfl) <|
  zm_ac trivial <|
  zm_ac (zm_jp rfl) <|
  zm_ac trivial <|
  zm_ac trivial <|
  zm_ac (zm_jp rfl) <|
  zm_ac trivial <|
  zm_ac trivial <|
  zm_ac trivial <|
  zm_ac trivial <|
  zm_ac trivial <|
  zm_ac zk_get_NameTreeModel_93 <|
  zm_ac ⟨zk_virt_NameTreeModel_111, by decide, by decide⟩ <|
  zm_ac (zm_jp rfl) <|
  zm_ac trivial <|
  zm_ac trivial <|
  zm_an
set_option maxRecDepth 100000 in
set_option maxHeartbeats 4000000 in
theorem zs_91 : ∀ q ∈ zc91, zm_rs 91 q.1 q.2.1 q.2.2.2.1 q.2.2.2.2.1 q.2.2.2.2.2 :=
  zm_ac trivial <|
  zm_ac trivial <|
  zm_ac zk_get_NameTreeModel_90 <|
  zm_ac trivial <|
  zm_ac trivial <|
  zm_ac (zm_rp_any zk_put_NameTreeModel_90) <|
  zm_ac trivial <|
  zm_ac zk_get_NameTreeModel_50 <|
  zm_ac trivial <|
  zm_ac zk_get_NameTreeModel_90 <|
  zm_ac trivial <|
  zm_ac trivial <|
  zm_ac trivial <|
  zm_ac trivial <|
  zm_ac zk_get_NameTreeModel_90 <|
  zm_ac trivial <|
  zm_ac zk_get_NameTreeModel_29 <|
  zm_ac trivial <|
  zm_ac trivial <|
  zm_ac trivial <|
  zm_ac (zm_rp_any zk_put_NameTreeModel_90) <|
  zm_ac trivial <|
  zm_ac trivial <|
  zm_ac trivial <|
  zm_ac trivial <|
  zm_ac zk_get_NameTreeModel_29 <|
  zm_ac trivial <|
  zm_ac trivial <|
  zm_ac (zm_jp rfl) <|
  zm_ac trivial <|
  zm_ac zk_get_NameTreeModel_50 <|
  zm_ac trivial <|
  zm_ac zk_get_NameTreeModel_90 <|
  zm_ac trivial <|
  zm_ac trivial <|
  zm_ac trivial <|
  zm_ac zk_get_NameTreeModel_33 <|
  zm_ac trivial <|
  zm_ac trivial <|
  zm_ac trivial <|
  zm_ac trivial <|
  zm_ac trivial <|
  zm_ac trivial <|
  zm_ac trivial <|
  zm_ac trivial <|
  zm_ac trivial <|
  zm_ac trivial <|
  zm_ac (zm_jp rfl) <|
  zm_ac trivial <|
  zm_ac trivial <|
  zm_ac zk_get_NameTreeModel_50 <|
  zm_ac trivial <|
  zm_ac zk_get_NameTreeModel_90 <|
  zm_ac trivial <|
  zm_ac trivial <|
  zm_ac (zm_jp rfl) <|
  zm_ac trivial <|
  zm_ac (zm_jp rfl) <|
  zm_ac trivial <|
  zm_ac zk_get_NameTreeModel_75 <|
  zm_ac (zm_rp_any zk_put_NameTreeModel_93) <|
  zm_ac trivial <|
  zm_ac trivial <|
  zm_ac (zm_rp_any zk_put_NameTreeModel_96) <|
  zm_ac trivial <|
  zm_an
set_option maxRecDepth 100000 in
set_option maxHeartbeats 4000000 in
theorem zs_92 : ∀ q ∈ zc92, zm_rs 92 q.1 q.2.1 q.2.2.2.1 q.2.2.2.2.1 q.2.2.2.2.2 :=
  zm_ac trivial <|
  zm_ac trivial <|
  zm_ac trivial <|
  zm_ac trivial <|
  zm_ac ⟨zk_virt_NameTreeModel_115, by decide, by decide⟩ <|
  zm_ac trivial <|
  zm_ac trivial <|
  zm_ac (zm_jp rfl) <|
  zm_ac trivial <|
  zm_ac (zm_jp rfl) <|
  zm_ac trivial <|
  zm_ac zk_get_NameTreeModel_96 <|
  zm_ac (zm_jp rfl) <|
  zm_ac trivial <|
  zm_ac (zm_jp rfl) <|
  zm_ac trivial <|
  zm_ac trivial <|
  zm_an
set_option maxRecDepth 100000 in
set_option maxHeartbeats 4000000 in
theorem zs_93 : ∀ q ∈ zc93, zm_rs 93 q.1 q.2.1 q.2.2.2.1 q.2.2.2.2.1 q.2.2.2.2.2 :=
  zm_ac trivial <|
  zm_ac trivial <|
  zm_ac (zm_jp rfl) <|
  zm_ac trivial <|
  zm_ac trivial <|
  zm_ac ⟨zk_virt_NameTreeModel_119, by decide, by decide⟩ <|
  zm_ac (zm_jp rfl) <|
  zm_ac trivial <|
  zm_ac trivial <|
  zm_ac trivial <|
  zm_ac trivial <|
  zm_ac (zm_rp_any zk_put_NameTreeModel_7) <|
  zm_ac trivial <|
  zm_ac zk_get_NameTreeModel_7 <|
  zm_ac trivial <|
  zm_ac ⟨zk_virt_NameTreeModel_119, by decide, by decide⟩ <|
  zm_ac trivial <|
  zm_ac trivial <|
  zm_an
set_option maxRecDepth 100000 in
set_option maxHeartbeats 4000000 in
theorem zs_94 : ∀ q ∈ zc94, zm_rs 94 q.1 q.2.1 q.2.2.2.1 q.2.2.2.2.1 q.2.2.2.2.2 :=
  zm_ac trivial <|
  zm_ac trivial <|
  zm_ac trivial <|
  zm_ac trivial <|
  zm_ac (zm_jp rfl) <|
  zm_ac trivial <|
  zm_ac zk_get_NameTreeModel_20 <|
  zm_ac trivial <|
  zm_ac trivial <|
  zm_ac (zm_jp rfl) <|
  zm_ac trivial <|
  zm_ac (zm_jp rfl) <|
  zm_ac trivial <|
  zm_ac trivial <|
  zm_ac (zm_jp rfl) <|
  zm_ac trivial <|
  zm_ac zk_get_NameTreeModel_68 <|
  zm_ac trivial <|
  zm_ac (zm_jp rfl) <|
  zm_ac trivial <|
  zm_ac ⟨zk_virt_NameTreeModel_119, by decide, by decide⟩ <|
  zm_ac trivial <|
  zm_ac trivial <|
  zm_ac trivial <|
  zm_ac trivial <|
  zm_ac zk_get_NameTreeModel_75 <|
  zm_ac trivial <|
  zm_ac trivial <|
  zm_ac zk_get_NameTreeModel_75 <|
  zm_ac ⟨zk_virt_NameTreeModel_84, by decide, by decide⟩ <|
  zm_ac trivial <|
  zm_ac trivial <|
  zm_ac ⟨zk_virt_NameTreeModel_123, by decide, by decide⟩ <|
  zm_ac trivial <|
  zm_ac trivial <|
  zm_ac zk_get_NameTreeModel_7 <|
  zm_ac (zm_jp rfl) <|
  zm_ac trivial <|
  zm_ac trivial <|
  zm_ac trivial <|
  zm_ac zk_get_NameTreeModel_20 <|
  zm_ac trivial <|
  zm_ac trivial <|
  zm_ac trivial <|
  zm_ac trivial <|
  zm_ac zk_get_NameTreeModel_23 <|
  zm_ac trivial <|
  zm_ac trivial <|
  zm_ac trivial <|
  zm_ac trivial <|
  zm_ac zk_get_NameTreeModel_26 <|
  zm_ac trivial <|
  zm_ac trivial <|
  zm_ac trivial <|
  zm_ac trivial <|
  zm_ac trivial <|
  zm_ac ⟨zk_virt_NameTreeModel_127, by decide, by decide⟩ <|
  zm_ac trivial <|
  zm_ac trivial <|
  zm_an
set_option maxRecDepth 100000 in
set_option maxHeartbeats 4000000 in
theorem zs_95 : ∀ q ∈ zc95, zm_rs 95 q.1 q.2.1 q.2.2.2.1 q.2.2.2.2.1 q.2.2.2.2.2 :=
  zm_ac trivial <|
  zm_ac ⟨zk_virt_NameTreeModel_130, by decide, by decide⟩ <|
  zm_ac trivial <|
  zm_ac trivial <|
  zm_ac trivial <|
  zm_ac (zm_jp rfl) <|
  zm_ac trivial <|
  zm_ac trivial <|
  zm_ac (zm_jp rfl) <|
  zm_ac trivial <|
  zm_ac trivial <|
  zm_ac (zm_jp rfl) <|
  zm_ac trivial <|
  zm_ac trivial <|
  zm_ac trivial <|
  zm_ac trivial <|
  zm_ac trivial <|
  zm_ac zk_get_NameTreeModel_58 <|
  zm_ac ⟨zk_virt_NameTreeModel_133, by decide, by decide⟩ <|
  zm_ac trivial <|
  zm_ac trivial <|
  zm_ac (zm_jp rfl) <|
  zm_ac trivial <|
  zm_ac trivial <|
  zm_ac trivial <|
  zm_ac zk_get_NameTreeModel_93 <|
  zm_ac (zm_jp rfl) <|
  zm_ac trivial <|
  zm_ac (zm_jp rfl) <|
  zm_ac trivial <|
  zm_ac trivial <|
  zm_ac trivial <|
  zm_ac ⟨zk_virt_NameTreeModel_136, by decide, by decide⟩ <|
  zm_ac trivial <|
  zm_an
set_option maxRecDepth 100000 in
set_option maxHeartbeats 4000000 in
theorem zs_96 : ∀ q ∈ zc96, zm_rs 96 q.1 q.2.1 q.2.2.2.1 q.2.2.2.2.1 q.2.2.2.2.2 :=
  zm_ac trivial <|
  zm_ac ⟨zk_virt_NameTreeModel_130, by decide, by decide⟩ <|
  zm_ac trivial <|
  zm_ac trivial <|
  zm_ac (zm_jp rfl) <|
  zm_ac trivial <|
  zm_ac trivial <|
  zm_ac trivial <|
  zm_ac trivial <|
  zm_ac trivial <|
  zm_ac trivial <|
  zm_ac ⟨zk_virt_NameTreeModel_115, by decide, by decide⟩ <|
  zm_ac trivial <|
  zm_ac trivial <|
  zm_ac (zm_jp rfl) <|
  zm_ac trivial <|
  zm_ac trivial <|
  zm_ac trivial <|
  zm_ac zk_get_NameTreeModel_93 <|
  zm_ac trivial <|
  zm_ac trivial <|
  zm_ac trivial <|
  zm_ac trivial <|
  zm_ac trivial <|
  zm_ac trivial <|
  zm_ac zk_get_NameTreeModel_58 <|
  zm_ac trivial <|
  zm_ac trivial <|
  zm_ac trivial <|
  zm_ac trivial <|
  zm_ac ⟨zk_virt_NameTreeModel_133, by decide, by decide⟩ <|
  zm_ac trivial <|
  zm_ac trivial <|
  zm_ac (zm_jp rfl) <|
  zm_ac trivial <|
  zm_ac trivial <|
  zm_ac trivial <|
  zm_ac (zm_jp rfl) <|
  zm_ac trivial <|
  zm_ac trivial <|
  zm_ac trivial <|
  zm_ac zk_get_NameTreeModel_20 <|
  zm_ac trivial <|
  zm_ac trivial <|
  zm_ac trivial <|
  zm_ac (zm_jp rfl) <|
  zm_ac trivial <|
  zm_ac trivial <|
  zm_ac trivial <|
  zm_ac zk_get_NameTreeModel_93 <|
  zm_ac (zm_jp rfl) <|
  zm_ac trivial <|
  zm_ac trivial <|
  zm_ac trivial <|
  zm_ac zk_get_NameTreeModel_68 <|
  zm_ac trivial <|
  zm_ac (zm_jp rfl) <|
  zm_ac trivial <|
  zm_ac ⟨zk_virt_NameTreeModel_119, by decide, by decide⟩ <|
  zm_ac trivial <|
  zm_ac trivial <|
  zm_ac zk_get_NameTreeModel_75 <|
  zm_ac trivial <|
  zm_ac trivial <|
  zm_ac zk_get_NameTreeModel_75 <|
  zm_ac ⟨zk_virt_NameTreeModel_84, by decide, by decide⟩ <|
  zm_ac trivial <|
  zm_ac trivial <|
  zm_ac ⟨zk_virt_NameTreeModel_123, by decide, by decide⟩ <|
  zm_ac trivial <|
  zm_ac trivial <|
  zm_ac zk_get_NameTreeModel_7 <|
  zm_ac (zm_jp rfl) <|
  zm_ac trivial <|
  zm_ac trivial <|
  zm_ac trivial <|
  zm_ac trivial <|
  zm_ac ⟨zk_virt_NameTreeModel_127, by decide, by decide⟩ <|
  zm_ac trivial <|
  zm_ac trivial <|
  zm_an
set_option maxRecDepth 100000 in
set_option maxHeartbeats 4000000 in
theorem zs_97 : ∀ q ∈ zc97, zm_rs 97 q.1 q.2.1 q.2.2.2.1 q.2.2.2.2.1 q.2.2.2.2.2 :=
  zm_ac trivial <|
  zm_ac ⟨zk_virt_NameTreeModel_130, by decide, by decide⟩ <|
  zm_ac trivial <|
  zm_ac trivial <|
  zm_ac zk_get_NameTreeModel_58 <|
  zm_ac trivial <|
  zm_ac trivial <|
  zm_ac trivial <|
  zm_ac trivial <|
  zm_ac trivial <|
  zm_ac trivial <|
  zm_ac (zm_jp rfl) <|
  zm_ac trivial <|
  zm_ac trivial <|
  zm_ac (zm_jp rfl) <|
  zm_ac trivial <|
  zm_ac trivial <|
  zm_ac (zm_jp rfl) <|
  zm_ac trivial <|
  zm_ac trivial <|
  zm_ac trivial <|
  zm_ac trivial <|
  zm_ac trivial <|
  zm_ac ⟨zk_virt_NameTreeModel_133, by decide, by decide⟩ <|
  zm_ac trivial <|
  zm_ac trivial <|
  zm_ac (zm_jp rfl) <|
  zm_ac trivial <|
  zm_ac trivial <|
  zm_ac trivial <|
  zm_ac zk_get_NameTreeModel_93 <|
  zm_ac (zm_jp rfl) <|
  zm_ac trivial <|
  zm_ac trivial <|
  zm_ac trivial <|
  zm_ac trivial <|
  zm_ac trivial <|
  zm_ac trivial <|
  zm_ac (zm_jp rfl) <|
  zm_ac trivial <|
  zm_ac (zm_jp rfl) <|
  zm_ac trivial <|
  zm_ac ⟨zk_virt_NameTreeModel_136, by decide, by decide⟩ <|
  zm_ac trivial <|
  zm_ac trivial <|
  zm_ac (zm_jp rfl) <|
  zm_ac trivial <|
  zm_ac trivial <|
  zm_ac trivial <|
  zm_ac zk_get_NameTreeModel_29 <|
  zm_ac trivial <|
  zm_ac trivial <|
  zm_ac trivial <|
  zm_ac trivial <|
  zm_ac trivial <|
  zm_ac trivial <|
  zm_ac trivial <|
  zm_ac (zm_jp rfl) <|
  zm_ac trivial <|
  zm_ac zk_get_NameTreeModel_33 <|
  zm_ac trivial <|
  zm_ac trivial <|
  zm_ac trivial <|
  zm_ac trivial <|
  zm_ac trivial <|
  zm_ac trivial <|
  zm_ac zk_get_NameTreeModel_17 <|
  zm_ac trivial <|
  zm_ac trivial <|
  zm_ac trivial <|
  zm_ac trivial <|
  zm_ac trivial <|
  zm_ac trivial <|
  zm_ac trivial <|
  zm_ac trivial <|
  zm_ac trivial <|
  zm_ac (zm_jp rfl) <|
  zm_ac trivial <|
  zm_ac trivial <|
  zm_an
set_option maxRecDepth 100000 in
set_option maxHeartbeats 4000000 in
theorem zs_98 : ∀ q ∈ zc98, zm_rs 98 q.1 q.2.1 q.2.2.2.1 q.2.2.2.2.1 q.2.2.2.2.2 :=
  zm_ac trivial <|
  zm_ac ⟨zk_virt_NameTreeModel_130, by decide, by decide⟩ <|
  zm_ac trivial <|
  zm_ac trivial <|
  zm_ac trivial <|
  zm_ac (zm_jp rfl) <|
  zm_ac trivial <|
  zm_ac trivial <|
  zm_ac trivial <|
  zm_ac trivial <|
  zm_ac trivial <|
  zm_ac zk_get_NameTreeModel_58 <|
  zm_ac ⟨zk_virt_NameTreeModel_133, by decide, by decide⟩ <|
  zm_ac trivial <|
  zm_ac trivial <|
  zm_ac (zm_jp rfl) <|
  zm_ac trivial <|
  zm_ac trivial <|
  zm_ac trivial <|
  zm_ac zk_get_NameTreeModel_93 <|
  zm_ac (zm_jp rfl) <|
  zm_ac trivial <|
  zm_ac trivial <|
  zm_ac trivial <|
  zm_ac zk_get_NameTreeModel_20 <|
  zm_ac trivial <|
  zm_ac zk_get_NameTreeModel_93 <|
  zm_ac trivial <|
  zm_ac trivial <|
  zm_ac (zm_jp rfl) <|
  zm_ac trivial <|
  zm_ac trivial <|
  zm_ac trivial <|
  zm_ac trivial <|
  zm_ac trivial <|
  zm_ac zk_get_NameTreeModel_75 <|
  zm_ac trivial <|
  zm_ac zk_get_NameTreeModel_81 <|
  zm_ac trivial <|
  zm_ac zk_get_NameTreeModel_78 <|
  zm_ac ⟨zk_virt_NameTreeModel_107, by decide, by decide⟩ <|
  zm_ac ⟨zk_virt_NameTreeModel_139, by decide, by decide⟩ <|
  zm_ac trivial <|
  zm_ac zk_get_NameTreeModel_93 <|
  zm_ac trivial <|
  zm_an
set_option maxRecDepth 100000 in
set_option maxHeartbeats 4000000 in
theorem zs_99 : ∀ q ∈ zc99, zm_rs 99 q.1 q.2.1 q.2.2.2.1 q.2.2.2.2.1 q.2.2.2.2.2 :=
  zm_ac trivial <|
  zm_ac ⟨zk_virt_NameTreeModel_130, by decide, by decide⟩ <|
  zm_ac trivial <|
  zm_ac trivial <|
  zm_ac trivial <|
  zm_ac (zm_jp rfl) <|
  zm_ac trivial <|
  zm_ac trivial <|
  zm_ac trivial <|
  zm_ac trivial <|
  zm_ac trivial <|
  zm_ac zk_get_NameTreeModel_58 <|
  zm_ac ⟨zk_virt_NameTreeModel_133, by decide, by decide⟩ <|
  zm_ac trivial <|
  zm_ac trivial <|
  zm_ac (zm_jp rfl) <|
  zm_ac trivial <|
  zm_ac trivial <|
  zm_ac trivial <|
  zm_ac zk_get_NameTreeModel_93 <|
  zm_ac (zm_jp rfl) <|
  zm_ac trivial <|
  zm_ac trivial <|
  zm_ac trivial <|
  zm_ac zk_get_NameTreeModel_20 <|
  zm_ac trivial <|
  zm_ac zk_get_NameTreeModel_93 <|
  zm_ac trivial <|
  zm_ac trivial <|
  zm_ac (zm_jp rfl) <|
  zm_ac trivial <|
  zm_ac trivial <|
  zm_ac trivial <|
  zm_ac trivial <|
  zm_ac zk_get_NameTreeModel_93 <|
  zm_ac ⟨zk_virt_NameTreeModel_84, by decide, by decide⟩ <|
  zm_ac (zm_jp rfl) <|
  zm_ac trivial <|
  zm_ac trivial <|
  zm_ac trivial <|
  zm_ac trivial <|
  zm_ac trivial <|
  zm_ac zk_get_NameTreeModel_75 <|
  zm_ac trivial <|
  zm_ac zk_get_NameTreeModel_81 <|
  zm_ac trivial <|
  zm_ac zk_get_NameTreeModel_78 <|
  zm_ac ⟨zk_virt_NameTreeModel_107, by decide, by decide⟩ <|
  zm_ac ⟨zk_virt_NameTreeModel_139, by decide, by decide⟩ <|
  zm_ac trivial <|
  zm_ac zk_get_NameTreeModel_93 <|
  zm_ac trivial <|
  zm_an
set_option maxRecDepth 100000 in
set_option maxHeartbeats 4000000 in
theorem zs_100 : ∀ q ∈ zc100, zm_rs 100 q.1 q.2.1 q.2.2.2.1 q.2.2.2.2.1 q.2.2.2.2.2 :=
  zm_ac trivial <|
  zm_ac trivial <|
  zm_ac trivial <|
  zm_ac trivial <|
  zm_ac (zm_jp rfl) <|
  zm_ac trivial <|
  zm_ac trivial <|
  zm_ac (zm_jp rfl) <|
  zm_ac trivial <|
  zm_ac trivial <|
  zm_ac ⟨zk_virt_NameTreeModel_104, by decide, by decide⟩ <|
  zm_ac trivial <|
  zm_ac (zm_jp rfl) <|
  zm_ac trivial <|
  zm_ac trivial <|
  zm_ac (zm_jp rfl) <|
  zm_ac trivial <|
  zm_ac (zm_jp rfl) <|
  zm_ac trivial <|
  zm_ac trivial <|
  zm_an
set_option maxRecDepth 100000 in
set_option maxHeartbeats 4000000 in
theorem zs_101 : ∀ q ∈ zc101, zm_rs 101 q.1 q.2.1 q.2.2.2.1 q.2.2.2.2.1 q.2.2.2.2.2 :=
  zm_ac trivial <|
  zm_ac ⟨zk_virt_NameTreeModel_130, by decide, by decide⟩ <|
  zm_ac trivial <|
  zm_ac trivial <|
  zm_ac (zm_jp rfl) <|
  zm_ac trivial <|
  zm_ac trivial <|
  zm_ac trivial <|
  zm_ac trivial <|
  zm_ac trivial <|
  zm_ac ⟨zk_virt_NameTreeModel_133, by decide, by decide⟩ <|
  zm_ac trivial <|
  zm_ac trivial <|
  zm_ac (zm_jp rfl) <|
  zm_ac trivial <|
  zm_ac trivial <|
  zm_ac trivial <|
  zm_ac zk_get_NameTreeModel_93 <|
  zm_ac trivial <|
  zm_ac trivial <|
  zm_ac (zm_jp rfl) <|
  zm_ac trivial <|
  zm_ac (zm_jp rfl) <|
  zm_ac trivial <|
  zm_ac trivial <|
  zm_ac zk_get_NameTreeModel_75 <|
  zm_ac trivial <|
  zm_ac zk_get_NameTreeModel_81 <|
  zm_ac trivial <|
  zm_ac zk_get_NameTreeModel_78 <|
  zm_ac ⟨zk_virt_NameTreeModel_107, by decide, by decide⟩ <|
  zm_ac trivial <|
  zm_ac trivial <|
  zm_ac trivial <|
  zm_ac trivial <|
  zm_ac trivial <|
  zm_ac trivial <|
  zm_ac zk_get_NameTreeModel_58 <|
  zm_ac trivial <|
  zm_ac trivial <|
  zm_ac trivial <|
  zm_ac trivial <|
  zm_ac ⟨zk_virt_NameTreeModel_133, by decide, by decide⟩ <|
  zm_ac trivial <|
  zm_ac trivial <|
  zm_ac (zm_jp rfl) <|
  zm_ac trivial <|
  zm_ac trivial <|
  zm_ac trivial <|
  zm_ac (zm_jp rfl) <|
  zm_ac trivial <|
  zm_ac trivial <|
  zm_ac trivial <|
  zm_ac zk_get_NameTreeModel_93 <|
  zm_ac trivial <|
  zm_ac (zm_jp rfl) <|
  zm_ac trivial <|
  zm_ac trivial <|
  zm_ac trivial <|
  zm_ac zk_get_NameTreeModel_20 <|
  zm_ac trivial <|
  zm_ac trivial <|
  zm_ac trivial <|
  zm_ac (zm_jp rfl) <|
  zm_ac trivial <|
  zm_ac (zm_jp rfl) <|
  zm_ac trivial <|
  zm_ac trivial <|
  zm_ac trivial <|
  zm_ac (zm_jp rfl) <|
  zm_ac trivial <|
  zm_ac trivial <|
  zm_ac zk_get_NameTreeModel_75 <|
  zm_ac trivial <|
  zm_ac ⟨zk_virt_NameTreeModel_142, by decide, by decide⟩ <|
  zm_ac (zm_jp rfl) <|
  zm_ac trivial <|
  zm_ac trivial <|
  zm_ac trivial <|
  zm_ac zk_get_NameTreeModel_93 <|
  zm_ac (zm_jp rfl) <|
  zm_ac trivial <|
  zm_ac zk_get_NameTreeModel_20 <|
  zm_ac trivial <|
  zm_ac zk_get_NameTreeModel_93 <|
  zm_ac trivial <|
  zm_ac trivial <|
  zm_ac (zm_jp rfl) <|
  zm_ac trivial <|
  zm_ac (zm_jp rfl) <|
  zm_ac trivial <|
  zm_ac trivial <|
  zm_ac trivial <|
  zm_ac zk_get_NameTreeModel_93 <|
  zm_ac (zm_jp rfl) <|
  zm_ac trivial <|
  zm_ac (zm_jp rfl) <|
  zm_ac trivial <|
  zm_ac (zm_jp rfl) <|
  zm_ac trivial <|
  zm_ac trivial <|
  zm_ac trivial <|
  zm_ac (zm_jp rfl) <|
  zm_ac trivial <|
  zm_ac (zm_jp rfl) <|
  zm_ac trivial <|
  zm_ac trivial <|
  zm_ac trivial <|
  zm_ac (zm_jp rfl) <|
  zm_ac trivial <|
  zm_ac trivial <|
  zm_ac zk_get_NameTreeModel_93 <|
  zm_ac ⟨zk_virt_NameTreeModel_84, by decide, by decide⟩ <|
  zm_ac (zm_jp rfl) <|
  zm_ac trivial <|
  zm_ac trivial <|
  zm_ac trivial <|
  zm_ac zk_get_NameTreeModel_93 <|
  zm_ac (zm_jp rfl) <|
  zm_ac trivial <|
  zm_ac trivial <|
  zm_ac zk_get_NameTreeModel_93 <|
  zm_ac ⟨zk_virt_NameTreeModel_87, by decide, by decide⟩ <|
  zm_ac trivial <|
  zm_ac (zm_jp rfl) <|
  zm_ac trivial <|
  zm_ac zk_get_NameTreeModel_26 <|
  zm_ac trivial <|
  zm_ac zk_get_NameTreeModel_93 <|
  zm_ac trivial <|
  zm_ac (zm_jp rfl) <|
  zm_ac trivial <|
  zm_ac (zm_jp rfl) <|
  zm_ac trivial <|
  zm_ac trivial <|
  zm_ac trivial <|
  zm_ac trivial <|
  zm_ac zk_get_NameTreeModel_75 <|
  zm_ac ⟨zk_virt_NameTreeModel_84, by decide, by decide⟩ <|
  zm_ac trivial <|
  zm_ac trivial <|
  zm_ac trivial <|
  zm_ac zk_get_NameTreeModel_37 <|
  zm_ac trivial <|
  zm_ac trivial <|
  zm_ac trivial <|
  zm_ac zk_get_NameTreeModel_75 <|
  zm_ac (zm_jp rfl) <|
  zm_ac trivial <|
  zm_ac (zm_jp rfl) <|
  zm_ac trivial <|
  zm_ac trivial <|
  zm_ac trivial <|
  zm_ac zk_get_NameTreeModel_93 <|
  zm_ac (zm_jp rfl) <|
  zm_ac trivial <|
  zm_ac (zm_jp rfl) <|
  zm_ac trivial <|
  zm_ac trivial <|
  zm_ac trivial <|
  zm_ac trivial <|
  zm_ac ⟨zk_virt_NameTreeModel_119, by decide, by decide⟩ <|
  zm_ac trivial <|
  zm_ac (zm_jp rfl) <|
  zm_ac trivial <|
  zm_ac trivial <|
  zm_ac zk_get_NameTreeModel_93 <|
  zm_ac ⟨zk_virt_NameTreeModel_65, by decide, by decide⟩ <|
  zm_ac (zm_jp rfl) <|
  zm_ac trivial <|
  zm_ac trivial <|
  zm_ac trivial <|
  zm_ac trivial <|
  zm_ac zk_get_NameTreeModel_75 <|
  zm_ac trivial <|
  zm_ac ⟨zk_virt_NameTreeModel_123, by decide, by decide⟩ <|
  zm_ac trivial <|
  zm_ac trivial <|
  zm_ac zk_get_NameTreeModel_7 <|
  zm_ac (zm_jp rfl) <|
  zm_ac trivial <|
  zm_ac trivial <|
  zm_ac trivial <|
  zm_ac zk_get_NameTreeModel_26 <|
  zm_ac trivial <|
  zm_ac trivial <|
  zm_ac trivial <|
  zm_ac trivial <|
  zm_ac trivial <|
  zm_ac trivial <|
  zm_ac trivial <|
  zm_ac trivial <|
  zm_ac ⟨zk_virt_NameTreeModel_139, by decide, by decide⟩ <|
  zm_ac trivial <|
  zm_ac zk_get_NameTreeModel_93 <|
  zm_ac (zm_jp rfl) <|
  zm_ac trivial <|
  zm_ac trivial <|
  zm_ac trivial <|
  zm_ac zk_get_NameTreeModel_75 <|
  zm_ac trivial <|
  zm_ac zk_get_NameTreeModel_81 <|
  zm_ac trivial <|
  zm_ac zk_get_NameTreeModel_78 <|
  zm_ac ⟨zk_virt_NameTreeModel_107, by decide, by decide⟩ <|
  zm_ac ⟨zk_virt_NameTreeModel_139, by decide, by decide⟩ <|
  zm_ac trivial <|
  zm_ac zk_get_NameTreeModel_26 <|
  zm_ac trivial <|
  zm_ac trivial <|
  zm_ac trivial <|
  zm_ac trivial <|
  zm_ac trivial <|
  zm_ac trivial <|
  zm_ac trivial <|
  zm_ac trivial <|
  zm_ac ⟨zk_virt_NameTreeModel_127, by decide, by decide⟩ <|
  zm_ac trivial <|
  zm_ac trivial <|
  zm_an
set_option maxRecDepth 100000 in
set_option maxHeartbeats 4000000 in
theorem zs_102 : ∀ q ∈ zc102, zm_rs 102 q.1 q.2.1 q.2.2.2.1 q.2.2.2.2.1 q.2.2.2.2.2 :=
  zm_ac trivial <|
  zm_ac ⟨zk_virt_NameTreeModel_130, by decide, by decide⟩ <|
  zm_ac trivial <|
  zm_ac trivial <|
  zm_ac trivial <|
  zm_ac (zm_jp rfl) <|
  zm_ac trivial <|
  zm_ac trivial <|
  zm_ac trivial <|
  zm_ac trivial <|
  zm_ac trivial <|
  zm_ac zk_get_NameTreeModel_58 <|
  zm_ac trivial <|
  zm_ac ⟨zk_virt_NameTreeModel_115, by decide, by decide⟩ <|
  zm_ac trivial <|
  zm_ac trivial <|
  zm_ac (zm_jp rfl) <|
  zm_ac trivial <|
  zm_ac (zm_jp rfl) <|
  zm_ac trivial <|
  zm_ac zk_get_NameTreeModel_93 <|
  zm_ac (zm_jp rfl) <|
  zm_ac trivial <|
  zm_ac (zm_jp rfl) <|
  zm_ac trivial <|
  zm_ac zk_get_NameTreeModel_93 <|
  zm_ac trivial <|
  zm_an
set_option maxRecDepth 100000 in
set_option maxHeartbeats 4000000 in
theorem zs_103 : ∀ q ∈ zc103, zm_rs 103 q.1 q.2.1 q.2.2.2.1 q.2.2.2.2.1 q.2.2.2.2.2 :=
  zm_ac trivial <|
  zm_ac ⟨zk_virt_NameTreeModel_130, by decide, by decide⟩ <|
  zm_ac trivial <|
  zm_ac trivial <|
  zm_ac trivial <|
  zm_ac (zm_jp rfl) <|
  zm_ac trivial <|
  zm_ac trivial <|
  zm_ac trivial <|
  zm_ac trivial <|
  zm_ac trivial <|
  zm_ac zk_get_NameTreeModel_58 <|
  zm_ac trivial <|
  zm_ac ⟨zk_virt_NameTreeModel_115, by decide, by decide⟩ <|
  zm_ac trivial <|
  zm_ac trivial <|
  zm_ac (zm_jp rfl) <|
  zm_ac trivial <|
  zm_ac trivial <|
  zm_ac trivial <|
  zm_ac zk_get_NameTreeModel_93 <|
  zm_ac (zm_jp rfl) <|
  zm_ac trivial <|
  zm_ac trivial <|
  zm_ac trivial <|
  zm_ac zk_get_NameTreeModel_20 <|
  zm_ac trivial <|
  zm_ac zk_get_NameTreeModel_93 <|
  zm_ac trivial <|
  zm_ac trivial <|
  zm_ac (zm_jp rfl) <|
  zm_ac trivial <|
  zm_ac zk_get_NameTreeModel_26 <|
  zm_ac trivial <|
  zm_ac zk_get_NameTreeModel_93 <|
  zm_ac trivial <|
  zm_ac trivial <|
  zm_ac (zm_jp rfl) <|
  zm_ac trivial <|
  zm_ac trivial <|
  zm_ac trivial <|
  zm_ac zk_get_NameTreeModel_26 <|
  zm_ac trivial <|
  zm_ac zk_get_NameTreeModel_93 <|
  zm_ac trivial <|
  zm_ac trivial <|
  zm_ac trivial <|
  zm_ac trivial <|
  zm_ac trivial <|
  zm_ac trivial <|
  zm_ac zk_get_NameTreeModel_93 <|
  zm_ac trivial <|
  zm_an
set_option maxRecDepth 100000 in
set_option maxHeartbeats 4000000 in
theorem zs_104 : ∀ q ∈ zc104, zm_rs 104 q.1 q.2.1 q.2.2.2.1 q.2.2.2.2.1 q.2.2.2.2.2 :=
  zm_ac trivial <|
  zm_ac trivial <|
  zm_ac (zm_jp rfl) <|
  zm_ac trivial <|
  zm_ac trivial <|
  zm_ac (zm_jp rfl) <|
  zm_ac trivial <|
  zm_ac zk_get_NameTreeModel_20 <|
  zm_ac trivial <|
  zm_ac trivial <|
  zm_ac (zm_jp rfl) <|
  zm_ac trivial <|
  zm_ac (zm_jp rfl) <|
  zm_ac trivial <|
  zm_ac trivial <|
  zm_an
set_option maxRecDepth 100000 in
set_option maxHeartbeats 4000000 in
theorem zs_105 : ∀ q ∈ zc105, zm_rs 105 q.1 q.2.1 q.2.2.2.1 q.2.2.2.2.1 q.2.2.2.2.2 :=
  zm_ac trivial <|
  zm_ac trivial <|
  zm_ac ⟨zk_virt_NameTreeModel_146, by decide, by decide⟩ <|
  zm_ac (zm_jp rfl) <|
  zm_ac trivial <|
  zm_ac zk_get_NameTreeModel_26 <|
  zm_ac trivial <|
  zm_ac trivial <|
  zm_ac (zm_jp rfl) <|
  zm_ac trivial <|
  zm_ac trivial <|
  zm_ac trivial <|
  zm_ac zk_get_NameTreeModel_26 <|
  zm_ac trivial <|
  zm_ac trivial <|
  zm_ac trivial <|
  zm_ac trivial <|
  zm_ac trivial <|
  zm_ac trivial <|
  zm_ac trivial <|
  zm_ac trivial <|
  zm_ac ⟨zk_virt_NameTreeModel_87, by decide, by decide⟩ <|
  zm_ac trivial <|
  zm_ac trivial <|
  zm_ac (zm_jp rfl) <|
  zm_ac trivial <|
  zm_ac zk_get_NameTreeModel_26 <|
  zm_ac trivial <|
  zm_ac trivial <|
  zm_ac (zm_jp rfl) <|
  zm_ac trivial <|
  zm_ac zk_get_NameTreeModel_20 <|
  zm_ac trivial <|
  zm_ac trivial <|
  zm_ac trivial <|
  zm_ac trivial <|
  zm_ac trivial <|
  zm_an
set_option maxRecDepth 100000 in
set_option maxHeartbeats 4000000 in
theorem zs_106 : ∀ q ∈ zc106, zm_rs 106 q.1 q.2.1 q.2.2.2.1 q.2.2.2.2.1 q.2.2.2.2.2 :=
  zm_ac trivial <|
  zm_ac trivial <|
  zm_ac trivial <|
  zm_ac trivial <|
  zm_ac trivial <|
  zm_ac trivial <|
  zm_ac zk_get_NameTreeModel_68 <|
  zm_ac (zm_jp rfl) <|
  zm_ac trivial <|
  zm_ac trivial <|
  zm_ac zk_get_NameTreeModel_37 <|
  zm_ac trivial <|
  zm_ac trivial <|
  zm_ac trivial <|
  zm_ac (zm_jp rfl) <|
  zm_ac trivial <|
  zm_ac zk_get_NameTreeModel_20 <|
  zm_ac trivial <|
  zm_ac zk_get_NameTreeModel_40 <|
  zm_ac trivial <|
  zm_ac trivial <|
  zm_ac trivial <|
  zm_ac trivial <|
  zm_ac (zm_jp rfl) <|
  zm_ac trivial <|
  zm_ac (zm_jp rfl) <|
  zm_ac trivial <|
  zm_ac trivial <|
  zm_ac trivial <|
  zm_ac trivial <|
  zm_ac (zm_jp rfl) <|
  zm_ac trivial <|
  zm_ac trivial <|
  zm_an
set_option maxRecDepth 100000 in
set_option maxHeartbeats 4000000 in
theorem zs_107 : ∀ q ∈ zc107, zm_rs 107 q.1 q.2.1 q.2.2.2.1 q.2.2.2.2.1 q.2.2.2.2.2 :=
  zm_ac trivial <|
  zm_ac trivial <|
  zm_ac ⟨zk_virt_NameTreeModel_146, by decide, by decide⟩ <|
  zm_ac (zm_jp rfl) <|
  zm_ac trivial <|
  zm_ac (zm_jp rfl) <|
  zm_ac trivial <|
  zm_ac trivial <|
  zm_ac (zm_jp rfl) <|
  zm_ac trivial <|
  zm_ac trivial <|
  zm_ac trivial <|
  zm_ac zk_get_NameTreeModel_20 <|
  zm_ac trivial <|
  zm_ac trivial <|
  zm_ac trivial <|
  zm_ac (zm_jp rfl) <|
  zm_ac trivial <|
  zm_ac (zm_jp rfl) <|
  zm_ac trivial <|
  zm_ac trivial <|
  zm_ac trivial <|
  zm_ac (zm_tsw (by decide) (by decide) (by decide) (by decide)) <|
  zm_ac trivial <|
  zm_ac zk_get_NameTreeModel_20 <|
  zm_ac trivial <|
  zm_ac trivial <|
  zm_ac trivial <|
  zm_ac trivial <|
  zm_ac (zm_jp rfl) <|
  zm_ac trivial <|
  zm_ac trivial <|
  zm_ac trivial <|
  zm_ac ⟨zk_virt_NameTreeModel_150, by decide, by decide⟩ <|
  zm_ac trivial <|
  zm_ac (zm_jp rfl) <|
  zm_ac trivial <|
  zm_ac trivial <|
  zm_ac ⟨zk_virt_NameTreeModel_87, by decide, by decide⟩ <|
  zm_ac trivial <|
  zm_ac trivial <|
  zm_ac (zm_jp rfl) <|
  zm_ac trivial <|
  zm_ac trivial <|
  zm_ac ⟨zk_virt_NameTreeModel_84, by decide, by decide⟩ <|
  zm_ac (zm_jp rfl) <|
  zm_ac trivial <|
  zm_ac zk_get_NameTreeModel_20 <|
  zm_ac trivial <|
  zm_ac trivial <|
  zm_ac trivial <|
  zm_ac (zm_jp rfl) <|
  zm_ac trivial <|
  zm_ac zk_get_NameTreeModel_29 <|
  zm_ac trivial <|
  zm_ac trivial <|
  zm_ac (zm_jp rfl) <|
  zm_ac trivial <|
  zm_ac zk_get_NameTreeModel_26 <|
  zm_ac trivial <|
  zm_ac trivial <|
  zm_ac trivial <|
  zm_ac trivial <|
  zm_ac trivial <|
  zm_ac ⟨zk_virt_NameTreeModel_65, by decide, by decide⟩ <|
  zm_ac trivial <|
  zm_ac trivial <|
  zm_ac (zm_jp rfl) <|
  zm_ac trivial <|
  zm_ac trivial <|
  zm_ac ⟨zk_virt_NameTreeModel_104, by decide, by decide⟩ <|
  zm_ac (zm_jp rfl) <|
  zm_ac trivial <|
  zm_ac trivial <|
  zm_an
set_option maxRecDepth 100000 in
set_option maxHeartbeats 4000000 in
theorem zs_108 : ∀ q ∈ zc108, zm_rs 108 q.1 q.2.1 q.2.2.2.1 q.2.2.2.2.1 q.2.2.2.2.2 :=
  zm_ac trivial <|
  zm_ac trivial <|
  zm_ac ⟨zk_virt_NameTreeModel_146, by decide, by decide⟩ <|
  zm_ac (zm_jp rfl) <|
  zm_ac trivial <|
  zm_ac zk_get_NameTreeModel_20 <|
  zm_ac trivial <|
  zm_ac trivial <|
  zm_ac trivial <|
  zm_ac (zm_jp rfl) <|
  zm_ac trivial <|
  zm_ac (zm_jp rfl) <|
  zm_ac trivial <|
  zm_ac trivial <|
  zm_ac zk_get_NameTreeModel_29 <|
  zm_ac trivial <|
  zm_ac trivial <|
  zm_ac (zm_jp rfl) <|
  zm_ac trivial <|
  zm_ac (zm_jp rfl) <|
  zm_ac trivial <|
  zm_ac zk_get_NameTreeModel_33 <|
  zm_ac trivial <|
  zm_ac trivial <|
  zm_ac trivial <|
  zm_ac trivial <|
  zm_ac trivial <|
  zm_ac trivial <|
  zm_ac trivial <|
  zm_ac trivial <|
  zm_ac trivial <|
  zm_an
set_option maxRecDepth 100000 in
set_option maxHeartbeats 4000000 in
theorem zs_109 : ∀ q ∈ zc109, zm_rs 109 q.1 q.2.1 q.2.2.2.1 q.2.2.2.2.1 q.2.2.2.2.2 :=
  zm_ac trivial <|
  zm_ac (zm_jp rfl) <|
  zm_ac trivial <|
  zm_ac ⟨zk_virt_NameTreeModel_153, by decide, by decide⟩ <|
  zm_ac (zm_jp rfl) <|
  zm_ac trivial <|
  zm_ac trivial <|
  zm_ac (zm_jp rfl) <|
  zm_ac trivial <|
  zm_ac zk_get_NameTreeModel_68 <|
  zm_ac (zm_jp rfl) <|
  zm_ac trivial <|
  zm_ac trivial <|
  zm_ac (zm_jp rfl) <|
  zm_ac trivial <|
  zm_ac zk_get_NameTreeModel_53 <|
  zm_ac (zm_jp rfl) <|
  zm_ac trivial <|
  zm_ac trivial <|
  zm_ac (zm_jp rfl) <|
  zm_ac trivial <|
  zm_ac ⟨zk_virt_NameTreeModel_119, by decide, by decide⟩ <|
  zm_ac (zm_jp rfl) <|
  zm_ac trivial <|
  zm_ac trivial <|
  zm_an
