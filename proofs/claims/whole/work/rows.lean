section
/-- a private method of a class that the tables say can be made, by its rows of tables_1 -/
def lw_okq (q : MethodName × Nat) : Prop := (q.1.cls ≠ "java/lang/invoke/MethodHandle" ∧ q.1.cls ≠ "java/lang/invoke/VarHandle") ∧ Cond.instantiable q.1.cls q.2 ∈ tables_1 ∧ Cond.privateMethod q.1 ∈ tables_1 ∧ Cond.instanceMethod q.1 ∈ tables_1
theorem lw_p0 : lw_okq (⟨"NameTree", "readName", "()I"⟩, 6) := ⟨⟨by decide +kernel, by decide +kernel⟩, List.mem_of_getElem? (i := 13) (by decide +kernel), List.mem_of_getElem? (i := 267) (by decide +kernel), List.mem_of_getElem? (i := 268) (by decide +kernel)⟩
theorem lw_p1 : lw_okq (⟨"NameTree$Tape", "zeroFrom", "(II)I"⟩, 2) := ⟨⟨by decide +kernel, by decide +kernel⟩, List.mem_of_getElem? (i := 21) (by decide +kernel), List.mem_of_getElem? (i := 279) (by decide +kernel), List.mem_of_getElem? (i := 280) (by decide +kernel)⟩
theorem lw_p2 : lw_okq (⟨"NameTree$Walk", "begin", "()V"⟩, 11) := ⟨⟨by decide +kernel, by decide +kernel⟩, List.mem_of_getElem? (i := 143) (by decide +kernel), List.mem_of_getElem? (i := 291) (by decide +kernel), List.mem_of_getElem? (i := 292) (by decide +kernel)⟩
theorem lw_p3 : lw_okq (⟨"NameTree$Walk", "push", "([BII)V"⟩, 11) := ⟨⟨by decide +kernel, by decide +kernel⟩, List.mem_of_getElem? (i := 143) (by decide +kernel), List.mem_of_getElem? (i := 295) (by decide +kernel), List.mem_of_getElem? (i := 296) (by decide +kernel)⟩
theorem lw_p4 : lw_okq (⟨"NameTree$Walk", "hasPart", "()Z"⟩, 11) := ⟨⟨by decide +kernel, by decide +kernel⟩, List.mem_of_getElem? (i := 143) (by decide +kernel), List.mem_of_getElem? (i := 300) (by decide +kernel), List.mem_of_getElem? (i := 301) (by decide +kernel)⟩
theorem lw_p5 : lw_okq (⟨"NameTree$Walk", "topSpan", "()LNameTree$Span;"⟩, 11) := ⟨⟨by decide +kernel, by decide +kernel⟩, List.mem_of_getElem? (i := 143) (by decide +kernel), List.mem_of_getElem? (i := 304) (by decide +kernel), List.mem_of_getElem? (i := 305) (by decide +kernel)⟩
theorem lw_p6 : lw_okq (⟨"NameTree$Span", "holds", "(II)Z"⟩, 3) := ⟨⟨by decide +kernel, by decide +kernel⟩, List.mem_of_getElem? (i := 150) (by decide +kernel), List.mem_of_getElem? (i := 312) (by decide +kernel), List.mem_of_getElem? (i := 313) (by decide +kernel)⟩
theorem lw_p7 : lw_okq (⟨"NameTree$Walk", "takePart", "()V"⟩, 11) := ⟨⟨by decide +kernel, by decide +kernel⟩, List.mem_of_getElem? (i := 143) (by decide +kernel), List.mem_of_getElem? (i := 316) (by decide +kernel), List.mem_of_getElem? (i := 317) (by decide +kernel)⟩
theorem lw_p8 : lw_okq (⟨"NameTree$Walk", "step", "(ZZ)I"⟩, 11) := ⟨⟨by decide +kernel, by decide +kernel⟩, List.mem_of_getElem? (i := 143) (by decide +kernel), List.mem_of_getElem? (i := 324) (by decide +kernel), List.mem_of_getElem? (i := 325) (by decide +kernel)⟩
theorem lw_p9 : lw_okq (⟨"NameTree$Walk", "isUp", "()Z"⟩, 11) := ⟨⟨by decide +kernel, by decide +kernel⟩, List.mem_of_getElem? (i := 143) (by decide +kernel), List.mem_of_getElem? (i := 328) (by decide +kernel), List.mem_of_getElem? (i := 329) (by decide +kernel)⟩
theorem lw_p10 : lw_okq (⟨"NameTree$Walk", "goThrough", "(LNameTree$TreeFile;)I"⟩, 11) := ⟨⟨by decide +kernel, by decide +kernel⟩, List.mem_of_getElem? (i := 143) (by decide +kernel), List.mem_of_getElem? (i := 340) (by decide +kernel), List.mem_of_getElem? (i := 341) (by decide +kernel)⟩
theorem lw_p11 : lw_okq (⟨"NameTree", "isFullFor", "(LNameTree$TreeFile;I)Z"⟩, 6) := ⟨⟨by decide +kernel, by decide +kernel⟩, List.mem_of_getElem? (i := 13) (by decide +kernel), List.mem_of_getElem? (i := 352) (by decide +kernel), List.mem_of_getElem? (i := 353) (by decide +kernel)⟩
theorem lw_p12 : lw_okq (⟨"NameTree", "isTooMuch", "(LNameTree$TreeFile;I)Z"⟩, 6) := ⟨⟨by decide +kernel, by decide +kernel⟩, List.mem_of_getElem? (i := 13) (by decide +kernel), List.mem_of_getElem? (i := 356) (by decide +kernel), List.mem_of_getElem? (i := 357) (by decide +kernel)⟩
theorem lw_p13 : lw_okq (⟨"NameTree", "readTwoPaths", "(Z)I"⟩, 6) := ⟨⟨by decide +kernel, by decide +kernel⟩, List.mem_of_getElem? (i := 13) (by decide +kernel), List.mem_of_getElem? (i := 390) (by decide +kernel), List.mem_of_getElem? (i := 391) (by decide +kernel)⟩
theorem lw_p14 : lw_okq (⟨"NameTree", "takeAway", "(LNameTree$NameRow;)V"⟩, 6) := ⟨⟨by decide +kernel, by decide +kernel⟩, List.mem_of_getElem? (i := 13) (by decide +kernel), List.mem_of_getElem? (i := 413) (by decide +kernel), List.mem_of_getElem? (i := 414) (by decide +kernel)⟩
theorem lw_p15 : lw_okq (⟨"NameTree", "refusalOfMove", "()I"⟩, 6) := ⟨⟨by decide +kernel, by decide +kernel⟩, List.mem_of_getElem? (i := 13) (by decide +kernel), List.mem_of_getElem? (i := 440) (by decide +kernel), List.mem_of_getElem? (i := 441) (by decide +kernel)⟩
def lw_privs_1 : List (MethodName × Nat) := [(⟨"NameTree", "readName", "()I"⟩, 6), (⟨"NameTree$Tape", "zeroFrom", "(II)I"⟩, 2), (⟨"NameTree$Walk", "begin", "()V"⟩, 11), (⟨"NameTree$Walk", "push", "([BII)V"⟩, 11), (⟨"NameTree$Walk", "hasPart", "()Z"⟩, 11), (⟨"NameTree$Walk", "topSpan", "()LNameTree$Span;"⟩, 11), (⟨"NameTree$Span", "holds", "(II)Z"⟩, 3), (⟨"NameTree$Walk", "takePart", "()V"⟩, 11), (⟨"NameTree$Walk", "step", "(ZZ)I"⟩, 11), (⟨"NameTree$Walk", "isUp", "()Z"⟩, 11), (⟨"NameTree$Walk", "goThrough", "(LNameTree$TreeFile;)I"⟩, 11), (⟨"NameTree", "isFullFor", "(LNameTree$TreeFile;I)Z"⟩, 6), (⟨"NameTree", "isTooMuch", "(LNameTree$TreeFile;I)Z"⟩, 6), (⟨"NameTree", "readTwoPaths", "(Z)I"⟩, 6), (⟨"NameTree", "takeAway", "(LNameTree$NameRow;)V"⟩, 6), (⟨"NameTree", "refusalOfMove", "()I"⟩, 6)]
theorem lw_r1 : ∀ q ∈ lw_privs_1, lw_okq q := List.forall_mem_cons.mpr ⟨lw_p0, List.forall_mem_cons.mpr ⟨lw_p1, List.forall_mem_cons.mpr ⟨lw_p2, List.forall_mem_cons.mpr ⟨lw_p3, List.forall_mem_cons.mpr ⟨lw_p4, List.forall_mem_cons.mpr ⟨lw_p5, List.forall_mem_cons.mpr ⟨lw_p6, List.forall_mem_cons.mpr ⟨lw_p7, List.forall_mem_cons.mpr ⟨lw_p8, List.forall_mem_cons.mpr ⟨lw_p9, List.forall_mem_cons.mpr ⟨lw_p10, List.forall_mem_cons.mpr ⟨lw_p11, List.forall_mem_cons.mpr ⟨lw_p12, List.forall_mem_cons.mpr ⟨lw_p13, List.forall_mem_cons.mpr ⟨lw_p14, List.forall_mem_cons.mpr ⟨lw_p15, fun _ h => absurd h List.not_mem_nil⟩⟩⟩⟩⟩⟩⟩⟩⟩⟩⟩⟩⟩⟩⟩⟩
theorem lw_p16 : lw_okq (⟨"NameTree", "readPath", "(Z)I"⟩, 6) := ⟨⟨by decide +kernel, by decide +kernel⟩, List.mem_of_getElem? (i := 13) (by decide +kernel), List.mem_of_getElem? (i := 451) (by decide +kernel), List.mem_of_getElem? (i := 452) (by decide +kernel)⟩
theorem lw_p17 : lw_okq (⟨"NameTreeModel", "allTake", "()I"⟩, 22) := ⟨⟨by decide +kernel, by decide +kernel⟩, List.mem_of_getElem? (i := 493) (by decide +kernel), List.mem_of_getElem? (i := 582) (by decide +kernel), List.mem_of_getElem? (i := 583) (by decide +kernel)⟩
theorem lw_p18 : lw_okq (⟨"NameTreeModel", "takes", "(I)I"⟩, 22) := ⟨⟨by decide +kernel, by decide +kernel⟩, List.mem_of_getElem? (i := 493) (by decide +kernel), List.mem_of_getElem? (i := 586) (by decide +kernel), List.mem_of_getElem? (i := 587) (by decide +kernel)⟩
theorem lw_p19 : lw_okq (⟨"NameTreeModel", "take", "()I"⟩, 22) := ⟨⟨by decide +kernel, by decide +kernel⟩, List.mem_of_getElem? (i := 493) (by decide +kernel), List.mem_of_getElem? (i := 597) (by decide +kernel), List.mem_of_getElem? (i := 598) (by decide +kernel)⟩
theorem lw_p20 : lw_okq (⟨"NameTreeModel", "walkToName", "(II)I"⟩, 22) := ⟨⟨by decide +kernel, by decide +kernel⟩, List.mem_of_getElem? (i := 493) (by decide +kernel), List.mem_of_getElem? (i := 601) (by decide +kernel), List.mem_of_getElem? (i := 602) (by decide +kernel)⟩
theorem lw_p21 : lw_okq (⟨"NameTreeModel", "walk", "(IIZ)I"⟩, 22) := ⟨⟨by decide +kernel, by decide +kernel⟩, List.mem_of_getElem? (i := 493) (by decide +kernel), List.mem_of_getElem? (i := 605) (by decide +kernel), List.mem_of_getElem? (i := 606) (by decide +kernel)⟩
theorem lw_p22 : lw_okq (⟨"NameTreeModel", "hasMore", "()Z"⟩, 22) := ⟨⟨by decide +kernel, by decide +kernel⟩, List.mem_of_getElem? (i := 493) (by decide +kernel), List.mem_of_getElem? (i := 609) (by decide +kernel), List.mem_of_getElem? (i := 610) (by decide +kernel)⟩
theorem lw_p23 : lw_okq (⟨"NameTreeModel", "parent", "(I)I"⟩, 22) := ⟨⟨by decide +kernel, by decide +kernel⟩, List.mem_of_getElem? (i := 493) (by decide +kernel), List.mem_of_getElem? (i := 613) (by decide +kernel), List.mem_of_getElem? (i := 614) (by decide +kernel)⟩
theorem lw_p24 : lw_okq (⟨"NameTreeModel", "findName", "(III)I"⟩, 22) := ⟨⟨by decide +kernel, by decide +kernel⟩, List.mem_of_getElem? (i := 493) (by decide +kernel), List.mem_of_getElem? (i := 617) (by decide +kernel), List.mem_of_getElem? (i := 618) (by decide +kernel)⟩
theorem lw_p25 : lw_okq (⟨"NameTreeModel", "isName", "(III)Z"⟩, 22) := ⟨⟨by decide +kernel, by decide +kernel⟩, List.mem_of_getElem? (i := 493) (by decide +kernel), List.mem_of_getElem? (i := 621) (by decide +kernel), List.mem_of_getElem? (i := 622) (by decide +kernel)⟩
theorem lw_p26 : lw_okq (⟨"NameTreeModel", "splice", "(I)V"⟩, 22) := ⟨⟨by decide +kernel, by decide +kernel⟩, List.mem_of_getElem? (i := 493) (by decide +kernel), List.mem_of_getElem? (i := 625) (by decide +kernel), List.mem_of_getElem? (i := 626) (by decide +kernel)⟩
theorem lw_p27 : lw_okq (⟨"NameTreeModel", "newFile", "(II)I"⟩, 22) := ⟨⟨by decide +kernel, by decide +kernel⟩, List.mem_of_getElem? (i := 493) (by decide +kernel), List.mem_of_getElem? (i := 629) (by decide +kernel), List.mem_of_getElem? (i := 630) (by decide +kernel)⟩
theorem lw_p28 : lw_okq (⟨"NameTreeModel", "namesIn", "(I)I"⟩, 22) := ⟨⟨by decide +kernel, by decide +kernel⟩, List.mem_of_getElem? (i := 493) (by decide +kernel), List.mem_of_getElem? (i := 633) (by decide +kernel), List.mem_of_getElem? (i := 634) (by decide +kernel)⟩
theorem lw_p29 : lw_okq (⟨"NameTreeModel", "growth", "(II)I"⟩, 22) := ⟨⟨by decide +kernel, by decide +kernel⟩, List.mem_of_getElem? (i := 493) (by decide +kernel), List.mem_of_getElem? (i := 637) (by decide +kernel), List.mem_of_getElem? (i := 638) (by decide +kernel)⟩
theorem lw_p30 : lw_okq (⟨"NameTreeModel", "addName", "(I)V"⟩, 22) := ⟨⟨by decide +kernel, by decide +kernel⟩, List.mem_of_getElem? (i := 493) (by decide +kernel), List.mem_of_getElem? (i := 641) (by decide +kernel), List.mem_of_getElem? (i := 642) (by decide +kernel)⟩
theorem lw_p31 : lw_okq (⟨"NameTreeModel", "removeName", "(I)V"⟩, 22) := ⟨⟨by decide +kernel, by decide +kernel⟩, List.mem_of_getElem? (i := 493) (by decide +kernel), List.mem_of_getElem? (i := 657) (by decide +kernel), List.mem_of_getElem? (i := 658) (by decide +kernel)⟩
def lw_privs_2 : List (MethodName × Nat) := [(⟨"NameTree", "readPath", "(Z)I"⟩, 6), (⟨"NameTreeModel", "allTake", "()I"⟩, 22), (⟨"NameTreeModel", "takes", "(I)I"⟩, 22), (⟨"NameTreeModel", "take", "()I"⟩, 22), (⟨"NameTreeModel", "walkToName", "(II)I"⟩, 22), (⟨"NameTreeModel", "walk", "(IIZ)I"⟩, 22), (⟨"NameTreeModel", "hasMore", "()Z"⟩, 22), (⟨"NameTreeModel", "parent", "(I)I"⟩, 22), (⟨"NameTreeModel", "findName", "(III)I"⟩, 22), (⟨"NameTreeModel", "isName", "(III)Z"⟩, 22), (⟨"NameTreeModel", "splice", "(I)V"⟩, 22), (⟨"NameTreeModel", "newFile", "(II)I"⟩, 22), (⟨"NameTreeModel", "namesIn", "(I)I"⟩, 22), (⟨"NameTreeModel", "growth", "(II)I"⟩, 22), (⟨"NameTreeModel", "addName", "(I)V"⟩, 22), (⟨"NameTreeModel", "removeName", "(I)V"⟩, 22)]
theorem lw_r2 : ∀ q ∈ lw_privs_2, lw_okq q := List.forall_mem_cons.mpr ⟨lw_p16, List.forall_mem_cons.mpr ⟨lw_p17, List.forall_mem_cons.mpr ⟨lw_p18, List.forall_mem_cons.mpr ⟨lw_p19, List.forall_mem_cons.mpr ⟨lw_p20, List.forall_mem_cons.mpr ⟨lw_p21, List.forall_mem_cons.mpr ⟨lw_p22, List.forall_mem_cons.mpr ⟨lw_p23, List.forall_mem_cons.mpr ⟨lw_p24, List.forall_mem_cons.mpr ⟨lw_p25, List.forall_mem_cons.mpr ⟨lw_p26, List.forall_mem_cons.mpr ⟨lw_p27, List.forall_mem_cons.mpr ⟨lw_p28, List.forall_mem_cons.mpr ⟨lw_p29, List.forall_mem_cons.mpr ⟨lw_p30, List.forall_mem_cons.mpr ⟨lw_p31, fun _ h => absurd h List.not_mem_nil⟩⟩⟩⟩⟩⟩⟩⟩⟩⟩⟩⟩⟩⟩⟩⟩
theorem lw_p32 : lw_okq (⟨"NameTreeModel", "namesOf", "(I)I"⟩, 22) := ⟨⟨by decide +kernel, by decide +kernel⟩, List.mem_of_getElem? (i := 493) (by decide +kernel), List.mem_of_getElem? (i := 661) (by decide +kernel), List.mem_of_getElem? (i := 662) (by decide +kernel)⟩
theorem lw_p33 : lw_okq (⟨"NameTreeModel", "isWithin", "(II)Z"⟩, 22) := ⟨⟨by decide +kernel, by decide +kernel⟩, List.mem_of_getElem? (i := 493) (by decide +kernel), List.mem_of_getElem? (i := 673) (by decide +kernel), List.mem_of_getElem? (i := 674) (by decide +kernel)⟩
theorem lw_p34 : lw_okq (⟨"NameTreeModel", "isFile", "(I)Z"⟩, 22) := ⟨⟨by decide +kernel, by decide +kernel⟩, List.mem_of_getElem? (i := 493) (by decide +kernel), List.mem_of_getElem? (i := 689) (by decide +kernel), List.mem_of_getElem? (i := 690) (by decide +kernel)⟩
theorem lw_p35 : lw_okq (⟨"NameTreeModel", "foldersIn", "(I)I"⟩, 22) := ⟨⟨by decide +kernel, by decide +kernel⟩, List.mem_of_getElem? (i := 493) (by decide +kernel), List.mem_of_getElem? (i := 697) (by decide +kernel), List.mem_of_getElem? (i := 698) (by decide +kernel)⟩
theorem lw_p36 : lw_okq (⟨"NameTreeModel", "fileCount", "()I"⟩, 22) := ⟨⟨by decide +kernel, by decide +kernel⟩, List.mem_of_getElem? (i := 493) (by decide +kernel), List.mem_of_getElem? (i := 709) (by decide +kernel), List.mem_of_getElem? (i := 710) (by decide +kernel)⟩
def lw_privs_3 : List (MethodName × Nat) := [(⟨"NameTreeModel", "namesOf", "(I)I"⟩, 22), (⟨"NameTreeModel", "isWithin", "(II)Z"⟩, 22), (⟨"NameTreeModel", "isFile", "(I)Z"⟩, 22), (⟨"NameTreeModel", "foldersIn", "(I)I"⟩, 22), (⟨"NameTreeModel", "fileCount", "()I"⟩, 22)]
theorem lw_r3 : ∀ q ∈ lw_privs_3, lw_okq q := List.forall_mem_cons.mpr ⟨lw_p32, List.forall_mem_cons.mpr ⟨lw_p33, List.forall_mem_cons.mpr ⟨lw_p34, List.forall_mem_cons.mpr ⟨lw_p35, List.forall_mem_cons.mpr ⟨lw_p36, fun _ h => absurd h List.not_mem_nil⟩⟩⟩⟩⟩
def lw_privs : List (MethodName × Nat) := lw_privs_1 ++ (lw_privs_2 ++ (lw_privs_3))
def lw_tbl : List Cond := k2_sels lw_privs ++ tables_1
theorem lw_privs_ok : ∀ q ∈ lw_privs, lw_okq q := by
  show ∀ q ∈ lw_privs_1 ++ (lw_privs_2 ++ (lw_privs_3)), lw_okq q
  exact List.forall_mem_append.mpr ⟨lw_r1, List.forall_mem_append.mpr ⟨lw_r2, lw_r3⟩⟩
end
section
/-! printed by program: the numbers of this commit -/
abbrev m_law : Nat := 0
abbrev mL_init : Nat := 1
abbrev mL_at : Nat := 2
abbrev mL_absent : Nat := 3
abbrev mL_present : Nat := 4
abbrev mL_taken : Nat := 5
abbrev mL_foldersIn : Nat := 6
abbrev mR_init : Nat := 7
abbrev mR_setBytes : Nat := 8
abbrev mR_is : Nat := 9
abbrev mQ_init : Nat := 10
abbrev mQ_lookUp : Nat := 11
abbrev mQ_give : Nat := 12
abbrev mQ_drop : Nat := 13
abbrev mQ_forget : Nat := 14
abbrev mS_init : Nat := 15
abbrev mS_goToPart : Nat := 16
abbrev mS_passPart : Nat := 17
abbrev mS_holds : Nat := 18
abbrev mT_init : Nat := 19
abbrev mT_hasSpaceFor : Nat := 20
abbrev mT_append : Nat := 21
abbrev mT_useUp : Nat := 22
abbrev mT_hasZero : Nat := 23
abbrev mT_onlyZero : Nat := 24
abbrev mT_zeroFrom : Nat := 25
abbrev mF_init : Nat := 26
abbrev mF_begin : Nat := 27
abbrev mF_setTarget : Nat := 28
abbrev mF_byteOfTarget : Nat := 29
abbrev mF_takes : Nat := 30
abbrev mF_growthByOneName : Nat := 31
abbrev mF_size : Nat := 32
abbrev mF_goIfUnused : Nat := 33
abbrev mW_init : Nat := 34
abbrev mW_goToName : Nat := 35
abbrev mW_go : Nat := 36
abbrev mW_begin : Nat := 37
abbrev mW_push : Nat := 38
abbrev mW_hasPart : Nat := 39
abbrev mW_topSpan : Nat := 40
abbrev mW_takePart : Nat := 41
abbrev mW_step : Nat := 42
abbrev mW_goThrough : Nat := 43
abbrev mW_isUp : Nat := 44
abbrev mN_init : Nat := 45
abbrev mN_type : Nat := 46
abbrev mN_fill : Nat := 47
abbrev mN_room : Nat := 48
abbrev mN_make : Nat := 49
abbrev mN_link : Nat := 50
abbrev mN_symlink : Nat := 51
abbrev mN_remove : Nat := 52
abbrev mN_removeFolder : Nat := 53
abbrev mN_rename : Nat := 54
abbrev mN_find : Nat := 55
abbrev mN_hold : Nat := 56
abbrev mN_release : Nat := 57
abbrev mN_about : Nat := 58
abbrev mN_targetByte : Nat := 59
abbrev mN_count : Nat := 60
abbrev mN_readPath : Nat := 61
abbrev mN_readName : Nat := 62
abbrev mN_readTwoPaths : Nat := 63
abbrev mN_isFullFor : Nat := 64
abbrev mN_isTooMuch : Nat := 65
abbrev mN_refusalOfMove : Nat := 66
abbrev mN_refusalOfReplacing : Nat := 67
abbrev mN_isWithin : Nat := 68
abbrev mN_takeAway : Nat := 69
abbrev mN_roomOfTarget : Nat := 70
abbrev mN_roomOfFolder : Nat := 71
abbrev mN_copyBytes : Nat := 72
abbrev mM_init : Nat := 73
abbrev mM_type : Nat := 74
abbrev mM_fill : Nat := 75
abbrev mM_take : Nat := 76
abbrev mM_folderTakes : Nat := 77
abbrev mM_takes : Nat := 78
abbrev mM_allTake : Nat := 79
abbrev mM_fileCount : Nat := 80
abbrev mM_namesOf : Nat := 81
abbrev mM_namesIn : Nat := 82
abbrev mM_parent : Nat := 83
abbrev mM_isName : Nat := 84
abbrev mM_findName : Nat := 85
abbrev mM_growth : Nat := 86
abbrev mM_addName : Nat := 87
abbrev mM_removeName : Nat := 88
abbrev mM_hasMore : Nat := 89
abbrev mM_walk : Nat := 90
abbrev mM_splice : Nat := 91
abbrev mM_walkToName : Nat := 92
abbrev mM_room : Nat := 93
abbrev mM_newFile : Nat := 94
abbrev mM_make : Nat := 95
abbrev mM_link : Nat := 96
abbrev mM_symlink : Nat := 97
abbrev mM_remove : Nat := 98
abbrev mM_removeFolder : Nat := 99
abbrev mM_isWithin : Nat := 100
abbrev mM_rename : Nat := 101
abbrev mM_find : Nat := 102
abbrev mM_hold : Nat := 103
abbrev mM_isFile : Nat := 104
abbrev mM_release : Nat := 105
abbrev mM_foldersIn : Nat := 106
abbrev mM_about : Nat := 107
abbrev mM_targetByte : Nat := 108
abbrev mM_count : Nat := 109
def ztC0 : String := "NameTree$FileTable"
def ztF0 : u_T := fun k => match k with
  | 0 => ("NameTree$FileTable", "all", "[LNameTree$TreeFile;", true)
  | _ => ("NameTree$FileTable", "root", "LNameTree$TreeFile;", true)
def ztY0 : Nat → FieldType := fun k => match k with
  | 0 => .array (.object "NameTree$TreeFile")
  | _ => .object "NameTree$TreeFile"
def ztC1 : String := "NameTree$NameRow"
def ztF1 : u_T := fun k => match k with
  | 0 => ("NameTree$NameRow", "folder", "LNameTree$TreeFile;", false)
  | 1 => ("NameTree$NameRow", "file", "LNameTree$TreeFile;", false)
  | 2 => ("NameTree$NameRow", "bytes", "[B", false)
  | _ => ("NameTree$NameRow", "length", "I", false)
def ztY1 : Nat → FieldType := fun k => match k with
  | 0 => .object "NameTree$TreeFile"
  | 1 => .object "NameTree$TreeFile"
  | 2 => .array (.byte)
  | _ => .int
def ztC2 : String := "NameTree$NameTable"
def ztF2 : u_T := fun k => match k with
  | 0 => ("NameTree$NameTable", "rows", "[LNameTree$NameRow;", true)
  | _ => ("NameTree$NameTable", "used", "I", false)
def ztY2 : Nat → FieldType := fun k => match k with
  | 0 => .array (.object "NameTree$NameRow")
  | _ => .int
def ztC3 : String := "NameTree$Span"
def ztF3 : u_T := fun k => match k with
  | 0 => ("NameTree$Span", "bytes", "[B", false)
  | 1 => ("NameTree$Span", "at", "I", false)
  | _ => ("NameTree$Span", "end", "I", false)
def ztY3 : Nat → FieldType := fun k => match k with
  | 0 => .array (.byte)
  | 1 => .int
  | _ => .int
def ztC4 : String := "NameTree$Tape"
def ztF4 : u_T := fun k => match k with
  | 0 => ("NameTree$Tape", "bytes", "[B", true)
  | _ => ("NameTree$Tape", "length", "I", false)
def ztY4 : Nat → FieldType := fun k => match k with
  | 0 => .array (.byte)
  | _ => .int
def ztC5 : String := "NameTree$TreeFile"
def ztF5 : u_T := fun k => match k with
  | 0 => ("NameTree$TreeFile", "number", "I", true)
  | 1 => ("NameTree$TreeFile", "kind", "I", false)
  | 2 => ("NameTree$TreeFile", "names", "I", false)
  | 3 => ("NameTree$TreeFile", "held", "I", false)
  | 4 => ("NameTree$TreeFile", "inside", "I", false)
  | 5 => ("NameTree$TreeFile", "mostInside", "I", false)
  | 6 => ("NameTree$TreeFile", "parent", "LNameTree$TreeFile;", false)
  | 7 => ("NameTree$TreeFile", "target", "[B", false)
  | _ => ("NameTree$TreeFile", "targetLength", "I", false)
def ztY5 : Nat → FieldType := fun k => match k with
  | 0 => .int
  | 1 => .int
  | 2 => .int
  | 3 => .int
  | 4 => .int
  | 5 => .int
  | 6 => .object "NameTree$TreeFile"
  | 7 => .array (.byte)
  | _ => .int
def ztC6 : String := "NameTree$Walk"
def ztF6 : u_T := fun k => match k with
  | 0 => ("NameTree$Walk", "root", "LNameTree$TreeFile;", true)
  | 1 => ("NameTree$Walk", "names", "LNameTree$NameTable;", true)
  | 2 => ("NameTree$Walk", "spans", "[LNameTree$Span;", true)
  | 3 => ("NameTree$Walk", "depth", "I", false)
  | 4 => ("NameTree$Walk", "links", "I", false)
  | 5 => ("NameTree$Walk", "partBytes", "[B", false)
  | 6 => ("NameTree$Walk", "partFrom", "I", false)
  | 7 => ("NameTree$Walk", "partLength", "I", false)
  | 8 => ("NameTree$Walk", "folder", "LNameTree$TreeFile;", false)
  | 9 => ("NameTree$Walk", "name", "LNameTree$NameRow;", false)
  | _ => ("NameTree$Walk", "here", "LNameTree$TreeFile;", false)
def ztY6 : Nat → FieldType := fun k => match k with
  | 0 => .object "NameTree$TreeFile"
  | 1 => .object "NameTree$NameTable"
  | 2 => .array (.object "NameTree$Span")
  | 3 => .int
  | 4 => .int
  | 5 => .array (.byte)
  | 6 => .int
  | 7 => .int
  | 8 => .object "NameTree$TreeFile"
  | 9 => .object "NameTree$NameRow"
  | _ => .object "NameTree$TreeFile"
def ztC7 : String := "NameTree"
def ztF7 : u_T := fun k => match k with
  | 0 => ("NameTree", "tape", "LNameTree$Tape;", true)
  | 1 => ("NameTree", "files", "LNameTree$FileTable;", true)
  | 2 => ("NameTree", "names", "LNameTree$NameTable;", true)
  | 3 => ("NameTree", "first", "LNameTree$Walk;", true)
  | 4 => ("NameTree", "second", "LNameTree$Walk;", true)
  | _ => ("NameTree", "roomInAll", "I", false)
def ztY7 : Nat → FieldType := fun k => match k with
  | 0 => .object "NameTree$Tape"
  | 1 => .object "NameTree$FileTable"
  | 2 => .object "NameTree$NameTable"
  | 3 => .object "NameTree$Walk"
  | 4 => .object "NameTree$Walk"
  | _ => .int
def ztC8 : String := "NameTreeModel"
def ztF8 : u_T := fun k => match k with
  | 0 => ("NameTreeModel", "room", "I", false)
  | 1 => ("NameTreeModel", "taped", "I", false)
  | 2 => ("NameTreeModel", "tape", "[I", true)
  | 3 => ("NameTreeModel", "given", "I", false)
  | 4 => ("NameTreeModel", "in", "[I", true)
  | 5 => ("NameTreeModel", "kinds", "[I", true)
  | 6 => ("NameTreeModel", "greatest", "[I", true)
  | 7 => ("NameTreeModel", "held", "[I", true)
  | 8 => ("NameTreeModel", "sizes", "[I", true)
  | 9 => ("NameTreeModel", "targets", "[B", true)
  | 10 => ("NameTreeModel", "names", "I", false)
  | 11 => ("NameTreeModel", "folders", "[I", true)
  | 12 => ("NameTreeModel", "files", "[I", true)
  | 13 => ("NameTreeModel", "lengths", "[I", true)
  | 14 => ("NameTreeModel", "bytes", "[B", true)
  | 15 => ("NameTreeModel", "path", "[I", true)
  | 16 => ("NameTreeModel", "at", "I", false)
  | 17 => ("NameTreeModel", "folder", "I", false)
  | 18 => ("NameTreeModel", "begin", "I", false)
  | 19 => ("NameTreeModel", "length", "I", false)
  | 20 => ("NameTreeModel", "file", "I", false)
  | _ => ("NameTreeModel", "unnamed", "Z", false)
def ztY8 : Nat → FieldType := fun k => match k with
  | 0 => .int
  | 1 => .int
  | 2 => .array (.int)
  | 3 => .int
  | 4 => .array (.int)
  | 5 => .array (.int)
  | 6 => .array (.int)
  | 7 => .array (.int)
  | 8 => .array (.int)
  | 9 => .array (.byte)
  | 10 => .int
  | 11 => .array (.int)
  | 12 => .array (.int)
  | 13 => .array (.int)
  | 14 => .array (.byte)
  | 15 => .array (.int)
  | 16 => .int
  | 17 => .int
  | 18 => .int
  | 19 => .int
  | 20 => .int
  | _ => .boolean
def zt_cl : List vw_C := [(ztC0, ztF0, 2), (ztC1, ztF1, 4), (ztC2, ztF2, 2), (ztC3, ztF3, 3), (ztC4, ztF4, 2), (ztC5, ztF5, 9), (ztC6, ztF6, 11), (ztC7, ztF7, 6), (ztC8, ztF8, 22)]
def zt_ty : Nat → Nat → FieldType := fun c => match c with
  | 0 => ztY0
  | 1 => ztY1
  | 2 => ztY2
  | 3 => ztY3
  | 4 => ztY4
  | 5 => ztY5
  | 6 => ztY6
  | 7 => ztY7
  | _ => ztY8
def zt_df (c k : Nat) : Value := defaultValue (zt_ty c k)
def zt_at : Nat → Option FieldType := fun t => match t with
  | 100 => some .byte
  | 101 => some .int
  | 201 => some (.object "NameTree$NameRow")
  | 203 => some (.object "NameTree$Span")
  | 205 => some (.object "NameTree$TreeFile")
  | _ => none
def zt_ao : List String := ["NameTree$NameRow", "NameTree$Span", "NameTree$TreeFile"]
def zt_nm_l : List (MethodName) := [⟨"NameTreeLaw", "law", "([I)Z"⟩,
  ⟨"NameTree$FileTable", "<init>", "()V"⟩,
  ⟨"NameTree$FileTable", "at", "(I)LNameTree$TreeFile;"⟩,
  ⟨"NameTree$FileTable", "absent", "()LNameTree$TreeFile;"⟩,
  ⟨"NameTree$FileTable", "present", "()I"⟩,
  ⟨"NameTree$FileTable", "taken", "()I"⟩,
  ⟨"NameTree$FileTable", "foldersIn", "(LNameTree$TreeFile;)I"⟩,
  ⟨"NameTree$NameRow", "<init>", "()V"⟩,
  ⟨"NameTree$NameRow", "setBytes", "([BII)V"⟩,
  ⟨"NameTree$NameRow", "is", "([BII)Z"⟩,
  ⟨"NameTree$NameTable", "<init>", "()V"⟩,
  ⟨"NameTree$NameTable", "lookUp", "(LNameTree$TreeFile;[BII)LNameTree$NameRow;"⟩,
  ⟨"NameTree$NameTable", "give", "(LNameTree$TreeFile;LNameTree$Walk;)V"⟩,
  ⟨"NameTree$NameTable", "drop", "(LNameTree$NameRow;)V"⟩,
  ⟨"NameTree$NameTable", "forget", "(LNameTree$NameRow;)V"⟩,
  ⟨"NameTree$Span", "<init>", "()V"⟩,
  ⟨"NameTree$Span", "goToPart", "()Z"⟩,
  ⟨"NameTree$Span", "passPart", "()I"⟩,
  ⟨"NameTree$Span", "holds", "(II)Z"⟩,
  ⟨"NameTree$Tape", "<init>", "()V"⟩,
  ⟨"NameTree$Tape", "hasSpaceFor", "(I)Z"⟩,
  ⟨"NameTree$Tape", "append", "(B)V"⟩,
  ⟨"NameTree$Tape", "useUp", "()I"⟩,
  ⟨"NameTree$Tape", "hasZero", "(I)Z"⟩,
  ⟨"NameTree$Tape", "onlyZero", "(I)I"⟩,
  ⟨"NameTree$Tape", "zeroFrom", "(II)I"⟩,
  ⟨"NameTree$TreeFile", "<init>", "(I)V"⟩,
  ⟨"NameTree$TreeFile", "begin", "(I)V"⟩,
  ⟨"NameTree$TreeFile", "setTarget", "([BII)V"⟩,
  ⟨"NameTree$TreeFile", "byteOfTarget", "(I)I"⟩,
  ⟨"NameTree$TreeFile", "takes", "()I"⟩,
  ⟨"NameTree$TreeFile", "growthByOneName", "()I"⟩,
  ⟨"NameTree$TreeFile", "size", "()I"⟩,
  ⟨"NameTree$TreeFile", "goIfUnused", "()V"⟩,
  ⟨"NameTree$Walk", "<init>", "(LNameTree$TreeFile;LNameTree$NameTable;)V"⟩,
  ⟨"NameTree$Walk", "goToName", "([BII)I"⟩,
  ⟨"NameTree$Walk", "go", "([BIIZ)I"⟩,
  ⟨"NameTree$Walk", "begin", "()V"⟩,
  ⟨"NameTree$Walk", "push", "([BII)V"⟩,
  ⟨"NameTree$Walk", "hasPart", "()Z"⟩,
  ⟨"NameTree$Walk", "topSpan", "()LNameTree$Span;"⟩,
  ⟨"NameTree$Walk", "takePart", "()V"⟩,
  ⟨"NameTree$Walk", "step", "(ZZ)I"⟩,
  ⟨"NameTree$Walk", "goThrough", "(LNameTree$TreeFile;)I"⟩,
  ⟨"NameTree$Walk", "isUp", "()Z"⟩,
  ⟨"NameTree", "<init>", "()V"⟩,
  ⟨"NameTree", "type", "(JI)I"⟩,
  ⟨"NameTree", "fill", "(II)I"⟩,
  ⟨"NameTree", "room", "(I)I"⟩,
  ⟨"NameTree", "make", "(I)I"⟩,
  ⟨"NameTree", "link", "()I"⟩,
  ⟨"NameTree", "symlink", "()I"⟩,
  ⟨"NameTree", "remove", "()I"⟩,
  ⟨"NameTree", "removeFolder", "()I"⟩,
  ⟨"NameTree", "rename", "()I"⟩,
  ⟨"NameTree", "find", "(Z)I"⟩,
  ⟨"NameTree", "hold", "()I"⟩,
  ⟨"NameTree", "release", "(I)I"⟩,
  ⟨"NameTree", "about", "(II)I"⟩,
  ⟨"NameTree", "targetByte", "(II)I"⟩,
  ⟨"NameTree", "count", "(I)I"⟩,
  ⟨"NameTree", "readPath", "(Z)I"⟩,
  ⟨"NameTree", "readName", "()I"⟩,
  ⟨"NameTree", "readTwoPaths", "(Z)I"⟩,
  ⟨"NameTree", "isFullFor", "(LNameTree$TreeFile;I)Z"⟩,
  ⟨"NameTree", "isTooMuch", "(LNameTree$TreeFile;I)Z"⟩,
  ⟨"NameTree", "refusalOfMove", "()I"⟩,
  ⟨"NameTree", "refusalOfReplacing", "(LNameTree$TreeFile;LNameTree$TreeFile;)I"⟩,
  ⟨"NameTree", "isWithin", "(LNameTree$TreeFile;LNameTree$TreeFile;)Z"⟩,
  ⟨"NameTree", "takeAway", "(LNameTree$NameRow;)V"⟩,
  ⟨"NameTree", "roomOfTarget", "(I)I"⟩,
  ⟨"NameTree", "roomOfFolder", "(I)I"⟩,
  ⟨"NameTree", "copyBytes", "([BII[B)I"⟩,
  ⟨"NameTreeModel", "<init>", "()V"⟩,
  ⟨"NameTreeModel", "type", "(JI)I"⟩,
  ⟨"NameTreeModel", "fill", "(II)I"⟩,
  ⟨"NameTreeModel", "take", "()I"⟩,
  ⟨"NameTreeModel", "folderTakes", "(I)I"⟩,
  ⟨"NameTreeModel", "takes", "(I)I"⟩,
  ⟨"NameTreeModel", "allTake", "()I"⟩,
  ⟨"NameTreeModel", "fileCount", "()I"⟩,
  ⟨"NameTreeModel", "namesOf", "(I)I"⟩,
  ⟨"NameTreeModel", "namesIn", "(I)I"⟩,
  ⟨"NameTreeModel", "parent", "(I)I"⟩,
  ⟨"NameTreeModel", "isName", "(III)Z"⟩,
  ⟨"NameTreeModel", "findName", "(III)I"⟩,
  ⟨"NameTreeModel", "growth", "(II)I"⟩,
  ⟨"NameTreeModel", "addName", "(I)V"⟩,
  ⟨"NameTreeModel", "removeName", "(I)V"⟩,
  ⟨"NameTreeModel", "hasMore", "()Z"⟩,
  ⟨"NameTreeModel", "walk", "(IIZ)I"⟩,
  ⟨"NameTreeModel", "splice", "(I)V"⟩,
  ⟨"NameTreeModel", "walkToName", "(II)I"⟩,
  ⟨"NameTreeModel", "room", "(I)I"⟩,
  ⟨"NameTreeModel", "newFile", "(II)I"⟩,
  ⟨"NameTreeModel", "make", "(I)I"⟩,
  ⟨"NameTreeModel", "link", "()I"⟩,
  ⟨"NameTreeModel", "symlink", "()I"⟩,
  ⟨"NameTreeModel", "remove", "()I"⟩,
  ⟨"NameTreeModel", "removeFolder", "()I"⟩,
  ⟨"NameTreeModel", "isWithin", "(II)Z"⟩,
  ⟨"NameTreeModel", "rename", "()I"⟩,
  ⟨"NameTreeModel", "find", "(Z)I"⟩,
  ⟨"NameTreeModel", "hold", "()I"⟩,
  ⟨"NameTreeModel", "isFile", "(I)Z"⟩,
  ⟨"NameTreeModel", "release", "(I)I"⟩,
  ⟨"NameTreeModel", "foldersIn", "(I)I"⟩,
  ⟨"NameTreeModel", "about", "(II)I"⟩,
  ⟨"NameTreeModel", "targetByte", "(II)I"⟩,
  ⟨"NameTreeModel", "count", "(I)I"⟩]
def zt_nm (M : Nat) : MethodName := zt_nm_l.getD M (⟨"NameTree", "", ""⟩)
def zt_by_l : List (ByteArray) := [code,
  prog_2_method_1_code,
  prog_2_method_2_code,
  prog_2_method_3_code,
  prog_2_method_4_code,
  prog_2_method_5_code,
  prog_2_method_6_code,
  prog_3_method_1_code,
  prog_3_method_2_code,
  prog_3_method_3_code,
  prog_4_method_1_code,
  prog_4_method_2_code,
  prog_4_method_3_code,
  prog_4_method_4_code,
  prog_4_method_5_code,
  prog_5_method_1_code,
  prog_5_method_2_code,
  prog_5_method_3_code,
  prog_5_method_4_code,
  prog_6_method_1_code,
  prog_6_method_2_code,
  prog_6_method_3_code,
  prog_6_method_4_code,
  prog_6_method_5_code,
  prog_6_method_6_code,
  prog_6_method_7_code,
  prog_7_method_1_code,
  prog_7_method_2_code,
  prog_7_method_3_code,
  prog_7_method_4_code,
  prog_7_method_5_code,
  prog_7_method_6_code,
  prog_7_method_7_code,
  prog_7_method_8_code,
  prog_8_method_1_code,
  prog_8_method_2_code,
  prog_8_method_3_code,
  prog_8_method_4_code,
  prog_8_method_5_code,
  prog_8_method_6_code,
  prog_8_method_7_code,
  prog_8_method_8_code,
  prog_8_method_9_code,
  prog_8_method_10_code,
  prog_8_method_11_code,
  prog_1_method_1_code,
  prog_1_method_2_code,
  prog_1_method_3_code,
  prog_1_method_4_code,
  prog_1_method_5_code,
  prog_1_method_6_code,
  prog_1_method_7_code,
  prog_1_method_8_code,
  prog_1_method_9_code,
  prog_1_method_10_code,
  prog_1_method_11_code,
  prog_1_method_12_code,
  prog_1_method_13_code,
  prog_1_method_14_code,
  prog_1_method_15_code,
  prog_1_method_16_code,
  prog_1_method_17_code,
  prog_1_method_18_code,
  prog_1_method_19_code,
  prog_1_method_20_code,
  prog_1_method_21_code,
  prog_1_method_22_code,
  prog_1_method_23_code,
  prog_1_method_24_code,
  prog_1_method_25_code,
  prog_1_method_26_code,
  prog_1_method_27_code,
  prog_1_method_28_code,
  prog_10_method_1_code,
  prog_10_method_2_code,
  prog_10_method_3_code,
  prog_10_method_4_code,
  prog_10_method_5_code,
  prog_10_method_6_code,
  prog_10_method_7_code,
  prog_10_method_8_code,
  prog_10_method_9_code,
  prog_10_method_10_code,
  prog_10_method_11_code,
  prog_10_method_12_code,
  prog_10_method_13_code,
  prog_10_method_14_code,
  prog_10_method_15_code,
  prog_10_method_16_code,
  prog_10_method_17_code,
  prog_10_method_18_code,
  prog_10_method_19_code,
  prog_10_method_20_code,
  prog_10_method_21_code,
  prog_10_method_22_code,
  prog_10_method_23_code,
  prog_10_method_24_code,
  prog_10_method_25_code,
  prog_10_method_26_code,
  prog_10_method_27_code,
  prog_10_method_28_code,
  prog_10_method_29_code,
  prog_10_method_30_code,
  prog_10_method_31_code,
  prog_10_method_32_code,
  prog_10_method_33_code,
  prog_10_method_34_code,
  prog_10_method_35_code,
  prog_10_method_36_code,
  prog_10_method_37_code]
def zt_by (M : Nat) : ByteArray := zt_by_l.getD M (code)
def zt_ml_l : List (Nat) := [4,
  2,
  3,
  5,
  6,
  6,
  7,
  1,
  4,
  5,
  2,
  7,
  5,
  4,
  1,
  1,
  2,
  1,
  3,
  1,
  2,
  2,
  2,
  2,
  3,
  4,
  2,
  2,
  4,
  2,
  1,
  1,
  1,
  1,
  4,
  5,
  7,
  1,
  5,
  2,
  1,
  2,
  4,
  2,
  1,
  1,
  5,
  4,
  3,
  4,
  3,
  6,
  3,
  3,
  4,
  3,
  3,
  4,
  4,
  4,
  2,
  3,
  2,
  5,
  3,
  4,
  2,
  2,
  4,
  3,
  1,
  1,
  5,
  1,
  5,
  4,
  4,
  1,
  2,
  3,
  3,
  4,
  4,
  4,
  6,
  6,
  3,
  3,
  4,
  3,
  7,
  3,
  4,
  2,
  4,
  4,
  4,
  6,
  3,
  3,
  4,
  9,
  4,
  3,
  2,
  3,
  4,
  4,
  3,
  2]
def zt_ml (M : Nat) : Nat := zt_ml_l.getD M (0)
def zt_rt_l : List (Option FieldType) := [some .boolean,
  none,
  some (.object "NameTree$TreeFile"),
  some (.object "NameTree$TreeFile"),
  some (.int),
  some (.int),
  some (.int),
  none,
  none,
  some (.boolean),
  none,
  some (.object "NameTree$NameRow"),
  none,
  none,
  none,
  none,
  some (.boolean),
  some (.int),
  some (.boolean),
  none,
  some (.boolean),
  none,
  some (.int),
  some (.boolean),
  some (.int),
  some (.int),
  none,
  none,
  none,
  some (.int),
  some (.int),
  some (.int),
  some (.int),
  none,
  none,
  some (.int),
  some (.int),
  none,
  none,
  some (.boolean),
  some (.object "NameTree$Span"),
  none,
  some (.int),
  some (.int),
  some (.boolean),
  none,
  some (.int),
  some (.int),
  some (.int),
  some (.int),
  some (.int),
  some (.int),
  some (.int),
  some (.int),
  some (.int),
  some (.int),
  some (.int),
  some (.int),
  some (.int),
  some (.int),
  some (.int),
  some (.int),
  some (.int),
  some (.int),
  some (.boolean),
  some (.boolean),
  some (.int),
  some (.int),
  some (.boolean),
  none,
  some (.int),
  some (.int),
  some (.int),
  none,
  some (.int),
  some (.int),
  some (.int),
  some (.int),
  some (.int),
  some (.int),
  some (.int),
  some (.int),
  some (.int),
  some (.int),
  some (.boolean),
  some (.int),
  some (.int),
  none,
  none,
  some (.boolean),
  some (.int),
  none,
  some (.int),
  some (.int),
  some (.int),
  some (.int),
  some (.int),
  some (.int),
  some (.int),
  some (.int),
  some (.boolean),
  some (.int),
  some (.int),
  some (.int),
  some (.boolean),
  some (.int),
  some (.int),
  some (.int),
  some (.int),
  some (.int)]
def zt_rt (M : Nat) : Option FieldType := zt_rt_l.getD M (none)
def zt_mc_l : List (Nat) := [99,
  0,
  0,
  0,
  0,
  0,
  0,
  1,
  1,
  1,
  2,
  2,
  2,
  2,
  2,
  3,
  3,
  3,
  3,
  4,
  4,
  4,
  4,
  4,
  4,
  4,
  5,
  5,
  5,
  5,
  5,
  5,
  5,
  5,
  6,
  6,
  6,
  6,
  6,
  6,
  6,
  6,
  6,
  6,
  6,
  7,
  7,
  7,
  7,
  7,
  7,
  7,
  7,
  7,
  7,
  7,
  7,
  7,
  7,
  7,
  7,
  7,
  7,
  7,
  7,
  7,
  7,
  7,
  7,
  7,
  7,
  7,
  7,
  8,
  8,
  8,
  8,
  8,
  8,
  8,
  8,
  8,
  8,
  8,
  8,
  8,
  8,
  8,
  8,
  8,
  8,
  8,
  8,
  8,
  8,
  8,
  8,
  8,
  8,
  8,
  8,
  8,
  8,
  8,
  8,
  8,
  8,
  8,
  8,
  8]
def zt_mc (M : Nat) : Nat := zt_mc_l.getD M (99)
def zt_fr_l : List (Nat) := [7,
  2,
  0,
  0,
  0,
  2,
  0,
  1,
  2,
  0,
  2,
  1,
  3,
  1,
  0,
  1,
  1,
  1,
  0,
  1,
  0,
  0,
  0,
  1,
  1,
  0,
  1,
  0,
  2,
  0,
  1,
  1,
  0,
  1,
  2,
  4,
  3,
  0,
  0,
  2,
  0,
  2,
  2,
  1,
  0,
  3,
  1,
  1,
  3,
  6,
  6,
  5,
  6,
  6,
  6,
  5,
  5,
  2,
  2,
  1,
  3,
  4,
  5,
  5,
  4,
  3,
  4,
  0,
  0,
  2,
  0,
  0,
  1,
  1,
  0,
  0,
  0,
  0,
  1,
  2,
  0,
  0,
  0,
  0,
  0,
  1,
  1,
  1,
  1,
  0,
  2,
  0,
  3,
  3,
  3,
  4,
  4,
  4,
  4,
  4,
  1,
  4,
  3,
  3,
  0,
  1,
  0,
  2,
  1,
  3]
def zt_fr (M : Nat) : Nat := zt_fr_l.getD M (0)
def zt_lc_l : List (Nat) := [170,
  41,
  0,
  0,
  0,
  40,
  0,
  20,
  50,
  0,
  40,
  24,
  73,
  20,
  0,
  20,
  22,
  22,
  0,
  20,
  0,
  0,
  0,
  23,
  23,
  0,
  20,
  0,
  50,
  0,
  20,
  21,
  0,
  21,
  40,
  99,
  73,
  0,
  0,
  43,
  0,
  42,
  50,
  24,
  0,
  63,
  21,
  21,
  65,
  144,
  147,
  123,
  144,
  144,
  147,
  121,
  121,
  41,
  40,
  22,
  65,
  99,
  123,
  123,
  88,
  65,
  88,
  0,
  0,
  43,
  0,
  0,
  26,
  20,
  0,
  0,
  0,
  0,
  20,
  41,
  0,
  0,
  0,
  0,
  0,
  25,
  20,
  23,
  23,
  0,
  50,
  0,
  76,
  63,
  63,
  99,
  99,
  99,
  99,
  99,
  23,
  99,
  76,
  76,
  0,
  23,
  0,
  41,
  21,
  63]
def zt_lc (M : Nat) : Nat := zt_lc_l.getD M (0)
def zt_own (M : Nat) : String := (zt_nm M).cls
def zt_ws : List Jvm.Cond := lw_tbl.filter goodWord
def zt_nm2 : List (String × Nat × MethodName × String) := [("NameTree$NameRow", 15, ⟨"NameTree", "copyBytes", "([BII[B)I"⟩, "NameTree"), ("NameTree$NameTable", 17, ⟨"NameTree$NameRow", "<init>", "()V"⟩, "NameTree"), ("NameTree$TreeFile", 41, ⟨"NameTree", "copyBytes", "([BII[B)I"⟩, "NameTree"), ("NameTree$TreeFile", 45, ⟨"NameTree", "roomOfFolder", "(I)I"⟩, "NameTree"), ("NameTree$TreeFile", 49, ⟨"NameTree", "roomOfTarget", "(I)I"⟩, "NameTree"), ("NameTree$Walk", 25, ⟨"NameTree$Span", "<init>", "()V"⟩, "NameTree"), ("NameTree", 9, ⟨"NameTree$Tape", "<init>", "()V"⟩, "NameTree")]
/-- an instruction, its next pc, two numbers that its operands were resolved to, a switch or a constant -/
abbrev zm_E : Type := Instr × Nat × Nat × Nat × List (Int × Nat)
def zm_lku : List (Nat × zm_E) → Nat → Option zm_E
  | [], _ => none
  | q :: l, pc => bif Nat.beq q.1 pc then some q.2 else zm_lku l pc
def zc0 : List (Nat × zm_E) := [(0, .new 7, 3, 7, 6, []),
  (3, .dup, 4, 0, 0, []),
  (4, .invokespecial 9, 7, 45, 0, []),
  (7, .astore_n 1, 8, 0, 0, []),
  (8, .new 10, 11, 8, 22, []),
  (11, .dup, 12, 0, 0, []),
  (12, .invokespecial 12, 15, 73, 0, []),
  (15, .astore_n 2, 16, 0, 0, []),
  (16, .iconst 0, 17, 0, 0, []),
  (17, .istore_n 3, 18, 0, 0, []),
  (18, .iload_n 3, 19, 0, 0, []),
  (19, .aload_n 0, 20, 0, 0, []),
  (20, .arraylength, 21, 0, 0, []),
  (21, .iconst 4, 22, 0, 0, []),
  (22, .isub, 23, 0, 0, []),
  (23, .if_icmp .gt 462, 26, 485, 0, []),
  (26, .aload_n 0, 27, 0, 0, []),
  (27, .iload_n 3, 28, 0, 0, []),
  (28, .iaload, 29, 0, 0, []),
  (29, .bipush 15, 31, 0, 0, []),
  (31, .iand, 32, 0, 0, []),
  (32, .tableswitch 447 0 14 #[76, 139, 172, 195, 218, 231, 244, 257, 270, 283, 322, 335, 358, 391, 424], 108, 479, 0, [(0, 108), (1, 171), (2, 204), (3, 227), (4, 250), (5, 263), (6, 276), (7, 289), (8, 302), (9, 315), (10, 354), (11, 367), (12, 390), (13, 423), (14, 456)]),
  (108, .aload_n 1, 109, 0, 0, []),
  (109, .aload_n 0, 110, 0, 0, []),
  (110, .iload_n 3, 111, 0, 0, []),
  (111, .iconst 1, 112, 0, 0, []),
  (112, .iadd, 113, 0, 0, []),
  (113, .iaload, 114, 0, 0, []),
  (114, .i2l, 115, 0, 0, []),
  (115, .bipush 32, 117, 0, 0, []),
  (117, .lshl, 118, 0, 0, []),
  (118, .aload_n 0, 119, 0, 0, []),
  (119, .iload_n 3, 120, 0, 0, []),
  (120, .iconst 2, 121, 0, 0, []),
  (121, .iadd, 122, 0, 0, []),
  (122, .iaload, 123, 0, 0, []),
  (123, .i2l, 124, 0, 0, []),
  (124, .ldc2_w 13, 127, 0, 0, [(4294967295, 0)]),
  (127, .land, 128, 0, 0, []),
  (128, .lor, 129, 0, 0, []),
  (129, .aload_n 0, 130, 0, 0, []),
  (130, .iload_n 3, 131, 0, 0, []),
  (131, .iconst 3, 132, 0, 0, []),
  (132, .iadd, 133, 0, 0, []),
  (133, .iaload, 134, 0, 0, []),
  (134, .invokevirtual 15, 137, 46, 2, []),
  (137, .aload_n 2, 138, 0, 0, []),
  (138, .aload_n 0, 139, 0, 0, []),
  (139, .iload_n 3, 140, 0, 0, []),
  (140, .iconst 1, 141, 0, 0, []),
  (141, .iadd, 142, 0, 0, []),
  (142, .iaload, 143, 0, 0, []),
  (143, .i2l, 144, 0, 0, []),
  (144, .bipush 32, 146, 0, 0, []),
  (146, .lshl, 147, 0, 0, []),
  (147, .aload_n 0, 148, 0, 0, []),
  (148, .iload_n 3, 149, 0, 0, []),
  (149, .iconst 2, 150, 0, 0, []),
  (150, .iadd, 151, 0, 0, []),
  (151, .iaload, 152, 0, 0, []),
  (152, .i2l, 153, 0, 0, []),
  (153, .ldc2_w 13, 156, 0, 0, [(4294967295, 0)]),
  (156, .land, 157, 0, 0, []),
  (157, .lor, 158, 0, 0, []),
  (158, .aload_n 0, 159, 0, 0, []),
  (159, .iload_n 3, 160, 0, 0, []),
  (160, .iconst 3, 161, 0, 0, []),
  (161, .iadd, 162, 0, 0, []),
  (162, .iaload, 163, 0, 0, []),
  (163, .invokevirtual 19, 166, 74, 2, []),
  (166, .if_icmp .eq 313, 169, 479, 0, []),
  (169, .iconst 0, 170, 0, 0, []),
  (170, .ireturn, 171, 0, 0, []),
  (171, .aload_n 1, 172, 0, 0, []),
  (172, .aload_n 0, 173, 0, 0, []),
  (173, .iload_n 3, 174, 0, 0, []),
  (174, .iconst 1, 175, 0, 0, []),
  (175, .iadd, 176, 0, 0, []),
  (176, .iaload, 177, 0, 0, []),
  (177, .aload_n 0, 178, 0, 0, []),
  (178, .iload_n 3, 179, 0, 0, []),
  (179, .iconst 2, 180, 0, 0, []),
  (180, .iadd, 181, 0, 0, []),
  (181, .iaload, 182, 0, 0, []),
  (182, .invokevirtual 20, 185, 47, 2, []),
  (185, .aload_n 2, 186, 0, 0, []),
  (186, .aload_n 0, 187, 0, 0, []),
  (187, .iload_n 3, 188, 0, 0, []),
  (188, .iconst 1, 189, 0, 0, []),
  (189, .iadd, 190, 0, 0, []),
  (190, .iaload, 191, 0, 0, []),
  (191, .aload_n 0, 192, 0, 0, []),
  (192, .iload_n 3, 193, 0, 0, []),
  (193, .iconst 2, 194, 0, 0, []),
  (194, .iadd, 195, 0, 0, []),
  (195, .iaload, 196, 0, 0, []),
  (196, .invokevirtual 24, 199, 75, 2, []),
  (199, .if_icmp .eq 280, 202, 479, 0, []),
  (202, .iconst 0, 203, 0, 0, []),
  (203, .ireturn, 204, 0, 0, []),
  (204, .aload_n 1, 205, 0, 0, []),
  (205, .aload_n 0, 206, 0, 0, []),
  (206, .iload_n 3, 207, 0, 0, []),
  (207, .iconst 1, 208, 0, 0, []),
  (208, .iadd, 209, 0, 0, []),
  (209, .iaload, 210, 0, 0, []),
  (210, .invokevirtual 25, 213, 48, 1, []),
  (213, .aload_n 2, 214, 0, 0, []),
  (214, .aload_n 0, 215, 0, 0, []),
  (215, .iload_n 3, 216, 0, 0, []),
  (216, .iconst 1, 217, 0, 0, []),
  (217, .iadd, 218, 0, 0, []),
  (218, .iaload, 219, 0, 0, []),
  (219, .invokevirtual 29, 222, 93, 1, []),
  (222, .if_icmp .eq 257, 225, 479, 0, []),
  (225, .iconst 0, 226, 0, 0, []),
  (226, .ireturn, 227, 0, 0, []),
  (227, .aload_n 1, 228, 0, 0, []),
  (228, .aload_n 0, 229, 0, 0, []),
  (229, .iload_n 3, 230, 0, 0, []),
  (230, .iconst 1, 231, 0, 0, []),
  (231, .iadd, 232, 0, 0, []),
  (232, .iaload, 233, 0, 0, []),
  (233, .invokevirtual 30, 236, 49, 1, []),
  (236, .aload_n 2, 237, 0, 0, []),
  (237, .aload_n 0, 238, 0, 0, []),
  (238, .iload_n 3, 239, 0, 0, []),
  (239, .iconst 1, 240, 0, 0, []),
  (240, .iadd, 241, 0, 0, []),
  (241, .iaload, 242, 0, 0, []),
  (242, .invokevirtual 33, 245, 95, 1, []),
  (245, .if_icmp .eq 234, 248, 479, 0, []),
  (248, .iconst 0, 249, 0, 0, []),
  (249, .ireturn, 250, 0, 0, []),
  (250, .aload_n 1, 251, 0, 0, []),
  (251, .invokevirtual 34, 254, 50, 0, []),
  (254, .aload_n 2, 255, 0, 0, []),
  (255, .invokevirtual 38, 258, 96, 0, []),
  (258, .if_icmp .eq 221, 261, 479, 0, []),
  (261, .iconst 0, 262, 0, 0, []),
  (262, .ireturn, 263, 0, 0, []),
  (263, .aload_n 1, 264, 0, 0, []),
  (264, .invokevirtual 39, 267, 51, 0, []),
  (267, .aload_n 2, 268, 0, 0, []),
  (268, .invokevirtual 42, 271, 97, 0, []),
  (271, .if_icmp .eq 208, 274, 479, 0, []),
  (274, .iconst 0, 275, 0, 0, []),
  (275, .ireturn, 276, 0, 0, []),
  (276, .aload_n 1, 277, 0, 0, []),
  (277, .invokevirtual 43, 280, 52, 0, []),
  (280, .aload_n 2, 281, 0, 0, []),
  (281, .invokevirtual 46, 284, 98, 0, []),
  (284, .if_icmp .eq 195, 287, 479, 0, []),
  (287, .iconst 0, 288, 0, 0, []),
  (288, .ireturn, 289, 0, 0, []),
  (289, .aload_n 1, 290, 0, 0, []),
  (290, .invokevirtual 47, 293, 53, 0, []),
  (293, .aload_n 2, 294, 0, 0, []),
  (294, .invokevirtual 50, 297, 99, 0, []),
  (297, .if_icmp .eq 182, 300, 479, 0, []),
  (300, .iconst 0, 301, 0, 0, []),
  (301, .ireturn, 302, 0, 0, []),
  (302, .aload_n 1, 303, 0, 0, []),
  (303, .invokevirtual 51, 306, 54, 0, []),
  (306, .aload_n 2, 307, 0, 0, []),
  (307, .invokevirtual 54, 310, 101, 0, []),
  (310, .if_icmp .eq 169, 313, 479, 0, []),
  (313, .iconst 0, 314, 0, 0, []),
  (314, .ireturn, 315, 0, 0, []),
  (315, .aload_n 1, 316, 0, 0, []),
  (316, .aload_n 0, 317, 0, 0, []),
  (317, .iload_n 3, 318, 0, 0, []),
  (318, .iconst 1, 319, 0, 0, []),
  (319, .iadd, 320, 0, 0, []),
  (320, .iaload, 321, 0, 0, []),
  (321, .ifCond .eq 7, 324, 328, 0, []),
  (324, .iconst 1, 325, 0, 0, []),
  (325, .goto 4, 328, 329, 0, []),
  (328, .iconst 0, 329, 0, 0, []),
  (329, .invokevirtual 55, 332, 55, 1, []),
  (332, .aload_n 2, 333, 0, 0, []),
  (333, .aload_n 0, 334, 0, 0, []),
  (334, .iload_n 3, 335, 0, 0, []),
  (335, .iconst 1, 336, 0, 0, []),
  (336, .iadd, 337, 0, 0, []),
  (337, .iaload, 338, 0, 0, []),
  (338, .ifCond .eq 7, 341, 345, 0, []),
  (341, .iconst 1, 342, 0, 0, []),
  (342, .goto 4, 345, 346, 0, []),
  (345, .iconst 0, 346, 0, 0, []),
  (346, .invokevirtual 59, 349, 102, 1, []),
  (349, .if_icmp .eq 130, 352, 479, 0, []),
  (352, .iconst 0, 353, 0, 0, []),
  (353, .ireturn, 354, 0, 0, []),
  (354, .aload_n 1, 355, 0, 0, []),
  (355, .invokevirtual 60, 358, 56, 0, []),
  (358, .aload_n 2, 359, 0, 0, []),
  (359, .invokevirtual 63, 362, 103, 0, []),
  (362, .if_icmp .eq 117, 365, 479, 0, []),
  (365, .iconst 0, 366, 0, 0, []),
  (366, .ireturn, 367, 0, 0, []),
  (367, .aload_n 1, 368, 0, 0, []),
  (368, .aload_n 0, 369, 0, 0, []),
  (369, .iload_n 3, 370, 0, 0, []),
  (370, .iconst 1, 371, 0, 0, []),
  (371, .iadd, 372, 0, 0, []),
  (372, .iaload, 373, 0, 0, []),
  (373, .invokevirtual 64, 376, 57, 1, []),
  (376, .aload_n 2, 377, 0, 0, []),
  (377, .aload_n 0, 378, 0, 0, []),
  (378, .iload_n 3, 379, 0, 0, []),
  (379, .iconst 1, 380, 0, 0, []),
  (380, .iadd, 381, 0, 0, []),
  (381, .iaload, 382, 0, 0, []),
  (382, .invokevirtual 67, 385, 105, 1, []),
  (385, .if_icmp .eq 94, 388, 479, 0, []),
  (388, .iconst 0, 389, 0, 0, []),
  (389, .ireturn, 390, 0, 0, []),
  (390, .aload_n 1, 391, 0, 0, []),
  (391, .aload_n 0, 392, 0, 0, []),
  (392, .iload_n 3, 393, 0, 0, []),
  (393, .iconst 1, 394, 0, 0, []),
  (394, .iadd, 395, 0, 0, []),
  (395, .iaload, 396, 0, 0, []),
  (396, .aload_n 0, 397, 0, 0, []),
  (397, .iload_n 3, 398, 0, 0, []),
  (398, .iconst 2, 399, 0, 0, []),
  (399, .iadd, 400, 0, 0, []),
  (400, .iaload, 401, 0, 0, []),
  (401, .invokevirtual 68, 404, 58, 2, []),
  (404, .aload_n 2, 405, 0, 0, []),
  (405, .aload_n 0, 406, 0, 0, []),
  (406, .iload_n 3, 407, 0, 0, []),
  (407, .iconst 1, 408, 0, 0, []),
  (408, .iadd, 409, 0, 0, []),
  (409, .iaload, 410, 0, 0, []),
  (410, .aload_n 0, 411, 0, 0, []),
  (411, .iload_n 3, 412, 0, 0, []),
  (412, .iconst 2, 413, 0, 0, []),
  (413, .iadd, 414, 0, 0, []),
  (414, .iaload, 415, 0, 0, []),
  (415, .invokevirtual 71, 418, 107, 2, []),
  (418, .if_icmp .eq 61, 421, 479, 0, []),
  (421, .iconst 0, 422, 0, 0, []),
  (422, .ireturn, 423, 0, 0, []),
  (423, .aload_n 1, 424, 0, 0, []),
  (424, .aload_n 0, 425, 0, 0, []),
  (425, .iload_n 3, 426, 0, 0, []),
  (426, .iconst 1, 427, 0, 0, []),
  (427, .iadd, 428, 0, 0, []),
  (428, .iaload, 429, 0, 0, []),
  (429, .aload_n 0, 430, 0, 0, []),
  (430, .iload_n 3, 431, 0, 0, []),
  (431, .iconst 2, 432, 0, 0, []),
  (432, .iadd, 433, 0, 0, []),
  (433, .iaload, 434, 0, 0, []),
  (434, .invokevirtual 72, 437, 59, 2, []),
  (437, .aload_n 2, 438, 0, 0, []),
  (438, .aload_n 0, 439, 0, 0, []),
  (439, .iload_n 3, 440, 0, 0, []),
  (440, .iconst 1, 441, 0, 0, []),
  (441, .iadd, 442, 0, 0, []),
  (442, .iaload, 443, 0, 0, []),
  (443, .aload_n 0, 444, 0, 0, []),
  (444, .iload_n 3, 445, 0, 0, []),
  (445, .iconst 2, 446, 0, 0, []),
  (446, .iadd, 447, 0, 0, []),
  (447, .iaload, 448, 0, 0, []),
  (448, .invokevirtual 75, 451, 108, 2, []),
  (451, .if_icmp .eq 28, 454, 479, 0, []),
  (454, .iconst 0, 455, 0, 0, []),
  (455, .ireturn, 456, 0, 0, []),
  (456, .aload_n 1, 457, 0, 0, []),
  (457, .aload_n 0, 458, 0, 0, []),
  (458, .iload_n 3, 459, 0, 0, []),
  (459, .iconst 1, 460, 0, 0, []),
  (460, .iadd, 461, 0, 0, []),
  (461, .iaload, 462, 0, 0, []),
  (462, .invokevirtual 76, 465, 60, 1, []),
  (465, .aload_n 2, 466, 0, 0, []),
  (466, .aload_n 0, 467, 0, 0, []),
  (467, .iload_n 3, 468, 0, 0, []),
  (468, .iconst 1, 469, 0, 0, []),
  (469, .iadd, 470, 0, 0, []),
  (470, .iaload, 471, 0, 0, []),
  (471, .invokevirtual 79, 474, 109, 1, []),
  (474, .if_icmp .eq 5, 477, 479, 0, []),
  (477, .iconst 0, 478, 0, 0, []),
  (478, .ireturn, 479, 0, 0, []),
  (479, .iinc 3 4, 482, 0, 0, []),
  (482, .goto (-464), 485, 18, 0, []),
  (485, .iconst 1, 486, 0, 0, []),
  (486, .ireturn, 487, 0, 0, [])]
def zc1 : List (Nat × zm_E) := [(0, .aload_n 0, 1, 0, 0, []),
  (1, .invokespecial 3, 4, 1000, 0, []),
  (4, .aload_n 0, 5, 0, 0, []),
  (5, .bipush 40, 7, 0, 0, []),
  (7, .anewarray 9, 10, 205, 0, []),
  (10, .putfield 11, 13, 0, 0, []),
  (13, .aload_n 0, 14, 0, 0, []),
  (14, .new 9, 17, 5, 9, []),
  (17, .dup, 18, 0, 0, []),
  (18, .iconst 1, 19, 0, 0, []),
  (19, .invokespecial 17, 22, 26, 1, []),
  (22, .putfield 20, 25, 0, 1, []),
  (25, .aload_n 0, 26, 0, 0, []),
  (26, .getfield 20, 29, 0, 1, []),
  (29, .iconst 2, 30, 0, 0, []),
  (30, .invokevirtual 24, 33, 27, 1, []),
  (33, .aload_n 0, 34, 0, 0, []),
  (34, .getfield 20, 37, 0, 1, []),
  (37, .aload_n 0, 38, 0, 0, []),
  (38, .getfield 20, 41, 0, 1, []),
  (41, .putfield 27, 44, 5, 6, []),
  (44, .aload_n 0, 45, 0, 0, []),
  (45, .getfield 11, 48, 0, 0, []),
  (48, .iconst 0, 49, 0, 0, []),
  (49, .aload_n 0, 50, 0, 0, []),
  (50, .getfield 20, 53, 0, 1, []),
  (53, .aastore, 54, 0, 0, []),
  (54, .iconst 1, 55, 0, 0, []),
  (55, .istore_n 1, 56, 0, 0, []),
  (56, .iload_n 1, 57, 0, 0, []),
  (57, .aload_n 0, 58, 0, 0, []),
  (58, .getfield 11, 61, 0, 0, []),
  (61, .arraylength, 62, 0, 0, []),
  (62, .if_icmp .ge 25, 65, 87, 0, []),
  (65, .aload_n 0, 66, 0, 0, []),
  (66, .getfield 11, 69, 0, 0, []),
  (69, .iload_n 1, 70, 0, 0, []),
  (70, .new 9, 73, 5, 9, []),
  (73, .dup, 74, 0, 0, []),
  (74, .iload_n 1, 75, 0, 0, []),
  (75, .iconst 1, 76, 0, 0, []),
  (76, .iadd, 77, 0, 0, []),
  (77, .invokespecial 17, 80, 26, 1, []),
  (80, .aastore, 81, 0, 0, []),
  (81, .iinc 1 1, 84, 0, 0, []),
  (84, .goto (-28), 87, 56, 0, []),
  (87, .return_, 88, 0, 0, [])]
def zc2 : List (Nat × zm_E) := [(0, .iload_n 1, 1, 0, 0, []),
  (1, .iconst 1, 2, 0, 0, []),
  (2, .if_icmp .lt 12, 5, 14, 0, []),
  (5, .iload_n 1, 6, 0, 0, []),
  (6, .aload_n 0, 7, 0, 0, []),
  (7, .getfield 11, 10, 0, 0, []),
  (10, .arraylength, 11, 0, 0, []),
  (11, .if_icmp .le 5, 14, 16, 0, []),
  (14, .aconst_null, 15, 0, 0, []),
  (15, .areturn, 16, 0, 0, []),
  (16, .aload_n 0, 17, 0, 0, []),
  (17, .getfield 11, 20, 0, 0, []),
  (20, .iload_n 1, 21, 0, 0, []),
  (21, .iconst 1, 22, 0, 0, []),
  (22, .isub, 23, 0, 0, []),
  (23, .aaload, 24, 0, 0, []),
  (24, .astore_n 2, 25, 0, 0, []),
  (25, .aload_n 2, 26, 0, 0, []),
  (26, .ifnull 10, 29, 36, 0, []),
  (29, .aload_n 2, 30, 0, 0, []),
  (30, .getfield 30, 33, 5, 1, []),
  (33, .ifCond .ne 7, 36, 40, 0, []),
  (36, .aconst_null, 37, 0, 0, []),
  (37, .goto 4, 40, 41, 0, []),
  (40, .aload_n 2, 41, 0, 0, []),
  (41, .areturn, 42, 0, 0, [])]
def zc3 : List (Nat × zm_E) := [(0, .aload_n 0, 1, 0, 0, []),
  (1, .getfield 11, 4, 0, 0, []),
  (4, .astore_n 1, 5, 0, 0, []),
  (5, .aload_n 1, 6, 0, 0, []),
  (6, .arraylength, 7, 0, 0, []),
  (7, .istore_n 2, 8, 0, 0, []),
  (8, .iconst 0, 9, 0, 0, []),
  (9, .istore_n 3, 10, 0, 0, []),
  (10, .iload_n 3, 11, 0, 0, []),
  (11, .iload_n 2, 12, 0, 0, []),
  (12, .if_icmp .ge 30, 15, 42, 0, []),
  (15, .aload_n 1, 16, 0, 0, []),
  (16, .iload_n 3, 17, 0, 0, []),
  (17, .aaload, 18, 0, 0, []),
  (18, .astore 4, 20, 0, 0, []),
  (20, .aload 4, 22, 0, 0, []),
  (22, .ifnull 14, 25, 36, 0, []),
  (25, .aload 4, 27, 0, 0, []),
  (27, .getfield 30, 30, 5, 1, []),
  (30, .ifCond .ne 6, 33, 36, 0, []),
  (33, .aload 4, 35, 0, 0, []),
  (35, .areturn, 36, 0, 0, []),
  (36, .iinc 3 1, 39, 0, 0, []),
  (39, .goto (-29), 42, 10, 0, []),
  (42, .aconst_null, 43, 0, 0, []),
  (43, .areturn, 44, 0, 0, [])]
def zc4 : List (Nat × zm_E) := [(0, .iconst 0, 1, 0, 0, []),
  (1, .istore_n 1, 2, 0, 0, []),
  (2, .aload_n 0, 3, 0, 0, []),
  (3, .getfield 11, 6, 0, 0, []),
  (6, .astore_n 2, 7, 0, 0, []),
  (7, .aload_n 2, 8, 0, 0, []),
  (8, .arraylength, 9, 0, 0, []),
  (9, .istore_n 3, 10, 0, 0, []),
  (10, .iconst 0, 11, 0, 0, []),
  (11, .istore 4, 13, 0, 0, []),
  (13, .iload 4, 15, 0, 0, []),
  (15, .iload_n 3, 16, 0, 0, []),
  (16, .if_icmp .ge 31, 19, 47, 0, []),
  (19, .aload_n 2, 20, 0, 0, []),
  (20, .iload 4, 22, 0, 0, []),
  (22, .aaload, 23, 0, 0, []),
  (23, .astore 5, 25, 0, 0, []),
  (25, .aload 5, 27, 0, 0, []),
  (27, .ifnull 14, 30, 41, 0, []),
  (30, .aload 5, 32, 0, 0, []),
  (32, .getfield 30, 35, 5, 1, []),
  (35, .ifCond .eq 6, 38, 41, 0, []),
  (38, .iinc 1 1, 41, 0, 0, []),
  (41, .iinc 4 1, 44, 0, 0, []),
  (44, .goto (-31), 47, 13, 0, []),
  (47, .iload_n 1, 48, 0, 0, []),
  (48, .ireturn, 49, 0, 0, [])]
def zc5 : List (Nat × zm_E) := [(0, .iconst 0, 1, 0, 0, []),
  (1, .istore_n 1, 2, 0, 0, []),
  (2, .aload_n 0, 3, 0, 0, []),
  (3, .getfield 11, 6, 0, 0, []),
  (6, .astore_n 2, 7, 0, 0, []),
  (7, .aload_n 2, 8, 0, 0, []),
  (8, .arraylength, 9, 0, 0, []),
  (9, .istore_n 3, 10, 0, 0, []),
  (10, .iconst 0, 11, 0, 0, []),
  (11, .istore 4, 13, 0, 0, []),
  (13, .iload 4, 15, 0, 0, []),
  (15, .iload_n 3, 16, 0, 0, []),
  (16, .if_icmp .ge 28, 19, 44, 0, []),
  (19, .aload_n 2, 20, 0, 0, []),
  (20, .iload 4, 22, 0, 0, []),
  (22, .aaload, 23, 0, 0, []),
  (23, .astore 5, 25, 0, 0, []),
  (25, .aload 5, 27, 0, 0, []),
  (27, .ifnull 11, 30, 38, 0, []),
  (30, .iload_n 1, 31, 0, 0, []),
  (31, .aload 5, 33, 0, 0, []),
  (33, .invokevirtual 34, 36, 30, 0, []),
  (36, .iadd, 37, 0, 0, []),
  (37, .istore_n 1, 38, 0, 0, []),
  (38, .iinc 4 1, 41, 0, 0, []),
  (41, .goto (-28), 44, 13, 0, []),
  (44, .iload_n 1, 45, 0, 0, []),
  (45, .ireturn, 46, 0, 0, [])]
def zc6 : List (Nat × zm_E) := [(0, .iconst 0, 1, 0, 0, []),
  (1, .istore_n 2, 2, 0, 0, []),
  (2, .aload_n 0, 3, 0, 0, []),
  (3, .getfield 11, 6, 0, 0, []),
  (6, .astore_n 3, 7, 0, 0, []),
  (7, .aload_n 3, 8, 0, 0, []),
  (8, .arraylength, 9, 0, 0, []),
  (9, .istore 4, 11, 0, 0, []),
  (11, .iconst 0, 12, 0, 0, []),
  (12, .istore 5, 14, 0, 0, []),
  (14, .iload 5, 16, 0, 0, []),
  (16, .iload 4, 18, 0, 0, []),
  (18, .if_icmp .ge 41, 21, 59, 0, []),
  (21, .aload_n 3, 22, 0, 0, []),
  (22, .iload 5, 24, 0, 0, []),
  (24, .aaload, 25, 0, 0, []),
  (25, .astore 6, 27, 0, 0, []),
  (27, .aload 6, 29, 0, 0, []),
  (29, .ifnull 24, 32, 53, 0, []),
  (32, .aload 6, 34, 0, 0, []),
  (34, .aload_n 0, 35, 0, 0, []),
  (35, .getfield 20, 38, 0, 1, []),
  (38, .if_acmp .eq 15, 41, 53, 0, []),
  (41, .aload 6, 43, 0, 0, []),
  (43, .getfield 27, 46, 5, 6, []),
  (46, .aload_n 1, 47, 0, 0, []),
  (47, .if_acmp .ne 6, 50, 53, 0, []),
  (50, .iinc 2 1, 53, 0, 0, []),
  (53, .iinc 5 1, 56, 0, 0, []),
  (56, .goto (-42), 59, 14, 0, []),
  (59, .iload_n 2, 60, 0, 0, []),
  (60, .ireturn, 61, 0, 0, [])]
def zc7 : List (Nat × zm_E) := [(0, .aload_n 0, 1, 0, 0, []),
  (1, .invokespecial 3, 4, 1000, 0, []),
  (4, .return_, 5, 0, 0, [])]
def zc8 : List (Nat × zm_E) := [(0, .aload_n 0, 1, 0, 0, []),
  (1, .getfield 9, 4, 1, 2, []),
  (4, .ifnonnull 12, 7, 16, 0, []),
  (7, .aload_n 0, 8, 0, 0, []),
  (8, .sipush 255, 11, 0, 0, []),
  (11, .newarray .byte, 13, 100, 0, []),
  (13, .putfield 9, 16, 1, 2, []),
  (16, .aload_n 0, 17, 0, 0, []),
  (17, .aload_n 1, 18, 0, 0, []),
  (18, .iload_n 2, 19, 0, 0, []),
  (19, .iload_n 3, 20, 0, 0, []),
  (20, .aload_n 0, 21, 0, 0, []),
  (21, .getfield 9, 24, 1, 2, []),
  (24, .invokestatic 15, 27, 72, 4, []),
  (27, .putfield 19, 30, 1, 3, []),
  (30, .return_, 31, 0, 0, [])]
def zc9 : List (Nat × zm_E) := [(0, .aload_n 0, 1, 0, 0, []),
  (1, .getfield 9, 4, 1, 2, []),
  (4, .ifnull 36, 7, 40, 0, []),
  (7, .aload_n 1, 8, 0, 0, []),
  (8, .ifnull 32, 11, 40, 0, []),
  (11, .iload_n 3, 12, 0, 0, []),
  (12, .aload_n 0, 13, 0, 0, []),
  (13, .getfield 19, 16, 1, 3, []),
  (16, .if_icmp .ne 24, 19, 40, 0, []),
  (19, .iload_n 3, 20, 0, 0, []),
  (20, .aload_n 0, 21, 0, 0, []),
  (21, .getfield 9, 24, 1, 2, []),
  (24, .arraylength, 25, 0, 0, []),
  (25, .if_icmp .gt 15, 28, 40, 0, []),
  (28, .iload_n 2, 29, 0, 0, []),
  (29, .ifCond .lt 11, 32, 40, 0, []),
  (32, .iload_n 3, 33, 0, 0, []),
  (33, .aload_n 1, 34, 0, 0, []),
  (34, .arraylength, 35, 0, 0, []),
  (35, .iload_n 2, 36, 0, 0, []),
  (36, .isub, 37, 0, 0, []),
  (37, .if_icmp .le 5, 40, 42, 0, []),
  (40, .iconst 0, 41, 0, 0, []),
  (41, .ireturn, 42, 0, 0, []),
  (42, .iconst 0, 43, 0, 0, []),
  (43, .istore 4, 45, 0, 0, []),
  (45, .iload 4, 47, 0, 0, []),
  (47, .iload_n 3, 48, 0, 0, []),
  (48, .if_icmp .ge 27, 51, 75, 0, []),
  (51, .aload_n 0, 52, 0, 0, []),
  (52, .getfield 9, 55, 1, 2, []),
  (55, .iload 4, 57, 0, 0, []),
  (57, .baload, 58, 0, 0, []),
  (58, .aload_n 1, 59, 0, 0, []),
  (59, .iload_n 2, 60, 0, 0, []),
  (60, .iload 4, 62, 0, 0, []),
  (62, .iadd, 63, 0, 0, []),
  (63, .baload, 64, 0, 0, []),
  (64, .if_icmp .eq 5, 67, 69, 0, []),
  (67, .iconst 0, 68, 0, 0, []),
  (68, .ireturn, 69, 0, 0, []),
  (69, .iinc 4 1, 72, 0, 0, []),
  (72, .goto (-27), 75, 45, 0, []),
  (75, .iconst 1, 76, 0, 0, []),
  (76, .ireturn, 77, 0, 0, [])]
def zc10 : List (Nat × zm_E) := [(0, .aload_n 0, 1, 0, 0, []),
  (1, .invokespecial 3, 4, 1000, 0, []),
  (4, .aload_n 0, 5, 0, 0, []),
  (5, .bipush 60, 7, 0, 0, []),
  (7, .anewarray 9, 10, 201, 0, []),
  (10, .putfield 11, 13, 2, 0, []),
  (13, .iconst 0, 14, 0, 0, []),
  (14, .istore_n 1, 15, 0, 0, []),
  (15, .iload_n 1, 16, 0, 0, []),
  (16, .aload_n 0, 17, 0, 0, []),
  (17, .getfield 11, 20, 2, 0, []),
  (20, .arraylength, 21, 0, 0, []),
  (21, .if_icmp .ge 22, 24, 43, 0, []),
  (24, .aload_n 0, 25, 0, 0, []),
  (25, .getfield 11, 28, 2, 0, []),
  (28, .iload_n 1, 29, 0, 0, []),
  (29, .new 9, 32, 1, 4, []),
  (32, .dup, 33, 0, 0, []),
  (33, .invokespecial 17, 36, 7, 0, []),
  (36, .aastore, 37, 0, 0, []),
  (37, .iinc 1 1, 40, 0, 0, []),
  (40, .goto (-25), 43, 15, 0, []),
  (43, .return_, 44, 0, 0, [])]
def zc11 : List (Nat × zm_E) := [(0, .iconst 0, 1, 0, 0, []),
  (1, .istore 5, 3, 0, 0, []),
  (3, .iload 5, 5, 0, 0, []),
  (5, .aload_n 0, 6, 0, 0, []),
  (6, .getfield 18, 9, 2, 1, []),
  (9, .if_icmp .ge 57, 12, 66, 0, []),
  (12, .iload 5, 14, 0, 0, []),
  (14, .aload_n 0, 15, 0, 0, []),
  (15, .getfield 11, 18, 2, 0, []),
  (18, .arraylength, 19, 0, 0, []),
  (19, .if_icmp .ge 47, 22, 66, 0, []),
  (22, .aload_n 0, 23, 0, 0, []),
  (23, .getfield 11, 26, 2, 0, []),
  (26, .iload 5, 28, 0, 0, []),
  (28, .aaload, 29, 0, 0, []),
  (29, .astore 6, 31, 0, 0, []),
  (31, .aload 6, 33, 0, 0, []),
  (33, .ifnull 27, 36, 60, 0, []),
  (36, .aload 6, 38, 0, 0, []),
  (38, .getfield 22, 41, 1, 0, []),
  (41, .aload_n 1, 42, 0, 0, []),
  (42, .if_acmp .ne 18, 45, 60, 0, []),
  (45, .aload 6, 47, 0, 0, []),
  (47, .aload_n 2, 48, 0, 0, []),
  (48, .iload_n 3, 49, 0, 0, []),
  (49, .iload 4, 51, 0, 0, []),
  (51, .invokevirtual 26, 54, 9, 3, []),
  (54, .ifCond .eq 6, 57, 60, 0, []),
  (57, .aload 6, 59, 0, 0, []),
  (59, .areturn, 60, 0, 0, []),
  (60, .iinc 5 1, 63, 0, 0, []),
  (63, .goto (-60), 66, 3, 0, []),
  (66, .aconst_null, 67, 0, 0, []),
  (67, .areturn, 68, 0, 0, [])]
def zc12 : List (Nat × zm_E) := [(0, .aload_n 0, 1, 0, 0, []),
  (1, .getfield 18, 4, 2, 1, []),
  (4, .ifCond .lt 15, 7, 19, 0, []),
  (7, .aload_n 0, 8, 0, 0, []),
  (8, .getfield 18, 11, 2, 1, []),
  (11, .aload_n 0, 12, 0, 0, []),
  (12, .getfield 11, 15, 2, 0, []),
  (15, .arraylength, 16, 0, 0, []),
  (16, .if_icmp .lt 4, 19, 20, 0, []),
  (19, .return_, 20, 0, 0, []),
  (20, .aload_n 0, 21, 0, 0, []),
  (21, .getfield 11, 24, 2, 0, []),
  (24, .aload_n 0, 25, 0, 0, []),
  (25, .getfield 18, 28, 2, 1, []),
  (28, .aaload, 29, 0, 0, []),
  (29, .astore_n 3, 30, 0, 0, []),
  (30, .aload_n 2, 31, 0, 0, []),
  (31, .getfield 30, 34, 6, 8, []),
  (34, .astore 4, 36, 0, 0, []),
  (36, .aload_n 3, 37, 0, 0, []),
  (37, .ifnull 8, 40, 45, 0, []),
  (40, .aload 4, 42, 0, 0, []),
  (42, .ifnonnull 4, 45, 46, 0, []),
  (45, .return_, 46, 0, 0, []),
  (46, .aload_n 0, 47, 0, 0, []),
  (47, .dup, 48, 0, 0, []),
  (48, .getfield 18, 51, 2, 1, []),
  (51, .iconst 1, 52, 0, 0, []),
  (52, .iadd, 53, 0, 0, []),
  (53, .putfield 18, 56, 2, 1, []),
  (56, .aload_n 3, 57, 0, 0, []),
  (57, .aload_n 2, 58, 0, 0, []),
  (58, .getfield 33, 61, 6, 5, []),
  (61, .aload_n 2, 62, 0, 0, []),
  (62, .getfield 37, 65, 6, 6, []),
  (65, .aload_n 2, 66, 0, 0, []),
  (66, .getfield 40, 69, 6, 7, []),
  (69, .invokevirtual 43, 72, 8, 3, []),
  (72, .aload_n 3, 73, 0, 0, []),
  (73, .aload 4, 75, 0, 0, []),
  (75, .putfield 22, 78, 1, 0, []),
  (78, .aload_n 3, 79, 0, 0, []),
  (79, .aload_n 1, 80, 0, 0, []),
  (80, .putfield 47, 83, 1, 1, []),
  (83, .aload 4, 85, 0, 0, []),
  (85, .dup, 86, 0, 0, []),
  (86, .getfield 50, 89, 5, 4, []),
  (89, .iconst 1, 90, 0, 0, []),
  (90, .iadd, 91, 0, 0, []),
  (91, .putfield 50, 94, 5, 4, []),
  (94, .aload 4, 96, 0, 0, []),
  (96, .aload 4, 98, 0, 0, []),
  (98, .getfield 55, 101, 5, 5, []),
  (101, .aload 4, 103, 0, 0, []),
  (103, .getfield 50, 106, 5, 4, []),
  (106, .invokestatic 58, 109, 1001, 0, []),
  (109, .putfield 55, 112, 5, 5, []),
  (112, .aload_n 1, 113, 0, 0, []),
  (113, .dup, 114, 0, 0, []),
  (114, .getfield 64, 117, 5, 2, []),
  (117, .iconst 1, 118, 0, 0, []),
  (118, .iadd, 119, 0, 0, []),
  (119, .putfield 64, 122, 5, 2, []),
  (122, .aload_n 1, 123, 0, 0, []),
  (123, .getfield 67, 126, 5, 1, []),
  (126, .iconst 2, 127, 0, 0, []),
  (127, .if_icmp .ne 9, 130, 136, 0, []),
  (130, .aload_n 1, 131, 0, 0, []),
  (131, .aload 4, 133, 0, 0, []),
  (133, .putfield 70, 136, 5, 6, []),
  (136, .return_, 137, 0, 0, [])]
def zc13 : List (Nat × zm_E) := [(0, .aload_n 0, 1, 0, 0, []),
  (1, .getfield 18, 4, 2, 1, []),
  (4, .iconst 1, 5, 0, 0, []),
  (5, .isub, 6, 0, 0, []),
  (6, .istore_n 2, 7, 0, 0, []),
  (7, .iconst 0, 8, 0, 0, []),
  (8, .istore_n 3, 9, 0, 0, []),
  (9, .iload_n 3, 10, 0, 0, []),
  (10, .iload_n 2, 11, 0, 0, []),
  (11, .if_icmp .gt 57, 14, 68, 0, []),
  (14, .iload_n 2, 15, 0, 0, []),
  (15, .aload_n 0, 16, 0, 0, []),
  (16, .getfield 11, 19, 2, 0, []),
  (19, .arraylength, 20, 0, 0, []),
  (20, .if_icmp .ge 48, 23, 68, 0, []),
  (23, .aload_n 0, 24, 0, 0, []),
  (24, .getfield 11, 27, 2, 0, []),
  (27, .iload_n 3, 28, 0, 0, []),
  (28, .aaload, 29, 0, 0, []),
  (29, .aload_n 1, 30, 0, 0, []),
  (30, .if_acmp .ne 32, 33, 62, 0, []),
  (33, .aload_n 0, 34, 0, 0, []),
  (34, .getfield 11, 37, 2, 0, []),
  (37, .iload_n 3, 38, 0, 0, []),
  (38, .aload_n 0, 39, 0, 0, []),
  (39, .getfield 11, 42, 2, 0, []),
  (42, .iload_n 2, 43, 0, 0, []),
  (43, .aaload, 44, 0, 0, []),
  (44, .aastore, 45, 0, 0, []),
  (45, .aload_n 0, 46, 0, 0, []),
  (46, .getfield 11, 49, 2, 0, []),
  (49, .iload_n 2, 50, 0, 0, []),
  (50, .aload_n 1, 51, 0, 0, []),
  (51, .aastore, 52, 0, 0, []),
  (52, .aload_n 0, 53, 0, 0, []),
  (53, .iload_n 2, 54, 0, 0, []),
  (54, .putfield 18, 57, 2, 1, []),
  (57, .aload_n 1, 58, 0, 0, []),
  (58, .invokestatic 73, 61, 14, 1, []),
  (61, .return_, 62, 0, 0, []),
  (62, .iinc 3 1, 65, 0, 0, []),
  (65, .goto (-56), 68, 9, 0, []),
  (68, .return_, 69, 0, 0, [])]
def zc14 : List (Nat × zm_E) := [(0, .aload_n 0, 1, 0, 0, []),
  (1, .ifnonnull 4, 4, 5, 0, []),
  (4, .return_, 5, 0, 0, []),
  (5, .aload_n 0, 6, 0, 0, []),
  (6, .getfield 22, 9, 1, 0, []),
  (9, .ifnull 16, 12, 25, 0, []),
  (12, .aload_n 0, 13, 0, 0, []),
  (13, .getfield 22, 16, 1, 0, []),
  (16, .dup, 17, 0, 0, []),
  (17, .getfield 50, 20, 5, 4, []),
  (20, .iconst 1, 21, 0, 0, []),
  (21, .isub, 22, 0, 0, []),
  (22, .putfield 50, 25, 5, 4, []),
  (25, .aload_n 0, 26, 0, 0, []),
  (26, .getfield 47, 29, 1, 1, []),
  (29, .ifnull 16, 32, 45, 0, []),
  (32, .aload_n 0, 33, 0, 0, []),
  (33, .getfield 47, 36, 1, 1, []),
  (36, .dup, 37, 0, 0, []),
  (37, .getfield 64, 40, 5, 2, []),
  (40, .iconst 1, 41, 0, 0, []),
  (41, .isub, 42, 0, 0, []),
  (42, .putfield 64, 45, 5, 2, []),
  (45, .aload_n 0, 46, 0, 0, []),
  (46, .aconst_null, 47, 0, 0, []),
  (47, .putfield 22, 50, 1, 0, []),
  (50, .aload_n 0, 51, 0, 0, []),
  (51, .aconst_null, 52, 0, 0, []),
  (52, .putfield 47, 55, 1, 1, []),
  (55, .return_, 56, 0, 0, [])]
def zc15 : List (Nat × zm_E) := [(0, .aload_n 0, 1, 0, 0, []),
  (1, .invokespecial 3, 4, 1000, 0, []),
  (4, .return_, 5, 0, 0, [])]
def zc16 : List (Nat × zm_E) := [(0, .aload_n 0, 1, 0, 0, []),
  (1, .getfield 9, 4, 3, 1, []),
  (4, .aload_n 0, 5, 0, 0, []),
  (5, .getfield 15, 8, 3, 2, []),
  (8, .if_icmp .ge 82, 11, 90, 0, []),
  (11, .aload_n 0, 12, 0, 0, []),
  (12, .aload_n 0, 13, 0, 0, []),
  (13, .getfield 9, 16, 3, 1, []),
  (16, .bipush 47, 18, 0, 0, []),
  (18, .invokevirtual 18, 21, 18, 2, []),
  (21, .ifCond .ne 44, 24, 65, 0, []),
  (24, .aload_n 0, 25, 0, 0, []),
  (25, .aload_n 0, 26, 0, 0, []),
  (26, .getfield 9, 29, 3, 1, []),
  (29, .bipush 46, 31, 0, 0, []),
  (31, .invokevirtual 18, 34, 18, 2, []),
  (34, .ifCond .eq 35, 37, 69, 0, []),
  (37, .aload_n 0, 38, 0, 0, []),
  (38, .getfield 9, 41, 3, 1, []),
  (41, .iconst 1, 42, 0, 0, []),
  (42, .iadd, 43, 0, 0, []),
  (43, .aload_n 0, 44, 0, 0, []),
  (44, .getfield 15, 47, 3, 2, []),
  (47, .if_icmp .ge 18, 50, 65, 0, []),
  (50, .aload_n 0, 51, 0, 0, []),
  (51, .aload_n 0, 52, 0, 0, []),
  (52, .getfield 9, 55, 3, 1, []),
  (55, .iconst 1, 56, 0, 0, []),
  (56, .iadd, 57, 0, 0, []),
  (57, .bipush 47, 59, 0, 0, []),
  (59, .invokevirtual 18, 62, 18, 2, []),
  (62, .ifCond .eq 7, 65, 69, 0, []),
  (65, .iconst 1, 66, 0, 0, []),
  (66, .goto 4, 69, 70, 0, []),
  (69, .iconst 0, 70, 0, 0, []),
  (70, .istore_n 1, 71, 0, 0, []),
  (71, .iload_n 1, 72, 0, 0, []),
  (72, .ifCond .ne 5, 75, 77, 0, []),
  (75, .iconst 1, 76, 0, 0, []),
  (76, .ireturn, 77, 0, 0, []),
  (77, .aload_n 0, 78, 0, 0, []),
  (78, .dup, 79, 0, 0, []),
  (79, .getfield 9, 82, 3, 1, []),
  (82, .iconst 1, 83, 0, 0, []),
  (83, .iadd, 84, 0, 0, []),
  (84, .putfield 9, 87, 3, 1, []),
  (87, .goto (-87), 90, 0, 0, []),
  (90, .iconst 0, 91, 0, 0, []),
  (91, .ireturn, 92, 0, 0, [])]
def zc17 : List (Nat × zm_E) := [(0, .aload_n 0, 1, 0, 0, []),
  (1, .getfield 9, 4, 3, 1, []),
  (4, .aload_n 0, 5, 0, 0, []),
  (5, .getfield 15, 8, 3, 2, []),
  (8, .if_icmp .ge 29, 11, 37, 0, []),
  (11, .aload_n 0, 12, 0, 0, []),
  (12, .aload_n 0, 13, 0, 0, []),
  (13, .getfield 9, 16, 3, 1, []),
  (16, .bipush 47, 18, 0, 0, []),
  (18, .invokevirtual 18, 21, 18, 2, []),
  (21, .ifCond .ne 16, 24, 37, 0, []),
  (24, .aload_n 0, 25, 0, 0, []),
  (25, .dup, 26, 0, 0, []),
  (26, .getfield 9, 29, 3, 1, []),
  (29, .iconst 1, 30, 0, 0, []),
  (30, .iadd, 31, 0, 0, []),
  (31, .putfield 9, 34, 3, 1, []),
  (34, .goto (-34), 37, 0, 0, []),
  (37, .aload_n 0, 38, 0, 0, []),
  (38, .getfield 9, 41, 3, 1, []),
  (41, .ireturn, 42, 0, 0, [])]
def zc18 : List (Nat × zm_E) := [(0, .aload_n 0, 1, 0, 0, []),
  (1, .getfield 22, 4, 3, 0, []),
  (4, .ifnull 30, 7, 34, 0, []),
  (7, .iload_n 1, 8, 0, 0, []),
  (8, .ifCond .lt 26, 11, 34, 0, []),
  (11, .iload_n 1, 12, 0, 0, []),
  (12, .aload_n 0, 13, 0, 0, []),
  (13, .getfield 22, 16, 3, 0, []),
  (16, .arraylength, 17, 0, 0, []),
  (17, .if_icmp .ge 17, 20, 34, 0, []),
  (20, .aload_n 0, 21, 0, 0, []),
  (21, .getfield 22, 24, 3, 0, []),
  (24, .iload_n 1, 25, 0, 0, []),
  (25, .baload, 26, 0, 0, []),
  (26, .iload_n 2, 27, 0, 0, []),
  (27, .if_icmp .ne 7, 30, 34, 0, []),
  (30, .iconst 1, 31, 0, 0, []),
  (31, .goto 4, 34, 35, 0, []),
  (34, .iconst 0, 35, 0, 0, []),
  (35, .ireturn, 36, 0, 0, [])]
def zc19 : List (Nat × zm_E) := [(0, .aload_n 0, 1, 0, 0, []),
  (1, .invokespecial 3, 4, 1000, 0, []),
  (4, .aload_n 0, 5, 0, 0, []),
  (5, .sipush 1200, 8, 0, 0, []),
  (8, .newarray .byte, 10, 100, 0, []),
  (10, .putfield 9, 13, 4, 0, []),
  (13, .return_, 14, 0, 0, [])]
def zc20 : List (Nat × zm_E) := [(0, .iload_n 1, 1, 0, 0, []),
  (1, .sipush 1200, 4, 0, 0, []),
  (4, .aload_n 0, 5, 0, 0, []),
  (5, .getfield 15, 8, 4, 1, []),
  (8, .isub, 9, 0, 0, []),
  (9, .if_icmp .gt 7, 12, 16, 0, []),
  (12, .iconst 1, 13, 0, 0, []),
  (13, .goto 4, 16, 17, 0, []),
  (16, .iconst 0, 17, 0, 0, []),
  (17, .ireturn, 18, 0, 0, [])]
def zc21 : List (Nat × zm_E) := [(0, .aload_n 0, 1, 0, 0, []),
  (1, .getfield 15, 4, 4, 1, []),
  (4, .ifCond .lt 35, 7, 39, 0, []),
  (7, .aload_n 0, 8, 0, 0, []),
  (8, .getfield 15, 11, 4, 1, []),
  (11, .aload_n 0, 12, 0, 0, []),
  (12, .getfield 9, 15, 4, 0, []),
  (15, .arraylength, 16, 0, 0, []),
  (16, .if_icmp .ge 23, 19, 39, 0, []),
  (19, .aload_n 0, 20, 0, 0, []),
  (20, .getfield 9, 23, 4, 0, []),
  (23, .aload_n 0, 24, 0, 0, []),
  (24, .getfield 15, 27, 4, 1, []),
  (27, .iload_n 1, 28, 0, 0, []),
  (28, .bastore, 29, 0, 0, []),
  (29, .aload_n 0, 30, 0, 0, []),
  (30, .dup, 31, 0, 0, []),
  (31, .getfield 15, 34, 4, 1, []),
  (34, .iconst 1, 35, 0, 0, []),
  (35, .iadd, 36, 0, 0, []),
  (36, .putfield 15, 39, 4, 1, []),
  (39, .return_, 40, 0, 0, [])]
def zc22 : List (Nat × zm_E) := [(0, .aload_n 0, 1, 0, 0, []),
  (1, .getfield 15, 4, 4, 1, []),
  (4, .istore_n 1, 5, 0, 0, []),
  (5, .aload_n 0, 6, 0, 0, []),
  (6, .iconst 0, 7, 0, 0, []),
  (7, .putfield 15, 10, 4, 1, []),
  (10, .iload_n 1, 11, 0, 0, []),
  (11, .ireturn, 12, 0, 0, [])]
def zc23 : List (Nat × zm_E) := [(0, .aload_n 0, 1, 0, 0, []),
  (1, .iconst 0, 2, 0, 0, []),
  (2, .iload_n 1, 3, 0, 0, []),
  (3, .invokevirtual 19, 6, 25, 2, []),
  (6, .ifCond .lt 7, 9, 13, 0, []),
  (9, .iconst 1, 10, 0, 0, []),
  (10, .goto 4, 13, 14, 0, []),
  (13, .iconst 0, 14, 0, 0, []),
  (14, .ireturn, 15, 0, 0, [])]
def zc24 : List (Nat × zm_E) := [(0, .aload_n 0, 1, 0, 0, []),
  (1, .iconst 0, 2, 0, 0, []),
  (2, .iload_n 1, 3, 0, 0, []),
  (3, .invokevirtual 19, 6, 25, 2, []),
  (6, .istore_n 2, 7, 0, 0, []),
  (7, .iload_n 2, 8, 0, 0, []),
  (8, .ifCond .lt 18, 11, 26, 0, []),
  (11, .aload_n 0, 12, 0, 0, []),
  (12, .iload_n 2, 13, 0, 0, []),
  (13, .iconst 1, 14, 0, 0, []),
  (14, .iadd, 15, 0, 0, []),
  (15, .iload_n 1, 16, 0, 0, []),
  (16, .invokevirtual 19, 19, 25, 2, []),
  (19, .ifCond .ge 7, 22, 26, 0, []),
  (22, .iload_n 2, 23, 0, 0, []),
  (23, .goto 4, 26, 27, 0, []),
  (26, .iconst (-1), 27, 0, 0, []),
  (27, .ireturn, 28, 0, 0, [])]
def zc25 : List (Nat × zm_E) := [(0, .iload_n 1, 1, 0, 0, []),
  (1, .istore_n 3, 2, 0, 0, []),
  (2, .iload_n 3, 3, 0, 0, []),
  (3, .ifCond .lt 34, 6, 37, 0, []),
  (6, .iload_n 3, 7, 0, 0, []),
  (7, .iload_n 2, 8, 0, 0, []),
  (8, .if_icmp .ge 29, 11, 37, 0, []),
  (11, .iload_n 3, 12, 0, 0, []),
  (12, .aload_n 0, 13, 0, 0, []),
  (13, .getfield 9, 16, 4, 0, []),
  (16, .arraylength, 17, 0, 0, []),
  (17, .if_icmp .ge 20, 20, 37, 0, []),
  (20, .aload_n 0, 21, 0, 0, []),
  (21, .getfield 9, 24, 4, 0, []),
  (24, .iload_n 3, 25, 0, 0, []),
  (25, .baload, 26, 0, 0, []),
  (26, .ifCond .ne 5, 29, 31, 0, []),
  (29, .iload_n 3, 30, 0, 0, []),
  (30, .ireturn, 31, 0, 0, []),
  (31, .iinc 3 1, 34, 0, 0, []),
  (34, .goto (-32), 37, 2, 0, []),
  (37, .iconst (-1), 38, 0, 0, []),
  (38, .ireturn, 39, 0, 0, [])]
def zc26 : List (Nat × zm_E) := [(0, .aload_n 0, 1, 0, 0, []),
  (1, .invokespecial 3, 4, 1000, 0, []),
  (4, .aload_n 0, 5, 0, 0, []),
  (5, .iload_n 1, 6, 0, 0, []),
  (6, .putfield 9, 9, 5, 0, []),
  (9, .return_, 10, 0, 0, [])]
def zc27 : List (Nat × zm_E) := [(0, .aload_n 0, 1, 0, 0, []),
  (1, .iload_n 1, 2, 0, 0, []),
  (2, .putfield 15, 5, 5, 1, []),
  (5, .aload_n 0, 6, 0, 0, []),
  (6, .iconst 0, 7, 0, 0, []),
  (7, .putfield 18, 10, 5, 2, []),
  (10, .aload_n 0, 11, 0, 0, []),
  (11, .iconst 0, 12, 0, 0, []),
  (12, .putfield 21, 15, 5, 3, []),
  (15, .aload_n 0, 16, 0, 0, []),
  (16, .iconst 0, 17, 0, 0, []),
  (17, .putfield 24, 20, 5, 4, []),
  (20, .aload_n 0, 21, 0, 0, []),
  (21, .iconst 0, 22, 0, 0, []),
  (22, .putfield 27, 25, 5, 5, []),
  (25, .aload_n 0, 26, 0, 0, []),
  (26, .aconst_null, 27, 0, 0, []),
  (27, .putfield 30, 30, 5, 6, []),
  (30, .aload_n 0, 31, 0, 0, []),
  (31, .iconst 0, 32, 0, 0, []),
  (32, .putfield 34, 35, 5, 8, []),
  (35, .return_, 36, 0, 0, [])]
def zc28 : List (Nat × zm_E) := [(0, .aload_n 0, 1, 0, 0, []),
  (1, .getfield 37, 4, 5, 7, []),
  (4, .ifnonnull 12, 7, 16, 0, []),
  (7, .aload_n 0, 8, 0, 0, []),
  (8, .sipush 1000, 11, 0, 0, []),
  (11, .newarray .byte, 13, 100, 0, []),
  (13, .putfield 37, 16, 5, 7, []),
  (16, .aload_n 0, 17, 0, 0, []),
  (17, .aload_n 1, 18, 0, 0, []),
  (18, .iload_n 2, 19, 0, 0, []),
  (19, .iload_n 3, 20, 0, 0, []),
  (20, .aload_n 0, 21, 0, 0, []),
  (21, .getfield 37, 24, 5, 7, []),
  (24, .invokestatic 41, 27, 72, 4, []),
  (27, .putfield 34, 30, 5, 8, []),
  (30, .return_, 31, 0, 0, [])]
def zc29 : List (Nat × zm_E) := [(0, .aload_n 0, 1, 0, 0, []),
  (1, .getfield 15, 4, 5, 1, []),
  (4, .iconst 3, 5, 0, 0, []),
  (5, .if_icmp .ne 31, 8, 36, 0, []),
  (8, .aload_n 0, 9, 0, 0, []),
  (9, .getfield 37, 12, 5, 7, []),
  (12, .ifnull 24, 15, 36, 0, []),
  (15, .iload_n 1, 16, 0, 0, []),
  (16, .ifCond .lt 20, 19, 36, 0, []),
  (19, .iload_n 1, 20, 0, 0, []),
  (20, .aload_n 0, 21, 0, 0, []),
  (21, .getfield 34, 24, 5, 8, []),
  (24, .if_icmp .ge 12, 27, 36, 0, []),
  (27, .iload_n 1, 28, 0, 0, []),
  (28, .aload_n 0, 29, 0, 0, []),
  (29, .getfield 37, 32, 5, 7, []),
  (32, .arraylength, 33, 0, 0, []),
  (33, .if_icmp .lt 5, 36, 38, 0, []),
  (36, .iconst (-1), 37, 0, 0, []),
  (37, .ireturn, 38, 0, 0, []),
  (38, .aload_n 0, 39, 0, 0, []),
  (39, .getfield 37, 42, 5, 7, []),
  (42, .iload_n 1, 43, 0, 0, []),
  (43, .baload, 44, 0, 0, []),
  (44, .sipush 255, 47, 0, 0, []),
  (47, .iand, 48, 0, 0, []),
  (48, .ireturn, 49, 0, 0, [])]
def zc30 : List (Nat × zm_E) := [(0, .aload_n 0, 1, 0, 0, []),
  (1, .getfield 15, 4, 5, 1, []),
  (4, .tableswitch 46 1 3 #[28, 30, 38], 32, 50, 0, [(1, 32), (2, 34), (3, 42)]),
  (32, .iconst 1, 33, 0, 0, []),
  (33, .ireturn, 34, 0, 0, []),
  (34, .aload_n 0, 35, 0, 0, []),
  (35, .getfield 27, 38, 5, 5, []),
  (38, .invokestatic 45, 41, 71, 1, []),
  (41, .ireturn, 42, 0, 0, []),
  (42, .aload_n 0, 43, 0, 0, []),
  (43, .getfield 34, 46, 5, 8, []),
  (46, .invokestatic 49, 49, 70, 1, []),
  (49, .ireturn, 50, 0, 0, []),
  (50, .iconst 0, 51, 0, 0, []),
  (51, .ireturn, 52, 0, 0, [])]
def zc31 : List (Nat × zm_E) := [(0, .aload_n 0, 1, 0, 0, []),
  (1, .getfield 27, 4, 5, 5, []),
  (4, .aload_n 0, 5, 0, 0, []),
  (5, .getfield 24, 8, 5, 4, []),
  (8, .iconst 1, 9, 0, 0, []),
  (9, .iadd, 10, 0, 0, []),
  (10, .invokestatic 52, 13, 1001, 0, []),
  (13, .invokestatic 45, 16, 71, 1, []),
  (16, .aload_n 0, 17, 0, 0, []),
  (17, .getfield 27, 20, 5, 5, []),
  (20, .invokestatic 45, 23, 71, 1, []),
  (23, .isub, 24, 0, 0, []),
  (24, .ireturn, 25, 0, 0, [])]
def zc32 : List (Nat × zm_E) := [(0, .aload_n 0, 1, 0, 0, []),
  (1, .getfield 15, 4, 5, 1, []),
  (4, .tableswitch 43 1 3 #[28, 33, 38], 32, 47, 0, [(1, 32), (2, 37), (3, 42)]),
  (32, .aload_n 0, 33, 0, 0, []),
  (33, .getfield 21, 36, 5, 3, []),
  (36, .ireturn, 37, 0, 0, []),
  (37, .aload_n 0, 38, 0, 0, []),
  (38, .getfield 24, 41, 5, 4, []),
  (41, .ireturn, 42, 0, 0, []),
  (42, .aload_n 0, 43, 0, 0, []),
  (43, .getfield 34, 46, 5, 8, []),
  (46, .ireturn, 47, 0, 0, []),
  (47, .iconst 0, 48, 0, 0, []),
  (48, .ireturn, 49, 0, 0, [])]
def zc33 : List (Nat × zm_E) := [(0, .aload_n 0, 1, 0, 0, []),
  (1, .getfield 18, 4, 5, 2, []),
  (4, .ifCond .ne 15, 7, 19, 0, []),
  (7, .aload_n 0, 8, 0, 0, []),
  (8, .getfield 21, 11, 5, 3, []),
  (11, .ifCond .ne 8, 14, 19, 0, []),
  (14, .aload_n 0, 15, 0, 0, []),
  (15, .iconst 0, 16, 0, 0, []),
  (16, .invokevirtual 58, 19, 27, 1, []),
  (19, .return_, 20, 0, 0, [])]
def zc34 : List (Nat × zm_E) := [(0, .aload_n 0, 1, 0, 0, []),
  (1, .invokespecial 3, 4, 1000, 0, []),
  (4, .aload_n 0, 5, 0, 0, []),
  (5, .bipush 41, 7, 0, 0, []),
  (7, .anewarray 9, 10, 203, 0, []),
  (10, .putfield 11, 13, 6, 2, []),
  (13, .aload_n 0, 14, 0, 0, []),
  (14, .aload_n 1, 15, 0, 0, []),
  (15, .putfield 17, 18, 6, 0, []),
  (18, .aload_n 0, 19, 0, 0, []),
  (19, .aload_n 2, 20, 0, 0, []),
  (20, .putfield 21, 23, 6, 1, []),
  (23, .iconst 0, 24, 0, 0, []),
  (24, .istore_n 3, 25, 0, 0, []),
  (25, .iload_n 3, 26, 0, 0, []),
  (26, .aload_n 0, 27, 0, 0, []),
  (27, .getfield 11, 30, 6, 2, []),
  (30, .arraylength, 31, 0, 0, []),
  (31, .if_icmp .ge 22, 34, 53, 0, []),
  (34, .aload_n 0, 35, 0, 0, []),
  (35, .getfield 11, 38, 6, 2, []),
  (38, .iload_n 3, 39, 0, 0, []),
  (39, .new 9, 42, 3, 3, []),
  (42, .dup, 43, 0, 0, []),
  (43, .invokespecial 25, 46, 15, 0, []),
  (46, .aastore, 47, 0, 0, []),
  (47, .iinc 3 1, 50, 0, 0, []),
  (50, .goto (-25), 53, 25, 0, []),
  (53, .return_, 54, 0, 0, [])]
def zc35 : List (Nat × zm_E) := [(0, .aload_n 0, 1, 0, 0, []),
  (1, .aload_n 1, 2, 0, 0, []),
  (2, .iload_n 2, 3, 0, 0, []),
  (3, .iload_n 3, 4, 0, 0, []),
  (4, .iconst 0, 5, 0, 0, []),
  (5, .invokevirtual 26, 8, 36, 4, []),
  (8, .istore 4, 10, 0, 0, []),
  (10, .iload 4, 12, 0, 0, []),
  (12, .ifCond .eq 6, 15, 18, 0, []),
  (15, .iload 4, 17, 0, 0, []),
  (17, .ireturn, 18, 0, 0, []),
  (18, .aload_n 0, 19, 0, 0, []),
  (19, .getfield 30, 22, 6, 7, []),
  (22, .ifCond .eq 10, 25, 32, 0, []),
  (25, .aload_n 0, 26, 0, 0, []),
  (26, .invokevirtual 34, 29, 44, 0, []),
  (29, .ifCond .eq 7, 32, 36, 0, []),
  (32, .iconst (-1), 33, 0, 0, []),
  (33, .goto 4, 36, 37, 0, []),
  (36, .iconst 0, 37, 0, 0, []),
  (37, .ireturn, 38, 0, 0, [])]
def zc36 : List (Nat × zm_E) := [(0, .aload_n 0, 1, 0, 0, []),
  (1, .invokevirtual 38, 4, 37, 0, []),
  (4, .aload_n 0, 5, 0, 0, []),
  (5, .aload_n 1, 6, 0, 0, []),
  (6, .iload_n 2, 7, 0, 0, []),
  (7, .iload_n 3, 8, 0, 0, []),
  (8, .invokevirtual 41, 11, 38, 3, []),
  (11, .iconst 0, 12, 0, 0, []),
  (12, .istore 5, 14, 0, 0, []),
  (14, .iload 5, 16, 0, 0, []),
  (16, .ldc 45, 18, 0, 0, [(1000000, 0)]),
  (18, .if_icmp .ge 48, 21, 66, 0, []),
  (21, .aload_n 0, 22, 0, 0, []),
  (22, .invokevirtual 46, 25, 39, 0, []),
  (25, .ifCond .eq 41, 28, 66, 0, []),
  (28, .aload_n 0, 29, 0, 0, []),
  (29, .invokevirtual 49, 32, 41, 0, []),
  (32, .aload_n 0, 33, 0, 0, []),
  (33, .aload_n 0, 34, 0, 0, []),
  (34, .invokevirtual 46, 37, 39, 0, []),
  (37, .ifCond .ne 7, 40, 44, 0, []),
  (40, .iconst 1, 41, 0, 0, []),
  (41, .goto 4, 44, 45, 0, []),
  (44, .iconst 0, 45, 0, 0, []),
  (45, .iload 4, 47, 0, 0, []),
  (47, .invokevirtual 52, 50, 42, 2, []),
  (50, .istore 6, 52, 0, 0, []),
  (52, .iload 6, 54, 0, 0, []),
  (54, .ifCond .eq 6, 57, 60, 0, []),
  (57, .iload 6, 59, 0, 0, []),
  (59, .ireturn, 60, 0, 0, []),
  (60, .iinc 5 1, 63, 0, 0, []),
  (63, .goto (-49), 66, 14, 0, []),
  (66, .iconst 0, 67, 0, 0, []),
  (67, .ireturn, 68, 0, 0, [])]
def zc37 : List (Nat × zm_E) := [(0, .aload_n 0, 1, 0, 0, []),
  (1, .iconst 0, 2, 0, 0, []),
  (2, .putfield 56, 5, 6, 3, []),
  (5, .aload_n 0, 6, 0, 0, []),
  (6, .iconst 0, 7, 0, 0, []),
  (7, .putfield 59, 10, 6, 4, []),
  (10, .aload_n 0, 11, 0, 0, []),
  (11, .aconst_null, 12, 0, 0, []),
  (12, .putfield 62, 15, 6, 5, []),
  (15, .aload_n 0, 16, 0, 0, []),
  (16, .iconst 0, 17, 0, 0, []),
  (17, .putfield 66, 20, 6, 6, []),
  (20, .aload_n 0, 21, 0, 0, []),
  (21, .iconst 0, 22, 0, 0, []),
  (22, .putfield 30, 25, 6, 7, []),
  (25, .aload_n 0, 26, 0, 0, []),
  (26, .aload_n 0, 27, 0, 0, []),
  (27, .getfield 17, 30, 6, 0, []),
  (30, .putfield 69, 33, 6, 8, []),
  (33, .aload_n 0, 34, 0, 0, []),
  (34, .aconst_null, 35, 0, 0, []),
  (35, .putfield 72, 38, 6, 9, []),
  (38, .aload_n 0, 39, 0, 0, []),
  (39, .aload_n 0, 40, 0, 0, []),
  (40, .getfield 17, 43, 6, 0, []),
  (43, .putfield 76, 46, 6, 10, []),
  (46, .return_, 47, 0, 0, [])]
def zc38 : List (Nat × zm_E) := [(0, .aload_n 0, 1, 0, 0, []),
  (1, .getfield 56, 4, 6, 3, []),
  (4, .ifCond .lt 27, 7, 31, 0, []),
  (7, .aload_n 0, 8, 0, 0, []),
  (8, .getfield 56, 11, 6, 3, []),
  (11, .aload_n 0, 12, 0, 0, []),
  (12, .getfield 11, 15, 6, 2, []),
  (15, .arraylength, 16, 0, 0, []),
  (16, .if_icmp .ge 15, 19, 31, 0, []),
  (19, .aload_n 0, 20, 0, 0, []),
  (20, .getfield 11, 23, 6, 2, []),
  (23, .aload_n 0, 24, 0, 0, []),
  (24, .getfield 56, 27, 6, 3, []),
  (27, .aaload, 28, 0, 0, []),
  (28, .ifnonnull 4, 31, 32, 0, []),
  (31, .return_, 32, 0, 0, []),
  (32, .aload_n 0, 33, 0, 0, []),
  (33, .getfield 11, 36, 6, 2, []),
  (36, .aload_n 0, 37, 0, 0, []),
  (37, .getfield 56, 40, 6, 3, []),
  (40, .aaload, 41, 0, 0, []),
  (41, .astore 4, 43, 0, 0, []),
  (43, .aload 4, 45, 0, 0, []),
  (45, .aload_n 1, 46, 0, 0, []),
  (46, .putfield 79, 49, 3, 0, []),
  (49, .aload 4, 51, 0, 0, []),
  (51, .iload_n 2, 52, 0, 0, []),
  (52, .putfield 82, 55, 3, 1, []),
  (55, .aload 4, 57, 0, 0, []),
  (57, .iload_n 3, 58, 0, 0, []),
  (58, .putfield 85, 61, 3, 2, []),
  (61, .aload_n 0, 62, 0, 0, []),
  (62, .dup, 63, 0, 0, []),
  (63, .getfield 56, 66, 6, 3, []),
  (66, .iconst 1, 67, 0, 0, []),
  (67, .iadd, 68, 0, 0, []),
  (68, .putfield 56, 71, 6, 3, []),
  (71, .return_, 72, 0, 0, [])]
def zc39 : List (Nat × zm_E) := [(0, .aload_n 0, 1, 0, 0, []),
  (1, .getfield 56, 4, 6, 3, []),
  (4, .ifCond .le 34, 7, 38, 0, []),
  (7, .aload_n 0, 8, 0, 0, []),
  (8, .invokevirtual 88, 11, 40, 0, []),
  (11, .astore_n 1, 12, 0, 0, []),
  (12, .aload_n 1, 13, 0, 0, []),
  (13, .ifnull 12, 16, 25, 0, []),
  (16, .aload_n 1, 17, 0, 0, []),
  (17, .invokevirtual 92, 20, 16, 0, []),
  (20, .ifCond .eq 5, 23, 25, 0, []),
  (23, .iconst 1, 24, 0, 0, []),
  (24, .ireturn, 25, 0, 0, []),
  (25, .aload_n 0, 26, 0, 0, []),
  (26, .dup, 27, 0, 0, []),
  (27, .getfield 56, 30, 6, 3, []),
  (30, .iconst 1, 31, 0, 0, []),
  (31, .isub, 32, 0, 0, []),
  (32, .putfield 56, 35, 6, 3, []),
  (35, .goto (-35), 38, 0, 0, []),
  (38, .iconst 0, 39, 0, 0, []),
  (39, .ireturn, 40, 0, 0, [])]
def zc40 : List (Nat × zm_E) := [(0, .aload_n 0, 1, 0, 0, []),
  (1, .getfield 56, 4, 6, 3, []),
  (4, .ifCond .le 29, 7, 33, 0, []),
  (7, .aload_n 0, 8, 0, 0, []),
  (8, .getfield 56, 11, 6, 3, []),
  (11, .aload_n 0, 12, 0, 0, []),
  (12, .getfield 11, 15, 6, 2, []),
  (15, .arraylength, 16, 0, 0, []),
  (16, .if_icmp .gt 17, 19, 33, 0, []),
  (19, .aload_n 0, 20, 0, 0, []),
  (20, .getfield 11, 23, 6, 2, []),
  (23, .aload_n 0, 24, 0, 0, []),
  (24, .getfield 56, 27, 6, 3, []),
  (27, .iconst 1, 28, 0, 0, []),
  (28, .isub, 29, 0, 0, []),
  (29, .aaload, 30, 0, 0, []),
  (30, .goto 4, 33, 34, 0, []),
  (33, .aconst_null, 34, 0, 0, []),
  (34, .areturn, 35, 0, 0, [])]
def zc41 : List (Nat × zm_E) := [(0, .aload_n 0, 1, 0, 0, []),
  (1, .invokevirtual 88, 4, 40, 0, []),
  (4, .astore_n 1, 5, 0, 0, []),
  (5, .aload_n 1, 6, 0, 0, []),
  (6, .ifnull 32, 9, 38, 0, []),
  (9, .aload_n 0, 10, 0, 0, []),
  (10, .aload_n 1, 11, 0, 0, []),
  (11, .getfield 79, 14, 3, 0, []),
  (14, .putfield 62, 17, 6, 5, []),
  (17, .aload_n 0, 18, 0, 0, []),
  (18, .aload_n 1, 19, 0, 0, []),
  (19, .getfield 82, 22, 3, 1, []),
  (22, .putfield 66, 25, 6, 6, []),
  (25, .aload_n 0, 26, 0, 0, []),
  (26, .aload_n 1, 27, 0, 0, []),
  (27, .invokevirtual 95, 30, 17, 0, []),
  (30, .aload_n 0, 31, 0, 0, []),
  (31, .getfield 66, 34, 6, 6, []),
  (34, .isub, 35, 0, 0, []),
  (35, .putfield 30, 38, 6, 7, []),
  (38, .return_, 39, 0, 0, [])]
def zc42 : List (Nat × zm_E) := [(0, .aload_n 0, 1, 0, 0, []),
  (1, .getfield 30, 4, 6, 7, []),
  (4, .sipush 255, 7, 0, 0, []),
  (7, .if_icmp .le 6, 10, 13, 0, []),
  (10, .bipush (-9), 12, 0, 0, []),
  (12, .ireturn, 13, 0, 0, []),
  (13, .aload_n 0, 14, 0, 0, []),
  (14, .getfield 76, 17, 6, 10, []),
  (17, .ifnull 14, 20, 31, 0, []),
  (20, .aload_n 0, 21, 0, 0, []),
  (21, .getfield 76, 24, 6, 10, []),
  (24, .getfield 99, 27, 5, 1, []),
  (27, .iconst 2, 28, 0, 0, []),
  (28, .if_icmp .eq 6, 31, 34, 0, []),
  (31, .bipush (-4), 33, 0, 0, []),
  (33, .ireturn, 34, 0, 0, []),
  (34, .aload_n 0, 35, 0, 0, []),
  (35, .aload_n 0, 36, 0, 0, []),
  (36, .getfield 76, 39, 6, 10, []),
  (39, .putfield 69, 42, 6, 8, []),
  (42, .aload_n 0, 43, 0, 0, []),
  (43, .invokevirtual 34, 46, 44, 0, []),
  (46, .ifCond .eq 21, 49, 67, 0, []),
  (49, .aload_n 0, 50, 0, 0, []),
  (50, .aconst_null, 51, 0, 0, []),
  (51, .putfield 72, 54, 6, 9, []),
  (54, .aload_n 0, 55, 0, 0, []),
  (55, .aload_n 0, 56, 0, 0, []),
  (56, .getfield 69, 59, 6, 8, []),
  (59, .getfield 104, 62, 5, 6, []),
  (62, .putfield 76, 65, 6, 10, []),
  (65, .iconst 0, 66, 0, 0, []),
  (66, .ireturn, 67, 0, 0, []),
  (67, .aload_n 0, 68, 0, 0, []),
  (68, .aload_n 0, 69, 0, 0, []),
  (69, .getfield 21, 72, 6, 1, []),
  (72, .aload_n 0, 73, 0, 0, []),
  (73, .getfield 69, 76, 6, 8, []),
  (76, .aload_n 0, 77, 0, 0, []),
  (77, .getfield 62, 80, 6, 5, []),
  (80, .aload_n 0, 81, 0, 0, []),
  (81, .getfield 66, 84, 6, 6, []),
  (84, .aload_n 0, 85, 0, 0, []),
  (85, .getfield 30, 88, 6, 7, []),
  (88, .invokevirtual 107, 91, 11, 4, []),
  (91, .putfield 72, 94, 6, 9, []),
  (94, .aload_n 0, 95, 0, 0, []),
  (95, .getfield 72, 98, 6, 9, []),
  (98, .ifnonnull 19, 101, 117, 0, []),
  (101, .aload_n 0, 102, 0, 0, []),
  (102, .aconst_null, 103, 0, 0, []),
  (103, .putfield 76, 106, 6, 10, []),
  (106, .iload_n 1, 107, 0, 0, []),
  (107, .ifCond .eq 7, 110, 114, 0, []),
  (110, .iconst 0, 111, 0, 0, []),
  (111, .goto 5, 114, 116, 0, []),
  (114, .bipush (-2), 116, 0, 0, []),
  (116, .ireturn, 117, 0, 0, []),
  (117, .aload_n 0, 118, 0, 0, []),
  (118, .aload_n 0, 119, 0, 0, []),
  (119, .getfield 72, 122, 6, 9, []),
  (122, .getfield 113, 125, 1, 1, []),
  (125, .putfield 76, 128, 6, 10, []),
  (128, .aload_n 0, 129, 0, 0, []),
  (129, .getfield 76, 132, 6, 10, []),
  (132, .ifnull 26, 135, 158, 0, []),
  (135, .aload_n 0, 136, 0, 0, []),
  (136, .getfield 76, 139, 6, 10, []),
  (139, .getfield 99, 142, 5, 1, []),
  (142, .iconst 3, 143, 0, 0, []),
  (143, .if_icmp .ne 15, 146, 158, 0, []),
  (146, .iload_n 2, 147, 0, 0, []),
  (147, .ifCond .ne 7, 150, 154, 0, []),
  (150, .iload_n 1, 151, 0, 0, []),
  (151, .ifCond .ne 7, 154, 158, 0, []),
  (154, .iconst 1, 155, 0, 0, []),
  (155, .goto 4, 158, 159, 0, []),
  (158, .iconst 0, 159, 0, 0, []),
  (159, .istore_n 3, 160, 0, 0, []),
  (160, .iload_n 3, 161, 0, 0, []),
  (161, .ifCond .eq 14, 164, 175, 0, []),
  (164, .aload_n 0, 165, 0, 0, []),
  (165, .aload_n 0, 166, 0, 0, []),
  (166, .getfield 76, 169, 6, 10, []),
  (169, .invokevirtual 118, 172, 43, 1, []),
  (172, .goto 4, 175, 176, 0, []),
  (175, .iconst 0, 176, 0, 0, []),
  (176, .ireturn, 177, 0, 0, [])]
def zc43 : List (Nat × zm_E) := [(0, .aload_n 0, 1, 0, 0, []),
  (1, .getfield 59, 4, 6, 4, []),
  (4, .bipush 40, 6, 0, 0, []),
  (6, .if_icmp .lt 6, 9, 12, 0, []),
  (9, .bipush (-8), 11, 0, 0, []),
  (11, .ireturn, 12, 0, 0, []),
  (12, .aload_n 0, 13, 0, 0, []),
  (13, .dup, 14, 0, 0, []),
  (14, .getfield 59, 17, 6, 4, []),
  (17, .iconst 1, 18, 0, 0, []),
  (18, .iadd, 19, 0, 0, []),
  (19, .putfield 59, 22, 6, 4, []),
  (22, .aload_n 0, 23, 0, 0, []),
  (23, .aload_n 1, 24, 0, 0, []),
  (24, .getfield 122, 27, 5, 7, []),
  (27, .iconst 0, 28, 0, 0, []),
  (28, .aload_n 1, 29, 0, 0, []),
  (29, .getfield 125, 32, 5, 8, []),
  (32, .invokevirtual 41, 35, 38, 3, []),
  (35, .aload_n 0, 36, 0, 0, []),
  (36, .aload_n 1, 37, 0, 0, []),
  (37, .iconst 0, 38, 0, 0, []),
  (38, .invokevirtual 128, 41, 29, 1, []),
  (41, .bipush 47, 43, 0, 0, []),
  (43, .if_icmp .ne 10, 46, 53, 0, []),
  (46, .aload_n 0, 47, 0, 0, []),
  (47, .getfield 17, 50, 6, 0, []),
  (50, .goto 7, 53, 57, 0, []),
  (53, .aload_n 0, 54, 0, 0, []),
  (54, .getfield 69, 57, 6, 8, []),
  (57, .putfield 76, 60, 6, 10, []),
  (60, .iconst 0, 61, 0, 0, []),
  (61, .ireturn, 62, 0, 0, [])]
def zc44 : List (Nat × zm_E) := [(0, .aload_n 0, 1, 0, 0, []),
  (1, .getfield 30, 4, 6, 7, []),
  (4, .iconst 2, 5, 0, 0, []),
  (5, .if_icmp .ne 65, 8, 70, 0, []),
  (8, .aload_n 0, 9, 0, 0, []),
  (9, .getfield 62, 12, 6, 5, []),
  (12, .ifnull 58, 15, 70, 0, []),
  (15, .aload_n 0, 16, 0, 0, []),
  (16, .getfield 66, 19, 6, 6, []),
  (19, .ifCond .lt 51, 22, 70, 0, []),
  (22, .aload_n 0, 23, 0, 0, []),
  (23, .getfield 66, 26, 6, 6, []),
  (26, .aload_n 0, 27, 0, 0, []),
  (27, .getfield 62, 30, 6, 5, []),
  (30, .arraylength, 31, 0, 0, []),
  (31, .iconst 1, 32, 0, 0, []),
  (32, .isub, 33, 0, 0, []),
  (33, .if_icmp .ge 37, 36, 70, 0, []),
  (36, .aload_n 0, 37, 0, 0, []),
  (37, .getfield 62, 40, 6, 5, []),
  (40, .aload_n 0, 41, 0, 0, []),
  (41, .getfield 66, 44, 6, 6, []),
  (44, .baload, 45, 0, 0, []),
  (45, .bipush 46, 47, 0, 0, []),
  (47, .if_icmp .ne 23, 50, 70, 0, []),
  (50, .aload_n 0, 51, 0, 0, []),
  (51, .getfield 62, 54, 6, 5, []),
  (54, .aload_n 0, 55, 0, 0, []),
  (55, .getfield 66, 58, 6, 6, []),
  (58, .iconst 1, 59, 0, 0, []),
  (59, .iadd, 60, 0, 0, []),
  (60, .baload, 61, 0, 0, []),
  (61, .bipush 46, 63, 0, 0, []),
  (63, .if_icmp .ne 7, 66, 70, 0, []),
  (66, .iconst 1, 67, 0, 0, []),
  (67, .goto 4, 70, 71, 0, []),
  (70, .iconst 0, 71, 0, 0, []),
  (71, .ireturn, 72, 0, 0, [])]
def zc45 : List (Nat × zm_E) := [(0, .aload_n 0, 1, 0, 0, []),
  (1, .invokespecial 1, 4, 1000, 0, []),
  (4, .aload_n 0, 5, 0, 0, []),
  (5, .new 7, 8, 4, 2, []),
  (8, .dup, 9, 0, 0, []),
  (9, .invokespecial 9, 12, 19, 0, []),
  (12, .putfield 10, 15, 7, 0, []),
  (15, .aload_n 0, 16, 0, 0, []),
  (16, .new 16, 19, 0, 2, []),
  (19, .dup, 20, 0, 0, []),
  (20, .invokespecial 18, 23, 1, 0, []),
  (23, .putfield 19, 26, 7, 1, []),
  (26, .aload_n 0, 27, 0, 0, []),
  (27, .new 23, 30, 2, 2, []),
  (30, .dup, 31, 0, 0, []),
  (31, .invokespecial 25, 34, 10, 0, []),
  (34, .putfield 26, 37, 7, 2, []),
  (37, .aload_n 0, 38, 0, 0, []),
  (38, .new 30, 41, 6, 11, []),
  (41, .dup, 42, 0, 0, []),
  (42, .aload_n 0, 43, 0, 0, []),
  (43, .getfield 19, 46, 7, 1, []),
  (46, .getfield 32, 49, 0, 1, []),
  (49, .aload_n 0, 50, 0, 0, []),
  (50, .getfield 26, 53, 7, 2, []),
  (53, .invokespecial 36, 56, 34, 2, []),
  (56, .putfield 39, 59, 7, 3, []),
  (59, .aload_n 0, 60, 0, 0, []),
  (60, .new 30, 63, 6, 11, []),
  (63, .dup, 64, 0, 0, []),
  (64, .aload_n 0, 65, 0, 0, []),
  (65, .getfield 19, 68, 7, 1, []),
  (68, .getfield 32, 71, 0, 1, []),
  (71, .aload_n 0, 72, 0, 0, []),
  (72, .getfield 26, 75, 7, 2, []),
  (75, .invokespecial 36, 78, 34, 2, []),
  (78, .putfield 43, 81, 7, 4, []),
  (81, .aload_n 0, 82, 0, 0, []),
  (82, .bipush 40, 84, 0, 0, []),
  (84, .putfield 46, 87, 7, 5, []),
  (87, .return_, 88, 0, 0, [])]
def zc46 : List (Nat × zm_E) := [(0, .iload_n 3, 1, 0, 0, []),
  (1, .iconst 1, 2, 0, 0, []),
  (2, .if_icmp .lt 20, 5, 22, 0, []),
  (5, .iload_n 3, 6, 0, 0, []),
  (6, .bipush 8, 8, 0, 0, []),
  (8, .if_icmp .gt 14, 11, 22, 0, []),
  (11, .aload_n 0, 12, 0, 0, []),
  (12, .getfield 10, 15, 7, 0, []),
  (15, .iload_n 3, 16, 0, 0, []),
  (16, .invokevirtual 50, 19, 20, 1, []),
  (19, .ifCond .ne 5, 22, 24, 0, []),
  (22, .iconst (-1), 23, 0, 0, []),
  (23, .ireturn, 24, 0, 0, []),
  (24, .iload_n 3, 25, 0, 0, []),
  (25, .iconst 1, 26, 0, 0, []),
  (26, .isub, 27, 0, 0, []),
  (27, .istore 4, 29, 0, 0, []),
  (29, .iload 4, 31, 0, 0, []),
  (31, .ifCond .lt 25, 34, 56, 0, []),
  (34, .aload_n 0, 35, 0, 0, []),
  (35, .getfield 10, 38, 7, 0, []),
  (38, .lload_n 1, 39, 0, 0, []),
  (39, .bipush 8, 41, 0, 0, []),
  (41, .iload 4, 43, 0, 0, []),
  (43, .imul, 44, 0, 0, []),
  (44, .lushr, 45, 0, 0, []),
  (45, .l2i, 46, 0, 0, []),
  (46, .i2b, 47, 0, 0, []),
  (47, .invokevirtual 54, 50, 21, 1, []),
  (50, .iinc 4 (-1), 53, 0, 0, []),
  (53, .goto (-24), 56, 29, 0, []),
  (56, .aload_n 0, 57, 0, 0, []),
  (57, .getfield 10, 60, 7, 0, []),
  (60, .getfield 58, 63, 4, 1, []),
  (63, .ireturn, 64, 0, 0, [])]
def zc47 : List (Nat × zm_E) := [(0, .iload_n 1, 1, 0, 0, []),
  (1, .ifCond .lt 33, 4, 34, 0, []),
  (4, .iload_n 1, 5, 0, 0, []),
  (5, .sipush 255, 8, 0, 0, []),
  (8, .if_icmp .gt 26, 11, 34, 0, []),
  (11, .iload_n 2, 12, 0, 0, []),
  (12, .iconst 1, 13, 0, 0, []),
  (13, .if_icmp .lt 21, 16, 34, 0, []),
  (16, .iload_n 2, 17, 0, 0, []),
  (17, .sipush 1200, 20, 0, 0, []),
  (20, .if_icmp .gt 14, 23, 34, 0, []),
  (23, .aload_n 0, 24, 0, 0, []),
  (24, .getfield 10, 27, 7, 0, []),
  (27, .iload_n 2, 28, 0, 0, []),
  (28, .invokevirtual 50, 31, 20, 1, []),
  (31, .ifCond .ne 5, 34, 36, 0, []),
  (34, .iconst (-1), 35, 0, 0, []),
  (35, .ireturn, 36, 0, 0, []),
  (36, .iconst 0, 37, 0, 0, []),
  (37, .istore_n 3, 38, 0, 0, []),
  (38, .iload_n 3, 39, 0, 0, []),
  (39, .iload_n 2, 40, 0, 0, []),
  (40, .if_icmp .ge 18, 43, 58, 0, []),
  (43, .aload_n 0, 44, 0, 0, []),
  (44, .getfield 10, 47, 7, 0, []),
  (47, .iload_n 1, 48, 0, 0, []),
  (48, .i2b, 49, 0, 0, []),
  (49, .invokevirtual 54, 52, 21, 1, []),
  (52, .iinc 3 1, 55, 0, 0, []),
  (55, .goto (-17), 58, 38, 0, []),
  (58, .aload_n 0, 59, 0, 0, []),
  (59, .getfield 10, 62, 7, 0, []),
  (62, .getfield 58, 65, 4, 1, []),
  (65, .ireturn, 66, 0, 0, [])]
def zc48 : List (Nat × zm_E) := [(0, .aload_n 0, 1, 0, 0, []),
  (1, .getfield 19, 4, 7, 1, []),
  (4, .invokevirtual 61, 7, 5, 0, []),
  (7, .istore_n 2, 8, 0, 0, []),
  (8, .iload_n 1, 9, 0, 0, []),
  (9, .sipush 200, 12, 0, 0, []),
  (12, .if_icmp .gt 8, 15, 20, 0, []),
  (15, .iload_n 1, 16, 0, 0, []),
  (16, .iload_n 2, 17, 0, 0, []),
  (17, .if_icmp .ge 5, 20, 22, 0, []),
  (20, .iconst (-1), 21, 0, 0, []),
  (21, .ireturn, 22, 0, 0, []),
  (22, .aload_n 0, 23, 0, 0, []),
  (23, .iload_n 1, 24, 0, 0, []),
  (24, .putfield 46, 27, 7, 5, []),
  (27, .iload_n 1, 28, 0, 0, []),
  (28, .iload_n 2, 29, 0, 0, []),
  (29, .isub, 30, 0, 0, []),
  (30, .ireturn, 31, 0, 0, [])]
def zc49 : List (Nat × zm_E) := [(0, .aload_n 0, 1, 0, 0, []),
  (1, .invokevirtual 65, 4, 62, 0, []),
  (4, .istore_n 2, 5, 0, 0, []),
  (5, .iload_n 1, 6, 0, 0, []),
  (6, .iconst 1, 7, 0, 0, []),
  (7, .if_icmp .eq 10, 10, 17, 0, []),
  (10, .iload_n 1, 11, 0, 0, []),
  (11, .iconst 2, 12, 0, 0, []),
  (12, .if_icmp .eq 5, 15, 17, 0, []),
  (15, .iconst (-1), 16, 0, 0, []),
  (16, .ireturn, 17, 0, 0, []),
  (17, .iload_n 2, 18, 0, 0, []),
  (18, .ifCond .eq 5, 21, 23, 0, []),
  (21, .iload_n 2, 22, 0, 0, []),
  (22, .ireturn, 23, 0, 0, []),
  (23, .aload_n 0, 24, 0, 0, []),
  (24, .getfield 39, 27, 7, 3, []),
  (27, .getfield 68, 30, 6, 10, []),
  (30, .ifnull 6, 33, 36, 0, []),
  (33, .bipush (-3), 35, 0, 0, []),
  (35, .ireturn, 36, 0, 0, []),
  (36, .aload_n 0, 37, 0, 0, []),
  (37, .getfield 19, 40, 7, 1, []),
  (40, .invokevirtual 71, 43, 3, 0, []),
  (43, .astore_n 3, 44, 0, 0, []),
  (44, .aload_n 3, 45, 0, 0, []),
  (45, .ifnull 18, 48, 63, 0, []),
  (48, .aload_n 0, 49, 0, 0, []),
  (49, .aload_n 0, 50, 0, 0, []),
  (50, .getfield 39, 53, 7, 3, []),
  (53, .getfield 75, 56, 6, 8, []),
  (56, .iconst 1, 57, 0, 0, []),
  (57, .invokevirtual 78, 60, 64, 2, []),
  (60, .ifCond .eq 6, 63, 66, 0, []),
  (63, .bipush (-7), 65, 0, 0, []),
  (65, .ireturn, 66, 0, 0, []),
  (66, .aload_n 3, 67, 0, 0, []),
  (67, .iload_n 1, 68, 0, 0, []),
  (68, .invokevirtual 82, 71, 27, 1, []),
  (71, .aload_n 0, 72, 0, 0, []),
  (72, .getfield 26, 75, 7, 2, []),
  (75, .aload_n 3, 76, 0, 0, []),
  (76, .aload_n 0, 77, 0, 0, []),
  (77, .getfield 39, 80, 7, 3, []),
  (80, .invokevirtual 88, 83, 12, 2, []),
  (83, .aload_n 3, 84, 0, 0, []),
  (84, .getfield 92, 87, 5, 0, []),
  (87, .ireturn, 88, 0, 0, [])]
def zc50 : List (Nat × zm_E) := [(0, .aload_n 0, 1, 0, 0, []),
  (1, .iconst 0, 2, 0, 0, []),
  (2, .invokevirtual 95, 5, 63, 1, []),
  (5, .istore_n 1, 6, 0, 0, []),
  (6, .iload_n 1, 7, 0, 0, []),
  (7, .ifCond .eq 5, 10, 12, 0, []),
  (10, .iload_n 1, 11, 0, 0, []),
  (11, .ireturn, 12, 0, 0, []),
  (12, .aload_n 0, 13, 0, 0, []),
  (13, .getfield 39, 16, 7, 3, []),
  (16, .getfield 68, 19, 6, 10, []),
  (19, .astore_n 2, 20, 0, 0, []),
  (20, .aload_n 2, 21, 0, 0, []),
  (21, .ifnonnull 6, 24, 27, 0, []),
  (24, .bipush (-2), 26, 0, 0, []),
  (26, .ireturn, 27, 0, 0, []),
  (27, .aload_n 2, 28, 0, 0, []),
  (28, .getfield 99, 31, 5, 1, []),
  (31, .iconst 2, 32, 0, 0, []),
  (32, .if_icmp .ne 6, 35, 38, 0, []),
  (35, .bipush (-5), 37, 0, 0, []),
  (37, .ireturn, 38, 0, 0, []),
  (38, .aload_n 0, 39, 0, 0, []),
  (39, .getfield 43, 42, 7, 4, []),
  (42, .getfield 68, 45, 6, 10, []),
  (45, .ifnull 6, 48, 51, 0, []),
  (48, .bipush (-3), 50, 0, 0, []),
  (50, .ireturn, 51, 0, 0, []),
  (51, .aload_n 0, 52, 0, 0, []),
  (52, .aload_n 0, 53, 0, 0, []),
  (53, .getfield 43, 56, 7, 4, []),
  (56, .getfield 75, 59, 6, 8, []),
  (59, .iconst 0, 60, 0, 0, []),
  (60, .invokevirtual 78, 63, 64, 2, []),
  (63, .ifCond .eq 6, 66, 69, 0, []),
  (66, .bipush (-7), 68, 0, 0, []),
  (68, .ireturn, 69, 0, 0, []),
  (69, .aload_n 0, 70, 0, 0, []),
  (70, .getfield 26, 73, 7, 2, []),
  (73, .aload_n 2, 74, 0, 0, []),
  (74, .aload_n 0, 75, 0, 0, []),
  (75, .getfield 43, 78, 7, 4, []),
  (78, .invokevirtual 88, 81, 12, 2, []),
  (81, .aload_n 2, 82, 0, 0, []),
  (82, .getfield 92, 85, 5, 0, []),
  (85, .ireturn, 86, 0, 0, [])]
def zc51 : List (Nat × zm_E) := [(0, .aload_n 0, 1, 0, 0, []),
  (1, .getfield 10, 4, 7, 0, []),
  (4, .invokevirtual 102, 7, 22, 0, []),
  (7, .istore_n 1, 8, 0, 0, []),
  (8, .aload_n 0, 9, 0, 0, []),
  (9, .getfield 10, 12, 7, 0, []),
  (12, .iload_n 1, 13, 0, 0, []),
  (13, .invokevirtual 105, 16, 24, 1, []),
  (16, .istore_n 2, 17, 0, 0, []),
  (17, .iload_n 1, 18, 0, 0, []),
  (18, .iload_n 2, 19, 0, 0, []),
  (19, .isub, 20, 0, 0, []),
  (20, .iconst 1, 21, 0, 0, []),
  (21, .isub, 22, 0, 0, []),
  (22, .istore_n 3, 23, 0, 0, []),
  (23, .iload_n 2, 24, 0, 0, []),
  (24, .ifCond .lt 15, 27, 39, 0, []),
  (27, .iload_n 3, 28, 0, 0, []),
  (28, .iconst 1, 29, 0, 0, []),
  (29, .if_icmp .lt 10, 32, 39, 0, []),
  (32, .iload_n 3, 33, 0, 0, []),
  (33, .sipush 1000, 36, 0, 0, []),
  (36, .if_icmp .le 5, 39, 41, 0, []),
  (39, .iconst (-1), 40, 0, 0, []),
  (40, .ireturn, 41, 0, 0, []),
  (41, .aload_n 0, 42, 0, 0, []),
  (42, .getfield 39, 45, 7, 3, []),
  (45, .aload_n 0, 46, 0, 0, []),
  (46, .getfield 10, 49, 7, 0, []),
  (49, .getfield 109, 52, 4, 0, []),
  (52, .iconst 0, 53, 0, 0, []),
  (53, .iload_n 2, 54, 0, 0, []),
  (54, .invokevirtual 113, 57, 35, 3, []),
  (57, .istore 4, 59, 0, 0, []),
  (59, .iload 4, 61, 0, 0, []),
  (61, .ifCond .eq 6, 64, 67, 0, []),
  (64, .iload 4, 66, 0, 0, []),
  (66, .ireturn, 67, 0, 0, []),
  (67, .aload_n 0, 68, 0, 0, []),
  (68, .getfield 39, 71, 7, 3, []),
  (71, .getfield 68, 74, 6, 10, []),
  (74, .ifnull 6, 77, 80, 0, []),
  (77, .bipush (-3), 79, 0, 0, []),
  (79, .ireturn, 80, 0, 0, []),
  (80, .aload_n 0, 81, 0, 0, []),
  (81, .getfield 19, 84, 7, 1, []),
  (84, .invokevirtual 71, 87, 3, 0, []),
  (87, .astore 5, 89, 0, 0, []),
  (89, .aload 5, 91, 0, 0, []),
  (91, .ifnull 21, 94, 112, 0, []),
  (94, .aload_n 0, 95, 0, 0, []),
  (95, .aload_n 0, 96, 0, 0, []),
  (96, .getfield 39, 99, 7, 3, []),
  (99, .getfield 75, 102, 6, 8, []),
  (102, .iload_n 3, 103, 0, 0, []),
  (103, .invokestatic 117, 106, 70, 1, []),
  (106, .invokevirtual 78, 109, 64, 2, []),
  (109, .ifCond .eq 6, 112, 115, 0, []),
  (112, .bipush (-7), 114, 0, 0, []),
  (114, .ireturn, 115, 0, 0, []),
  (115, .aload 5, 117, 0, 0, []),
  (117, .iconst 3, 118, 0, 0, []),
  (118, .invokevirtual 82, 121, 27, 1, []),
  (121, .aload 5, 123, 0, 0, []),
  (123, .aload_n 0, 124, 0, 0, []),
  (124, .getfield 10, 127, 7, 0, []),
  (127, .getfield 109, 130, 4, 0, []),
  (130, .iload_n 2, 131, 0, 0, []),
  (131, .iconst 1, 132, 0, 0, []),
  (132, .iadd, 133, 0, 0, []),
  (133, .iload_n 3, 134, 0, 0, []),
  (134, .invokevirtual 120, 137, 28, 3, []),
  (137, .aload_n 0, 138, 0, 0, []),
  (138, .getfield 26, 141, 7, 2, []),
  (141, .aload 5, 143, 0, 0, []),
  (143, .aload_n 0, 144, 0, 0, []),
  (144, .getfield 39, 147, 7, 3, []),
  (147, .invokevirtual 88, 150, 12, 2, []),
  (150, .aload 5, 152, 0, 0, []),
  (152, .getfield 92, 155, 5, 0, []),
  (155, .ireturn, 156, 0, 0, [])]
def zc52 : List (Nat × zm_E) := [(0, .aload_n 0, 1, 0, 0, []),
  (1, .invokevirtual 65, 4, 62, 0, []),
  (4, .istore_n 1, 5, 0, 0, []),
  (5, .iload_n 1, 6, 0, 0, []),
  (6, .ifCond .eq 5, 9, 11, 0, []),
  (9, .iload_n 1, 10, 0, 0, []),
  (10, .ireturn, 11, 0, 0, []),
  (11, .aload_n 0, 12, 0, 0, []),
  (12, .getfield 39, 15, 7, 3, []),
  (15, .getfield 68, 18, 6, 10, []),
  (18, .astore_n 2, 19, 0, 0, []),
  (19, .aload_n 2, 20, 0, 0, []),
  (20, .ifnonnull 6, 23, 26, 0, []),
  (23, .bipush (-2), 25, 0, 0, []),
  (25, .ireturn, 26, 0, 0, []),
  (26, .aload_n 2, 27, 0, 0, []),
  (27, .getfield 99, 30, 5, 1, []),
  (30, .iconst 2, 31, 0, 0, []),
  (31, .if_icmp .ne 6, 34, 37, 0, []),
  (34, .bipush (-5), 36, 0, 0, []),
  (36, .ireturn, 37, 0, 0, []),
  (37, .aload_n 0, 38, 0, 0, []),
  (38, .aload_n 0, 39, 0, 0, []),
  (39, .getfield 39, 42, 7, 3, []),
  (42, .getfield 124, 45, 6, 9, []),
  (45, .invokevirtual 128, 48, 69, 1, []),
  (48, .aload_n 2, 49, 0, 0, []),
  (49, .getfield 92, 52, 5, 0, []),
  (52, .ireturn, 53, 0, 0, [])]
def zc53 : List (Nat × zm_E) := [(0, .aload_n 0, 1, 0, 0, []),
  (1, .invokevirtual 65, 4, 62, 0, []),
  (4, .istore_n 1, 5, 0, 0, []),
  (5, .iload_n 1, 6, 0, 0, []),
  (6, .ifCond .eq 5, 9, 11, 0, []),
  (9, .iload_n 1, 10, 0, 0, []),
  (10, .ireturn, 11, 0, 0, []),
  (11, .aload_n 0, 12, 0, 0, []),
  (12, .getfield 39, 15, 7, 3, []),
  (15, .getfield 68, 18, 6, 10, []),
  (18, .astore_n 2, 19, 0, 0, []),
  (19, .aload_n 2, 20, 0, 0, []),
  (20, .ifnonnull 6, 23, 26, 0, []),
  (23, .bipush (-2), 25, 0, 0, []),
  (25, .ireturn, 26, 0, 0, []),
  (26, .aload_n 2, 27, 0, 0, []),
  (27, .getfield 99, 30, 5, 1, []),
  (30, .iconst 2, 31, 0, 0, []),
  (31, .if_icmp .eq 6, 34, 37, 0, []),
  (34, .bipush (-4), 36, 0, 0, []),
  (36, .ireturn, 37, 0, 0, []),
  (37, .aload_n 2, 38, 0, 0, []),
  (38, .getfield 132, 41, 5, 4, []),
  (41, .ifCond .le 6, 44, 47, 0, []),
  (44, .bipush (-6), 46, 0, 0, []),
  (46, .ireturn, 47, 0, 0, []),
  (47, .aload_n 0, 48, 0, 0, []),
  (48, .aload_n 0, 49, 0, 0, []),
  (49, .getfield 39, 52, 7, 3, []),
  (52, .getfield 124, 55, 6, 9, []),
  (55, .invokevirtual 128, 58, 69, 1, []),
  (58, .aload_n 2, 59, 0, 0, []),
  (59, .getfield 92, 62, 5, 0, []),
  (62, .ireturn, 63, 0, 0, [])]
def zc54 : List (Nat × zm_E) := [(0, .aload_n 0, 1, 0, 0, []),
  (1, .iconst 1, 2, 0, 0, []),
  (2, .invokevirtual 95, 5, 63, 1, []),
  (5, .istore_n 1, 6, 0, 0, []),
  (6, .iload_n 1, 7, 0, 0, []),
  (7, .ifCond .eq 5, 10, 12, 0, []),
  (10, .iload_n 1, 11, 0, 0, []),
  (11, .ireturn, 12, 0, 0, []),
  (12, .aload_n 0, 13, 0, 0, []),
  (13, .getfield 39, 16, 7, 3, []),
  (16, .getfield 68, 19, 6, 10, []),
  (19, .astore_n 2, 20, 0, 0, []),
  (20, .aload_n 2, 21, 0, 0, []),
  (21, .ifnonnull 6, 24, 27, 0, []),
  (24, .bipush (-2), 26, 0, 0, []),
  (26, .ireturn, 27, 0, 0, []),
  (27, .aload_n 0, 28, 0, 0, []),
  (28, .getfield 43, 31, 7, 4, []),
  (31, .getfield 68, 34, 6, 10, []),
  (34, .astore_n 3, 35, 0, 0, []),
  (35, .aload_n 3, 36, 0, 0, []),
  (36, .aload_n 2, 37, 0, 0, []),
  (37, .if_acmp .ne 8, 40, 45, 0, []),
  (40, .aload_n 2, 41, 0, 0, []),
  (41, .getfield 92, 44, 5, 0, []),
  (44, .ireturn, 45, 0, 0, []),
  (45, .aload_n 2, 46, 0, 0, []),
  (46, .getfield 99, 49, 5, 1, []),
  (49, .iconst 2, 50, 0, 0, []),
  (50, .if_icmp .ne 20, 53, 70, 0, []),
  (53, .aload_n 0, 54, 0, 0, []),
  (54, .getfield 43, 57, 7, 4, []),
  (57, .getfield 75, 60, 6, 8, []),
  (60, .aload_n 2, 61, 0, 0, []),
  (61, .invokestatic 135, 64, 68, 2, []),
  (64, .ifCond .eq 6, 67, 70, 0, []),
  (67, .bipush (-10), 69, 0, 0, []),
  (69, .ireturn, 70, 0, 0, []),
  (70, .aload_n 3, 71, 0, 0, []),
  (71, .ifnonnull 10, 74, 81, 0, []),
  (74, .aload_n 0, 75, 0, 0, []),
  (75, .invokevirtual 139, 78, 66, 0, []),
  (78, .goto 8, 81, 86, 0, []),
  (81, .aload_n 2, 82, 0, 0, []),
  (82, .aload_n 3, 83, 0, 0, []),
  (83, .invokestatic 142, 86, 67, 2, []),
  (86, .istore_n 1, 87, 0, 0, []),
  (87, .iload_n 1, 88, 0, 0, []),
  (88, .ifCond .eq 5, 91, 93, 0, []),
  (91, .iload_n 1, 92, 0, 0, []),
  (92, .ireturn, 93, 0, 0, []),
  (93, .aload_n 0, 94, 0, 0, []),
  (94, .aload_n 0, 95, 0, 0, []),
  (95, .getfield 43, 98, 7, 4, []),
  (98, .getfield 124, 101, 6, 9, []),
  (101, .invokevirtual 128, 104, 69, 1, []),
  (104, .aload_n 0, 105, 0, 0, []),
  (105, .getfield 26, 108, 7, 2, []),
  (108, .aload_n 0, 109, 0, 0, []),
  (109, .getfield 39, 112, 7, 3, []),
  (112, .getfield 124, 115, 6, 9, []),
  (115, .invokevirtual 146, 118, 13, 1, []),
  (118, .aload_n 0, 119, 0, 0, []),
  (119, .getfield 26, 122, 7, 2, []),
  (122, .aload_n 2, 123, 0, 0, []),
  (123, .aload_n 0, 124, 0, 0, []),
  (124, .getfield 43, 127, 7, 4, []),
  (127, .invokevirtual 88, 130, 12, 2, []),
  (130, .aload_n 2, 131, 0, 0, []),
  (131, .getfield 92, 134, 5, 0, []),
  (134, .ireturn, 135, 0, 0, [])]
def zc55 : List (Nat × zm_E) := [(0, .aload_n 0, 1, 0, 0, []),
  (1, .iload_n 1, 2, 0, 0, []),
  (2, .invokevirtual 149, 5, 61, 1, []),
  (5, .istore_n 2, 6, 0, 0, []),
  (6, .iload_n 2, 7, 0, 0, []),
  (7, .ifCond .eq 5, 10, 12, 0, []),
  (10, .iload_n 2, 11, 0, 0, []),
  (11, .ireturn, 12, 0, 0, []),
  (12, .aload_n 0, 13, 0, 0, []),
  (13, .getfield 39, 16, 7, 3, []),
  (16, .getfield 68, 19, 6, 10, []),
  (19, .ifnonnull 8, 22, 27, 0, []),
  (22, .bipush (-2), 24, 0, 0, []),
  (24, .goto 13, 27, 37, 0, []),
  (27, .aload_n 0, 28, 0, 0, []),
  (28, .getfield 39, 31, 7, 3, []),
  (31, .getfield 68, 34, 6, 10, []),
  (34, .getfield 92, 37, 5, 0, []),
  (37, .ireturn, 38, 0, 0, [])]
def zc56 : List (Nat × zm_E) := [(0, .aload_n 0, 1, 0, 0, []),
  (1, .iconst 1, 2, 0, 0, []),
  (2, .invokevirtual 149, 5, 61, 1, []),
  (5, .istore_n 1, 6, 0, 0, []),
  (6, .iload_n 1, 7, 0, 0, []),
  (7, .ifCond .eq 5, 10, 12, 0, []),
  (10, .iload_n 1, 11, 0, 0, []),
  (11, .ireturn, 12, 0, 0, []),
  (12, .aload_n 0, 13, 0, 0, []),
  (13, .getfield 39, 16, 7, 3, []),
  (16, .getfield 68, 19, 6, 10, []),
  (19, .astore_n 2, 20, 0, 0, []),
  (20, .aload_n 2, 21, 0, 0, []),
  (21, .ifnonnull 6, 24, 27, 0, []),
  (24, .bipush (-2), 26, 0, 0, []),
  (26, .ireturn, 27, 0, 0, []),
  (27, .aload_n 2, 28, 0, 0, []),
  (28, .getfield 99, 31, 5, 1, []),
  (31, .iconst 1, 32, 0, 0, []),
  (32, .if_icmp .ne 12, 35, 44, 0, []),
  (35, .aload_n 2, 36, 0, 0, []),
  (36, .getfield 152, 39, 5, 3, []),
  (39, .bipush 100, 41, 0, 0, []),
  (41, .if_icmp .lt 5, 44, 46, 0, []),
  (44, .iconst (-1), 45, 0, 0, []),
  (45, .ireturn, 46, 0, 0, []),
  (46, .aload_n 2, 47, 0, 0, []),
  (47, .dup, 48, 0, 0, []),
  (48, .getfield 152, 51, 5, 3, []),
  (51, .iconst 1, 52, 0, 0, []),
  (52, .iadd, 53, 0, 0, []),
  (53, .putfield 152, 56, 5, 3, []),
  (56, .aload_n 2, 57, 0, 0, []),
  (57, .getfield 92, 60, 5, 0, []),
  (60, .ireturn, 61, 0, 0, [])]
def zc57 : List (Nat × zm_E) := [(0, .aload_n 0, 1, 0, 0, []),
  (1, .getfield 19, 4, 7, 1, []),
  (4, .iload_n 1, 5, 0, 0, []),
  (5, .invokevirtual 155, 8, 2, 1, []),
  (8, .astore_n 2, 9, 0, 0, []),
  (9, .aload_n 2, 10, 0, 0, []),
  (10, .ifnull 11, 13, 21, 0, []),
  (13, .aload_n 2, 14, 0, 0, []),
  (14, .getfield 152, 17, 5, 3, []),
  (17, .iconst 1, 18, 0, 0, []),
  (18, .if_icmp .ge 5, 21, 23, 0, []),
  (21, .iconst (-1), 22, 0, 0, []),
  (22, .ireturn, 23, 0, 0, []),
  (23, .aload_n 2, 24, 0, 0, []),
  (24, .dup, 25, 0, 0, []),
  (25, .getfield 152, 28, 5, 3, []),
  (28, .iconst 1, 29, 0, 0, []),
  (29, .isub, 30, 0, 0, []),
  (30, .putfield 152, 33, 5, 3, []),
  (33, .aload_n 2, 34, 0, 0, []),
  (34, .getfield 159, 37, 5, 2, []),
  (37, .istore_n 3, 38, 0, 0, []),
  (38, .aload_n 2, 39, 0, 0, []),
  (39, .invokevirtual 161, 42, 33, 0, []),
  (42, .iload_n 3, 43, 0, 0, []),
  (43, .ireturn, 44, 0, 0, [])]
def zc58 : List (Nat × zm_E) := [(0, .aload_n 0, 1, 0, 0, []),
  (1, .getfield 19, 4, 7, 1, []),
  (4, .iload_n 1, 5, 0, 0, []),
  (5, .invokevirtual 155, 8, 2, 1, []),
  (8, .astore_n 3, 9, 0, 0, []),
  (9, .aload_n 3, 10, 0, 0, []),
  (10, .ifnonnull 5, 13, 15, 0, []),
  (13, .iconst (-1), 14, 0, 0, []),
  (14, .ireturn, 15, 0, 0, []),
  (15, .iload_n 2, 16, 0, 0, []),
  (16, .tableswitch 96 0 4 #[36, 41, 67, 72, 77], 52, 112, 0, [(0, 52), (1, 57), (2, 83), (3, 88), (4, 93)]),
  (52, .aload_n 3, 53, 0, 0, []),
  (53, .getfield 99, 56, 5, 1, []),
  (56, .ireturn, 57, 0, 0, []),
  (57, .aload_n 3, 58, 0, 0, []),
  (58, .getfield 99, 61, 5, 1, []),
  (61, .iconst 2, 62, 0, 0, []),
  (62, .if_icmp .ne 16, 65, 78, 0, []),
  (65, .iconst 2, 66, 0, 0, []),
  (66, .aload_n 0, 67, 0, 0, []),
  (67, .getfield 19, 70, 7, 1, []),
  (70, .aload_n 3, 71, 0, 0, []),
  (71, .invokevirtual 164, 74, 6, 1, []),
  (74, .iadd, 75, 0, 0, []),
  (75, .goto 7, 78, 82, 0, []),
  (78, .aload_n 3, 79, 0, 0, []),
  (79, .getfield 159, 82, 5, 2, []),
  (82, .ireturn, 83, 0, 0, []),
  (83, .aload_n 3, 84, 0, 0, []),
  (84, .invokevirtual 168, 87, 32, 0, []),
  (87, .ireturn, 88, 0, 0, []),
  (88, .aload_n 3, 89, 0, 0, []),
  (89, .invokevirtual 171, 92, 30, 0, []),
  (92, .ireturn, 93, 0, 0, []),
  (93, .aload_n 3, 94, 0, 0, []),
  (94, .getfield 174, 97, 5, 6, []),
  (97, .ifnonnull 7, 100, 104, 0, []),
  (100, .iconst 0, 101, 0, 0, []),
  (101, .goto 10, 104, 111, 0, []),
  (104, .aload_n 3, 105, 0, 0, []),
  (105, .getfield 174, 108, 5, 6, []),
  (108, .getfield 92, 111, 5, 0, []),
  (111, .ireturn, 112, 0, 0, []),
  (112, .iconst (-1), 113, 0, 0, []),
  (113, .ireturn, 114, 0, 0, [])]
def zc59 : List (Nat × zm_E) := [(0, .aload_n 0, 1, 0, 0, []),
  (1, .getfield 19, 4, 7, 1, []),
  (4, .iload_n 1, 5, 0, 0, []),
  (5, .invokevirtual 155, 8, 2, 1, []),
  (8, .astore_n 3, 9, 0, 0, []),
  (9, .aload_n 3, 10, 0, 0, []),
  (10, .ifnonnull 7, 13, 17, 0, []),
  (13, .iconst (-1), 14, 0, 0, []),
  (14, .goto 8, 17, 22, 0, []),
  (17, .aload_n 3, 18, 0, 0, []),
  (18, .iload_n 2, 19, 0, 0, []),
  (19, .invokevirtual 177, 22, 29, 1, []),
  (22, .ireturn, 23, 0, 0, [])]
def zc60 : List (Nat × zm_E) := [(0, .iload_n 1, 1, 0, 0, []),
  (1, .tableswitch 63 0 3 #[31, 39, 47, 55], 32, 64, 0, [(0, 32), (1, 40), (2, 48), (3, 56)]),
  (32, .aload_n 0, 33, 0, 0, []),
  (33, .getfield 19, 36, 7, 1, []),
  (36, .invokevirtual 180, 39, 4, 0, []),
  (39, .ireturn, 40, 0, 0, []),
  (40, .aload_n 0, 41, 0, 0, []),
  (41, .getfield 26, 44, 7, 2, []),
  (44, .getfield 183, 47, 2, 1, []),
  (47, .ireturn, 48, 0, 0, []),
  (48, .aload_n 0, 49, 0, 0, []),
  (49, .getfield 10, 52, 7, 0, []),
  (52, .getfield 58, 55, 4, 1, []),
  (55, .ireturn, 56, 0, 0, []),
  (56, .aload_n 0, 57, 0, 0, []),
  (57, .getfield 19, 60, 7, 1, []),
  (60, .invokevirtual 61, 63, 5, 0, []),
  (63, .ireturn, 64, 0, 0, []),
  (64, .iconst (-1), 65, 0, 0, []),
  (65, .ireturn, 66, 0, 0, [])]
def zc61 : List (Nat × zm_E) := [(0, .aload_n 0, 1, 0, 0, []),
  (1, .getfield 10, 4, 7, 0, []),
  (4, .invokevirtual 102, 7, 22, 0, []),
  (7, .istore_n 2, 8, 0, 0, []),
  (8, .aload_n 0, 9, 0, 0, []),
  (9, .getfield 10, 12, 7, 0, []),
  (12, .iload_n 2, 13, 0, 0, []),
  (13, .invokevirtual 186, 16, 23, 1, []),
  (16, .ifCond .eq 7, 19, 23, 0, []),
  (19, .iconst (-1), 20, 0, 0, []),
  (20, .goto 20, 23, 40, 0, []),
  (23, .aload_n 0, 24, 0, 0, []),
  (24, .getfield 39, 27, 7, 3, []),
  (27, .aload_n 0, 28, 0, 0, []),
  (28, .getfield 10, 31, 7, 0, []),
  (31, .getfield 109, 34, 4, 0, []),
  (34, .iconst 0, 35, 0, 0, []),
  (35, .iload_n 2, 36, 0, 0, []),
  (36, .iload_n 1, 37, 0, 0, []),
  (37, .invokevirtual 189, 40, 36, 4, []),
  (40, .ireturn, 41, 0, 0, [])]
def zc62 : List (Nat × zm_E) := [(0, .aload_n 0, 1, 0, 0, []),
  (1, .getfield 10, 4, 7, 0, []),
  (4, .invokevirtual 102, 7, 22, 0, []),
  (7, .istore_n 1, 8, 0, 0, []),
  (8, .aload_n 0, 9, 0, 0, []),
  (9, .getfield 10, 12, 7, 0, []),
  (12, .iload_n 1, 13, 0, 0, []),
  (13, .invokevirtual 186, 16, 23, 1, []),
  (16, .ifCond .eq 7, 19, 23, 0, []),
  (19, .iconst (-1), 20, 0, 0, []),
  (20, .goto 19, 23, 39, 0, []),
  (23, .aload_n 0, 24, 0, 0, []),
  (24, .getfield 39, 27, 7, 3, []),
  (27, .aload_n 0, 28, 0, 0, []),
  (28, .getfield 10, 31, 7, 0, []),
  (31, .getfield 109, 34, 4, 0, []),
  (34, .iconst 0, 35, 0, 0, []),
  (35, .iload_n 1, 36, 0, 0, []),
  (36, .invokevirtual 113, 39, 35, 3, []),
  (39, .ireturn, 40, 0, 0, [])]
def zc63 : List (Nat × zm_E) := [(0, .aload_n 0, 1, 0, 0, []),
  (1, .getfield 10, 4, 7, 0, []),
  (4, .invokevirtual 102, 7, 22, 0, []),
  (7, .istore_n 2, 8, 0, 0, []),
  (8, .aload_n 0, 9, 0, 0, []),
  (9, .getfield 10, 12, 7, 0, []),
  (12, .iload_n 2, 13, 0, 0, []),
  (13, .invokevirtual 105, 16, 24, 1, []),
  (16, .istore_n 3, 17, 0, 0, []),
  (17, .iload_n 3, 18, 0, 0, []),
  (18, .ifCond .ge 5, 21, 23, 0, []),
  (21, .iconst (-1), 22, 0, 0, []),
  (22, .ireturn, 23, 0, 0, []),
  (23, .iload_n 1, 24, 0, 0, []),
  (24, .ifCond .eq 22, 27, 46, 0, []),
  (27, .aload_n 0, 28, 0, 0, []),
  (28, .getfield 39, 31, 7, 3, []),
  (31, .aload_n 0, 32, 0, 0, []),
  (32, .getfield 10, 35, 7, 0, []),
  (35, .getfield 109, 38, 4, 0, []),
  (38, .iconst 0, 39, 0, 0, []),
  (39, .iload_n 3, 40, 0, 0, []),
  (40, .invokevirtual 113, 43, 35, 3, []),
  (43, .goto 20, 46, 63, 0, []),
  (46, .aload_n 0, 47, 0, 0, []),
  (47, .getfield 39, 50, 7, 3, []),
  (50, .aload_n 0, 51, 0, 0, []),
  (51, .getfield 10, 54, 7, 0, []),
  (54, .getfield 109, 57, 4, 0, []),
  (57, .iconst 0, 58, 0, 0, []),
  (58, .iload_n 3, 59, 0, 0, []),
  (59, .iconst 0, 60, 0, 0, []),
  (60, .invokevirtual 189, 63, 36, 4, []),
  (63, .istore 4, 65, 0, 0, []),
  (65, .iload 4, 67, 0, 0, []),
  (67, .ifCond .eq 8, 70, 75, 0, []),
  (70, .iload 4, 72, 0, 0, []),
  (72, .goto 21, 75, 93, 0, []),
  (75, .aload_n 0, 76, 0, 0, []),
  (76, .getfield 43, 79, 7, 4, []),
  (79, .aload_n 0, 80, 0, 0, []),
  (80, .getfield 10, 83, 7, 0, []),
  (83, .getfield 109, 86, 4, 0, []),
  (86, .iload_n 3, 87, 0, 0, []),
  (87, .iconst 1, 88, 0, 0, []),
  (88, .iadd, 89, 0, 0, []),
  (89, .iload_n 2, 90, 0, 0, []),
  (90, .invokevirtual 113, 93, 35, 3, []),
  (93, .ireturn, 94, 0, 0, [])]
def zc64 : List (Nat × zm_E) := [(0, .aload_n 0, 1, 0, 0, []),
  (1, .getfield 26, 4, 7, 2, []),
  (4, .getfield 183, 7, 2, 1, []),
  (7, .bipush 60, 9, 0, 0, []),
  (9, .if_icmp .ge 12, 12, 21, 0, []),
  (12, .aload_n 0, 13, 0, 0, []),
  (13, .aload_n 1, 14, 0, 0, []),
  (14, .iload_n 2, 15, 0, 0, []),
  (15, .invokevirtual 193, 18, 65, 2, []),
  (18, .ifCond .eq 7, 21, 25, 0, []),
  (21, .iconst 1, 22, 0, 0, []),
  (22, .goto 4, 25, 26, 0, []),
  (25, .iconst 0, 26, 0, 0, []),
  (26, .ireturn, 27, 0, 0, [])]
def zc65 : List (Nat × zm_E) := [(0, .aload_n 1, 1, 0, 0, []),
  (1, .ifnonnull 7, 4, 8, 0, []),
  (4, .iconst 0, 5, 0, 0, []),
  (5, .goto 7, 8, 12, 0, []),
  (8, .aload_n 1, 9, 0, 0, []),
  (9, .invokevirtual 196, 12, 31, 0, []),
  (12, .istore_n 3, 13, 0, 0, []),
  (13, .aload_n 0, 14, 0, 0, []),
  (14, .getfield 19, 17, 7, 1, []),
  (17, .invokevirtual 61, 20, 5, 0, []),
  (20, .iload_n 2, 21, 0, 0, []),
  (21, .iadd, 22, 0, 0, []),
  (22, .iload_n 3, 23, 0, 0, []),
  (23, .iadd, 24, 0, 0, []),
  (24, .aload_n 0, 25, 0, 0, []),
  (25, .getfield 46, 28, 7, 5, []),
  (28, .if_icmp .le 7, 31, 35, 0, []),
  (31, .iconst 1, 32, 0, 0, []),
  (32, .goto 4, 35, 36, 0, []),
  (35, .iconst 0, 36, 0, 0, []),
  (36, .ireturn, 37, 0, 0, [])]
def zc66 : List (Nat × zm_E) := [(0, .aload_n 0, 1, 0, 0, []),
  (1, .getfield 39, 4, 7, 3, []),
  (4, .getfield 75, 7, 6, 8, []),
  (7, .aload_n 0, 8, 0, 0, []),
  (8, .getfield 43, 11, 7, 4, []),
  (11, .getfield 75, 14, 6, 8, []),
  (14, .if_acmp .ne 7, 17, 21, 0, []),
  (17, .iconst 1, 18, 0, 0, []),
  (18, .goto 4, 21, 22, 0, []),
  (21, .iconst 0, 22, 0, 0, []),
  (22, .istore_n 1, 23, 0, 0, []),
  (23, .iload_n 1, 24, 0, 0, []),
  (24, .ifCond .ne 23, 27, 47, 0, []),
  (27, .aload_n 0, 28, 0, 0, []),
  (28, .aload_n 0, 29, 0, 0, []),
  (29, .getfield 43, 32, 7, 4, []),
  (32, .getfield 75, 35, 6, 8, []),
  (35, .iconst 0, 36, 0, 0, []),
  (36, .invokevirtual 193, 39, 65, 2, []),
  (39, .ifCond .eq 8, 42, 47, 0, []),
  (42, .bipush (-7), 44, 0, 0, []),
  (44, .goto 4, 47, 48, 0, []),
  (47, .iconst 0, 48, 0, 0, []),
  (48, .ireturn, 49, 0, 0, [])]
def zc67 : List (Nat × zm_E) := [(0, .aload_n 0, 1, 0, 0, []),
  (1, .getfield 99, 4, 5, 1, []),
  (4, .iconst 2, 5, 0, 0, []),
  (5, .if_icmp .ne 14, 8, 19, 0, []),
  (8, .aload_n 1, 9, 0, 0, []),
  (9, .getfield 99, 12, 5, 1, []),
  (12, .iconst 2, 13, 0, 0, []),
  (13, .if_icmp .eq 6, 16, 19, 0, []),
  (16, .bipush (-4), 18, 0, 0, []),
  (18, .ireturn, 19, 0, 0, []),
  (19, .aload_n 0, 20, 0, 0, []),
  (20, .getfield 99, 23, 5, 1, []),
  (23, .iconst 2, 24, 0, 0, []),
  (24, .if_icmp .eq 14, 27, 38, 0, []),
  (27, .aload_n 1, 28, 0, 0, []),
  (28, .getfield 99, 31, 5, 1, []),
  (31, .iconst 2, 32, 0, 0, []),
  (32, .if_icmp .ne 6, 35, 38, 0, []),
  (35, .bipush (-5), 37, 0, 0, []),
  (37, .ireturn, 38, 0, 0, []),
  (38, .aload_n 1, 39, 0, 0, []),
  (39, .getfield 132, 42, 5, 4, []),
  (42, .ifCond .le 8, 45, 50, 0, []),
  (45, .bipush (-6), 47, 0, 0, []),
  (47, .goto 4, 50, 51, 0, []),
  (50, .iconst 0, 51, 0, 0, []),
  (51, .ireturn, 52, 0, 0, [])]
def zc68 : List (Nat × zm_E) := [(0, .aload_n 0, 1, 0, 0, []),
  (1, .astore_n 2, 2, 0, 0, []),
  (2, .iconst 0, 3, 0, 0, []),
  (3, .istore_n 3, 4, 0, 0, []),
  (4, .iload_n 3, 5, 0, 0, []),
  (5, .bipush 40, 7, 0, 0, []),
  (7, .if_icmp .ge 25, 10, 32, 0, []),
  (10, .aload_n 2, 11, 0, 0, []),
  (11, .ifnull 21, 14, 32, 0, []),
  (14, .aload_n 2, 15, 0, 0, []),
  (15, .aload_n 1, 16, 0, 0, []),
  (16, .if_acmp .ne 5, 19, 21, 0, []),
  (19, .iconst 1, 20, 0, 0, []),
  (20, .ireturn, 21, 0, 0, []),
  (21, .aload_n 2, 22, 0, 0, []),
  (22, .getfield 174, 25, 5, 6, []),
  (25, .astore_n 2, 26, 0, 0, []),
  (26, .iinc 3 1, 29, 0, 0, []),
  (29, .goto (-25), 32, 4, 0, []),
  (32, .iconst 0, 33, 0, 0, []),
  (33, .ireturn, 34, 0, 0, [])]
def zc69 : List (Nat × zm_E) := [(0, .aload_n 1, 1, 0, 0, []),
  (1, .ifnonnull 4, 4, 5, 0, []),
  (4, .return_, 5, 0, 0, []),
  (5, .aload_n 1, 6, 0, 0, []),
  (6, .getfield 199, 9, 1, 1, []),
  (9, .astore_n 2, 10, 0, 0, []),
  (10, .aload_n 0, 11, 0, 0, []),
  (11, .getfield 26, 14, 7, 2, []),
  (14, .aload_n 1, 15, 0, 0, []),
  (15, .invokevirtual 146, 18, 13, 1, []),
  (18, .aload_n 2, 19, 0, 0, []),
  (19, .ifnull 7, 22, 26, 0, []),
  (22, .aload_n 2, 23, 0, 0, []),
  (23, .invokevirtual 161, 26, 33, 0, []),
  (26, .return_, 27, 0, 0, [])]
def zc70 : List (Nat × zm_E) := [(0, .iload_n 0, 1, 0, 0, []),
  (1, .bipush 59, 3, 0, 0, []),
  (3, .if_icmp .le 7, 6, 10, 0, []),
  (6, .iconst 1, 7, 0, 0, []),
  (7, .goto 4, 10, 11, 0, []),
  (10, .iconst 0, 11, 0, 0, []),
  (11, .ireturn, 12, 0, 0, [])]
def zc71 : List (Nat × zm_E) := [(0, .iload_n 0, 1, 0, 0, []),
  (1, .iconst 3, 2, 0, 0, []),
  (2, .if_icmp .le 7, 5, 9, 0, []),
  (5, .iload_n 0, 6, 0, 0, []),
  (6, .goto 4, 9, 10, 0, []),
  (9, .iconst 1, 10, 0, 0, []),
  (10, .ireturn, 11, 0, 0, [])]
def zc72 : List (Nat × zm_E) := [(0, .aload_n 0, 1, 0, 0, []),
  (1, .ifnull 21, 4, 22, 0, []),
  (4, .aload_n 3, 5, 0, 0, []),
  (5, .ifnull 17, 8, 22, 0, []),
  (8, .iload_n 1, 9, 0, 0, []),
  (9, .ifCond .lt 13, 12, 22, 0, []),
  (12, .iload_n 1, 13, 0, 0, []),
  (13, .aload_n 0, 14, 0, 0, []),
  (14, .arraylength, 15, 0, 0, []),
  (15, .if_icmp .gt 7, 18, 22, 0, []),
  (18, .iload_n 2, 19, 0, 0, []),
  (19, .ifCond .ge 5, 22, 24, 0, []),
  (22, .iconst 0, 23, 0, 0, []),
  (23, .ireturn, 24, 0, 0, []),
  (24, .iload_n 2, 25, 0, 0, []),
  (25, .aload_n 0, 26, 0, 0, []),
  (26, .arraylength, 27, 0, 0, []),
  (27, .iload_n 1, 28, 0, 0, []),
  (28, .isub, 29, 0, 0, []),
  (29, .aload_n 3, 30, 0, 0, []),
  (30, .arraylength, 31, 0, 0, []),
  (31, .invokestatic 204, 34, 1002, 0, []),
  (34, .invokestatic 204, 37, 1002, 0, []),
  (37, .istore 4, 39, 0, 0, []),
  (39, .aload_n 0, 40, 0, 0, []),
  (40, .iload_n 1, 41, 0, 0, []),
  (41, .aload_n 3, 42, 0, 0, []),
  (42, .iconst 0, 43, 0, 0, []),
  (43, .iload 4, 45, 0, 0, []),
  (45, .invokestatic 210, 48, 1003, 0, []),
  (48, .iload 4, 50, 0, 0, []),
  (50, .ireturn, 51, 0, 0, [])]
def zc73 : List (Nat × zm_E) := [(0, .aload_n 0, 1, 0, 0, []),
  (1, .invokespecial 1, 4, 1000, 0, []),
  (4, .aload_n 0, 5, 0, 0, []),
  (5, .bipush 40, 7, 0, 0, []),
  (7, .putfield 7, 10, 8, 0, []),
  (10, .aload_n 0, 11, 0, 0, []),
  (11, .sipush 1200, 14, 0, 0, []),
  (14, .newarray .int, 16, 101, 0, []),
  (16, .putfield 13, 19, 8, 2, []),
  (19, .aload_n 0, 20, 0, 0, []),
  (20, .sipush 1200, 23, 0, 0, []),
  (23, .newarray .int, 25, 101, 0, []),
  (25, .putfield 17, 28, 8, 4, []),
  (28, .aload_n 0, 29, 0, 0, []),
  (29, .bipush 41, 31, 0, 0, []),
  (31, .newarray .int, 33, 101, 0, []),
  (33, .putfield 20, 36, 8, 5, []),
  (36, .aload_n 0, 37, 0, 0, []),
  (37, .bipush 41, 39, 0, 0, []),
  (39, .newarray .int, 41, 101, 0, []),
  (41, .putfield 23, 44, 8, 6, []),
  (44, .aload_n 0, 45, 0, 0, []),
  (45, .bipush 41, 47, 0, 0, []),
  (47, .newarray .int, 49, 101, 0, []),
  (49, .putfield 26, 52, 8, 7, []),
  (52, .aload_n 0, 53, 0, 0, []),
  (53, .bipush 41, 55, 0, 0, []),
  (55, .newarray .int, 57, 101, 0, []),
  (57, .putfield 29, 60, 8, 8, []),
  (60, .aload_n 0, 61, 0, 0, []),
  (61, .ldc 32, 63, 0, 0, [(41000, 0)]),
  (63, .newarray .byte, 65, 100, 0, []),
  (65, .putfield 33, 68, 8, 9, []),
  (68, .aload_n 0, 69, 0, 0, []),
  (69, .bipush 60, 71, 0, 0, []),
  (71, .newarray .int, 73, 101, 0, []),
  (73, .putfield 37, 76, 8, 11, []),
  (76, .aload_n 0, 77, 0, 0, []),
  (77, .bipush 60, 79, 0, 0, []),
  (79, .newarray .int, 81, 101, 0, []),
  (81, .putfield 40, 84, 8, 12, []),
  (84, .aload_n 0, 85, 0, 0, []),
  (85, .bipush 60, 87, 0, 0, []),
  (87, .newarray .int, 89, 101, 0, []),
  (89, .putfield 43, 92, 8, 13, []),
  (92, .aload_n 0, 93, 0, 0, []),
  (93, .sipush 15300, 96, 0, 0, []),
  (96, .newarray .byte, 98, 100, 0, []),
  (98, .putfield 46, 101, 8, 14, []),
  (101, .aload_n 0, 102, 0, 0, []),
  (102, .ldc 49, 104, 0, 0, [(42000, 0)]),
  (104, .newarray .int, 106, 101, 0, []),
  (106, .putfield 50, 109, 8, 15, []),
  (109, .aload_n 0, 110, 0, 0, []),
  (110, .getfield 20, 113, 8, 5, []),
  (113, .iconst 1, 114, 0, 0, []),
  (114, .iconst 2, 115, 0, 0, []),
  (115, .iastore, 116, 0, 0, []),
  (116, .return_, 117, 0, 0, [])]
def zc74 : List (Nat × zm_E) := [(0, .iload_n 3, 1, 0, 0, []),
  (1, .iconst 1, 2, 0, 0, []),
  (2, .if_icmp .lt 21, 5, 23, 0, []),
  (5, .iload_n 3, 6, 0, 0, []),
  (6, .bipush 8, 8, 0, 0, []),
  (8, .if_icmp .gt 15, 11, 23, 0, []),
  (11, .aload_n 0, 12, 0, 0, []),
  (12, .getfield 53, 15, 8, 1, []),
  (15, .iload_n 3, 16, 0, 0, []),
  (16, .iadd, 17, 0, 0, []),
  (17, .sipush 1200, 20, 0, 0, []),
  (20, .if_icmp .le 5, 23, 25, 0, []),
  (23, .iconst (-1), 24, 0, 0, []),
  (24, .ireturn, 25, 0, 0, []),
  (25, .iload_n 3, 26, 0, 0, []),
  (26, .iconst 1, 27, 0, 0, []),
  (27, .isub, 28, 0, 0, []),
  (28, .istore 4, 30, 0, 0, []),
  (30, .iload 4, 32, 0, 0, []),
  (32, .ifCond .lt 40, 35, 72, 0, []),
  (35, .aload_n 0, 36, 0, 0, []),
  (36, .getfield 13, 39, 8, 2, []),
  (39, .aload_n 0, 40, 0, 0, []),
  (40, .getfield 53, 43, 8, 1, []),
  (43, .lload_n 1, 44, 0, 0, []),
  (44, .bipush 8, 46, 0, 0, []),
  (46, .iload 4, 48, 0, 0, []),
  (48, .imul, 49, 0, 0, []),
  (49, .lshr, 50, 0, 0, []),
  (50, .ldc2_w 56, 53, 0, 0, [(255, 0)]),
  (53, .land, 54, 0, 0, []),
  (54, .l2i, 55, 0, 0, []),
  (55, .iastore, 56, 0, 0, []),
  (56, .aload_n 0, 57, 0, 0, []),
  (57, .dup, 58, 0, 0, []),
  (58, .getfield 53, 61, 8, 1, []),
  (61, .iconst 1, 62, 0, 0, []),
  (62, .iadd, 63, 0, 0, []),
  (63, .putfield 53, 66, 8, 1, []),
  (66, .iinc 4 (-1), 69, 0, 0, []),
  (69, .goto (-39), 72, 30, 0, []),
  (72, .aload_n 0, 73, 0, 0, []),
  (73, .getfield 53, 76, 8, 1, []),
  (76, .ireturn, 77, 0, 0, [])]
def zc75 : List (Nat × zm_E) := [(0, .iload_n 1, 1, 0, 0, []),
  (1, .ifCond .lt 34, 4, 35, 0, []),
  (4, .iload_n 1, 5, 0, 0, []),
  (5, .sipush 255, 8, 0, 0, []),
  (8, .if_icmp .gt 27, 11, 35, 0, []),
  (11, .iload_n 2, 12, 0, 0, []),
  (12, .iconst 1, 13, 0, 0, []),
  (13, .if_icmp .lt 22, 16, 35, 0, []),
  (16, .iload_n 2, 17, 0, 0, []),
  (17, .sipush 1200, 20, 0, 0, []),
  (20, .if_icmp .gt 15, 23, 35, 0, []),
  (23, .aload_n 0, 24, 0, 0, []),
  (24, .getfield 53, 27, 8, 1, []),
  (27, .iload_n 2, 28, 0, 0, []),
  (28, .iadd, 29, 0, 0, []),
  (29, .sipush 1200, 32, 0, 0, []),
  (32, .if_icmp .le 5, 35, 37, 0, []),
  (35, .iconst (-1), 36, 0, 0, []),
  (36, .ireturn, 37, 0, 0, []),
  (37, .iconst 0, 38, 0, 0, []),
  (38, .istore_n 3, 39, 0, 0, []),
  (39, .iload_n 3, 40, 0, 0, []),
  (40, .iload_n 2, 41, 0, 0, []),
  (41, .if_icmp .ge 21, 44, 62, 0, []),
  (44, .aload_n 0, 45, 0, 0, []),
  (45, .getfield 13, 48, 8, 2, []),
  (48, .aload_n 0, 49, 0, 0, []),
  (49, .getfield 53, 52, 8, 1, []),
  (52, .iload_n 3, 53, 0, 0, []),
  (53, .iadd, 54, 0, 0, []),
  (54, .iload_n 1, 55, 0, 0, []),
  (55, .iastore, 56, 0, 0, []),
  (56, .iinc 3 1, 59, 0, 0, []),
  (59, .goto (-20), 62, 39, 0, []),
  (62, .aload_n 0, 63, 0, 0, []),
  (63, .dup, 64, 0, 0, []),
  (64, .getfield 53, 67, 8, 1, []),
  (67, .iload_n 2, 68, 0, 0, []),
  (68, .iadd, 69, 0, 0, []),
  (69, .putfield 53, 72, 8, 1, []),
  (72, .aload_n 0, 73, 0, 0, []),
  (73, .getfield 53, 76, 8, 1, []),
  (76, .ireturn, 77, 0, 0, [])]
def zc76 : List (Nat × zm_E) := [(0, .aload_n 0, 1, 0, 0, []),
  (1, .aload_n 0, 2, 0, 0, []),
  (2, .getfield 53, 5, 8, 1, []),
  (5, .putfield 58, 8, 8, 3, []),
  (8, .aload_n 0, 9, 0, 0, []),
  (9, .iconst 0, 10, 0, 0, []),
  (10, .putfield 53, 13, 8, 1, []),
  (13, .iconst (-1), 14, 0, 0, []),
  (14, .istore_n 1, 15, 0, 0, []),
  (15, .iconst 0, 16, 0, 0, []),
  (16, .istore_n 2, 17, 0, 0, []),
  (17, .iload_n 2, 18, 0, 0, []),
  (18, .aload_n 0, 19, 0, 0, []),
  (19, .getfield 58, 22, 8, 3, []),
  (22, .if_icmp .ge 42, 25, 64, 0, []),
  (25, .aload_n 0, 26, 0, 0, []),
  (26, .getfield 17, 29, 8, 4, []),
  (29, .iload_n 2, 30, 0, 0, []),
  (30, .aload_n 0, 31, 0, 0, []),
  (31, .getfield 13, 34, 8, 2, []),
  (34, .iload_n 2, 35, 0, 0, []),
  (35, .iaload, 36, 0, 0, []),
  (36, .iastore, 37, 0, 0, []),
  (37, .aload_n 0, 38, 0, 0, []),
  (38, .getfield 17, 41, 8, 4, []),
  (41, .iload_n 2, 42, 0, 0, []),
  (42, .iaload, 43, 0, 0, []),
  (43, .ifCond .ne 15, 46, 58, 0, []),
  (46, .iload_n 1, 47, 0, 0, []),
  (47, .iconst (-1), 48, 0, 0, []),
  (48, .if_icmp .ne 7, 51, 55, 0, []),
  (51, .iload_n 2, 52, 0, 0, []),
  (52, .goto 5, 55, 57, 0, []),
  (55, .bipush (-2), 57, 0, 0, []),
  (57, .istore_n 1, 58, 0, 0, []),
  (58, .iinc 2 1, 61, 0, 0, []),
  (61, .goto (-44), 64, 17, 0, []),
  (64, .iconst 0, 65, 0, 0, []),
  (65, .istore_n 2, 66, 0, 0, []),
  (66, .iconst 0, 67, 0, 0, []),
  (67, .istore_n 3, 68, 0, 0, []),
  (68, .iload_n 3, 69, 0, 0, []),
  (69, .aload_n 0, 70, 0, 0, []),
  (70, .getfield 58, 73, 8, 3, []),
  (73, .if_icmp .ge 26, 76, 99, 0, []),
  (76, .iload_n 2, 77, 0, 0, []),
  (77, .aload_n 0, 78, 0, 0, []),
  (78, .getfield 17, 81, 8, 4, []),
  (81, .iload_n 3, 82, 0, 0, []),
  (82, .iaload, 83, 0, 0, []),
  (83, .ifCond .ne 7, 86, 90, 0, []),
  (86, .iconst 1, 87, 0, 0, []),
  (87, .goto 4, 90, 91, 0, []),
  (90, .iconst 0, 91, 0, 0, []),
  (91, .iadd, 92, 0, 0, []),
  (92, .istore_n 2, 93, 0, 0, []),
  (93, .iinc 3 1, 96, 0, 0, []),
  (96, .goto (-28), 99, 68, 0, []),
  (99, .iload_n 2, 100, 0, 0, []),
  (100, .iconst 1, 101, 0, 0, []),
  (101, .if_icmp .le 8, 104, 109, 0, []),
  (104, .bipush (-2), 106, 0, 0, []),
  (106, .goto 4, 109, 110, 0, []),
  (109, .iload_n 1, 110, 0, 0, []),
  (110, .ireturn, 111, 0, 0, [])]
def zc77 : List (Nat × zm_E) := [(0, .iload_n 0, 1, 0, 0, []),
  (1, .iconst 3, 2, 0, 0, []),
  (2, .if_icmp .le 7, 5, 9, 0, []),
  (5, .iload_n 0, 6, 0, 0, []),
  (6, .goto 4, 9, 10, 0, []),
  (9, .iconst 1, 10, 0, 0, []),
  (10, .ireturn, 11, 0, 0, [])]
def zc78 : List (Nat × zm_E) := [(0, .aload_n 0, 1, 0, 0, []),
  (1, .getfield 20, 4, 8, 5, []),
  (4, .iload_n 1, 5, 0, 0, []),
  (5, .iaload, 6, 0, 0, []),
  (6, .ifCond .ne 5, 9, 11, 0, []),
  (9, .iconst 0, 10, 0, 0, []),
  (10, .ireturn, 11, 0, 0, []),
  (11, .aload_n 0, 12, 0, 0, []),
  (12, .getfield 20, 15, 8, 5, []),
  (15, .iload_n 1, 16, 0, 0, []),
  (16, .iaload, 17, 0, 0, []),
  (17, .iconst 1, 18, 0, 0, []),
  (18, .if_icmp .ne 7, 21, 25, 0, []),
  (21, .iconst 1, 22, 0, 0, []),
  (22, .goto 41, 25, 63, 0, []),
  (25, .aload_n 0, 26, 0, 0, []),
  (26, .getfield 20, 29, 8, 5, []),
  (29, .iload_n 1, 30, 0, 0, []),
  (30, .iaload, 31, 0, 0, []),
  (31, .iconst 3, 32, 0, 0, []),
  (32, .if_icmp .ne 22, 35, 54, 0, []),
  (35, .aload_n 0, 36, 0, 0, []),
  (36, .getfield 29, 39, 8, 8, []),
  (39, .iload_n 1, 40, 0, 0, []),
  (40, .iaload, 41, 0, 0, []),
  (41, .bipush 59, 43, 0, 0, []),
  (43, .if_icmp .le 7, 46, 50, 0, []),
  (46, .iconst 1, 47, 0, 0, []),
  (47, .goto 16, 50, 63, 0, []),
  (50, .iconst 0, 51, 0, 0, []),
  (51, .goto 12, 54, 63, 0, []),
  (54, .aload_n 0, 55, 0, 0, []),
  (55, .getfield 23, 58, 8, 6, []),
  (58, .iload_n 1, 59, 0, 0, []),
  (59, .iaload, 60, 0, 0, []),
  (60, .invokestatic 61, 63, 77, 1, []),
  (63, .ireturn, 64, 0, 0, [])]
def zc79 : List (Nat × zm_E) := [(0, .iconst 0, 1, 0, 0, []),
  (1, .istore_n 1, 2, 0, 0, []),
  (2, .iconst 1, 3, 0, 0, []),
  (3, .istore_n 2, 4, 0, 0, []),
  (4, .iload_n 2, 5, 0, 0, []),
  (5, .bipush 40, 7, 0, 0, []),
  (7, .if_icmp .gt 17, 10, 24, 0, []),
  (10, .iload_n 1, 11, 0, 0, []),
  (11, .aload_n 0, 12, 0, 0, []),
  (12, .iload_n 2, 13, 0, 0, []),
  (13, .invokevirtual 65, 16, 78, 1, []),
  (16, .iadd, 17, 0, 0, []),
  (17, .istore_n 1, 18, 0, 0, []),
  (18, .iinc 2 1, 21, 0, 0, []),
  (21, .goto (-17), 24, 4, 0, []),
  (24, .iload_n 1, 25, 0, 0, []),
  (25, .ireturn, 26, 0, 0, [])]
def zc80 : List (Nat × zm_E) := [(0, .iconst 0, 1, 0, 0, []),
  (1, .istore_n 1, 2, 0, 0, []),
  (2, .iconst 1, 3, 0, 0, []),
  (3, .istore_n 2, 4, 0, 0, []),
  (4, .iload_n 2, 5, 0, 0, []),
  (5, .bipush 40, 7, 0, 0, []),
  (7, .if_icmp .gt 26, 10, 33, 0, []),
  (10, .iload_n 1, 11, 0, 0, []),
  (11, .aload_n 0, 12, 0, 0, []),
  (12, .getfield 20, 15, 8, 5, []),
  (15, .iload_n 2, 16, 0, 0, []),
  (16, .iaload, 17, 0, 0, []),
  (17, .ifCond .le 7, 20, 24, 0, []),
  (20, .iconst 1, 21, 0, 0, []),
  (21, .goto 4, 24, 25, 0, []),
  (24, .iconst 0, 25, 0, 0, []),
  (25, .iadd, 26, 0, 0, []),
  (26, .istore_n 1, 27, 0, 0, []),
  (27, .iinc 2 1, 30, 0, 0, []),
  (30, .goto (-26), 33, 4, 0, []),
  (33, .iload_n 1, 34, 0, 0, []),
  (34, .ireturn, 35, 0, 0, [])]
def zc81 : List (Nat × zm_E) := [(0, .iconst 0, 1, 0, 0, []),
  (1, .istore_n 2, 2, 0, 0, []),
  (2, .iconst 0, 3, 0, 0, []),
  (3, .istore_n 3, 4, 0, 0, []),
  (4, .iload_n 3, 5, 0, 0, []),
  (5, .aload_n 0, 6, 0, 0, []),
  (6, .getfield 68, 9, 8, 10, []),
  (9, .if_icmp .ge 27, 12, 36, 0, []),
  (12, .iload_n 2, 13, 0, 0, []),
  (13, .aload_n 0, 14, 0, 0, []),
  (14, .getfield 40, 17, 8, 12, []),
  (17, .iload_n 3, 18, 0, 0, []),
  (18, .iaload, 19, 0, 0, []),
  (19, .iload_n 1, 20, 0, 0, []),
  (20, .if_icmp .ne 7, 23, 27, 0, []),
  (23, .iconst 1, 24, 0, 0, []),
  (24, .goto 4, 27, 28, 0, []),
  (27, .iconst 0, 28, 0, 0, []),
  (28, .iadd, 29, 0, 0, []),
  (29, .istore_n 2, 30, 0, 0, []),
  (30, .iinc 3 1, 33, 0, 0, []),
  (33, .goto (-29), 36, 4, 0, []),
  (36, .iload_n 2, 37, 0, 0, []),
  (37, .ireturn, 38, 0, 0, [])]
def zc82 : List (Nat × zm_E) := [(0, .iconst 0, 1, 0, 0, []),
  (1, .istore_n 2, 2, 0, 0, []),
  (2, .iconst 0, 3, 0, 0, []),
  (3, .istore_n 3, 4, 0, 0, []),
  (4, .iload_n 3, 5, 0, 0, []),
  (5, .aload_n 0, 6, 0, 0, []),
  (6, .getfield 68, 9, 8, 10, []),
  (9, .if_icmp .ge 27, 12, 36, 0, []),
  (12, .iload_n 2, 13, 0, 0, []),
  (13, .aload_n 0, 14, 0, 0, []),
  (14, .getfield 37, 17, 8, 11, []),
  (17, .iload_n 3, 18, 0, 0, []),
  (18, .iaload, 19, 0, 0, []),
  (19, .iload_n 1, 20, 0, 0, []),
  (20, .if_icmp .ne 7, 23, 27, 0, []),
  (23, .iconst 1, 24, 0, 0, []),
  (24, .goto 4, 27, 28, 0, []),
  (27, .iconst 0, 28, 0, 0, []),
  (28, .iadd, 29, 0, 0, []),
  (29, .istore_n 2, 30, 0, 0, []),
  (30, .iinc 3 1, 33, 0, 0, []),
  (33, .goto (-29), 36, 4, 0, []),
  (36, .iload_n 2, 37, 0, 0, []),
  (37, .ireturn, 38, 0, 0, [])]
def zc83 : List (Nat × zm_E) := [(0, .iconst 1, 1, 0, 0, []),
  (1, .istore_n 2, 2, 0, 0, []),
  (2, .iconst 0, 3, 0, 0, []),
  (3, .istore_n 3, 4, 0, 0, []),
  (4, .iload_n 3, 5, 0, 0, []),
  (5, .aload_n 0, 6, 0, 0, []),
  (6, .getfield 68, 9, 8, 10, []),
  (9, .if_icmp .ge 30, 12, 39, 0, []),
  (12, .aload_n 0, 13, 0, 0, []),
  (13, .getfield 40, 16, 8, 12, []),
  (16, .iload_n 3, 17, 0, 0, []),
  (17, .iaload, 18, 0, 0, []),
  (18, .iload_n 1, 19, 0, 0, []),
  (19, .if_icmp .ne 12, 22, 31, 0, []),
  (22, .aload_n 0, 23, 0, 0, []),
  (23, .getfield 37, 26, 8, 11, []),
  (26, .iload_n 3, 27, 0, 0, []),
  (27, .iaload, 28, 0, 0, []),
  (28, .goto 4, 31, 32, 0, []),
  (31, .iload_n 2, 32, 0, 0, []),
  (32, .istore_n 2, 33, 0, 0, []),
  (33, .iinc 3 1, 36, 0, 0, []),
  (36, .goto (-32), 39, 4, 0, []),
  (39, .iload_n 2, 40, 0, 0, []),
  (40, .ireturn, 41, 0, 0, [])]
def zc84 : List (Nat × zm_E) := [(0, .aload_n 0, 1, 0, 0, []),
  (1, .getfield 43, 4, 8, 13, []),
  (4, .iload_n 1, 5, 0, 0, []),
  (5, .iaload, 6, 0, 0, []),
  (6, .iload_n 3, 7, 0, 0, []),
  (7, .if_icmp .ne 7, 10, 14, 0, []),
  (10, .iconst 1, 11, 0, 0, []),
  (11, .goto 4, 14, 15, 0, []),
  (14, .iconst 0, 15, 0, 0, []),
  (15, .istore 4, 17, 0, 0, []),
  (17, .iconst 0, 18, 0, 0, []),
  (18, .istore 5, 20, 0, 0, []),
  (20, .iload 5, 22, 0, 0, []),
  (22, .iload_n 3, 23, 0, 0, []),
  (23, .if_icmp .ge 50, 26, 73, 0, []),
  (26, .iload 4, 28, 0, 0, []),
  (28, .ifCond .eq 45, 31, 73, 0, []),
  (31, .aload_n 0, 32, 0, 0, []),
  (32, .getfield 46, 35, 8, 14, []),
  (35, .sipush 255, 38, 0, 0, []),
  (38, .iload_n 1, 39, 0, 0, []),
  (39, .imul, 40, 0, 0, []),
  (40, .iload 5, 42, 0, 0, []),
  (42, .iadd, 43, 0, 0, []),
  (43, .baload, 44, 0, 0, []),
  (44, .sipush 255, 47, 0, 0, []),
  (47, .iand, 48, 0, 0, []),
  (48, .aload_n 0, 49, 0, 0, []),
  (49, .getfield 50, 52, 8, 15, []),
  (52, .iload_n 2, 53, 0, 0, []),
  (53, .iload 5, 55, 0, 0, []),
  (55, .iadd, 56, 0, 0, []),
  (56, .iaload, 57, 0, 0, []),
  (57, .if_icmp .ne 7, 60, 64, 0, []),
  (60, .iconst 1, 61, 0, 0, []),
  (61, .goto 4, 64, 65, 0, []),
  (64, .iconst 0, 65, 0, 0, []),
  (65, .istore 4, 67, 0, 0, []),
  (67, .iinc 5 1, 70, 0, 0, []),
  (70, .goto (-50), 73, 20, 0, []),
  (73, .iload 4, 75, 0, 0, []),
  (75, .ireturn, 76, 0, 0, [])]
def zc85 : List (Nat × zm_E) := [(0, .iconst (-1), 1, 0, 0, []),
  (1, .istore 4, 3, 0, 0, []),
  (3, .iconst 0, 4, 0, 0, []),
  (4, .istore 5, 6, 0, 0, []),
  (6, .iload 5, 8, 0, 0, []),
  (8, .aload_n 0, 9, 0, 0, []),
  (9, .getfield 68, 12, 8, 10, []),
  (12, .if_icmp .ge 40, 15, 52, 0, []),
  (15, .aload_n 0, 16, 0, 0, []),
  (16, .getfield 37, 19, 8, 11, []),
  (19, .iload 5, 21, 0, 0, []),
  (21, .iaload, 22, 0, 0, []),
  (22, .iload_n 1, 23, 0, 0, []),
  (23, .if_icmp .ne 19, 26, 42, 0, []),
  (26, .aload_n 0, 27, 0, 0, []),
  (27, .iload 5, 29, 0, 0, []),
  (29, .iload_n 2, 30, 0, 0, []),
  (30, .iload_n 3, 31, 0, 0, []),
  (31, .invokevirtual 71, 34, 84, 3, []),
  (34, .ifCond .eq 8, 37, 42, 0, []),
  (37, .iload 5, 39, 0, 0, []),
  (39, .goto 5, 42, 44, 0, []),
  (42, .iload 4, 44, 0, 0, []),
  (44, .istore 4, 46, 0, 0, []),
  (46, .iinc 5 1, 49, 0, 0, []),
  (49, .goto (-43), 52, 6, 0, []),
  (52, .iload 4, 54, 0, 0, []),
  (54, .ireturn, 55, 0, 0, [])]
def zc86 : List (Nat × zm_E) := [(0, .iload_n 2, 1, 0, 0, []),
  (1, .aload_n 0, 2, 0, 0, []),
  (2, .getfield 23, 5, 8, 6, []),
  (5, .iload_n 1, 6, 0, 0, []),
  (6, .iaload, 7, 0, 0, []),
  (7, .if_icmp .le 20, 10, 27, 0, []),
  (10, .iload_n 2, 11, 0, 0, []),
  (11, .invokestatic 61, 14, 77, 1, []),
  (14, .aload_n 0, 15, 0, 0, []),
  (15, .getfield 23, 18, 8, 6, []),
  (18, .iload_n 1, 19, 0, 0, []),
  (19, .iaload, 20, 0, 0, []),
  (20, .invokestatic 61, 23, 77, 1, []),
  (23, .isub, 24, 0, 0, []),
  (24, .goto 4, 27, 28, 0, []),
  (27, .iconst 0, 28, 0, 0, []),
  (28, .ireturn, 29, 0, 0, [])]
def zc87 : List (Nat × zm_E) := [(0, .aload_n 0, 1, 0, 0, []),
  (1, .getfield 37, 4, 8, 11, []),
  (4, .aload_n 0, 5, 0, 0, []),
  (5, .getfield 68, 8, 8, 10, []),
  (8, .aload_n 0, 9, 0, 0, []),
  (9, .getfield 75, 12, 8, 17, []),
  (12, .iastore, 13, 0, 0, []),
  (13, .aload_n 0, 14, 0, 0, []),
  (14, .getfield 40, 17, 8, 12, []),
  (17, .aload_n 0, 18, 0, 0, []),
  (18, .getfield 68, 21, 8, 10, []),
  (21, .iload_n 1, 22, 0, 0, []),
  (22, .iastore, 23, 0, 0, []),
  (23, .aload_n 0, 24, 0, 0, []),
  (24, .getfield 43, 27, 8, 13, []),
  (27, .aload_n 0, 28, 0, 0, []),
  (28, .getfield 68, 31, 8, 10, []),
  (31, .aload_n 0, 32, 0, 0, []),
  (32, .getfield 78, 35, 8, 19, []),
  (35, .iastore, 36, 0, 0, []),
  (36, .iconst 0, 37, 0, 0, []),
  (37, .istore_n 2, 38, 0, 0, []),
  (38, .iload_n 2, 39, 0, 0, []),
  (39, .aload_n 0, 40, 0, 0, []),
  (40, .getfield 78, 43, 8, 19, []),
  (43, .if_icmp .ge 36, 46, 79, 0, []),
  (46, .aload_n 0, 47, 0, 0, []),
  (47, .getfield 46, 50, 8, 14, []),
  (50, .sipush 255, 53, 0, 0, []),
  (53, .aload_n 0, 54, 0, 0, []),
  (54, .getfield 68, 57, 8, 10, []),
  (57, .imul, 58, 0, 0, []),
  (58, .iload_n 2, 59, 0, 0, []),
  (59, .iadd, 60, 0, 0, []),
  (60, .aload_n 0, 61, 0, 0, []),
  (61, .getfield 50, 64, 8, 15, []),
  (64, .aload_n 0, 65, 0, 0, []),
  (65, .getfield 81, 68, 8, 18, []),
  (68, .iload_n 2, 69, 0, 0, []),
  (69, .iadd, 70, 0, 0, []),
  (70, .iaload, 71, 0, 0, []),
  (71, .i2b, 72, 0, 0, []),
  (72, .bastore, 73, 0, 0, []),
  (73, .iinc 2 1, 76, 0, 0, []),
  (76, .goto (-38), 79, 38, 0, []),
  (79, .aload_n 0, 80, 0, 0, []),
  (80, .dup, 81, 0, 0, []),
  (81, .getfield 68, 84, 8, 10, []),
  (84, .iconst 1, 85, 0, 0, []),
  (85, .iadd, 86, 0, 0, []),
  (86, .putfield 68, 89, 8, 10, []),
  (89, .aload_n 0, 90, 0, 0, []),
  (90, .aload_n 0, 91, 0, 0, []),
  (91, .getfield 75, 94, 8, 17, []),
  (94, .invokevirtual 84, 97, 82, 1, []),
  (97, .istore_n 2, 98, 0, 0, []),
  (98, .aload_n 0, 99, 0, 0, []),
  (99, .getfield 23, 102, 8, 6, []),
  (102, .aload_n 0, 103, 0, 0, []),
  (103, .getfield 75, 106, 8, 17, []),
  (106, .iload_n 2, 107, 0, 0, []),
  (107, .aload_n 0, 108, 0, 0, []),
  (108, .getfield 23, 111, 8, 6, []),
  (111, .aload_n 0, 112, 0, 0, []),
  (112, .getfield 75, 115, 8, 17, []),
  (115, .iaload, 116, 0, 0, []),
  (116, .if_icmp .le 7, 119, 123, 0, []),
  (119, .iload_n 2, 120, 0, 0, []),
  (120, .goto 12, 123, 132, 0, []),
  (123, .aload_n 0, 124, 0, 0, []),
  (124, .getfield 23, 127, 8, 6, []),
  (127, .aload_n 0, 128, 0, 0, []),
  (128, .getfield 75, 131, 8, 17, []),
  (131, .iaload, 132, 0, 0, []),
  (132, .iastore, 133, 0, 0, []),
  (133, .return_, 134, 0, 0, [])]
def zc88 : List (Nat × zm_E) := [(0, .aload_n 0, 1, 0, 0, []),
  (1, .getfield 40, 4, 8, 12, []),
  (4, .iload_n 1, 5, 0, 0, []),
  (5, .iaload, 6, 0, 0, []),
  (6, .istore_n 2, 7, 0, 0, []),
  (7, .aload_n 0, 8, 0, 0, []),
  (8, .dup, 9, 0, 0, []),
  (9, .getfield 68, 12, 8, 10, []),
  (12, .iconst 1, 13, 0, 0, []),
  (13, .isub, 14, 0, 0, []),
  (14, .putfield 68, 17, 8, 10, []),
  (17, .aload_n 0, 18, 0, 0, []),
  (18, .getfield 37, 21, 8, 11, []),
  (21, .iload_n 1, 22, 0, 0, []),
  (22, .aload_n 0, 23, 0, 0, []),
  (23, .getfield 37, 26, 8, 11, []),
  (26, .aload_n 0, 27, 0, 0, []),
  (27, .getfield 68, 30, 8, 10, []),
  (30, .iaload, 31, 0, 0, []),
  (31, .iastore, 32, 0, 0, []),
  (32, .aload_n 0, 33, 0, 0, []),
  (33, .getfield 40, 36, 8, 12, []),
  (36, .iload_n 1, 37, 0, 0, []),
  (37, .aload_n 0, 38, 0, 0, []),
  (38, .getfield 40, 41, 8, 12, []),
  (41, .aload_n 0, 42, 0, 0, []),
  (42, .getfield 68, 45, 8, 10, []),
  (45, .iaload, 46, 0, 0, []),
  (46, .iastore, 47, 0, 0, []),
  (47, .aload_n 0, 48, 0, 0, []),
  (48, .getfield 43, 51, 8, 13, []),
  (51, .iload_n 1, 52, 0, 0, []),
  (52, .aload_n 0, 53, 0, 0, []),
  (53, .getfield 43, 56, 8, 13, []),
  (56, .aload_n 0, 57, 0, 0, []),
  (57, .getfield 68, 60, 8, 10, []),
  (60, .iaload, 61, 0, 0, []),
  (61, .iastore, 62, 0, 0, []),
  (62, .iconst 0, 63, 0, 0, []),
  (63, .istore_n 3, 64, 0, 0, []),
  (64, .iload_n 3, 65, 0, 0, []),
  (65, .sipush 255, 68, 0, 0, []),
  (68, .if_icmp .ge 36, 71, 104, 0, []),
  (71, .aload_n 0, 72, 0, 0, []),
  (72, .getfield 46, 75, 8, 14, []),
  (75, .sipush 255, 78, 0, 0, []),
  (78, .iload_n 1, 79, 0, 0, []),
  (79, .imul, 80, 0, 0, []),
  (80, .iload_n 3, 81, 0, 0, []),
  (81, .iadd, 82, 0, 0, []),
  (82, .aload_n 0, 83, 0, 0, []),
  (83, .getfield 46, 86, 8, 14, []),
  (86, .sipush 255, 89, 0, 0, []),
  (89, .aload_n 0, 90, 0, 0, []),
  (90, .getfield 68, 93, 8, 10, []),
  (93, .imul, 94, 0, 0, []),
  (94, .iload_n 3, 95, 0, 0, []),
  (95, .iadd, 96, 0, 0, []),
  (96, .baload, 97, 0, 0, []),
  (97, .bastore, 98, 0, 0, []),
  (98, .iinc 3 1, 101, 0, 0, []),
  (101, .goto (-37), 104, 64, 0, []),
  (104, .aload_n 0, 105, 0, 0, []),
  (105, .iload_n 2, 106, 0, 0, []),
  (106, .invokevirtual 87, 109, 81, 1, []),
  (109, .ifCond .ne 19, 112, 128, 0, []),
  (112, .aload_n 0, 113, 0, 0, []),
  (113, .getfield 26, 116, 8, 7, []),
  (116, .iload_n 2, 117, 0, 0, []),
  (117, .iaload, 118, 0, 0, []),
  (118, .ifCond .ne 10, 121, 128, 0, []),
  (121, .aload_n 0, 122, 0, 0, []),
  (122, .getfield 20, 125, 8, 5, []),
  (125, .iload_n 2, 126, 0, 0, []),
  (126, .iconst 0, 127, 0, 0, []),
  (127, .iastore, 128, 0, 0, []),
  (128, .return_, 129, 0, 0, [])]
def zc89 : List (Nat × zm_E) := [(0, .aload_n 0, 1, 0, 0, []),
  (1, .getfield 90, 4, 8, 16, []),
  (4, .istore_n 1, 5, 0, 0, []),
  (5, .iload_n 1, 6, 0, 0, []),
  (6, .ldc 49, 8, 0, 0, [(42000, 0)]),
  (8, .if_icmp .ge 61, 11, 69, 0, []),
  (11, .iload_n 1, 12, 0, 0, []),
  (12, .istore_n 2, 13, 0, 0, []),
  (13, .iload_n 1, 14, 0, 0, []),
  (14, .ldc 49, 16, 0, 0, [(42000, 0)]),
  (16, .if_icmp .ge 20, 19, 36, 0, []),
  (19, .aload_n 0, 20, 0, 0, []),
  (20, .getfield 50, 23, 8, 15, []),
  (23, .iload_n 1, 24, 0, 0, []),
  (24, .iaload, 25, 0, 0, []),
  (25, .bipush 47, 27, 0, 0, []),
  (27, .if_icmp .eq 9, 30, 36, 0, []),
  (30, .iinc 1 1, 33, 0, 0, []),
  (33, .goto (-20), 36, 13, 0, []),
  (36, .iload_n 1, 37, 0, 0, []),
  (37, .iload_n 2, 38, 0, 0, []),
  (38, .isub, 39, 0, 0, []),
  (39, .iconst 1, 40, 0, 0, []),
  (40, .if_icmp .gt 21, 43, 61, 0, []),
  (43, .iload_n 1, 44, 0, 0, []),
  (44, .iload_n 2, 45, 0, 0, []),
  (45, .isub, 46, 0, 0, []),
  (46, .iconst 1, 47, 0, 0, []),
  (47, .if_icmp .ne 16, 50, 63, 0, []),
  (50, .aload_n 0, 51, 0, 0, []),
  (51, .getfield 50, 54, 8, 15, []),
  (54, .iload_n 2, 55, 0, 0, []),
  (55, .iaload, 56, 0, 0, []),
  (56, .bipush 46, 58, 0, 0, []),
  (58, .if_icmp .eq 5, 61, 63, 0, []),
  (61, .iconst 1, 62, 0, 0, []),
  (62, .ireturn, 63, 0, 0, []),
  (63, .iinc 1 1, 66, 0, 0, []),
  (66, .goto (-61), 69, 5, 0, []),
  (69, .iconst 0, 70, 0, 0, []),
  (70, .ireturn, 71, 0, 0, [])]
def zc90 : List (Nat × zm_E) := [(0, .aload_n 0, 1, 0, 0, []),
  (1, .ldc 49, 3, 0, 0, [(42000, 0)]),
  (3, .iload_n 2, 4, 0, 0, []),
  (4, .isub, 5, 0, 0, []),
  (5, .putfield 90, 8, 8, 16, []),
  (8, .iconst 0, 9, 0, 0, []),
  (9, .istore 4, 11, 0, 0, []),
  (11, .iload 4, 13, 0, 0, []),
  (13, .iload_n 2, 14, 0, 0, []),
  (14, .if_icmp .ge 30, 17, 44, 0, []),
  (17, .aload_n 0, 18, 0, 0, []),
  (18, .getfield 50, 21, 8, 15, []),
  (21, .aload_n 0, 22, 0, 0, []),
  (22, .getfield 90, 25, 8, 16, []),
  (25, .iload 4, 27, 0, 0, []),
  (27, .iadd, 28, 0, 0, []),
  (28, .aload_n 0, 29, 0, 0, []),
  (29, .getfield 17, 32, 8, 4, []),
  (32, .iload_n 1, 33, 0, 0, []),
  (33, .iload 4, 35, 0, 0, []),
  (35, .iadd, 36, 0, 0, []),
  (36, .iaload, 37, 0, 0, []),
  (37, .iastore, 38, 0, 0, []),
  (38, .iinc 4 1, 41, 0, 0, []),
  (41, .goto (-30), 44, 11, 0, []),
  (44, .iconst 0, 45, 0, 0, []),
  (45, .istore 4, 47, 0, 0, []),
  (47, .aload_n 0, 48, 0, 0, []),
  (48, .iconst 1, 49, 0, 0, []),
  (49, .putfield 93, 52, 8, 20, []),
  (52, .aload_n 0, 53, 0, 0, []),
  (53, .iconst 1, 54, 0, 0, []),
  (54, .putfield 96, 57, 8, 21, []),
  (57, .aload_n 0, 58, 0, 0, []),
  (58, .invokevirtual 100, 61, 89, 0, []),
  (61, .ifCond .eq 333, 64, 394, 0, []),
  (64, .aload_n 0, 65, 0, 0, []),
  (65, .getfield 50, 68, 8, 15, []),
  (68, .aload_n 0, 69, 0, 0, []),
  (69, .getfield 90, 72, 8, 16, []),
  (72, .iaload, 73, 0, 0, []),
  (73, .bipush 47, 75, 0, 0, []),
  (75, .if_icmp .ne 16, 78, 91, 0, []),
  (78, .aload_n 0, 79, 0, 0, []),
  (79, .dup, 80, 0, 0, []),
  (80, .getfield 90, 83, 8, 16, []),
  (83, .iconst 1, 84, 0, 0, []),
  (84, .iadd, 85, 0, 0, []),
  (85, .putfield 90, 88, 8, 16, []),
  (88, .goto (-31), 91, 57, 0, []),
  (91, .aload_n 0, 92, 0, 0, []),
  (92, .aload_n 0, 93, 0, 0, []),
  (93, .getfield 90, 96, 8, 16, []),
  (96, .putfield 81, 99, 8, 18, []),
  (99, .aload_n 0, 100, 0, 0, []),
  (100, .getfield 90, 103, 8, 16, []),
  (103, .ldc 49, 105, 0, 0, [(42000, 0)]),
  (105, .if_icmp .ge 30, 108, 135, 0, []),
  (108, .aload_n 0, 109, 0, 0, []),
  (109, .getfield 50, 112, 8, 15, []),
  (112, .aload_n 0, 113, 0, 0, []),
  (113, .getfield 90, 116, 8, 16, []),
  (116, .iaload, 117, 0, 0, []),
  (117, .bipush 47, 119, 0, 0, []),
  (119, .if_icmp .eq 16, 122, 135, 0, []),
  (122, .aload_n 0, 123, 0, 0, []),
  (123, .dup, 124, 0, 0, []),
  (124, .getfield 90, 127, 8, 16, []),
  (127, .iconst 1, 128, 0, 0, []),
  (128, .iadd, 129, 0, 0, []),
  (129, .putfield 90, 132, 8, 16, []),
  (132, .goto (-33), 135, 99, 0, []),
  (135, .aload_n 0, 136, 0, 0, []),
  (136, .aload_n 0, 137, 0, 0, []),
  (137, .getfield 90, 140, 8, 16, []),
  (140, .aload_n 0, 141, 0, 0, []),
  (141, .getfield 81, 144, 8, 18, []),
  (144, .isub, 145, 0, 0, []),
  (145, .putfield 78, 148, 8, 19, []),
  (148, .aload_n 0, 149, 0, 0, []),
  (149, .getfield 78, 152, 8, 19, []),
  (152, .iconst 1, 153, 0, 0, []),
  (153, .if_icmp .ne 20, 156, 173, 0, []),
  (156, .aload_n 0, 157, 0, 0, []),
  (157, .getfield 50, 160, 8, 15, []),
  (160, .aload_n 0, 161, 0, 0, []),
  (161, .getfield 81, 164, 8, 18, []),
  (164, .iaload, 165, 0, 0, []),
  (165, .bipush 46, 167, 0, 0, []),
  (167, .if_icmp .ne 6, 170, 173, 0, []),
  (170, .goto (-113), 173, 57, 0, []),
  (173, .aload_n 0, 174, 0, 0, []),
  (174, .getfield 78, 177, 8, 19, []),
  (177, .sipush 255, 180, 0, 0, []),
  (180, .if_icmp .le 6, 183, 186, 0, []),
  (183, .bipush (-9), 185, 0, 0, []),
  (185, .ireturn, 186, 0, 0, []),
  (186, .aload_n 0, 187, 0, 0, []),
  (187, .getfield 20, 190, 8, 5, []),
  (190, .aload_n 0, 191, 0, 0, []),
  (191, .getfield 93, 194, 8, 20, []),
  (194, .iaload, 195, 0, 0, []),
  (195, .iconst 2, 196, 0, 0, []),
  (196, .if_icmp .eq 6, 199, 202, 0, []),
  (199, .bipush (-4), 201, 0, 0, []),
  (201, .ireturn, 202, 0, 0, []),
  (202, .aload_n 0, 203, 0, 0, []),
  (203, .invokevirtual 100, 206, 89, 0, []),
  (206, .ifCond .ne 7, 209, 213, 0, []),
  (209, .iconst 1, 210, 0, 0, []),
  (210, .goto 4, 213, 214, 0, []),
  (213, .iconst 0, 214, 0, 0, []),
  (214, .istore 5, 216, 0, 0, []),
  (216, .aload_n 0, 217, 0, 0, []),
  (217, .aload_n 0, 218, 0, 0, []),
  (218, .getfield 78, 221, 8, 19, []),
  (221, .iconst 2, 222, 0, 0, []),
  (222, .if_icmp .ne 37, 225, 259, 0, []),
  (225, .aload_n 0, 226, 0, 0, []),
  (226, .getfield 50, 229, 8, 15, []),
  (229, .aload_n 0, 230, 0, 0, []),
  (230, .getfield 81, 233, 8, 18, []),
  (233, .iaload, 234, 0, 0, []),
  (234, .bipush 46, 236, 0, 0, []),
  (236, .if_icmp .ne 23, 239, 259, 0, []),
  (239, .aload_n 0, 240, 0, 0, []),
  (240, .getfield 50, 243, 8, 15, []),
  (243, .aload_n 0, 244, 0, 0, []),
  (244, .getfield 81, 247, 8, 18, []),
  (247, .iconst 1, 248, 0, 0, []),
  (248, .iadd, 249, 0, 0, []),
  (249, .iaload, 250, 0, 0, []),
  (250, .bipush 46, 252, 0, 0, []),
  (252, .if_icmp .ne 7, 255, 259, 0, []),
  (255, .iconst 1, 256, 0, 0, []),
  (256, .goto 4, 259, 260, 0, []),
  (259, .iconst 0, 260, 0, 0, []),
  (260, .putfield 96, 263, 8, 21, []),
  (263, .aload_n 0, 264, 0, 0, []),
  (264, .getfield 96, 267, 8, 21, []),
  (267, .ifCond .eq 18, 270, 285, 0, []),
  (270, .aload_n 0, 271, 0, 0, []),
  (271, .aload_n 0, 272, 0, 0, []),
  (272, .aload_n 0, 273, 0, 0, []),
  (273, .getfield 93, 276, 8, 20, []),
  (276, .invokevirtual 104, 279, 83, 1, []),
  (279, .putfield 93, 282, 8, 20, []),
  (282, .goto (-225), 285, 57, 0, []),
  (285, .aload_n 0, 286, 0, 0, []),
  (286, .aload_n 0, 287, 0, 0, []),
  (287, .getfield 93, 290, 8, 20, []),
  (290, .putfield 75, 293, 8, 17, []),
  (293, .aload_n 0, 294, 0, 0, []),
  (294, .aload_n 0, 295, 0, 0, []),
  (295, .getfield 75, 298, 8, 17, []),
  (298, .aload_n 0, 299, 0, 0, []),
  (299, .getfield 81, 302, 8, 18, []),
  (302, .aload_n 0, 303, 0, 0, []),
  (303, .getfield 78, 306, 8, 19, []),
  (306, .invokevirtual 107, 309, 85, 3, []),
  (309, .istore 6, 311, 0, 0, []),
  (311, .aload_n 0, 312, 0, 0, []),
  (312, .iload 6, 314, 0, 0, []),
  (314, .ifCond .ge 7, 317, 321, 0, []),
  (317, .iconst 0, 318, 0, 0, []),
  (318, .goto 10, 321, 328, 0, []),
  (321, .aload_n 0, 322, 0, 0, []),
  (322, .getfield 40, 325, 8, 12, []),
  (325, .iload 6, 327, 0, 0, []),
  (327, .iaload, 328, 0, 0, []),
  (328, .putfield 93, 331, 8, 20, []),
  (331, .iload 6, 333, 0, 0, []),
  (333, .ifCond .ge 15, 336, 348, 0, []),
  (336, .iload 5, 338, 0, 0, []),
  (338, .ifCond .eq 7, 341, 345, 0, []),
  (341, .iconst 0, 342, 0, 0, []),
  (342, .goto 5, 345, 347, 0, []),
  (345, .bipush (-2), 347, 0, 0, []),
  (347, .ireturn, 348, 0, 0, []),
  (348, .aload_n 0, 349, 0, 0, []),
  (349, .getfield 20, 352, 8, 5, []),
  (352, .aload_n 0, 353, 0, 0, []),
  (353, .getfield 93, 356, 8, 20, []),
  (356, .iaload, 357, 0, 0, []),
  (357, .iconst 3, 358, 0, 0, []),
  (358, .if_icmp .ne 33, 361, 391, 0, []),
  (361, .iload 5, 363, 0, 0, []),
  (363, .ifCond .eq 7, 366, 370, 0, []),
  (366, .iload_n 3, 367, 0, 0, []),
  (367, .ifCond .eq 24, 370, 391, 0, []),
  (370, .iload 4, 372, 0, 0, []),
  (372, .bipush 40, 374, 0, 0, []),
  (374, .if_icmp .ne 6, 377, 380, 0, []),
  (377, .bipush (-8), 379, 0, 0, []),
  (379, .ireturn, 380, 0, 0, []),
  (380, .iinc 4 1, 383, 0, 0, []),
  (383, .aload_n 0, 384, 0, 0, []),
  (384, .aload_n 0, 385, 0, 0, []),
  (385, .getfield 93, 388, 8, 20, []),
  (388, .invokevirtual 111, 391, 91, 1, []),
  (391, .goto (-334), 394, 57, 0, []),
  (394, .iconst 0, 395, 0, 0, []),
  (395, .ireturn, 396, 0, 0, [])]
def zc91 : List (Nat × zm_E) := [(0, .aload_n 0, 1, 0, 0, []),
  (1, .dup, 2, 0, 0, []),
  (2, .getfield 90, 5, 8, 16, []),
  (5, .iconst 1, 6, 0, 0, []),
  (6, .isub, 7, 0, 0, []),
  (7, .putfield 90, 10, 8, 16, []),
  (10, .aload_n 0, 11, 0, 0, []),
  (11, .getfield 50, 14, 8, 15, []),
  (14, .aload_n 0, 15, 0, 0, []),
  (15, .getfield 90, 18, 8, 16, []),
  (18, .bipush 47, 20, 0, 0, []),
  (20, .iastore, 21, 0, 0, []),
  (21, .aload_n 0, 22, 0, 0, []),
  (22, .dup, 23, 0, 0, []),
  (23, .getfield 90, 26, 8, 16, []),
  (26, .aload_n 0, 27, 0, 0, []),
  (27, .getfield 29, 30, 8, 8, []),
  (30, .iload_n 1, 31, 0, 0, []),
  (31, .iaload, 32, 0, 0, []),
  (32, .isub, 33, 0, 0, []),
  (33, .putfield 90, 36, 8, 16, []),
  (36, .iconst 0, 37, 0, 0, []),
  (37, .istore_n 2, 38, 0, 0, []),
  (38, .iload_n 2, 39, 0, 0, []),
  (39, .aload_n 0, 40, 0, 0, []),
  (40, .getfield 29, 43, 8, 8, []),
  (43, .iload_n 1, 44, 0, 0, []),
  (44, .iaload, 45, 0, 0, []),
  (45, .if_icmp .ge 36, 48, 81, 0, []),
  (48, .aload_n 0, 49, 0, 0, []),
  (49, .getfield 50, 52, 8, 15, []),
  (52, .aload_n 0, 53, 0, 0, []),
  (53, .getfield 90, 56, 8, 16, []),
  (56, .iload_n 2, 57, 0, 0, []),
  (57, .iadd, 58, 0, 0, []),
  (58, .aload_n 0, 59, 0, 0, []),
  (59, .getfield 33, 62, 8, 9, []),
  (62, .sipush 1000, 65, 0, 0, []),
  (65, .iload_n 1, 66, 0, 0, []),
  (66, .imul, 67, 0, 0, []),
  (67, .iload_n 2, 68, 0, 0, []),
  (68, .iadd, 69, 0, 0, []),
  (69, .baload, 70, 0, 0, []),
  (70, .sipush 255, 73, 0, 0, []),
  (73, .iand, 74, 0, 0, []),
  (74, .iastore, 75, 0, 0, []),
  (75, .iinc 2 1, 78, 0, 0, []),
  (78, .goto (-40), 81, 38, 0, []),
  (81, .aload_n 0, 82, 0, 0, []),
  (82, .aload_n 0, 83, 0, 0, []),
  (83, .getfield 50, 86, 8, 15, []),
  (86, .aload_n 0, 87, 0, 0, []),
  (87, .getfield 90, 90, 8, 16, []),
  (90, .iaload, 91, 0, 0, []),
  (91, .bipush 47, 93, 0, 0, []),
  (93, .if_icmp .ne 7, 96, 100, 0, []),
  (96, .iconst 1, 97, 0, 0, []),
  (97, .goto 7, 100, 104, 0, []),
  (100, .aload_n 0, 101, 0, 0, []),
  (101, .getfield 75, 104, 8, 17, []),
  (104, .putfield 93, 107, 8, 20, []),
  (107, .aload_n 0, 108, 0, 0, []),
  (108, .iconst 1, 109, 0, 0, []),
  (109, .putfield 96, 112, 8, 21, []),
  (112, .return_, 113, 0, 0, [])]
def zc92 : List (Nat × zm_E) := [(0, .aload_n 0, 1, 0, 0, []),
  (1, .iload_n 1, 2, 0, 0, []),
  (2, .iload_n 2, 3, 0, 0, []),
  (3, .iconst 0, 4, 0, 0, []),
  (4, .invokevirtual 115, 7, 90, 3, []),
  (7, .istore_n 3, 8, 0, 0, []),
  (8, .iload_n 3, 9, 0, 0, []),
  (9, .ifCond .ge 7, 12, 16, 0, []),
  (12, .iload_n 3, 13, 0, 0, []),
  (13, .goto 15, 16, 28, 0, []),
  (16, .aload_n 0, 17, 0, 0, []),
  (17, .getfield 96, 20, 8, 21, []),
  (20, .ifCond .eq 7, 23, 27, 0, []),
  (23, .iconst (-1), 24, 0, 0, []),
  (24, .goto 4, 27, 28, 0, []),
  (27, .iconst 0, 28, 0, 0, []),
  (28, .ireturn, 29, 0, 0, [])]
def zc93 : List (Nat × zm_E) := [(0, .iload_n 1, 1, 0, 0, []),
  (1, .sipush 200, 4, 0, 0, []),
  (4, .if_icmp .gt 11, 7, 15, 0, []),
  (7, .iload_n 1, 8, 0, 0, []),
  (8, .aload_n 0, 9, 0, 0, []),
  (9, .invokevirtual 119, 12, 79, 0, []),
  (12, .if_icmp .ge 5, 15, 17, 0, []),
  (15, .iconst (-1), 16, 0, 0, []),
  (16, .ireturn, 17, 0, 0, []),
  (17, .aload_n 0, 18, 0, 0, []),
  (18, .iload_n 1, 19, 0, 0, []),
  (19, .putfield 7, 22, 8, 0, []),
  (22, .aload_n 0, 23, 0, 0, []),
  (23, .getfield 7, 26, 8, 0, []),
  (26, .aload_n 0, 27, 0, 0, []),
  (27, .invokevirtual 119, 30, 79, 0, []),
  (30, .isub, 31, 0, 0, []),
  (31, .ireturn, 32, 0, 0, [])]
def zc94 : List (Nat × zm_E) := [(0, .iconst 2, 1, 0, 0, []),
  (1, .istore_n 3, 2, 0, 0, []),
  (2, .iload_n 3, 3, 0, 0, []),
  (3, .bipush 40, 5, 0, 0, []),
  (5, .if_icmp .gt 18, 8, 23, 0, []),
  (8, .aload_n 0, 9, 0, 0, []),
  (9, .getfield 20, 12, 8, 5, []),
  (12, .iload_n 3, 13, 0, 0, []),
  (13, .iaload, 14, 0, 0, []),
  (14, .ifCond .le 9, 17, 23, 0, []),
  (17, .iinc 3 1, 20, 0, 0, []),
  (20, .goto (-18), 23, 2, 0, []),
  (23, .iload_n 3, 24, 0, 0, []),
  (24, .bipush 40, 26, 0, 0, []),
  (26, .if_icmp .gt 44, 29, 70, 0, []),
  (29, .aload_n 0, 30, 0, 0, []),
  (30, .getfield 68, 33, 8, 10, []),
  (33, .bipush 60, 35, 0, 0, []),
  (35, .if_icmp .eq 35, 38, 70, 0, []),
  (38, .aload_n 0, 39, 0, 0, []),
  (39, .invokevirtual 119, 42, 79, 0, []),
  (42, .iload_n 2, 43, 0, 0, []),
  (43, .iadd, 44, 0, 0, []),
  (44, .aload_n 0, 45, 0, 0, []),
  (45, .aload_n 0, 46, 0, 0, []),
  (46, .getfield 75, 49, 8, 17, []),
  (49, .aload_n 0, 50, 0, 0, []),
  (50, .aload_n 0, 51, 0, 0, []),
  (51, .getfield 75, 54, 8, 17, []),
  (54, .invokevirtual 84, 57, 82, 1, []),
  (57, .iconst 1, 58, 0, 0, []),
  (58, .iadd, 59, 0, 0, []),
  (59, .invokevirtual 123, 62, 86, 2, []),
  (62, .iadd, 63, 0, 0, []),
  (63, .aload_n 0, 64, 0, 0, []),
  (64, .getfield 7, 67, 8, 0, []),
  (67, .if_icmp .le 6, 70, 73, 0, []),
  (70, .bipush (-7), 72, 0, 0, []),
  (72, .ireturn, 73, 0, 0, []),
  (73, .aload_n 0, 74, 0, 0, []),
  (74, .getfield 20, 77, 8, 5, []),
  (77, .iload_n 3, 78, 0, 0, []),
  (78, .iload_n 1, 79, 0, 0, []),
  (79, .iastore, 80, 0, 0, []),
  (80, .aload_n 0, 81, 0, 0, []),
  (81, .getfield 23, 84, 8, 6, []),
  (84, .iload_n 3, 85, 0, 0, []),
  (85, .iconst 0, 86, 0, 0, []),
  (86, .iastore, 87, 0, 0, []),
  (87, .aload_n 0, 88, 0, 0, []),
  (88, .getfield 26, 91, 8, 7, []),
  (91, .iload_n 3, 92, 0, 0, []),
  (92, .iconst 0, 93, 0, 0, []),
  (93, .iastore, 94, 0, 0, []),
  (94, .aload_n 0, 95, 0, 0, []),
  (95, .iload_n 3, 96, 0, 0, []),
  (96, .invokevirtual 127, 99, 87, 1, []),
  (99, .iload_n 3, 100, 0, 0, []),
  (100, .ireturn, 101, 0, 0, [])]
def zc95 : List (Nat × zm_E) := [(0, .aload_n 0, 1, 0, 0, []),
  (1, .invokevirtual 130, 4, 76, 0, []),
  (4, .istore_n 2, 5, 0, 0, []),
  (5, .iload_n 1, 6, 0, 0, []),
  (6, .iconst 1, 7, 0, 0, []),
  (7, .if_icmp .eq 8, 10, 15, 0, []),
  (10, .iload_n 1, 11, 0, 0, []),
  (11, .iconst 2, 12, 0, 0, []),
  (12, .if_icmp .ne 8, 15, 20, 0, []),
  (15, .iload_n 2, 16, 0, 0, []),
  (16, .iconst (-1), 17, 0, 0, []),
  (17, .if_icmp .eq 5, 20, 22, 0, []),
  (20, .iconst (-1), 21, 0, 0, []),
  (21, .ireturn, 22, 0, 0, []),
  (22, .aload_n 0, 23, 0, 0, []),
  (23, .iconst 0, 24, 0, 0, []),
  (24, .aload_n 0, 25, 0, 0, []),
  (25, .getfield 58, 28, 8, 3, []),
  (28, .invokevirtual 133, 31, 92, 2, []),
  (31, .istore_n 3, 32, 0, 0, []),
  (32, .iload_n 3, 33, 0, 0, []),
  (33, .ifCond .ge 5, 36, 38, 0, []),
  (36, .iload_n 3, 37, 0, 0, []),
  (37, .ireturn, 38, 0, 0, []),
  (38, .aload_n 0, 39, 0, 0, []),
  (39, .getfield 93, 42, 8, 20, []),
  (42, .ifCond .le 8, 45, 50, 0, []),
  (45, .bipush (-3), 47, 0, 0, []),
  (47, .goto 9, 50, 56, 0, []),
  (50, .aload_n 0, 51, 0, 0, []),
  (51, .iload_n 1, 52, 0, 0, []),
  (52, .iconst 1, 53, 0, 0, []),
  (53, .invokevirtual 136, 56, 94, 2, []),
  (56, .ireturn, 57, 0, 0, [])]
def zc96 : List (Nat × zm_E) := [(0, .aload_n 0, 1, 0, 0, []),
  (1, .invokevirtual 130, 4, 76, 0, []),
  (4, .istore_n 1, 5, 0, 0, []),
  (5, .iload_n 1, 6, 0, 0, []),
  (6, .ifCond .ge 5, 9, 11, 0, []),
  (9, .iconst (-1), 10, 0, 0, []),
  (10, .ireturn, 11, 0, 0, []),
  (11, .aload_n 0, 12, 0, 0, []),
  (12, .iconst 0, 13, 0, 0, []),
  (13, .iload_n 1, 14, 0, 0, []),
  (14, .iconst 0, 15, 0, 0, []),
  (15, .invokevirtual 115, 18, 90, 3, []),
  (18, .istore_n 2, 19, 0, 0, []),
  (19, .iload_n 2, 20, 0, 0, []),
  (20, .ifCond .ge 5, 23, 25, 0, []),
  (23, .iload_n 2, 24, 0, 0, []),
  (24, .ireturn, 25, 0, 0, []),
  (25, .aload_n 0, 26, 0, 0, []),
  (26, .getfield 93, 29, 8, 20, []),
  (29, .istore_n 3, 30, 0, 0, []),
  (30, .aload_n 0, 31, 0, 0, []),
  (31, .iload_n 1, 32, 0, 0, []),
  (32, .iconst 1, 33, 0, 0, []),
  (33, .iadd, 34, 0, 0, []),
  (34, .aload_n 0, 35, 0, 0, []),
  (35, .getfield 58, 38, 8, 3, []),
  (38, .iload_n 1, 39, 0, 0, []),
  (39, .isub, 40, 0, 0, []),
  (40, .iconst 1, 41, 0, 0, []),
  (41, .isub, 42, 0, 0, []),
  (42, .invokevirtual 133, 45, 92, 2, []),
  (45, .istore_n 2, 46, 0, 0, []),
  (46, .iload_n 2, 47, 0, 0, []),
  (47, .ifCond .ge 5, 50, 52, 0, []),
  (50, .iload_n 2, 51, 0, 0, []),
  (51, .ireturn, 52, 0, 0, []),
  (52, .iload_n 3, 53, 0, 0, []),
  (53, .ifCond .ne 6, 56, 59, 0, []),
  (56, .bipush (-2), 58, 0, 0, []),
  (58, .ireturn, 59, 0, 0, []),
  (59, .aload_n 0, 60, 0, 0, []),
  (60, .getfield 20, 63, 8, 5, []),
  (63, .iload_n 3, 64, 0, 0, []),
  (64, .iaload, 65, 0, 0, []),
  (65, .iconst 2, 66, 0, 0, []),
  (66, .if_icmp .ne 6, 69, 72, 0, []),
  (69, .bipush (-5), 71, 0, 0, []),
  (71, .ireturn, 72, 0, 0, []),
  (72, .aload_n 0, 73, 0, 0, []),
  (73, .getfield 93, 76, 8, 20, []),
  (76, .ifCond .le 6, 79, 82, 0, []),
  (79, .bipush (-3), 81, 0, 0, []),
  (81, .ireturn, 82, 0, 0, []),
  (82, .aload_n 0, 83, 0, 0, []),
  (83, .getfield 68, 86, 8, 10, []),
  (86, .bipush 60, 88, 0, 0, []),
  (88, .if_icmp .eq 33, 91, 121, 0, []),
  (91, .aload_n 0, 92, 0, 0, []),
  (92, .invokevirtual 119, 95, 79, 0, []),
  (95, .aload_n 0, 96, 0, 0, []),
  (96, .aload_n 0, 97, 0, 0, []),
  (97, .getfield 75, 100, 8, 17, []),
  (100, .aload_n 0, 101, 0, 0, []),
  (101, .aload_n 0, 102, 0, 0, []),
  (102, .getfield 75, 105, 8, 17, []),
  (105, .invokevirtual 84, 108, 82, 1, []),
  (108, .iconst 1, 109, 0, 0, []),
  (109, .iadd, 110, 0, 0, []),
  (110, .invokevirtual 123, 113, 86, 2, []),
  (113, .iadd, 114, 0, 0, []),
  (114, .aload_n 0, 115, 0, 0, []),
  (115, .getfield 7, 118, 8, 0, []),
  (118, .if_icmp .le 6, 121, 124, 0, []),
  (121, .bipush (-7), 123, 0, 0, []),
  (123, .ireturn, 124, 0, 0, []),
  (124, .aload_n 0, 125, 0, 0, []),
  (125, .iload_n 3, 126, 0, 0, []),
  (126, .invokevirtual 127, 129, 87, 1, []),
  (129, .iload_n 3, 130, 0, 0, []),
  (130, .ireturn, 131, 0, 0, [])]
def zc97 : List (Nat × zm_E) := [(0, .aload_n 0, 1, 0, 0, []),
  (1, .invokevirtual 130, 4, 76, 0, []),
  (4, .istore_n 1, 5, 0, 0, []),
  (5, .aload_n 0, 6, 0, 0, []),
  (6, .getfield 58, 9, 8, 3, []),
  (9, .iload_n 1, 10, 0, 0, []),
  (10, .isub, 11, 0, 0, []),
  (11, .iconst 1, 12, 0, 0, []),
  (12, .isub, 13, 0, 0, []),
  (13, .istore_n 2, 14, 0, 0, []),
  (14, .iload_n 1, 15, 0, 0, []),
  (15, .ifCond .lt 15, 18, 30, 0, []),
  (18, .iload_n 2, 19, 0, 0, []),
  (19, .iconst 1, 20, 0, 0, []),
  (20, .if_icmp .lt 10, 23, 30, 0, []),
  (23, .iload_n 2, 24, 0, 0, []),
  (24, .sipush 1000, 27, 0, 0, []),
  (27, .if_icmp .le 5, 30, 32, 0, []),
  (30, .iconst (-1), 31, 0, 0, []),
  (31, .ireturn, 32, 0, 0, []),
  (32, .aload_n 0, 33, 0, 0, []),
  (33, .iconst 0, 34, 0, 0, []),
  (34, .iload_n 1, 35, 0, 0, []),
  (35, .invokevirtual 133, 38, 92, 2, []),
  (38, .istore_n 3, 39, 0, 0, []),
  (39, .iload_n 3, 40, 0, 0, []),
  (40, .ifCond .ge 5, 43, 45, 0, []),
  (43, .iload_n 3, 44, 0, 0, []),
  (44, .ireturn, 45, 0, 0, []),
  (45, .aload_n 0, 46, 0, 0, []),
  (46, .getfield 93, 49, 8, 20, []),
  (49, .ifCond .le 6, 52, 55, 0, []),
  (52, .bipush (-3), 54, 0, 0, []),
  (54, .ireturn, 55, 0, 0, []),
  (55, .aload_n 0, 56, 0, 0, []),
  (56, .iconst 3, 57, 0, 0, []),
  (57, .iload_n 2, 58, 0, 0, []),
  (58, .bipush 59, 60, 0, 0, []),
  (60, .if_icmp .le 7, 63, 67, 0, []),
  (63, .iconst 1, 64, 0, 0, []),
  (64, .goto 4, 67, 68, 0, []),
  (67, .iconst 0, 68, 0, 0, []),
  (68, .invokevirtual 136, 71, 94, 2, []),
  (71, .istore 4, 73, 0, 0, []),
  (73, .iload 4, 75, 0, 0, []),
  (75, .ifCond .ge 6, 78, 81, 0, []),
  (78, .iload 4, 80, 0, 0, []),
  (80, .ireturn, 81, 0, 0, []),
  (81, .aload_n 0, 82, 0, 0, []),
  (82, .getfield 29, 85, 8, 8, []),
  (85, .iload 4, 87, 0, 0, []),
  (87, .iload_n 2, 88, 0, 0, []),
  (88, .iastore, 89, 0, 0, []),
  (89, .iconst 0, 90, 0, 0, []),
  (90, .istore 5, 92, 0, 0, []),
  (92, .iload 5, 94, 0, 0, []),
  (94, .iload_n 2, 95, 0, 0, []),
  (95, .if_icmp .ge 35, 98, 130, 0, []),
  (98, .aload_n 0, 99, 0, 0, []),
  (99, .getfield 33, 102, 8, 9, []),
  (102, .sipush 1000, 105, 0, 0, []),
  (105, .iload 4, 107, 0, 0, []),
  (107, .imul, 108, 0, 0, []),
  (108, .iload 5, 110, 0, 0, []),
  (110, .iadd, 111, 0, 0, []),
  (111, .aload_n 0, 112, 0, 0, []),
  (112, .getfield 17, 115, 8, 4, []),
  (115, .iload_n 1, 116, 0, 0, []),
  (116, .iconst 1, 117, 0, 0, []),
  (117, .iadd, 118, 0, 0, []),
  (118, .iload 5, 120, 0, 0, []),
  (120, .iadd, 121, 0, 0, []),
  (121, .iaload, 122, 0, 0, []),
  (122, .i2b, 123, 0, 0, []),
  (123, .bastore, 124, 0, 0, []),
  (124, .iinc 5 1, 127, 0, 0, []),
  (127, .goto (-35), 130, 92, 0, []),
  (130, .iload 4, 132, 0, 0, []),
  (132, .ireturn, 133, 0, 0, [])]
def zc98 : List (Nat × zm_E) := [(0, .aload_n 0, 1, 0, 0, []),
  (1, .invokevirtual 130, 4, 76, 0, []),
  (4, .istore_n 1, 5, 0, 0, []),
  (5, .iload_n 1, 6, 0, 0, []),
  (6, .iconst (-1), 7, 0, 0, []),
  (7, .if_icmp .eq 5, 10, 12, 0, []),
  (10, .iconst (-1), 11, 0, 0, []),
  (11, .ireturn, 12, 0, 0, []),
  (12, .aload_n 0, 13, 0, 0, []),
  (13, .iconst 0, 14, 0, 0, []),
  (14, .aload_n 0, 15, 0, 0, []),
  (15, .getfield 58, 18, 8, 3, []),
  (18, .invokevirtual 133, 21, 92, 2, []),
  (21, .istore_n 2, 22, 0, 0, []),
  (22, .iload_n 2, 23, 0, 0, []),
  (23, .ifCond .ge 5, 26, 28, 0, []),
  (26, .iload_n 2, 27, 0, 0, []),
  (27, .ireturn, 28, 0, 0, []),
  (28, .aload_n 0, 29, 0, 0, []),
  (29, .getfield 93, 32, 8, 20, []),
  (32, .ifCond .ne 6, 35, 38, 0, []),
  (35, .bipush (-2), 37, 0, 0, []),
  (37, .ireturn, 38, 0, 0, []),
  (38, .aload_n 0, 39, 0, 0, []),
  (39, .getfield 20, 42, 8, 5, []),
  (42, .aload_n 0, 43, 0, 0, []),
  (43, .getfield 93, 46, 8, 20, []),
  (46, .iaload, 47, 0, 0, []),
  (47, .iconst 2, 48, 0, 0, []),
  (48, .if_icmp .ne 6, 51, 54, 0, []),
  (51, .bipush (-5), 53, 0, 0, []),
  (53, .ireturn, 54, 0, 0, []),
  (54, .aload_n 0, 55, 0, 0, []),
  (55, .aload_n 0, 56, 0, 0, []),
  (56, .aload_n 0, 57, 0, 0, []),
  (57, .getfield 75, 60, 8, 17, []),
  (60, .aload_n 0, 61, 0, 0, []),
  (61, .getfield 81, 64, 8, 18, []),
  (64, .aload_n 0, 65, 0, 0, []),
  (65, .getfield 78, 68, 8, 19, []),
  (68, .invokevirtual 107, 71, 85, 3, []),
  (71, .invokevirtual 139, 74, 88, 1, []),
  (74, .aload_n 0, 75, 0, 0, []),
  (75, .getfield 93, 78, 8, 20, []),
  (78, .ireturn, 79, 0, 0, [])]
def zc99 : List (Nat × zm_E) := [(0, .aload_n 0, 1, 0, 0, []),
  (1, .invokevirtual 130, 4, 76, 0, []),
  (4, .istore_n 1, 5, 0, 0, []),
  (5, .iload_n 1, 6, 0, 0, []),
  (6, .iconst (-1), 7, 0, 0, []),
  (7, .if_icmp .eq 5, 10, 12, 0, []),
  (10, .iconst (-1), 11, 0, 0, []),
  (11, .ireturn, 12, 0, 0, []),
  (12, .aload_n 0, 13, 0, 0, []),
  (13, .iconst 0, 14, 0, 0, []),
  (14, .aload_n 0, 15, 0, 0, []),
  (15, .getfield 58, 18, 8, 3, []),
  (18, .invokevirtual 133, 21, 92, 2, []),
  (21, .istore_n 2, 22, 0, 0, []),
  (22, .iload_n 2, 23, 0, 0, []),
  (23, .ifCond .ge 5, 26, 28, 0, []),
  (26, .iload_n 2, 27, 0, 0, []),
  (27, .ireturn, 28, 0, 0, []),
  (28, .aload_n 0, 29, 0, 0, []),
  (29, .getfield 93, 32, 8, 20, []),
  (32, .ifCond .ne 6, 35, 38, 0, []),
  (35, .bipush (-2), 37, 0, 0, []),
  (37, .ireturn, 38, 0, 0, []),
  (38, .aload_n 0, 39, 0, 0, []),
  (39, .getfield 20, 42, 8, 5, []),
  (42, .aload_n 0, 43, 0, 0, []),
  (43, .getfield 93, 46, 8, 20, []),
  (46, .iaload, 47, 0, 0, []),
  (47, .iconst 2, 48, 0, 0, []),
  (48, .if_icmp .eq 6, 51, 54, 0, []),
  (51, .bipush (-4), 53, 0, 0, []),
  (53, .ireturn, 54, 0, 0, []),
  (54, .aload_n 0, 55, 0, 0, []),
  (55, .aload_n 0, 56, 0, 0, []),
  (56, .getfield 93, 59, 8, 20, []),
  (59, .invokevirtual 84, 62, 82, 1, []),
  (62, .ifCond .le 6, 65, 68, 0, []),
  (65, .bipush (-6), 67, 0, 0, []),
  (67, .ireturn, 68, 0, 0, []),
  (68, .aload_n 0, 69, 0, 0, []),
  (69, .aload_n 0, 70, 0, 0, []),
  (70, .aload_n 0, 71, 0, 0, []),
  (71, .getfield 75, 74, 8, 17, []),
  (74, .aload_n 0, 75, 0, 0, []),
  (75, .getfield 81, 78, 8, 18, []),
  (78, .aload_n 0, 79, 0, 0, []),
  (79, .getfield 78, 82, 8, 19, []),
  (82, .invokevirtual 107, 85, 85, 3, []),
  (85, .invokevirtual 139, 88, 88, 1, []),
  (88, .aload_n 0, 89, 0, 0, []),
  (89, .getfield 93, 92, 8, 20, []),
  (92, .ireturn, 93, 0, 0, [])]
def zc100 : List (Nat × zm_E) := [(0, .iload_n 1, 1, 0, 0, []),
  (1, .istore_n 3, 2, 0, 0, []),
  (2, .iload_n 3, 3, 0, 0, []),
  (3, .iload_n 2, 4, 0, 0, []),
  (4, .if_icmp .eq 17, 7, 21, 0, []),
  (7, .iload_n 3, 8, 0, 0, []),
  (8, .iconst 1, 9, 0, 0, []),
  (9, .if_icmp .eq 12, 12, 21, 0, []),
  (12, .aload_n 0, 13, 0, 0, []),
  (13, .iload_n 3, 14, 0, 0, []),
  (14, .invokevirtual 104, 17, 83, 1, []),
  (17, .istore_n 3, 18, 0, 0, []),
  (18, .goto (-16), 21, 2, 0, []),
  (21, .iload_n 3, 22, 0, 0, []),
  (22, .iload_n 2, 23, 0, 0, []),
  (23, .if_icmp .ne 7, 26, 30, 0, []),
  (26, .iconst 1, 27, 0, 0, []),
  (27, .goto 4, 30, 31, 0, []),
  (30, .iconst 0, 31, 0, 0, []),
  (31, .ireturn, 32, 0, 0, [])]
def zc101 : List (Nat × zm_E) := [(0, .aload_n 0, 1, 0, 0, []),
  (1, .invokevirtual 130, 4, 76, 0, []),
  (4, .istore_n 1, 5, 0, 0, []),
  (5, .iload_n 1, 6, 0, 0, []),
  (6, .ifCond .ge 5, 9, 11, 0, []),
  (9, .iconst (-1), 10, 0, 0, []),
  (10, .ireturn, 11, 0, 0, []),
  (11, .aload_n 0, 12, 0, 0, []),
  (12, .iconst 0, 13, 0, 0, []),
  (13, .iload_n 1, 14, 0, 0, []),
  (14, .invokevirtual 133, 17, 92, 2, []),
  (17, .istore_n 2, 18, 0, 0, []),
  (18, .iload_n 2, 19, 0, 0, []),
  (19, .ifCond .ge 5, 22, 24, 0, []),
  (22, .iload_n 2, 23, 0, 0, []),
  (23, .ireturn, 24, 0, 0, []),
  (24, .aload_n 0, 25, 0, 0, []),
  (25, .getfield 93, 28, 8, 20, []),
  (28, .istore_n 3, 29, 0, 0, []),
  (29, .iload_n 3, 30, 0, 0, []),
  (30, .ifCond .ne 7, 33, 37, 0, []),
  (33, .iconst (-1), 34, 0, 0, []),
  (34, .goto 19, 37, 53, 0, []),
  (37, .aload_n 0, 38, 0, 0, []),
  (38, .aload_n 0, 39, 0, 0, []),
  (39, .getfield 75, 42, 8, 17, []),
  (42, .aload_n 0, 43, 0, 0, []),
  (43, .getfield 81, 46, 8, 18, []),
  (46, .aload_n 0, 47, 0, 0, []),
  (47, .getfield 78, 50, 8, 19, []),
  (50, .invokevirtual 107, 53, 85, 3, []),
  (53, .istore 4, 55, 0, 0, []),
  (55, .aload_n 0, 56, 0, 0, []),
  (56, .iload_n 1, 57, 0, 0, []),
  (57, .iconst 1, 58, 0, 0, []),
  (58, .iadd, 59, 0, 0, []),
  (59, .aload_n 0, 60, 0, 0, []),
  (60, .getfield 58, 63, 8, 3, []),
  (63, .iload_n 1, 64, 0, 0, []),
  (64, .isub, 65, 0, 0, []),
  (65, .iconst 1, 66, 0, 0, []),
  (66, .isub, 67, 0, 0, []),
  (67, .invokevirtual 133, 70, 92, 2, []),
  (70, .istore_n 2, 71, 0, 0, []),
  (71, .iload_n 2, 72, 0, 0, []),
  (72, .ifCond .ge 5, 75, 77, 0, []),
  (75, .iload_n 2, 76, 0, 0, []),
  (76, .ireturn, 77, 0, 0, []),
  (77, .iload_n 3, 78, 0, 0, []),
  (78, .ifCond .ne 6, 81, 84, 0, []),
  (81, .bipush (-2), 83, 0, 0, []),
  (83, .ireturn, 84, 0, 0, []),
  (84, .aload_n 0, 85, 0, 0, []),
  (85, .getfield 93, 88, 8, 20, []),
  (88, .iload_n 3, 89, 0, 0, []),
  (89, .if_icmp .ne 5, 92, 94, 0, []),
  (92, .iload_n 3, 93, 0, 0, []),
  (93, .ireturn, 94, 0, 0, []),
  (94, .aload_n 0, 95, 0, 0, []),
  (95, .getfield 20, 98, 8, 5, []),
  (98, .iload_n 3, 99, 0, 0, []),
  (99, .iaload, 100, 0, 0, []),
  (100, .iconst 2, 101, 0, 0, []),
  (101, .if_icmp .ne 7, 104, 108, 0, []),
  (104, .iconst 1, 105, 0, 0, []),
  (105, .goto 4, 108, 109, 0, []),
  (108, .iconst 0, 109, 0, 0, []),
  (109, .istore 5, 111, 0, 0, []),
  (111, .iload 5, 113, 0, 0, []),
  (113, .ifCond .eq 18, 116, 131, 0, []),
  (116, .aload_n 0, 117, 0, 0, []),
  (117, .aload_n 0, 118, 0, 0, []),
  (118, .getfield 75, 121, 8, 17, []),
  (121, .iload_n 3, 122, 0, 0, []),
  (122, .invokevirtual 142, 125, 100, 2, []),
  (125, .ifCond .eq 6, 128, 131, 0, []),
  (128, .bipush (-10), 130, 0, 0, []),
  (130, .ireturn, 131, 0, 0, []),
  (131, .aload_n 0, 132, 0, 0, []),
  (132, .getfield 93, 135, 8, 20, []),
  (135, .ifCond .le 20, 138, 155, 0, []),
  (138, .aload_n 0, 139, 0, 0, []),
  (139, .getfield 20, 142, 8, 5, []),
  (142, .aload_n 0, 143, 0, 0, []),
  (143, .getfield 93, 146, 8, 20, []),
  (146, .iaload, 147, 0, 0, []),
  (147, .iconst 2, 148, 0, 0, []),
  (148, .if_icmp .ne 7, 151, 155, 0, []),
  (151, .iconst 1, 152, 0, 0, []),
  (152, .goto 4, 155, 156, 0, []),
  (155, .iconst 0, 156, 0, 0, []),
  (156, .istore 6, 158, 0, 0, []),
  (158, .aload_n 0, 159, 0, 0, []),
  (159, .getfield 93, 162, 8, 20, []),
  (162, .ifCond .le 16, 165, 178, 0, []),
  (165, .iload 5, 167, 0, 0, []),
  (167, .ifCond .eq 11, 170, 178, 0, []),
  (170, .iload 6, 172, 0, 0, []),
  (172, .ifCond .ne 6, 175, 178, 0, []),
  (175, .bipush (-4), 177, 0, 0, []),
  (177, .ireturn, 178, 0, 0, []),
  (178, .iload 6, 180, 0, 0, []),
  (180, .ifCond .eq 11, 183, 191, 0, []),
  (183, .iload 5, 185, 0, 0, []),
  (185, .ifCond .ne 6, 188, 191, 0, []),
  (188, .bipush (-5), 190, 0, 0, []),
  (190, .ireturn, 191, 0, 0, []),
  (191, .iload 6, 193, 0, 0, []),
  (193, .ifCond .eq 17, 196, 210, 0, []),
  (196, .aload_n 0, 197, 0, 0, []),
  (197, .aload_n 0, 198, 0, 0, []),
  (198, .getfield 93, 201, 8, 20, []),
  (201, .invokevirtual 84, 204, 82, 1, []),
  (204, .ifCond .le 6, 207, 210, 0, []),
  (207, .bipush (-6), 209, 0, 0, []),
  (209, .ireturn, 210, 0, 0, []),
  (210, .aload_n 0, 211, 0, 0, []),
  (211, .getfield 93, 214, 8, 20, []),
  (214, .ifCond .le 31, 217, 245, 0, []),
  (217, .aload_n 0, 218, 0, 0, []),
  (218, .aload_n 0, 219, 0, 0, []),
  (219, .getfield 93, 222, 8, 20, []),
  (222, .invokevirtual 87, 225, 81, 1, []),
  (225, .iconst 1, 226, 0, 0, []),
  (226, .if_icmp .ne 19, 229, 245, 0, []),
  (229, .aload_n 0, 230, 0, 0, []),
  (230, .getfield 26, 233, 8, 7, []),
  (233, .aload_n 0, 234, 0, 0, []),
  (234, .getfield 93, 237, 8, 20, []),
  (237, .iaload, 238, 0, 0, []),
  (238, .ifCond .ne 7, 241, 245, 0, []),
  (241, .iconst 1, 242, 0, 0, []),
  (242, .goto 4, 245, 246, 0, []),
  (245, .iconst 0, 246, 0, 0, []),
  (246, .istore 7, 248, 0, 0, []),
  (248, .aload_n 0, 249, 0, 0, []),
  (249, .aload_n 0, 250, 0, 0, []),
  (250, .getfield 75, 253, 8, 17, []),
  (253, .invokevirtual 84, 256, 82, 1, []),
  (256, .iconst 1, 257, 0, 0, []),
  (257, .iadd, 258, 0, 0, []),
  (258, .aload_n 0, 259, 0, 0, []),
  (259, .getfield 37, 262, 8, 11, []),
  (262, .iload 4, 264, 0, 0, []),
  (264, .iaload, 265, 0, 0, []),
  (265, .aload_n 0, 266, 0, 0, []),
  (266, .getfield 75, 269, 8, 17, []),
  (269, .if_icmp .ne 7, 272, 276, 0, []),
  (272, .iconst 1, 273, 0, 0, []),
  (273, .goto 4, 276, 277, 0, []),
  (276, .iconst 0, 277, 0, 0, []),
  (277, .isub, 278, 0, 0, []),
  (278, .aload_n 0, 279, 0, 0, []),
  (279, .getfield 93, 282, 8, 20, []),
  (282, .ifCond .le 7, 285, 289, 0, []),
  (285, .iconst 1, 286, 0, 0, []),
  (286, .goto 4, 289, 290, 0, []),
  (289, .iconst 0, 290, 0, 0, []),
  (290, .isub, 291, 0, 0, []),
  (291, .istore 8, 293, 0, 0, []),
  (293, .aload_n 0, 294, 0, 0, []),
  (294, .invokevirtual 119, 297, 79, 0, []),
  (297, .iload 7, 299, 0, 0, []),
  (299, .ifCond .eq 14, 302, 313, 0, []),
  (302, .aload_n 0, 303, 0, 0, []),
  (303, .aload_n 0, 304, 0, 0, []),
  (304, .getfield 93, 307, 8, 20, []),
  (307, .invokevirtual 65, 310, 78, 1, []),
  (310, .goto 4, 313, 314, 0, []),
  (313, .iconst 0, 314, 0, 0, []),
  (314, .isub, 315, 0, 0, []),
  (315, .aload_n 0, 316, 0, 0, []),
  (316, .aload_n 0, 317, 0, 0, []),
  (317, .getfield 75, 320, 8, 17, []),
  (320, .iload 8, 322, 0, 0, []),
  (322, .invokevirtual 123, 325, 86, 2, []),
  (325, .iadd, 326, 0, 0, []),
  (326, .aload_n 0, 327, 0, 0, []),
  (327, .getfield 7, 330, 8, 0, []),
  (330, .if_icmp .le 6, 333, 336, 0, []),
  (333, .bipush (-7), 335, 0, 0, []),
  (335, .ireturn, 336, 0, 0, []),
  (336, .aload_n 0, 337, 0, 0, []),
  (337, .getfield 26, 340, 8, 7, []),
  (340, .iload_n 3, 341, 0, 0, []),
  (341, .dup2, 342, 0, 0, []),
  (342, .iaload, 343, 0, 0, []),
  (343, .iconst 1, 344, 0, 0, []),
  (344, .iadd, 345, 0, 0, []),
  (345, .iastore, 346, 0, 0, []),
  (346, .aload_n 0, 347, 0, 0, []),
  (347, .iload 4, 349, 0, 0, []),
  (349, .invokevirtual 139, 352, 88, 1, []),
  (352, .aload_n 0, 353, 0, 0, []),
  (353, .getfield 93, 356, 8, 20, []),
  (356, .ifCond .le 23, 359, 379, 0, []),
  (359, .aload_n 0, 360, 0, 0, []),
  (360, .aload_n 0, 361, 0, 0, []),
  (361, .aload_n 0, 362, 0, 0, []),
  (362, .getfield 75, 365, 8, 17, []),
  (365, .aload_n 0, 366, 0, 0, []),
  (366, .getfield 81, 369, 8, 18, []),
  (369, .aload_n 0, 370, 0, 0, []),
  (370, .getfield 78, 373, 8, 19, []),
  (373, .invokevirtual 107, 376, 85, 3, []),
  (376, .invokevirtual 139, 379, 88, 1, []),
  (379, .aload_n 0, 380, 0, 0, []),
  (380, .getfield 26, 383, 8, 7, []),
  (383, .iload_n 3, 384, 0, 0, []),
  (384, .dup2, 385, 0, 0, []),
  (385, .iaload, 386, 0, 0, []),
  (386, .iconst 1, 387, 0, 0, []),
  (387, .isub, 388, 0, 0, []),
  (388, .iastore, 389, 0, 0, []),
  (389, .aload_n 0, 390, 0, 0, []),
  (390, .iload_n 3, 391, 0, 0, []),
  (391, .invokevirtual 127, 394, 87, 1, []),
  (394, .iload_n 3, 395, 0, 0, []),
  (395, .ireturn, 396, 0, 0, [])]
def zc102 : List (Nat × zm_E) := [(0, .aload_n 0, 1, 0, 0, []),
  (1, .invokevirtual 130, 4, 76, 0, []),
  (4, .istore_n 2, 5, 0, 0, []),
  (5, .iload_n 2, 6, 0, 0, []),
  (6, .iconst (-1), 7, 0, 0, []),
  (7, .if_icmp .eq 5, 10, 12, 0, []),
  (10, .iconst (-1), 11, 0, 0, []),
  (11, .ireturn, 12, 0, 0, []),
  (12, .aload_n 0, 13, 0, 0, []),
  (13, .iconst 0, 14, 0, 0, []),
  (14, .aload_n 0, 15, 0, 0, []),
  (15, .getfield 58, 18, 8, 3, []),
  (18, .iload_n 1, 19, 0, 0, []),
  (19, .invokevirtual 115, 22, 90, 3, []),
  (22, .istore_n 3, 23, 0, 0, []),
  (23, .iload_n 3, 24, 0, 0, []),
  (24, .ifCond .ge 7, 27, 31, 0, []),
  (27, .iload_n 3, 28, 0, 0, []),
  (28, .goto 19, 31, 47, 0, []),
  (31, .aload_n 0, 32, 0, 0, []),
  (32, .getfield 93, 35, 8, 20, []),
  (35, .ifCond .ne 8, 38, 43, 0, []),
  (38, .bipush (-2), 40, 0, 0, []),
  (40, .goto 7, 43, 47, 0, []),
  (43, .aload_n 0, 44, 0, 0, []),
  (44, .getfield 93, 47, 8, 20, []),
  (47, .ireturn, 48, 0, 0, [])]
def zc103 : List (Nat × zm_E) := [(0, .aload_n 0, 1, 0, 0, []),
  (1, .invokevirtual 130, 4, 76, 0, []),
  (4, .istore_n 1, 5, 0, 0, []),
  (5, .iload_n 1, 6, 0, 0, []),
  (6, .iconst (-1), 7, 0, 0, []),
  (7, .if_icmp .eq 5, 10, 12, 0, []),
  (10, .iconst (-1), 11, 0, 0, []),
  (11, .ireturn, 12, 0, 0, []),
  (12, .aload_n 0, 13, 0, 0, []),
  (13, .iconst 0, 14, 0, 0, []),
  (14, .aload_n 0, 15, 0, 0, []),
  (15, .getfield 58, 18, 8, 3, []),
  (18, .iconst 1, 19, 0, 0, []),
  (19, .invokevirtual 115, 22, 90, 3, []),
  (22, .istore_n 2, 23, 0, 0, []),
  (23, .iload_n 2, 24, 0, 0, []),
  (24, .ifCond .ge 5, 27, 29, 0, []),
  (27, .iload_n 2, 28, 0, 0, []),
  (28, .ireturn, 29, 0, 0, []),
  (29, .aload_n 0, 30, 0, 0, []),
  (30, .getfield 93, 33, 8, 20, []),
  (33, .ifCond .ne 6, 36, 39, 0, []),
  (36, .bipush (-2), 38, 0, 0, []),
  (38, .ireturn, 39, 0, 0, []),
  (39, .aload_n 0, 40, 0, 0, []),
  (40, .getfield 20, 43, 8, 5, []),
  (43, .aload_n 0, 44, 0, 0, []),
  (44, .getfield 93, 47, 8, 20, []),
  (47, .iaload, 48, 0, 0, []),
  (48, .iconst 1, 49, 0, 0, []),
  (49, .if_icmp .ne 17, 52, 66, 0, []),
  (52, .aload_n 0, 53, 0, 0, []),
  (53, .getfield 26, 56, 8, 7, []),
  (56, .aload_n 0, 57, 0, 0, []),
  (57, .getfield 93, 60, 8, 20, []),
  (60, .iaload, 61, 0, 0, []),
  (61, .bipush 100, 63, 0, 0, []),
  (63, .if_icmp .ne 5, 66, 68, 0, []),
  (66, .iconst (-1), 67, 0, 0, []),
  (67, .ireturn, 68, 0, 0, []),
  (68, .aload_n 0, 69, 0, 0, []),
  (69, .getfield 26, 72, 8, 7, []),
  (72, .aload_n 0, 73, 0, 0, []),
  (73, .getfield 93, 76, 8, 20, []),
  (76, .dup2, 77, 0, 0, []),
  (77, .iaload, 78, 0, 0, []),
  (78, .iconst 1, 79, 0, 0, []),
  (79, .iadd, 80, 0, 0, []),
  (80, .iastore, 81, 0, 0, []),
  (81, .aload_n 0, 82, 0, 0, []),
  (82, .getfield 93, 85, 8, 20, []),
  (85, .ireturn, 86, 0, 0, [])]
def zc104 : List (Nat × zm_E) := [(0, .iload_n 1, 1, 0, 0, []),
  (1, .iconst 1, 2, 0, 0, []),
  (2, .if_icmp .lt 22, 5, 24, 0, []),
  (5, .iload_n 1, 6, 0, 0, []),
  (6, .bipush 40, 8, 0, 0, []),
  (8, .if_icmp .gt 16, 11, 24, 0, []),
  (11, .aload_n 0, 12, 0, 0, []),
  (12, .getfield 20, 15, 8, 5, []),
  (15, .iload_n 1, 16, 0, 0, []),
  (16, .iaload, 17, 0, 0, []),
  (17, .ifCond .le 7, 20, 24, 0, []),
  (20, .iconst 1, 21, 0, 0, []),
  (21, .goto 4, 24, 25, 0, []),
  (24, .iconst 0, 25, 0, 0, []),
  (25, .ireturn, 26, 0, 0, [])]
def zc105 : List (Nat × zm_E) := [(0, .aload_n 0, 1, 0, 0, []),
  (1, .iload_n 1, 2, 0, 0, []),
  (2, .invokevirtual 146, 5, 104, 1, []),
  (5, .ifCond .eq 12, 8, 17, 0, []),
  (8, .aload_n 0, 9, 0, 0, []),
  (9, .getfield 26, 12, 8, 7, []),
  (12, .iload_n 1, 13, 0, 0, []),
  (13, .iaload, 14, 0, 0, []),
  (14, .ifCond .ne 5, 17, 19, 0, []),
  (17, .iconst (-1), 18, 0, 0, []),
  (18, .ireturn, 19, 0, 0, []),
  (19, .aload_n 0, 20, 0, 0, []),
  (20, .getfield 26, 23, 8, 7, []),
  (23, .iload_n 1, 24, 0, 0, []),
  (24, .dup2, 25, 0, 0, []),
  (25, .iaload, 26, 0, 0, []),
  (26, .iconst 1, 27, 0, 0, []),
  (27, .isub, 28, 0, 0, []),
  (28, .iastore, 29, 0, 0, []),
  (29, .aload_n 0, 30, 0, 0, []),
  (30, .iload_n 1, 31, 0, 0, []),
  (31, .invokevirtual 87, 34, 81, 1, []),
  (34, .istore_n 2, 35, 0, 0, []),
  (35, .iload_n 2, 36, 0, 0, []),
  (36, .ifCond .ne 19, 39, 55, 0, []),
  (39, .aload_n 0, 40, 0, 0, []),
  (40, .getfield 26, 43, 8, 7, []),
  (43, .iload_n 1, 44, 0, 0, []),
  (44, .iaload, 45, 0, 0, []),
  (45, .ifCond .ne 10, 48, 55, 0, []),
  (48, .aload_n 0, 49, 0, 0, []),
  (49, .getfield 20, 52, 8, 5, []),
  (52, .iload_n 1, 53, 0, 0, []),
  (53, .iconst 0, 54, 0, 0, []),
  (54, .iastore, 55, 0, 0, []),
  (55, .iload_n 2, 56, 0, 0, []),
  (56, .ireturn, 57, 0, 0, [])]
def zc106 : List (Nat × zm_E) := [(0, .iconst 0, 1, 0, 0, []),
  (1, .istore_n 2, 2, 0, 0, []),
  (2, .iconst 0, 3, 0, 0, []),
  (3, .istore_n 3, 4, 0, 0, []),
  (4, .iload_n 3, 5, 0, 0, []),
  (5, .aload_n 0, 6, 0, 0, []),
  (6, .getfield 68, 9, 8, 10, []),
  (9, .if_icmp .ge 42, 12, 51, 0, []),
  (12, .iload_n 2, 13, 0, 0, []),
  (13, .aload_n 0, 14, 0, 0, []),
  (14, .getfield 37, 17, 8, 11, []),
  (17, .iload_n 3, 18, 0, 0, []),
  (18, .iaload, 19, 0, 0, []),
  (19, .iload_n 1, 20, 0, 0, []),
  (20, .if_icmp .ne 22, 23, 42, 0, []),
  (23, .aload_n 0, 24, 0, 0, []),
  (24, .getfield 20, 27, 8, 5, []),
  (27, .aload_n 0, 28, 0, 0, []),
  (28, .getfield 40, 31, 8, 12, []),
  (31, .iload_n 3, 32, 0, 0, []),
  (32, .iaload, 33, 0, 0, []),
  (33, .iaload, 34, 0, 0, []),
  (34, .iconst 2, 35, 0, 0, []),
  (35, .if_icmp .ne 7, 38, 42, 0, []),
  (38, .iconst 1, 39, 0, 0, []),
  (39, .goto 4, 42, 43, 0, []),
  (42, .iconst 0, 43, 0, 0, []),
  (43, .iadd, 44, 0, 0, []),
  (44, .istore_n 2, 45, 0, 0, []),
  (45, .iinc 3 1, 48, 0, 0, []),
  (48, .goto (-44), 51, 4, 0, []),
  (51, .iload_n 2, 52, 0, 0, []),
  (52, .ireturn, 53, 0, 0, [])]
def zc107 : List (Nat × zm_E) := [(0, .aload_n 0, 1, 0, 0, []),
  (1, .iload_n 1, 2, 0, 0, []),
  (2, .invokevirtual 146, 5, 104, 1, []),
  (5, .ifCond .eq 12, 8, 17, 0, []),
  (8, .iload_n 2, 9, 0, 0, []),
  (9, .ifCond .lt 8, 12, 17, 0, []),
  (12, .iload_n 2, 13, 0, 0, []),
  (13, .iconst 4, 14, 0, 0, []),
  (14, .if_icmp .le 5, 17, 19, 0, []),
  (17, .iconst (-1), 18, 0, 0, []),
  (18, .ireturn, 19, 0, 0, []),
  (19, .aload_n 0, 20, 0, 0, []),
  (20, .getfield 20, 23, 8, 5, []),
  (23, .iload_n 1, 24, 0, 0, []),
  (24, .iaload, 25, 0, 0, []),
  (25, .iconst 2, 26, 0, 0, []),
  (26, .if_icmp .ne 7, 29, 33, 0, []),
  (29, .iconst 1, 30, 0, 0, []),
  (30, .goto 4, 33, 34, 0, []),
  (33, .iconst 0, 34, 0, 0, []),
  (34, .istore_n 3, 35, 0, 0, []),
  (35, .iload_n 2, 36, 0, 0, []),
  (36, .tableswitch 103 0 3 #[32, 39, 59, 97], 68, 139, 0, [(0, 68), (1, 75), (2, 95), (3, 133)]),
  (68, .aload_n 0, 69, 0, 0, []),
  (69, .getfield 20, 72, 8, 5, []),
  (72, .iload_n 1, 73, 0, 0, []),
  (73, .iaload, 74, 0, 0, []),
  (74, .ireturn, 75, 0, 0, []),
  (75, .iload_n 3, 76, 0, 0, []),
  (76, .ifCond .eq 13, 79, 89, 0, []),
  (79, .iconst 2, 80, 0, 0, []),
  (80, .aload_n 0, 81, 0, 0, []),
  (81, .iload_n 1, 82, 0, 0, []),
  (82, .invokevirtual 150, 85, 106, 1, []),
  (85, .iadd, 86, 0, 0, []),
  (86, .goto 8, 89, 94, 0, []),
  (89, .aload_n 0, 90, 0, 0, []),
  (90, .iload_n 1, 91, 0, 0, []),
  (91, .invokevirtual 87, 94, 81, 1, []),
  (94, .ireturn, 95, 0, 0, []),
  (95, .iload_n 3, 96, 0, 0, []),
  (96, .ifCond .eq 11, 99, 107, 0, []),
  (99, .aload_n 0, 100, 0, 0, []),
  (100, .iload_n 1, 101, 0, 0, []),
  (101, .invokevirtual 84, 104, 82, 1, []),
  (104, .goto 28, 107, 132, 0, []),
  (107, .aload_n 0, 108, 0, 0, []),
  (108, .getfield 20, 111, 8, 5, []),
  (111, .iload_n 1, 112, 0, 0, []),
  (112, .iaload, 113, 0, 0, []),
  (113, .iconst 3, 114, 0, 0, []),
  (114, .if_icmp .ne 12, 117, 126, 0, []),
  (117, .aload_n 0, 118, 0, 0, []),
  (118, .getfield 29, 121, 8, 8, []),
  (121, .iload_n 1, 122, 0, 0, []),
  (122, .iaload, 123, 0, 0, []),
  (123, .goto 9, 126, 132, 0, []),
  (126, .aload_n 0, 127, 0, 0, []),
  (127, .getfield 26, 130, 8, 7, []),
  (130, .iload_n 1, 131, 0, 0, []),
  (131, .iaload, 132, 0, 0, []),
  (132, .ireturn, 133, 0, 0, []),
  (133, .aload_n 0, 134, 0, 0, []),
  (134, .iload_n 1, 135, 0, 0, []),
  (135, .invokevirtual 65, 138, 78, 1, []),
  (138, .ireturn, 139, 0, 0, []),
  (139, .iload_n 3, 140, 0, 0, []),
  (140, .ifCond .eq 11, 143, 151, 0, []),
  (143, .aload_n 0, 144, 0, 0, []),
  (144, .iload_n 1, 145, 0, 0, []),
  (145, .invokevirtual 104, 148, 83, 1, []),
  (148, .goto 4, 151, 152, 0, []),
  (151, .iconst 0, 152, 0, 0, []),
  (152, .ireturn, 153, 0, 0, [])]
def zc108 : List (Nat × zm_E) := [(0, .aload_n 0, 1, 0, 0, []),
  (1, .iload_n 1, 2, 0, 0, []),
  (2, .invokevirtual 146, 5, 104, 1, []),
  (5, .ifCond .eq 27, 8, 32, 0, []),
  (8, .aload_n 0, 9, 0, 0, []),
  (9, .getfield 20, 12, 8, 5, []),
  (12, .iload_n 1, 13, 0, 0, []),
  (13, .iaload, 14, 0, 0, []),
  (14, .iconst 3, 15, 0, 0, []),
  (15, .if_icmp .ne 17, 18, 32, 0, []),
  (18, .iload_n 2, 19, 0, 0, []),
  (19, .ifCond .lt 13, 22, 32, 0, []),
  (22, .iload_n 2, 23, 0, 0, []),
  (23, .aload_n 0, 24, 0, 0, []),
  (24, .getfield 29, 27, 8, 8, []),
  (27, .iload_n 1, 28, 0, 0, []),
  (28, .iaload, 29, 0, 0, []),
  (29, .if_icmp .lt 7, 32, 36, 0, []),
  (32, .iconst (-1), 33, 0, 0, []),
  (33, .goto 19, 36, 52, 0, []),
  (36, .aload_n 0, 37, 0, 0, []),
  (37, .getfield 33, 40, 8, 9, []),
  (40, .sipush 1000, 43, 0, 0, []),
  (43, .iload_n 1, 44, 0, 0, []),
  (44, .imul, 45, 0, 0, []),
  (45, .iload_n 2, 46, 0, 0, []),
  (46, .iadd, 47, 0, 0, []),
  (47, .baload, 48, 0, 0, []),
  (48, .sipush 255, 51, 0, 0, []),
  (51, .iand, 52, 0, 0, []),
  (52, .ireturn, 53, 0, 0, [])]
def zc109 : List (Nat × zm_E) := [(0, .iload_n 1, 1, 0, 0, []),
  (1, .ifCond .ne 10, 4, 11, 0, []),
  (4, .aload_n 0, 5, 0, 0, []),
  (5, .invokevirtual 153, 8, 80, 0, []),
  (8, .goto 40, 11, 48, 0, []),
  (11, .iload_n 1, 12, 0, 0, []),
  (12, .iconst 1, 13, 0, 0, []),
  (13, .if_icmp .ne 10, 16, 23, 0, []),
  (16, .aload_n 0, 17, 0, 0, []),
  (17, .getfield 68, 20, 8, 10, []),
  (20, .goto 28, 23, 48, 0, []),
  (23, .iload_n 1, 24, 0, 0, []),
  (24, .iconst 2, 25, 0, 0, []),
  (25, .if_icmp .ne 10, 28, 35, 0, []),
  (28, .aload_n 0, 29, 0, 0, []),
  (29, .getfield 53, 32, 8, 1, []),
  (32, .goto 16, 35, 48, 0, []),
  (35, .iload_n 1, 36, 0, 0, []),
  (36, .iconst 3, 37, 0, 0, []),
  (37, .if_icmp .ne 10, 40, 47, 0, []),
  (40, .aload_n 0, 41, 0, 0, []),
  (41, .invokevirtual 119, 44, 79, 0, []),
  (44, .goto 4, 47, 48, 0, []),
  (47, .iconst (-1), 48, 0, 0, []),
  (48, .ireturn, 49, 0, 0, [])]
def zt_cod_l : List (List (Nat × zm_E)) := [zc0,
  zc1,
  zc2,
  zc3,
  zc4,
  zc5,
  zc6,
  zc7,
  zc8,
  zc9,
  zc10,
  zc11,
  zc12,
  zc13,
  zc14,
  zc15,
  zc16,
  zc17,
  zc18,
  zc19,
  zc20,
  zc21,
  zc22,
  zc23,
  zc24,
  zc25,
  zc26,
  zc27,
  zc28,
  zc29,
  zc30,
  zc31,
  zc32,
  zc33,
  zc34,
  zc35,
  zc36,
  zc37,
  zc38,
  zc39,
  zc40,
  zc41,
  zc42,
  zc43,
  zc44,
  zc45,
  zc46,
  zc47,
  zc48,
  zc49,
  zc50,
  zc51,
  zc52,
  zc53,
  zc54,
  zc55,
  zc56,
  zc57,
  zc58,
  zc59,
  zc60,
  zc61,
  zc62,
  zc63,
  zc64,
  zc65,
  zc66,
  zc67,
  zc68,
  zc69,
  zc70,
  zc71,
  zc72,
  zc73,
  zc74,
  zc75,
  zc76,
  zc77,
  zc78,
  zc79,
  zc80,
  zc81,
  zc82,
  zc83,
  zc84,
  zc85,
  zc86,
  zc87,
  zc88,
  zc89,
  zc90,
  zc91,
  zc92,
  zc93,
  zc94,
  zc95,
  zc96,
  zc97,
  zc98,
  zc99,
  zc100,
  zc101,
  zc102,
  zc103,
  zc104,
  zc105,
  zc106,
  zc107,
  zc108,
  zc109]
def zt_cod (M : Nat) : List (Nat × zm_E) := zt_cod_l.getD M ([])
def zt_code (M pc : Nat) : Option zm_E := zm_lku (zt_cod M) pc
end
section
/-! THE SMALL MACHINE: the heap by abstract addresses (0: the law's script), a step an instruction, method calls by their numbers -/
/-- cells made, slots made, (tag, length) of a cell, contents -/
abbrev zm_H : Type := Nat × Nat × (Nat → Nat × Nat) × (Nat → Nat → Value)
def zm_nx (h : zm_H) : Nat := h.1
def zm_sl (h : zm_H) : Nat := h.2.1
def zm_tg (h : zm_H) (a : Nat) : Nat := (h.2.2.1 a).1
def zm_ln (h : zm_H) (a : Nat) : Nat := (h.2.2.1 a).2
def zm_at (h : zm_H) (a i : Nat) : Value := h.2.2.2 a i
def zm_put (h : zm_H) (a i : Nat) (v : Value) : zm_H := (h.1, h.2.1, h.2.2.1, fun b j => if b = a ∧ j = i then v else h.2.2.2 b j)
def zm_mk (h : zm_H) (t n : Nat) (f : Nat → Value) : zm_H := (h.1 + 1, h.2.1 + n, fun b => if b = h.1 then (t, n) else h.2.2.1 b, fun b j => if b = h.1 then f j else h.2.2.2 b j)
def zm_cp (h : zm_H) (s sp d dp n : Nat) : zm_H := (h.1, h.2.1, h.2.2.1, fun b j => if b = d ∧ dp ≤ j ∧ j < dp + n then h.2.2.2 s (sp + (j - dp)) else h.2.2.2 b j)
/-- a cell of that tag that may be written -/
def zm_is (h : zm_H) (a t : Nat) : Prop := 0 < a ∧ a < zm_nx h ∧ zm_tg h a = t
/-- a place that holds nothing -/
def zm_un : Value := .float 0
/-- what a field of that type takes -/
def zm_fit : FieldType → Value → Bool
  | .int, .int _ => true
  | .long, .long _ => true
  | .object _, .null => true
  | .object _, .ref _ => true
  | .array _, .null => true
  | .array _, .ref _ => true
  | .boolean, .int v => v == 0 || v == 1
  | .byte, .int v => v.toInt8.toInt32 == v && fits .byte (.int v)
  | _, _ => false
def zm_isK : Nat → Value → Bool
  | 0, .int _ => true
  | 1, .long _ => true
  | 2, .ref _ => true
  | 2, .null => true
  | _, _ => false
def zm_c1 : Value → Bool
  | .long _ => false
  | .double _ => false
  | _ => true
def zm_nl (ls : List Value) : Nat → Bool
  | 0 => true
  | j + 1 => match ls[j]? with
    | some v => zm_c1 v
    | none => true
def zm_ld (k : Nat) (ls : List Value) (j : Nat) (K : Value → Prop) : Prop := match ls[j]? with
  | some v => zm_isK k v = true ∧ K v
  | none => False
def zm_sto (k : Nat) (ls st : List Value) (j : Nat) (K : List Value → List Value → Prop) : Prop := match st with
  | v :: t => zm_isK k v = true ∧ j < ls.length ∧ zm_nl ls j = true ∧ K (ls.set j v) t
  | [] => False
def zm_stoL (ls st : List Value) (j : Nat) (K : List Value → List Value → Prop) : Prop := match st with
  | v :: t => zm_isK 1 v = true ∧ j + 1 < ls.length ∧ zm_nl ls j = true ∧ K ((ls.set j v).set (j + 1) zm_un) t
  | [] => False
def zm_s1 (st : List Value) (f : Int32 → Value) (K : List Value → Prop) : Prop := match st with
  | .int x :: t => K (f x :: t)
  | _ => False
def zm_s2 (st : List Value) (f : Int32 → Int32 → Value) (K : List Value → Prop) : Prop := match st with
  | .int y :: .int x :: t => K (f x y :: t)
  | _ => False
def zm_l1 (st : List Value) (f : Int64 → Value) (K : List Value → Prop) : Prop := match st with
  | .long x :: t => K (f x :: t)
  | _ => False
def zm_l2 (st : List Value) (f : Int64 → Int64 → Value) (K : List Value → Prop) : Prop := match st with
  | .long y :: .long x :: t => K (f x y :: t)
  | _ => False
def zm_lsh (st : List Value) (f : Int64 → Int32 → Value) (K : List Value → Prop) : Prop := match st with
  | .int y :: .long x :: t => K (f x y :: t)
  | _ => False
def zm_cd : Jvm.ClassFile.Cond → Int32 → Int32 → Prop
  | .eq, x, y => x = y
  | .ne, x, y => ¬ x = y
  | .lt, x, y => x < y
  | .ge, x, y => y ≤ x
  | .gt, x, y => y < x
  | .le, x, y => x ≤ y
/-- the default of an array's places, by its tag -/
def zm_df (t : Nat) : Value := if t = 102 then .long 0 else if t < 200 then .int 0 else .null
/-- tags of arrays of references -/
def zm_ro (t : Nat) : Bool := match zt_at t with
  | some (.object _) => true
  | _ => false
/-- where a switch goes -/
def zm_sw (d : Nat) : List (Int × Nat) → Int → Nat
  | [], _ => d
  | (k, t) :: l, x => if k = x then t else zm_sw d l x
/-- an array's place read -/
def zm_rd (st : List Value) (h : zm_H) (T : Nat → Bool) (K : List Value → Prop) : Prop := match st with
  | .int i :: .ref a :: t => a < zm_nx h ∧ T (zm_tg h a) = true ∧ vp_in i (zm_ln h a) ∧ K (zm_at h a i.toNatClampNeg :: t)
  | _ => False
/-- an array's place written with an int -/
def zm_wr (st : List Value) (h : zm_H) (tag : Nat) (f : Int32 → Int32) (K : List Value → zm_H → Prop) : Prop := match st with
  | .int v :: .int i :: .ref a :: t => zm_is h a tag ∧ vp_in i (zm_ln h a) ∧ K t (zm_put h a i.toNatClampNeg (.int (f v)))
  | _ => False
/-- arguments and rest: n values off the stack -/
def zm_ar (n : Nat) (st : List Value) : List Value := (st.take n).reverse
section
variable (C : Nat → List Value → zm_H → Option Value → zm_H → Prop) (k : Nat → List Value → List Value → zm_H → Prop) (np x y : Nat) (sw : List (Int × Nat)) (ls st : List Value) (h : zm_H)
/-- a call of the method x with n values off the stack -/
def zm_cl (n : Nat) : Prop := n ≤ st.length ∧ (st.drop n).length ≤ 4 ∧ ∃ r1 h1, C x (zm_ar n st) h r1 h1 ∧ k np ls (r1.toList ++ st.drop n) h1
/-- Math.max, Math.min, System.arraycopy of bytes, by their numbers -/
def zm_in : Prop := match x, st with
  | 1001, .int b :: .int a :: t => t.length ≤ 4 ∧ k np ls (.int (if a < b then b else a) :: t) h
  | 1002, .int b :: .int a :: t => t.length ≤ 4 ∧ k np ls (.int (if b < a then b else a) :: t) h
  | 1003, .int n :: .int dp :: .ref d :: .int sp :: .ref a :: t => t.length ≤ 4 ∧ zm_is h a 100 ∧ zm_is h d 100 ∧ ¬ sp < 0 ∧ ¬ dp < 0 ∧ ¬ n < 0 ∧ sp.toNatClampNeg + n.toNatClampNeg ≤ zm_ln h a ∧ dp.toNatClampNeg + n.toNatClampNeg ≤ zm_ln h d ∧ (∀ i, i < n.toNatClampNeg → zm_fit .byte (zm_at h a (sp.toNatClampNeg + i)) = true) ∧ k np ls t (zm_cp h a sp.toNatClampNeg d dp.toNatClampNeg n.toNatClampNeg)
  | _, _ => False
def zm_ex (ret : Option FieldType) (r : Option Value) (h' : zm_H) (i : Instr) : Prop := match i with
  | .iconst v => k np ls (.int (Int32.ofInt v) :: st) h
  | .bipush v => k np ls (.int (Int8.ofInt v).toInt32 :: st) h
  | .sipush v => k np ls (.int (Int16.ofInt v).toInt32 :: st) h
  | .ldc _ => match sw with
    | [(v, _)] => k np ls (.int (Int32.ofInt v) :: st) h
    | _ => False
  | .ldc2_w _ => match sw with
    | [(v, _)] => k np ls (.long (Int64.ofInt v) :: st) h
    | _ => False
  | .lconst n => k np ls (.long (Int64.ofNat n) :: st) h
  | .aconst_null => k np ls (.null :: st) h
  | .iload j => zm_ld 0 ls j (fun v => k np ls (v :: st) h)
  | .iload_n j => zm_ld 0 ls j (fun v => k np ls (v :: st) h)
  | .lload j => zm_ld 1 ls j (fun v => k np ls (v :: st) h)
  | .lload_n j => zm_ld 1 ls j (fun v => k np ls (v :: st) h)
  | .aload j => zm_ld 2 ls j (fun v => k np ls (v :: st) h)
  | .aload_n j => zm_ld 2 ls j (fun v => k np ls (v :: st) h)
  | .istore j => zm_sto 0 ls st j (fun ls' t => k np ls' t h)
  | .istore_n j => zm_sto 0 ls st j (fun ls' t => k np ls' t h)
  | .astore j => zm_sto 2 ls st j (fun ls' t => k np ls' t h)
  | .astore_n j => zm_sto 2 ls st j (fun ls' t => k np ls' t h)
  | .lstore j => zm_stoL ls st j (fun ls' t => k np ls' t h)
  | .lstore_n j => zm_stoL ls st j (fun ls' t => k np ls' t h)
  | .iinc j n => zm_ld 0 ls j (fun v => match v with
    | .int z => j < ls.length ∧ zm_nl ls j = true ∧ k np (ls.set j (.int (z + Int32.ofInt n))) st h
    | _ => False)
  | .iadd => zm_s2 st (fun a b => .int (a + b)) (fun t => k np ls t h)
  | .isub => zm_s2 st (fun a b => .int (a - b)) (fun t => k np ls t h)
  | .imul => zm_s2 st (fun a b => .int (a * b)) (fun t => k np ls t h)
  | .iand => zm_s2 st (fun a b => .int (a &&& b)) (fun t => k np ls t h)
  | .ior => zm_s2 st (fun a b => .int (a ||| b)) (fun t => k np ls t h)
  | .ixor => zm_s2 st (fun a b => .int (a ^^^ b)) (fun t => k np ls t h)
  | .land => zm_l2 st (fun a b => .long (a &&& b)) (fun t => k np ls t h)
  | .lor => zm_l2 st (fun a b => .long (a ||| b)) (fun t => k np ls t h)
  | .lushr => zm_lsh st (fun a b => .long (a.toUInt64 >>> (b.toInt64.toUInt64 &&& Int64.toUInt64 63)).toInt64) (fun t => k np ls t h)
  | .lshl => zm_lsh st (fun a b => .long (a <<< (b.toInt64 &&& 63))) (fun t => k np ls t h)
  | .lshr => zm_lsh st (fun a b => .long (a >>> (b.toInt64 &&& 63))) (fun t => k np ls t h)
  | .l2i => zm_l1 st (fun a => .int a.toInt32) (fun t => k np ls t h)
  | .i2l => zm_s1 st (fun a => .long a.toInt64) (fun t => k np ls t h)
  | .i2b => zm_s1 st (fun a => .int a.toInt8.toInt32) (fun t => k np ls t h)
  | .dup => match st with
    | v :: t => zm_c1 v = true ∧ k np ls (v :: v :: t) h
    | _ => False
  | .pop => match st with
    | v :: t => zm_c1 v = true ∧ k np ls t h
    | _ => False
  | .dup_x1 => match st with
    | v :: w :: t => zm_c1 v = true ∧ zm_c1 w = true ∧ k np ls (v :: w :: v :: t) h
    | _ => False
  | .dup2 => match st with
    | v :: w :: t => zm_c1 v = true ∧ zm_c1 w = true ∧ k np ls (v :: w :: v :: w :: t) h
    | _ => False
  | .ifCond cd _ => match st with
    | .int a :: t => (zm_cd cd a 0 → k x ls t h) ∧ (¬ zm_cd cd a 0 → k np ls t h)
    | _ => False
  | .if_icmp cd _ => match st with
    | .int b :: .int a :: t => (zm_cd cd a b → k x ls t h) ∧ (¬ zm_cd cd a b → k np ls t h)
    | _ => False
  | .if_acmp .eq _ => match st with
    | b :: a :: t => zm_isK 2 a = true ∧ zm_isK 2 b = true ∧ (a = b → k x ls t h) ∧ (¬ a = b → k np ls t h)
    | _ => False
  | .if_acmp .ne _ => match st with
    | b :: a :: t => zm_isK 2 a = true ∧ zm_isK 2 b = true ∧ (¬ a = b → k x ls t h) ∧ (a = b → k np ls t h)
    | _ => False
  | .ifnull _ => match st with
    | .null :: t => k x ls t h
    | .ref _ :: t => k np ls t h
    | _ => False
  | .ifnonnull _ => match st with
    | .null :: t => k np ls t h
    | .ref _ :: t => k x ls t h
    | _ => False
  | .goto _ => k x ls st h
  | .tableswitch .. => match st with
    | .int a :: t => k (zm_sw x sw a.toInt) ls t h
    | _ => False
  | .getfield _ => match st with
    | .ref a :: t => zm_is h a x ∧ k np ls (zm_at h a y :: t) h
    | _ => False
  | .putfield _ => match st with
    | v :: .ref a :: t => zm_is h a x ∧ zm_fit (zt_ty x y) v = true ∧ k np ls t (zm_put h a y v)
    | _ => False
  | .new _ => k np ls (.ref (zm_nx h) :: st) (zm_mk h x y (zt_df x))
  | .newarray _ => match st with
    | .int n :: t => ¬ n < 0 ∧ n.toNatClampNeg ≤ 60000000 ∧ k np ls (.ref (zm_nx h) :: t) (zm_mk h x n.toNatClampNeg (fun _ => zm_df x))
    | _ => False
  | .anewarray _ => match st with
    | .int n :: t => ¬ n < 0 ∧ n.toNatClampNeg ≤ 60000000 ∧ k np ls (.ref (zm_nx h) :: t) (zm_mk h x n.toNatClampNeg (fun _ => zm_df x))
    | _ => False
  | .arraylength => match st with
    | .ref a :: t => a < zm_nx h ∧ (zt_at (zm_tg h a)).isSome = true ∧ k np ls (.int (Int32.ofNat (zm_ln h a)) :: t) h
    | _ => False
  | .iaload => zm_rd st h (fun t => t == 101) (fun t => k np ls t h)
  | .baload => zm_rd st h (fun t => t == 100) (fun t => k np ls t h)
  | .aaload => zm_rd st h zm_ro (fun t => k np ls t h)
  | .iastore => zm_wr st h 101 id (fun t h1 => k np ls t h1)
  | .bastore => zm_wr st h 100 (fun v => v.toInt8.toInt32) (fun t h1 => k np ls t h1)
  | .aastore => match st with
    | .null :: .int i :: .ref a :: t => zm_ro (zm_tg h a) = true ∧ zm_is h a (zm_tg h a) ∧ vp_in i (zm_ln h a) ∧ k np ls t (zm_put h a i.toNatClampNeg .null)
    | .ref b :: .int i :: .ref a :: t => zm_ro (zm_tg h a) = true ∧ zm_is h a (zm_tg h a) ∧ zm_is h b (zm_tg h a - 200) ∧ vp_in i (zm_ln h a) ∧ k np ls t (zm_put h a i.toNatClampNeg (.ref b))
    | _ => False
  | .invokestatic _ => if 1000 < x then zm_in k np x ls st h else zm_cl C k np x ls st h y
  | .invokevirtual _ => (∃ a, st[y]? = some (.ref a) ∧ zm_is h a (zt_mc x)) ∧ zm_cl C k np x ls st h (y + 1)
  | .invokespecial _ => if x = 1000 then (match st with
      | .ref _ :: t => t.length ≤ 4 ∧ k np ls t h
      | _ => False)
    else (∃ a, st[y]? = some (.ref a)) ∧ zm_cl C k np x ls st h (y + 1)
  | .ireturn => match st with
    | [.int v] => r = some (.int v) ∧ h' = h ∧ ∃ ty, ret = some ty ∧ zm_fit ty (.int v) = true
    | _ => False
  | .areturn => match st with
    | [v] => r = some v ∧ h' = h ∧ zm_isK 2 v = true ∧ ∃ ty, ret = some ty ∧ zm_fit ty v = true
    | _ => False
  | .return_ => st = [] ∧ r = none ∧ h' = h ∧ ret = none
  | _ => False
end
/-- n instructions of method M, from pc on, end with r and h' -/
def zm_rn (C : Nat → List Value → zm_H → Option Value → zm_H → Prop) (M : Nat) (r : Option Value) (h' : zm_H) : Nat → Nat → List Value → List Value → zm_H → Prop
  | 0 => fun _ _ _ _ => False
  | n + 1 => fun pc ls st h => ∃ E : zm_E, zt_code M pc = some E ∧ zm_ex C (zm_rn C M r h' n) E.2.1 E.2.2.1 E.2.2.2.1 E.2.2.2.2 ls st h (zt_rt M) r h' E.1
/-- the places with which a method begins -/
def zm_fl (args : List Value) : List Value := args.flatMap fun v => if zm_c1 v = true then [v] else [v, zm_un]
def zm_lo (args : List Value) (n : Nat) : List Value := zm_fl args ++ List.replicate (n - (zm_fl args).length) zm_un
/-- method M, called with these values, ends with r and h' (calls at most d deep) -/
def zm_ca : Nat → Nat → List Value → zm_H → Option Value → zm_H → Prop
  | 0 => fun _ _ _ _ _ => False
  | d + 1 => fun M args h r h' => (zm_fl args).length ≤ zt_ml M ∧ ∃ n, zm_rn (zm_ca d) M r h' n 0 (zm_lo args (zt_ml M)) [] h
end
section
/-! what the small machine's steps give, taken apart -/
section
variable {P : Prop}
theorem zm_ld_el {k : Nat} {ls : List Value} {j : Nat} {K : Value → Prop} (h : zm_ld k ls j K) (f : ∀ v, ls[j]? = some v → zm_isK k v = true → K v → P) : P := by
  unfold zm_ld at h
  split at h
  · next v e => exact f v e h.1 h.2
  · exact h.elim
theorem zm_sto_el {k : Nat} {ls st : List Value} {j : Nat} {K : List Value → List Value → Prop} (h : zm_sto k ls st j K) (f : ∀ v t, st = v :: t → zm_isK k v = true → j < ls.length → zm_nl ls j = true → K (ls.set j v) t → P) : P := by
  unfold zm_sto at h
  split at h
  · next v t => exact f v t rfl h.1 h.2.1 h.2.2.1 h.2.2.2
  · exact h.elim
theorem zm_stoL_el {ls st : List Value} {j : Nat} {K : List Value → List Value → Prop} (h : zm_stoL ls st j K) (f : ∀ v t, st = v :: t → zm_isK 1 v = true → j + 1 < ls.length → zm_nl ls j = true → K ((ls.set j v).set (j + 1) zm_un) t → P) : P := by
  unfold zm_stoL at h
  split at h
  · next v t => exact f v t rfl h.1 h.2.1 h.2.2.1 h.2.2.2
  · exact h.elim
theorem zm_s1_el {st : List Value} {g : Int32 → Value} {K : List Value → Prop} (h : zm_s1 st g K) (f : ∀ x t, st = .int x :: t → K (g x :: t) → P) : P := by
  unfold zm_s1 at h
  split at h
  · next x t => exact f x t rfl h
  · exact h.elim
theorem zm_s2_el {st : List Value} {g : Int32 → Int32 → Value} {K : List Value → Prop} (h : zm_s2 st g K) (f : ∀ x y t, st = .int y :: .int x :: t → K (g x y :: t) → P) : P := by
  unfold zm_s2 at h
  split at h
  · next y x t => exact f x y t rfl h
  · exact h.elim
theorem zm_l1_el {st : List Value} {g : Int64 → Value} {K : List Value → Prop} (h : zm_l1 st g K) (f : ∀ x t, st = .long x :: t → K (g x :: t) → P) : P := by
  unfold zm_l1 at h
  split at h
  · next x t => exact f x t rfl h
  · exact h.elim
theorem zm_l2_el {st : List Value} {g : Int64 → Int64 → Value} {K : List Value → Prop} (h : zm_l2 st g K) (f : ∀ x y t, st = .long y :: .long x :: t → K (g x y :: t) → P) : P := by
  unfold zm_l2 at h
  split at h
  · next y x t => exact f x y t rfl h
  · exact h.elim
theorem zm_lsh_el {st : List Value} {g : Int64 → Int32 → Value} {K : List Value → Prop} (h : zm_lsh st g K) (f : ∀ x y t, st = .int y :: .long x :: t → K (g x y :: t) → P) : P := by
  unfold zm_lsh at h
  split at h
  · next y x t => exact f x y t rfl h
  · exact h.elim
theorem zm_rd_el {st : List Value} {h : zm_H} {T : Nat → Bool} {K : List Value → Prop} (hh : zm_rd st h T K) (f : ∀ i a t, st = .int i :: .ref a :: t → a < zm_nx h → T (zm_tg h a) = true → vp_in i (zm_ln h a) → K (zm_at h a i.toNatClampNeg :: t) → P) : P := by
  unfold zm_rd at hh
  split at hh
  · next i a t => exact f i a t rfl hh.1 hh.2.1 hh.2.2.1 hh.2.2.2
  · exact hh.elim
theorem zm_wr_el {st : List Value} {h : zm_H} {T : Nat} {g : Int32 → Int32} {K : List Value → zm_H → Prop} (hh : zm_wr st h T g K) (f : ∀ v i a t, st = .int v :: .int i :: .ref a :: t → zm_is h a T → vp_in i (zm_ln h a) → K t (zm_put h a i.toNatClampNeg (.int (g v))) → P) : P := by
  unfold zm_wr at hh
  split at hh
  · next v i a t => exact f v i a t rfl hh.1 hh.2.1 hh.2.2
  · exact hh.elim
end
theorem zm_isK0 {v : Value} (h : zm_isK 0 v = true) : ∃ x, v = .int x := by
  cases v <;> first | exact ⟨_, rfl⟩ | (simp [zm_isK] at h)
theorem zm_isK1 {v : Value} (h : zm_isK 1 v = true) : ∃ x, v = .long x := by
  cases v <;> first | exact ⟨_, rfl⟩ | (simp [zm_isK] at h)
theorem zm_isK2 {v : Value} (h : zm_isK 2 v = true) : v = .null ∨ ∃ a, v = .ref a := by
  cases v <;> first | exact Or.inl rfl | exact Or.inr ⟨_, rfl⟩ | (simp [zm_isK] at h)
theorem zm_fit_ok {ty : FieldType} {v : Value} (h : zm_fit ty v = true) : narrow ty v = v ∧ fits ty v = true := by
  cases ty <;> cases v <;> simp only [zm_fit, Bool.or_eq_true, beq_iff_eq, Bool.and_eq_true] at h <;> first | exact ⟨rfl, rfl⟩ | (rcases h with rfl | rfl <;> exact ⟨by decide, by decide⟩) | exact ⟨by rw [narrow_byte, h.1], h.2⟩ | (exact absurd h (by decide))
section
variable {C : Nat → List Value → zm_H → Option Value → zm_H → Prop} {k : Nat → List Value → List Value → zm_H → Prop} {np x y : Nat} {sw : List (Int × Nat)} {ls st : List Value} {h h' : zm_H} {ret : Option FieldType} {r : Option Value}
/-- nothing that was made goes -/
theorem zm_ex_mono (hC : ∀ M a h r h1, C M a h r h1 → zm_nx h ≤ zm_nx h1 ∧ zm_sl h ≤ zm_sl h1) (hk : ∀ pc ls st h, k pc ls st h → zm_nx h ≤ zm_nx h' ∧ zm_sl h ≤ zm_sl h') {i : Instr} (hx : zm_ex C k np x y sw ls st h ret r h' i) : zm_nx h ≤ zm_nx h' ∧ zm_sl h ≤ zm_sl h' := by
  have hcl : ∀ n, zm_cl C k np x ls st h n → zm_nx h ≤ zm_nx h' ∧ zm_sl h ≤ zm_sl h' := by
    intro n hn
    obtain ⟨-, -, r1, h1, c1, k1⟩ := hn
    have a1 := hC _ _ _ _ _ c1
    have a2 := hk _ _ _ _ k1
    exact ⟨Nat.le_trans a1.1 a2.1, Nat.le_trans a1.2 a2.2⟩
  have hmk : ∀ t n f (h2 : zm_nx (zm_mk h t n f) ≤ zm_nx h' ∧ zm_sl (zm_mk h t n f) ≤ zm_sl h'), zm_nx h ≤ zm_nx h' ∧ zm_sl h ≤ zm_sl h' := by
    intro t n f h2
    have e1 : zm_nx (zm_mk h t n f) = zm_nx h + 1 := rfl
    have e2 : zm_sl (zm_mk h t n f) = zm_sl h + n := rfl
    omega
  cases i with
  | iconst v | bipush v | sipush v | lconst v | aconst_null | goto o => exact hk _ _ _ _ hx
  | ldc v | ldc2_w v =>
    simp only [zm_ex] at hx
    split at hx
    · exact hk _ _ _ _ hx
    · exact hx.elim
  | iload j | iload_n j | lload j | lload_n j | aload j | aload_n j => exact zm_ld_el hx (fun v _ _ q => hk _ _ _ _ q)
  | istore j | istore_n j | astore j | astore_n j =>
    simp only [zm_ex] at hx
    exact zm_sto_el hx (fun v t _ _ _ _ q => hk _ _ _ _ q)
  | lstore j | lstore_n j =>
    simp only [zm_ex] at hx
    exact zm_stoL_el hx (fun v t _ _ _ _ q => hk _ _ _ _ q)
  | iinc j n =>
    refine zm_ld_el hx (fun v _ _ q => ?_)
    split at q
    · exact hk _ _ _ _ q.2.2
    · exact q.elim
  | iadd | isub | imul | iand | ior | ixor =>
    simp only [zm_ex] at hx
    exact zm_s2_el hx (fun _ _ _ _ q => hk _ _ _ _ q)
  | land | lor =>
    simp only [zm_ex] at hx
    exact zm_l2_el hx (fun _ _ _ _ q => hk _ _ _ _ q)
  | lushr | lshl | lshr =>
    simp only [zm_ex] at hx
    exact zm_lsh_el hx (fun _ _ _ _ q => hk _ _ _ _ q)
  | l2i =>
    simp only [zm_ex] at hx
    exact zm_l1_el hx (fun _ _ _ q => hk _ _ _ _ q)
  | i2l | i2b =>
    simp only [zm_ex] at hx
    exact zm_s1_el hx (fun _ _ _ q => hk _ _ _ _ q)
  | dup | pop =>
    simp only [zm_ex] at hx
    split at hx
    · exact hk _ _ _ _ hx.2
    · exact hx.elim
  | dup_x1 | dup2 =>
    simp only [zm_ex] at hx
    split at hx
    · exact hk _ _ _ _ hx.2.2
    · exact hx.elim
  | ifCond cd o | if_icmp cd o =>
    simp only [zm_ex] at hx
    split at hx
    · next a => exact (Classical.em _).elim (fun q => hk _ _ _ _ (hx.1 q)) (fun q => hk _ _ _ _ (hx.2 q))
    · exact hx.elim
  | if_acmp cd o =>
    cases cd <;> simp only [zm_ex] at hx <;> split at hx
    · exact (Classical.em _).elim (fun q => hk _ _ _ _ (hx.2.2.1 q)) (fun q => hk _ _ _ _ (hx.2.2.2 q))
    · exact hx.elim
    · exact (Classical.em _).elim (fun q => hk _ _ _ _ (hx.2.2.2 q)) (fun q => hk _ _ _ _ (hx.2.2.1 q))
    · exact hx.elim
  | ifnull o | ifnonnull o =>
    simp only [zm_ex] at hx
    split at hx
    · exact hk _ _ _ _ hx
    · exact hk _ _ _ _ hx
    · exact hx.elim
  | tableswitch =>
    simp only [zm_ex] at hx
    split at hx
    · exact hk _ _ _ _ hx
    · exact hx.elim
  | getfield o =>
    simp only [zm_ex] at hx
    split at hx
    · exact hk _ _ _ _ hx.2
    · exact hx.elim
  | putfield o =>
    simp only [zm_ex] at hx
    split at hx
    · have z := hk _ _ _ _ hx.2.2
      exact z
    · exact hx.elim
  | new o => exact hmk _ _ _ (hk _ _ _ _ hx)
  | newarray o | anewarray o =>
    simp only [zm_ex] at hx
    split at hx
    · exact hmk _ _ _ (hk _ _ _ _ hx.2.2)
    · exact hx.elim
  | arraylength =>
    simp only [zm_ex] at hx
    split at hx
    · exact hk _ _ _ _ hx.2.2
    · exact hx.elim
  | iaload | baload | aaload =>
    simp only [zm_ex] at hx
    exact zm_rd_el hx (fun _ _ _ _ _ _ _ q => hk _ _ _ _ q)
  | iastore | bastore =>
    simp only [zm_ex] at hx
    refine zm_wr_el hx (fun _ _ _ _ _ _ _ q => ?_)
    have z := hk _ _ _ _ q
    exact z
  | aastore =>
    simp only [zm_ex] at hx
    split at hx
    · have z := hk _ _ _ _ hx.2.2.2
      exact z
    · have z := hk _ _ _ _ hx.2.2.2.2
      exact z
    · exact hx.elim
  | invokestatic o =>
    simp only [zm_ex] at hx
    split at hx
    · unfold zm_in at hx
      split at hx
      · exact hk _ _ _ _ hx.2
      · exact hk _ _ _ _ hx.2
      · have z := hk _ _ _ _ hx.2.2.2.2.2.2.2.2.2
        exact z
      · exact hx.elim
    · exact hcl _ hx
  | invokevirtual o =>
    exact hcl _ hx.2
  | invokespecial o =>
    simp only [zm_ex] at hx
    split at hx
    · split at hx
      · exact hk _ _ _ _ hx.2
      · exact hx.elim
    · exact hcl _ hx.2
  | ireturn =>
    simp only [zm_ex] at hx
    split at hx
    · obtain ⟨-, e, -⟩ := hx
      rw [e]; exact ⟨Nat.le_refl _, Nat.le_refl _⟩
    · exact hx.elim
  | areturn =>
    simp only [zm_ex] at hx
    split at hx
    · obtain ⟨-, e, -⟩ := hx
      rw [e]; exact ⟨Nat.le_refl _, Nat.le_refl _⟩
    · exact hx.elim
  | return_ =>
    obtain ⟨-, -, e, -⟩ := hx
    rw [e]; exact ⟨Nat.le_refl _, Nat.le_refl _⟩
  | _ => exact False.elim hx
end
theorem zm_rn_mono {C : Nat → List Value → zm_H → Option Value → zm_H → Prop} {M : Nat} {r : Option Value} {h' : zm_H} (hC : ∀ M a h r h1, C M a h r h1 → zm_nx h ≤ zm_nx h1 ∧ zm_sl h ≤ zm_sl h1) : ∀ (n pc : Nat) (ls st : List Value) (h : zm_H), zm_rn C M r h' n pc ls st h → zm_nx h ≤ zm_nx h' ∧ zm_sl h ≤ zm_sl h'
  | 0, _, _, _, _, hr => False.elim hr
  | n + 1, _, _, _, _, hr => by
    obtain ⟨E, -, hx⟩ := hr
    exact zm_ex_mono hC (fun pc ls st h q => zm_rn_mono hC n pc ls st h q) hx
theorem zm_ca_mono : ∀ (d M : Nat) (a : List Value) (h : zm_H) (r : Option Value) (h1 : zm_H), zm_ca d M a h r h1 → zm_nx h ≤ zm_nx h1 ∧ zm_sl h ≤ zm_sl h1
  | 0, _, _, _, _, _, hr => False.elim hr
  | d + 1, _, _, _, _, _, hr => by
    obtain ⟨-, n, hn⟩ := hr
    exact zm_rn_mono (fun M a h r h1 q => zm_ca_mono d M a h r h1 q) n _ _ _ _ hn
end
section
/-! the small machine's heap in the machine's heap -/
/-- ids of the numbered kinds, their slots, ids of the arrays' kinds by tags, the script's cell, the cell ahead of the first new one -/
abbrev zm_G : Type := (Nat → ClassId) × (Nat → Nat → Nat) × (Nat → ClassId) × Nat × Nat
def zm_ad (G : zm_G) (a : Nat) : Nat := if a = 0 then G.2.2.2.1 else G.2.2.2.2 + a
def zm_cv (G : zm_G) : Value → Value
  | .ref a => .ref (zm_ad G a)
  | v => v
def zm_A (G : zm_G) : Nat → Prop := fun q => G.2.2.2.2 < q
/-- a cell -/
def zm_ce (G : zm_G) (h : zm_H) (H : Heap) (a : Nat) : Prop :=
  (zm_tg h a < 100 → ∃ q, zt_cl[zm_tg h a]? = some q ∧ t_OB (zm_ad G a) (G.1 (zm_tg h a)) q.2.2 (G.2.1 (zm_tg h a)) H (fun k => zm_cv G (zm_at h a k))) ∧
  (100 ≤ zm_tg h a → H[zm_ad G a]? = some (arrV (G.2.2.1 (zm_tg h a)) (zm_ln h a) (fun j => zm_cv G (zm_at h a j))))
def zm_sc (G : zm_G) (s : State) (h : zm_H) (H : Heap) : Prop := ∃ scr : Cell, H[G.2.2.2.1]? = some scr ∧ s.isArrayOf scr .int ∧ scr.vm ≠ .unknown ∧ scr.slots.size = zm_ln h 0 ∧ ∀ j : Nat, j < zm_ln h 0 → scr.slots[j]? = some (zm_cv G (zm_at h 0 j))
/-- the whole heap -/
def zm_wl (G : zm_G) (s : State) (h : zm_H) (H : Heap) : Prop :=
  H.size = G.2.2.2.2 + zm_nx h ∧ 1 ≤ zm_nx h ∧ G.2.2.2.1 ≤ G.2.2.2.2 ∧ zm_tg h 0 = 101 ∧ zm_sc G s h H ∧ ∀ a, 0 < a → a < zm_nx h → zm_ce G h H a
/-- what is known of the tables -/
def zm_K (G : zm_G) (U : State) : Prop :=
  (∀ (c : Nat) (q : vw_C), zt_cl[c]? = some q → u_Kn U q.1 q.2.1 q.2.2 (G.1 c) (G.2.1 c)) ∧ (∀ (t : Nat) (ty : FieldType), zt_at t = some ty → ArrOfT U (G.2.2.1 t) ty ∧ va_RA U (G.2.2.1 t) ty) ∧
  (∀ C ∈ zt_ao, va_AO C U) ∧ (∀ q ∈ zt_nm2, va_Nw (.methodLinkNest q.1 q.2.1 q.2.2.1 q.2.2.2) U)
theorem zm_K.moved {G : zm_G} {u U : State} (hW : u.WarmedH U.vm) (h : zm_K G u) : zm_K G U :=
  ⟨fun c q hq => u_Kn_moved hW.alike (h.1 c q hq), fun t ty ht => ⟨arrOfT_moved hW.alike (h.2.1 t ty ht).1, (h.2.1 t ty ht).2.moved hW.alike⟩, fun C hC => (h.2.2.1 C hC).moved hW.alike, fun q hq => (h.2.2.2 q hq).warmM hW⟩
theorem zm_K.same {G : zm_G} {u U : State} (hv : u.vm = U.vm) (h : zm_K G u) : zm_K G U := by
  have al : u.vm.Alike U.vm := by rw [hv]; exact Vm.Alike.refl _
  exact ⟨fun c q hq => u_Kn_moved al (h.1 c q hq), fun t ty ht => ⟨arrOfT_moved al (h.2.1 t ty ht).1, (h.2.1 t ty ht).2.moved al⟩, fun C hC => (h.2.2.1 C hC).moved al, fun q hq => (h.2.2.2 q hq).same rfl hv⟩
theorem zm_wl.moved {G : zm_G} {u U : State} {h : zm_H} {H : Heap} (al : u.vm.Alike U.vm) (hw : zm_wl G u h H) : zm_wl G U h H := by
  obtain ⟨a, b, c, d, ⟨scr, e1, e2, e3⟩, f⟩ := hw
  exact ⟨a, b, c, d, ⟨scr, e1, State.isArrayOf_alike al e2, e3⟩, f⟩
theorem zm_ad_pos {G : zm_G} {a : Nat} (ha : 0 < a) : zm_ad G a = G.2.2.2.2 + a := by
  unfold zm_ad
  rw [if_neg (by omega)]
theorem zm_A_ad {G : zm_G} {a : Nat} (ha : 0 < a) : zm_A G (zm_ad G a) := by
  rw [zm_ad_pos ha]
  show G.2.2.2.2 < _
  omega
theorem zm_ce.kept {G : zm_G} {h h2 : zm_H} {H H' : Heap} {a : Nat} (hc : zm_ce G h H a) (ht : zm_tg h2 a = zm_tg h a) (hn : zm_ln h2 a = zm_ln h a) (hat : ∀ j, zm_at h2 a j = zm_at h a j) (hq : H'[zm_ad G a]? = H[zm_ad G a]?) : zm_ce G h2 H' a := by
  refine ⟨fun hl => ?_, fun hl => ?_⟩
  · rw [ht] at hl ⊢
    obtain ⟨q, h1, h2'⟩ := hc.1 hl
    exact ⟨q, h1, (h2'.kept hq).to (fun k _ => by rw [hat])⟩
  · rw [ht] at hl ⊢
    rw [hq, hc.2 hl, hn]
    congr 2
    funext j
    rw [hat]
/-- one cell's contents have changed -/
theorem zm_wl_upd {G : zm_G} {s : State} {h h2 : zm_H} {H H' : Heap} {a : Nat} (hw : zm_wl G s h H) (ha : 0 < a) (hn : zm_nx h2 = zm_nx h) (ht : ∀ b, zm_tg h2 b = zm_tg h b) (hl : ∀ b, zm_ln h2 b = zm_ln h b) (hat : ∀ b j, b ≠ a → zm_at h2 b j = zm_at h b j) (z : H'.size = H.size) (oq : ∀ q, q ≠ zm_ad G a → H'[q]? = H[q]?) (hce : zm_ce G h2 H' a) : zm_wl G s h2 H' := by
  obtain ⟨w1, w2, w3, w4, ⟨scr, e1, e2, e3, e4, e5⟩, w6⟩ := hw
  have hne : G.2.2.2.1 ≠ zm_ad G a := by rw [zm_ad_pos ha]; omega
  refine ⟨by rw [z, hn]; exact w1, by rw [hn]; exact w2, w3, by rw [ht]; exact w4, ⟨scr, by rw [oq _ hne]; exact e1, e2, e3, by rw [hl]; exact e4, fun j hj => ?_⟩, fun b hb hb2 => ?_⟩
  · rw [hl] at hj
    rw [hat 0 j (by omega)]
    exact e5 j hj
  · by_cases hba : b = a
    · rw [hba]; exact hce
    · refine (w6 b hb (by rw [← hn]; exact hb2)).kept (ht b) (hl b) (fun j => hat b j hba) (oq _ ?_)
      rw [zm_ad_pos ha, zm_ad_pos hb]
      omega
/-- a new cell -/
theorem zm_wl_mk {G : zm_G} {s : State} {h : zm_H} {H H' : Heap} {t n : Nat} {f : Nat → Value} (hw : zm_wl G s h H) (z : H'.size = H.size + 1) (oq : ∀ q, q < H.size → H'[q]? = H[q]?) (hce : zm_ce G (zm_mk h t n f) H' (zm_nx h)) : zm_wl G s (zm_mk h t n f) H' := by
  obtain ⟨w1, w2, w3, w4, ⟨scr, e1, e2, e3, e4, e5⟩, w6⟩ := hw
  have hnx : zm_nx (zm_mk h t n f) = zm_nx h + 1 := rfl
  have old : ∀ b, b ≠ zm_nx h → zm_tg (zm_mk h t n f) b = zm_tg h b ∧ zm_ln (zm_mk h t n f) b = zm_ln h b ∧ ∀ j, zm_at (zm_mk h t n f) b j = zm_at h b j := by
    intro b hb
    have hb' : ¬ b = h.1 := hb
    simp [zm_tg, zm_ln, zm_at, zm_mk, hb']
  obtain ⟨o1, o2, o3⟩ := old 0 (by omega)
  refine ⟨by rw [z, hnx, w1]; omega, by rw [hnx]; omega, w3, by rw [o1]; exact w4, ⟨scr, by rw [oq _ (by omega)]; exact e1, e2, e3, by rw [o2]; exact e4, fun j hj => ?_⟩, fun b hb hb2 => ?_⟩
  · rw [o2] at hj
    rw [o3]
    exact e5 j hj
  · by_cases hba : b = zm_nx h
    · rw [hba]; exact hce
    · obtain ⟨p1, p2, p3⟩ := old b hba
      refine (w6 b hb (by omega)).kept p1 p2 p3 (oq _ ?_)
      rw [zm_ad_pos hb]
      omega

def zm_nf : Value → Bool
  | .float _ => false
  | _ => true
def zm_ll (G : zm_G) (ls : List Value) : List (Nat × Value) := (List.range ls.length).filterMap fun j => (ls[j]?).bind fun v => if zm_nf v = true then some (j, zm_cv G v) else none
theorem zm_ll_mem {G : zm_G} {ls : List Value} {q : Nat × Value} : q ∈ zm_ll G ls ↔ ∃ v, ls[q.1]? = some v ∧ zm_nf v = true ∧ q.2 = zm_cv G v := by
  unfold zm_ll
  constructor
  · intro hq
    obtain ⟨j, -, hj⟩ := List.mem_filterMap.mp hq
    obtain ⟨v, hv, hv2⟩ := Option.bind_eq_some_iff.mp hj
    split at hv2
    · next hf => cases hv2; exact ⟨v, hv, hf, rfl⟩
    · cases hv2
  · rintro ⟨v, hv, hf, e⟩
    refine List.mem_filterMap.mpr ⟨q.1, List.mem_range.mpr ((List.getElem?_eq_some_iff.mp hv).1), ?_⟩
    rw [hv, Option.bind_some, if_pos hf, ← e]
def zm_lr (G : zm_G) (n : Nat) (ls : List Value) (lsA : Array Slot) : Prop := ls.length = n ∧ lv_has lsA n (zm_ll G ls)
theorem zm_lr_at {G : zm_G} {n j : Nat} {ls : List Value} {lsA : Array Slot} {v : Value} (h : zm_lr G n ls lsA) (hv : ls[j]? = some v) (hf : zm_nf v = true) : lsA[j]? = some (.val (zm_cv G v)) :=
  h.2.2.2 (j, zm_cv G v) (zm_ll_mem.mpr ⟨v, hv, hf, rfl⟩)
theorem zm_cat {G : zm_G} {v : Value} (h : zm_c1 v = true) : (zm_cv G v).category = 1 := by
  cases v <;> first | rfl | (simp [zm_c1] at h)
theorem zm_lr_st1 {G : zm_G} {n j : Nat} {ls : List Value} {ls' : Array Slot} {v : Value} (hl : ls.length = n) (hn : zm_nl ls j = true) (h' : lv_has ls' n ((j, zm_cv G v) :: (zm_ll G ls).filter (fun q => !(q.1 == j) && !(q.1 + 1 == j && q.2.category == 2)))) : zm_lr G n (ls.set j v) ls' := by
  refine ⟨by rw [List.length_set]; exact hl, h'.1, h'.2.1, fun q hq => h'.2.2 q ?_⟩
  obtain ⟨w, hw, hf, e⟩ := zm_ll_mem.mp hq
  by_cases hqj : q.1 = j
  · rw [hqj] at hw
    have hlt : j < ls.length := by
      have := (List.getElem?_eq_some_iff.mp hw).1
      rwa [List.length_set] at this
    rw [List.getElem?_set_self hlt] at hw
    cases hw
    have : q = (j, zm_cv G v) := Prod.ext hqj e
    rw [this]
    exact List.mem_cons_self
  · rw [List.getElem?_set_ne (Ne.symm hqj)] at hw
    refine List.mem_cons_of_mem _ (List.mem_filter.mpr ⟨zm_ll_mem.mpr ⟨w, hw, hf, e⟩, ?_⟩)
    have h2 : ¬ (q.1 + 1 = j ∧ q.2.category = 2) := by
      rintro ⟨a1, a2⟩
      subst a1
      have hn : (match ls[q.1]? with | some v => zm_c1 v | none => true) = true := hn
      rw [hw] at hn
      rw [e, zm_cat hn] at a2
      exact absurd a2 (by decide)
    simp only [Bool.and_eq_true, Bool.not_eq_true', beq_eq_false_iff_ne, ne_eq, Bool.and_eq_false_iff]
    refine ⟨hqj, ?_⟩
    by_cases a1 : q.1 + 1 = j
    · exact Or.inr (fun a2 => h2 ⟨a1, a2⟩)
    · exact Or.inl a1
theorem zm_lr_st2 {G : zm_G} {n j : Nat} {ls : List Value} {ls' : Array Slot} {v : Value} (hl : ls.length = n) (hn : zm_nl ls j = true) (h' : lv_has ls' n ((j, zm_cv G v) :: (zm_ll G ls).filter (fun q => !(q.1 == j) && (!(q.1 == j + 1) && !(q.1 + 1 == j && q.2.category == 2))))) : zm_lr G n ((ls.set j v).set (j + 1) zm_un) ls' := by
  refine ⟨by rw [List.length_set, List.length_set]; exact hl, h'.1, h'.2.1, fun q hq => h'.2.2 q ?_⟩
  obtain ⟨w, hw, hf, e⟩ := zm_ll_mem.mp hq
  by_cases hq1 : q.1 = j + 1
  · rw [hq1] at hw
    have hlt : j + 1 < (ls.set j v).length := by
      have := (List.getElem?_eq_some_iff.mp hw).1
      rwa [List.length_set] at this
    rw [List.getElem?_set_self hlt] at hw
    cases hw
    exact absurd hf (by decide)
  · rw [List.getElem?_set_ne (Ne.symm hq1)] at hw
    by_cases hqj : q.1 = j
    · rw [hqj] at hw
      have hlt : j < ls.length := by
        have := (List.getElem?_eq_some_iff.mp hw).1
        rwa [List.length_set] at this
      rw [List.getElem?_set_self hlt] at hw
      cases hw
      have : q = (j, zm_cv G v) := Prod.ext hqj e
      rw [this]
      exact List.mem_cons_self
    · rw [List.getElem?_set_ne (Ne.symm hqj)] at hw
      refine List.mem_cons_of_mem _ (List.mem_filter.mpr ⟨zm_ll_mem.mpr ⟨w, hw, hf, e⟩, ?_⟩)
      have h2 : ¬ (q.1 + 1 = j ∧ q.2.category = 2) := by
        rintro ⟨a1, a2⟩
        subst a1
        have hn : (match ls[q.1]? with | some v => zm_c1 v | none => true) = true := hn
        rw [hw] at hn
        rw [e, zm_cat hn] at a2
        exact absurd a2 (by decide)
      simp only [Bool.and_eq_true, Bool.not_eq_true', beq_eq_false_iff_ne, ne_eq, Bool.and_eq_false_iff]
      refine ⟨hqj, hq1, ?_⟩
      by_cases a1 : q.1 + 1 = j
      · exact Or.inr (fun a2 => h2 ⟨a1, a2⟩)
      · exact Or.inl a1
end
section
theorem zm_c1_cat {G : zm_G} {v : Value} : ¬ zm_c1 v = true → (zm_cv G v).category = 2 := by
  intro h
  cases v <;> first | rfl | (exact absurd rfl h)
theorem zm_fl_mem {G : zm_G} : ∀ (args : List Value) (i j : Nat) (v : Value), (zm_fl args)[j]? = some v → zm_nf v = true → (i + j, zm_cv G v) ∈ lv_args i (args.map (zm_cv G))
  | [], _, _, _, h, _ => by simp [zm_fl] at h
  | a :: l, i, j, v, h, hf => by
    have e : zm_fl (a :: l) = (if zm_c1 a = true then [a] else [a, zm_un]) ++ zm_fl l := rfl
    rw [e] at h
    show _ ∈ (i, zm_cv G a) :: lv_args (if (zm_cv G a).category = 2 then i + 2 else i + 1) (l.map (zm_cv G))
    by_cases hc : zm_c1 a = true
    · rw [if_pos hc] at h
      rw [if_neg (by rw [zm_cat hc]; decide)]
      cases j with
      | zero => cases h; exact List.mem_cons_self
      | succ j =>
        have h' : (zm_fl l)[j]? = some v := h
        have := zm_fl_mem (G := G) l (i + 1) j v h' hf
        rw [show i + 1 + j = i + (j + 1) by omega] at this
        exact List.mem_cons_of_mem _ this
    · rw [if_neg hc] at h
      rw [if_pos (zm_c1_cat hc)]
      cases j with
      | zero => cases h; exact List.mem_cons_self
      | succ j =>
        cases j with
        | zero => cases h; exact absurd hf (by decide)
        | succ j =>
          have h' : (zm_fl l)[j]? = some v := h
          have := zm_fl_mem (G := G) l (i + 2) j v h' hf
          rw [show i + 2 + j = i + (j + 1 + 1) by omega] at this
          exact List.mem_cons_of_mem _ this
theorem zm_fl_len {G : zm_G} : ∀ args : List Value, (lg_sl (args.map (zm_cv G))).length = (zm_fl args).length
  | [] => rfl
  | a :: l => by
    have e : zm_fl (a :: l) = (if zm_c1 a = true then [a] else [a, zm_un]) ++ zm_fl l := rfl
    have e2 : lg_sl ((a :: l).map (zm_cv G)) = (if (zm_cv G a).category = 2 then [Slot.val (zm_cv G a), Slot.second] else [Slot.val (zm_cv G a)]) ++ lg_sl (l.map (zm_cv G)) := rfl
    rw [e, e2, List.length_append, List.length_append, zm_fl_len l]
    by_cases hc : zm_c1 a = true
    · rw [if_pos hc, if_neg (by rw [zm_cat (G := G) hc]; decide)]; rfl
    · rw [if_neg hc, if_pos (zm_c1_cat hc)]; rfl
theorem zm_lr_entry {G : zm_G} {args : List Value} {n : Nat} (h : (zm_fl args).length ≤ n) : zm_lr G n (zm_lo args n) ((lg_sl (args.map (zm_cv G)) ++ List.replicate (n - (lg_sl (args.map (zm_cv G))).length) Slot.unset).toArray) := by
  have hb := lv_entry (args.map (zm_cv G)) (n := n) (by rw [zm_fl_len]; exact h)
  refine ⟨?_, hb.1, hb.2.1, fun q hq => hb.2.2 q ?_⟩
  · show (zm_fl args ++ List.replicate (n - (zm_fl args).length) zm_un).length = n
    rw [List.length_append, List.length_replicate]
    omega
  · obtain ⟨v, hv, hf, e⟩ := zm_ll_mem.mp hq
    have hv' : (zm_fl args ++ List.replicate (n - (zm_fl args).length) zm_un)[q.1]? = some v := hv
    by_cases hl : q.1 < (zm_fl args).length
    · rw [List.getElem?_append_left hl] at hv'
      have := zm_fl_mem (G := G) args 0 q.1 v hv' hf
      rw [Nat.zero_add, ← e] at this
      exact this
    · rw [List.getElem?_append_right (by omega)] at hv'
      have := List.mem_of_getElem? hv'
      rw [List.mem_replicate] at this
      rw [this.2] at hf
      exact absurd hf (by decide)
/-! a method's bytes, as the small machine has them, are what the machine runs -/
def zm_len : Instr → Nat
  | .bipush _ | .ldc _ | .iload _ | .lload _ | .aload _ | .istore _ | .lstore _ | .astore _ | .newarray _ => 2
  | .sipush _ | .ldc2_w _ | .iinc _ _ | .ifCond _ _ | .if_icmp _ _ | .if_acmp _ _ | .ifnull _ | .ifnonnull _ | .goto _ | .getfield _ | .putfield _ | .new _ | .anewarray _ | .invokestatic _ | .invokevirtual _ | .invokespecial _ => 3
  | _ => 1
/-- a field's entry -/
def zm_rf (own : String) (idx x y : Nat) : Prop := ∃ q : vw_C, zt_cl[x]? = some q ∧ y < q.2.2 ∧ Jvm.Cond.fieldLink own idx (q.2.1 y).1 (q.2.1 y).2.1 (q.2.1 y).2.2.1 ∈ zt_ws
/-- a field's entry that is written -/
def zm_rp (own nm : String) (idx x y : Nat) : Prop := ∃ q : vw_C, zt_cl[x]? = some q ∧ y < q.2.2 ∧ Jvm.Cond.fieldLink own idx (q.2.1 y).1 (q.2.1 y).2.1 (q.2.1 y).2.2.1 ∈ zt_ws ∧ ((q.2.1 y).2.2.2 = false ∨ ((q.2.1 y).2.2.2 = true ∧ nm = "<init>" ∧ (q.2.1 y).1 = own))
theorem zm_rp_any {own nm : String} {idx x y : Nat} (h : zm_rp own "" idx x y) : zm_rp own nm idx x y := by
  obtain ⟨q, h1, h2, h3, h4 | ⟨-, h4, -⟩⟩ := h
  · exact ⟨q, h1, h2, h3, Or.inl h4⟩
  · exact absurd h4 (by decide)
def zm_rnw (own : String) (idx x y : Nat) : Prop := ∃ q : vw_C, zt_cl[x]? = some q ∧ q.2.2 = y ∧ Jvm.Cond.classLink own idx q.1 ∈ zt_ws ∧ Jvm.Cond.instantiable q.1 y ∈ zt_ws ∧ Jvm.Cond.initialized q.1 ∈ zt_ws
def zm_ran (own : String) (idx x : Nat) : Prop := 200 ≤ x ∧ ∃ C, zt_at x = some (.object C) ∧ C ∈ zt_ao ∧ Jvm.Cond.classLink own idx C ∈ zt_ws
def zm_robj (own : String) (idx : Nat) : Prop := Jvm.Cond.methodLink own idx Lib.objectInit ∈ zt_ws ∧ Jvm.Cond.instanceMethod Lib.objectInit ∈ zt_ws ∧ Jvm.Cond.code Lib.objectInit ⟨#[0xb1]⟩ 1 none ∈ zt_ws
def zm_rmax (own : String) (idx : Nat) : Prop := Jvm.Cond.methodLink own idx Lib.Math.max.name ∈ zt_ws ∧ Jvm.Cond.static Lib.Math.max.name ∈ zt_ws ∧ Jvm.Cond.initialized "java/lang/Math" ∈ zt_ws ∧ Jvm.Cond.code Lib.Math.max.name Lib.Math.max.code 2 (some .int) ∈ zt_ws
def zm_rmin (own : String) (idx : Nat) : Prop := Jvm.Cond.methodLink own idx Lib.Math.min.name ∈ zt_ws ∧ Jvm.Cond.static Lib.Math.min.name ∈ zt_ws ∧ Jvm.Cond.initialized "java/lang/Math" ∈ zt_ws ∧ Jvm.Cond.code Lib.Math.min.name Lib.Math.min.code 2 (some .int) ∈ zt_ws
def zm_rcopy (own : String) (idx : Nat) : Prop := Jvm.Cond.methodLink own idx arraycopyName ∈ zt_ws ∧ Jvm.Cond.native arraycopyName ∈ zt_ws ∧ Jvm.Cond.static arraycopyName ∈ zt_ws ∧ Jvm.Cond.initialized "java/lang/System" ∈ zt_ws
/-- a callee's words -/
def zm_cd0 (x y : Nat) : Prop := Jvm.Cond.code (zt_nm x) (zt_by x) (zt_ml x) (zt_rt x) ∈ zt_ws ∧ Jvm.Cond.initialized (zt_nm x).cls ∈ zt_ws ∧ (zt_nm x).cls = zt_own x ∧ ((zt_nm x).cls ≠ "java/lang/invoke/MethodHandle" ∧ (zt_nm x).cls ≠ "java/lang/invoke/VarHandle") ∧ (parseMethodDescriptor (zt_nm x).desc).map (fun d => d.parameters.length) = some y
def zm_lk (own : String) (idx x : Nat) : Prop := Jvm.Cond.methodLink own idx (zt_nm x) ∈ zt_ws ∨ ∃ host, (own, idx, zt_nm x, host) ∈ zt_nm2
def zm_rst (own : String) (idx x y : Nat) : Prop := x < 1000 ∧ zm_cd0 x y ∧ zm_lk own idx x ∧ Jvm.Cond.static (zt_nm x) ∈ zt_ws
def zm_rvi (own : String) (idx x y : Nat) : Prop := x < 1000 ∧ zm_cd0 x y ∧ zm_lk own idx x ∧ Jvm.Cond.instanceMethod (zt_nm x) ∈ zt_ws ∧ Jvm.Cond.selects (zt_own x) (zt_nm x) (zt_nm x) ∈ zt_ws ∧ ∃ q : vw_C, zt_cl[zt_mc x]? = some q ∧ q.1 = zt_own x
def zm_rsp (own : String) (idx x y : Nat) : Prop := x < 1000 ∧ zm_cd0 x y ∧ zm_lk own idx x ∧ Jvm.Cond.instanceMethod (zt_nm x) ∈ zt_ws ∧ (zt_nm x).name = "<init>" ∧ zt_rt x = none
def zm_rs (M pc : Nat) (i : Instr) (x y : Nat) (sw : List (Int × Nat)) : Prop := match i with
  | .ldc idx => ∃ v n, sw = [(v, n)] ∧ Jvm.Cond.constant (zt_own M) idx (Int32.ofInt v) ∈ zt_ws
  | .ldc2_w idx => ∃ v n, sw = [(v, n)] ∧ Jvm.Cond.constantLong (zt_own M) idx (Int64.ofInt v) ∈ zt_ws
  | .ifCond _ o | .if_icmp _ o | .if_acmp _ o | .ifnull o | .ifnonnull o | .goto o => (pc : Int) + o = (x : Int)
  | .tableswitch d lo hi offs => (pc : Int) + d = (x : Int) ∧ ∀ z : Int, ((z < lo ∨ hi < z) → zm_sw x sw z = x) ∧ (¬ z < lo → ¬ hi < z → ∃ o, offs[(z - lo).toNat]? = some o ∧ (pc : Int) + o = (zm_sw x sw z : Int))
  | .getfield idx => zm_rf (zt_own M) idx x y
  | .putfield idx => zm_rp (zt_own M) (zt_nm M).name idx x y
  | .new idx => zm_rnw (zt_own M) idx x y ∧ ∀ j, j < y → defaultValue (zt_ty x j) = zt_df x j
  | .newarray t => 100 ≤ x ∧ x < 200 ∧ zt_at x = some (newarray.typeOf t) ∧ Jvm.Cond.arrayClass (newarray.typeOf t) ∈ zt_ws ∧ defaultValue (newarray.typeOf t) = zm_df x ∧ componentBytes (newarray.typeOf t) ≤ 8
  | .anewarray idx => zm_ran (zt_own M) idx x
  | .invokestatic idx => (x = 1001 ∧ zm_rmax (zt_own M) idx ∧ 1 ≤ zt_fr M ∧ 21 ≤ zt_lc M) ∨ (x = 1002 ∧ zm_rmin (zt_own M) idx ∧ 1 ≤ zt_fr M ∧ 21 ≤ zt_lc M) ∨ (x = 1003 ∧ zm_rcopy (zt_own M) idx ∧ 1 ≤ zt_fr M ∧ 26 ≤ zt_lc M) ∨
      (zm_rst (zt_own M) idx x y ∧ zt_fr x + 1 ≤ zt_fr M ∧ 8 + (zt_ml x + 11) + zt_lc x ≤ zt_lc M)
  | .invokevirtual idx => zm_rvi (zt_own M) idx x y ∧ zt_fr x + 1 ≤ zt_fr M ∧ 8 + (zt_ml x + 11) + zt_lc x ≤ zt_lc M
  | .invokespecial idx => (x = 1000 ∧ zm_robj (zt_own M) idx ∧ 1 ≤ zt_fr M ∧ 20 ≤ zt_lc M) ∨ (zm_rsp (zt_own M) idx x y ∧ zt_fr x + 1 ≤ zt_fr M ∧ 8 + (zt_ml x + 11) + zt_lc x ≤ zt_lc M)
  | _ => True
def zm_mksw (pc : Nat) : Int → List Int → List (Int × Nat)
  | _, [] => []
  | lo, o :: os => (lo, ((pc : Int) + o).toNat) :: zm_mksw pc (lo + 1) os
theorem zm_mksw_out {pc d : Nat} : ∀ (os : List Int) (lo z : Int), (z < lo ∨ lo + os.length ≤ z) → zm_sw d (zm_mksw pc lo os) z = d
  | [], _, _, _ => rfl
  | o :: os, lo, z, h => by
    rw [List.length_cons] at h
    show (if lo = z then _ else zm_sw d (zm_mksw pc (lo + 1) os) z) = d
    rw [if_neg (by omega)]
    exact zm_mksw_out os (lo + 1) z (by omega)
theorem zm_mksw_in {pc d : Nat} : ∀ (os : List Int) (lo z : Int), lo ≤ z → z < lo + os.length → ∃ o, os[(z - lo).toNat]? = some o ∧ zm_sw d (zm_mksw pc lo os) z = ((pc : Int) + o).toNat
  | [], lo, z, h1, h2 => by simp at h2; omega
  | o :: os, lo, z, h1, h2 => by
    rw [List.length_cons] at h2
    by_cases e : lo = z
    · subst e
      refine ⟨o, by simp, ?_⟩
      show (if lo = lo then _ else _) = _
      rw [if_pos rfl]
    · obtain ⟨o', q1, q2⟩ := zm_mksw_in (pc := pc) (d := d) os (lo + 1) z (by omega) (by omega)
      refine ⟨o', ?_, ?_⟩
      · have : (z - lo).toNat = (z - (lo + 1)).toNat + 1 := by omega
        rw [this]
        exact q1
      · show (if lo = z then _ else zm_sw d (zm_mksw pc (lo + 1) os) z) = _
        rw [if_neg e]
        exact q2
theorem zm_tsw {M pc x y : Nat} {sw : List (Int × Nat)} {d lo hi : Int} {offs : Array Int} (h1 : (pc : Int) + d = (x : Int)) (h2 : sw = zm_mksw pc lo offs.toList) (h3 : hi - lo + 1 = (offs.toList.length : Int)) (h4 : offs.toList.all (fun o => decide (0 ≤ (pc : Int) + o)) = true) : zm_rs M pc (.tableswitch d lo hi offs) x y sw := by
  refine ⟨h1, fun z => ⟨fun h => ?_, fun a b => ?_⟩⟩
  · rw [h2]
    exact zm_mksw_out _ _ _ (by omega)
  · obtain ⟨o, q1, q2⟩ := zm_mksw_in (pc := pc) (d := x) offs.toList lo z (by omega) (by omega)
    refine ⟨o, by rw [← Array.getElem?_toList]; exact q1, ?_⟩
    have hp := List.all_eq_true.mp h4 o (List.mem_of_getElem? q1)
    simp only [decide_eq_true_eq] at hp
    rw [h2, q2]
    omega
def zm_swi : Instr → Bool
  | .tableswitch .. => true
  | _ => false
def zm_ok (M pc : Nat) (E : zm_E) : Prop := (∃ len, decode (zt_by M) pc = .ok (E.1, len) ∧ (zm_swi E.1 = false → len = zm_len E.1 ∧ E.2.1 = pc + zm_len E.1)) ∧ zm_rs M pc E.1 E.2.2.1 E.2.2.2.1 E.2.2.2.2
def zm_chk (b : ByteArray) (q : Nat × zm_E) : Bool := match decode b q.1 with
  | .ok (i, len) => decide (i = q.2.1) && (zm_swi q.2.1 || (Nat.beq len (zm_len q.2.1) && Nat.beq q.2.2.1 (q.1 + zm_len q.2.1)))
  | .error _ => false
theorem zm_chk_ok {b : ByteArray} {q : Nat × zm_E} (h : zm_chk b q = true) : ∃ len, decode b q.1 = .ok (q.2.1, len) ∧ (zm_swi q.2.1 = false → len = zm_len q.2.1 ∧ q.2.2.1 = q.1 + zm_len q.2.1) := by
  unfold zm_chk at h
  split at h
  · next i len e =>
    simp only [Bool.and_eq_true, decide_eq_true_eq, Bool.or_eq_true] at h
    obtain ⟨h1, h2⟩ := h
    subst h1
    refine ⟨len, e, fun hs => ?_⟩
    rcases h2 with h2 | h2
    · rw [h2] at hs; cases hs
    · exact ⟨Nat.eq_of_beq_eq_true h2.1, Nat.eq_of_beq_eq_true h2.2⟩
  · cases h
theorem zm_ac {α : Type} {P : α → Prop} {a : α} {l : List α} (h : P a) (t : ∀ q ∈ l, P q) : ∀ q ∈ a :: l, P q := List.forall_mem_cons.mpr ⟨h, t⟩
theorem zm_an {α : Type} {P : α → Prop} : ∀ q ∈ ([] : List α), P q := fun _ h => absurd h List.not_mem_nil
theorem zm_lku_mem : ∀ (l : List (Nat × zm_E)) (pc : Nat) (E : zm_E), zm_lku l pc = some E → (pc, E) ∈ l
  | [], _, _, h => by cases h
  | q :: l, pc, E, h => by
    unfold zm_lku at h
    cases hb : Nat.beq q.1 pc with
    | true =>
      rw [hb] at h
      have e := Nat.eq_of_beq_eq_true hb
      cases h
      rw [← e]
      exact List.mem_cons_self
    | false =>
      rw [hb] at h
      exact List.mem_cons_of_mem _ (zm_lku_mem l pc E h)
theorem zm_okl {M pc : Nat} {E : zm_E} {l : List (Nat × zm_E)} {b : ByteArray} (hb : zt_by M = b) (h : zm_lku l pc = some E) (h1 : l.all (zm_chk b) = true) (h2 : ∀ q ∈ l, zm_rs M q.1 q.2.1 q.2.2.2.1 q.2.2.2.2.1 q.2.2.2.2.2) : zm_ok M pc E := by
  have hm : (pc, E) ∈ l := zm_lku_mem l pc E h
  have h3 : zm_chk b (pc, E) = true := List.all_eq_true.mp h1 (pc, E) hm
  have h4 := zm_chk_ok h3
  have h5 := h2 (pc, E) hm
  unfold zm_ok
  rw [hb]
  exact And.intro h4 h5
theorem zm_jp {a b : Int} (h : a = b) : a = b := h
end
section
theorem zt_m0 {w : Jvm.Cond} (i : Nat) (h : (k2_sels lw_privs)[i]? = some w) (g : goodWord w = true) : w ∈ zt_ws := List.mem_filter.mpr ⟨List.mem_append_left _ (List.mem_of_getElem? h), g⟩
theorem zt_m1 {w : Jvm.Cond} (i : Nat) (h : tables_1_1[i]? = some w) (g : goodWord w = true) : w ∈ zt_ws := List.mem_filter.mpr ⟨List.mem_append_right _ (List.mem_append_left _ (List.mem_of_getElem? h)), g⟩
theorem zt_m2 {w : Jvm.Cond} (i : Nat) (h : tables_1_2[i]? = some w) (g : goodWord w = true) : w ∈ zt_ws := List.mem_filter.mpr ⟨List.mem_append_right _ (List.mem_append_right _ (List.mem_append_left _ (List.mem_of_getElem? h))), g⟩
theorem zt_m3 {w : Jvm.Cond} (i : Nat) (h : tables_1_3[i]? = some w) (g : goodWord w = true) : w ∈ zt_ws := List.mem_filter.mpr ⟨List.mem_append_right _ (List.mem_append_right _ (List.mem_append_right _ (List.mem_of_getElem? h))), g⟩
theorem zu_0 : ∀ w ∈ u_ws ztC0 ztF0 2, w ∈ zt_ws := by
  intro w hw
  obtain ⟨k, hk, rfl⟩ := List.mem_map.mp hw
  have hk := List.mem_range.mp hk
  rcases (show k = 0 ∨ k = 1 by omega) with rfl | rfl
  · exact (zt_m1 101 rfl rfl)
  · exact (zt_m1 103 rfl rfl)
theorem zy_0 : ∀ k, k < 2 → parseFieldDescriptor (ztF0 k).2.2.1 = some (zt_ty 0 k) := by decide +kernel
theorem zn_0 : ∀ a, a < 2 → ∀ b, b < 2 → a ≠ b → (ztF0 a).2.1 ≠ (ztF0 b).2.1 := by decide +kernel
theorem zu_1 : ∀ w ∈ u_ws ztC1 ztF1 4, w ∈ zt_ws := by
  intro w hw
  obtain ⟨k, hk, rfl⟩ := List.mem_map.mp hw
  have hk := List.mem_range.mp hk
  rcases (show k = 0 ∨ k = 1 ∨ k = 2 ∨ k = 3 by omega) with rfl | rfl | rfl | rfl
  · exact (zt_m1 125 rfl rfl)
  · exact (zt_m1 127 rfl rfl)
  · exact (zt_m1 129 rfl rfl)
  · exact (zt_m1 131 rfl rfl)
theorem zy_1 : ∀ k, k < 4 → parseFieldDescriptor (ztF1 k).2.2.1 = some (zt_ty 1 k) := by decide +kernel
theorem zn_1 : ∀ a, a < 4 → ∀ b, b < 4 → a ≠ b → (ztF1 a).2.1 ≠ (ztF1 b).2.1 := by decide +kernel
theorem zu_2 : ∀ w ∈ u_ws ztC2 ztF2 2, w ∈ zt_ws := by
  intro w hw
  obtain ⟨k, hk, rfl⟩ := List.mem_map.mp hw
  have hk := List.mem_range.mp hk
  rcases (show k = 0 ∨ k = 1 by omega) with rfl | rfl
  · exact (zt_m1 137 rfl rfl)
  · exact (zt_m1 139 rfl rfl)
theorem zy_2 : ∀ k, k < 2 → parseFieldDescriptor (ztF2 k).2.2.1 = some (zt_ty 2 k) := by decide +kernel
theorem zn_2 : ∀ a, a < 2 → ∀ b, b < 2 → a ≠ b → (ztF2 a).2.1 ≠ (ztF2 b).2.1 := by decide +kernel
theorem zu_3 : ∀ w ∈ u_ws ztC3 ztF3 3, w ∈ zt_ws := by
  intro w hw
  obtain ⟨k, hk, rfl⟩ := List.mem_map.mp hw
  have hk := List.mem_range.mp hk
  rcases (show k = 0 ∨ k = 1 ∨ k = 2 by omega) with rfl | rfl | rfl
  · exact (zt_m1 161 rfl rfl)
  · exact (zt_m1 163 rfl rfl)
  · exact (zt_m1 165 rfl rfl)
theorem zy_3 : ∀ k, k < 3 → parseFieldDescriptor (ztF3 k).2.2.1 = some (zt_ty 3 k) := by decide +kernel
theorem zn_3 : ∀ a, a < 3 → ∀ b, b < 3 → a ≠ b → (ztF3 a).2.1 ≠ (ztF3 b).2.1 := by decide +kernel
theorem zu_4 : ∀ w ∈ u_ws ztC4 ztF4 2, w ∈ zt_ws := by
  intro w hw
  obtain ⟨k, hk, rfl⟩ := List.mem_map.mp hw
  have hk := List.mem_range.mp hk
  rcases (show k = 0 ∨ k = 1 by omega) with rfl | rfl
  · exact (zt_m1 30 rfl rfl)
  · exact (zt_m1 32 rfl rfl)
theorem zy_4 : ∀ k, k < 2 → parseFieldDescriptor (ztF4 k).2.2.1 = some (zt_ty 4 k) := by decide +kernel
theorem zn_4 : ∀ a, a < 2 → ∀ b, b < 2 → a ≠ b → (ztF4 a).2.1 ≠ (ztF4 b).2.1 := by decide +kernel
theorem zu_5 : ∀ w ∈ u_ws ztC5 ztF5 9, w ∈ zt_ws := by
  intro w hw
  obtain ⟨k, hk, rfl⟩ := List.mem_map.mp hw
  have hk := List.mem_range.mp hk
  rcases (show k = 0 ∨ k = 1 ∨ k = 2 ∨ k = 3 ∨ k = 4 ∨ k = 5 ∨ k = 6 ∨ k = 7 ∨ k = 8 by omega) with rfl | rfl | rfl | rfl | rfl | rfl | rfl | rfl | rfl
  · exact (zt_m1 75 rfl rfl)
  · exact (zt_m1 77 rfl rfl)
  · exact (zt_m1 79 rfl rfl)
  · exact (zt_m1 81 rfl rfl)
  · exact (zt_m1 83 rfl rfl)
  · exact (zt_m1 85 rfl rfl)
  · exact (zt_m1 87 rfl rfl)
  · exact (zt_m1 89 rfl rfl)
  · exact (zt_m1 91 rfl rfl)
theorem zy_5 : ∀ k, k < 9 → parseFieldDescriptor (ztF5 k).2.2.1 = some (zt_ty 5 k) := by decide +kernel
theorem zn_5 : ∀ a, a < 9 → ∀ b, b < 9 → a ≠ b → (ztF5 a).2.1 ≠ (ztF5 b).2.1 := by decide +kernel
theorem zu_6 : ∀ w ∈ u_ws ztC6 ztF6 11, w ∈ zt_ws := by
  intro w hw
  obtain ⟨k, hk, rfl⟩ := List.mem_map.mp hw
  have hk := List.mem_range.mp hk
  rcases (show k = 0 ∨ k = 1 ∨ k = 2 ∨ k = 3 ∨ k = 4 ∨ k = 5 ∨ k = 6 ∨ k = 7 ∨ k = 8 ∨ k = 9 ∨ k = 10 by omega) with rfl | rfl | rfl | rfl | rfl | rfl | rfl | rfl | rfl | rfl | rfl
  · exact (zt_m1 186 rfl rfl)
  · exact (zt_m1 188 rfl rfl)
  · exact (zt_m1 190 rfl rfl)
  · exact (zt_m1 192 rfl rfl)
  · exact (zt_m1 194 rfl rfl)
  · exact (zt_m1 196 rfl rfl)
  · exact (zt_m1 198 rfl rfl)
  · exact (zt_m1 200 rfl rfl)
  · exact (zt_m1 202 rfl rfl)
  · exact (zt_m1 204 rfl rfl)
  · exact (zt_m1 206 rfl rfl)
theorem zy_6 : ∀ k, k < 11 → parseFieldDescriptor (ztF6 k).2.2.1 = some (zt_ty 6 k) := by decide +kernel
theorem zn_6 : ∀ a, a < 11 → ∀ b, b < 11 → a ≠ b → (ztF6 a).2.1 ≠ (ztF6 b).2.1 := by decide +kernel
theorem zu_7 : ∀ w ∈ u_ws ztC7 ztF7 6, w ∈ zt_ws := by
  intro w hw
  obtain ⟨k, hk, rfl⟩ := List.mem_map.mp hw
  have hk := List.mem_range.mp hk
  rcases (show k = 0 ∨ k = 1 ∨ k = 2 ∨ k = 3 ∨ k = 4 ∨ k = 5 by omega) with rfl | rfl | rfl | rfl | rfl | rfl
  · exact (zt_m1 215 rfl rfl)
  · exact (zt_m1 217 rfl rfl)
  · exact (zt_m1 219 rfl rfl)
  · exact (zt_m1 221 rfl rfl)
  · exact (zt_m1 223 rfl rfl)
  · exact (zt_m1 225 rfl rfl)
theorem zy_7 : ∀ k, k < 6 → parseFieldDescriptor (ztF7 k).2.2.1 = some (zt_ty 7 k) := by decide +kernel
theorem zn_7 : ∀ a, a < 6 → ∀ b, b < 6 → a ≠ b → (ztF7 a).2.1 ≠ (ztF7 b).2.1 := by decide +kernel
theorem zu_8 : ∀ w ∈ u_ws ztC8 ztF8 22, w ∈ zt_ws := by
  intro w hw
  obtain ⟨k, hk, rfl⟩ := List.mem_map.mp hw
  have hk := List.mem_range.mp hk
  rcases (show k = 0 ∨ k = 1 ∨ k = 2 ∨ k = 3 ∨ k = 4 ∨ k = 5 ∨ k = 6 ∨ k = 7 ∨ k = 8 ∨ k = 9 ∨ k = 10 ∨ k = 11 ∨ k = 12 ∨ k = 13 ∨ k = 14 ∨ k = 15 ∨ k = 16 ∨ k = 17 ∨ k = 18 ∨ k = 19 ∨ k = 20 ∨ k = 21 by omega) with rfl | rfl | rfl | rfl | rfl | rfl | rfl | rfl | rfl | rfl | rfl | rfl | rfl | rfl | rfl | rfl | rfl | rfl | rfl | rfl | rfl | rfl
  · exact (zt_m3 42 rfl rfl)
  · exact (zt_m3 44 rfl rfl)
  · exact (zt_m3 46 rfl rfl)
  · exact (zt_m3 48 rfl rfl)
  · exact (zt_m3 50 rfl rfl)
  · exact (zt_m3 52 rfl rfl)
  · exact (zt_m3 54 rfl rfl)
  · exact (zt_m3 56 rfl rfl)
  · exact (zt_m3 58 rfl rfl)
  · exact (zt_m3 60 rfl rfl)
  · exact (zt_m3 62 rfl rfl)
  · exact (zt_m3 64 rfl rfl)
  · exact (zt_m3 66 rfl rfl)
  · exact (zt_m3 68 rfl rfl)
  · exact (zt_m3 70 rfl rfl)
  · exact (zt_m3 72 rfl rfl)
  · exact (zt_m3 74 rfl rfl)
  · exact (zt_m3 76 rfl rfl)
  · exact (zt_m3 78 rfl rfl)
  · exact (zt_m3 80 rfl rfl)
  · exact (zt_m3 82 rfl rfl)
  · exact (zt_m3 84 rfl rfl)
theorem zy_8 : ∀ k, k < 22 → parseFieldDescriptor (ztF8 k).2.2.1 = some (zt_ty 8 k) := by decide +kernel
theorem zn_8 : ∀ a, a < 22 → ∀ b, b < 22 → a ≠ b → (ztF8 a).2.1 ≠ (ztF8 b).2.1 := by decide +kernel
theorem zt_cls_ok : ∀ (x : Nat) (q : vw_C), zt_cl[x]? = some q → x < 100 ∧ (∀ w ∈ u_ws q.1 q.2.1 q.2.2, w ∈ zt_ws) ∧ (∀ k, k < q.2.2 → parseFieldDescriptor (q.2.1 k).2.2.1 = some (zt_ty x k)) ∧ (∀ a, a < q.2.2 → ∀ b, b < q.2.2 → a ≠ b → (q.2.1 a).2.1 ≠ (q.2.1 b).2.1) := by
  intro x q hq
  match x, hq with
  | 0, hq => cases hq; exact ⟨by decide, zu_0, zy_0, zn_0⟩
  | 1, hq => cases hq; exact ⟨by decide, zu_1, zy_1, zn_1⟩
  | 2, hq => cases hq; exact ⟨by decide, zu_2, zy_2, zn_2⟩
  | 3, hq => cases hq; exact ⟨by decide, zu_3, zy_3, zn_3⟩
  | 4, hq => cases hq; exact ⟨by decide, zu_4, zy_4, zn_4⟩
  | 5, hq => cases hq; exact ⟨by decide, zu_5, zy_5, zn_5⟩
  | 6, hq => cases hq; exact ⟨by decide, zu_6, zy_6, zn_6⟩
  | 7, hq => cases hq; exact ⟨by decide, zu_7, zy_7, zn_7⟩
  | 8, hq => cases hq; exact ⟨by decide, zu_8, zy_8, zn_8⟩
  | n + 9, hq => simp [zt_cl] at hq
theorem zt_at_101 : zt_at 101 = some .int := rfl
theorem zt_at_b : zt_at 100 = some .byte := rfl
theorem zt_at_in : ∀ (t : Nat) (ty : FieldType), zt_at t = some ty → t = 100 ∨ t = 101 ∨ t = 201 ∨ t = 203 ∨ t = 205 := by
  intro t ty h
  unfold zt_at at h
  split at h <;> first | omega | (cases h)
theorem zt_at_100 : ∀ (t : Nat) (ty : FieldType), zt_at t = some ty → 100 ≤ t := by
  intro t ty h
  have := zt_at_in t ty h
  omega
theorem zt_ro_ok : ∀ (t : Nat) (C : String), zt_at t = some (.object C) → ∃ q : vw_C, zt_cl[t - 200]? = some q ∧ q.1 = C := by
  intro t C h
  rcases zt_at_in t _ h with rfl | rfl | rfl | rfl | rfl
  · cases h
  · cases h
  · cases h; exact ⟨_, rfl, rfl⟩
  · cases h; exact ⟨_, rfl, rfl⟩
  · cases h; exact ⟨_, rfl, rfl⟩
theorem zk_new_NameTreeLaw_7 : zm_rnw "NameTreeLaw" 7 7 6 := ⟨_, rfl, rfl, (zt_m1 12 rfl rfl), (zt_m1 13 rfl rfl), (zt_m1 1 rfl rfl)⟩
theorem zd_45 : zm_cd0 45 0 := ⟨(zt_m1 16 rfl rfl), (zt_m1 1 rfl rfl), rfl, ⟨by decide, by decide⟩, by decide +kernel⟩
theorem zk_spec_NameTreeLaw_9 : zm_rsp "NameTreeLaw" 9 45 0 := ⟨by decide, zd_45, Or.inl (zt_m1 14 rfl rfl), (zt_m1 15 rfl rfl), rfl, rfl⟩
theorem zk_new_NameTreeLaw_10 : zm_rnw "NameTreeLaw" 10 8 22 := ⟨_, rfl, rfl, (zt_m3 12 rfl rfl), (zt_m3 13 rfl rfl), (zt_m1 9 rfl rfl)⟩
theorem zd_73 : zm_cd0 73 0 := ⟨(zt_m3 16 rfl rfl), (zt_m1 9 rfl rfl), rfl, ⟨by decide, by decide⟩, by decide +kernel⟩
theorem zk_spec_NameTreeLaw_12 : zm_rsp "NameTreeLaw" 12 73 0 := ⟨by decide, zd_73, Or.inl (zt_m3 14 rfl rfl), (zt_m3 15 rfl rfl), rfl, rfl⟩
theorem zk_ldc2_NameTreeLaw_13 : Jvm.Cond.constantLong "NameTreeLaw" 13 (Int64.ofInt 4294967295) ∈ zt_ws := (zt_m3 232 rfl rfl)
theorem zd_46 : zm_cd0 46 2 := ⟨(zt_m1 231 rfl rfl), (zt_m1 1 rfl rfl), rfl, ⟨by decide, by decide⟩, by decide +kernel⟩
theorem zk_virt_NameTreeLaw_15 : zm_rvi "NameTreeLaw" 15 46 2 := ⟨by decide, zd_46, Or.inl (zt_m1 228 rfl rfl), (zt_m1 229 rfl rfl), (zt_m1 230 rfl rfl), _, rfl, rfl⟩
theorem zd_74 : zm_cd0 74 2 := ⟨(zt_m3 91 rfl rfl), (zt_m1 9 rfl rfl), rfl, ⟨by decide, by decide⟩, by decide +kernel⟩
theorem zk_virt_NameTreeLaw_19 : zm_rvi "NameTreeLaw" 19 74 2 := ⟨by decide, zd_74, Or.inl (zt_m3 88 rfl rfl), (zt_m3 89 rfl rfl), (zt_m3 90 rfl rfl), _, rfl, rfl⟩
theorem zd_47 : zm_cd0 47 2 := ⟨(zt_m2 3 rfl rfl), (zt_m1 1 rfl rfl), rfl, ⟨by decide, by decide⟩, by decide +kernel⟩
theorem zk_virt_NameTreeLaw_20 : zm_rvi "NameTreeLaw" 20 47 2 := ⟨by decide, zd_47, Or.inl (zt_m2 0 rfl rfl), (zt_m2 1 rfl rfl), (zt_m2 2 rfl rfl), _, rfl, rfl⟩
theorem zd_75 : zm_cd0 75 2 := ⟨(zt_m3 96 rfl rfl), (zt_m1 9 rfl rfl), rfl, ⟨by decide, by decide⟩, by decide +kernel⟩
theorem zk_virt_NameTreeLaw_24 : zm_rvi "NameTreeLaw" 24 75 2 := ⟨by decide, zd_75, Or.inl (zt_m3 93 rfl rfl), (zt_m3 94 rfl rfl), (zt_m3 95 rfl rfl), _, rfl, rfl⟩
theorem zd_48 : zm_cd0 48 1 := ⟨(zt_m2 7 rfl rfl), (zt_m1 1 rfl rfl), rfl, ⟨by decide, by decide⟩, by decide +kernel⟩
theorem zk_virt_NameTreeLaw_25 : zm_rvi "NameTreeLaw" 25 48 1 := ⟨by decide, zd_48, Or.inl (zt_m2 4 rfl rfl), (zt_m2 5 rfl rfl), (zt_m2 6 rfl rfl), _, rfl, rfl⟩
theorem zd_93 : zm_cd0 93 1 := ⟨(zt_m3 100 rfl rfl), (zt_m1 9 rfl rfl), rfl, ⟨by decide, by decide⟩, by decide +kernel⟩
theorem zk_virt_NameTreeLaw_29 : zm_rvi "NameTreeLaw" 29 93 1 := ⟨by decide, zd_93, Or.inl (zt_m3 97 rfl rfl), (zt_m3 98 rfl rfl), (zt_m3 99 rfl rfl), _, rfl, rfl⟩
theorem zd_49 : zm_cd0 49 1 := ⟨(zt_m2 25 rfl rfl), (zt_m1 1 rfl rfl), rfl, ⟨by decide, by decide⟩, by decide +kernel⟩
theorem zk_virt_NameTreeLaw_30 : zm_rvi "NameTreeLaw" 30 49 1 := ⟨by decide, zd_49, Or.inl (zt_m2 22 rfl rfl), (zt_m2 23 rfl rfl), (zt_m2 24 rfl rfl), _, rfl, rfl⟩
theorem zd_95 : zm_cd0 95 1 := ⟨(zt_m3 115 rfl rfl), (zt_m1 9 rfl rfl), rfl, ⟨by decide, by decide⟩, by decide +kernel⟩
theorem zk_virt_NameTreeLaw_33 : zm_rvi "NameTreeLaw" 33 95 1 := ⟨by decide, zd_95, Or.inl (zt_m3 112 rfl rfl), (zt_m3 113 rfl rfl), (zt_m3 114 rfl rfl), _, rfl, rfl⟩
theorem zd_50 : zm_cd0 50 0 := ⟨(zt_m2 148 rfl rfl), (zt_m1 1 rfl rfl), rfl, ⟨by decide, by decide⟩, by decide +kernel⟩
theorem zk_virt_NameTreeLaw_34 : zm_rvi "NameTreeLaw" 34 50 0 := ⟨by decide, zd_50, Or.inl (zt_m2 145 rfl rfl), (zt_m2 146 rfl rfl), (zt_m2 147 rfl rfl), _, rfl, rfl⟩
theorem zd_96 : zm_cd0 96 0 := ⟨(zt_m3 167 rfl rfl), (zt_m1 9 rfl rfl), rfl, ⟨by decide, by decide⟩, by decide +kernel⟩
theorem zk_virt_NameTreeLaw_38 : zm_rvi "NameTreeLaw" 38 96 0 := ⟨by decide, zd_96, Or.inl (zt_m3 164 rfl rfl), (zt_m3 165 rfl rfl), (zt_m3 166 rfl rfl), _, rfl, rfl⟩
theorem zd_51 : zm_cd0 51 0 := ⟨(zt_m2 161 rfl rfl), (zt_m1 1 rfl rfl), rfl, ⟨by decide, by decide⟩, by decide +kernel⟩
theorem zk_virt_NameTreeLaw_39 : zm_rvi "NameTreeLaw" 39 51 0 := ⟨by decide, zd_51, Or.inl (zt_m2 158 rfl rfl), (zt_m2 159 rfl rfl), (zt_m2 160 rfl rfl), _, rfl, rfl⟩
theorem zd_97 : zm_cd0 97 0 := ⟨(zt_m3 171 rfl rfl), (zt_m1 9 rfl rfl), rfl, ⟨by decide, by decide⟩, by decide +kernel⟩
theorem zk_virt_NameTreeLaw_42 : zm_rvi "NameTreeLaw" 42 97 0 := ⟨by decide, zd_97, Or.inl (zt_m3 168 rfl rfl), (zt_m3 169 rfl rfl), (zt_m3 170 rfl rfl), _, rfl, rfl⟩
theorem zd_52 : zm_cd0 52 0 := ⟨(zt_m2 171 rfl rfl), (zt_m1 1 rfl rfl), rfl, ⟨by decide, by decide⟩, by decide +kernel⟩
theorem zk_virt_NameTreeLaw_43 : zm_rvi "NameTreeLaw" 43 52 0 := ⟨by decide, zd_52, Or.inl (zt_m2 168 rfl rfl), (zt_m2 169 rfl rfl), (zt_m2 170 rfl rfl), _, rfl, rfl⟩
theorem zd_98 : zm_cd0 98 0 := ⟨(zt_m3 175 rfl rfl), (zt_m1 9 rfl rfl), rfl, ⟨by decide, by decide⟩, by decide +kernel⟩
theorem zk_virt_NameTreeLaw_46 : zm_rvi "NameTreeLaw" 46 98 0 := ⟨by decide, zd_98, Or.inl (zt_m3 172 rfl rfl), (zt_m3 173 rfl rfl), (zt_m3 174 rfl rfl), _, rfl, rfl⟩
theorem zd_53 : zm_cd0 53 0 := ⟨(zt_m2 191 rfl rfl), (zt_m1 1 rfl rfl), rfl, ⟨by decide, by decide⟩, by decide +kernel⟩
theorem zk_virt_NameTreeLaw_47 : zm_rvi "NameTreeLaw" 47 53 0 := ⟨by decide, zd_53, Or.inl (zt_m2 188 rfl rfl), (zt_m2 189 rfl rfl), (zt_m2 190 rfl rfl), _, rfl, rfl⟩
theorem zd_99 : zm_cd0 99 0 := ⟨(zt_m3 187 rfl rfl), (zt_m1 9 rfl rfl), rfl, ⟨by decide, by decide⟩, by decide +kernel⟩
theorem zk_virt_NameTreeLaw_50 : zm_rvi "NameTreeLaw" 50 99 0 := ⟨by decide, zd_99, Or.inl (zt_m3 184 rfl rfl), (zt_m3 185 rfl rfl), (zt_m3 186 rfl rfl), _, rfl, rfl⟩
theorem zd_54 : zm_cd0 54 0 := ⟨(zt_m2 195 rfl rfl), (zt_m1 1 rfl rfl), rfl, ⟨by decide, by decide⟩, by decide +kernel⟩
theorem zk_virt_NameTreeLaw_51 : zm_rvi "NameTreeLaw" 51 54 0 := ⟨by decide, zd_54, Or.inl (zt_m2 192 rfl rfl), (zt_m2 193 rfl rfl), (zt_m2 194 rfl rfl), _, rfl, rfl⟩
theorem zd_101 : zm_cd0 101 0 := ⟨(zt_m3 191 rfl rfl), (zt_m1 9 rfl rfl), rfl, ⟨by decide, by decide⟩, by decide +kernel⟩
theorem zk_virt_NameTreeLaw_54 : zm_rvi "NameTreeLaw" 54 101 0 := ⟨by decide, zd_101, Or.inl (zt_m3 188 rfl rfl), (zt_m3 189 rfl rfl), (zt_m3 190 rfl rfl), _, rfl, rfl⟩
theorem zd_55 : zm_cd0 55 1 := ⟨(zt_m2 209 rfl rfl), (zt_m1 1 rfl rfl), rfl, ⟨by decide, by decide⟩, by decide +kernel⟩
theorem zk_virt_NameTreeLaw_55 : zm_rvi "NameTreeLaw" 55 55 1 := ⟨by decide, zd_55, Or.inl (zt_m2 206 rfl rfl), (zt_m2 207 rfl rfl), (zt_m2 208 rfl rfl), _, rfl, rfl⟩
theorem zd_102 : zm_cd0 102 1 := ⟨(zt_m3 199 rfl rfl), (zt_m1 9 rfl rfl), rfl, ⟨by decide, by decide⟩, by decide +kernel⟩
theorem zk_virt_NameTreeLaw_59 : zm_rvi "NameTreeLaw" 59 102 1 := ⟨by decide, zd_102, Or.inl (zt_m3 196 rfl rfl), (zt_m3 197 rfl rfl), (zt_m3 198 rfl rfl), _, rfl, rfl⟩
theorem zd_56 : zm_cd0 56 0 := ⟨(zt_m2 217 rfl rfl), (zt_m1 1 rfl rfl), rfl, ⟨by decide, by decide⟩, by decide +kernel⟩
theorem zk_virt_NameTreeLaw_60 : zm_rvi "NameTreeLaw" 60 56 0 := ⟨by decide, zd_56, Or.inl (zt_m2 214 rfl rfl), (zt_m2 215 rfl rfl), (zt_m2 216 rfl rfl), _, rfl, rfl⟩
theorem zd_103 : zm_cd0 103 0 := ⟨(zt_m3 203 rfl rfl), (zt_m1 9 rfl rfl), rfl, ⟨by decide, by decide⟩, by decide +kernel⟩
theorem zk_virt_NameTreeLaw_63 : zm_rvi "NameTreeLaw" 63 103 0 := ⟨by decide, zd_103, Or.inl (zt_m3 200 rfl rfl), (zt_m3 201 rfl rfl), (zt_m3 202 rfl rfl), _, rfl, rfl⟩
theorem zd_57 : zm_cd0 57 1 := ⟨(zt_m2 221 rfl rfl), (zt_m1 1 rfl rfl), rfl, ⟨by decide, by decide⟩, by decide +kernel⟩
theorem zk_virt_NameTreeLaw_64 : zm_rvi "NameTreeLaw" 64 57 1 := ⟨by decide, zd_57, Or.inl (zt_m2 218 rfl rfl), (zt_m2 219 rfl rfl), (zt_m2 220 rfl rfl), _, rfl, rfl⟩
theorem zd_105 : zm_cd0 105 1 := ⟨(zt_m3 207 rfl rfl), (zt_m1 9 rfl rfl), rfl, ⟨by decide, by decide⟩, by decide +kernel⟩
theorem zk_virt_NameTreeLaw_67 : zm_rvi "NameTreeLaw" 67 105 1 := ⟨by decide, zd_105, Or.inl (zt_m3 204 rfl rfl), (zt_m3 205 rfl rfl), (zt_m3 206 rfl rfl), _, rfl, rfl⟩
theorem zd_58 : zm_cd0 58 2 := ⟨(zt_m2 229 rfl rfl), (zt_m1 1 rfl rfl), rfl, ⟨by decide, by decide⟩, by decide +kernel⟩
theorem zk_virt_NameTreeLaw_68 : zm_rvi "NameTreeLaw" 68 58 2 := ⟨by decide, zd_58, Or.inl (zt_m2 226 rfl rfl), (zt_m2 227 rfl rfl), (zt_m2 228 rfl rfl), _, rfl, rfl⟩
theorem zd_107 : zm_cd0 107 2 := ⟨(zt_m3 215 rfl rfl), (zt_m1 9 rfl rfl), rfl, ⟨by decide, by decide⟩, by decide +kernel⟩
theorem zk_virt_NameTreeLaw_71 : zm_rvi "NameTreeLaw" 71 107 2 := ⟨by decide, zd_107, Or.inl (zt_m3 212 rfl rfl), (zt_m3 213 rfl rfl), (zt_m3 214 rfl rfl), _, rfl, rfl⟩
theorem zd_59 : zm_cd0 59 2 := ⟨(zt_m3 2 rfl rfl), (zt_m1 1 rfl rfl), rfl, ⟨by decide, by decide⟩, by decide +kernel⟩
theorem zk_virt_NameTreeLaw_72 : zm_rvi "NameTreeLaw" 72 59 2 := ⟨by decide, zd_59, Or.inl (zt_m2 239 rfl rfl), (zt_m3 0 rfl rfl), (zt_m3 1 rfl rfl), _, rfl, rfl⟩
theorem zd_108 : zm_cd0 108 2 := ⟨(zt_m3 223 rfl rfl), (zt_m1 9 rfl rfl), rfl, ⟨by decide, by decide⟩, by decide +kernel⟩
theorem zk_virt_NameTreeLaw_75 : zm_rvi "NameTreeLaw" 75 108 2 := ⟨by decide, zd_108, Or.inl (zt_m3 220 rfl rfl), (zt_m3 221 rfl rfl), (zt_m3 222 rfl rfl), _, rfl, rfl⟩
theorem zd_60 : zm_cd0 60 1 := ⟨(zt_m3 7 rfl rfl), (zt_m1 1 rfl rfl), rfl, ⟨by decide, by decide⟩, by decide +kernel⟩
theorem zk_virt_NameTreeLaw_76 : zm_rvi "NameTreeLaw" 76 60 1 := ⟨by decide, zd_60, Or.inl (zt_m3 4 rfl rfl), (zt_m3 5 rfl rfl), (zt_m3 6 rfl rfl), _, rfl, rfl⟩
theorem zd_109 : zm_cd0 109 1 := ⟨(zt_m3 227 rfl rfl), (zt_m1 9 rfl rfl), rfl, ⟨by decide, by decide⟩, by decide +kernel⟩
theorem zk_virt_NameTreeLaw_79 : zm_rvi "NameTreeLaw" 79 109 1 := ⟨by decide, zd_109, Or.inl (zt_m3 224 rfl rfl), (zt_m3 225 rfl rfl), (zt_m3 226 rfl rfl), _, rfl, rfl⟩
theorem zk_obj_NameTree_FileTable_3 : zm_robj "NameTree$FileTable" 3 := ⟨(zt_m1 41 rfl rfl), (zt_m1 18 rfl rfl), (zt_m1 19 rfl rfl)⟩
theorem zk_anew_NameTree_FileTable_9 : zm_ran "NameTree$FileTable" 9 205 := ⟨by decide, _, rfl, by decide, (zt_m1 42 rfl rfl)⟩
theorem zk_putF_NameTree_FileTable_11 : zm_rp "NameTree$FileTable" "<init>" 11 0 0 := ⟨_, rfl, by decide, (zt_m1 98 rfl rfl), Or.inr ⟨rfl, rfl, rfl⟩⟩
theorem zk_new_NameTree_FileTable_9 : zm_rnw "NameTree$FileTable" 9 5 9 := ⟨_, rfl, rfl, (zt_m1 42 rfl rfl), (zt_m1 44 rfl rfl), (zt_m1 4 rfl rfl)⟩
theorem zd_26 : zm_cd0 26 1 := ⟨(zt_m1 47 rfl rfl), (zt_m1 4 rfl rfl), rfl, ⟨by decide, by decide⟩, by decide +kernel⟩
theorem zk_spec_NameTree_FileTable_17 : zm_rsp "NameTree$FileTable" 17 26 1 := ⟨by decide, zd_26, Or.inl (zt_m1 45 rfl rfl), (zt_m1 46 rfl rfl), rfl, rfl⟩
theorem zk_putF_NameTree_FileTable_20 : zm_rp "NameTree$FileTable" "<init>" 20 0 1 := ⟨_, rfl, by decide, (zt_m1 99 rfl rfl), Or.inr ⟨rfl, rfl, rfl⟩⟩
theorem zk_get_NameTree_FileTable_20 : zm_rf "NameTree$FileTable" 20 0 1 := ⟨_, rfl, by decide, (zt_m1 99 rfl rfl)⟩
theorem zd_27 : zm_cd0 27 1 := ⟨(zt_m1 97 rfl rfl), (zt_m1 4 rfl rfl), rfl, ⟨by decide, by decide⟩, by decide +kernel⟩
theorem zk_virt_NameTree_FileTable_24 : zm_rvi "NameTree$FileTable" 24 27 1 := ⟨by decide, zd_27, Or.inl (zt_m1 94 rfl rfl), (zt_m1 95 rfl rfl), (zt_m1 96 rfl rfl), _, rfl, rfl⟩
theorem zk_put_NameTree_FileTable_27 : zm_rp "NameTree$FileTable" "" 27 5 6 := ⟨_, rfl, by decide, (zt_m1 66 rfl rfl), Or.inl rfl⟩
theorem zk_get_NameTree_FileTable_11 : zm_rf "NameTree$FileTable" 11 0 0 := ⟨_, rfl, by decide, (zt_m1 98 rfl rfl)⟩
theorem zk_get_NameTree_FileTable_30 : zm_rf "NameTree$FileTable" 30 5 1 := ⟨_, rfl, by decide, (zt_m1 52 rfl rfl)⟩
theorem zd_30 : zm_cd0 30 0 := ⟨(zt_m2 15 rfl rfl), (zt_m1 4 rfl rfl), rfl, ⟨by decide, by decide⟩, by decide +kernel⟩
theorem zk_virt_NameTree_FileTable_34 : zm_rvi "NameTree$FileTable" 34 30 0 := ⟨by decide, zd_30, Or.inl (zt_m2 12 rfl rfl), (zt_m2 13 rfl rfl), (zt_m2 14 rfl rfl), _, rfl, rfl⟩
theorem zk_get_NameTree_FileTable_27 : zm_rf "NameTree$FileTable" 27 5 6 := ⟨_, rfl, by decide, (zt_m1 66 rfl rfl)⟩
theorem zk_obj_NameTree_NameRow_3 : zm_robj "NameTree$NameRow" 3 := ⟨(zt_m1 118 rfl rfl), (zt_m1 18 rfl rfl), (zt_m1 19 rfl rfl)⟩
theorem zk_get_NameTree_NameRow_9 : zm_rf "NameTree$NameRow" 9 1 2 := ⟨_, rfl, by decide, (zt_m1 123 rfl rfl)⟩
theorem zk_put_NameTree_NameRow_9 : zm_rp "NameTree$NameRow" "" 9 1 2 := ⟨_, rfl, by decide, (zt_m1 123 rfl rfl), Or.inl rfl⟩
theorem zd_72 : zm_cd0 72 4 := ⟨(zt_m2 137 rfl rfl), (zt_m1 1 rfl rfl), rfl, ⟨by decide, by decide⟩, by decide +kernel⟩
theorem zk_stat_NameTree_NameRow_15 : zm_rst "NameTree$NameRow" 15 72 4 := ⟨by decide, zd_72, Or.inr ⟨_, List.mem_of_getElem? (i := 0) rfl⟩, (zt_m2 136 rfl rfl)⟩
theorem zk_put_NameTree_NameRow_19 : zm_rp "NameTree$NameRow" "" 19 1 3 := ⟨_, rfl, by decide, (zt_m1 124 rfl rfl), Or.inl rfl⟩
theorem zk_get_NameTree_NameRow_19 : zm_rf "NameTree$NameRow" 19 1 3 := ⟨_, rfl, by decide, (zt_m1 124 rfl rfl)⟩
theorem zk_obj_NameTree_NameTable_3 : zm_robj "NameTree$NameTable" 3 := ⟨(zt_m1 111 rfl rfl), (zt_m1 18 rfl rfl), (zt_m1 19 rfl rfl)⟩
theorem zk_anew_NameTree_NameTable_9 : zm_ran "NameTree$NameTable" 9 201 := ⟨by decide, _, rfl, by decide, (zt_m1 112 rfl rfl)⟩
theorem zk_putF_NameTree_NameTable_11 : zm_rp "NameTree$NameTable" "<init>" 11 2 0 := ⟨_, rfl, by decide, (zt_m1 134 rfl rfl), Or.inr ⟨rfl, rfl, rfl⟩⟩
theorem zk_get_NameTree_NameTable_11 : zm_rf "NameTree$NameTable" 11 2 0 := ⟨_, rfl, by decide, (zt_m1 134 rfl rfl)⟩
theorem zk_new_NameTree_NameTable_9 : zm_rnw "NameTree$NameTable" 9 1 4 := ⟨_, rfl, rfl, (zt_m1 112 rfl rfl), (zt_m1 114 rfl rfl), (zt_m1 6 rfl rfl)⟩
theorem zd_7 : zm_cd0 7 0 := ⟨(zt_m1 117 rfl rfl), (zt_m1 6 rfl rfl), rfl, ⟨by decide, by decide⟩, by decide +kernel⟩
theorem zk_spec_NameTree_NameTable_17 : zm_rsp "NameTree$NameTable" 17 7 0 := ⟨by decide, zd_7, Or.inr ⟨_, List.mem_of_getElem? (i := 1) rfl⟩, (zt_m1 116 rfl rfl), rfl, rfl⟩
theorem zk_get_NameTree_NameTable_18 : zm_rf "NameTree$NameTable" 18 2 1 := ⟨_, rfl, by decide, (zt_m1 135 rfl rfl)⟩
theorem zk_get_NameTree_NameTable_22 : zm_rf "NameTree$NameTable" 22 1 0 := ⟨_, rfl, by decide, (zt_m1 119 rfl rfl)⟩
theorem zd_9 : zm_cd0 9 3 := ⟨(zt_m2 98 rfl rfl), (zt_m1 6 rfl rfl), rfl, ⟨by decide, by decide⟩, by decide +kernel⟩
theorem zk_virt_NameTree_NameTable_26 : zm_rvi "NameTree$NameTable" 26 9 3 := ⟨by decide, zd_9, Or.inl (zt_m2 95 rfl rfl), (zt_m2 96 rfl rfl), (zt_m2 97 rfl rfl), _, rfl, rfl⟩
theorem zk_get_NameTree_NameTable_30 : zm_rf "NameTree$NameTable" 30 6 8 := ⟨_, rfl, by decide, (zt_m1 179 rfl rfl)⟩
theorem zk_put_NameTree_NameTable_18 : zm_rp "NameTree$NameTable" "" 18 2 1 := ⟨_, rfl, by decide, (zt_m1 135 rfl rfl), Or.inl rfl⟩
theorem zk_get_NameTree_NameTable_33 : zm_rf "NameTree$NameTable" 33 6 5 := ⟨_, rfl, by decide, (zt_m1 173 rfl rfl)⟩
theorem zk_get_NameTree_NameTable_37 : zm_rf "NameTree$NameTable" 37 6 6 := ⟨_, rfl, by decide, (zt_m1 175 rfl rfl)⟩
theorem zk_get_NameTree_NameTable_40 : zm_rf "NameTree$NameTable" 40 6 7 := ⟨_, rfl, by decide, (zt_m1 178 rfl rfl)⟩
theorem zd_8 : zm_cd0 8 3 := ⟨(zt_m2 134 rfl rfl), (zt_m1 6 rfl rfl), rfl, ⟨by decide, by decide⟩, by decide +kernel⟩
theorem zk_virt_NameTree_NameTable_43 : zm_rvi "NameTree$NameTable" 43 8 3 := ⟨by decide, zd_8, Or.inl (zt_m2 131 rfl rfl), (zt_m2 132 rfl rfl), (zt_m2 133 rfl rfl), _, rfl, rfl⟩
theorem zk_put_NameTree_NameTable_22 : zm_rp "NameTree$NameTable" "" 22 1 0 := ⟨_, rfl, by decide, (zt_m1 119 rfl rfl), Or.inl rfl⟩
theorem zk_put_NameTree_NameTable_47 : zm_rp "NameTree$NameTable" "" 47 1 1 := ⟨_, rfl, by decide, (zt_m1 120 rfl rfl), Or.inl rfl⟩
theorem zk_get_NameTree_NameTable_50 : zm_rf "NameTree$NameTable" 50 5 4 := ⟨_, rfl, by decide, (zt_m1 62 rfl rfl)⟩
theorem zk_put_NameTree_NameTable_50 : zm_rp "NameTree$NameTable" "" 50 5 4 := ⟨_, rfl, by decide, (zt_m1 62 rfl rfl), Or.inl rfl⟩
theorem zk_get_NameTree_NameTable_55 : zm_rf "NameTree$NameTable" 55 5 5 := ⟨_, rfl, by decide, (zt_m1 65 rfl rfl)⟩
theorem zk_max_NameTree_NameTable_58 : zm_rmax "NameTree$NameTable" 58 := ⟨(zt_m2 144 rfl rfl), (zt_m2 124 rfl rfl), (zt_m1 10 rfl rfl), (zt_m2 125 rfl rfl)⟩
theorem zk_put_NameTree_NameTable_55 : zm_rp "NameTree$NameTable" "" 55 5 5 := ⟨_, rfl, by decide, (zt_m1 65 rfl rfl), Or.inl rfl⟩
theorem zk_get_NameTree_NameTable_64 : zm_rf "NameTree$NameTable" 64 5 2 := ⟨_, rfl, by decide, (zt_m1 57 rfl rfl)⟩
theorem zk_put_NameTree_NameTable_64 : zm_rp "NameTree$NameTable" "" 64 5 2 := ⟨_, rfl, by decide, (zt_m1 57 rfl rfl), Or.inl rfl⟩
theorem zk_get_NameTree_NameTable_67 : zm_rf "NameTree$NameTable" 67 5 1 := ⟨_, rfl, by decide, (zt_m1 53 rfl rfl)⟩
theorem zk_put_NameTree_NameTable_70 : zm_rp "NameTree$NameTable" "" 70 5 6 := ⟨_, rfl, by decide, (zt_m1 68 rfl rfl), Or.inl rfl⟩
theorem zd_14 : zm_cd0 14 1 := ⟨(zt_m2 182 rfl rfl), (zt_m1 5 rfl rfl), rfl, ⟨by decide, by decide⟩, by decide +kernel⟩
theorem zk_stat_NameTree_NameTable_73 : zm_rst "NameTree$NameTable" 73 14 1 := ⟨by decide, zd_14, Or.inl (zt_m2 180 rfl rfl), (zt_m2 181 rfl rfl)⟩
theorem zk_get_NameTree_NameTable_47 : zm_rf "NameTree$NameTable" 47 1 1 := ⟨_, rfl, by decide, (zt_m1 120 rfl rfl)⟩
theorem zk_obj_NameTree_Span_3 : zm_robj "NameTree$Span" 3 := ⟨(zt_m1 154 rfl rfl), (zt_m1 18 rfl rfl), (zt_m1 19 rfl rfl)⟩
theorem zk_get_NameTree_Span_9 : zm_rf "NameTree$Span" 9 3 1 := ⟨_, rfl, by decide, (zt_m1 157 rfl rfl)⟩
theorem zk_get_NameTree_Span_15 : zm_rf "NameTree$Span" 15 3 2 := ⟨_, rfl, by decide, (zt_m1 159 rfl rfl)⟩
theorem zd_18 : zm_cd0 18 2 := ⟨(zt_m2 74 rfl rfl), (zt_m1 8 rfl rfl), rfl, ⟨by decide, by decide⟩, by decide +kernel⟩
theorem zk_virt_NameTree_Span_18 : zm_rvi "NameTree$Span" 18 18 2 := ⟨by decide, zd_18, Or.inl (zt_m2 71 rfl rfl), (zt_m2 73 rfl rfl), (zt_m0 6 rfl rfl), _, rfl, rfl⟩
theorem zk_put_NameTree_Span_9 : zm_rp "NameTree$Span" "" 9 3 1 := ⟨_, rfl, by decide, (zt_m1 157 rfl rfl), Or.inl rfl⟩
theorem zk_get_NameTree_Span_22 : zm_rf "NameTree$Span" 22 3 0 := ⟨_, rfl, by decide, (zt_m1 155 rfl rfl)⟩
theorem zk_obj_NameTree_Tape_3 : zm_robj "NameTree$Tape" 3 := ⟨(zt_m1 25 rfl rfl), (zt_m1 18 rfl rfl), (zt_m1 19 rfl rfl)⟩
theorem zk_putF_NameTree_Tape_9 : zm_rp "NameTree$Tape" "<init>" 9 4 0 := ⟨_, rfl, by decide, (zt_m1 26 rfl rfl), Or.inr ⟨rfl, rfl, rfl⟩⟩
theorem zk_get_NameTree_Tape_15 : zm_rf "NameTree$Tape" 15 4 1 := ⟨_, rfl, by decide, (zt_m1 28 rfl rfl)⟩
theorem zk_get_NameTree_Tape_9 : zm_rf "NameTree$Tape" 9 4 0 := ⟨_, rfl, by decide, (zt_m1 26 rfl rfl)⟩
theorem zk_put_NameTree_Tape_15 : zm_rp "NameTree$Tape" "" 15 4 1 := ⟨_, rfl, by decide, (zt_m1 28 rfl rfl), Or.inl rfl⟩
theorem zd_25 : zm_cd0 25 2 := ⟨(zt_m2 41 rfl rfl), (zt_m1 2 rfl rfl), rfl, ⟨by decide, by decide⟩, by decide +kernel⟩
theorem zk_virt_NameTree_Tape_19 : zm_rvi "NameTree$Tape" 19 25 2 := ⟨by decide, zd_25, Or.inl (zt_m2 38 rfl rfl), (zt_m2 40 rfl rfl), (zt_m0 1 rfl rfl), _, rfl, rfl⟩
theorem zk_obj_NameTree_TreeFile_3 : zm_robj "NameTree$TreeFile" 3 := ⟨(zt_m1 48 rfl rfl), (zt_m1 18 rfl rfl), (zt_m1 19 rfl rfl)⟩
theorem zk_putF_NameTree_TreeFile_9 : zm_rp "NameTree$TreeFile" "<init>" 9 5 0 := ⟨_, rfl, by decide, (zt_m1 49 rfl rfl), Or.inr ⟨rfl, rfl, rfl⟩⟩
theorem zk_put_NameTree_TreeFile_15 : zm_rp "NameTree$TreeFile" "" 15 5 1 := ⟨_, rfl, by decide, (zt_m1 51 rfl rfl), Or.inl rfl⟩
theorem zk_put_NameTree_TreeFile_18 : zm_rp "NameTree$TreeFile" "" 18 5 2 := ⟨_, rfl, by decide, (zt_m1 56 rfl rfl), Or.inl rfl⟩
theorem zk_put_NameTree_TreeFile_21 : zm_rp "NameTree$TreeFile" "" 21 5 3 := ⟨_, rfl, by decide, (zt_m1 59 rfl rfl), Or.inl rfl⟩
theorem zk_put_NameTree_TreeFile_24 : zm_rp "NameTree$TreeFile" "" 24 5 4 := ⟨_, rfl, by decide, (zt_m1 61 rfl rfl), Or.inl rfl⟩
theorem zk_put_NameTree_TreeFile_27 : zm_rp "NameTree$TreeFile" "" 27 5 5 := ⟨_, rfl, by decide, (zt_m1 64 rfl rfl), Or.inl rfl⟩
theorem zk_put_NameTree_TreeFile_30 : zm_rp "NameTree$TreeFile" "" 30 5 6 := ⟨_, rfl, by decide, (zt_m1 67 rfl rfl), Or.inl rfl⟩
theorem zk_put_NameTree_TreeFile_34 : zm_rp "NameTree$TreeFile" "" 34 5 8 := ⟨_, rfl, by decide, (zt_m1 73 rfl rfl), Or.inl rfl⟩
theorem zk_get_NameTree_TreeFile_37 : zm_rf "NameTree$TreeFile" 37 5 7 := ⟨_, rfl, by decide, (zt_m1 71 rfl rfl)⟩
theorem zk_put_NameTree_TreeFile_37 : zm_rp "NameTree$TreeFile" "" 37 5 7 := ⟨_, rfl, by decide, (zt_m1 71 rfl rfl), Or.inl rfl⟩
theorem zk_stat_NameTree_TreeFile_41 : zm_rst "NameTree$TreeFile" 41 72 4 := ⟨by decide, zd_72, Or.inr ⟨_, List.mem_of_getElem? (i := 2) rfl⟩, (zt_m2 136 rfl rfl)⟩
theorem zk_get_NameTree_TreeFile_15 : zm_rf "NameTree$TreeFile" 15 5 1 := ⟨_, rfl, by decide, (zt_m1 51 rfl rfl)⟩
theorem zk_get_NameTree_TreeFile_34 : zm_rf "NameTree$TreeFile" 34 5 8 := ⟨_, rfl, by decide, (zt_m1 73 rfl rfl)⟩
theorem zk_get_NameTree_TreeFile_27 : zm_rf "NameTree$TreeFile" 27 5 5 := ⟨_, rfl, by decide, (zt_m1 64 rfl rfl)⟩
theorem zd_71 : zm_cd0 71 1 := ⟨(zt_m2 18 rfl rfl), (zt_m1 1 rfl rfl), rfl, ⟨by decide, by decide⟩, by decide +kernel⟩
theorem zk_stat_NameTree_TreeFile_45 : zm_rst "NameTree$TreeFile" 45 71 1 := ⟨by decide, zd_71, Or.inr ⟨_, List.mem_of_getElem? (i := 3) rfl⟩, (zt_m2 17 rfl rfl)⟩
theorem zd_70 : zm_cd0 70 1 := ⟨(zt_m2 21 rfl rfl), (zt_m1 1 rfl rfl), rfl, ⟨by decide, by decide⟩, by decide +kernel⟩
theorem zk_stat_NameTree_TreeFile_49 : zm_rst "NameTree$TreeFile" 49 70 1 := ⟨by decide, zd_70, Or.inr ⟨_, List.mem_of_getElem? (i := 4) rfl⟩, (zt_m2 20 rfl rfl)⟩
theorem zk_get_NameTree_TreeFile_24 : zm_rf "NameTree$TreeFile" 24 5 4 := ⟨_, rfl, by decide, (zt_m1 61 rfl rfl)⟩
theorem zk_max_NameTree_TreeFile_52 : zm_rmax "NameTree$TreeFile" 52 := ⟨(zt_m2 123 rfl rfl), (zt_m2 124 rfl rfl), (zt_m1 10 rfl rfl), (zt_m2 125 rfl rfl)⟩
theorem zk_get_NameTree_TreeFile_21 : zm_rf "NameTree$TreeFile" 21 5 3 := ⟨_, rfl, by decide, (zt_m1 59 rfl rfl)⟩
theorem zk_get_NameTree_TreeFile_18 : zm_rf "NameTree$TreeFile" 18 5 2 := ⟨_, rfl, by decide, (zt_m1 56 rfl rfl)⟩
theorem zk_virt_NameTree_TreeFile_58 : zm_rvi "NameTree$TreeFile" 58 27 1 := ⟨by decide, zd_27, Or.inl (zt_m2 187 rfl rfl), (zt_m1 95 rfl rfl), (zt_m1 96 rfl rfl), _, rfl, rfl⟩
theorem zk_obj_NameTree_Walk_3 : zm_robj "NameTree$Walk" 3 := ⟨(zt_m1 147 rfl rfl), (zt_m1 18 rfl rfl), (zt_m1 19 rfl rfl)⟩
theorem zk_anew_NameTree_Walk_9 : zm_ran "NameTree$Walk" 9 203 := ⟨by decide, _, rfl, by decide, (zt_m1 148 rfl rfl)⟩
theorem zk_putF_NameTree_Walk_11 : zm_rp "NameTree$Walk" "<init>" 11 6 2 := ⟨_, rfl, by decide, (zt_m1 170 rfl rfl), Or.inr ⟨rfl, rfl, rfl⟩⟩
theorem zk_putF_NameTree_Walk_17 : zm_rp "NameTree$Walk" "<init>" 17 6 0 := ⟨_, rfl, by decide, (zt_m1 168 rfl rfl), Or.inr ⟨rfl, rfl, rfl⟩⟩
theorem zk_putF_NameTree_Walk_21 : zm_rp "NameTree$Walk" "<init>" 21 6 1 := ⟨_, rfl, by decide, (zt_m1 169 rfl rfl), Or.inr ⟨rfl, rfl, rfl⟩⟩
theorem zk_get_NameTree_Walk_11 : zm_rf "NameTree$Walk" 11 6 2 := ⟨_, rfl, by decide, (zt_m1 170 rfl rfl)⟩
theorem zk_new_NameTree_Walk_9 : zm_rnw "NameTree$Walk" 9 3 3 := ⟨_, rfl, rfl, (zt_m1 148 rfl rfl), (zt_m1 150 rfl rfl), (zt_m1 8 rfl rfl)⟩
theorem zd_15 : zm_cd0 15 0 := ⟨(zt_m1 153 rfl rfl), (zt_m1 8 rfl rfl), rfl, ⟨by decide, by decide⟩, by decide +kernel⟩
theorem zk_spec_NameTree_Walk_25 : zm_rsp "NameTree$Walk" 25 15 0 := ⟨by decide, zd_15, Or.inr ⟨_, List.mem_of_getElem? (i := 5) rfl⟩, (zt_m1 152 rfl rfl), rfl, rfl⟩
theorem zd_36 : zm_cd0 36 4 := ⟨(zt_m2 49 rfl rfl), (zt_m1 7 rfl rfl), rfl, ⟨by decide, by decide⟩, by decide +kernel⟩
theorem zk_virt_NameTree_Walk_26 : zm_rvi "NameTree$Walk" 26 36 4 := ⟨by decide, zd_36, Or.inl (zt_m2 46 rfl rfl), (zt_m2 47 rfl rfl), (zt_m2 48 rfl rfl), _, rfl, rfl⟩
theorem zk_get_NameTree_Walk_30 : zm_rf "NameTree$Walk" 30 6 7 := ⟨_, rfl, by decide, (zt_m1 177 rfl rfl)⟩
theorem zd_44 : zm_cd0 44 0 := ⟨(zt_m2 90 rfl rfl), (zt_m1 7 rfl rfl), rfl, ⟨by decide, by decide⟩, by decide +kernel⟩
theorem zk_virt_NameTree_Walk_34 : zm_rvi "NameTree$Walk" 34 44 0 := ⟨by decide, zd_44, Or.inl (zt_m2 87 rfl rfl), (zt_m2 89 rfl rfl), (zt_m0 9 rfl rfl), _, rfl, rfl⟩
theorem zd_37 : zm_cd0 37 0 := ⟨(zt_m2 53 rfl rfl), (zt_m1 7 rfl rfl), rfl, ⟨by decide, by decide⟩, by decide +kernel⟩
theorem zk_virt_NameTree_Walk_38 : zm_rvi "NameTree$Walk" 38 37 0 := ⟨by decide, zd_37, Or.inl (zt_m2 50 rfl rfl), (zt_m2 52 rfl rfl), (zt_m0 2 rfl rfl), _, rfl, rfl⟩
theorem zd_38 : zm_cd0 38 3 := ⟨(zt_m2 57 rfl rfl), (zt_m1 7 rfl rfl), rfl, ⟨by decide, by decide⟩, by decide +kernel⟩
theorem zk_virt_NameTree_Walk_41 : zm_rvi "NameTree$Walk" 41 38 3 := ⟨by decide, zd_38, Or.inl (zt_m2 54 rfl rfl), (zt_m2 56 rfl rfl), (zt_m0 3 rfl rfl), _, rfl, rfl⟩
theorem zk_ldc_NameTree_Walk_45 : Jvm.Cond.constant "NameTree$Walk" 45 (Int32.ofInt 1000000) ∈ zt_ws := (zt_m2 58 rfl rfl)
theorem zd_39 : zm_cd0 39 0 := ⟨(zt_m2 62 rfl rfl), (zt_m1 7 rfl rfl), rfl, ⟨by decide, by decide⟩, by decide +kernel⟩
theorem zk_virt_NameTree_Walk_46 : zm_rvi "NameTree$Walk" 46 39 0 := ⟨by decide, zd_39, Or.inl (zt_m2 59 rfl rfl), (zt_m2 61 rfl rfl), (zt_m0 4 rfl rfl), _, rfl, rfl⟩
theorem zd_41 : zm_cd0 41 0 := ⟨(zt_m2 78 rfl rfl), (zt_m1 7 rfl rfl), rfl, ⟨by decide, by decide⟩, by decide +kernel⟩
theorem zk_virt_NameTree_Walk_49 : zm_rvi "NameTree$Walk" 49 41 0 := ⟨by decide, zd_41, Or.inl (zt_m2 75 rfl rfl), (zt_m2 77 rfl rfl), (zt_m0 7 rfl rfl), _, rfl, rfl⟩
theorem zd_42 : zm_cd0 42 2 := ⟨(zt_m2 86 rfl rfl), (zt_m1 7 rfl rfl), rfl, ⟨by decide, by decide⟩, by decide +kernel⟩
theorem zk_virt_NameTree_Walk_52 : zm_rvi "NameTree$Walk" 52 42 2 := ⟨by decide, zd_42, Or.inl (zt_m2 83 rfl rfl), (zt_m2 85 rfl rfl), (zt_m0 8 rfl rfl), _, rfl, rfl⟩
theorem zk_put_NameTree_Walk_56 : zm_rp "NameTree$Walk" "" 56 6 3 := ⟨_, rfl, by decide, (zt_m1 171 rfl rfl), Or.inl rfl⟩
theorem zk_put_NameTree_Walk_59 : zm_rp "NameTree$Walk" "" 59 6 4 := ⟨_, rfl, by decide, (zt_m1 172 rfl rfl), Or.inl rfl⟩
theorem zk_put_NameTree_Walk_62 : zm_rp "NameTree$Walk" "" 62 6 5 := ⟨_, rfl, by decide, (zt_m1 174 rfl rfl), Or.inl rfl⟩
theorem zk_put_NameTree_Walk_66 : zm_rp "NameTree$Walk" "" 66 6 6 := ⟨_, rfl, by decide, (zt_m1 176 rfl rfl), Or.inl rfl⟩
theorem zk_put_NameTree_Walk_30 : zm_rp "NameTree$Walk" "" 30 6 7 := ⟨_, rfl, by decide, (zt_m1 177 rfl rfl), Or.inl rfl⟩
theorem zk_get_NameTree_Walk_17 : zm_rf "NameTree$Walk" 17 6 0 := ⟨_, rfl, by decide, (zt_m1 168 rfl rfl)⟩
theorem zk_put_NameTree_Walk_69 : zm_rp "NameTree$Walk" "" 69 6 8 := ⟨_, rfl, by decide, (zt_m1 180 rfl rfl), Or.inl rfl⟩
theorem zk_put_NameTree_Walk_72 : zm_rp "NameTree$Walk" "" 72 6 9 := ⟨_, rfl, by decide, (zt_m1 182 rfl rfl), Or.inl rfl⟩
theorem zk_put_NameTree_Walk_76 : zm_rp "NameTree$Walk" "" 76 6 10 := ⟨_, rfl, by decide, (zt_m1 184 rfl rfl), Or.inl rfl⟩
theorem zk_get_NameTree_Walk_56 : zm_rf "NameTree$Walk" 56 6 3 := ⟨_, rfl, by decide, (zt_m1 171 rfl rfl)⟩
theorem zk_put_NameTree_Walk_79 : zm_rp "NameTree$Walk" "" 79 3 0 := ⟨_, rfl, by decide, (zt_m1 156 rfl rfl), Or.inl rfl⟩
theorem zk_put_NameTree_Walk_82 : zm_rp "NameTree$Walk" "" 82 3 1 := ⟨_, rfl, by decide, (zt_m1 158 rfl rfl), Or.inl rfl⟩
theorem zk_put_NameTree_Walk_85 : zm_rp "NameTree$Walk" "" 85 3 2 := ⟨_, rfl, by decide, (zt_m1 160 rfl rfl), Or.inl rfl⟩
theorem zd_40 : zm_cd0 40 0 := ⟨(zt_m2 66 rfl rfl), (zt_m1 7 rfl rfl), rfl, ⟨by decide, by decide⟩, by decide +kernel⟩
theorem zk_virt_NameTree_Walk_88 : zm_rvi "NameTree$Walk" 88 40 0 := ⟨by decide, zd_40, Or.inl (zt_m2 63 rfl rfl), (zt_m2 65 rfl rfl), (zt_m0 5 rfl rfl), _, rfl, rfl⟩
theorem zd_16 : zm_cd0 16 0 := ⟨(zt_m2 70 rfl rfl), (zt_m1 8 rfl rfl), rfl, ⟨by decide, by decide⟩, by decide +kernel⟩
theorem zk_virt_NameTree_Walk_92 : zm_rvi "NameTree$Walk" 92 16 0 := ⟨by decide, zd_16, Or.inl (zt_m2 67 rfl rfl), (zt_m2 68 rfl rfl), (zt_m2 69 rfl rfl), _, rfl, rfl⟩
theorem zk_get_NameTree_Walk_79 : zm_rf "NameTree$Walk" 79 3 0 := ⟨_, rfl, by decide, (zt_m1 156 rfl rfl)⟩
theorem zk_get_NameTree_Walk_82 : zm_rf "NameTree$Walk" 82 3 1 := ⟨_, rfl, by decide, (zt_m1 158 rfl rfl)⟩
theorem zd_17 : zm_cd0 17 0 := ⟨(zt_m2 82 rfl rfl), (zt_m1 8 rfl rfl), rfl, ⟨by decide, by decide⟩, by decide +kernel⟩
theorem zk_virt_NameTree_Walk_95 : zm_rvi "NameTree$Walk" 95 17 0 := ⟨by decide, zd_17, Or.inl (zt_m2 79 rfl rfl), (zt_m2 80 rfl rfl), (zt_m2 81 rfl rfl), _, rfl, rfl⟩
theorem zk_get_NameTree_Walk_66 : zm_rf "NameTree$Walk" 66 6 6 := ⟨_, rfl, by decide, (zt_m1 176 rfl rfl)⟩
theorem zk_get_NameTree_Walk_76 : zm_rf "NameTree$Walk" 76 6 10 := ⟨_, rfl, by decide, (zt_m1 184 rfl rfl)⟩
theorem zk_get_NameTree_Walk_99 : zm_rf "NameTree$Walk" 99 5 1 := ⟨_, rfl, by decide, (zt_m1 55 rfl rfl)⟩
theorem zk_get_NameTree_Walk_69 : zm_rf "NameTree$Walk" 69 6 8 := ⟨_, rfl, by decide, (zt_m1 180 rfl rfl)⟩
theorem zk_get_NameTree_Walk_104 : zm_rf "NameTree$Walk" 104 5 6 := ⟨_, rfl, by decide, (zt_m1 69 rfl rfl)⟩
theorem zk_get_NameTree_Walk_21 : zm_rf "NameTree$Walk" 21 6 1 := ⟨_, rfl, by decide, (zt_m1 169 rfl rfl)⟩
theorem zk_get_NameTree_Walk_62 : zm_rf "NameTree$Walk" 62 6 5 := ⟨_, rfl, by decide, (zt_m1 174 rfl rfl)⟩
theorem zd_11 : zm_cd0 11 4 := ⟨(zt_m2 94 rfl rfl), (zt_m1 5 rfl rfl), rfl, ⟨by decide, by decide⟩, by decide +kernel⟩
theorem zk_virt_NameTree_Walk_107 : zm_rvi "NameTree$Walk" 107 11 4 := ⟨by decide, zd_11, Or.inl (zt_m2 91 rfl rfl), (zt_m2 92 rfl rfl), (zt_m2 93 rfl rfl), _, rfl, rfl⟩
theorem zk_get_NameTree_Walk_72 : zm_rf "NameTree$Walk" 72 6 9 := ⟨_, rfl, by decide, (zt_m1 182 rfl rfl)⟩
theorem zk_get_NameTree_Walk_113 : zm_rf "NameTree$Walk" 113 1 1 := ⟨_, rfl, by decide, (zt_m1 121 rfl rfl)⟩
theorem zd_43 : zm_cd0 43 1 := ⟨(zt_m2 102 rfl rfl), (zt_m1 7 rfl rfl), rfl, ⟨by decide, by decide⟩, by decide +kernel⟩
theorem zk_virt_NameTree_Walk_118 : zm_rvi "NameTree$Walk" 118 43 1 := ⟨by decide, zd_43, Or.inl (zt_m2 99 rfl rfl), (zt_m2 101 rfl rfl), (zt_m0 10 rfl rfl), _, rfl, rfl⟩
theorem zk_get_NameTree_Walk_59 : zm_rf "NameTree$Walk" 59 6 4 := ⟨_, rfl, by decide, (zt_m1 172 rfl rfl)⟩
theorem zk_get_NameTree_Walk_122 : zm_rf "NameTree$Walk" 122 5 7 := ⟨_, rfl, by decide, (zt_m1 72 rfl rfl)⟩
theorem zk_get_NameTree_Walk_125 : zm_rf "NameTree$Walk" 125 5 8 := ⟨_, rfl, by decide, (zt_m1 74 rfl rfl)⟩
theorem zd_29 : zm_cd0 29 1 := ⟨(zt_m2 106 rfl rfl), (zt_m1 4 rfl rfl), rfl, ⟨by decide, by decide⟩, by decide +kernel⟩
theorem zk_virt_NameTree_Walk_128 : zm_rvi "NameTree$Walk" 128 29 1 := ⟨by decide, zd_29, Or.inl (zt_m2 103 rfl rfl), (zt_m2 104 rfl rfl), (zt_m2 105 rfl rfl), _, rfl, rfl⟩
theorem zk_obj_NameTree_1 : zm_robj "NameTree" 1 := ⟨(zt_m1 17 rfl rfl), (zt_m1 18 rfl rfl), (zt_m1 19 rfl rfl)⟩
theorem zk_new_NameTree_7 : zm_rnw "NameTree" 7 4 2 := ⟨_, rfl, rfl, (zt_m1 20 rfl rfl), (zt_m1 21 rfl rfl), (zt_m1 2 rfl rfl)⟩
theorem zd_19 : zm_cd0 19 0 := ⟨(zt_m1 24 rfl rfl), (zt_m1 2 rfl rfl), rfl, ⟨by decide, by decide⟩, by decide +kernel⟩
theorem zk_spec_NameTree_9 : zm_rsp "NameTree" 9 19 0 := ⟨by decide, zd_19, Or.inr ⟨_, List.mem_of_getElem? (i := 6) rfl⟩, (zt_m1 23 rfl rfl), rfl, rfl⟩
theorem zk_putF_NameTree_10 : zm_rp "NameTree" "<init>" 10 7 0 := ⟨_, rfl, by decide, (zt_m1 209 rfl rfl), Or.inr ⟨rfl, rfl, rfl⟩⟩
theorem zk_new_NameTree_16 : zm_rnw "NameTree" 16 0 2 := ⟨_, rfl, rfl, (zt_m1 36 rfl rfl), (zt_m1 37 rfl rfl), (zt_m1 3 rfl rfl)⟩
theorem zd_1 : zm_cd0 1 0 := ⟨(zt_m1 40 rfl rfl), (zt_m1 3 rfl rfl), rfl, ⟨by decide, by decide⟩, by decide +kernel⟩
theorem zk_spec_NameTree_18 : zm_rsp "NameTree" 18 1 0 := ⟨by decide, zd_1, Or.inl (zt_m1 38 rfl rfl), (zt_m1 39 rfl rfl), rfl, rfl⟩
theorem zk_putF_NameTree_19 : zm_rp "NameTree" "<init>" 19 7 1 := ⟨_, rfl, by decide, (zt_m1 210 rfl rfl), Or.inr ⟨rfl, rfl, rfl⟩⟩
theorem zk_new_NameTree_23 : zm_rnw "NameTree" 23 2 2 := ⟨_, rfl, rfl, (zt_m1 106 rfl rfl), (zt_m1 107 rfl rfl), (zt_m1 5 rfl rfl)⟩
theorem zd_10 : zm_cd0 10 0 := ⟨(zt_m1 110 rfl rfl), (zt_m1 5 rfl rfl), rfl, ⟨by decide, by decide⟩, by decide +kernel⟩
theorem zk_spec_NameTree_25 : zm_rsp "NameTree" 25 10 0 := ⟨by decide, zd_10, Or.inl (zt_m1 108 rfl rfl), (zt_m1 109 rfl rfl), rfl, rfl⟩
theorem zk_putF_NameTree_26 : zm_rp "NameTree" "<init>" 26 7 2 := ⟨_, rfl, by decide, (zt_m1 211 rfl rfl), Or.inr ⟨rfl, rfl, rfl⟩⟩
theorem zk_new_NameTree_30 : zm_rnw "NameTree" 30 6 11 := ⟨_, rfl, rfl, (zt_m1 142 rfl rfl), (zt_m1 143 rfl rfl), (zt_m1 7 rfl rfl)⟩
theorem zk_get_NameTree_19 : zm_rf "NameTree" 19 7 1 := ⟨_, rfl, by decide, (zt_m1 210 rfl rfl)⟩
theorem zk_get_NameTree_32 : zm_rf "NameTree" 32 0 1 := ⟨_, rfl, by decide, (zt_m1 100 rfl rfl)⟩
theorem zk_get_NameTree_26 : zm_rf "NameTree" 26 7 2 := ⟨_, rfl, by decide, (zt_m1 211 rfl rfl)⟩
theorem zd_34 : zm_cd0 34 2 := ⟨(zt_m1 146 rfl rfl), (zt_m1 7 rfl rfl), rfl, ⟨by decide, by decide⟩, by decide +kernel⟩
theorem zk_spec_NameTree_36 : zm_rsp "NameTree" 36 34 2 := ⟨by decide, zd_34, Or.inl (zt_m1 144 rfl rfl), (zt_m1 145 rfl rfl), rfl, rfl⟩
theorem zk_putF_NameTree_39 : zm_rp "NameTree" "<init>" 39 7 3 := ⟨_, rfl, by decide, (zt_m1 212 rfl rfl), Or.inr ⟨rfl, rfl, rfl⟩⟩
theorem zk_putF_NameTree_43 : zm_rp "NameTree" "<init>" 43 7 4 := ⟨_, rfl, by decide, (zt_m1 213 rfl rfl), Or.inr ⟨rfl, rfl, rfl⟩⟩
theorem zk_put_NameTree_46 : zm_rp "NameTree" "" 46 7 5 := ⟨_, rfl, by decide, (zt_m1 214 rfl rfl), Or.inl rfl⟩
theorem zk_get_NameTree_10 : zm_rf "NameTree" 10 7 0 := ⟨_, rfl, by decide, (zt_m1 209 rfl rfl)⟩
theorem zd_20 : zm_cd0 20 1 := ⟨(zt_m1 235 rfl rfl), (zt_m1 2 rfl rfl), rfl, ⟨by decide, by decide⟩, by decide +kernel⟩
theorem zk_virt_NameTree_50 : zm_rvi "NameTree" 50 20 1 := ⟨by decide, zd_20, Or.inl (zt_m1 232 rfl rfl), (zt_m1 233 rfl rfl), (zt_m1 234 rfl rfl), _, rfl, rfl⟩
theorem zd_21 : zm_cd0 21 1 := ⟨(zt_m1 239 rfl rfl), (zt_m1 2 rfl rfl), rfl, ⟨by decide, by decide⟩, by decide +kernel⟩
theorem zk_virt_NameTree_54 : zm_rvi "NameTree" 54 21 1 := ⟨by decide, zd_21, Or.inl (zt_m1 236 rfl rfl), (zt_m1 237 rfl rfl), (zt_m1 238 rfl rfl), _, rfl, rfl⟩
theorem zk_get_NameTree_58 : zm_rf "NameTree" 58 4 1 := ⟨_, rfl, by decide, (zt_m1 29 rfl rfl)⟩
theorem zd_5 : zm_cd0 5 0 := ⟨(zt_m2 11 rfl rfl), (zt_m1 3 rfl rfl), rfl, ⟨by decide, by decide⟩, by decide +kernel⟩
theorem zk_virt_NameTree_61 : zm_rvi "NameTree" 61 5 0 := ⟨by decide, zd_5, Or.inl (zt_m2 8 rfl rfl), (zt_m2 9 rfl rfl), (zt_m2 10 rfl rfl), _, rfl, rfl⟩
theorem zd_62 : zm_cd0 62 0 := ⟨(zt_m2 29 rfl rfl), (zt_m1 1 rfl rfl), rfl, ⟨by decide, by decide⟩, by decide +kernel⟩
theorem zk_virt_NameTree_65 : zm_rvi "NameTree" 65 62 0 := ⟨by decide, zd_62, Or.inl (zt_m2 26 rfl rfl), (zt_m2 28 rfl rfl), (zt_m0 0 rfl rfl), _, rfl, rfl⟩
theorem zk_get_NameTree_39 : zm_rf "NameTree" 39 7 3 := ⟨_, rfl, by decide, (zt_m1 212 rfl rfl)⟩
theorem zk_get_NameTree_68 : zm_rf "NameTree" 68 6 10 := ⟨_, rfl, by decide, (zt_m1 185 rfl rfl)⟩
theorem zd_3 : zm_cd0 3 0 := ⟨(zt_m2 110 rfl rfl), (zt_m1 3 rfl rfl), rfl, ⟨by decide, by decide⟩, by decide +kernel⟩
theorem zk_virt_NameTree_71 : zm_rvi "NameTree" 71 3 0 := ⟨by decide, zd_3, Or.inl (zt_m2 107 rfl rfl), (zt_m2 108 rfl rfl), (zt_m2 109 rfl rfl), _, rfl, rfl⟩
theorem zk_get_NameTree_75 : zm_rf "NameTree" 75 6 8 := ⟨_, rfl, by decide, (zt_m1 181 rfl rfl)⟩
theorem zd_64 : zm_cd0 64 2 := ⟨(zt_m2 114 rfl rfl), (zt_m1 1 rfl rfl), rfl, ⟨by decide, by decide⟩, by decide +kernel⟩
theorem zk_virt_NameTree_78 : zm_rvi "NameTree" 78 64 2 := ⟨by decide, zd_64, Or.inl (zt_m2 111 rfl rfl), (zt_m2 113 rfl rfl), (zt_m0 11 rfl rfl), _, rfl, rfl⟩
theorem zk_virt_NameTree_82 : zm_rvi "NameTree" 82 27 1 := ⟨by decide, zd_27, Or.inl (zt_m2 126 rfl rfl), (zt_m1 95 rfl rfl), (zt_m1 96 rfl rfl), _, rfl, rfl⟩
theorem zd_12 : zm_cd0 12 2 := ⟨(zt_m2 130 rfl rfl), (zt_m1 5 rfl rfl), rfl, ⟨by decide, by decide⟩, by decide +kernel⟩
theorem zk_virt_NameTree_88 : zm_rvi "NameTree" 88 12 2 := ⟨by decide, zd_12, Or.inl (zt_m2 127 rfl rfl), (zt_m2 128 rfl rfl), (zt_m2 129 rfl rfl), _, rfl, rfl⟩
theorem zk_get_NameTree_92 : zm_rf "NameTree" 92 5 0 := ⟨_, rfl, by decide, (zt_m1 50 rfl rfl)⟩
theorem zd_63 : zm_cd0 63 1 := ⟨(zt_m2 152 rfl rfl), (zt_m1 1 rfl rfl), rfl, ⟨by decide, by decide⟩, by decide +kernel⟩
theorem zk_virt_NameTree_95 : zm_rvi "NameTree" 95 63 1 := ⟨by decide, zd_63, Or.inl (zt_m2 149 rfl rfl), (zt_m2 151 rfl rfl), (zt_m0 13 rfl rfl), _, rfl, rfl⟩
theorem zk_get_NameTree_99 : zm_rf "NameTree" 99 5 1 := ⟨_, rfl, by decide, (zt_m1 54 rfl rfl)⟩
theorem zk_get_NameTree_43 : zm_rf "NameTree" 43 7 4 := ⟨_, rfl, by decide, (zt_m1 213 rfl rfl)⟩
theorem zd_22 : zm_cd0 22 0 := ⟨(zt_m2 33 rfl rfl), (zt_m1 2 rfl rfl), rfl, ⟨by decide, by decide⟩, by decide +kernel⟩
theorem zk_virt_NameTree_102 : zm_rvi "NameTree" 102 22 0 := ⟨by decide, zd_22, Or.inl (zt_m2 30 rfl rfl), (zt_m2 31 rfl rfl), (zt_m2 32 rfl rfl), _, rfl, rfl⟩
theorem zd_24 : zm_cd0 24 1 := ⟨(zt_m2 156 rfl rfl), (zt_m1 2 rfl rfl), rfl, ⟨by decide, by decide⟩, by decide +kernel⟩
theorem zk_virt_NameTree_105 : zm_rvi "NameTree" 105 24 1 := ⟨by decide, zd_24, Or.inl (zt_m2 153 rfl rfl), (zt_m2 154 rfl rfl), (zt_m2 155 rfl rfl), _, rfl, rfl⟩
theorem zk_get_NameTree_109 : zm_rf "NameTree" 109 4 0 := ⟨_, rfl, by decide, (zt_m1 27 rfl rfl)⟩
theorem zd_35 : zm_cd0 35 3 := ⟨(zt_m2 45 rfl rfl), (zt_m1 7 rfl rfl), rfl, ⟨by decide, by decide⟩, by decide +kernel⟩
theorem zk_virt_NameTree_113 : zm_rvi "NameTree" 113 35 3 := ⟨by decide, zd_35, Or.inl (zt_m2 42 rfl rfl), (zt_m2 43 rfl rfl), (zt_m2 44 rfl rfl), _, rfl, rfl⟩
theorem zk_stat_NameTree_117 : zm_rst "NameTree" 117 70 1 := ⟨by decide, zd_70, Or.inl (zt_m2 162 rfl rfl), (zt_m2 20 rfl rfl)⟩
theorem zd_28 : zm_cd0 28 3 := ⟨(zt_m2 166 rfl rfl), (zt_m1 4 rfl rfl), rfl, ⟨by decide, by decide⟩, by decide +kernel⟩
theorem zk_virt_NameTree_120 : zm_rvi "NameTree" 120 28 3 := ⟨by decide, zd_28, Or.inl (zt_m2 163 rfl rfl), (zt_m2 164 rfl rfl), (zt_m2 165 rfl rfl), _, rfl, rfl⟩
theorem zk_get_NameTree_124 : zm_rf "NameTree" 124 6 9 := ⟨_, rfl, by decide, (zt_m1 183 rfl rfl)⟩
theorem zd_69 : zm_cd0 69 1 := ⟨(zt_m2 175 rfl rfl), (zt_m1 1 rfl rfl), rfl, ⟨by decide, by decide⟩, by decide +kernel⟩
theorem zk_virt_NameTree_128 : zm_rvi "NameTree" 128 69 1 := ⟨by decide, zd_69, Or.inl (zt_m2 172 rfl rfl), (zt_m2 174 rfl rfl), (zt_m0 14 rfl rfl), _, rfl, rfl⟩
theorem zk_get_NameTree_132 : zm_rf "NameTree" 132 5 4 := ⟨_, rfl, by decide, (zt_m1 63 rfl rfl)⟩
theorem zd_68 : zm_cd0 68 2 := ⟨(zt_m2 198 rfl rfl), (zt_m1 1 rfl rfl), rfl, ⟨by decide, by decide⟩, by decide +kernel⟩
theorem zk_stat_NameTree_135 : zm_rst "NameTree" 135 68 2 := ⟨by decide, zd_68, Or.inl (zt_m2 196 rfl rfl), (zt_m2 197 rfl rfl)⟩
theorem zd_66 : zm_cd0 66 0 := ⟨(zt_m2 202 rfl rfl), (zt_m1 1 rfl rfl), rfl, ⟨by decide, by decide⟩, by decide +kernel⟩
theorem zk_virt_NameTree_139 : zm_rvi "NameTree" 139 66 0 := ⟨by decide, zd_66, Or.inl (zt_m2 199 rfl rfl), (zt_m2 201 rfl rfl), (zt_m0 15 rfl rfl), _, rfl, rfl⟩
theorem zd_67 : zm_cd0 67 2 := ⟨(zt_m2 205 rfl rfl), (zt_m1 1 rfl rfl), rfl, ⟨by decide, by decide⟩, by decide +kernel⟩
theorem zk_stat_NameTree_142 : zm_rst "NameTree" 142 67 2 := ⟨by decide, zd_67, Or.inl (zt_m2 203 rfl rfl), (zt_m2 204 rfl rfl)⟩
theorem zd_13 : zm_cd0 13 1 := ⟨(zt_m2 179 rfl rfl), (zt_m1 5 rfl rfl), rfl, ⟨by decide, by decide⟩, by decide +kernel⟩
theorem zk_virt_NameTree_146 : zm_rvi "NameTree" 146 13 1 := ⟨by decide, zd_13, Or.inl (zt_m2 176 rfl rfl), (zt_m2 177 rfl rfl), (zt_m2 178 rfl rfl), _, rfl, rfl⟩
theorem zd_61 : zm_cd0 61 1 := ⟨(zt_m2 213 rfl rfl), (zt_m1 1 rfl rfl), rfl, ⟨by decide, by decide⟩, by decide +kernel⟩
theorem zk_virt_NameTree_149 : zm_rvi "NameTree" 149 61 1 := ⟨by decide, zd_61, Or.inl (zt_m2 210 rfl rfl), (zt_m2 212 rfl rfl), (zt_m0 16 rfl rfl), _, rfl, rfl⟩
theorem zk_get_NameTree_152 : zm_rf "NameTree" 152 5 3 := ⟨_, rfl, by decide, (zt_m1 60 rfl rfl)⟩
theorem zk_put_NameTree_152 : zm_rp "NameTree" "" 152 5 3 := ⟨_, rfl, by decide, (zt_m1 60 rfl rfl), Or.inl rfl⟩
theorem zd_2 : zm_cd0 2 1 := ⟨(zt_m2 225 rfl rfl), (zt_m1 3 rfl rfl), rfl, ⟨by decide, by decide⟩, by decide +kernel⟩
theorem zk_virt_NameTree_155 : zm_rvi "NameTree" 155 2 1 := ⟨by decide, zd_2, Or.inl (zt_m2 222 rfl rfl), (zt_m2 223 rfl rfl), (zt_m2 224 rfl rfl), _, rfl, rfl⟩
theorem zk_get_NameTree_159 : zm_rf "NameTree" 159 5 2 := ⟨_, rfl, by decide, (zt_m1 58 rfl rfl)⟩
theorem zd_33 : zm_cd0 33 0 := ⟨(zt_m2 186 rfl rfl), (zt_m1 4 rfl rfl), rfl, ⟨by decide, by decide⟩, by decide +kernel⟩
theorem zk_virt_NameTree_161 : zm_rvi "NameTree" 161 33 0 := ⟨by decide, zd_33, Or.inl (zt_m2 183 rfl rfl), (zt_m2 184 rfl rfl), (zt_m2 185 rfl rfl), _, rfl, rfl⟩
theorem zd_6 : zm_cd0 6 1 := ⟨(zt_m2 233 rfl rfl), (zt_m1 3 rfl rfl), rfl, ⟨by decide, by decide⟩, by decide +kernel⟩
theorem zk_virt_NameTree_164 : zm_rvi "NameTree" 164 6 1 := ⟨by decide, zd_6, Or.inl (zt_m2 230 rfl rfl), (zt_m2 231 rfl rfl), (zt_m2 232 rfl rfl), _, rfl, rfl⟩
theorem zd_32 : zm_cd0 32 0 := ⟨(zt_m2 237 rfl rfl), (zt_m1 4 rfl rfl), rfl, ⟨by decide, by decide⟩, by decide +kernel⟩
theorem zk_virt_NameTree_168 : zm_rvi "NameTree" 168 32 0 := ⟨by decide, zd_32, Or.inl (zt_m2 234 rfl rfl), (zt_m2 235 rfl rfl), (zt_m2 236 rfl rfl), _, rfl, rfl⟩
theorem zk_virt_NameTree_171 : zm_rvi "NameTree" 171 30 0 := ⟨by decide, zd_30, Or.inl (zt_m2 238 rfl rfl), (zt_m2 13 rfl rfl), (zt_m2 14 rfl rfl), _, rfl, rfl⟩
theorem zk_get_NameTree_174 : zm_rf "NameTree" 174 5 6 := ⟨_, rfl, by decide, (zt_m1 70 rfl rfl)⟩
theorem zk_virt_NameTree_177 : zm_rvi "NameTree" 177 29 1 := ⟨by decide, zd_29, Or.inl (zt_m3 3 rfl rfl), (zt_m2 104 rfl rfl), (zt_m2 105 rfl rfl), _, rfl, rfl⟩
theorem zd_4 : zm_cd0 4 0 := ⟨(zt_m3 11 rfl rfl), (zt_m1 3 rfl rfl), rfl, ⟨by decide, by decide⟩, by decide +kernel⟩
theorem zk_virt_NameTree_180 : zm_rvi "NameTree" 180 4 0 := ⟨by decide, zd_4, Or.inl (zt_m3 8 rfl rfl), (zt_m3 9 rfl rfl), (zt_m3 10 rfl rfl), _, rfl, rfl⟩
theorem zk_get_NameTree_183 : zm_rf "NameTree" 183 2 1 := ⟨_, rfl, by decide, (zt_m1 136 rfl rfl)⟩
theorem zd_23 : zm_cd0 23 1 := ⟨(zt_m2 37 rfl rfl), (zt_m1 2 rfl rfl), rfl, ⟨by decide, by decide⟩, by decide +kernel⟩
theorem zk_virt_NameTree_186 : zm_rvi "NameTree" 186 23 1 := ⟨by decide, zd_23, Or.inl (zt_m2 34 rfl rfl), (zt_m2 35 rfl rfl), (zt_m2 36 rfl rfl), _, rfl, rfl⟩
theorem zk_virt_NameTree_189 : zm_rvi "NameTree" 189 36 4 := ⟨by decide, zd_36, Or.inl (zt_m2 157 rfl rfl), (zt_m2 47 rfl rfl), (zt_m2 48 rfl rfl), _, rfl, rfl⟩
theorem zd_65 : zm_cd0 65 2 := ⟨(zt_m2 118 rfl rfl), (zt_m1 1 rfl rfl), rfl, ⟨by decide, by decide⟩, by decide +kernel⟩
theorem zk_virt_NameTree_193 : zm_rvi "NameTree" 193 65 2 := ⟨by decide, zd_65, Or.inl (zt_m2 115 rfl rfl), (zt_m2 117 rfl rfl), (zt_m0 12 rfl rfl), _, rfl, rfl⟩
theorem zd_31 : zm_cd0 31 0 := ⟨(zt_m2 122 rfl rfl), (zt_m1 4 rfl rfl), rfl, ⟨by decide, by decide⟩, by decide +kernel⟩
theorem zk_virt_NameTree_196 : zm_rvi "NameTree" 196 31 0 := ⟨by decide, zd_31, Or.inl (zt_m2 119 rfl rfl), (zt_m2 120 rfl rfl), (zt_m2 121 rfl rfl), _, rfl, rfl⟩
theorem zk_get_NameTree_46 : zm_rf "NameTree" 46 7 5 := ⟨_, rfl, by decide, (zt_m1 214 rfl rfl)⟩
theorem zk_get_NameTree_199 : zm_rf "NameTree" 199 1 1 := ⟨_, rfl, by decide, (zt_m1 122 rfl rfl)⟩
theorem zk_min_NameTree_204 : zm_rmin "NameTree" 204 := ⟨(zt_m2 138 rfl rfl), (zt_m2 139 rfl rfl), (zt_m1 10 rfl rfl), (zt_m2 140 rfl rfl)⟩
theorem zk_copy_NameTree_210 : zm_rcopy "NameTree" 210 := ⟨(zt_m2 141 rfl rfl), (zt_m2 143 rfl rfl), (zt_m2 142 rfl rfl), (zt_m1 11 rfl rfl)⟩
theorem zk_obj_NameTreeModel_1 : zm_robj "NameTreeModel" 1 := ⟨(zt_m3 17 rfl rfl), (zt_m1 18 rfl rfl), (zt_m1 19 rfl rfl)⟩
theorem zk_put_NameTreeModel_7 : zm_rp "NameTreeModel" "" 7 8 0 := ⟨_, rfl, by decide, (zt_m3 20 rfl rfl), Or.inl rfl⟩
theorem zk_putF_NameTreeModel_13 : zm_rp "NameTreeModel" "<init>" 13 8 2 := ⟨_, rfl, by decide, (zt_m3 22 rfl rfl), Or.inr ⟨rfl, rfl, rfl⟩⟩
theorem zk_putF_NameTreeModel_17 : zm_rp "NameTreeModel" "<init>" 17 8 4 := ⟨_, rfl, by decide, (zt_m3 24 rfl rfl), Or.inr ⟨rfl, rfl, rfl⟩⟩
theorem zk_putF_NameTreeModel_20 : zm_rp "NameTreeModel" "<init>" 20 8 5 := ⟨_, rfl, by decide, (zt_m3 25 rfl rfl), Or.inr ⟨rfl, rfl, rfl⟩⟩
theorem zk_putF_NameTreeModel_23 : zm_rp "NameTreeModel" "<init>" 23 8 6 := ⟨_, rfl, by decide, (zt_m3 26 rfl rfl), Or.inr ⟨rfl, rfl, rfl⟩⟩
theorem zk_putF_NameTreeModel_26 : zm_rp "NameTreeModel" "<init>" 26 8 7 := ⟨_, rfl, by decide, (zt_m3 27 rfl rfl), Or.inr ⟨rfl, rfl, rfl⟩⟩
theorem zk_putF_NameTreeModel_29 : zm_rp "NameTreeModel" "<init>" 29 8 8 := ⟨_, rfl, by decide, (zt_m3 28 rfl rfl), Or.inr ⟨rfl, rfl, rfl⟩⟩
theorem zk_ldc_NameTreeModel_32 : Jvm.Cond.constant "NameTreeModel" 32 (Int32.ofInt 41000) ∈ zt_ws := (zt_m3 18 rfl rfl)
theorem zk_putF_NameTreeModel_33 : zm_rp "NameTreeModel" "<init>" 33 8 9 := ⟨_, rfl, by decide, (zt_m3 29 rfl rfl), Or.inr ⟨rfl, rfl, rfl⟩⟩
theorem zk_putF_NameTreeModel_37 : zm_rp "NameTreeModel" "<init>" 37 8 11 := ⟨_, rfl, by decide, (zt_m3 31 rfl rfl), Or.inr ⟨rfl, rfl, rfl⟩⟩
theorem zk_putF_NameTreeModel_40 : zm_rp "NameTreeModel" "<init>" 40 8 12 := ⟨_, rfl, by decide, (zt_m3 32 rfl rfl), Or.inr ⟨rfl, rfl, rfl⟩⟩
theorem zk_putF_NameTreeModel_43 : zm_rp "NameTreeModel" "<init>" 43 8 13 := ⟨_, rfl, by decide, (zt_m3 33 rfl rfl), Or.inr ⟨rfl, rfl, rfl⟩⟩
theorem zk_putF_NameTreeModel_46 : zm_rp "NameTreeModel" "<init>" 46 8 14 := ⟨_, rfl, by decide, (zt_m3 34 rfl rfl), Or.inr ⟨rfl, rfl, rfl⟩⟩
theorem zk_ldc_NameTreeModel_49 : Jvm.Cond.constant "NameTreeModel" 49 (Int32.ofInt 42000) ∈ zt_ws := (zt_m3 19 rfl rfl)
theorem zk_putF_NameTreeModel_50 : zm_rp "NameTreeModel" "<init>" 50 8 15 := ⟨_, rfl, by decide, (zt_m3 35 rfl rfl), Or.inr ⟨rfl, rfl, rfl⟩⟩
theorem zk_get_NameTreeModel_20 : zm_rf "NameTreeModel" 20 8 5 := ⟨_, rfl, by decide, (zt_m3 25 rfl rfl)⟩
theorem zk_get_NameTreeModel_53 : zm_rf "NameTreeModel" 53 8 1 := ⟨_, rfl, by decide, (zt_m3 21 rfl rfl)⟩
theorem zk_get_NameTreeModel_13 : zm_rf "NameTreeModel" 13 8 2 := ⟨_, rfl, by decide, (zt_m3 22 rfl rfl)⟩
theorem zk_ldc2_NameTreeModel_56 : Jvm.Cond.constantLong "NameTreeModel" 56 (Int64.ofInt 255) ∈ zt_ws := (zt_m3 92 rfl rfl)
theorem zk_put_NameTreeModel_53 : zm_rp "NameTreeModel" "" 53 8 1 := ⟨_, rfl, by decide, (zt_m3 21 rfl rfl), Or.inl rfl⟩
theorem zk_put_NameTreeModel_58 : zm_rp "NameTreeModel" "" 58 8 3 := ⟨_, rfl, by decide, (zt_m3 23 rfl rfl), Or.inl rfl⟩
theorem zk_get_NameTreeModel_58 : zm_rf "NameTreeModel" 58 8 3 := ⟨_, rfl, by decide, (zt_m3 23 rfl rfl)⟩
theorem zk_get_NameTreeModel_17 : zm_rf "NameTreeModel" 17 8 4 := ⟨_, rfl, by decide, (zt_m3 24 rfl rfl)⟩
theorem zk_get_NameTreeModel_29 : zm_rf "NameTreeModel" 29 8 8 := ⟨_, rfl, by decide, (zt_m3 28 rfl rfl)⟩
theorem zk_get_NameTreeModel_23 : zm_rf "NameTreeModel" 23 8 6 := ⟨_, rfl, by decide, (zt_m3 26 rfl rfl)⟩
theorem zd_77 : zm_cd0 77 1 := ⟨(zt_m3 111 rfl rfl), (zt_m1 9 rfl rfl), rfl, ⟨by decide, by decide⟩, by decide +kernel⟩
theorem zk_stat_NameTreeModel_61 : zm_rst "NameTreeModel" 61 77 1 := ⟨by decide, zd_77, Or.inl (zt_m3 109 rfl rfl), (zt_m3 110 rfl rfl)⟩
theorem zd_78 : zm_cd0 78 1 := ⟨(zt_m3 108 rfl rfl), (zt_m1 9 rfl rfl), rfl, ⟨by decide, by decide⟩, by decide +kernel⟩
theorem zk_virt_NameTreeModel_65 : zm_rvi "NameTreeModel" 65 78 1 := ⟨by decide, zd_78, Or.inl (zt_m3 105 rfl rfl), (zt_m3 107 rfl rfl), (zt_m0 18 rfl rfl), _, rfl, rfl⟩
theorem zk_get_NameTreeModel_68 : zm_rf "NameTreeModel" 68 8 10 := ⟨_, rfl, by decide, (zt_m3 30 rfl rfl)⟩
theorem zk_get_NameTreeModel_40 : zm_rf "NameTreeModel" 40 8 12 := ⟨_, rfl, by decide, (zt_m3 32 rfl rfl)⟩
theorem zk_get_NameTreeModel_37 : zm_rf "NameTreeModel" 37 8 11 := ⟨_, rfl, by decide, (zt_m3 31 rfl rfl)⟩
theorem zk_get_NameTreeModel_43 : zm_rf "NameTreeModel" 43 8 13 := ⟨_, rfl, by decide, (zt_m3 33 rfl rfl)⟩
theorem zk_get_NameTreeModel_46 : zm_rf "NameTreeModel" 46 8 14 := ⟨_, rfl, by decide, (zt_m3 34 rfl rfl)⟩
theorem zk_get_NameTreeModel_50 : zm_rf "NameTreeModel" 50 8 15 := ⟨_, rfl, by decide, (zt_m3 35 rfl rfl)⟩
theorem zd_84 : zm_cd0 84 3 := ⟨(zt_m3 143 rfl rfl), (zt_m1 9 rfl rfl), rfl, ⟨by decide, by decide⟩, by decide +kernel⟩
theorem zk_virt_NameTreeModel_71 : zm_rvi "NameTreeModel" 71 84 3 := ⟨by decide, zd_84, Or.inl (zt_m3 140 rfl rfl), (zt_m3 142 rfl rfl), (zt_m0 25 rfl rfl), _, rfl, rfl⟩
theorem zk_get_NameTreeModel_75 : zm_rf "NameTreeModel" 75 8 17 := ⟨_, rfl, by decide, (zt_m3 37 rfl rfl)⟩
theorem zk_get_NameTreeModel_78 : zm_rf "NameTreeModel" 78 8 19 := ⟨_, rfl, by decide, (zt_m3 39 rfl rfl)⟩
theorem zk_get_NameTreeModel_81 : zm_rf "NameTreeModel" 81 8 18 := ⟨_, rfl, by decide, (zt_m3 38 rfl rfl)⟩
theorem zk_put_NameTreeModel_68 : zm_rp "NameTreeModel" "" 68 8 10 := ⟨_, rfl, by decide, (zt_m3 30 rfl rfl), Or.inl rfl⟩
theorem zd_82 : zm_cd0 82 1 := ⟨(zt_m3 155 rfl rfl), (zt_m1 9 rfl rfl), rfl, ⟨by decide, by decide⟩, by decide +kernel⟩
theorem zk_virt_NameTreeModel_84 : zm_rvi "NameTreeModel" 84 82 1 := ⟨by decide, zd_82, Or.inl (zt_m3 152 rfl rfl), (zt_m3 154 rfl rfl), (zt_m0 28 rfl rfl), _, rfl, rfl⟩
theorem zd_81 : zm_cd0 81 1 := ⟨(zt_m3 183 rfl rfl), (zt_m1 9 rfl rfl), rfl, ⟨by decide, by decide⟩, by decide +kernel⟩
theorem zk_virt_NameTreeModel_87 : zm_rvi "NameTreeModel" 87 81 1 := ⟨by decide, zd_81, Or.inl (zt_m3 180 rfl rfl), (zt_m3 182 rfl rfl), (zt_m0 32 rfl rfl), _, rfl, rfl⟩
theorem zk_get_NameTreeModel_26 : zm_rf "NameTreeModel" 26 8 7 := ⟨_, rfl, by decide, (zt_m3 27 rfl rfl)⟩
theorem zk_get_NameTreeModel_90 : zm_rf "NameTreeModel" 90 8 16 := ⟨_, rfl, by decide, (zt_m3 36 rfl rfl)⟩
theorem zk_put_NameTreeModel_90 : zm_rp "NameTreeModel" "" 90 8 16 := ⟨_, rfl, by decide, (zt_m3 36 rfl rfl), Or.inl rfl⟩
theorem zk_put_NameTreeModel_93 : zm_rp "NameTreeModel" "" 93 8 20 := ⟨_, rfl, by decide, (zt_m3 40 rfl rfl), Or.inl rfl⟩
theorem zk_put_NameTreeModel_96 : zm_rp "NameTreeModel" "" 96 8 21 := ⟨_, rfl, by decide, (zt_m3 41 rfl rfl), Or.inl rfl⟩
theorem zd_89 : zm_cd0 89 0 := ⟨(zt_m3 131 rfl rfl), (zt_m1 9 rfl rfl), rfl, ⟨by decide, by decide⟩, by decide +kernel⟩
theorem zk_virt_NameTreeModel_100 : zm_rvi "NameTreeModel" 100 89 0 := ⟨by decide, zd_89, Or.inl (zt_m3 128 rfl rfl), (zt_m3 130 rfl rfl), (zt_m0 22 rfl rfl), _, rfl, rfl⟩
theorem zk_put_NameTreeModel_81 : zm_rp "NameTreeModel" "" 81 8 18 := ⟨_, rfl, by decide, (zt_m3 38 rfl rfl), Or.inl rfl⟩
theorem zk_put_NameTreeModel_78 : zm_rp "NameTreeModel" "" 78 8 19 := ⟨_, rfl, by decide, (zt_m3 39 rfl rfl), Or.inl rfl⟩
theorem zk_get_NameTreeModel_93 : zm_rf "NameTreeModel" 93 8 20 := ⟨_, rfl, by decide, (zt_m3 40 rfl rfl)⟩
theorem zk_get_NameTreeModel_96 : zm_rf "NameTreeModel" 96 8 21 := ⟨_, rfl, by decide, (zt_m3 41 rfl rfl)⟩
theorem zd_83 : zm_cd0 83 1 := ⟨(zt_m3 135 rfl rfl), (zt_m1 9 rfl rfl), rfl, ⟨by decide, by decide⟩, by decide +kernel⟩
theorem zk_virt_NameTreeModel_104 : zm_rvi "NameTreeModel" 104 83 1 := ⟨by decide, zd_83, Or.inl (zt_m3 132 rfl rfl), (zt_m3 134 rfl rfl), (zt_m0 23 rfl rfl), _, rfl, rfl⟩
theorem zk_put_NameTreeModel_75 : zm_rp "NameTreeModel" "" 75 8 17 := ⟨_, rfl, by decide, (zt_m3 37 rfl rfl), Or.inl rfl⟩
theorem zd_85 : zm_cd0 85 3 := ⟨(zt_m3 139 rfl rfl), (zt_m1 9 rfl rfl), rfl, ⟨by decide, by decide⟩, by decide +kernel⟩
theorem zk_virt_NameTreeModel_107 : zm_rvi "NameTreeModel" 107 85 3 := ⟨by decide, zd_85, Or.inl (zt_m3 136 rfl rfl), (zt_m3 138 rfl rfl), (zt_m0 24 rfl rfl), _, rfl, rfl⟩
theorem zd_91 : zm_cd0 91 1 := ⟨(zt_m3 147 rfl rfl), (zt_m1 9 rfl rfl), rfl, ⟨by decide, by decide⟩, by decide +kernel⟩
theorem zk_virt_NameTreeModel_111 : zm_rvi "NameTreeModel" 111 91 1 := ⟨by decide, zd_91, Or.inl (zt_m3 144 rfl rfl), (zt_m3 146 rfl rfl), (zt_m0 26 rfl rfl), _, rfl, rfl⟩
theorem zk_get_NameTreeModel_33 : zm_rf "NameTreeModel" 33 8 9 := ⟨_, rfl, by decide, (zt_m3 29 rfl rfl)⟩
theorem zd_90 : zm_cd0 90 3 := ⟨(zt_m3 127 rfl rfl), (zt_m1 9 rfl rfl), rfl, ⟨by decide, by decide⟩, by decide +kernel⟩
theorem zk_virt_NameTreeModel_115 : zm_rvi "NameTreeModel" 115 90 3 := ⟨by decide, zd_90, Or.inl (zt_m3 124 rfl rfl), (zt_m3 126 rfl rfl), (zt_m0 21 rfl rfl), _, rfl, rfl⟩
theorem zd_79 : zm_cd0 79 0 := ⟨(zt_m3 104 rfl rfl), (zt_m1 9 rfl rfl), rfl, ⟨by decide, by decide⟩, by decide +kernel⟩
theorem zk_virt_NameTreeModel_119 : zm_rvi "NameTreeModel" 119 79 0 := ⟨by decide, zd_79, Or.inl (zt_m3 101 rfl rfl), (zt_m3 103 rfl rfl), (zt_m0 17 rfl rfl), _, rfl, rfl⟩
theorem zk_get_NameTreeModel_7 : zm_rf "NameTreeModel" 7 8 0 := ⟨_, rfl, by decide, (zt_m3 20 rfl rfl)⟩
theorem zd_86 : zm_cd0 86 2 := ⟨(zt_m3 159 rfl rfl), (zt_m1 9 rfl rfl), rfl, ⟨by decide, by decide⟩, by decide +kernel⟩
theorem zk_virt_NameTreeModel_123 : zm_rvi "NameTreeModel" 123 86 2 := ⟨by decide, zd_86, Or.inl (zt_m3 156 rfl rfl), (zt_m3 158 rfl rfl), (zt_m0 29 rfl rfl), _, rfl, rfl⟩
theorem zd_87 : zm_cd0 87 1 := ⟨(zt_m3 163 rfl rfl), (zt_m1 9 rfl rfl), rfl, ⟨by decide, by decide⟩, by decide +kernel⟩
theorem zk_virt_NameTreeModel_127 : zm_rvi "NameTreeModel" 127 87 1 := ⟨by decide, zd_87, Or.inl (zt_m3 160 rfl rfl), (zt_m3 162 rfl rfl), (zt_m0 30 rfl rfl), _, rfl, rfl⟩
theorem zd_76 : zm_cd0 76 0 := ⟨(zt_m3 119 rfl rfl), (zt_m1 9 rfl rfl), rfl, ⟨by decide, by decide⟩, by decide +kernel⟩
theorem zk_virt_NameTreeModel_130 : zm_rvi "NameTreeModel" 130 76 0 := ⟨by decide, zd_76, Or.inl (zt_m3 116 rfl rfl), (zt_m3 118 rfl rfl), (zt_m0 19 rfl rfl), _, rfl, rfl⟩
theorem zd_92 : zm_cd0 92 2 := ⟨(zt_m3 123 rfl rfl), (zt_m1 9 rfl rfl), rfl, ⟨by decide, by decide⟩, by decide +kernel⟩
theorem zk_virt_NameTreeModel_133 : zm_rvi "NameTreeModel" 133 92 2 := ⟨by decide, zd_92, Or.inl (zt_m3 120 rfl rfl), (zt_m3 122 rfl rfl), (zt_m0 20 rfl rfl), _, rfl, rfl⟩
theorem zd_94 : zm_cd0 94 2 := ⟨(zt_m3 151 rfl rfl), (zt_m1 9 rfl rfl), rfl, ⟨by decide, by decide⟩, by decide +kernel⟩
theorem zk_virt_NameTreeModel_136 : zm_rvi "NameTreeModel" 136 94 2 := ⟨by decide, zd_94, Or.inl (zt_m3 148 rfl rfl), (zt_m3 150 rfl rfl), (zt_m0 27 rfl rfl), _, rfl, rfl⟩
theorem zd_88 : zm_cd0 88 1 := ⟨(zt_m3 179 rfl rfl), (zt_m1 9 rfl rfl), rfl, ⟨by decide, by decide⟩, by decide +kernel⟩
theorem zk_virt_NameTreeModel_139 : zm_rvi "NameTreeModel" 139 88 1 := ⟨by decide, zd_88, Or.inl (zt_m3 176 rfl rfl), (zt_m3 178 rfl rfl), (zt_m0 31 rfl rfl), _, rfl, rfl⟩
theorem zd_100 : zm_cd0 100 2 := ⟨(zt_m3 195 rfl rfl), (zt_m1 9 rfl rfl), rfl, ⟨by decide, by decide⟩, by decide +kernel⟩
theorem zk_virt_NameTreeModel_142 : zm_rvi "NameTreeModel" 142 100 2 := ⟨by decide, zd_100, Or.inl (zt_m3 192 rfl rfl), (zt_m3 194 rfl rfl), (zt_m0 33 rfl rfl), _, rfl, rfl⟩
theorem zd_104 : zm_cd0 104 1 := ⟨(zt_m3 211 rfl rfl), (zt_m1 9 rfl rfl), rfl, ⟨by decide, by decide⟩, by decide +kernel⟩
theorem zk_virt_NameTreeModel_146 : zm_rvi "NameTreeModel" 146 104 1 := ⟨by decide, zd_104, Or.inl (zt_m3 208 rfl rfl), (zt_m3 210 rfl rfl), (zt_m0 34 rfl rfl), _, rfl, rfl⟩
theorem zd_106 : zm_cd0 106 1 := ⟨(zt_m3 219 rfl rfl), (zt_m1 9 rfl rfl), rfl, ⟨by decide, by decide⟩, by decide +kernel⟩
theorem zk_virt_NameTreeModel_150 : zm_rvi "NameTreeModel" 150 106 1 := ⟨by decide, zd_106, Or.inl (zt_m3 216 rfl rfl), (zt_m3 218 rfl rfl), (zt_m0 35 rfl rfl), _, rfl, rfl⟩
theorem zd_80 : zm_cd0 80 0 := ⟨(zt_m3 231 rfl rfl), (zt_m1 9 rfl rfl), rfl, ⟨by decide, by decide⟩, by decide +kernel⟩
theorem zk_virt_NameTreeModel_153 : zm_rvi "NameTreeModel" 153 80 0 := ⟨by decide, zd_80, Or.inl (zt_m3 228 rfl rfl), (zt_m3 230 rfl rfl), (zt_m0 36 rfl rfl), _, rfl, rfl⟩
end
section
set_option maxRecDepth 100000 in
theorem ze_0 : zc0.all (zm_chk (zt_by 0)) = true := by decide +kernel
set_option maxRecDepth 100000 in
theorem ze_1 : zc1.all (zm_chk (zt_by 1)) = true := by decide +kernel
set_option maxRecDepth 100000 in
theorem ze_2 : zc2.all (zm_chk (zt_by 2)) = true := by decide +kernel
set_option maxRecDepth 100000 in
theorem ze_3 : zc3.all (zm_chk (zt_by 3)) = true := by decide +kernel
set_option maxRecDepth 100000 in
theorem ze_4 : zc4.all (zm_chk (zt_by 4)) = true := by decide +kernel
set_option maxRecDepth 100000 in
theorem ze_5 : zc5.all (zm_chk (zt_by 5)) = true := by decide +kernel
set_option maxRecDepth 100000 in
theorem ze_6 : zc6.all (zm_chk (zt_by 6)) = true := by decide +kernel
set_option maxRecDepth 100000 in
theorem ze_7 : zc7.all (zm_chk (zt_by 7)) = true := by decide +kernel
set_option maxRecDepth 100000 in
theorem ze_8 : zc8.all (zm_chk (zt_by 8)) = true := by decide +kernel
set_option maxRecDepth 100000 in
theorem ze_9 : zc9.all (zm_chk (zt_by 9)) = true := by decide +kernel
set_option maxRecDepth 100000 in
theorem ze_10 : zc10.all (zm_chk (zt_by 10)) = true := by decide +kernel
set_option maxRecDepth 100000 in
theorem ze_11 : zc11.all (zm_chk (zt_by 11)) = true := by decide +kernel
set_option maxRecDepth 100000 in
theorem ze_12 : zc12.all (zm_chk (zt_by 12)) = true := by decide +kernel
set_option maxRecDepth 100000 in
theorem ze_13 : zc13.all (zm_chk (zt_by 13)) = true := by decide +kernel
set_option maxRecDepth 100000 in
theorem ze_14 : zc14.all (zm_chk (zt_by 14)) = true := by decide +kernel
set_option maxRecDepth 100000 in
theorem ze_15 : zc15.all (zm_chk (zt_by 15)) = true := by decide +kernel
set_option maxRecDepth 100000 in
theorem ze_16 : zc16.all (zm_chk (zt_by 16)) = true := by decide +kernel
set_option maxRecDepth 100000 in
theorem ze_17 : zc17.all (zm_chk (zt_by 17)) = true := by decide +kernel
set_option maxRecDepth 100000 in
theorem ze_18 : zc18.all (zm_chk (zt_by 18)) = true := by decide +kernel
set_option maxRecDepth 100000 in
theorem ze_19 : zc19.all (zm_chk (zt_by 19)) = true := by decide +kernel
set_option maxRecDepth 100000 in
theorem ze_20 : zc20.all (zm_chk (zt_by 20)) = true := by decide +kernel
set_option maxRecDepth 100000 in
theorem ze_21 : zc21.all (zm_chk (zt_by 21)) = true := by decide +kernel
set_option maxRecDepth 100000 in
theorem ze_22 : zc22.all (zm_chk (zt_by 22)) = true := by decide +kernel
set_option maxRecDepth 100000 in
theorem ze_23 : zc23.all (zm_chk (zt_by 23)) = true := by decide +kernel
set_option maxRecDepth 100000 in
theorem ze_24 : zc24.all (zm_chk (zt_by 24)) = true := by decide +kernel
set_option maxRecDepth 100000 in
theorem ze_25 : zc25.all (zm_chk (zt_by 25)) = true := by decide +kernel
set_option maxRecDepth 100000 in
theorem ze_26 : zc26.all (zm_chk (zt_by 26)) = true := by decide +kernel
set_option maxRecDepth 100000 in
theorem ze_27 : zc27.all (zm_chk (zt_by 27)) = true := by decide +kernel
set_option maxRecDepth 100000 in
theorem ze_28 : zc28.all (zm_chk (zt_by 28)) = true := by decide +kernel
set_option maxRecDepth 100000 in
theorem ze_29 : zc29.all (zm_chk (zt_by 29)) = true := by decide +kernel
set_option maxRecDepth 100000 in
theorem ze_30 : zc30.all (zm_chk (zt_by 30)) = true := by decide +kernel
set_option maxRecDepth 100000 in
theorem ze_31 : zc31.all (zm_chk (zt_by 31)) = true := by decide +kernel
set_option maxRecDepth 100000 in
theorem ze_32 : zc32.all (zm_chk (zt_by 32)) = true := by decide +kernel
set_option maxRecDepth 100000 in
theorem ze_33 : zc33.all (zm_chk (zt_by 33)) = true := by decide +kernel
set_option maxRecDepth 100000 in
theorem ze_34 : zc34.all (zm_chk (zt_by 34)) = true := by decide +kernel
set_option maxRecDepth 100000 in
theorem ze_35 : zc35.all (zm_chk (zt_by 35)) = true := by decide +kernel
set_option maxRecDepth 100000 in
theorem ze_36 : zc36.all (zm_chk (zt_by 36)) = true := by decide +kernel
set_option maxRecDepth 100000 in
theorem ze_37 : zc37.all (zm_chk (zt_by 37)) = true := by decide +kernel
set_option maxRecDepth 100000 in
theorem ze_38 : zc38.all (zm_chk (zt_by 38)) = true := by decide +kernel
set_option maxRecDepth 100000 in
theorem ze_39 : zc39.all (zm_chk (zt_by 39)) = true := by decide +kernel
set_option maxRecDepth 100000 in
theorem ze_40 : zc40.all (zm_chk (zt_by 40)) = true := by decide +kernel
set_option maxRecDepth 100000 in
theorem ze_41 : zc41.all (zm_chk (zt_by 41)) = true := by decide +kernel
set_option maxRecDepth 100000 in
theorem ze_42 : zc42.all (zm_chk (zt_by 42)) = true := by decide +kernel
set_option maxRecDepth 100000 in
theorem ze_43 : zc43.all (zm_chk (zt_by 43)) = true := by decide +kernel
set_option maxRecDepth 100000 in
theorem ze_44 : zc44.all (zm_chk (zt_by 44)) = true := by decide +kernel
set_option maxRecDepth 100000 in
theorem ze_45 : zc45.all (zm_chk (zt_by 45)) = true := by decide +kernel
set_option maxRecDepth 100000 in
theorem ze_46 : zc46.all (zm_chk (zt_by 46)) = true := by decide +kernel
set_option maxRecDepth 100000 in
theorem ze_47 : zc47.all (zm_chk (zt_by 47)) = true := by decide +kernel
set_option maxRecDepth 100000 in
theorem ze_48 : zc48.all (zm_chk (zt_by 48)) = true := by decide +kernel
set_option maxRecDepth 100000 in
theorem ze_49 : zc49.all (zm_chk (zt_by 49)) = true := by decide +kernel
set_option maxRecDepth 100000 in
theorem ze_50 : zc50.all (zm_chk (zt_by 50)) = true := by decide +kernel
set_option maxRecDepth 100000 in
theorem ze_51 : zc51.all (zm_chk (zt_by 51)) = true := by decide +kernel
set_option maxRecDepth 100000 in
theorem ze_52 : zc52.all (zm_chk (zt_by 52)) = true := by decide +kernel
set_option maxRecDepth 100000 in
theorem ze_53 : zc53.all (zm_chk (zt_by 53)) = true := by decide +kernel
set_option maxRecDepth 100000 in
theorem ze_54 : zc54.all (zm_chk (zt_by 54)) = true := by decide +kernel
set_option maxRecDepth 100000 in
theorem ze_55 : zc55.all (zm_chk (zt_by 55)) = true := by decide +kernel
set_option maxRecDepth 100000 in
theorem ze_56 : zc56.all (zm_chk (zt_by 56)) = true := by decide +kernel
set_option maxRecDepth 100000 in
theorem ze_57 : zc57.all (zm_chk (zt_by 57)) = true := by decide +kernel
set_option maxRecDepth 100000 in
theorem ze_58 : zc58.all (zm_chk (zt_by 58)) = true := by decide +kernel
set_option maxRecDepth 100000 in
theorem ze_59 : zc59.all (zm_chk (zt_by 59)) = true := by decide +kernel
set_option maxRecDepth 100000 in
theorem ze_60 : zc60.all (zm_chk (zt_by 60)) = true := by decide +kernel
set_option maxRecDepth 100000 in
theorem ze_61 : zc61.all (zm_chk (zt_by 61)) = true := by decide +kernel
set_option maxRecDepth 100000 in
theorem ze_62 : zc62.all (zm_chk (zt_by 62)) = true := by decide +kernel
set_option maxRecDepth 100000 in
theorem ze_63 : zc63.all (zm_chk (zt_by 63)) = true := by decide +kernel
set_option maxRecDepth 100000 in
theorem ze_64 : zc64.all (zm_chk (zt_by 64)) = true := by decide +kernel
set_option maxRecDepth 100000 in
theorem ze_65 : zc65.all (zm_chk (zt_by 65)) = true := by decide +kernel
set_option maxRecDepth 100000 in
theorem ze_66 : zc66.all (zm_chk (zt_by 66)) = true := by decide +kernel
set_option maxRecDepth 100000 in
theorem ze_67 : zc67.all (zm_chk (zt_by 67)) = true := by decide +kernel
set_option maxRecDepth 100000 in
theorem ze_68 : zc68.all (zm_chk (zt_by 68)) = true := by decide +kernel
set_option maxRecDepth 100000 in
theorem ze_69 : zc69.all (zm_chk (zt_by 69)) = true := by decide +kernel
set_option maxRecDepth 100000 in
theorem ze_70 : zc70.all (zm_chk (zt_by 70)) = true := by decide +kernel
set_option maxRecDepth 100000 in
theorem ze_71 : zc71.all (zm_chk (zt_by 71)) = true := by decide +kernel
set_option maxRecDepth 100000 in
theorem ze_72 : zc72.all (zm_chk (zt_by 72)) = true := by decide +kernel
set_option maxRecDepth 100000 in
theorem ze_73 : zc73.all (zm_chk (zt_by 73)) = true := by decide +kernel
set_option maxRecDepth 100000 in
theorem ze_74 : zc74.all (zm_chk (zt_by 74)) = true := by decide +kernel
set_option maxRecDepth 100000 in
theorem ze_75 : zc75.all (zm_chk (zt_by 75)) = true := by decide +kernel
set_option maxRecDepth 100000 in
theorem ze_76 : zc76.all (zm_chk (zt_by 76)) = true := by decide +kernel
set_option maxRecDepth 100000 in
theorem ze_77 : zc77.all (zm_chk (zt_by 77)) = true := by decide +kernel
set_option maxRecDepth 100000 in
theorem ze_78 : zc78.all (zm_chk (zt_by 78)) = true := by decide +kernel
set_option maxRecDepth 100000 in
theorem ze_79 : zc79.all (zm_chk (zt_by 79)) = true := by decide +kernel
set_option maxRecDepth 100000 in
theorem ze_80 : zc80.all (zm_chk (zt_by 80)) = true := by decide +kernel
set_option maxRecDepth 100000 in
theorem ze_81 : zc81.all (zm_chk (zt_by 81)) = true := by decide +kernel
set_option maxRecDepth 100000 in
theorem ze_82 : zc82.all (zm_chk (zt_by 82)) = true := by decide +kernel
set_option maxRecDepth 100000 in
theorem ze_83 : zc83.all (zm_chk (zt_by 83)) = true := by decide +kernel
set_option maxRecDepth 100000 in
theorem ze_84 : zc84.all (zm_chk (zt_by 84)) = true := by decide +kernel
set_option maxRecDepth 100000 in
theorem ze_85 : zc85.all (zm_chk (zt_by 85)) = true := by decide +kernel
set_option maxRecDepth 100000 in
theorem ze_86 : zc86.all (zm_chk (zt_by 86)) = true := by decide +kernel
set_option maxRecDepth 100000 in
theorem ze_87 : zc87.all (zm_chk (zt_by 87)) = true := by decide +kernel
set_option maxRecDepth 100000 in
theorem ze_88 : zc88.all (zm_chk (zt_by 88)) = true := by decide +kernel
set_option maxRecDepth 100000 in
theorem ze_89 : zc89.all (zm_chk (zt_by 89)) = true := by decide +kernel
set_option maxRecDepth 100000 in
theorem ze_90 : zc90.all (zm_chk (zt_by 90)) = true := by decide +kernel
set_option maxRecDepth 100000 in
theorem ze_91 : zc91.all (zm_chk (zt_by 91)) = true := by decide +kernel
set_option maxRecDepth 100000 in
theorem ze_92 : zc92.all (zm_chk (zt_by 92)) = true := by decide +kernel
set_option maxRecDepth 100000 in
theorem ze_93 : zc93.all (zm_chk (zt_by 93)) = true := by decide +kernel
set_option maxRecDepth 100000 in
theorem ze_94 : zc94.all (zm_chk (zt_by 94)) = true := by decide +kernel
set_option maxRecDepth 100000 in
theorem ze_95 : zc95.all (zm_chk (zt_by 95)) = true := by decide +kernel
set_option maxRecDepth 100000 in
theorem ze_96 : zc96.all (zm_chk (zt_by 96)) = true := by decide +kernel
set_option maxRecDepth 100000 in
theorem ze_97 : zc97.all (zm_chk (zt_by 97)) = true := by decide +kernel
set_option maxRecDepth 100000 in
theorem ze_98 : zc98.all (zm_chk (zt_by 98)) = true := by decide +kernel
set_option maxRecDepth 100000 in
theorem ze_99 : zc99.all (zm_chk (zt_by 99)) = true := by decide +kernel
set_option maxRecDepth 100000 in
theorem ze_100 : zc100.all (zm_chk (zt_by 100)) = true := by decide +kernel
set_option maxRecDepth 100000 in
theorem ze_101 : zc101.all (zm_chk (zt_by 101)) = true := by decide +kernel
set_option maxRecDepth 100000 in
theorem ze_102 : zc102.all (zm_chk (zt_by 102)) = true := by decide +kernel
set_option maxRecDepth 100000 in
theorem ze_103 : zc103.all (zm_chk (zt_by 103)) = true := by decide +kernel
set_option maxRecDepth 100000 in
theorem ze_104 : zc104.all (zm_chk (zt_by 104)) = true := by decide +kernel
set_option maxRecDepth 100000 in
theorem ze_105 : zc105.all (zm_chk (zt_by 105)) = true := by decide +kernel
set_option maxRecDepth 100000 in
theorem ze_106 : zc106.all (zm_chk (zt_by 106)) = true := by decide +kernel
set_option maxRecDepth 100000 in
theorem ze_107 : zc107.all (zm_chk (zt_by 107)) = true := by decide +kernel
set_option maxRecDepth 100000 in
theorem ze_108 : zc108.all (zm_chk (zt_by 108)) = true := by decide +kernel
set_option maxRecDepth 100000 in
theorem ze_109 : zc109.all (zm_chk (zt_by 109)) = true := by decide +kernel
end
section
set_option maxRecDepth 100000 in
set_option maxHeartbeats 4000000 in
theorem zs_0 : ∀ q ∈ zc0, zm_rs 0 q.1 q.2.1 q.2.2.2.1 q.2.2.2.2.1 q.2.2.2.2.2 :=
  zm_ac ⟨zk_new_NameTreeLaw_7, fun _ _ => rfl⟩ <|
  zm_ac trivial <|
  zm_ac (Or.inr ⟨zk_spec_NameTreeLaw_9, by decide, by decide⟩) <|
  zm_ac trivial <|
  zm_ac ⟨zk_new_NameTreeLaw_10, fun _ _ => rfl⟩ <|
  zm_ac trivial <|
  zm_ac (Or.inr ⟨zk_spec_NameTreeLaw_12, by decide, by decide⟩) <|
  zm_ac trivial <|
  zm_ac trivial <|
  zm_ac trivial <|
  zm_ac trivial <|
  zm_ac trivial <|
  zm_ac trivial <|
  zm_ac trivial <|
  zm_ac trivial <|
  zm_ac (zm_jp rfl) <|
  zm_ac trivial <|
  zm_ac trivial <|
  zm_ac trivial <|
  zm_ac trivial <|
  zm_ac trivial <|
  zm_ac (zm_tsw (by decide) (by decide) (by decide) (by decide)) <|
  zm_ac trivial <|
  zm_ac trivial <|
  zm_ac trivial <|
  zm_ac trivial <|
  zm_ac trivial <|
  zm_ac trivial <|
  zm_ac trivial <|
  zm_ac trivial <|
  zm_ac trivial <|
  zm_ac trivial <|
  zm_ac trivial <|
  zm_ac trivial <|
  zm_ac trivial <|
  zm_ac trivial <|
  zm_ac trivial <|
  zm_ac ⟨_, _, rfl, zk_ldc2_NameTreeLaw_13⟩ <|
  zm_ac trivial <|
  zm_ac trivial <|
  zm_ac trivial <|
  zm_ac trivial <|
  zm_ac trivial <|
  zm_ac trivial <|
  zm_ac trivial <|
  zm_ac ⟨zk_virt_NameTreeLaw_15, by decide, by decide⟩ <|
  zm_ac trivial <|
  zm_ac trivial <|
  zm_ac trivial <|
  zm_ac trivial <|
  zm_ac trivial <|
  zm_ac trivial <|
  zm_ac trivial <|
  zm_ac trivial <|
  zm_ac trivial <|
  zm_ac trivial <|
  zm_ac trivial <|
  zm_ac trivial <|
  zm_ac trivial <|
  zm_ac trivial <|
  zm_ac trivial <|
  zm_ac ⟨_, _, rfl, zk_ldc2_NameTreeLaw_13⟩ <|
  zm_ac trivial <|
  zm_ac trivial <|
  zm_ac trivial <|
  zm_ac trivial <|
  zm_ac trivial <|
  zm_ac trivial <|
  zm_ac trivial <|
  zm_ac ⟨zk_virt_NameTreeLaw_19, by decide, by decide⟩ <|
  zm_ac (zm_jp rfl) <|
  zm_ac trivial <|
  zm_ac trivial <|
  zm_ac trivial <|
  zm_ac trivial <|
  zm_ac trivial <|
  zm_ac trivial <|
  zm_ac trivial <|
  zm_ac trivial <|
  zm_ac trivial <|
  zm_ac trivial <|
  zm_ac trivial <|
  zm_ac trivial <|
  zm_ac trivial <|
  zm_ac ⟨zk_virt_NameTreeLaw_20, by decide, by decide⟩ <|
  zm_ac trivial <|
  zm_ac trivial <|
  zm_ac trivial <|
  zm_ac trivial <|
  zm_ac trivial <|
  zm_ac trivial <|
  zm_ac trivial <|
  zm_ac trivial <|
  zm_ac trivial <|
  zm_ac trivial <|
  zm_ac trivial <|
  zm_ac ⟨zk_virt_NameTreeLaw_24, by decide, by decide⟩ <|
  zm_ac (zm_jp rfl) <|
  zm_ac trivial <|
  zm_ac trivial <|
  zm_ac trivial <|
  zm_ac trivial <|
  zm_ac trivial <|
  zm_ac trivial <|
  zm_ac trivial <|
  zm_ac trivial <|
  zm_ac ⟨zk_virt_NameTreeLaw_25, by decide, by decide⟩ <|
  zm_ac trivial <|
  zm_ac trivial <|
  zm_ac trivial <|
  zm_ac trivial <|
  zm_ac trivial <|
  zm_ac trivial <|
  zm_ac ⟨zk_virt_NameTreeLaw_29, by decide, by decide⟩ <|
  zm_ac (zm_jp rfl) <|
  zm_ac trivial <|
  zm_ac trivial <|
  zm_ac trivial <|
  zm_ac trivial <|
  zm_ac trivial <|
  zm_ac trivial <|
  zm_ac trivial <|
  zm_ac trivial <|
  zm_ac ⟨zk_virt_NameTreeLaw_30, by decide, by decide⟩ <|
  zm_ac trivial <|
  zm_ac trivial <|
  zm_ac trivial <|
  zm_ac trivial <|
  zm_ac trivial <|
  zm_ac trivial <|
  zm_ac ⟨zk_virt_NameTreeLaw_33, by decide, by decide⟩ <|
  zm_ac (zm_jp rfl) <|
  zm_ac trivial <|
  zm_ac trivial <|
  zm_ac trivial <|
  zm_ac ⟨zk_virt_NameTreeLaw_34, by decide, by decide⟩ <|
  zm_ac trivial <|
  zm_ac ⟨zk_virt_NameTreeLaw_38, by decide, by decide⟩ <|
  zm_ac (zm_jp rfl) <|
  zm_ac trivial <|
  zm_ac trivial <|
  zm_ac trivial <|
  zm_ac ⟨zk_virt_NameTreeLaw_39, by decide, by decide⟩ <|
  zm_ac trivial <|
  zm_ac ⟨zk_virt_NameTreeLaw_42, by decide, by decide⟩ <|
  zm_ac (zm_jp rfl) <|
  zm_ac trivial <|
  zm_ac trivial <|
  zm_ac trivial <|
  zm_ac ⟨zk_virt_NameTreeLaw_43, by decide, by decide⟩ <|
  zm_ac trivial <|
  zm_ac ⟨zk_virt_NameTreeLaw_46, by decide, by decide⟩ <|
  zm_ac (zm_jp rfl) <|
  zm_ac trivial <|
  zm_ac trivial <|
  zm_ac trivial <|
  zm_ac ⟨zk_virt_NameTreeLaw_47, by decide, by decide⟩ <|
  zm_ac trivial <|
  zm_ac ⟨zk_virt_NameTreeLaw_50, by decide, by decide⟩ <|
  zm_ac (zm_jp rfl) <|
  zm_ac trivial <|
  zm_ac trivial <|
  zm_ac trivial <|
  zm_ac ⟨zk_virt_NameTreeLaw_51, by decide, by decide⟩ <|
  zm_ac trivial <|
  zm_ac ⟨zk_virt_NameTreeLaw_54, by decide, by decide⟩ <|
  zm_ac (zm_jp rfl) <|
  zm_ac trivial <|
  zm_ac trivial <|
  zm_ac trivial <|
  zm_ac trivial <|
  zm_ac trivial <|
  zm_ac trivial <|
  zm_ac trivial <|
  zm_ac trivial <|
  zm_ac (zm_jp rfl) <|
  zm_ac trivial <|
  zm_ac (zm_jp rfl) <|
  zm_ac trivial <|
  zm_ac ⟨zk_virt_NameTreeLaw_55, by decide, by decide⟩ <|
  zm_ac trivial <|
  zm_ac trivial <|
  zm_ac trivial <|
  zm_ac trivial <|
  zm_ac trivial <|
  zm_ac trivial <|
  zm_ac (zm_jp rfl) <|
  zm_ac trivial <|
  zm_ac (zm_jp rfl) <|
  zm_ac trivial <|
  zm_ac ⟨zk_virt_NameTreeLaw_59, by decide, by decide⟩ <|
  zm_ac (zm_jp rfl) <|
  zm_ac trivial <|
  zm_ac trivial <|
  zm_ac trivial <|
  zm_ac ⟨zk_virt_NameTreeLaw_60, by decide, by decide⟩ <|
  zm_ac trivial <|
  zm_ac ⟨zk_virt_NameTreeLaw_63, by decide, by decide⟩ <|
  zm_ac (zm_jp rfl) <|
  zm_ac trivial <|
  zm_ac trivial <|
  zm_ac trivial <|
  zm_ac trivial <|
  zm_ac trivial <|
  zm_ac trivial <|
  zm_ac trivial <|
  zm_ac trivial <|
  zm_ac ⟨zk_virt_NameTreeLaw_64, by decide, by decide⟩ <|
  zm_ac trivial <|
  zm_ac trivial <|
  zm_ac trivial <|
  zm_ac trivial <|
  zm_ac trivial <|
  zm_ac trivial <|
  zm_ac ⟨zk_virt_NameTreeLaw_67, by decide, by decide⟩ <|
  zm_ac (zm_jp rfl) <|
  zm_ac trivial <|
  zm_ac trivial <|
  zm_ac trivial <|
  zm_ac trivial <|
  zm_ac trivial <|
  zm_ac trivial <|
  zm_ac trivial <|
  zm_ac trivial <|
  zm_ac trivial <|
  zm_ac trivial <|
  zm_ac trivial <|
  zm_ac trivial <|
  zm_ac trivial <|
  zm_ac ⟨zk_virt_NameTreeLaw_68, by decide, by decide⟩ <|
  zm_ac trivial <|
  zm_ac trivial <|
  zm_ac trivial <|
  zm_ac trivial <|
  zm_ac trivial <|
  zm_ac trivial <|
  zm_ac trivial <|
  zm_ac trivial <|
  zm_ac trivial <|
  zm_ac trivial <|
  zm_ac trivial <|
  zm_ac ⟨zk_virt_NameTreeLaw_71, by decide, by decide⟩ <|
  zm_ac (zm_jp rfl) <|
  zm_ac trivial <|
  zm_ac trivial <|
  zm_ac trivial <|
  zm_ac trivial <|
  zm_ac trivial <|
  zm_ac trivial <|
  zm_ac trivial <|
  zm_ac trivial <|
  zm_ac trivial <|
  zm_ac trivial <|
  zm_ac trivial <|
  zm_ac trivial <|
  zm_ac trivial <|
  zm_ac ⟨zk_virt_NameTreeLaw_72, by decide, by decide⟩ <|
  zm_ac trivial <|
  zm_ac trivial <|
  zm_ac trivial <|
  zm_ac trivial <|
  zm_ac trivial <|
  zm_ac trivial <|
  zm_ac trivial <|
  zm_ac trivial <|
  zm_ac trivial <|
  zm_ac trivial <|
  zm_ac trivial <|
  zm_ac ⟨zk_virt_NameTreeLaw_75, by decide, by decide⟩ <|
  zm_ac (zm_jp rfl) <|
  zm_ac trivial <|
  zm_ac trivial <|
  zm_ac trivial <|
  zm_ac trivial <|
  zm_ac trivial <|
  zm_ac trivial <|
  zm_ac trivial <|
  zm_ac trivial <|
  zm_ac ⟨zk_virt_NameTreeLaw_76, by decide, by decide⟩ <|
  zm_ac trivial <|
  zm_ac trivial <|
  zm_ac trivial <|
  zm_ac trivial <|
  zm_ac trivial <|
  zm_ac trivial <|
  zm_ac ⟨zk_virt_NameTreeLaw_79, by decide, by decide⟩ <|
  zm_ac (zm_jp rfl) <|
  zm_ac trivial <|
  zm_ac trivial <|
  zm_ac trivial <|
  zm_ac (zm_jp rfl) <|
  zm_ac trivial <|
  zm_ac trivial <|
  zm_an
set_option maxRecDepth 100000 in
set_option maxHeartbeats 4000000 in
theorem zs_1 : ∀ q ∈ zc1, zm_rs 1 q.1 q.2.1 q.2.2.2.1 q.2.2.2.2.1 q.2.2.2.2.2 :=
  zm_ac trivial <|
  zm_ac (Or.inl ⟨rfl, zk_obj_NameTree_FileTable_3, by decide, by decide⟩) <|
  zm_ac trivial <|
  zm_ac trivial <|
  zm_ac zk_anew_NameTree_FileTable_9 <|
  zm_ac zk_putF_NameTree_FileTable_11 <|
  zm_ac trivial <|
  zm_ac ⟨zk_new_NameTree_FileTable_9, fun _ _ => rfl⟩ <|
  zm_ac trivial <|
  zm_ac trivial <|
  zm_ac (Or.inr ⟨zk_spec_NameTree_FileTable_17, by decide, by decide⟩) <|
  zm_ac zk_putF_NameTree_FileTable_20 <|
  zm_ac trivial <|
  zm_ac zk_get_NameTree_FileTable_20 <|
  zm_ac trivial <|
  zm_ac ⟨zk_virt_NameTree_FileTable_24, by decide, by decide⟩ <|
  zm_ac trivial <|
  zm_ac zk_get_NameTree_FileTable_20 <|
  zm_ac trivial <|
  zm_ac zk_get_NameTree_FileTable_20 <|
  zm_ac (zm_rp_any zk_put_NameTree_FileTable_27) <|
  zm_ac trivial <|
  zm_ac zk_get_NameTree_FileTable_11 <|
  zm_ac trivial <|
  zm_ac trivial <|
  zm_ac zk_get_NameTree_FileTable_20 <|
  zm_ac trivial <|
  zm_ac trivial <|
  zm_ac trivial <|
  zm_ac trivial <|
  zm_ac trivial <|
  zm_ac zk_get_NameTree_FileTable_11 <|
  zm_ac trivial <|
  zm_ac (zm_jp rfl) <|
  zm_ac trivial <|
  zm_ac zk_get_NameTree_FileTable_11 <|
  zm_ac trivial <|
  zm_ac ⟨zk_new_NameTree_FileTable_9, fun _ _ => rfl⟩ <|
  zm_ac trivial <|
  zm_ac trivial <|
  zm_ac trivial <|
  zm_ac trivial <|
  zm_ac (Or.inr ⟨zk_spec_NameTree_FileTable_17, by decide, by decide⟩) <|
  zm_ac trivial <|
  zm_ac trivial <|
  zm_ac (zm_jp rfl) <|
  zm_ac trivial <|
  zm_an
set_option maxRecDepth 100000 in
set_option maxHeartbeats 4000000 in
theorem zs_2 : ∀ q ∈ zc2, zm_rs 2 q.1 q.2.1 q.2.2.2.1 q.2.2.2.2.1 q.2.2.2.2.2 :=
  zm_ac trivial <|
  zm_ac trivial <|
  zm_ac (zm_jp rfl) <|
  zm_ac trivial <|
  zm_ac trivial <|
  zm_ac zk_get_NameTree_FileTable_11 <|
  zm_ac trivial <|
  zm_ac (zm_jp rfl) <|
  zm_ac trivial <|
  zm_ac trivial <|
  zm_ac trivial <|
  zm_ac zk_get_NameTree_FileTable_11 <|
  zm_ac trivial <|
  zm_ac trivial <|
  zm_ac trivial <|
  zm_ac trivial <|
  zm_ac trivial <|
  zm_ac trivial <|
  zm_ac (zm_jp rfl) <|
  zm_ac trivial <|
  zm_ac zk_get_NameTree_FileTable_30 <|
  zm_ac (zm_jp rfl) <|
  zm_ac trivial <|
  zm_ac (zm_jp rfl) <|
  zm_ac trivial <|
  zm_ac trivial <|
  zm_an
set_option maxRecDepth 100000 in
set_option maxHeartbeats 4000000 in
theorem zs_3 : ∀ q ∈ zc3, zm_rs 3 q.1 q.2.1 q.2.2.2.1 q.2.2.2.2.1 q.2.2.2.2.2 :=
  zm_ac trivial <|
  zm_ac zk_get_NameTree_FileTable_11 <|
  zm_ac trivial <|
  zm_ac trivial <|
  zm_ac trivial <|
  zm_ac trivial <|
  zm_ac trivial <|
  zm_ac trivial <|
  zm_ac trivial <|
  zm_ac trivial <|
  zm_ac (zm_jp rfl) <|
  zm_ac trivial <|
  zm_ac trivial <|
  zm_ac trivial <|
  zm_ac trivial <|
  zm_ac trivial <|
  zm_ac (zm_jp rfl) <|
  zm_ac trivial <|
  zm_ac zk_get_NameTree_FileTable_30 <|
  zm_ac (zm_jp rfl) <|
  zm_ac trivial <|
  zm_ac trivial <|
  zm_ac trivial <|
  zm_ac (zm_jp rfl) <|
  zm_ac trivial <|
  zm_ac trivial <|
  zm_an
set_option maxRecDepth 100000 in
set_option maxHeartbeats 4000000 in
theorem zs_4 : ∀ q ∈ zc4, zm_rs 4 q.1 q.2.1 q.2.2.2.1 q.2.2.2.2.1 q.2.2.2.2.2 :=
  zm_ac trivial <|
  zm_ac trivial <|
  zm_ac trivial <|
  zm_ac zk_get_NameTree_FileTable_11 <|
  zm_ac trivial <|
  zm_ac trivial <|
  zm_ac trivial <|
  zm_ac trivial <|
  zm_ac trivial <|
  zm_ac trivial <|
  zm_ac trivial <|
  zm_ac trivial <|
  zm_ac (zm_jp rfl) <|
  zm_ac trivial <|
  zm_ac trivial <|
  zm_ac trivial <|
  zm_ac trivial <|
  zm_ac trivial <|
  zm_ac (zm_jp rfl) <|
  zm_ac trivial <|
  zm_ac zk_get_NameTree_FileTable_30 <|
  zm_ac (zm_jp rfl) <|
  zm_ac trivial <|
  zm_ac trivial <|
  zm_ac (zm_jp rfl) <|
  zm_ac trivial <|
  zm_ac trivial <|
  zm_an
set_option maxRecDepth 100000 in
set_option maxHeartbeats 4000000 in
theorem zs_5 : ∀ q ∈ zc5, zm_rs 5 q.1 q.2.1 q.2.2.2.1 q.2.2.2.2.1 q.2.2.2.2.2 :=
  zm_ac trivial <|
  zm_ac trivial <|
  zm_ac trivial <|
  zm_ac zk_get_NameTree_FileTable_11 <|
  zm_ac trivial <|
  zm_ac trivial <|
  zm_ac trivial <|
  zm_ac trivial <|
  zm_ac trivial <|
  zm_ac trivial <|
  zm_ac trivial <|
  zm_ac trivial <|
  zm_ac (zm_jp rfl) <|
  zm_ac trivial <|
  zm_ac trivial <|
  zm_ac trivial <|
  zm_ac trivial <|
  zm_ac trivial <|
  zm_ac (zm_jp rfl) <|
  zm_ac trivial <|
  zm_ac trivial <|
  zm_ac ⟨zk_virt_NameTree_FileTable_34, by decide, by decide⟩ <|
  zm_ac trivial <|
  zm_ac trivial <|
  zm_ac trivial <|
  zm_ac (zm_jp rfl) <|
  zm_ac trivial <|
  zm_ac trivial <|
  zm_an
set_option maxRecDepth 100000 in
set_option maxHeartbeats 4000000 in
theorem zs_6 : ∀ q ∈ zc6, zm_rs 6 q.1 q.2.1 q.2.2.2.1 q.2.2.2.2.1 q.2.2.2.2.2 :=
  zm_ac trivial <|
  zm_ac trivial <|
  zm_ac trivial <|
  zm_ac zk_get_NameTree_FileTable_11 <|
  zm_ac trivial <|
  zm_ac trivial <|
  zm_ac trivial <|
  zm_ac trivial <|
  zm_ac trivial <|
  zm_ac trivial <|
  zm_ac trivial <|
  zm_ac trivial <|
  zm_ac (zm_jp rfl) <|
  zm_ac trivial <|
  zm_ac trivial <|
  zm_ac trivial <|
  zm_ac trivial <|
  zm_ac trivial <|
  zm_ac (zm_jp rfl) <|
  zm_ac trivial <|
  zm_ac trivial <|
  zm_ac zk_get_NameTree_FileTable_20 <|
  zm_ac (zm_jp rfl) <|
  zm_ac trivial <|
  zm_ac zk_get_NameTree_FileTable_27 <|
  zm_ac trivial <|
  zm_ac (zm_jp rfl) <|
  zm_ac trivial <|
  zm_ac trivial <|
  zm_ac (zm_jp rfl) <|
  zm_ac trivial <|
  zm_ac trivial <|
  zm_an
set_option maxRecDepth 100000 in
set_option maxHeartbeats 4000000 in
theorem zs_7 : ∀ q ∈ zc7, zm_rs 7 q.1 q.2.1 q.2.2.2.1 q.2.2.2.2.1 q.2.2.2.2.2 :=
  zm_ac trivial <|
  zm_ac (Or.inl ⟨rfl, zk_obj_NameTree_NameRow_3, by decide, by decide⟩) <|
  zm_ac trivial <|
  zm_an
set_option maxRecDepth 100000 in
set_option maxHeartbeats 4000000 in
theorem zs_8 : ∀ q ∈ zc8, zm_rs 8 q.1 q.2.1 q.2.2.2.1 q.2.2.2.2.1 q.2.2.2.2.2 :=
  zm_ac trivial <|
  zm_ac zk_get_NameTree_NameRow_9 <|
  zm_ac (zm_jp rfl) <|
  zm_ac trivial <|
  zm_ac trivial <|
  zm_ac ⟨by decide, by decide, rfl, (zt_m1 35 rfl rfl), rfl, by decide⟩ <|
  zm_ac (zm_rp_any zk_put_NameTree_NameRow_9) <|
  zm_ac trivial <|
  zm_ac trivial <|
  zm_ac trivial <|
  zm_ac trivial <|
  zm_ac trivial <|
  zm_ac zk_get_NameTree_NameRow_9 <|
  zm_ac (Or.inr (Or.inr (Or.inr ⟨zk_stat_NameTree_NameRow_15, by decide, by decide⟩))) <|
  zm_ac (zm_rp_any zk_put_NameTree_NameRow_19) <|
  zm_ac trivial <|
  zm_an
set_option maxRecDepth 100000 in
set_option maxHeartbeats 4000000 in
theorem zs_9 : ∀ q ∈ zc9, zm_rs 9 q.1 q.2.1 q.2.2.2.1 q.2.2.2.2.1 q.2.2.2.2.2 :=
  zm_ac trivial <|
  zm_ac zk_get_NameTree_NameRow_9 <|
  zm_ac (zm_jp rfl) <|
  zm_ac trivial <|
  zm_ac (zm_jp rfl) <|
  zm_ac trivial <|
  zm_ac trivial <|
  zm_ac zk_get_NameTree_NameRow_19 <|
  zm_ac (zm_jp rfl) <|
  zm_ac trivial <|
  zm_ac trivial <|
  zm_ac zk_get_NameTree_NameRow_9 <|
  zm_ac trivial <|
  zm_ac (zm_jp rfl) <|
  zm_ac trivial <|
  zm_ac (zm_jp rfl) <|
  zm_ac trivial <|
  zm_ac trivial <|
  zm_ac trivial <|
  zm_ac trivial <|
  zm_ac trivial <|
  zm_ac (zm_jp rfl) <|
  zm_ac trivial <|
  zm_ac trivial <|
  zm_ac trivial <|
  zm_ac trivial <|
  zm_ac trivial <|
  zm_ac trivial <|
  zm_ac (zm_jp rfl) <|
  zm_ac trivial <|
  zm_ac zk_get_NameTree_NameRow_9 <|
  zm_ac trivial <|
  zm_ac trivial <|
  zm_ac trivial <|
  zm_ac trivial <|
  zm_ac trivial <|
  zm_ac trivial <|
  zm_ac trivial <|
  zm_ac (zm_jp rfl) <|
  zm_ac trivial <|
  zm_ac trivial <|
  zm_ac trivial <|
  zm_ac (zm_jp rfl) <|
  zm_ac trivial <|
  zm_ac trivial <|
  zm_an
set_option maxRecDepth 100000 in
set_option maxHeartbeats 4000000 in
theorem zs_10 : ∀ q ∈ zc10, zm_rs 10 q.1 q.2.1 q.2.2.2.1 q.2.2.2.2.1 q.2.2.2.2.2 :=
  zm_ac trivial <|
  zm_ac (Or.inl ⟨rfl, zk_obj_NameTree_NameTable_3, by decide, by decide⟩) <|
  zm_ac trivial <|
  zm_ac trivial <|
  zm_ac zk_anew_NameTree_NameTable_9 <|
  zm_ac zk_putF_NameTree_NameTable_11 <|
  zm_ac trivial <|
  zm_ac trivial <|
  zm_ac trivial <|
  zm_ac trivial <|
  zm_ac zk_get_NameTree_NameTable_11 <|
  zm_ac trivial <|
  zm_ac (zm_jp rfl) <|
  zm_ac trivial <|
  zm_ac zk_get_NameTree_NameTable_11 <|
  zm_ac trivial <|
  zm_ac ⟨zk_new_NameTree_NameTable_9, fun _ _ => rfl⟩ <|
  zm_ac trivial <|
  zm_ac (Or.inr ⟨zk_spec_NameTree_NameTable_17, by decide, by decide⟩) <|
  zm_ac trivial <|
  zm_ac trivial <|
  zm_ac (zm_jp rfl) <|
  zm_ac trivial <|
  zm_an
set_option maxRecDepth 100000 in
set_option maxHeartbeats 4000000 in
theorem zs_11 : ∀ q ∈ zc11, zm_rs 11 q.1 q.2.1 q.2.2.2.1 q.2.2.2.2.1 q.2.2.2.2.2 :=
  zm_ac trivial <|
  zm_ac trivial <|
  zm_ac trivial <|
  zm_ac trivial <|
  zm_ac zk_get_NameTree_NameTable_18 <|
  zm_ac (zm_jp rfl) <|
  zm_ac trivial <|
  zm_ac trivial <|
  zm_ac zk_get_NameTree_NameTable_11 <|
  zm_ac trivial <|
  zm_ac (zm_jp rfl) <|
  zm_ac trivial <|
  zm_ac zk_get_NameTree_NameTable_11 <|
  zm_ac trivial <|
  zm_ac trivial <|
  zm_ac trivial <|
  zm_ac trivial <|
  zm_ac (zm_jp rfl) <|
  zm_ac trivial <|
  zm_ac zk_get_NameTree_NameTable_22 <|
  zm_ac trivial <|
  zm_ac (zm_jp rfl) <|
  zm_ac trivial <|
  zm_ac trivial <|
  zm_ac trivial <|
  zm_ac trivial <|
  zm_ac ⟨zk_virt_NameTree_NameTable_26, by decide, by decide⟩ <|
  zm_ac (zm_jp rfl) <|
  zm_ac trivial <|
  zm_ac trivial <|
  zm_ac trivial <|
  zm_ac (zm_jp rfl) <|
  zm_ac trivial <|
  zm_ac trivial <|
  zm_an
set_option maxRecDepth 100000 in
set_option maxHeartbeats 4000000 in
theorem zs_12 : ∀ q ∈ zc12, zm_rs 12 q.1 q.2.1 q.2.2.2.1 q.2.2.2.2.1 q.2.2.2.2.2 :=
  zm_ac trivial <|
  zm_ac zk_get_NameTree_NameTable_18 <|
  zm_ac (zm_jp rfl) <|
  zm_ac trivial <|
  zm_ac zk_get_NameTree_NameTable_18 <|
  zm_ac trivial <|
  zm_ac zk_get_NameTree_NameTable_11 <|
  zm_ac trivial <|
  zm_ac (zm_jp rfl) <|
  zm_ac trivial <|
  zm_ac trivial <|
  zm_ac zk_get_NameTree_NameTable_11 <|
  zm_ac trivial <|
  zm_ac zk_get_NameTree_NameTable_18 <|
  zm_ac trivial <|
  zm_ac trivial <|
  zm_ac trivial <|
  zm_ac zk_get_NameTree_NameTable_30 <|
  zm_ac trivial <|
  zm_ac trivial <|
  zm_ac (zm_jp rfl) <|
  zm_ac trivial <|
  zm_ac (zm_jp rfl) <|
  zm_ac trivial <|
  zm_ac trivial <|
  zm_ac trivial <|
  zm_ac zk_get_NameTree_NameTable_18 <|
  zm_ac trivial <|
  zm_ac trivial <|
  zm_ac (zm_rp_any zk_put_NameTree_NameTable_18) <|
  zm_ac trivial <|
  zm_ac trivial <|
  zm_ac zk_get_NameTree_NameTable_33 <|
  zm_ac trivial <|
  zm_ac zk_get_NameTree_NameTable_37 <|
  zm_ac trivial <|
  zm_ac zk_get_NameTree_NameTable_40 <|
  zm_ac ⟨zk_virt_NameTree_NameTable_43, by decide, by decide⟩ <|
  zm_ac trivial <|
  zm_ac trivial <|
  zm_ac (zm_rp_any zk_put_NameTree_NameTable_22) <|
  zm_ac trivial <|
  zm_ac trivial <|
  zm_ac (zm_rp_any zk_put_NameTree_NameTable_47) <|
  zm_ac trivial <|
  zm_ac trivial <|
  zm_ac zk_get_NameTree_NameTable_50 <|
  zm_ac trivial <|
  zm_ac trivial <|
  zm_ac (zm_rp_any zk_put_NameTree_NameTable_50) <|
  zm_ac trivial <|
  zm_ac trivial <|
  zm_ac zk_get_NameTree_NameTable_55 <|
  zm_ac trivial <|
  zm_ac zk_get_NameTree_NameTable_50 <|
  zm_ac (Or.inl ⟨rfl, zk_max_NameTree_NameTable_58, by decide, by decide⟩) <|
  zm_ac (zm_rp_any zk_put_NameTree_NameTable_55) <|
  zm_ac trivial <|
  zm_ac trivial <|
  zm_ac zk_get_NameTree_NameTable_64 <|
  zm_ac trivial <|
  zm_ac trivial <|
  zm_ac (zm_rp_any zk_put_NameTree_NameTable_64) <|
  zm_ac trivial <|
  zm_ac zk_get_NameTree_NameTable_67 <|
  zm_ac trivial <|
  zm_ac (zm_jp rfl) <|
  zm_ac trivial <|
  zm_ac trivial <|
  zm_ac (zm_rp_any zk_put_NameTree_NameTable_70) <|
  zm_ac trivial <|
  zm_an
set_option maxRecDepth 100000 in
set_option maxHeartbeats 4000000 in
theorem zs_13 : ∀ q ∈ zc13, zm_rs 13 q.1 q.2.1 q.2.2.2.1 q.2.2.2.2.1 q.2.2.2.2.2 :=
  zm_ac trivial <|
  zm_ac zk_get_NameTree_NameTable_18 <|
  zm_ac trivial <|
  zm_ac trivial <|
  zm_ac trivial <|
  zm_ac trivial <|
  zm_ac trivial <|
  zm_ac trivial <|
  zm_ac trivial <|
  zm_ac (zm_jp rfl) <|
  zm_ac trivial <|
  zm_ac trivial <|
  zm_ac zk_get_NameTree_NameTable_11 <|
  zm_ac trivial <|
  zm_ac (zm_jp rfl) <|
  zm_ac trivial <|
  zm_ac zk_get_NameTree_NameTable_11 <|
  zm_ac trivial <|
  zm_ac trivial <|
  zm_ac trivial <|
  zm_ac (zm_jp rfl) <|
  zm_ac trivial <|
  zm_ac zk_get_NameTree_NameTable_11 <|
  zm_ac trivial <|
  zm_ac trivial <|
  zm_ac zk_get_NameTree_NameTable_11 <|
  zm_ac trivial <|
  zm_ac trivial <|
  zm_ac trivial <|
  zm_ac trivial <|
  zm_ac zk_get_NameTree_NameTable_11 <|
  zm_ac trivial <|
  zm_ac trivial <|
  zm_ac trivial <|
  zm_ac trivial <|
  zm_ac trivial <|
  zm_ac (zm_rp_any zk_put_NameTree_NameTable_18) <|
  zm_ac trivial <|
  zm_ac (Or.inr (Or.inr (Or.inr ⟨zk_stat_NameTree_NameTable_73, by decide, by decide⟩))) <|
  zm_ac trivial <|
  zm_ac trivial <|
  zm_ac (zm_jp rfl) <|
  zm_ac trivial <|
  zm_an
set_option maxRecDepth 100000 in
set_option maxHeartbeats 4000000 in
theorem zs_14 : ∀ q ∈ zc14, zm_rs 14 q.1 q.2.1 q.2.2.2.1 q.2.2.2.2.1 q.2.2.2.2.2 :=
  zm_ac trivial <|
  zm_ac (zm_jp rfl) <|
  zm_ac trivial <|
  zm_ac trivial <|
  zm_ac zk_get_NameTree_NameTable_22 <|
  zm_ac (zm_jp rfl) <|
  zm_ac trivial <|
  zm_ac zk_get_NameTree_NameTable_22 <|
  zm_ac trivial <|
  zm_ac zk_get_NameTree_NameTable_50 <|
  zm_ac trivial <|
  zm_ac trivial <|
  zm_ac (zm_rp_any zk_put_NameTree_NameTable_50) <|
  zm_ac trivial <|
  zm_ac zk_get_NameTree_NameTable_47 <|
  zm_ac (zm_jp rfl) <|
  zm_ac trivial <|
  zm_ac zk_get_NameTree_NameTable_47 <|
  zm_ac trivial <|
  zm_ac zk_get_NameTree_NameTable_64 <|
  zm_ac trivial <|
  zm_ac trivial <|
  zm_ac (zm_rp_any zk_put_NameTree_NameTable_64) <|
  zm_ac trivial <|
  zm_ac trivial <|
  zm_ac (zm_rp_any zk_put_NameTree_NameTable_22) <|
  zm_ac trivial <|
  zm_ac trivial <|
  zm_ac (zm_rp_any zk_put_NameTree_NameTable_47) <|
  zm_ac trivial <|
  zm_an
set_option maxRecDepth 100000 in
set_option maxHeartbeats 4000000 in
theorem zs_15 : ∀ q ∈ zc15, zm_rs 15 q.1 q.2.1 q.2.2.2.1 q.2.2.2.2.1 q.2.2.2.2.2 :=
  zm_ac trivial <|
  zm_ac (Or.inl ⟨rfl, zk_obj_NameTree_Span_3, by decide, by decide⟩) <|
  zm_ac trivial <|
  zm_an
set_option maxRecDepth 100000 in
set_option maxHeartbeats 4000000 in
theorem zs_16 : ∀ q ∈ zc16, zm_rs 16 q.1 q.2.1 q.2.2.2.1 q.2.2.2.2.1 q.2.2.2.2.2 :=
  zm_ac trivial <|
  zm_ac zk_get_NameTree_Span_9 <|
  zm_ac trivial <|
  zm_ac zk_get_NameTree_Span_15 <|
  zm_ac (zm_jp rfl) <|
  zm_ac trivial <|
  zm_ac trivial <|
  zm_ac zk_get_NameTree_Span_9 <|
  zm_ac trivial <|
  zm_ac ⟨zk_virt_NameTree_Span_18, by decide, by decide⟩ <|
  zm_ac (zm_jp rfl) <|
  zm_ac trivial <|
  zm_ac trivial <|
  zm_ac zk_get_NameTree_Span_9 <|
  zm_ac trivial <|
  zm_ac ⟨zk_virt_NameTree_Span_18, by decide, by decide⟩ <|
  zm_ac (zm_jp rfl) <|
  zm_ac trivial <|
  zm_ac zk_get_NameTree_Span_9 <|
  zm_ac trivial <|
  zm_ac trivial <|
  zm_ac trivial <|
  zm_ac zk_get_NameTree_Span_15 <|
  zm_ac (zm_jp rfl) <|
  zm_ac trivial <|
  zm_ac trivial <|
  zm_ac zk_get_NameTree_Span_9 <|
  zm_ac trivial <|
  zm_ac trivial <|
  zm_ac trivial <|
  zm_ac ⟨zk_virt_NameTree_Span_18, by decide, by decide⟩ <|
  zm_ac (zm_jp rfl) <|
  zm_ac trivial <|
  zm_ac (zm_jp rfl) <|
  zm_ac trivial <|
  zm_ac trivial <|
  zm_ac trivial <|
  zm_ac (zm_jp rfl) <|
  zm_ac trivial <|
  zm_ac trivial <|
  zm_ac trivial <|
  zm_ac trivial <|
  zm_ac zk_get_NameTree_Span_9 <|
  zm_ac trivial <|
  zm_ac trivial <|
  zm_ac (zm_rp_any zk_put_NameTree_Span_9) <|
  zm_ac (zm_jp rfl) <|
  zm_ac trivial <|
  zm_ac trivial <|
  zm_an
set_option maxRecDepth 100000 in
set_option maxHeartbeats 4000000 in
theorem zs_17 : ∀ q ∈ zc17, zm_rs 17 q.1 q.2.1 q.2.2.2.1 q.2.2.2.2.1 q.2.2.2.2.2 :=
  zm_ac trivial <|
  zm_ac zk_get_NameTree_Span_9 <|
  zm_ac trivial <|
  zm_ac zk_get_NameTree_Span_15 <|
  zm_ac (zm_jp rfl) <|
  zm_ac trivial <|
  zm_ac trivial <|
  zm_ac zk_get_NameTree_Span_9 <|
  zm_ac trivial <|
  zm_ac ⟨zk_virt_NameTree_Span_18, by decide, by decide⟩ <|
  zm_ac (zm_jp rfl) <|
  zm_ac trivial <|
  zm_ac trivial <|
  zm_ac zk_get_NameTree_Span_9 <|
  zm_ac trivial <|
  zm_ac trivial <|
  zm_ac (zm_rp_any zk_put_NameTree_Span_9) <|
  zm_ac (zm_jp rfl) <|
  zm_ac trivial <|
  zm_ac zk_get_NameTree_Span_9 <|
  zm_ac trivial <|
  zm_an
set_option maxRecDepth 100000 in
set_option maxHeartbeats 4000000 in
theorem zs_18 : ∀ q ∈ zc18, zm_rs 18 q.1 q.2.1 q.2.2.2.1 q.2.2.2.2.1 q.2.2.2.2.2 :=
  zm_ac trivial <|
  zm_ac zk_get_NameTree_Span_22 <|
  zm_ac (zm_jp rfl) <|
  zm_ac trivial <|
  zm_ac (zm_jp rfl) <|
  zm_ac trivial <|
  zm_ac trivial <|
  zm_ac zk_get_NameTree_Span_22 <|
  zm_ac trivial <|
  zm_ac (zm_jp rfl) <|
  zm_ac trivial <|
  zm_ac zk_get_NameTree_Span_22 <|
  zm_ac trivial <|
  zm_ac trivial <|
  zm_ac trivial <|
  zm_ac (zm_jp rfl) <|
  zm_ac trivial <|
  zm_ac (zm_jp rfl) <|
  zm_ac trivial <|
  zm_ac trivial <|
  zm_an
set_option maxRecDepth 100000 in
set_option maxHeartbeats 4000000 in
theorem zs_19 : ∀ q ∈ zc19, zm_rs 19 q.1 q.2.1 q.2.2.2.1 q.2.2.2.2.1 q.2.2.2.2.2 :=
  zm_ac trivial <|
  zm_ac (Or.inl ⟨rfl, zk_obj_NameTree_Tape_3, by decide, by decide⟩) <|
  zm_ac trivial <|
  zm_ac trivial <|
  zm_ac ⟨by decide, by decide, rfl, (zt_m1 35 rfl rfl), rfl, by decide⟩ <|
  zm_ac zk_putF_NameTree_Tape_9 <|
  zm_ac trivial <|
  zm_an
set_option maxRecDepth 100000 in
set_option maxHeartbeats 4000000 in
theorem zs_20 : ∀ q ∈ zc20, zm_rs 20 q.1 q.2.1 q.2.2.2.1 q.2.2.2.2.1 q.2.2.2.2.2 :=
  zm_ac trivial <|
  zm_ac trivial <|
  zm_ac trivial <|
  zm_ac zk_get_NameTree_Tape_15 <|
  zm_ac trivial <|
  zm_ac (zm_jp rfl) <|
  zm_ac trivial <|
  zm_ac (zm_jp rfl) <|
  zm_ac trivial <|
  zm_ac trivial <|
  zm_an
set_option maxRecDepth 100000 in
set_option maxHeartbeats 4000000 in
theorem zs_21 : ∀ q ∈ zc21, zm_rs 21 q.1 q.2.1 q.2.2.2.1 q.2.2.2.2.1 q.2.2.2.2.2 :=
  zm_ac trivial <|
  zm_ac zk_get_NameTree_Tape_15 <|
  zm_ac (zm_jp rfl) <|
  zm_ac trivial <|
  zm_ac zk_get_NameTree_Tape_15 <|
  zm_ac trivial <|
  zm_ac zk_get_NameTree_Tape_9 <|
  zm_ac trivial <|
  zm_ac (zm_jp rfl) <|
  zm_ac trivial <|
  zm_ac zk_get_NameTree_Tape_9 <|
  zm_ac trivial <|
  zm_ac zk_get_NameTree_Tape_15 <|
  zm_ac trivial <|
  zm_ac trivial <|
  zm_ac trivial <|
  zm_ac trivial <|
  zm_ac zk_get_NameTree_Tape_15 <|
  zm_ac trivial <|
  zm_ac trivial <|
  zm_ac (zm_rp_any zk_put_NameTree_Tape_15) <|
  zm_ac trivial <|
  zm_an
set_option maxRecDepth 100000 in
set_option maxHeartbeats 4000000 in
theorem zs_22 : ∀ q ∈ zc22, zm_rs 22 q.1 q.2.1 q.2.2.2.1 q.2.2.2.2.1 q.2.2.2.2.2 :=
  zm_ac trivial <|
  zm_ac zk_get_NameTree_Tape_15 <|
  zm_ac trivial <|
  zm_ac trivial <|
  zm_ac trivial <|
  zm_ac (zm_rp_any zk_put_NameTree_Tape_15) <|
  zm_ac trivial <|
  zm_ac trivial <|
  zm_an
set_option maxRecDepth 100000 in
set_option maxHeartbeats 4000000 in
theorem zs_23 : ∀ q ∈ zc23, zm_rs 23 q.1 q.2.1 q.2.2.2.1 q.2.2.2.2.1 q.2.2.2.2.2 :=
  zm_ac trivial <|
  zm_ac trivial <|
  zm_ac trivial <|
  zm_ac ⟨zk_virt_NameTree_Tape_19, by decide, by decide⟩ <|
  zm_ac (zm_jp rfl) <|
  zm_ac trivial <|
  zm_ac (zm_jp rfl) <|
  zm_ac trivial <|
  zm_ac trivial <|
  zm_an
set_option maxRecDepth 100000 in
set_option maxHeartbeats 4000000 in
theorem zs_24 : ∀ q ∈ zc24, zm_rs 24 q.1 q.2.1 q.2.2.2.1 q.2.2.2.2.1 q.2.2.2.2.2 :=
  zm_ac trivial <|
  zm_ac trivial <|
  zm_ac trivial <|
  zm_ac ⟨zk_virt_NameTree_Tape_19, by decide, by decide⟩ <|
  zm_ac trivial <|
  zm_ac trivial <|
  zm_ac (zm_jp rfl) <|
  zm_ac trivial <|
  zm_ac trivial <|
  zm_ac trivial <|
  zm_ac trivial <|
  zm_ac trivial <|
  zm_ac ⟨zk_virt_NameTree_Tape_19, by decide, by decide⟩ <|
  zm_ac (zm_jp rfl) <|
  zm_ac trivial <|
  zm_ac (zm_jp rfl) <|
  zm_ac trivial <|
  zm_ac trivial <|
  zm_an
set_option maxRecDepth 100000 in
set_option maxHeartbeats 4000000 in
theorem zs_25 : ∀ q ∈ zc25, zm_rs 25 q.1 q.2.1 q.2.2.2.1 q.2.2.2.2.1 q.2.2.2.2.2 :=
  zm_ac trivial <|
  zm_ac trivial <|
  zm_ac trivial <|
  zm_ac (zm_jp rfl) <|
  zm_ac trivial <|
  zm_ac trivial <|
  zm_ac (zm_jp rfl) <|
  zm_ac trivial <|
  zm_ac trivial <|
  zm_ac zk_get_NameTree_Tape_9 <|
  zm_ac trivial <|
  zm_ac (zm_jp rfl) <|
  zm_ac trivial <|
  zm_ac zk_get_NameTree_Tape_9 <|
  zm_ac trivial <|
  zm_ac trivial <|
  zm_ac (zm_jp rfl) <|
  zm_ac trivial <|
  zm_ac trivial <|
  zm_ac trivial <|
  zm_ac (zm_jp rfl) <|
  zm_ac trivial <|
  zm_ac trivial <|
  zm_an
set_option maxRecDepth 100000 in
set_option maxHeartbeats 4000000 in
theorem zs_26 : ∀ q ∈ zc26, zm_rs 26 q.1 q.2.1 q.2.2.2.1 q.2.2.2.2.1 q.2.2.2.2.2 :=
  zm_ac trivial <|
  zm_ac (Or.inl ⟨rfl, zk_obj_NameTree_TreeFile_3, by decide, by decide⟩) <|
  zm_ac trivial <|
  zm_ac trivial <|
  zm_ac zk_putF_NameTree_TreeFile_9 <|
  zm_ac trivial <|
  zm_an
set_option maxRecDepth 100000 in
set_option maxHeartbeats 4000000 in
theorem zs_27 : ∀ q ∈ zc27, zm_rs 27 q.1 q.2.1 q.2.2.2.1 q.2.2.2.2.1 q.2.2.2.2.2 :=
  zm_ac trivial <|
  zm_ac trivial <|
  zm_ac (zm_rp_any zk_put_NameTree_TreeFile_15) <|
  zm_ac trivial <|
  zm_ac trivial <|
  zm_ac (zm_rp_any zk_put_NameTree_TreeFile_18) <|
  zm_ac trivial <|
  zm_ac trivial <|
  zm_ac (zm_rp_any zk_put_NameTree_TreeFile_21) <|
  zm_ac trivial <|
  zm_ac trivial <|
  zm_ac (zm_rp_any zk_put_NameTree_TreeFile_24) <|
  zm_ac trivial <|
  zm_ac trivial <|
  zm_ac (zm_rp_any zk_put_NameTree_TreeFile_27) <|
  zm_ac trivial <|
  zm_ac trivial <|
  zm_ac (zm_rp_any zk_put_NameTree_TreeFile_30) <|
  zm_ac trivial <|
  zm_ac trivial <|
  zm_ac (zm_rp_any zk_put_NameTree_TreeFile_34) <|
  zm_ac trivial <|
  zm_an
set_option maxRecDepth 100000 in
set_option maxHeartbeats 4000000 in
theorem zs_28 : ∀ q ∈ zc28, zm_rs 28 q.1 q.2.1 q.2.2.2.1 q.2.2.2.2.1 q.2.2.2.2.2 :=
  zm_ac trivial <|
  zm_ac zk_get_NameTree_TreeFile_37 <|
  zm_ac (zm_jp rfl) <|
  zm_ac trivial <|
  zm_ac trivial <|
  zm_ac ⟨by decide, by decide, rfl, (zt_m1 35 rfl rfl), rfl, by decide⟩ <|
  zm_ac (zm_rp_any zk_put_NameTree_TreeFile_37) <|
  zm_ac trivial <|
  zm_ac trivial <|
  zm_ac trivial <|
  zm_ac trivial <|
  zm_ac trivial <|
  zm_ac zk_get_NameTree_TreeFile_37 <|
  zm_ac (Or.inr (Or.inr (Or.inr ⟨zk_stat_NameTree_TreeFile_41, by decide, by decide⟩))) <|
  zm_ac (zm_rp_any zk_put_NameTree_TreeFile_34) <|
  zm_ac trivial <|
  zm_an
set_option maxRecDepth 100000 in
set_option maxHeartbeats 4000000 in
theorem zs_29 : ∀ q ∈ zc29, zm_rs 29 q.1 q.2.1 q.2.2.2.1 q.2.2.2.2.1 q.2.2.2.2.2 :=
  zm_ac trivial <|
  zm_ac zk_get_NameTree_TreeFile_15 <|
  zm_ac trivial <|
  zm_ac (zm_jp rfl) <|
  zm_ac trivial <|
  zm_ac zk_get_NameTree_TreeFile_37 <|
  zm_ac (zm_jp rfl) <|
  zm_ac trivial <|
  zm_ac (zm_jp rfl) <|
  zm_ac trivial <|
  zm_ac trivial <|
  zm_ac zk_get_NameTree_TreeFile_34 <|
  zm_ac (zm_jp rfl) <|
  zm_ac trivial <|
  zm_ac trivial <|
  zm_ac zk_get_NameTree_TreeFile_37 <|
  zm_ac trivial <|
  zm_ac (zm_jp rfl) <|
  zm_ac trivial <|
  zm_ac trivial <|
  zm_ac trivial <|
  zm_ac zk_get_NameTree_TreeFile_37 <|
  zm_ac trivial <|
  zm_ac trivial <|
  zm_ac trivial <|
  zm_ac trivial <|
  zm_ac trivial <|
  zm_an
set_option maxRecDepth 100000 in
set_option maxHeartbeats 4000000 in
theorem zs_30 : ∀ q ∈ zc30, zm_rs 30 q.1 q.2.1 q.2.2.2.1 q.2.2.2.2.1 q.2.2.2.2.2 :=
  zm_ac trivial <|
  zm_ac zk_get_NameTree_TreeFile_15 <|
  zm_ac (zm_tsw (by decide) (by decide) (by decide) (by decide)) <|
  zm_ac trivial <|
  zm_ac trivial <|
  zm_ac trivial <|
  zm_ac zk_get_NameTree_TreeFile_27 <|
  zm_ac (Or.inr (Or.inr (Or.inr ⟨zk_stat_NameTree_TreeFile_45, by decide, by decide⟩))) <|
  zm_ac trivial <|
  zm_ac trivial <|
  zm_ac zk_get_NameTree_TreeFile_34 <|
  zm_ac (Or.inr (Or.inr (Or.inr ⟨zk_stat_NameTree_TreeFile_49, by decide, by decide⟩))) <|
  zm_ac trivial <|
  zm_ac trivial <|
  zm_ac trivial <|
  zm_an
set_option maxRecDepth 100000 in
set_option maxHeartbeats 4000000 in
theorem zs_31 : ∀ q ∈ zc31, zm_rs 31 q.1 q.2.1 q.2.2.2.1 q.2.2.2.2.1 q.2.2.2.2.2 :=
  zm_ac trivial <|
  zm_ac zk_get_NameTree_TreeFile_27 <|
  zm_ac trivial <|
  zm_ac zk_get_NameTree_TreeFile_24 <|
  zm_ac trivial <|
  zm_ac trivial <|
  zm_ac (Or.inl ⟨rfl, zk_max_NameTree_TreeFile_52, by decide, by decide⟩) <|
  zm_ac (Or.inr (Or.inr (Or.inr ⟨zk_stat_NameTree_TreeFile_45, by decide, by decide⟩))) <|
  zm_ac trivial <|
  zm_ac zk_get_NameTree_TreeFile_27 <|
  zm_ac (Or.inr (Or.inr (Or.inr ⟨zk_stat_NameTree_TreeFile_45, by decide, by decide⟩))) <|
  zm_ac trivial <|
  zm_ac trivial <|
  zm_an
set_option maxRecDepth 100000 in
set_option maxHeartbeats 4000000 in
theorem zs_32 : ∀ q ∈ zc32, zm_rs 32 q.1 q.2.1 q.2.2.2.1 q.2.2.2.2.1 q.2.2.2.2.2 :=
  zm_ac trivial <|
  zm_ac zk_get_NameTree_TreeFile_15 <|
  zm_ac (zm_tsw (by decide) (by decide) (by decide) (by decide)) <|
  zm_ac trivial <|
  zm_ac zk_get_NameTree_TreeFile_21 <|
  zm_ac trivial <|
  zm_ac trivial <|
  zm_ac zk_get_NameTree_TreeFile_24 <|
  zm_ac trivial <|
  zm_ac trivial <|
  zm_ac zk_get_NameTree_TreeFile_34 <|
  zm_ac trivial <|
  zm_ac trivial <|
  zm_ac trivial <|
  zm_an
set_option maxRecDepth 100000 in
set_option maxHeartbeats 4000000 in
theorem zs_33 : ∀ q ∈ zc33, zm_rs 33 q.1 q.2.1 q.2.2.2.1 q.2.2.2.2.1 q.2.2.2.2.2 :=
  zm_ac trivial <|
  zm_ac zk_get_NameTree_TreeFile_18 <|
  zm_ac (zm_jp rfl) <|
  zm_ac trivial <|
  zm_ac zk_get_NameTree_TreeFile_21 <|
  zm_ac (zm_jp rfl) <|
  zm_ac trivial <|
  zm_ac trivial <|
  zm_ac ⟨zk_virt_NameTree_TreeFile_58, by decide, by decide⟩ <|
  zm_ac trivial <|
  zm_an
set_option maxRecDepth 100000 in
set_option maxHeartbeats 4000000 in
theorem zs_34 : ∀ q ∈ zc34, zm_rs 34 q.1 q.2.1 q.2.2.2.1 q.2.2.2.2.1 q.2.2.2.2.2 :=
  zm_ac trivial <|
  zm_ac (Or.inl ⟨rfl, zk_obj_NameTree_Walk_3, by decide, by decide⟩) <|
  zm_ac trivial <|
  zm_ac trivial <|
  zm_ac zk_anew_NameTree_Walk_9 <|
  zm_ac zk_putF_NameTree_Walk_11 <|
  zm_ac trivial <|
  zm_ac trivial <|
  zm_ac zk_putF_NameTree_Walk_17 <|
  zm_ac trivial <|
  zm_ac trivial <|
  zm_ac zk_putF_NameTree_Walk_21 <|
  zm_ac trivial <|
  zm_ac trivial <|
  zm_ac trivial <|
  zm_ac trivial <|
  zm_ac zk_get_NameTree_Walk_11 <|
  zm_ac trivial <|
  zm_ac (zm_jp rfl) <|
  zm_ac trivial <|
  zm_ac zk_get_NameTree_Walk_11 <|
  zm_ac trivial <|
  zm_ac ⟨zk_new_NameTree_Walk_9, fun _ _ => rfl⟩ <|
  zm_ac trivial <|
  zm_ac (Or.inr ⟨zk_spec_NameTree_Walk_25, by decide, by decide⟩) <|
  zm_ac trivial <|
  zm_ac trivial <|
  zm_ac (zm_jp rfl) <|
  zm_ac trivial <|
  zm_an
set_option maxRecDepth 100000 in
set_option maxHeartbeats 4000000 in
theorem zs_35 : ∀ q ∈ zc35, zm_rs 35 q.1 q.2.1 q.2.2.2.1 q.2.2.2.2.1 q.2.2.2.2.2 :=
  zm_ac trivial <|
  zm_ac trivial <|
  zm_ac trivial <|
  zm_ac trivial <|
  zm_ac trivial <|
  zm_ac ⟨zk_virt_NameTree_Walk_26, by decide, by decide⟩ <|
  zm_ac trivial <|
  zm_ac trivial <|
  zm_ac (zm_jp rfl) <|
  zm_ac trivial <|
  zm_ac trivial <|
  zm_ac trivial <|
  zm_ac zk_get_NameTree_Walk_30 <|
  zm_ac (zm_jp rfl) <|
  zm_ac trivial <|
  zm_ac ⟨zk_virt_NameTree_Walk_34, by decide, by decide⟩ <|
  zm_ac (zm_jp rfl) <|
  zm_ac trivial <|
  zm_ac (zm_jp rfl) <|
  zm_ac trivial <|
  zm_ac trivial <|
  zm_an
set_option maxRecDepth 100000 in
set_option maxHeartbeats 4000000 in
theorem zs_36 : ∀ q ∈ zc36, zm_rs 36 q.1 q.2.1 q.2.2.2.1 q.2.2.2.2.1 q.2.2.2.2.2 :=
  zm_ac trivial <|
  zm_ac ⟨zk_virt_NameTree_Walk_38, by decide, by decide⟩ <|
  zm_ac trivial <|
  zm_ac trivial <|
  zm_ac trivial <|
  zm_ac trivial <|
  zm_ac ⟨zk_virt_NameTree_Walk_41, by decide, by decide⟩ <|
  zm_ac trivial <|
  zm_ac trivial <|
  zm_ac trivial <|
  zm_ac ⟨_, _, rfl, zk_ldc_NameTree_Walk_45⟩ <|
  zm_ac (zm_jp rfl) <|
  zm_ac trivial <|
  zm_ac ⟨zk_virt_NameTree_Walk_46, by decide, by decide⟩ <|
  zm_ac (zm_jp rfl) <|
  zm_ac trivial <|
  zm_ac ⟨zk_virt_NameTree_Walk_49, by decide, by decide⟩ <|
  zm_ac trivial <|
  zm_ac trivial <|
  zm_ac ⟨zk_virt_NameTree_Walk_46, by decide, by decide⟩ <|
  zm_ac (zm_jp rfl) <|
  zm_ac trivial <|
  zm_ac (zm_jp rfl) <|
  zm_ac trivial <|
  zm_ac trivial <|
  zm_ac ⟨zk_virt_NameTree_Walk_52, by decide, by decide⟩ <|
  zm_ac trivial <|
  zm_ac trivial <|
  zm_ac (zm_jp rfl) <|
  zm_ac trivial <|
  zm_ac trivial <|
  zm_ac trivial <|
  zm_ac (zm_jp rfl) <|
  zm_ac trivial <|
  zm_ac trivial <|
  zm_an
set_option maxRecDepth 100000 in
set_option maxHeartbeats 4000000 in
theorem zs_37 : ∀ q ∈ zc37, zm_rs 37 q.1 q.2.1 q.2.2.2.1 q.2.2.2.2.1 q.2.2.2.2.2 :=
  zm_ac trivial <|
  zm_ac trivial <|
  zm_ac (zm_rp_any zk_put_NameTree_Walk_56) <|
  zm_ac trivial <|
  zm_ac trivial <|
  zm_ac (zm_rp_any zk_put_NameTree_Walk_59) <|
  zm_ac trivial <|
  zm_ac trivial <|
  zm_ac (zm_rp_any zk_put_NameTree_Walk_62) <|
  zm_ac trivial <|
  zm_ac trivial <|
  zm_ac (zm_rp_any zk_put_NameTree_Walk_66) <|
  zm_ac trivial <|
  zm_ac trivial <|
  zm_ac (zm_rp_any zk_put_NameTree_Walk_30) <|
  zm_ac trivial <|
  zm_ac trivial <|
  zm_ac zk_get_NameTree_Walk_17 <|
  zm_ac (zm_rp_any zk_put_NameTree_Walk_69) <|
  zm_ac trivial <|
  zm_ac trivial <|
  zm_ac (zm_rp_any zk_put_NameTree_Walk_72) <|
  zm_ac trivial <|
  zm_ac trivial <|
  zm_ac zk_get_NameTree_Walk_17 <|
  zm_ac (zm_rp_any zk_put_NameTree_Walk_76) <|
  zm_ac trivial <|
  zm_an
set_option maxRecDepth 100000 in
set_option maxHeartbeats 4000000 in
theorem zs_38 : ∀ q ∈ zc38, zm_rs 38 q.1 q.2.1 q.2.2.2.1 q.2.2.2.2.1 q.2.2.2.2.2 :=
  zm_ac trivial <|
  zm_ac zk_get_NameTree_Walk_56 <|
  zm_ac (zm_jp rfl) <|
  zm_ac trivial <|
  zm_ac zk_get_NameTree_Walk_56 <|
  zm_ac trivial <|
  zm_ac zk_get_NameTree_Walk_11 <|
  zm_ac trivial <|
  zm_ac (zm_jp rfl) <|
  zm_ac trivial <|
  zm_ac zk_get_NameTree_Walk_11 <|
  zm_ac trivial <|
  zm_ac zk_get_NameTree_Walk_56 <|
  zm_ac trivial <|
  zm_ac (zm_jp rfl) <|
  zm_ac trivial <|
  zm_ac trivial <|
  zm_ac zk_get_NameTree_Walk_11 <|
  zm_ac trivial <|
  zm_ac zk_get_NameTree_Walk_56 <|
  zm_ac trivial <|
  zm_ac trivial <|
  zm_ac trivial <|
  zm_ac trivial <|
  zm_ac (zm_rp_any zk_put_NameTree_Walk_79) <|
  zm_ac trivial <|
  zm_ac trivial <|
  zm_ac (zm_rp_any zk_put_NameTree_Walk_82) <|
  zm_ac trivial <|
  zm_ac trivial <|
  zm_ac (zm_rp_any zk_put_NameTree_Walk_85) <|
  zm_ac trivial <|
  zm_ac trivial <|
  zm_ac zk_get_NameTree_Walk_56 <|
  zm_ac trivial <|
  zm_ac trivial <|
  zm_ac (zm_rp_any zk_put_NameTree_Walk_56) <|
  zm_ac trivial <|
  zm_an
set_option maxRecDepth 100000 in
set_option maxHeartbeats 4000000 in
theorem zs_39 : ∀ q ∈ zc39, zm_rs 39 q.1 q.2.1 q.2.2.2.1 q.2.2.2.2.1 q.2.2.2.2.2 :=
  zm_ac trivial <|
  zm_ac zk_get_NameTree_Walk_56 <|
  zm_ac (zm_jp rfl) <|
  zm_ac trivial <|
  zm_ac ⟨zk_virt_NameTree_Walk_88, by decide, by decide⟩ <|
  zm_ac trivial <|
  zm_ac trivial <|
  zm_ac (zm_jp rfl) <|
  zm_ac trivial <|
  zm_ac ⟨zk_virt_NameTree_Walk_92, by decide, by decide⟩ <|
  zm_ac (zm_jp rfl) <|
  zm_ac trivial <|
  zm_ac trivial <|
  zm_ac trivial <|
  zm_ac trivial <|
  zm_ac zk_get_NameTree_Walk_56 <|
  zm_ac trivial <|
  zm_ac trivial <|
  zm_ac (zm_rp_any zk_put_NameTree_Walk_56) <|
  zm_ac (zm_jp rfl) <|
  zm_ac trivial <|
  zm_ac trivial <|
  zm_an
set_option maxRecDepth 100000 in
set_option maxHeartbeats 4000000 in
theorem zs_40 : ∀ q ∈ zc40, zm_rs 40 q.1 q.2.1 q.2.2.2.1 q.2.2.2.2.1 q.2.2.2.2.2 :=
  zm_ac trivial <|
  zm_ac zk_get_NameTree_Walk_56 <|
  zm_ac (zm_jp rfl) <|
  zm_ac trivial <|
  zm_ac zk_get_NameTree_Walk_56 <|
  zm_ac trivial <|
  zm_ac zk_get_NameTree_Walk_11 <|
  zm_ac trivial <|
  zm_ac (zm_jp rfl) <|
  zm_ac trivial <|
  zm_ac zk_get_NameTree_Walk_11 <|
  zm_ac trivial <|
  zm_ac zk_get_NameTree_Walk_56 <|
  zm_ac trivial <|
  zm_ac trivial <|
  zm_ac trivial <|
  zm_ac (zm_jp rfl) <|
  zm_ac trivial <|
  zm_ac trivial <|
  zm_an
set_option maxRecDepth 100000 in
set_option maxHeartbeats 4000000 in
theorem zs_41 : ∀ q ∈ zc41, zm_rs 41 q.1 q.2.1 q.2.2.2.1 q.2.2.2.2.1 q.2.2.2.2.2 :=
  zm_ac trivial <|
  zm_ac ⟨zk_virt_NameTree_Walk_88, by decide, by decide⟩ <|
  zm_ac trivial <|
  zm_ac trivial <|
  zm_ac (zm_jp rfl) <|
  zm_ac trivial <|
  zm_ac trivial <|
  zm_ac zk_get_NameTree_Walk_79 <|
  zm_ac (zm_rp_any zk_put_NameTree_Walk_62) <|
  zm_ac trivial <|
  zm_ac trivial <|
  zm_ac zk_get_NameTree_Walk_82 <|
  zm_ac (zm_rp_any zk_put_NameTree_Walk_66) <|
  zm_ac trivial <|
  zm_ac trivial <|
  zm_ac ⟨zk_virt_NameTree_Walk_95, by decide, by decide⟩ <|
  zm_ac trivial <|
  zm_ac zk_get_NameTree_Walk_66 <|
  zm_ac trivial <|
  zm_ac (zm_rp_any zk_put_NameTree_Walk_30) <|
  zm_ac trivial <|
  zm_an
set_option maxRecDepth 100000 in
set_option maxHeartbeats 4000000 in
theorem zs_42 : ∀ q ∈ zc42, zm_rs 42 q.1 q.2.1 q.2.2.2.1 q.2.2.2.2.1 q.2.2.2.2.2 :=
  zm_ac trivial <|
  zm_ac zk_get_NameTree_Walk_30 <|
  zm_ac trivial <|
  zm_ac (zm_jp rfl) <|
  zm_ac trivial <|
  zm_ac trivial <|
  zm_ac trivial <|
  zm_ac zk_get_NameTree_Walk_76 <|
  zm_ac (zm_jp rfl) <|
  zm_ac trivial <|
  zm_ac zk_get_NameTree_Walk_76 <|
  zm_ac zk_get_NameTree_Walk_99 <|
  zm_ac trivial <|
  zm_ac (zm_jp rfl) <|
  zm_ac trivial <|
  zm_ac trivial <|
  zm_ac trivial <|
  zm_ac trivial <|
  zm_ac zk_get_NameTree_Walk_76 <|
  zm_ac (zm_rp_any zk_put_NameTree_Walk_69) <|
  zm_ac trivial <|
  zm_ac ⟨zk_virt_NameTree_Walk_34, by decide, by decide⟩ <|
  zm_ac (zm_jp rfl) <|
  zm_ac trivial <|
  zm_ac trivial <|
  zm_ac (zm_rp_any zk_put_NameTree_Walk_72) <|
  zm_ac trivial <|
  zm_ac trivial <|
  zm_ac zk_get_NameTree_Walk_69 <|
  zm_ac zk_get_NameTree_Walk_104 <|
  zm_ac (zm_rp_any zk_put_NameTree_Walk_76) <|
  zm_ac trivial <|
  zm_ac trivial <|
  zm_ac trivial <|
  zm_ac trivial <|
  zm_ac zk_get_NameTree_Walk_21 <|
  zm_ac trivial <|
  zm_ac zk_get_NameTree_Walk_69 <|
  zm_ac trivial <|
  zm_ac zk_get_NameTree_Walk_62 <|
  zm_ac trivial <|
  zm_ac zk_get_NameTree_Walk_66 <|
  zm_ac trivial <|
  zm_ac zk_get_NameTree_Walk_30 <|
  zm_ac ⟨zk_virt_NameTree_Walk_107, by decide, by decide⟩ <|
  zm_ac (zm_rp_any zk_put_NameTree_Walk_72) <|
  zm_ac trivial <|
  zm_ac zk_get_NameTree_Walk_72 <|
  zm_ac (zm_jp rfl) <|
  zm_ac trivial <|
  zm_ac trivial <|
  zm_ac (zm_rp_any zk_put_NameTree_Walk_76) <|
  zm_ac trivial <|
  zm_ac (zm_jp rfl) <|
  zm_ac trivial <|
  zm_ac (zm_jp rfl) <|
  zm_ac trivial <|
  zm_ac trivial <|
  zm_ac trivial <|
  zm_ac trivial <|
  zm_ac zk_get_NameTree_Walk_72 <|
  zm_ac zk_get_NameTree_Walk_113 <|
  zm_ac (zm_rp_any zk_put_NameTree_Walk_76) <|
  zm_ac trivial <|
  zm_ac zk_get_NameTree_Walk_76 <|
  zm_ac (zm_jp rfl) <|
  zm_ac trivial <|
  zm_ac zk_get_NameTree_Walk_76 <|
  zm_ac zk_get_NameTree_Walk_99 <|
  zm_ac trivial <|
  zm_ac (zm_jp rfl) <|
  zm_ac trivial <|
  zm_ac (zm_jp rfl) <|
  zm_ac trivial <|
  zm_ac (zm_jp rfl) <|
  zm_ac trivial <|
  zm_ac (zm_jp rfl) <|
  zm_ac trivial <|
  zm_ac trivial <|
  zm_ac trivial <|
  zm_ac (zm_jp rfl) <|
  zm_ac trivial <|
  zm_ac trivial <|
  zm_ac zk_get_NameTree_Walk_76 <|
  zm_ac ⟨zk_virt_NameTree_Walk_118, by decide, by decide⟩ <|
  zm_ac (zm_jp rfl) <|
  zm_ac trivial <|
  zm_ac trivial <|
  zm_an
set_option maxRecDepth 100000 in
set_option maxHeartbeats 4000000 in
theorem zs_43 : ∀ q ∈ zc43, zm_rs 43 q.1 q.2.1 q.2.2.2.1 q.2.2.2.2.1 q.2.2.2.2.2 :=
  zm_ac trivial <|
  zm_ac zk_get_NameTree_Walk_59 <|
  zm_ac trivial <|
  zm_ac (zm_jp rfl) <|
  zm_ac trivial <|
  zm_ac trivial <|
  zm_ac trivial <|
  zm_ac trivial <|
  zm_ac zk_get_NameTree_Walk_59 <|
  zm_ac trivial <|
  zm_ac trivial <|
  zm_ac (zm_rp_any zk_put_NameTree_Walk_59) <|
  zm_ac trivial <|
  zm_ac trivial <|
  zm_ac zk_get_NameTree_Walk_122 <|
  zm_ac trivial <|
  zm_ac trivial <|
  zm_ac zk_get_NameTree_Walk_125 <|
  zm_ac ⟨zk_virt_NameTree_Walk_41, by decide, by decide⟩ <|
  zm_ac trivial <|
  zm_ac trivial <|
  zm_ac trivial <|
  zm_ac ⟨zk_virt_NameTree_Walk_128, by decide, by decide⟩ <|
  zm_ac trivial <|
  zm_ac (zm_jp rfl) <|
  zm_ac trivial <|
  zm_ac zk_get_NameTree_Walk_17 <|
  zm_ac (zm_jp rfl) <|
  zm_ac trivial <|
  zm_ac zk_get_NameTree_Walk_69 <|
  zm_ac (zm_rp_any zk_put_NameTree_Walk_76) <|
  zm_ac trivial <|
  zm_ac trivial <|
  zm_an
set_option maxRecDepth 100000 in
set_option maxHeartbeats 4000000 in
theorem zs_44 : ∀ q ∈ zc44, zm_rs 44 q.1 q.2.1 q.2.2.2.1 q.2.2.2.2.1 q.2.2.2.2.2 :=
  zm_ac trivial <|
  zm_ac zk_get_NameTree_Walk_30 <|
  zm_ac trivial <|
  zm_ac (zm_jp rfl) <|
  zm_ac trivial <|
  zm_ac zk_get_NameTree_Walk_62 <|
  zm_ac (zm_jp rfl) <|
  zm_ac trivial <|
  zm_ac zk_get_NameTree_Walk_66 <|
  zm_ac (zm_jp rfl) <|
  zm_ac trivial <|
  zm_ac zk_get_NameTree_Walk_66 <|
  zm_ac trivial <|
  zm_ac zk_get_NameTree_Walk_62 <|
  zm_ac trivial <|
  zm_ac trivial <|
  zm_ac trivial <|
  zm_ac (zm_jp rfl) <|
  zm_ac trivial <|
  zm_ac zk_get_NameTree_Walk_62 <|
  zm_ac trivial <|
  zm_ac zk_get_NameTree_Walk_66 <|
  zm_ac trivial <|
  zm_ac trivial <|
  zm_ac (zm_jp rfl) <|
  zm_ac trivial <|
  zm_ac zk_get_NameTree_Walk_62 <|
  zm_ac trivial <|
  zm_ac zk_get_NameTree_Walk_66 <|
  zm_ac trivial <|
  zm_ac trivial <|
  zm_ac trivial <|
  zm_ac trivial <|
  zm_ac (zm_jp rfl) <|
  zm_ac trivial <|
  zm_ac (zm_jp rfl) <|
  zm_ac trivial <|
  zm_ac trivial <|
  zm_an
set_option maxRecDepth 100000 in
set_option maxHeartbeats 4000000 in
theorem zs_45 : ∀ q ∈ zc45, zm_rs 45 q.1 q.2.1 q.2.2.2.1 q.2.2.2.2.1 q.2.2.2.2.2 :=
  zm_ac trivial <|
  zm_ac (Or.inl ⟨rfl, zk_obj_NameTree_1, by decide, by decide⟩) <|
  zm_ac trivial <|
  zm_ac ⟨zk_new_NameTree_7, fun _ _ => rfl⟩ <|
  zm_ac trivial <|
  zm_ac (Or.inr ⟨zk_spec_NameTree_9, by decide, by decide⟩) <|
  zm_ac zk_putF_NameTree_10 <|
  zm_ac trivial <|
  zm_ac ⟨zk_new_NameTree_16, fun _ _ => rfl⟩ <|
  zm_ac trivial <|
  zm_ac (Or.inr ⟨zk_spec_NameTree_18, by decide, by decide⟩) <|
  zm_ac zk_putF_NameTree_19 <|
  zm_ac trivial <|
  zm_ac ⟨zk_new_NameTree_23, fun _ _ => rfl⟩ <|
  zm_ac trivial <|
  zm_ac (Or.inr ⟨zk_spec_NameTree_25, by decide, by decide⟩) <|
  zm_ac zk_putF_NameTree_26 <|
  zm_ac trivial <|
  zm_ac ⟨zk_new_NameTree_30, fun _ _ => rfl⟩ <|
  zm_ac trivial <|
  zm_ac trivial <|
  zm_ac zk_get_NameTree_19 <|
  zm_ac zk_get_NameTree_32 <|
  zm_ac trivial <|
  zm_ac zk_get_NameTree_26 <|
  zm_ac (Or.inr ⟨zk_spec_NameTree_36, by decide, by decide⟩) <|
  zm_ac zk_putF_NameTree_39 <|
  zm_ac trivial <|
  zm_ac ⟨zk_new_NameTree_30, fun _ _ => rfl⟩ <|
  zm_ac trivial <|
  zm_ac trivial <|
  zm_ac zk_get_NameTree_19 <|
  zm_ac zk_get_NameTree_32 <|
  zm_ac trivial <|
  zm_ac zk_get_NameTree_26 <|
  zm_ac (Or.inr ⟨zk_spec_NameTree_36, by decide, by decide⟩) <|
  zm_ac zk_putF_NameTree_43 <|
  zm_ac trivial <|
  zm_ac trivial <|
  zm_ac (zm_rp_any zk_put_NameTree_46) <|
  zm_ac trivial <|
  zm_an
set_option maxRecDepth 100000 in
set_option maxHeartbeats 4000000 in
theorem zs_46 : ∀ q ∈ zc46, zm_rs 46 q.1 q.2.1 q.2.2.2.1 q.2.2.2.2.1 q.2.2.2.2.2 :=
  zm_ac trivial <|
  zm_ac trivial <|
  zm_ac (zm_jp rfl) <|
  zm_ac trivial <|
  zm_ac trivial <|
  zm_ac (zm_jp rfl) <|
  zm_ac trivial <|
  zm_ac zk_get_NameTree_10 <|
  zm_ac trivial <|
  zm_ac ⟨zk_virt_NameTree_50, by decide, by decide⟩ <|
  zm_ac (zm_jp rfl) <|
  zm_ac trivial <|
  zm_ac trivial <|
  zm_ac trivial <|
  zm_ac trivial <|
  zm_ac trivial <|
  zm_ac trivial <|
  zm_ac trivial <|
  zm_ac (zm_jp rfl) <|
  zm_ac trivial <|
  zm_ac zk_get_NameTree_10 <|
  zm_ac trivial <|
  zm_ac trivial <|
  zm_ac trivial <|
  zm_ac trivial <|
  zm_ac trivial <|
  zm_ac trivial <|
  zm_ac trivial <|
  zm_ac ⟨zk_virt_NameTree_54, by decide, by decide⟩ <|
  zm_ac trivial <|
  zm_ac (zm_jp rfl) <|
  zm_ac trivial <|
  zm_ac zk_get_NameTree_10 <|
  zm_ac zk_get_NameTree_58 <|
  zm_ac trivial <|
  zm_an
set_option maxRecDepth 100000 in
set_option maxHeartbeats 4000000 in
theorem zs_47 : ∀ q ∈ zc47, zm_rs 47 q.1 q.2.1 q.2.2.2.1 q.2.2.2.2.1 q.2.2.2.2.2 :=
  zm_ac trivial <|
  zm_ac (zm_jp rfl) <|
  zm_ac trivial <|
  zm_ac trivial <|
  zm_ac (zm_jp rfl) <|
  zm_ac trivial <|
  zm_ac trivial <|
  zm_ac (zm_jp rfl) <|
  zm_ac trivial <|
  zm_ac trivial <|
  zm_ac (zm_jp rfl) <|
  zm_ac trivial <|
  zm_ac zk_get_NameTree_10 <|
  zm_ac trivial <|
  zm_ac ⟨zk_virt_NameTree_50, by decide, by decide⟩ <|
  zm_ac (zm_jp rfl) <|
  zm_ac trivial <|
  zm_ac trivial <|
  zm_ac trivial <|
  zm_ac trivial <|
  zm_ac trivial <|
  zm_ac trivial <|
  zm_ac (zm_jp rfl) <|
  zm_ac trivial <|
  zm_ac zk_get_NameTree_10 <|
  zm_ac trivial <|
  zm_ac trivial <|
  zm_ac ⟨zk_virt_NameTree_54, by decide, by decide⟩ <|
  zm_ac trivial <|
  zm_ac (zm_jp rfl) <|
  zm_ac trivial <|
  zm_ac zk_get_NameTree_10 <|
  zm_ac zk_get_NameTree_58 <|
  zm_ac trivial <|
  zm_an
set_option maxRecDepth 100000 in
set_option maxHeartbeats 4000000 in
theorem zs_48 : ∀ q ∈ zc48, zm_rs 48 q.1 q.2.1 q.2.2.2.1 q.2.2.2.2.1 q.2.2.2.2.2 :=
  zm_ac trivial <|
  zm_ac zk_get_NameTree_19 <|
  zm_ac ⟨zk_virt_NameTree_61, by decide, by decide⟩ <|
  zm_ac trivial <|
  zm_ac trivial <|
  zm_ac trivial <|
  zm_ac (zm_jp rfl) <|
  zm_ac trivial <|
  zm_ac trivial <|
  zm_ac (zm_jp rfl) <|
  zm_ac trivial <|
  zm_ac trivial <|
  zm_ac trivial <|
  zm_ac trivial <|
  zm_ac (zm_rp_any zk_put_NameTree_46) <|
  zm_ac trivial <|
  zm_ac trivial <|
  zm_ac trivial <|
  zm_ac trivial <|
  zm_an
set_option maxRecDepth 100000 in
set_option maxHeartbeats 4000000 in
theorem zs_49 : ∀ q ∈ zc49, zm_rs 49 q.1 q.2.1 q.2.2.2.1 q.2.2.2.2.1 q.2.2.2.2.2 :=
  zm_ac trivial <|
  zm_ac ⟨zk_virt_NameTree_65, by decide, by decide⟩ <|
  zm_ac trivial <|
  zm_ac trivial <|
  zm_ac trivial <|
  zm_ac (zm_jp rfl) <|
  zm_ac trivial <|
  zm_ac trivial <|
  zm_ac (zm_jp rfl) <|
  zm_ac trivial <|
  zm_ac trivial <|
  zm_ac trivial <|
  zm_ac (zm_jp rfl) <|
  zm_ac trivial <|
  zm_ac trivial <|
  zm_ac trivial <|
  zm_ac zk_get_NameTree_39 <|
  zm_ac zk_get_NameTree_68 <|
  zm_ac (zm_jp rfl) <|
  zm_ac trivial <|
  zm_ac trivial <|
  zm_ac trivial <|
  zm_ac zk_get_NameTree_19 <|
  zm_ac ⟨zk_virt_NameTree_71, by decide, by decide⟩ <|
  zm_ac trivial <|
  zm_ac trivial <|
  zm_ac (zm_jp rfl) <|
  zm_ac trivial <|
  zm_ac trivial <|
  zm_ac zk_get_NameTree_39 <|
  zm_ac zk_get_NameTree_75 <|
  zm_ac trivial <|
  zm_ac ⟨zk_virt_NameTree_78, by decide, by decide⟩ <|
  zm_ac (zm_jp rfl) <|
  zm_ac trivial <|
  zm_ac trivial <|
  zm_ac trivial <|
  zm_ac trivial <|
  zm_ac ⟨zk_virt_NameTree_82, by decide, by decide⟩ <|
  zm_ac trivial <|
  zm_ac zk_get_NameTree_26 <|
  zm_ac trivial <|
  zm_ac trivial <|
  zm_ac zk_get_NameTree_39 <|
  zm_ac ⟨zk_virt_NameTree_88, by decide, by decide⟩ <|
  zm_ac trivial <|
  zm_ac zk_get_NameTree_92 <|
  zm_ac trivial <|
  zm_an
set_option maxRecDepth 100000 in
set_option maxHeartbeats 4000000 in
theorem zs_50 : ∀ q ∈ zc50, zm_rs 50 q.1 q.2.1 q.2.2.2.1 q.2.2.2.2.1 q.2.2.2.2.2 :=
  zm_ac trivial <|
  zm_ac trivial <|
  zm_ac ⟨zk_virt_NameTree_95, by decide, by decide⟩ <|
  zm_ac trivial <|
  zm_ac trivial <|
  zm_ac (zm_jp rfl) <|
  zm_ac trivial <|
  zm_ac trivial <|
  zm_ac trivial <|
  zm_ac zk_get_NameTree_39 <|
  zm_ac zk_get_NameTree_68 <|
  zm_ac trivial <|
  zm_ac trivial <|
  zm_ac (zm_jp rfl) <|
  zm_ac trivial <|
  zm_ac trivial <|
  zm_ac trivial <|
  zm_ac zk_get_NameTree_99 <|
  zm_ac trivial <|
  zm_ac (zm_jp rfl) <|
  zm_ac trivial <|
  zm_ac trivial <|
  zm_ac trivial <|
  zm_ac zk_get_NameTree_43 <|
  zm_ac zk_get_NameTree_68 <|
  zm_ac (zm_jp rfl) <|
  zm_ac trivial <|
  zm_ac trivial <|
  zm_ac trivial <|
  zm_ac trivial <|
  zm_ac zk_get_NameTree_43 <|
  zm_ac zk_get_NameTree_75 <|
  zm_ac trivial <|
  zm_ac ⟨zk_virt_NameTree_78, by decide, by decide⟩ <|
  zm_ac (zm_jp rfl) <|
  zm_ac trivial <|
  zm_ac trivial <|
  zm_ac trivial <|
  zm_ac zk_get_NameTree_26 <|
  zm_ac trivial <|
  zm_ac trivial <|
  zm_ac zk_get_NameTree_43 <|
  zm_ac ⟨zk_virt_NameTree_88, by decide, by decide⟩ <|
  zm_ac trivial <|
  zm_ac zk_get_NameTree_92 <|
  zm_ac trivial <|
  zm_an
set_option maxRecDepth 100000 in
set_option maxHeartbeats 4000000 in
theorem zs_51 : ∀ q ∈ zc51, zm_rs 51 q.1 q.2.1 q.2.2.2.1 q.2.2.2.2.1 q.2.2.2.2.2 :=
  zm_ac trivial <|
  zm_ac zk_get_NameTree_10 <|
  zm_ac ⟨zk_virt_NameTree_102, by decide, by decide⟩ <|
  zm_ac trivial <|
  zm_ac trivial <|
  zm_ac zk_get_NameTree_10 <|
  zm_ac trivial <|
  zm_ac ⟨zk_virt_NameTree_105, by decide, by decide⟩ <|
  zm_ac trivial <|
  zm_ac trivial <|
  zm_ac trivial <|
  zm_ac trivial <|
  zm_ac trivial <|
  zm_ac trivial <|
  zm_ac trivial <|
  zm_ac trivial <|
  zm_ac (zm_jp rfl) <|
  zm_ac trivial <|
  zm_ac trivial <|
  zm_ac (zm_jp rfl) <|
  zm_ac trivial <|
  zm_ac trivial <|
  zm_ac (zm_jp rfl) <|
  zm_ac trivial <|
  zm_ac trivial <|
  zm_ac trivial <|
  zm_ac zk_get_NameTree_39 <|
  zm_ac trivial <|
  zm_ac zk_get_NameTree_10 <|
  zm_ac zk_get_NameTree_109 <|
  zm_ac trivial <|
  zm_ac trivial <|
  zm_ac ⟨zk_virt_NameTree_113, by decide, by decide⟩ <|
  zm_ac trivial <|
  zm_ac trivial <|
  zm_ac (zm_jp rfl) <|
  zm_ac trivial <|
  zm_ac trivial <|
  zm_ac trivial <|
  zm_ac zk_get_NameTree_39 <|
  zm_ac zk_get_NameTree_68 <|
  zm_ac (zm_jp rfl) <|
  zm_ac trivial <|
  zm_ac trivial <|
  zm_ac trivial <|
  zm_ac zk_get_NameTree_19 <|
  zm_ac ⟨zk_virt_NameTree_71, by decide, by decide⟩ <|
  zm_ac trivial <|
  zm_ac trivial <|
  zm_ac (zm_jp rfl) <|
  zm_ac trivial <|
  zm_ac trivial <|
  zm_ac zk_get_NameTree_39 <|
  zm_ac zk_get_NameTree_75 <|
  zm_ac trivial <|
  zm_ac (Or.inr (Or.inr (Or.inr ⟨zk_stat_NameTree_117, by decide, by decide⟩))) <|
  zm_ac ⟨zk_virt_NameTree_78, by decide, by decide⟩ <|
  zm_ac (zm_jp rfl) <|
  zm_ac trivial <|
  zm_ac trivial <|
  zm_ac trivial <|
  zm_ac trivial <|
  zm_ac ⟨zk_virt_NameTree_82, by decide, by decide⟩ <|
  zm_ac trivial <|
  zm_ac trivial <|
  zm_ac zk_get_NameTree_10 <|
  zm_ac zk_get_NameTree_109 <|
  zm_ac trivial <|
  zm_ac trivial <|
  zm_ac trivial <|
  zm_ac trivial <|
  zm_ac ⟨zk_virt_NameTree_120, by decide, by decide⟩ <|
  zm_ac trivial <|
  zm_ac zk_get_NameTree_26 <|
  zm_ac trivial <|
  zm_ac trivial <|
  zm_ac zk_get_NameTree_39 <|
  zm_ac ⟨zk_virt_NameTree_88, by decide, by decide⟩ <|
  zm_ac trivial <|
  zm_ac zk_get_NameTree_92 <|
  zm_ac trivial <|
  zm_an
set_option maxRecDepth 100000 in
set_option maxHeartbeats 4000000 in
theorem zs_52 : ∀ q ∈ zc52, zm_rs 52 q.1 q.2.1 q.2.2.2.1 q.2.2.2.2.1 q.2.2.2.2.2 :=
  zm_ac trivial <|
  zm_ac ⟨zk_virt_NameTree_65, by decide, by decide⟩ <|
  zm_ac trivial <|
  zm_ac trivial <|
  zm_ac (zm_jp rfl) <|
  zm_ac trivial <|
  zm_ac trivial <|
  zm_ac trivial <|
  zm_ac zk_get_NameTree_39 <|
  zm_ac zk_get_NameTree_68 <|
  zm_ac trivial <|
  zm_ac trivial <|
  zm_ac (zm_jp rfl) <|
  zm_ac trivial <|
  zm_ac trivial <|
  zm_ac trivial <|
  zm_ac zk_get_NameTree_99 <|
  zm_ac trivial <|
  zm_ac (zm_jp rfl) <|
  zm_ac trivial <|
  zm_ac trivial <|
  zm_ac trivial <|
  zm_ac trivial <|
  zm_ac zk_get_NameTree_39 <|
  zm_ac zk_get_NameTree_124 <|
  zm_ac ⟨zk_virt_NameTree_128, by decide, by decide⟩ <|
  zm_ac trivial <|
  zm_ac zk_get_NameTree_92 <|
  zm_ac trivial <|
  zm_an
set_option maxRecDepth 100000 in
set_option maxHeartbeats 4000000 in
theorem zs_53 : ∀ q ∈ zc53, zm_rs 53 q.1 q.2.1 q.2.2.2.1 q.2.2.2.2.1 q.2.2.2.2.2 :=
  zm_ac trivial <|
  zm_ac ⟨zk_virt_NameTree_65, by decide, by decide⟩ <|
  zm_ac trivial <|
  zm_ac trivial <|
  zm_ac (zm_jp rfl) <|
  zm_ac trivial <|
  zm_ac trivial <|
  zm_ac trivial <|
  zm_ac zk_get_NameTree_39 <|
  zm_ac zk_get_NameTree_68 <|
  zm_ac trivial <|
  zm_ac trivial <|
  zm_ac (zm_jp rfl) <|
  zm_ac trivial <|
  zm_ac trivial <|
  zm_ac trivial <|
  zm_ac zk_get_NameTree_99 <|
  zm_ac trivial <|
  zm_ac (zm_jp rfl) <|
  zm_ac trivial <|
  zm_ac trivial <|
  zm_ac trivial <|
  zm_ac zk_get_NameTree_132 <|
  zm_ac (zm_jp rfl) <|
  zm_ac trivial <|
  zm_ac trivial <|
  zm_ac trivial <|
  zm_ac trivial <|
  zm_ac zk_get_NameTree_39 <|
  zm_ac zk_get_NameTree_124 <|
  zm_ac ⟨zk_virt_NameTree_128, by decide, by decide⟩ <|
  zm_ac trivial <|
  zm_ac zk_get_NameTree_92 <|
  zm_ac trivial <|
  zm_an
set_option maxRecDepth 100000 in
set_option maxHeartbeats 4000000 in
theorem zs_54 : ∀ q ∈ zc54, zm_rs 54 q.1 q.2.1 q.2.2.2.1 q.2.2.2.2.1 q.2.2.2.2.2 :=
  zm_ac trivial <|
  zm_ac trivial <|
  zm_ac ⟨zk_virt_NameTree_95, by decide, by decide⟩ <|
  zm_ac trivial <|
  zm_ac trivial <|
  zm_ac (zm_jp rfl) <|
  zm_ac trivial <|
  zm_ac trivial <|
  zm_ac trivial <|
  zm_ac zk_get_NameTree_39 <|
  zm_ac zk_get_NameTree_68 <|
  zm_ac trivial <|
  zm_ac trivial <|
  zm_ac (zm_jp rfl) <|
  zm_ac trivial <|
  zm_ac trivial <|
  zm_ac trivial <|
  zm_ac zk_get_NameTree_43 <|
  zm_ac zk_get_NameTree_68 <|
  zm_ac trivial <|
  zm_ac trivial <|
  zm_ac trivial <|
  zm_ac (zm_jp rfl) <|
  zm_ac trivial <|
  zm_ac zk_get_NameTree_92 <|
  zm_ac trivial <|
  zm_ac trivial <|
  zm_ac zk_get_NameTree_99 <|
  zm_ac trivial <|
  zm_ac (zm_jp rfl) <|
  zm_ac trivial <|
  zm_ac zk_get_NameTree_43 <|
  zm_ac zk_get_NameTree_75 <|
  zm_ac trivial <|
  zm_ac (Or.inr (Or.inr (Or.inr ⟨zk_stat_NameTree_135, by decide, by decide⟩))) <|
  zm_ac (zm_jp rfl) <|
  zm_ac trivial <|
  zm_ac trivial <|
  zm_ac trivial <|
  zm_ac (zm_jp rfl) <|
  zm_ac trivial <|
  zm_ac ⟨zk_virt_NameTree_139, by decide, by decide⟩ <|
  zm_ac (zm_jp rfl) <|
  zm_ac trivial <|
  zm_ac trivial <|
  zm_ac (Or.inr (Or.inr (Or.inr ⟨zk_stat_NameTree_142, by decide, by decide⟩))) <|
  zm_ac trivial <|
  zm_ac trivial <|
  zm_ac (zm_jp rfl) <|
  zm_ac trivial <|
  zm_ac trivial <|
  zm_ac trivial <|
  zm_ac trivial <|
  zm_ac zk_get_NameTree_43 <|
  zm_ac zk_get_NameTree_124 <|
  zm_ac ⟨zk_virt_NameTree_128, by decide, by decide⟩ <|
  zm_ac trivial <|
  zm_ac zk_get_NameTree_26 <|
  zm_ac trivial <|
  zm_ac zk_get_NameTree_39 <|
  zm_ac zk_get_NameTree_124 <|
  zm_ac ⟨zk_virt_NameTree_146, by decide, by decide⟩ <|
  zm_ac trivial <|
  zm_ac zk_get_NameTree_26 <|
  zm_ac trivial <|
  zm_ac trivial <|
  zm_ac zk_get_NameTree_43 <|
  zm_ac ⟨zk_virt_NameTree_88, by decide, by decide⟩ <|
  zm_ac trivial <|
  zm_ac zk_get_NameTree_92 <|
  zm_ac trivial <|
  zm_an
set_option maxRecDepth 100000 in
set_option maxHeartbeats 4000000 in
theorem zs_55 : ∀ q ∈ zc55, zm_rs 55 q.1 q.2.1 q.2.2.2.1 q.2.2.2.2.1 q.2.2.2.2.2 :=
  zm_ac trivial <|
  zm_ac trivial <|
  zm_ac ⟨zk_virt_NameTree_149, by decide, by decide⟩ <|
  zm_ac trivial <|
  zm_ac trivial <|
  zm_ac (zm_jp rfl) <|
  zm_ac trivial <|
  zm_ac trivial <|
  zm_ac trivial <|
  zm_ac zk_get_NameTree_39 <|
  zm_ac zk_get_NameTree_68 <|
  zm_ac (zm_jp rfl) <|
  zm_ac trivial <|
  zm_ac (zm_jp rfl) <|
  zm_ac trivial <|
  zm_ac zk_get_NameTree_39 <|
  zm_ac zk_get_NameTree_68 <|
  zm_ac zk_get_NameTree_92 <|
  zm_ac trivial <|
  zm_an
set_option maxRecDepth 100000 in
set_option maxHeartbeats 4000000 in
theorem zs_56 : ∀ q ∈ zc56, zm_rs 56 q.1 q.2.1 q.2.2.2.1 q.2.2.2.2.1 q.2.2.2.2.2 :=
  zm_ac trivial <|
  zm_ac trivial <|
  zm_ac ⟨zk_virt_NameTree_149, by decide, by decide⟩ <|
  zm_ac trivial <|
  zm_ac trivial <|
  zm_ac (zm_jp rfl) <|
  zm_ac trivial <|
  zm_ac trivial <|
  zm_ac trivial <|
  zm_ac zk_get_NameTree_39 <|
  zm_ac zk_get_NameTree_68 <|
  zm_ac trivial <|
  zm_ac trivial <|
  zm_ac (zm_jp rfl) <|
  zm_ac trivial <|
  zm_ac trivial <|
  zm_ac trivial <|
  zm_ac zk_get_NameTree_99 <|
  zm_ac trivial <|
  zm_ac (zm_jp rfl) <|
  zm_ac trivial <|
  zm_ac zk_get_NameTree_152 <|
  zm_ac trivial <|
  zm_ac (zm_jp rfl) <|
  zm_ac trivial <|
  zm_ac trivial <|
  zm_ac trivial <|
  zm_ac trivial <|
  zm_ac zk_get_NameTree_152 <|
  zm_ac trivial <|
  zm_ac trivial <|
  zm_ac (zm_rp_any zk_put_NameTree_152) <|
  zm_ac trivial <|
  zm_ac zk_get_NameTree_92 <|
  zm_ac trivial <|
  zm_an
set_option maxRecDepth 100000 in
set_option maxHeartbeats 4000000 in
theorem zs_57 : ∀ q ∈ zc57, zm_rs 57 q.1 q.2.1 q.2.2.2.1 q.2.2.2.2.1 q.2.2.2.2.2 :=
  zm_ac trivial <|
  zm_ac zk_get_NameTree_19 <|
  zm_ac trivial <|
  zm_ac ⟨zk_virt_NameTree_155, by decide, by decide⟩ <|
  zm_ac trivial <|
  zm_ac trivial <|
  zm_ac (zm_jp rfl) <|
  zm_ac trivial <|
  zm_ac zk_get_NameTree_152 <|
  zm_ac trivial <|
  zm_ac (zm_jp rfl) <|
  zm_ac trivial <|
  zm_ac trivial <|
  zm_ac trivial <|
  zm_ac trivial <|
  zm_ac zk_get_NameTree_152 <|
  zm_ac trivial <|
  zm_ac trivial <|
  zm_ac (zm_rp_any zk_put_NameTree_152) <|
  zm_ac trivial <|
  zm_ac zk_get_NameTree_159 <|
  zm_ac trivial <|
  zm_ac trivial <|
  zm_ac ⟨zk_virt_NameTree_161, by decide, by decide⟩ <|
  zm_ac trivial <|
  zm_ac trivial <|
  zm_an
set_option maxRecDepth 100000 in
set_option maxHeartbeats 4000000 in
theorem zs_58 : ∀ q ∈ zc58, zm_rs 58 q.1 q.2.1 q.2.2.2.1 q.2.2.2.2.1 q.2.2.2.2.2 :=
  zm_ac trivial <|
  zm_ac zk_get_NameTree_19 <|
  zm_ac trivial <|
  zm_ac ⟨zk_virt_NameTree_155, by decide, by decide⟩ <|
  zm_ac trivial <|
  zm_ac trivial <|
  zm_ac (zm_jp rfl) <|
  zm_ac trivial <|
  zm_ac trivial <|
  zm_ac trivial <|
  zm_ac (zm_tsw (by decide) (by decide) (by decide) (by decide)) <|
  zm_ac trivial <|
  zm_ac zk_get_NameTree_99 <|
  zm_ac trivial <|
  zm_ac trivial <|
  zm_ac zk_get_NameTree_99 <|
  zm_ac trivial <|
  zm_ac (zm_jp rfl) <|
  zm_ac trivial <|
  zm_ac trivial <|
  zm_ac zk_get_NameTree_19 <|
  zm_ac trivial <|
  zm_ac ⟨zk_virt_NameTree_164, by decide, by decide⟩ <|
  zm_ac trivial <|
  zm_ac (zm_jp rfl) <|
  zm_ac trivial <|
  zm_ac zk_get_NameTree_159 <|
  zm_ac trivial <|
  zm_ac trivial <|
  zm_ac ⟨zk_virt_NameTree_168, by decide, by decide⟩ <|
  zm_ac trivial <|
  zm_ac trivial <|
  zm_ac ⟨zk_virt_NameTree_171, by decide, by decide⟩ <|
  zm_ac trivial <|
  zm_ac trivial <|
  zm_ac zk_get_NameTree_174 <|
  zm_ac (zm_jp rfl) <|
  zm_ac trivial <|
  zm_ac (zm_jp rfl) <|
  zm_ac trivial <|
  zm_ac zk_get_NameTree_174 <|
  zm_ac zk_get_NameTree_92 <|
  zm_ac trivial <|
  zm_ac trivial <|
  zm_ac trivial <|
  zm_an
set_option maxRecDepth 100000 in
set_option maxHeartbeats 4000000 in
theorem zs_59 : ∀ q ∈ zc59, zm_rs 59 q.1 q.2.1 q.2.2.2.1 q.2.2.2.2.1 q.2.2.2.2.2 :=
  zm_ac trivial <|
  zm_ac zk_get_NameTree_19 <|
  zm_ac trivial <|
  zm_ac ⟨zk_virt_NameTree_155, by decide, by decide⟩ <|
  zm_ac trivial <|
  zm_ac trivial <|
  zm_ac (zm_jp rfl) <|
  zm_ac trivial <|
  zm_ac (zm_jp rfl) <|
  zm_ac trivial <|
  zm_ac trivial <|
  zm_ac ⟨zk_virt_NameTree_177, by decide, by decide⟩ <|
  zm_ac trivial <|
  zm_an
set_option maxRecDepth 100000 in
set_option maxHeartbeats 4000000 in
theorem zs_60 : ∀ q ∈ zc60, zm_rs 60 q.1 q.2.1 q.2.2.2.1 q.2.2.2.2.1 q.2.2.2.2.2 :=
  zm_ac trivial <|
  zm_ac (zm_tsw (by decide) (by decide) (by decide) (by decide)) <|
  zm_ac trivial <|
  zm_ac zk_get_NameTree_19 <|
  zm_ac ⟨zk_virt_NameTree_180, by decide, by decide⟩ <|
  zm_ac trivial <|
  zm_ac trivial <|
  zm_ac zk_get_NameTree_26 <|
  zm_ac zk_get_NameTree_183 <|
  zm_ac trivial <|
  zm_ac trivial <|
  zm_ac zk_get_NameTree_10 <|
  zm_ac zk_get_NameTree_58 <|
  zm_ac trivial <|
  zm_ac trivial <|
  zm_ac zk_get_NameTree_19 <|
  zm_ac ⟨zk_virt_NameTree_61, by decide, by decide⟩ <|
  zm_ac trivial <|
  zm_ac trivial <|
  zm_ac trivial <|
  zm_an
set_option maxRecDepth 100000 in
set_option maxHeartbeats 4000000 in
theorem zs_61 : ∀ q ∈ zc61, zm_rs 61 q.1 q.2.1 q.2.2.2.1 q.2.2.2.2.1 q.2.2.2.2.2 :=
  zm_ac trivial <|
  zm_ac zk_get_NameTree_10 <|
  zm_ac ⟨zk_virt_NameTree_102, by decide, by decide⟩ <|
  zm_ac trivial <|
  zm_ac trivial <|
  zm_ac zk_get_NameTree_10 <|
  zm_ac trivial <|
  zm_ac ⟨zk_virt_NameTree_186, by decide, by decide⟩ <|
  zm_ac (zm_jp rfl) <|
  zm_ac trivial <|
  zm_ac (zm_jp rfl) <|
  zm_ac trivial <|
  zm_ac zk_get_NameTree_39 <|
  zm_ac trivial <|
  zm_ac zk_get_NameTree_10 <|
  zm_ac zk_get_NameTree_109 <|
  zm_ac trivial <|
  zm_ac trivial <|
  zm_ac trivial <|
  zm_ac ⟨zk_virt_NameTree_189, by decide, by decide⟩ <|
  zm_ac trivial <|
  zm_an
set_option maxRecDepth 100000 in
set_option maxHeartbeats 4000000 in
theorem zs_62 : ∀ q ∈ zc62, zm_rs 62 q.1 q.2.1 q.2.2.2.1 q.2.2.2.2.1 q.2.2.2.2.2 :=
  zm_ac trivial <|
  zm_ac zk_get_NameTree_10 <|
  zm_ac ⟨zk_virt_NameTree_102, by decide, by decide⟩ <|
  zm_ac trivial <|
  zm_ac trivial <|
  zm_ac zk_get_NameTree_10 <|
  zm_ac trivial <|
  zm_ac ⟨zk_virt_NameTree_186, by decide, by decide⟩ <|
  zm_ac (zm_jp rfl) <|
  zm_ac trivial <|
  zm_ac (zm_jp rfl) <|
  zm_ac trivial <|
  zm_ac zk_get_NameTree_39 <|
  zm_ac trivial <|
  zm_ac zk_get_NameTree_10 <|
  zm_ac zk_get_NameTree_109 <|
  zm_ac trivial <|
  zm_ac trivial <|
  zm_ac ⟨zk_virt_NameTree_113, by decide, by decide⟩ <|
  zm_ac trivial <|
  zm_an
set_option maxRecDepth 100000 in
set_option maxHeartbeats 4000000 in
theorem zs_63 : ∀ q ∈ zc63, zm_rs 63 q.1 q.2.1 q.2.2.2.1 q.2.2.2.2.1 q.2.2.2.2.2 :=
  zm_ac trivial <|
  zm_ac zk_get_NameTree_10 <|
  zm_ac ⟨zk_virt_NameTree_102, by decide, by decide⟩ <|
  zm_ac trivial <|
  zm_ac trivial <|
  zm_ac zk_get_NameTree_10 <|
  zm_ac trivial <|
  zm_ac ⟨zk_virt_NameTree_105, by decide, by decide⟩ <|
  zm_ac trivial <|
  zm_ac trivial <|
  zm_ac (zm_jp rfl) <|
  zm_ac trivial <|
  zm_ac trivial <|
  zm_ac trivial <|
  zm_ac (zm_jp rfl) <|
  zm_ac trivial <|
  zm_ac zk_get_NameTree_39 <|
  zm_ac trivial <|
  zm_ac zk_get_NameTree_10 <|
  zm_ac zk_get_NameTree_109 <|
  zm_ac trivial <|
  zm_ac trivial <|
  zm_ac ⟨zk_virt_NameTree_113, by decide, by decide⟩ <|
  zm_ac (zm_jp rfl) <|
  zm_ac trivial <|
  zm_ac zk_get_NameTree_39 <|
  zm_ac trivial <|
  zm_ac zk_get_NameTree_10 <|
  zm_ac zk_get_NameTree_109 <|
  zm_ac trivial <|
  zm_ac trivial <|
  zm_ac trivial <|
  zm_ac ⟨zk_virt_NameTree_189, by decide, by decide⟩ <|
  zm_ac trivial <|
  zm_ac trivial <|
  zm_ac (zm_jp rfl) <|
  zm_ac trivial <|
  zm_ac (zm_jp rfl) <|
  zm_ac trivial <|
  zm_ac zk_get_NameTree_43 <|
  zm_ac trivial <|
  zm_ac zk_get_NameTree_10 <|
  zm_ac zk_get_NameTree_109 <|
  zm_ac trivial <|
  zm_ac trivial <|
  zm_ac trivial <|
  zm_ac trivial <|
  zm_ac ⟨zk_virt_NameTree_113, by decide, by decide⟩ <|
  zm_ac trivial <|
  zm_an
set_option maxRecDepth 100000 in
set_option maxHeartbeats 4000000 in
theorem zs_64 : ∀ q ∈ zc64, zm_rs 64 q.1 q.2.1 q.2.2.2.1 q.2.2.2.2.1 q.2.2.2.2.2 :=
  zm_ac trivial <|
  zm_ac zk_get_NameTree_26 <|
  zm_ac zk_get_NameTree_183 <|
  zm_ac trivial <|
  zm_ac (zm_jp rfl) <|
  zm_ac trivial <|
  zm_ac trivial <|
  zm_ac trivial <|
  zm_ac ⟨zk_virt_NameTree_193, by decide, by decide⟩ <|
  zm_ac (zm_jp rfl) <|
  zm_ac trivial <|
  zm_ac (zm_jp rfl) <|
  zm_ac trivial <|
  zm_ac trivial <|
  zm_an
set_option maxRecDepth 100000 in
set_option maxHeartbeats 4000000 in
theorem zs_65 : ∀ q ∈ zc65, zm_rs 65 q.1 q.2.1 q.2.2.2.1 q.2.2.2.2.1 q.2.2.2.2.2 :=
  zm_ac trivial <|
  zm_ac (zm_jp rfl) <|
  zm_ac trivial <|
  zm_ac (zm_jp rfl) <|
  zm_ac trivial <|
  zm_ac ⟨zk_virt_NameTree_196, by decide, by decide⟩ <|
  zm_ac trivial <|
  zm_ac trivial <|
  zm_ac zk_get_NameTree_19 <|
  zm_ac ⟨zk_virt_NameTree_61, by decide, by decide⟩ <|
  zm_ac trivial <|
  zm_ac trivial <|
  zm_ac trivial <|
  zm_ac trivial <|
  zm_ac trivial <|
  zm_ac zk_get_NameTree_46 <|
  zm_ac (zm_jp rfl) <|
  zm_ac trivial <|
  zm_ac (zm_jp rfl) <|
  zm_ac trivial <|
  zm_ac trivial <|
  zm_an
set_option maxRecDepth 100000 in
set_option maxHeartbeats 4000000 in
theorem zs_66 : ∀ q ∈ zc66, zm_rs 66 q.1 q.2.1 q.2.2.2.1 q.2.2.2.2.1 q.2.2.2.2.2 :=
  zm_ac trivial <|
  zm_ac zk_get_NameTree_39 <|
  zm_ac zk_get_NameTree_75 <|
  zm_ac trivial <|
  zm_ac zk_get_NameTree_43 <|
  zm_ac zk_get_NameTree_75 <|
  zm_ac (zm_jp rfl) <|
  zm_ac trivial <|
  zm_ac (zm_jp rfl) <|
  zm_ac trivial <|
  zm_ac trivial <|
  zm_ac trivial <|
  zm_ac (zm_jp rfl) <|
  zm_ac trivial <|
  zm_ac trivial <|
  zm_ac zk_get_NameTree_43 <|
  zm_ac zk_get_NameTree_75 <|
  zm_ac trivial <|
  zm_ac ⟨zk_virt_NameTree_193, by decide, by decide⟩ <|
  zm_ac (zm_jp rfl) <|
  zm_ac trivial <|
  zm_ac (zm_jp rfl) <|
  zm_ac trivial <|
  zm_ac trivial <|
  zm_an
set_option maxRecDepth 100000 in
set_option maxHeartbeats 4000000 in
theorem zs_67 : ∀ q ∈ zc67, zm_rs 67 q.1 q.2.1 q.2.2.2.1 q.2.2.2.2.1 q.2.2.2.2.2 :=
  zm_ac trivial <|
  zm_ac zk_get_NameTree_99 <|
  zm_ac trivial <|
  zm_ac (zm_jp rfl) <|
  zm_ac trivial <|
  zm_ac zk_get_NameTree_99 <|
  zm_ac trivial <|
  zm_ac (zm_jp rfl) <|
  zm_ac trivial <|
  zm_ac trivial <|
  zm_ac trivial <|
  zm_ac zk_get_NameTree_99 <|
  zm_ac trivial <|
  zm_ac (zm_jp rfl) <|
  zm_ac trivial <|
  zm_ac zk_get_NameTree_99 <|
  zm_ac trivial <|
  zm_ac (zm_jp rfl) <|
  zm_ac trivial <|
  zm_ac trivial <|
  zm_ac trivial <|
  zm_ac zk_get_NameTree_132 <|
  zm_ac (zm_jp rfl) <|
  zm_ac trivial <|
  zm_ac (zm_jp rfl) <|
  zm_ac trivial <|
  zm_ac trivial <|
  zm_an
set_option maxRecDepth 100000 in
set_option maxHeartbeats 4000000 in
theorem zs_68 : ∀ q ∈ zc68, zm_rs 68 q.1 q.2.1 q.2.2.2.1 q.2.2.2.2.1 q.2.2.2.2.2 :=
  zm_ac trivial <|
  zm_ac trivial <|
  zm_ac trivial <|
  zm_ac trivial <|
  zm_ac trivial <|
  zm_ac trivial <|
  zm_ac (zm_jp rfl) <|
  zm_ac trivial <|
  zm_ac (zm_jp rfl) <|
  zm_ac trivial <|
  zm_ac trivial <|
  zm_ac (zm_jp rfl) <|
  zm_ac trivial <|
  zm_ac trivial <|
  zm_ac trivial <|
  zm_ac zk_get_NameTree_174 <|
  zm_ac trivial <|
  zm_ac trivial <|
  zm_ac (zm_jp rfl) <|
  zm_ac trivial <|
  zm_ac trivial <|
  zm_an
set_option maxRecDepth 100000 in
set_option maxHeartbeats 4000000 in
theorem zs_69 : ∀ q ∈ zc69, zm_rs 69 q.1 q.2.1 q.2.2.2.1 q.2.2.2.2.1 q.2.2.2.2.2 :=
  zm_ac trivial <|
  zm_ac (zm_jp rfl) <|
  zm_ac trivial <|
  zm_ac trivial <|
  zm_ac zk_get_NameTree_199 <|
  zm_ac trivial <|
  zm_ac trivial <|
  zm_ac zk_get_NameTree_26 <|
  zm_ac trivial <|
  zm_ac ⟨zk_virt_NameTree_146, by decide, by decide⟩ <|
  zm_ac trivial <|
  zm_ac (zm_jp rfl) <|
  zm_ac trivial <|
  zm_ac ⟨zk_virt_NameTree_161, by decide, by decide⟩ <|
  zm_ac trivial <|
  zm_an
set_option maxRecDepth 100000 in
set_option maxHeartbeats 4000000 in
theorem zs_70 : ∀ q ∈ zc70, zm_rs 70 q.1 q.2.1 q.2.2.2.1 q.2.2.2.2.1 q.2.2.2.2.2 :=
  zm_ac trivial <|
  zm_ac trivial <|
  zm_ac (zm_jp rfl) <|
  zm_ac trivial <|
  zm_ac (zm_jp rfl) <|
  zm_ac trivial <|
  zm_ac trivial <|
  zm_an
set_option maxRecDepth 100000 in
set_option maxHeartbeats 4000000 in
theorem zs_71 : ∀ q ∈ zc71, zm_rs 71 q.1 q.2.1 q.2.2.2.1 q.2.2.2.2.1 q.2.2.2.2.2 :=
  zm_ac trivial <|
  zm_ac trivial <|
  zm_ac (zm_jp rfl) <|
  zm_ac trivial <|
  zm_ac (zm_jp rfl) <|
  zm_ac trivial <|
  zm_ac trivial <|
  zm_an
set_option maxRecDepth 100000 in
set_option maxHeartbeats 4000000 in
theorem zs_72 : ∀ q ∈ zc72, zm_rs 72 q.1 q.2.1 q.2.2.2.1 q.2.2.2.2.1 q.2.2.2.2.2 :=
  zm_ac trivial <|
  zm_ac (zm_jp rfl) <|
  zm_ac trivial <|
  zm_ac (zm_jp rfl) <|
  zm_ac trivial <|
  zm_ac (zm_jp rfl) <|
  zm_ac trivial <|
  zm_ac trivial <|
  zm_ac trivial <|
  zm_ac (zm_jp rfl) <|
  zm_ac trivial <|
  zm_ac (zm_jp rfl) <|
  zm_ac trivial <|
  zm_ac trivial <|
  zm_ac trivial <|
  zm_ac trivial <|
  zm_ac trivial <|
  zm_ac trivial <|
  zm_ac trivial <|
  zm_ac trivial <|
  zm_ac trivial <|
  zm_ac (Or.inr (Or.inl ⟨rfl, zk_min_NameTree_204, by decide, by decide⟩)) <|
  zm_ac (Or.inr (Or.inl ⟨rfl, zk_min_NameTree_204, by decide, by decide⟩)) <|
  zm_ac trivial <|
  zm_ac trivial <|
  zm_ac trivial <|
  zm_ac trivial <|
  zm_ac trivial <|
  zm_ac trivial <|
  zm_ac (Or.inr (Or.inr (Or.inl ⟨rfl, zk_copy_NameTree_210, by decide, by decide⟩))) <|
  zm_ac trivial <|
  zm_ac trivial <|
  zm_an
set_option maxRecDepth 100000 in
set_option maxHeartbeats 4000000 in
theorem zs_73 : ∀ q ∈ zc73, zm_rs 73 q.1 q.2.1 q.2.2.2.1 q.2.2.2.2.1 q.2.2.2.2.2 :=
  zm_ac trivial <|
  zm_ac (Or.inl ⟨rfl, zk_obj_NameTreeModel_1, by decide, by decide⟩) <|
  zm_ac trivial <|
  zm_ac trivial <|
  zm_ac (zm_rp_any zk_put_NameTreeModel_7) <|
  zm_ac trivial <|
  zm_ac trivial <|
  zm_ac ⟨by decide, by decide, rfl, (zt_m3 87 rfl rfl), rfl, by decide⟩ <|
  zm_ac zk_putF_NameTreeModel_13 <|
  zm_ac trivial <|
  zm_ac trivial <|
  zm_ac ⟨by decide, by decide, rfl, (zt_m3 87 rfl rfl), rfl, by decide⟩ <|
  zm_ac zk_putF_NameTreeModel_17 <|
  zm_ac trivial <|
  zm_ac trivial <|
  zm_ac ⟨by decide, by decide, rfl, (zt_m3 87 rfl rfl), rfl, by decide⟩ <|
  zm_ac zk_putF_NameTreeModel_20 <|
  zm_ac trivial <|
  zm_ac trivial <|
  zm_ac ⟨by decide, by decide, rfl, (zt_m3 87 rfl rfl), rfl, by decide⟩ <|
  zm_ac zk_putF_NameTreeModel_23 <|
  zm_ac trivial <|
  zm_ac trivial <|
  zm_ac ⟨by decide, by decide, rfl, (zt_m3 87 rfl rfl), rfl, by decide⟩ <|
  zm_ac zk_putF_NameTreeModel_26 <|
  zm_ac trivial <|
  zm_ac trivial <|
  zm_ac ⟨by decide, by decide, rfl, (zt_m3 87 rfl rfl), rfl, by decide⟩ <|
  zm_ac zk_putF_NameTreeModel_29 <|
  zm_ac trivial <|
  zm_ac ⟨_, _, rfl, zk_ldc_NameTreeModel_32⟩ <|
  zm_ac ⟨by decide, by decide, rfl, (zt_m1 35 rfl rfl), rfl, by decide⟩ <|
  zm_ac zk_putF_NameTreeModel_33 <|
  zm_ac trivial <|
  zm_ac trivial <|
  zm_ac ⟨by decide, by decide, rfl, (zt_m3 87 rfl rfl), rfl, by decide⟩ <|
  zm_ac zk_putF_NameTreeModel_37 <|
  zm_ac trivial <|
  zm_ac trivial <|
  zm_ac ⟨by decide, by decide, rfl, (zt_m3 87 rfl rfl), rfl, by decide⟩ <|
  zm_ac zk_putF_NameTreeModel_40 <|
  zm_ac trivial <|
  zm_ac trivial <|
  zm_ac ⟨by decide, by decide, rfl, (zt_m3 87 rfl rfl), rfl, by decide⟩ <|
  zm_ac zk_putF_NameTreeModel_43 <|
  zm_ac trivial <|
  zm_ac trivial <|
  zm_ac ⟨by decide, by decide, rfl, (zt_m1 35 rfl rfl), rfl, by decide⟩ <|
  zm_ac zk_putF_NameTreeModel_46 <|
  zm_ac trivial <|
  zm_ac ⟨_, _, rfl, zk_ldc_NameTreeModel_49⟩ <|
  zm_ac ⟨by decide, by decide, rfl, (zt_m3 87 rfl rfl), rfl, by decide⟩ <|
  zm_ac zk_putF_NameTreeModel_50 <|
  zm_ac trivial <|
  zm_ac zk_get_NameTreeModel_20 <|
  zm_ac trivial <|
  zm_ac trivial <|
  zm_ac trivial <|
  zm_ac trivial <|
  zm_an
set_option maxRecDepth 100000 in
set_option maxHeartbeats 4000000 in
theorem zs_74 : ∀ q ∈ zc74, zm_rs 74 q.1 q.2.1 q.2.2.2.1 q.2.2.2.2.1 q.2.2.2.2.2 :=
  zm_ac trivial <|
  zm_ac trivial <|
  zm_ac (zm_jp rfl) <|
  zm_ac trivial <|
  zm_ac trivial <|
  zm_ac (zm_jp rfl) <|
  zm_ac trivial <|
  zm_ac zk_get_NameTreeModel_53 <|
  zm_ac trivial <|
  zm_ac trivial <|
  zm_ac trivial <|
  zm_ac (zm_jp rfl) <|
  zm_ac trivial <|
  zm_ac trivial <|
  zm_ac trivial <|
  zm_ac trivial <|
  zm_ac trivial <|
  zm_ac trivial <|
  zm_ac trivial <|
  zm_ac (zm_jp rfl) <|
  zm_ac trivial <|
  zm_ac zk_get_NameTreeModel_13 <|
  zm_ac trivial <|
  zm_ac zk_get_NameTreeModel_53 <|
  zm_ac trivial <|
  zm_ac trivial <|
  zm_ac trivial <|
  zm_ac trivial <|
  zm_ac trivial <|
  zm_ac ⟨_, _, rfl, zk_ldc2_NameTreeModel_56⟩ <|
  zm_ac trivial <|
  zm_ac trivial <|
  zm_ac trivial <|
  zm_ac trivial <|
  zm_ac trivial <|
  zm_ac zk_get_NameTreeModel_53 <|
  zm_ac trivial <|
  zm_ac trivial <|
  zm_ac (zm_rp_any zk_put_NameTreeModel_53) <|
  zm_ac trivial <|
  zm_ac (zm_jp rfl) <|
  zm_ac trivial <|
  zm_ac zk_get_NameTreeModel_53 <|
  zm_ac trivial <|
  zm_an
set_option maxRecDepth 100000 in
set_option maxHeartbeats 4000000 in
theorem zs_75 : ∀ q ∈ zc75, zm_rs 75 q.1 q.2.1 q.2.2.2.1 q.2.2.2.2.1 q.2.2.2.2.2 :=
  zm_ac trivial <|
  zm_ac (zm_jp rfl) <|
  zm_ac trivial <|
  zm_ac trivial <|
  zm_ac (zm_jp rfl) <|
  zm_ac trivial <|
  zm_ac trivial <|
  zm_ac (zm_jp rfl) <|
  zm_ac trivial <|
  zm_ac trivial <|
  zm_ac (zm_jp rfl) <|
  zm_ac trivial <|
  zm_ac zk_get_NameTreeModel_53 <|
  zm_ac trivial <|
  zm_ac trivial <|
  zm_ac trivial <|
  zm_ac (zm_jp rfl) <|
  zm_ac trivial <|
  zm_ac trivial <|
  zm_ac trivial <|
  zm_ac trivial <|
  zm_ac trivial <|
  zm_ac trivial <|
  zm_ac (zm_jp rfl) <|
  zm_ac trivial <|
  zm_ac zk_get_NameTreeModel_13 <|
  zm_ac trivial <|
  zm_ac zk_get_NameTreeModel_53 <|
  zm_ac trivial <|
  zm_ac trivial <|
  zm_ac trivial <|
  zm_ac trivial <|
  zm_ac trivial <|
  zm_ac (zm_jp rfl) <|
  zm_ac trivial <|
  zm_ac trivial <|
  zm_ac zk_get_NameTreeModel_53 <|
  zm_ac trivial <|
  zm_ac trivial <|
  zm_ac (zm_rp_any zk_put_NameTreeModel_53) <|
  zm_ac trivial <|
  zm_ac zk_get_NameTreeModel_53 <|
  zm_ac trivial <|
  zm_an
set_option maxRecDepth 100000 in
set_option maxHeartbeats 4000000 in
theorem zs_76 : ∀ q ∈ zc76, zm_rs 76 q.1 q.2.1 q.2.2.2.1 q.2.2.2.2.1 q.2.2.2.2.2 :=
  zm_ac trivial <|
  zm_ac trivial <|
  zm_ac zk_get_NameTreeModel_53 <|
  zm_ac (zm_rp_any zk_put_NameTreeModel_58) <|
  zm_ac trivial <|
  zm_ac trivial <|
  zm_ac (zm_rp_any zk_put_NameTreeModel_53) <|
  zm_ac trivial <|
  zm_ac trivial <|
  zm_ac trivial <|
  zm_ac trivial <|
  zm_ac trivial <|
  zm_ac trivial <|
  zm_ac zk_get_NameTreeModel_58 <|
  zm_ac (zm_jp rfl) <|
  zm_ac trivial <|
  zm_ac zk_get_NameTreeModel_17 <|
  zm_ac trivial <|
  zm_ac trivial <|
  zm_ac zk_get_NameTreeModel_13 <|
  zm_ac trivial <|
  zm_ac trivial <|
  zm_ac trivial <|
  zm_ac trivial <|
  zm_ac zk_get_NameTreeModel_17 <|
  zm_ac trivial <|
  zm_ac trivial <|
  zm_ac (zm_jp rfl) <|
  zm_ac trivial <|
  zm_ac trivial <|
  zm_ac (zm_jp rfl) <|
  zm_ac trivial <|
  zm_ac (zm_jp rfl) <|
  zm_ac trivial <|
  zm_ac trivial <|
  zm_ac trivial <|
  zm_ac (zm_jp rfl) <|
  zm_ac trivial <|
  zm_ac trivial <|
  zm_ac trivial <|
  zm_ac trivial <|
  zm_ac trivial <|
  zm_ac trivial <|
  zm_ac zk_get_NameTreeModel_58 <|
  zm_ac (zm_jp rfl) <|
  zm_ac trivial <|
  zm_ac trivial <|
  zm_ac zk_get_NameTreeModel_17 <|
  zm_ac trivial <|
  zm_ac trivial <|
  zm_ac (zm_jp rfl) <|
  zm_ac trivial <|
  zm_ac (zm_jp rfl) <|
  zm_ac trivial <|
  zm_ac trivial <|
  zm_ac trivial <|
  zm_ac trivial <|
  zm_ac (zm_jp rfl) <|
  zm_ac trivial <|
  zm_ac trivial <|
  zm_ac (zm_jp rfl) <|
  zm_ac trivial <|
  zm_ac (zm_jp rfl) <|
  zm_ac trivial <|
  zm_ac trivial <|
  zm_an
set_option maxRecDepth 100000 in
set_option maxHeartbeats 4000000 in
theorem zs_77 : ∀ q ∈ zc77, zm_rs 77 q.1 q.2.1 q.2.2.2.1 q.2.2.2.2.1 q.2.2.2.2.2 :=
  zm_ac trivial <|
  zm_ac trivial <|
  zm_ac (zm_jp rfl) <|
  zm_ac trivial <|
  zm_ac (zm_jp rfl) <|
  zm_ac trivial <|
  zm_ac trivial <|
  zm_an
set_option maxRecDepth 100000 in
set_option maxHeartbeats 4000000 in
theorem zs_78 : ∀ q ∈ zc78, zm_rs 78 q.1 q.2.1 q.2.2.2.1 q.2.2.2.2.1 q.2.2.2.2.2 :=
  zm_ac trivial <|
  zm_ac zk_get_NameTreeModel_20 <|
  zm_ac trivial <|
  zm_ac trivial <|
  zm_ac (zm_jp rfl) <|
  zm_ac trivial <|
  zm_ac trivial <|
  zm_ac trivial <|
  zm_ac zk_get_NameTreeModel_20 <|
  zm_ac trivial <|
  zm_ac trivial <|
  zm_ac trivial <|
  zm_ac (zm_jp rfl) <|
  zm_ac trivial <|
  zm_ac (zm_jp rfl) <|
  zm_ac trivial <|
  zm_ac zk_get_NameTreeModel_20 <|
  zm_ac trivial <|
  zm_ac trivial <|
  zm_ac trivial <|
  zm_ac (zm_jp rfl) <|
  zm_ac trivial <|
  zm_ac zk_get_NameTreeModel_29 <|
  zm_ac trivial <|
  zm_ac trivial <|
  zm_ac trivial <|
  zm_ac (zm_jp rfl) <|
  zm_ac trivial <|
  zm_ac (zm_jp rfl) <|
  zm_ac trivial <|
  zm_ac (zm_jp rfl) <|
  zm_ac trivial <|
  zm_ac zk_get_NameTreeModel_23 <|
  zm_ac trivial <|
  zm_ac trivial <|
  zm_ac (Or.inr (Or.inr (Or.inr ⟨zk_stat_NameTreeModel_61, by decide, by decide⟩))) <|
  zm_ac trivial <|
  zm_an
set_option maxRecDepth 100000 in
set_option maxHeartbeats 4000000 in
theorem zs_79 : ∀ q ∈ zc79, zm_rs 79 q.1 q.2.1 q.2.2.2.1 q.2.2.2.2.1 q.2.2.2.2.2 :=
  zm_ac trivial <|
  zm_ac trivial <|
  zm_ac trivial <|
  zm_ac trivial <|
  zm_ac trivial <|
  zm_ac trivial <|
  zm_ac (zm_jp rfl) <|
  zm_ac trivial <|
  zm_ac trivial <|
  zm_ac trivial <|
  zm_ac ⟨zk_virt_NameTreeModel_65, by decide, by decide⟩ <|
  zm_ac trivial <|
  zm_ac trivial <|
  zm_ac trivial <|
  zm_ac (zm_jp rfl) <|
  zm_ac trivial <|
  zm_ac trivial <|
  zm_an
set_option maxRecDepth 100000 in
set_option maxHeartbeats 4000000 in
theorem zs_80 : ∀ q ∈ zc80, zm_rs 80 q.1 q.2.1 q.2.2.2.1 q.2.2.2.2.1 q.2.2.2.2.2 :=
  zm_ac trivial <|
  zm_ac trivial <|
  zm_ac trivial <|
  zm_ac trivial <|
  zm_ac trivial <|
  zm_ac trivial <|
  zm_ac (zm_jp rfl) <|
  zm_ac trivial <|
  zm_ac trivial <|
  zm_ac zk_get_NameTreeModel_20 <|
  zm_ac trivial <|
  zm_ac trivial <|
  zm_ac (zm_jp rfl) <|
  zm_ac trivial <|
  zm_ac (zm_jp rfl) <|
  zm_ac trivial <|
  zm_ac trivial <|
  zm_ac trivial <|
  zm_ac trivial <|
  zm_ac (zm_jp rfl) <|
  zm_ac trivial <|
  zm_ac trivial <|
  zm_an
set_option maxRecDepth 100000 in
set_option maxHeartbeats 4000000 in
theorem zs_81 : ∀ q ∈ zc81, zm_rs 81 q.1 q.2.1 q.2.2.2.1 q.2.2.2.2.1 q.2.2.2.2.2 :=
  zm_ac trivial <|
  zm_ac trivial <|
  zm_ac trivial <|
  zm_ac trivial <|
  zm_ac trivial <|
  zm_ac trivial <|
  zm_ac zk_get_NameTreeModel_68 <|
  zm_ac (zm_jp rfl) <|
  zm_ac trivial <|
  zm_ac trivial <|
  zm_ac zk_get_NameTreeModel_40 <|
  zm_ac trivial <|
  zm_ac trivial <|
  zm_ac trivial <|
  zm_ac (zm_jp rfl) <|
  zm_ac trivial <|
  zm_ac (zm_jp rfl) <|
  zm_ac trivial <|
  zm_ac trivial <|
  zm_ac trivial <|
  zm_ac trivial <|
  zm_ac (zm_jp rfl) <|
  zm_ac trivial <|
  zm_ac trivial <|
  zm_an
set_option maxRecDepth 100000 in
set_option maxHeartbeats 4000000 in
theorem zs_82 : ∀ q ∈ zc82, zm_rs 82 q.1 q.2.1 q.2.2.2.1 q.2.2.2.2.1 q.2.2.2.2.2 :=
  zm_ac trivial <|
  zm_ac trivial <|
  zm_ac trivial <|
  zm_ac trivial <|
  zm_ac trivial <|
  zm_ac trivial <|
  zm_ac zk_get_NameTreeModel_68 <|
  zm_ac (zm_jp rfl) <|
  zm_ac trivial <|
  zm_ac trivial <|
  zm_ac zk_get_NameTreeModel_37 <|
  zm_ac trivial <|
  zm_ac trivial <|
  zm_ac trivial <|
  zm_ac (zm_jp rfl) <|
  zm_ac trivial <|
  zm_ac (zm_jp rfl) <|
  zm_ac trivial <|
  zm_ac trivial <|
  zm_ac trivial <|
  zm_ac trivial <|
  zm_ac (zm_jp rfl) <|
  zm_ac trivial <|
  zm_ac trivial <|
  zm_an
set_option maxRecDepth 100000 in
set_option maxHeartbeats 4000000 in
theorem zs_83 : ∀ q ∈ zc83, zm_rs 83 q.1 q.2.1 q.2.2.2.1 q.2.2.2.2.1 q.2.2.2.2.2 :=
  zm_ac trivial <|
  zm_ac trivial <|
  zm_ac trivial <|
  zm_ac trivial <|
  zm_ac trivial <|
  zm_ac trivial <|
  zm_ac zk_get_NameTreeModel_68 <|
  zm_ac (zm_jp rfl) <|
  zm_ac trivial <|
  zm_ac zk_get_NameTreeModel_40 <|
  zm_ac trivial <|
  zm_ac trivial <|
  zm_ac trivial <|
  zm_ac (zm_jp rfl) <|
  zm_ac trivial <|
  zm_ac zk_get_NameTreeModel_37 <|
  zm_ac trivial <|
  zm_ac trivial <|
  zm_ac (zm_jp rfl) <|
  zm_ac trivial <|
  zm_ac trivial <|
  zm_ac trivial <|
  zm_ac (zm_jp rfl) <|
  zm_ac trivial <|
  zm_ac trivial <|
  zm_an
set_option maxRecDepth 100000 in
set_option maxHeartbeats 4000000 in
theorem zs_84 : ∀ q ∈ zc84, zm_rs 84 q.1 q.2.1 q.2.2.2.1 q.2.2.2.2.1 q.2.2.2.2.2 :=
  zm_ac trivial <|
  zm_ac zk_get_NameTreeModel_43 <|
  zm_ac trivial <|
  zm_ac trivial <|
  zm_ac trivial <|
  zm_ac (zm_jp rfl) <|
  zm_ac trivial <|
  zm_ac (zm_jp rfl) <|
  zm_ac trivial <|
  zm_ac trivial <|
  zm_ac trivial <|
  zm_ac trivial <|
  zm_ac trivial <|
  zm_ac trivial <|
  zm_ac (zm_jp rfl) <|
  zm_ac trivial <|
  zm_ac (zm_jp rfl) <|
  zm_ac trivial <|
  zm_ac zk_get_NameTreeModel_46 <|
  zm_ac trivial <|
  zm_ac trivial <|
  zm_ac trivial <|
  zm_ac trivial <|
  zm_ac trivial <|
  zm_ac trivial <|
  zm_ac trivial <|
  zm_ac trivial <|
  zm_ac trivial <|
  zm_ac zk_get_NameTreeModel_50 <|
  zm_ac trivial <|
  zm_ac trivial <|
  zm_ac trivial <|
  zm_ac trivial <|
  zm_ac (zm_jp rfl) <|
  zm_ac trivial <|
  zm_ac (zm_jp rfl) <|
  zm_ac trivial <|
  zm_ac trivial <|
  zm_ac trivial <|
  zm_ac (zm_jp rfl) <|
  zm_ac trivial <|
  zm_ac trivial <|
  zm_an
set_option maxRecDepth 100000 in
set_option maxHeartbeats 4000000 in
theorem zs_85 : ∀ q ∈ zc85, zm_rs 85 q.1 q.2.1 q.2.2.2.1 q.2.2.2.2.1 q.2.2.2.2.2 :=
  zm_ac trivial <|
  zm_ac trivial <|
  zm_ac trivial <|
  zm_ac trivial <|
  zm_ac trivial <|
  zm_ac trivial <|
  zm_ac zk_get_NameTreeModel_68 <|
  zm_ac (zm_jp rfl) <|
  zm_ac trivial <|
  zm_ac zk_get_NameTreeModel_37 <|
  zm_ac trivial <|
  zm_ac trivial <|
  zm_ac trivial <|
  zm_ac (zm_jp rfl) <|
  zm_ac trivial <|
  zm_ac trivial <|
  zm_ac trivial <|
  zm_ac trivial <|
  zm_ac ⟨zk_virt_NameTreeModel_71, by decide, by decide⟩ <|
  zm_ac (zm_jp rfl) <|
  zm_ac trivial <|
  zm_ac (zm_jp rfl) <|
  zm_ac trivial <|
  zm_ac trivial <|
  zm_ac trivial <|
  zm_ac (zm_jp rfl) <|
  zm_ac trivial <|
  zm_ac trivial <|
  zm_an
set_option maxRecDepth 100000 in
set_option maxHeartbeats 4000000 in
theorem zs_86 : ∀ q ∈ zc86, zm_rs 86 q.1 q.2.1 q.2.2.2.1 q.2.2.2.2.1 q.2.2.2.2.2 :=
  zm_ac trivial <|
  zm_ac trivial <|
  zm_ac zk_get_NameTreeModel_23 <|
  zm_ac trivial <|
  zm_ac trivial <|
  zm_ac (zm_jp rfl) <|
  zm_ac trivial <|
  zm_ac (Or.inr (Or.inr (Or.inr ⟨zk_stat_NameTreeModel_61, by decide, by decide⟩))) <|
  zm_ac trivial <|
  zm_ac zk_get_NameTreeModel_23 <|
  zm_ac trivial <|
  zm_ac trivial <|
  zm_ac (Or.inr (Or.inr (Or.inr ⟨zk_stat_NameTreeModel_61, by decide, by decide⟩))) <|
  zm_ac trivial <|
  zm_ac (zm_jp rfl) <|
  zm_ac trivial <|
  zm_ac trivial <|
  zm_an
set_option maxRecDepth 100000 in
set_option maxHeartbeats 4000000 in
theorem zs_87 : ∀ q ∈ zc87, zm_rs 87 q.1 q.2.1 q.2.2.2.1 q.2.2.2.2.1 q.2.2.2.2.2 :=
  zm_ac trivial <|
  zm_ac zk_get_NameTreeModel_37 <|
  zm_ac trivial <|
  zm_ac zk_get_NameTreeModel_68 <|
  zm_ac trivial <|
  zm_ac zk_get_NameTreeModel_75 <|
  zm_ac trivial <|
  zm_ac trivial <|
  zm_ac zk_get_NameTreeModel_40 <|
  zm_ac trivial <|
  zm_ac zk_get_NameTreeModel_68 <|
  zm_ac trivial <|
  zm_ac trivial <|
  zm_ac trivial <|
  zm_ac zk_get_NameTreeModel_43 <|
  zm_ac trivial <|
  zm_ac zk_get_NameTreeModel_68 <|
  zm_ac trivial <|
  zm_ac zk_get_NameTreeModel_78 <|
  zm_ac trivial <|
  zm_ac trivial <|
  zm_ac trivial <|
  zm_ac trivial <|
  zm_ac trivial <|
  zm_ac zk_get_NameTreeModel_78 <|
  zm_ac (zm_jp rfl) <|
  zm_ac trivial <|
  zm_ac zk_get_NameTreeModel_46 <|
  zm_ac trivial <|
  zm_ac trivial <|
  zm_ac zk_get_NameTreeModel_68 <|
  zm_ac trivial <|
  zm_ac trivial <|
  zm_ac trivial <|
  zm_ac trivial <|
  zm_ac zk_get_NameTreeModel_50 <|
  zm_ac trivial <|
  zm_ac zk_get_NameTreeModel_81 <|
  zm_ac trivial <|
  zm_ac trivial <|
  zm_ac trivial <|
  zm_ac trivial <|
  zm_ac trivial <|
  zm_ac trivial <|
  zm_ac (zm_jp rfl) <|
  zm_ac trivial <|
  zm_ac trivial <|
  zm_ac zk_get_NameTreeModel_68 <|
  zm_ac trivial <|
  zm_ac trivial <|
  zm_ac (zm_rp_any zk_put_NameTreeModel_68) <|
  zm_ac trivial <|
  zm_ac trivial <|
  zm_ac zk_get_NameTreeModel_75 <|
  zm_ac ⟨zk_virt_NameTreeModel_84, by decide, by decide⟩ <|
  zm_ac trivial <|
  zm_ac trivial <|
  zm_ac zk_get_NameTreeModel_23 <|
  zm_ac trivial <|
  zm_ac zk_get_NameTreeModel_75 <|
  zm_ac trivial <|
  zm_ac trivial <|
  zm_ac zk_get_NameTreeModel_23 <|
  zm_ac trivial <|
  zm_ac zk_get_NameTreeModel_75 <|
  zm_ac trivial <|
  zm_ac (zm_jp rfl) <|
  zm_ac trivial <|
  zm_ac (zm_jp rfl) <|
  zm_ac trivial <|
  zm_ac zk_get_NameTreeModel_23 <|
  zm_ac trivial <|
  zm_ac zk_get_NameTreeModel_75 <|
  zm_ac trivial <|
  zm_ac trivial <|
  zm_ac trivial <|
  zm_an
set_option maxRecDepth 100000 in
set_option maxHeartbeats 4000000 in
theorem zs_88 : ∀ q ∈ zc88, zm_rs 88 q.1 q.2.1 q.2.2.2.1 q.2.2.2.2.1 q.2.2.2.2.2 :=
  zm_ac trivial <|
  zm_ac zk_get_NameTreeModel_40 <|
  zm_ac trivial <|
  zm_ac trivial <|
  zm_ac trivial <|
  zm_ac trivial <|
  zm_ac trivial <|
  zm_ac zk_get_NameTreeModel_68 <|
  zm_ac trivial <|
  zm_ac trivial <|
  zm_ac (zm_rp_any zk_put_NameTreeModel_68) <|
  zm_ac trivial <|
  zm_ac zk_get_NameTreeModel_37 <|
  zm_ac trivial <|
  zm_ac trivial <|
  zm_ac zk_get_NameTreeModel_37 <|
  zm_ac trivial <|
  zm_ac zk_get_NameTreeModel_68 <|
  zm_ac trivial <|
  zm_ac trivial <|
  zm_ac trivial <|
  zm_ac zk_get_NameTreeModel_40 <|
  zm_ac trivial <|
  zm_ac trivial <|
  zm_ac zk_get_NameTreeModel_40 <|
  zm_ac trivial <|
  zm_ac zk_get_NameTreeModel_68 <|
  zm_ac trivial <|
  zm_ac trivial <|
  zm_ac trivial <|
  zm_ac zk_get_NameTreeModel_43 <|
  zm_ac trivial <|
  zm_ac trivial <|
  zm_ac zk_get_NameTreeModel_43 <|
  zm_ac trivial <|
  zm_ac zk_get_NameTreeModel_68 <|
  zm_ac trivial <|
  zm_ac trivial <|
  zm_ac trivial <|
  zm_ac trivial <|
  zm_ac trivial <|
  zm_ac trivial <|
  zm_ac (zm_jp rfl) <|
  zm_ac trivial <|
  zm_ac zk_get_NameTreeModel_46 <|
  zm_ac trivial <|
  zm_ac trivial <|
  zm_ac trivial <|
  zm_ac trivial <|
  zm_ac trivial <|
  zm_ac trivial <|
  zm_ac zk_get_NameTreeModel_46 <|
  zm_ac trivial <|
  zm_ac trivial <|
  zm_ac zk_get_NameTreeModel_68 <|
  zm_ac trivial <|
  zm_ac trivial <|
  zm_ac trivial <|
  zm_ac trivial <|
  zm_ac trivial <|
  zm_ac trivial <|
  zm_ac (zm_jp rfl) <|
  zm_ac trivial <|
  zm_ac trivial <|
  zm_ac ⟨zk_virt_NameTreeModel_87, by decide, by decide⟩ <|
  zm_ac (zm_jp rfl) <|
  zm_ac trivial <|
  zm_ac zk_get_NameTreeModel_26 <|
  zm_ac trivial <|
  zm_ac trivial <|
  zm_ac (zm_jp rfl) <|
  zm_ac trivial <|
  zm_ac zk_get_NameTreeModel_20 <|
  zm_ac trivial <|
  zm_ac trivial <|
  zm_ac trivial <|
  zm_ac trivial <|
  zm_an
set_option maxRecDepth 100000 in
set_option maxHeartbeats 4000000 in
theorem zs_89 : ∀ q ∈ zc89, zm_rs 89 q.1 q.2.1 q.2.2.2.1 q.2.2.2.2.1 q.2.2.2.2.2 :=
  zm_ac trivial <|
  zm_ac zk_get_NameTreeModel_90 <|
  zm_ac trivial <|
  zm_ac trivial <|
  zm_ac ⟨_, _, rfl, zk_ldc_NameTreeModel_49⟩ <|
  zm_ac (zm_jp rfl) <|
  zm_ac trivial <|
  zm_ac trivial <|
  zm_ac trivial <|
  zm_ac ⟨_, _, rfl, zk_ldc_NameTreeModel_49⟩ <|
  zm_ac (zm_jp rfl) <|
  zm_ac trivial <|
  zm_ac zk_get_NameTreeModel_50 <|
  zm_ac trivial <|
  zm_ac trivial <|
  zm_ac trivial <|
  zm_ac (zm_jp rfl) <|
  zm_ac trivial <|
  zm_ac (zm_jp rfl) <|
  zm_ac trivial <|
  zm_ac trivial <|
  zm_ac trivial <|
  zm_ac trivial <|
  zm_ac (zm_jp rfl) <|
  zm_ac trivial <|
  zm_ac trivial <|
  zm_ac trivial <|
  zm_ac trivial <|
  zm_ac (zm_jp rfl) <|
  zm_ac trivial <|
  zm_ac zk_get_NameTreeModel_50 <|
  zm_ac trivial <|
  zm_ac trivial <|
  zm_ac trivial <|
  zm_ac (zm_jp rfl) <|
  zm_ac trivial <|
  zm_ac trivial <|
  zm_ac trivial <|
  zm_ac (zm_jp rfl) <|
  zm_ac trivial <|
  zm_ac trivial <|
  zm_an
set_option maxRecDepth 100000 in
set_option maxHeartbeats 4000000 in
theorem zs_90 : ∀ q ∈ zc90, zm_rs 90 q.1 q.2.1 q.2.2.2.1 q.2.2.2.2.1 q.2.2.2.2.2 :=
  zm_ac trivial <|
  zm_ac ⟨_, _, rfl, zk_ldc_NameTreeModel_49⟩ <|
  zm_ac trivial <|
  zm_ac trivial <|
  zm_ac (zm_rp_any zk_put_NameTreeModel_90) <|
  zm_ac trivial <|
  zm_ac trivial <|
  zm_ac trivial <|
  zm_ac trivial <|
  zm_ac (zm_jp rfl) <|
  zm_ac trivial <|
  zm_ac zk_get_NameTreeModel_50 <|
  zm_ac trivial <|
  zm_ac zk_get_NameTreeModel_90 <|
  zm_ac trivial <|
  zm_ac trivial <|
  zm_ac trivial <|
  zm_ac zk_get_NameTreeModel_17 <|
  zm_ac trivial <|
  zm_ac trivial <|
  zm_ac trivial <|
  zm_ac trivial <|
  zm_ac trivial <|
  zm_ac trivial <|
  zm_ac (zm_jp rfl) <|
  zm_ac trivial <|
  zm_ac trivial <|
  zm_ac trivial <|
  zm_ac trivial <|
  zm_ac (zm_rp_any zk_put_NameTreeModel_93) <|
  zm_ac trivial <|
  zm_ac trivial <|
  zm_ac (zm_rp_any zk_put_NameTreeModel_96) <|
  zm_ac trivial <|
  zm_ac ⟨zk_virt_NameTreeModel_100, by decide, by decide⟩ <|
  zm_ac (zm_jp rfl) <|
  zm_ac trivial <|
  zm_ac zk_get_NameTreeModel_50 <|
  zm_ac trivial <|
  zm_ac zk_get_NameTreeModel_90 <|
  zm_ac trivial <|
  zm_ac trivial <|
  zm_ac (zm_jp rfl) <|
  zm_ac trivial <|
  zm_ac trivial <|
  zm_ac zk_get_NameTreeModel_90 <|
  zm_ac trivial <|
  zm_ac trivial <|
  zm_ac (zm_rp_any zk_put_NameTreeModel_90) <|
  zm_ac (zm_jp rfl) <|
  zm_ac trivial <|
  zm_ac trivial <|
  zm_ac zk_get_NameTreeModel_90 <|
  zm_ac (zm_rp_any zk_put_NameTreeModel_81) <|
  zm_ac trivial <|
  zm_ac zk_get_NameTreeModel_90 <|
  zm_ac ⟨_, _, rfl, zk_ldc_NameTreeModel_49⟩ <|
  zm_ac (zm_jp rfl) <|
  zm_ac trivial <|
  zm_ac zk_get_NameTreeModel_50 <|
  zm_ac trivial <|
  zm_ac zk_get_NameTreeModel_90 <|
  zm_ac trivial <|
  zm_ac trivial <|
  zm_ac (zm_jp rfl) <|
  zm_ac trivial <|
  zm_ac trivial <|
  zm_ac zk_get_NameTreeModel_90 <|
  zm_ac trivial <|
  zm_ac trivial <|
  zm_ac (zm_rp_any zk_put_NameTreeModel_90) <|
  zm_ac (zm_jp rfl) <|
  zm_ac trivial <|
  zm_ac trivial <|
  zm_ac zk_get_NameTreeModel_90 <|
  zm_ac trivial <|
  zm_ac zk_get_NameTreeModel_81 <|
  zm_ac trivial <|
  zm_ac (zm_rp_any zk_put_NameTreeModel_78) <|
  zm_ac trivial <|
  zm_ac zk_get_NameTreeModel_78 <|
  zm_ac trivial <|
  zm_ac (zm_jp rfl) <|
  zm_ac trivial <|
  zm_ac zk_get_NameTreeModel_50 <|
  zm_ac trivial <|
  zm_ac zk_get_NameTreeModel_81 <|
  zm_ac trivial <|
  zm_ac trivial <|
  zm_ac (zm_jp rfl) <|
  zm_ac (zm_jp rfl) <|
  zm_ac trivial <|
  zm_ac zk_get_NameTreeModel_78 <|
  zm_ac trivial <|
  zm_ac (zm_jp rfl) <|
  zm_ac trivial <|
  zm_ac trivial <|
  zm_ac trivial <|
  zm_ac zk_get_NameTreeModel_20 <|
  zm_ac trivial <|
  zm_ac zk_get_NameTreeModel_93 <|
  zm_ac trivial <|
  zm_ac trivial <|
  zm_ac (zm_jp rfl) <|
  zm_ac trivial <|
  zm_ac trivial <|
  zm_ac trivial <|
  zm_ac ⟨zk_virt_NameTreeModel_100, by decide, by decide⟩ <|
  zm_ac (zm_jp rfl) <|
  zm_ac trivial <|
  zm_ac (zm_jp rfl) <|
  zm_ac trivial <|
  zm_ac trivial <|
  zm_ac trivial <|
  zm_ac trivial <|
  zm_ac zk_get_NameTreeModel_78 <|
  zm_ac trivial <|
  zm_ac (zm_jp rfl) <|
  zm_ac trivial <|
  zm_ac zk_get_NameTreeModel_50 <|
  zm_ac trivial <|
  zm_ac zk_get_NameTreeModel_81 <|
  zm_ac trivial <|
  zm_ac trivial <|
  zm_ac (zm_jp rfl) <|
  zm_ac trivial <|
  zm_ac zk_get_NameTreeModel_50 <|
  zm_ac trivial <|
  zm_ac zk_get_NameTreeModel_81 <|
  zm_ac trivial <|
  zm_ac trivial <|
  zm_ac trivial <|
  zm_ac trivial <|
  zm_ac (zm_jp rfl) <|
  zm_ac trivial <|
  zm_ac (zm_jp rfl) <|
  zm_ac trivial <|
  zm_ac (zm_rp_any zk_put_NameTreeModel_96) <|
  zm_ac trivial <|
  zm_ac zk_get_NameTreeModel_96 <|
  zm_ac (zm_jp rfl) <|
  zm_ac trivial <|
  zm_ac trivial <|
  zm_ac trivial <|
  zm_ac zk_get_NameTreeModel_93 <|
  zm_ac ⟨zk_virt_NameTreeModel_104, by decide, by decide⟩ <|
  zm_ac (zm_rp_any zk_put_NameTreeModel_93) <|
  zm_ac (zm_jp rfl) <|
  zm_ac trivial <|
  zm_ac trivial <|
  zm_ac zk_get_NameTreeModel_93 <|
  zm_ac (zm_rp_any zk_put_NameTreeModel_75) <|
  zm_ac trivial <|
  zm_ac trivial <|
  zm_ac zk_get_NameTreeModel_75 <|
  zm_ac trivial <|
  zm_ac zk_get_NameTreeModel_81 <|
  zm_ac trivial <|
  zm_ac zk_get_NameTreeModel_78 <|
  zm_ac ⟨zk_virt_NameTreeModel_107, by decide, by decide⟩ <|
  zm_ac trivial <|
  zm_ac trivial <|
  zm_ac trivial <|
  zm_ac (zm_jp rfl) <|
  zm_ac trivial <|
  zm_ac (zm_jp rfl) <|
  zm_ac trivial <|
  zm_ac zk_get_NameTreeModel_40 <|
  zm_ac trivial <|
  zm_ac trivial <|
  zm_ac (zm_rp_any zk_put_NameTreeModel_93) <|
  zm_ac trivial <|
  zm_ac (zm_jp rfl) <|
  zm_ac trivial <|
  zm_ac (zm_jp rfl) <|
  zm_ac trivial <|
  zm_ac (zm_jp rfl) <|
  zm_ac trivial <|
  zm_ac trivial <|
  zm_ac trivial <|
  zm_ac zk_get_NameTreeModel_20 <|
  zm_ac trivial <|
  zm_ac zk_get_NameTreeModel_93 <|
  zm_ac trivial <|
  zm_ac trivial <|
  zm_ac (zm_jp rfl) <|
  zm_ac trivial <|
  zm_ac (zm_jp rfl) <|
  zm_ac trivial <|
  zm_ac (zm_jp rfl) <|
  zm_ac trivial <|
  zm_ac trivial <|
  zm_ac (zm_jp rfl) <|
  zm_ac trivial <|
  zm_ac trivial <|
  zm_ac trivial <|
  zm_ac trivial <|
  zm_ac trivial <|
  zm_ac zk_get_NameTreeModel_93 <|
  zm_ac ⟨zk_virt_NameTreeModel_111, by decide, by decide⟩ <|
  zm_ac (zm_jp rfl) <|
  zm_ac trivial <|
  zm_ac trivial <|
  zm_an
set_option maxRecDepth 100000 in
set_option maxHeartbeats 4000000 in
theorem zs_91 : ∀ q ∈ zc91, zm_rs 91 q.1 q.2.1 q.2.2.2.1 q.2.2.2.2.1 q.2.2.2.2.2 :=
  zm_ac trivial <|
  zm_ac trivial <|
  zm_ac zk_get_NameTreeModel_90 <|
  zm_ac trivial <|
  zm_ac trivial <|
  zm_ac (zm_rp_any zk_put_NameTreeModel_90) <|
  zm_ac trivial <|
  zm_ac zk_get_NameTreeModel_50 <|
  zm_ac trivial <|
  zm_ac zk_get_NameTreeModel_90 <|
  zm_ac trivial <|
  zm_ac trivial <|
  zm_ac trivial <|
  zm_ac trivial <|
  zm_ac zk_get_NameTreeModel_90 <|
  zm_ac trivial <|
  zm_ac zk_get_NameTreeModel_29 <|
  zm_ac trivial <|
  zm_ac trivial <|
  zm_ac trivial <|
  zm_ac (zm_rp_any zk_put_NameTreeModel_90) <|
  zm_ac trivial <|
  zm_ac trivial <|
  zm_ac trivial <|
  zm_ac trivial <|
  zm_ac zk_get_NameTreeModel_29 <|
  zm_ac trivial <|
  zm_ac trivial <|
  zm_ac (zm_jp rfl) <|
  zm_ac trivial <|
  zm_ac zk_get_NameTreeModel_50 <|
  zm_ac trivial <|
  zm_ac zk_get_NameTreeModel_90 <|
  zm_ac trivial <|
  zm_ac trivial <|
  zm_ac trivial <|
  zm_ac zk_get_NameTreeModel_33 <|
  zm_ac trivial <|
  zm_ac trivial <|
  zm_ac trivial <|
  zm_ac trivial <|
  zm_ac trivial <|
  zm_ac trivial <|
  zm_ac trivial <|
  zm_ac trivial <|
  zm_ac trivial <|
  zm_ac trivial <|
  zm_ac (zm_jp rfl) <|
  zm_ac trivial <|
  zm_ac trivial <|
  zm_ac zk_get_NameTreeModel_50 <|
  zm_ac trivial <|
  zm_ac zk_get_NameTreeModel_90 <|
  zm_ac trivial <|
  zm_ac trivial <|
  zm_ac (zm_jp rfl) <|
  zm_ac trivial <|
  zm_ac (zm_jp rfl) <|
  zm_ac trivial <|
  zm_ac zk_get_NameTreeModel_75 <|
  zm_ac (zm_rp_any zk_put_NameTreeModel_93) <|
  zm_ac trivial <|
  zm_ac trivial <|
  zm_ac (zm_rp_any zk_put_NameTreeModel_96) <|
  zm_ac trivial <|
  zm_an
set_option maxRecDepth 100000 in
set_option maxHeartbeats 4000000 in
theorem zs_92 : ∀ q ∈ zc92, zm_rs 92 q.1 q.2.1 q.2.2.2.1 q.2.2.2.2.1 q.2.2.2.2.2 :=
  zm_ac trivial <|
  zm_ac trivial <|
  zm_ac trivial <|
  zm_ac trivial <|
  zm_ac ⟨zk_virt_NameTreeModel_115, by decide, by decide⟩ <|
  zm_ac trivial <|
  zm_ac trivial <|
  zm_ac (zm_jp rfl) <|
  zm_ac trivial <|
  zm_ac (zm_jp rfl) <|
  zm_ac trivial <|
  zm_ac zk_get_NameTreeModel_96 <|
  zm_ac (zm_jp rfl) <|
  zm_ac trivial <|
  zm_ac (zm_jp rfl) <|
  zm_ac trivial <|
  zm_ac trivial <|
  zm_an
set_option maxRecDepth 100000 in
set_option maxHeartbeats 4000000 in
theorem zs_93 : ∀ q ∈ zc93, zm_rs 93 q.1 q.2.1 q.2.2.2.1 q.2.2.2.2.1 q.2.2.2.2.2 :=
  zm_ac trivial <|
  zm_ac trivial <|
  zm_ac (zm_jp rfl) <|
  zm_ac trivial <|
  zm_ac trivial <|
  zm_ac ⟨zk_virt_NameTreeModel_119, by decide, by decide⟩ <|
  zm_ac (zm_jp rfl) <|
  zm_ac trivial <|
  zm_ac trivial <|
  zm_ac trivial <|
  zm_ac trivial <|
  zm_ac (zm_rp_any zk_put_NameTreeModel_7) <|
  zm_ac trivial <|
  zm_ac zk_get_NameTreeModel_7 <|
  zm_ac trivial <|
  zm_ac ⟨zk_virt_NameTreeModel_119, by decide, by decide⟩ <|
  zm_ac trivial <|
  zm_ac trivial <|
  zm_an
set_option maxRecDepth 100000 in
set_option maxHeartbeats 4000000 in
theorem zs_94 : ∀ q ∈ zc94, zm_rs 94 q.1 q.2.1 q.2.2.2.1 q.2.2.2.2.1 q.2.2.2.2.2 :=
  zm_ac trivial <|
  zm_ac trivial <|
  zm_ac trivial <|
  zm_ac trivial <|
  zm_ac (zm_jp rfl) <|
  zm_ac trivial <|
  zm_ac zk_get_NameTreeModel_20 <|
  zm_ac trivial <|
  zm_ac trivial <|
  zm_ac (zm_jp rfl) <|
  zm_ac trivial <|
  zm_ac (zm_jp rfl) <|
  zm_ac trivial <|
  zm_ac trivial <|
  zm_ac (zm_jp rfl) <|
  zm_ac trivial <|
  zm_ac zk_get_NameTreeModel_68 <|
  zm_ac trivial <|
  zm_ac (zm_jp rfl) <|
  zm_ac trivial <|
  zm_ac ⟨zk_virt_NameTreeModel_119, by decide, by decide⟩ <|
  zm_ac trivial <|
  zm_ac trivial <|
  zm_ac trivial <|
  zm_ac trivial <|
  zm_ac zk_get_NameTreeModel_75 <|
  zm_ac trivial <|
  zm_ac trivial <|
  zm_ac zk_get_NameTreeModel_75 <|
  zm_ac ⟨zk_virt_NameTreeModel_84, by decide, by decide⟩ <|
  zm_ac trivial <|
  zm_ac trivial <|
  zm_ac ⟨zk_virt_NameTreeModel_123, by decide, by decide⟩ <|
  zm_ac trivial <|
  zm_ac trivial <|
  zm_ac zk_get_NameTreeModel_7 <|
  zm_ac (zm_jp rfl) <|
  zm_ac trivial <|
  zm_ac trivial <|
  zm_ac trivial <|
  zm_ac zk_get_NameTreeModel_20 <|
  zm_ac trivial <|
  zm_ac trivial <|
  zm_ac trivial <|
  zm_ac trivial <|
  zm_ac zk_get_NameTreeModel_23 <|
  zm_ac trivial <|
  zm_ac trivial <|
  zm_ac trivial <|
  zm_ac trivial <|
  zm_ac zk_get_NameTreeModel_26 <|
  zm_ac trivial <|
  zm_ac trivial <|
  zm_ac trivial <|
  zm_ac trivial <|
  zm_ac trivial <|
  zm_ac ⟨zk_virt_NameTreeModel_127, by decide, by decide⟩ <|
  zm_ac trivial <|
  zm_ac trivial <|
  zm_an
set_option maxRecDepth 100000 in
set_option maxHeartbeats 4000000 in
theorem zs_95 : ∀ q ∈ zc95, zm_rs 95 q.1 q.2.1 q.2.2.2.1 q.2.2.2.2.1 q.2.2.2.2.2 :=
  zm_ac trivial <|
  zm_ac ⟨zk_virt_NameTreeModel_130, by decide, by decide⟩ <|
  zm_ac trivial <|
  zm_ac trivial <|
  zm_ac trivial <|
  zm_ac (zm_jp rfl) <|
  zm_ac trivial <|
  zm_ac trivial <|
  zm_ac (zm_jp rfl) <|
  zm_ac trivial <|
  zm_ac trivial <|
  zm_ac (zm_jp rfl) <|
  zm_ac trivial <|
  zm_ac trivial <|
  zm_ac trivial <|
  zm_ac trivial <|
  zm_ac trivial <|
  zm_ac zk_get_NameTreeModel_58 <|
  zm_ac ⟨zk_virt_NameTreeModel_133, by decide, by decide⟩ <|
  zm_ac trivial <|
  zm_ac trivial <|
  zm_ac (zm_jp rfl) <|
  zm_ac trivial <|
  zm_ac trivial <|
  zm_ac trivial <|
  zm_ac zk_get_NameTreeModel_93 <|
  zm_ac (zm_jp rfl) <|
  zm_ac trivial <|
  zm_ac (zm_jp rfl) <|
  zm_ac trivial <|
  zm_ac trivial <|
  zm_ac trivial <|
  zm_ac ⟨zk_virt_NameTreeModel_136, by decide, by decide⟩ <|
  zm_ac trivial <|
  zm_an
set_option maxRecDepth 100000 in
set_option maxHeartbeats 4000000 in
theorem zs_96 : ∀ q ∈ zc96, zm_rs 96 q.1 q.2.1 q.2.2.2.1 q.2.2.2.2.1 q.2.2.2.2.2 :=
  zm_ac trivial <|
  zm_ac ⟨zk_virt_NameTreeModel_130, by decide, by decide⟩ <|
  zm_ac trivial <|
  zm_ac trivial <|
  zm_ac (zm_jp rfl) <|
  zm_ac trivial <|
  zm_ac trivial <|
  zm_ac trivial <|
  zm_ac trivial <|
  zm_ac trivial <|
  zm_ac trivial <|
  zm_ac ⟨zk_virt_NameTreeModel_115, by decide, by decide⟩ <|
  zm_ac trivial <|
  zm_ac trivial <|
  zm_ac (zm_jp rfl) <|
  zm_ac trivial <|
  zm_ac trivial <|
  zm_ac trivial <|
  zm_ac zk_get_NameTreeModel_93 <|
  zm_ac trivial <|
  zm_ac trivial <|
  zm_ac trivial <|
  zm_ac trivial <|
  zm_ac trivial <|
  zm_ac trivial <|
  zm_ac zk_get_NameTreeModel_58 <|
  zm_ac trivial <|
  zm_ac trivial <|
  zm_ac trivial <|
  zm_ac trivial <|
  zm_ac ⟨zk_virt_NameTreeModel_133, by decide, by decide⟩ <|
  zm_ac trivial <|
  zm_ac trivial <|
  zm_ac (zm_jp rfl) <|
  zm_ac trivial <|
  zm_ac trivial <|
  zm_ac trivial <|
  zm_ac (zm_jp rfl) <|
  zm_ac trivial <|
  zm_ac trivial <|
  zm_ac trivial <|
  zm_ac zk_get_NameTreeModel_20 <|
  zm_ac trivial <|
  zm_ac trivial <|
  zm_ac trivial <|
  zm_ac (zm_jp rfl) <|
  zm_ac trivial <|
  zm_ac trivial <|
  zm_ac trivial <|
  zm_ac zk_get_NameTreeModel_93 <|
  zm_ac (zm_jp rfl) <|
  zm_ac trivial <|
  zm_ac trivial <|
  zm_ac trivial <|
  zm_ac zk_get_NameTreeModel_68 <|
  zm_ac trivial <|
  zm_ac (zm_jp rfl) <|
  zm_ac trivial <|
  zm_ac ⟨zk_virt_NameTreeModel_119, by decide, by decide⟩ <|
  zm_ac trivial <|
  zm_ac trivial <|
  zm_ac zk_get_NameTreeModel_75 <|
  zm_ac trivial <|
  zm_ac trivial <|
  zm_ac zk_get_NameTreeModel_75 <|
  zm_ac ⟨zk_virt_NameTreeModel_84, by decide, by decide⟩ <|
  zm_ac trivial <|
  zm_ac trivial <|
  zm_ac ⟨zk_virt_NameTreeModel_123, by decide, by decide⟩ <|
  zm_ac trivial <|
  zm_ac trivial <|
  zm_ac zk_get_NameTreeModel_7 <|
  zm_ac (zm_jp rfl) <|
  zm_ac trivial <|
  zm_ac trivial <|
  zm_ac trivial <|
  zm_ac trivial <|
  zm_ac ⟨zk_virt_NameTreeModel_127, by decide, by decide⟩ <|
  zm_ac trivial <|
  zm_ac trivial <|
  zm_an
set_option maxRecDepth 100000 in
set_option maxHeartbeats 4000000 in
theorem zs_97 : ∀ q ∈ zc97, zm_rs 97 q.1 q.2.1 q.2.2.2.1 q.2.2.2.2.1 q.2.2.2.2.2 :=
  zm_ac trivial <|
  zm_ac ⟨zk_virt_NameTreeModel_130, by decide, by decide⟩ <|
  zm_ac trivial <|
  zm_ac trivial <|
  zm_ac zk_get_NameTreeModel_58 <|
  zm_ac trivial <|
  zm_ac trivial <|
  zm_ac trivial <|
  zm_ac trivial <|
  zm_ac trivial <|
  zm_ac trivial <|
  zm_ac (zm_jp rfl) <|
  zm_ac trivial <|
  zm_ac trivial <|
  zm_ac (zm_jp rfl) <|
  zm_ac trivial <|
  zm_ac trivial <|
  zm_ac (zm_jp rfl) <|
  zm_ac trivial <|
  zm_ac trivial <|
  zm_ac trivial <|
  zm_ac trivial <|
  zm_ac trivial <|
  zm_ac ⟨zk_virt_NameTreeModel_133, by decide, by decide⟩ <|
  zm_ac trivial <|
  zm_ac trivial <|
  zm_ac (zm_jp rfl) <|
  zm_ac trivial <|
  zm_ac trivial <|
  zm_ac trivial <|
  zm_ac zk_get_NameTreeModel_93 <|
  zm_ac (zm_jp rfl) <|
  zm_ac trivial <|
  zm_ac trivial <|
  zm_ac trivial <|
  zm_ac trivial <|
  zm_ac trivial <|
  zm_ac trivial <|
  zm_ac (zm_jp rfl) <|
  zm_ac trivial <|
  zm_ac (zm_jp rfl) <|
  zm_ac trivial <|
  zm_ac ⟨zk_virt_NameTreeModel_136, by decide, by decide⟩ <|
  zm_ac trivial <|
  zm_ac trivial <|
  zm_ac (zm_jp rfl) <|
  zm_ac trivial <|
  zm_ac trivial <|
  zm_ac trivial <|
  zm_ac zk_get_NameTreeModel_29 <|
  zm_ac trivial <|
  zm_ac trivial <|
  zm_ac trivial <|
  zm_ac trivial <|
  zm_ac trivial <|
  zm_ac trivial <|
  zm_ac trivial <|
  zm_ac (zm_jp rfl) <|
  zm_ac trivial <|
  zm_ac zk_get_NameTreeModel_33 <|
  zm_ac trivial <|
  zm_ac trivial <|
  zm_ac trivial <|
  zm_ac trivial <|
  zm_ac trivial <|
  zm_ac trivial <|
  zm_ac zk_get_NameTreeModel_17 <|
  zm_ac trivial <|
  zm_ac trivial <|
  zm_ac trivial <|
  zm_ac trivial <|
  zm_ac trivial <|
  zm_ac trivial <|
  zm_ac trivial <|
  zm_ac trivial <|
  zm_ac trivial <|
  zm_ac (zm_jp rfl) <|
  zm_ac trivial <|
  zm_ac trivial <|
  zm_an
set_option maxRecDepth 100000 in
set_option maxHeartbeats 4000000 in
theorem zs_98 : ∀ q ∈ zc98, zm_rs 98 q.1 q.2.1 q.2.2.2.1 q.2.2.2.2.1 q.2.2.2.2.2 :=
  zm_ac trivial <|
  zm_ac ⟨zk_virt_NameTreeModel_130, by decide, by decide⟩ <|
  zm_ac trivial <|
  zm_ac trivial <|
  zm_ac trivial <|
  zm_ac (zm_jp rfl) <|
  zm_ac trivial <|
  zm_ac trivial <|
  zm_ac trivial <|
  zm_ac trivial <|
  zm_ac trivial <|
  zm_ac zk_get_NameTreeModel_58 <|
  zm_ac ⟨zk_virt_NameTreeModel_133, by decide, by decide⟩ <|
  zm_ac trivial <|
  zm_ac trivial <|
  zm_ac (zm_jp rfl) <|
  zm_ac trivial <|
  zm_ac trivial <|
  zm_ac trivial <|
  zm_ac zk_get_NameTreeModel_93 <|
  zm_ac (zm_jp rfl) <|
  zm_ac trivial <|
  zm_ac trivial <|
  zm_ac trivial <|
  zm_ac zk_get_NameTreeModel_20 <|
  zm_ac trivial <|
  zm_ac zk_get_NameTreeModel_93 <|
  zm_ac trivial <|
  zm_ac trivial <|
  zm_ac (zm_jp rfl) <|
  zm_ac trivial <|
  zm_ac trivial <|
  zm_ac trivial <|
  zm_ac trivial <|
  zm_ac trivial <|
  zm_ac zk_get_NameTreeModel_75 <|
  zm_ac trivial <|
  zm_ac zk_get_NameTreeModel_81 <|
  zm_ac trivial <|
  zm_ac zk_get_NameTreeModel_78 <|
  zm_ac ⟨zk_virt_NameTreeModel_107, by decide, by decide⟩ <|
  zm_ac ⟨zk_virt_NameTreeModel_139, by decide, by decide⟩ <|
  zm_ac trivial <|
  zm_ac zk_get_NameTreeModel_93 <|
  zm_ac trivial <|
  zm_an
set_option maxRecDepth 100000 in
set_option maxHeartbeats 4000000 in
theorem zs_99 : ∀ q ∈ zc99, zm_rs 99 q.1 q.2.1 q.2.2.2.1 q.2.2.2.2.1 q.2.2.2.2.2 :=
  zm_ac trivial <|
  zm_ac ⟨zk_virt_NameTreeModel_130, by decide, by decide⟩ <|
  zm_ac trivial <|
  zm_ac trivial <|
  zm_ac trivial <|
  zm_ac (zm_jp rfl) <|
  zm_ac trivial <|
  zm_ac trivial <|
  zm_ac trivial <|
  zm_ac trivial <|
  zm_ac trivial <|
  zm_ac zk_get_NameTreeModel_58 <|
  zm_ac ⟨zk_virt_NameTreeModel_133, by decide, by decide⟩ <|
  zm_ac trivial <|
  zm_ac trivial <|
  zm_ac (zm_jp rfl) <|
  zm_ac trivial <|
  zm_ac trivial <|
  zm_ac trivial <|
  zm_ac zk_get_NameTreeModel_93 <|
  zm_ac (zm_jp rfl) <|
  zm_ac trivial <|
  zm_ac trivial <|
  zm_ac trivial <|
  zm_ac zk_get_NameTreeModel_20 <|
  zm_ac trivial <|
  zm_ac zk_get_NameTreeModel_93 <|
  zm_ac trivial <|
  zm_ac trivial <|
  zm_ac (zm_jp rfl) <|
  zm_ac trivial <|
  zm_ac trivial <|
  zm_ac trivial <|
  zm_ac trivial <|
  zm_ac zk_get_NameTreeModel_93 <|
  zm_ac ⟨zk_virt_NameTreeModel_84, by decide, by decide⟩ <|
  zm_ac (zm_jp rfl) <|
  zm_ac trivial <|
  zm_ac trivial <|
  zm_ac trivial <|
  zm_ac trivial <|
  zm_ac trivial <|
  zm_ac zk_get_NameTreeModel_75 <|
  zm_ac trivial <|
  zm_ac zk_get_NameTreeModel_81 <|
  zm_ac trivial <|
  zm_ac zk_get_NameTreeModel_78 <|
  zm_ac ⟨zk_virt_NameTreeModel_107, by decide, by decide⟩ <|
  zm_ac ⟨zk_virt_NameTreeModel_139, by decide, by decide⟩ <|
  zm_ac trivial <|
  zm_ac zk_get_NameTreeModel_93 <|
  zm_ac trivial <|
  zm_an
set_option maxRecDepth 100000 in
set_option maxHeartbeats 4000000 in
theorem zs_100 : ∀ q ∈ zc100, zm_rs 100 q.1 q.2.1 q.2.2.2.1 q.2.2.2.2.1 q.2.2.2.2.2 :=
  zm_ac trivial <|
  zm_ac trivial <|
  zm_ac trivial <|
  zm_ac trivial <|
  zm_ac (zm_jp rfl) <|
  zm_ac trivial <|
  zm_ac trivial <|
  zm_ac (zm_jp rfl) <|
  zm_ac trivial <|
  zm_ac trivial <|
  zm_ac ⟨zk_virt_NameTreeModel_104, by decide, by decide⟩ <|
  zm_ac trivial <|
  zm_ac (zm_jp rfl) <|
  zm_ac trivial <|
  zm_ac trivial <|
  zm_ac (zm_jp rfl) <|
  zm_ac trivial <|
  zm_ac (zm_jp rfl) <|
  zm_ac trivial <|
  zm_ac trivial <|
  zm_an
set_option maxRecDepth 100000 in
set_option maxHeartbeats 4000000 in
theorem zs_101 : ∀ q ∈ zc101, zm_rs 101 q.1 q.2.1 q.2.2.2.1 q.2.2.2.2.1 q.2.2.2.2.2 :=
  zm_ac trivial <|
  zm_ac ⟨zk_virt_NameTreeModel_130, by decide, by decide⟩ <|
  zm_ac trivial <|
  zm_ac trivial <|
  zm_ac (zm_jp rfl) <|
  zm_ac trivial <|
  zm_ac trivial <|
  zm_ac trivial <|
  zm_ac trivial <|
  zm_ac trivial <|
  zm_ac ⟨zk_virt_NameTreeModel_133, by decide, by decide⟩ <|
  zm_ac trivial <|
  zm_ac trivial <|
  zm_ac (zm_jp rfl) <|
  zm_ac trivial <|
  zm_ac trivial <|
  zm_ac trivial <|
  zm_ac zk_get_NameTreeModel_93 <|
  zm_ac trivial <|
  zm_ac trivial <|
  zm_ac (zm_jp rfl) <|
  zm_ac trivial <|
  zm_ac (zm_jp rfl) <|
  zm_ac trivial <|
  zm_ac trivial <|
  zm_ac zk_get_NameTreeModel_75 <|
  zm_ac trivial <|
  zm_ac zk_get_NameTreeModel_81 <|
  zm_ac trivial <|
  zm_ac zk_get_NameTreeModel_78 <|
  zm_ac ⟨zk_virt_NameTreeModel_107, by decide, by decide⟩ <|
  zm_ac trivial <|
  zm_ac trivial <|
  zm_ac trivial <|
  zm_ac trivial <|
  zm_ac trivial <|
  zm_ac trivial <|
  zm_ac zk_get_NameTreeModel_58 <|
  zm_ac trivial <|
  zm_ac trivial <|
  zm_ac trivial <|
  zm_ac trivial <|
  zm_ac ⟨zk_virt_NameTreeModel_133, by decide, by decide⟩ <|
  zm_ac trivial <|
  zm_ac trivial <|
  zm_ac (zm_jp rfl) <|
  zm_ac trivial <|
  zm_ac trivial <|
  zm_ac trivial <|
  zm_ac (zm_jp rfl) <|
  zm_ac trivial <|
  zm_ac trivial <|
  zm_ac trivial <|
  zm_ac zk_get_NameTreeModel_93 <|
  zm_ac trivial <|
  zm_ac (zm_jp rfl) <|
  zm_ac trivial <|
  zm_ac trivial <|
  zm_ac trivial <|
  zm_ac zk_get_NameTreeModel_20 <|
  zm_ac trivial <|
  zm_ac trivial <|
  zm_ac trivial <|
  zm_ac (zm_jp rfl) <|
  zm_ac trivial <|
  zm_ac (zm_jp rfl) <|
  zm_ac trivial <|
  zm_ac trivial <|
  zm_ac trivial <|
  zm_ac (zm_jp rfl) <|
  zm_ac trivial <|
  zm_ac trivial <|
  zm_ac zk_get_NameTreeModel_75 <|
  zm_ac trivial <|
  zm_ac ⟨zk_virt_NameTreeModel_142, by decide, by decide⟩ <|
  zm_ac (zm_jp rfl) <|
  zm_ac trivial <|
  zm_ac trivial <|
  zm_ac trivial <|
  zm_ac zk_get_NameTreeModel_93 <|
  zm_ac (zm_jp rfl) <|
  zm_ac trivial <|
  zm_ac zk_get_NameTreeModel_20 <|
  zm_ac trivial <|
  zm_ac zk_get_NameTreeModel_93 <|
  zm_ac trivial <|
  zm_ac trivial <|
  zm_ac (zm_jp rfl) <|
  zm_ac trivial <|
  zm_ac (zm_jp rfl) <|
  zm_ac trivial <|
  zm_ac trivial <|
  zm_ac trivial <|
  zm_ac zk_get_NameTreeModel_93 <|
  zm_ac (zm_jp rfl) <|
  zm_ac trivial <|
  zm_ac (zm_jp rfl) <|
  zm_ac trivial <|
  zm_ac (zm_jp rfl) <|
  zm_ac trivial <|
  zm_ac trivial <|
  zm_ac trivial <|
  zm_ac (zm_jp rfl) <|
  zm_ac trivial <|
  zm_ac (zm_jp rfl) <|
  zm_ac trivial <|
  zm_ac trivial <|
  zm_ac trivial <|
  zm_ac (zm_jp rfl) <|
  zm_ac trivial <|
  zm_ac trivial <|
  zm_ac zk_get_NameTreeModel_93 <|
  zm_ac ⟨zk_virt_NameTreeModel_84, by decide, by decide⟩ <|
  zm_ac (zm_jp rfl) <|
  zm_ac trivial <|
  zm_ac trivial <|
  zm_ac trivial <|
  zm_ac zk_get_NameTreeModel_93 <|
  zm_ac (zm_jp rfl) <|
  zm_ac trivial <|
  zm_ac trivial <|
  zm_ac zk_get_NameTreeModel_93 <|
  zm_ac ⟨zk_virt_NameTreeModel_87, by decide, by decide⟩ <|
  zm_ac trivial <|
  zm_ac (zm_jp rfl) <|
  zm_ac trivial <|
  zm_ac zk_get_NameTreeModel_26 <|
  zm_ac trivial <|
  zm_ac zk_get_NameTreeModel_93 <|
  zm_ac trivial <|
  zm_ac (zm_jp rfl) <|
  zm_ac trivial <|
  zm_ac (zm_jp rfl) <|
  zm_ac trivial <|
  zm_ac trivial <|
  zm_ac trivial <|
  zm_ac trivial <|
  zm_ac zk_get_NameTreeModel_75 <|
  zm_ac ⟨zk_virt_NameTreeModel_84, by decide, by decide⟩ <|
  zm_ac trivial <|
  zm_ac trivial <|
  zm_ac trivial <|
  zm_ac zk_get_NameTreeModel_37 <|
  zm_ac trivial <|
  zm_ac trivial <|
  zm_ac trivial <|
  zm_ac zk_get_NameTreeModel_75 <|
  zm_ac (zm_jp rfl) <|
  zm_ac trivial <|
  zm_ac (zm_jp rfl) <|
  zm_ac trivial <|
  zm_ac trivial <|
  zm_ac trivial <|
  zm_ac zk_get_NameTreeModel_93 <|
  zm_ac (zm_jp rfl) <|
  zm_ac trivial <|
  zm_ac (zm_jp rfl) <|
  zm_ac trivial <|
  zm_ac trivial <|
  zm_ac trivial <|
  zm_ac trivial <|
  zm_ac ⟨zk_virt_NameTreeModel_119, by decide, by decide⟩ <|
  zm_ac trivial <|
  zm_ac (zm_jp rfl) <|
  zm_ac trivial <|
  zm_ac trivial <|
  zm_ac zk_get_NameTreeModel_93 <|
  zm_ac ⟨zk_virt_NameTreeModel_65, by decide, by decide⟩ <|
  zm_ac (zm_jp rfl) <|
  zm_ac trivial <|
  zm_ac trivial <|
  zm_ac trivial <|
  zm_ac trivial <|
  zm_ac zk_get_NameTreeModel_75 <|
  zm_ac trivial <|
  zm_ac ⟨zk_virt_NameTreeModel_123, by decide, by decide⟩ <|
  zm_ac trivial <|
  zm_ac trivial <|
  zm_ac zk_get_NameTreeModel_7 <|
  zm_ac (zm_jp rfl) <|
  zm_ac trivial <|
  zm_ac trivial <|
  zm_ac trivial <|
  zm_ac zk_get_NameTreeModel_26 <|
  zm_ac trivial <|
  zm_ac trivial <|
  zm_ac trivial <|
  zm_ac trivial <|
  zm_ac trivial <|
  zm_ac trivial <|
  zm_ac trivial <|
  zm_ac trivial <|
  zm_ac ⟨zk_virt_NameTreeModel_139, by decide, by decide⟩ <|
  zm_ac trivial <|
  zm_ac zk_get_NameTreeModel_93 <|
  zm_ac (zm_jp rfl) <|
  zm_ac trivial <|
  zm_ac trivial <|
  zm_ac trivial <|
  zm_ac zk_get_NameTreeModel_75 <|
  zm_ac trivial <|
  zm_ac zk_get_NameTreeModel_81 <|
  zm_ac trivial <|
  zm_ac zk_get_NameTreeModel_78 <|
  zm_ac ⟨zk_virt_NameTreeModel_107, by decide, by decide⟩ <|
  zm_ac ⟨zk_virt_NameTreeModel_139, by decide, by decide⟩ <|
  zm_ac trivial <|
  zm_ac zk_get_NameTreeModel_26 <|
  zm_ac trivial <|
  zm_ac trivial <|
  zm_ac trivial <|
  zm_ac trivial <|
  zm_ac trivial <|
  zm_ac trivial <|
  zm_ac trivial <|
  zm_ac trivial <|
  zm_ac ⟨zk_virt_NameTreeModel_127, by decide, by decide⟩ <|
  zm_ac trivial <|
  zm_ac trivial <|
  zm_an
set_option maxRecDepth 100000 in
set_option maxHeartbeats 4000000 in
theorem zs_102 : ∀ q ∈ zc102, zm_rs 102 q.1 q.2.1 q.2.2.2.1 q.2.2.2.2.1 q.2.2.2.2.2 :=
  zm_ac trivial <|
  zm_ac ⟨zk_virt_NameTreeModel_130, by decide, by decide⟩ <|
  zm_ac trivial <|
  zm_ac trivial <|
  zm_ac trivial <|
  zm_ac (zm_jp rfl) <|
  zm_ac trivial <|
  zm_ac trivial <|
  zm_ac trivial <|
  zm_ac trivial <|
  zm_ac trivial <|
  zm_ac zk_get_NameTreeModel_58 <|
  zm_ac trivial <|
  zm_ac ⟨zk_virt_NameTreeModel_115, by decide, by decide⟩ <|
  zm_ac trivial <|
  zm_ac trivial <|
  zm_ac (zm_jp rfl) <|
  zm_ac trivial <|
  zm_ac (zm_jp rfl) <|
  zm_ac trivial <|
  zm_ac zk_get_NameTreeModel_93 <|
  zm_ac (zm_jp rfl) <|
  zm_ac trivial <|
  zm_ac (zm_jp rfl) <|
  zm_ac trivial <|
  zm_ac zk_get_NameTreeModel_93 <|
  zm_ac trivial <|
  zm_an
set_option maxRecDepth 100000 in
set_option maxHeartbeats 4000000 in
theorem zs_103 : ∀ q ∈ zc103, zm_rs 103 q.1 q.2.1 q.2.2.2.1 q.2.2.2.2.1 q.2.2.2.2.2 :=
  zm_ac trivial <|
  zm_ac ⟨zk_virt_NameTreeModel_130, by decide, by decide⟩ <|
  zm_ac trivial <|
  zm_ac trivial <|
  zm_ac trivial <|
  zm_ac (zm_jp rfl) <|
  zm_ac trivial <|
  zm_ac trivial <|
  zm_ac trivial <|
  zm_ac trivial <|
  zm_ac trivial <|
  zm_ac zk_get_NameTreeModel_58 <|
  zm_ac trivial <|
  zm_ac ⟨zk_virt_NameTreeModel_115, by decide, by decide⟩ <|
  zm_ac trivial <|
  zm_ac trivial <|
  zm_ac (zm_jp rfl) <|
  zm_ac trivial <|
  zm_ac trivial <|
  zm_ac trivial <|
  zm_ac zk_get_NameTreeModel_93 <|
  zm_ac (zm_jp rfl) <|
  zm_ac trivial <|
  zm_ac trivial <|
  zm_ac trivial <|
  zm_ac zk_get_NameTreeModel_20 <|
  zm_ac trivial <|
  zm_ac zk_get_NameTreeModel_93 <|
  zm_ac trivial <|
  zm_ac trivial <|
  zm_ac (zm_jp rfl) <|
  zm_ac trivial <|
  zm_ac zk_get_NameTreeModel_26 <|
  zm_ac trivial <|
  zm_ac zk_get_NameTreeModel_93 <|
  zm_ac trivial <|
  zm_ac trivial <|
  zm_ac (zm_jp rfl) <|
  zm_ac trivial <|
  zm_ac trivial <|
  zm_ac trivial <|
  zm_ac zk_get_NameTreeModel_26 <|
  zm_ac trivial <|
  zm_ac zk_get_NameTreeModel_93 <|
  zm_ac trivial <|
  zm_ac trivial <|
  zm_ac trivial <|
  zm_ac trivial <|
  zm_ac trivial <|
  zm_ac trivial <|
  zm_ac zk_get_NameTreeModel_93 <|
  zm_ac trivial <|
  zm_an
set_option maxRecDepth 100000 in
set_option maxHeartbeats 4000000 in
theorem zs_104 : ∀ q ∈ zc104, zm_rs 104 q.1 q.2.1 q.2.2.2.1 q.2.2.2.2.1 q.2.2.2.2.2 :=
  zm_ac trivial <|
  zm_ac trivial <|
  zm_ac (zm_jp rfl) <|
  zm_ac trivial <|
  zm_ac trivial <|
  zm_ac (zm_jp rfl) <|
  zm_ac trivial <|
  zm_ac zk_get_NameTreeModel_20 <|
  zm_ac trivial <|
  zm_ac trivial <|
  zm_ac (zm_jp rfl) <|
  zm_ac trivial <|
  zm_ac (zm_jp rfl) <|
  zm_ac trivial <|
  zm_ac trivial <|
  zm_an
set_option maxRecDepth 100000 in
set_option maxHeartbeats 4000000 in
theorem zs_105 : ∀ q ∈ zc105, zm_rs 105 q.1 q.2.1 q.2.2.2.1 q.2.2.2.2.1 q.2.2.2.2.2 :=
  zm_ac trivial <|
  zm_ac trivial <|
  zm_ac ⟨zk_virt_NameTreeModel_146, by decide, by decide⟩ <|
  zm_ac (zm_jp rfl) <|
  zm_ac trivial <|
  zm_ac zk_get_NameTreeModel_26 <|
  zm_ac trivial <|
  zm_ac trivial <|
  zm_ac (zm_jp rfl) <|
  zm_ac trivial <|
  zm_ac trivial <|
  zm_ac trivial <|
  zm_ac zk_get_NameTreeModel_26 <|
  zm_ac trivial <|
  zm_ac trivial <|
  zm_ac trivial <|
  zm_ac trivial <|
  zm_ac trivial <|
  zm_ac trivial <|
  zm_ac trivial <|
  zm_ac trivial <|
  zm_ac ⟨zk_virt_NameTreeModel_87, by decide, by decide⟩ <|
  zm_ac trivial <|
  zm_ac trivial <|
  zm_ac (zm_jp rfl) <|
  zm_ac trivial <|
  zm_ac zk_get_NameTreeModel_26 <|
  zm_ac trivial <|
  zm_ac trivial <|
  zm_ac (zm_jp rfl) <|
  zm_ac trivial <|
  zm_ac zk_get_NameTreeModel_20 <|
  zm_ac trivial <|
  zm_ac trivial <|
  zm_ac trivial <|
  zm_ac trivial <|
  zm_ac trivial <|
  zm_an
set_option maxRecDepth 100000 in
set_option maxHeartbeats 4000000 in
theorem zs_106 : ∀ q ∈ zc106, zm_rs 106 q.1 q.2.1 q.2.2.2.1 q.2.2.2.2.1 q.2.2.2.2.2 :=
  zm_ac trivial <|
  zm_ac trivial <|
  zm_ac trivial <|
  zm_ac trivial <|
  zm_ac trivial <|
  zm_ac trivial <|
  zm_ac zk_get_NameTreeModel_68 <|
  zm_ac (zm_jp rfl) <|
  zm_ac trivial <|
  zm_ac trivial <|
  zm_ac zk_get_NameTreeModel_37 <|
  zm_ac trivial <|
  zm_ac trivial <|
  zm_ac trivial <|
  zm_ac (zm_jp rfl) <|
  zm_ac trivial <|
  zm_ac zk_get_NameTreeModel_20 <|
  zm_ac trivial <|
  zm_ac zk_get_NameTreeModel_40 <|
  zm_ac trivial <|
  zm_ac trivial <|
  zm_ac trivial <|
  zm_ac trivial <|
  zm_ac (zm_jp rfl) <|
  zm_ac trivial <|
  zm_ac (zm_jp rfl) <|
  zm_ac trivial <|
  zm_ac trivial <|
  zm_ac trivial <|
  zm_ac trivial <|
  zm_ac (zm_jp rfl) <|
  zm_ac trivial <|
  zm_ac trivial <|
  zm_an
set_option maxRecDepth 100000 in
set_option maxHeartbeats 4000000 in
theorem zs_107 : ∀ q ∈ zc107, zm_rs 107 q.1 q.2.1 q.2.2.2.1 q.2.2.2.2.1 q.2.2.2.2.2 :=
  zm_ac trivial <|
  zm_ac trivial <|
  zm_ac ⟨zk_virt_NameTreeModel_146, by decide, by decide⟩ <|
  zm_ac (zm_jp rfl) <|
  zm_ac trivial <|
  zm_ac (zm_jp rfl) <|
  zm_ac trivial <|
  zm_ac trivial <|
  zm_ac (zm_jp rfl) <|
  zm_ac trivial <|
  zm_ac trivial <|
  zm_ac trivial <|
  zm_ac zk_get_NameTreeModel_20 <|
  zm_ac trivial <|
  zm_ac trivial <|
  zm_ac trivial <|
  zm_ac (zm_jp rfl) <|
  zm_ac trivial <|
  zm_ac (zm_jp rfl) <|
  zm_ac trivial <|
  zm_ac trivial <|
  zm_ac trivial <|
  zm_ac (zm_tsw (by decide) (by decide) (by decide) (by decide)) <|
  zm_ac trivial <|
  zm_ac zk_get_NameTreeModel_20 <|
  zm_ac trivial <|
  zm_ac trivial <|
  zm_ac trivial <|
  zm_ac trivial <|
  zm_ac (zm_jp rfl) <|
  zm_ac trivial <|
  zm_ac trivial <|
  zm_ac trivial <|
  zm_ac ⟨zk_virt_NameTreeModel_150, by decide, by decide⟩ <|
  zm_ac trivial <|
  zm_ac (zm_jp rfl) <|
  zm_ac trivial <|
  zm_ac trivial <|
  zm_ac ⟨zk_virt_NameTreeModel_87, by decide, by decide⟩ <|
  zm_ac trivial <|
  zm_ac trivial <|
  zm_ac (zm_jp rfl) <|
  zm_ac trivial <|
  zm_ac trivial <|
  zm_ac ⟨zk_virt_NameTreeModel_84, by decide, by decide⟩ <|
  zm_ac (zm_jp rfl) <|
  zm_ac trivial <|
  zm_ac zk_get_NameTreeModel_20 <|
  zm_ac trivial <|
  zm_ac trivial <|
  zm_ac trivial <|
  zm_ac (zm_jp rfl) <|
  zm_ac trivial <|
  zm_ac zk_get_NameTreeModel_29 <|
  zm_ac trivial <|
  zm_ac trivial <|
  zm_ac (zm_jp rfl) <|
  zm_ac trivial <|
  zm_ac zk_get_NameTreeModel_26 <|
  zm_ac trivial <|
  zm_ac trivial <|
  zm_ac trivial <|
  zm_ac trivial <|
  zm_ac trivial <|
  zm_ac ⟨zk_virt_NameTreeModel_65, by decide, by decide⟩ <|
  zm_ac trivial <|
  zm_ac trivial <|
  zm_ac (zm_jp rfl) <|
  zm_ac trivial <|
  zm_ac trivial <|
  zm_ac ⟨zk_virt_NameTreeModel_104, by decide, by decide⟩ <|
  zm_ac (zm_jp rfl) <|
  zm_ac trivial <|
  zm_ac trivial <|
  zm_an
set_option maxRecDepth 100000 in
set_option maxHeartbeats 4000000 in
theorem zs_108 : ∀ q ∈ zc108, zm_rs 108 q.1 q.2.1 q.2.2.2.1 q.2.2.2.2.1 q.2.2.2.2.2 :=
  zm_ac trivial <|
  zm_ac trivial <|
  zm_ac ⟨zk_virt_NameTreeModel_146, by decide, by decide⟩ <|
  zm_ac (zm_jp rfl) <|
  zm_ac trivial <|
  zm_ac zk_get_NameTreeModel_20 <|
  zm_ac trivial <|
  zm_ac trivial <|
  zm_ac trivial <|
  zm_ac (zm_jp rfl) <|
  zm_ac trivial <|
  zm_ac (zm_jp rfl) <|
  zm_ac trivial <|
  zm_ac trivial <|
  zm_ac zk_get_NameTreeModel_29 <|
  zm_ac trivial <|
  zm_ac trivial <|
  zm_ac (zm_jp rfl) <|
  zm_ac trivial <|
  zm_ac (zm_jp rfl) <|
  zm_ac trivial <|
  zm_ac zk_get_NameTreeModel_33 <|
  zm_ac trivial <|
  zm_ac trivial <|
  zm_ac trivial <|
  zm_ac trivial <|
  zm_ac trivial <|
  zm_ac trivial <|
  zm_ac trivial <|
  zm_ac trivial <|
  zm_ac trivial <|
  zm_an
set_option maxRecDepth 100000 in
set_option maxHeartbeats 4000000 in
theorem zs_109 : ∀ q ∈ zc109, zm_rs 109 q.1 q.2.1 q.2.2.2.1 q.2.2.2.2.1 q.2.2.2.2.2 :=
  zm_ac trivial <|
  zm_ac (zm_jp rfl) <|
  zm_ac trivial <|
  zm_ac ⟨zk_virt_NameTreeModel_153, by decide, by decide⟩ <|
  zm_ac (zm_jp rfl) <|
  zm_ac trivial <|
  zm_ac trivial <|
  zm_ac (zm_jp rfl) <|
  zm_ac trivial <|
  zm_ac zk_get_NameTreeModel_68 <|
  zm_ac (zm_jp rfl) <|
  zm_ac trivial <|
  zm_ac trivial <|
  zm_ac (zm_jp rfl) <|
  zm_ac trivial <|
  zm_ac zk_get_NameTreeModel_53 <|
  zm_ac (zm_jp rfl) <|
  zm_ac trivial <|
  zm_ac trivial <|
  zm_ac (zm_jp rfl) <|
  zm_ac trivial <|
  zm_ac ⟨zk_virt_NameTreeModel_119, by decide, by decide⟩ <|
  zm_ac (zm_jp rfl) <|
  zm_ac trivial <|
  zm_ac trivial <|
  zm_an
end
section
theorem zt_plain (x : Nat) : plainName (zt_nm x).cls = true := by
  have hall : ∀ m ∈ zt_nm_l, plainName m.cls = true := by decide +kernel
  unfold zt_nm
  rw [List.getD_eq_getElem?_getD]
  cases hx : zt_nm_l[x]? with
  | none => decide +kernel
  | some m => exact hall m (List.mem_of_getElem? hx)
theorem zt_cod_out (k : Nat) : zt_cod (k + 110) = [] := by
  unfold zt_cod
  rw [List.getD_eq_getElem?_getD, List.getElem?_eq_none (show zt_cod_l.length ≤ k + 110 from Nat.le_add_left _ _)]
  rfl
set_option maxRecDepth 100000 in
set_option maxHeartbeats 4000000 in
theorem zt_ok (M pc : Nat) (E : zm_E) (h : zt_code M pc = some E) : zm_ok M pc E := by
  match M, h with
  | 0, h => exact zm_okl rfl h ze_0 zs_0
  | 1, h => exact zm_okl rfl h ze_1 zs_1
  | 2, h => exact zm_okl rfl h ze_2 zs_2
  | 3, h => exact zm_okl rfl h ze_3 zs_3
  | 4, h => exact zm_okl rfl h ze_4 zs_4
  | 5, h => exact zm_okl rfl h ze_5 zs_5
  | 6, h => exact zm_okl rfl h ze_6 zs_6
  | 7, h => exact zm_okl rfl h ze_7 zs_7
  | 8, h => exact zm_okl rfl h ze_8 zs_8
  | 9, h => exact zm_okl rfl h ze_9 zs_9
  | 10, h => exact zm_okl rfl h ze_10 zs_10
  | 11, h => exact zm_okl rfl h ze_11 zs_11
  | 12, h => exact zm_okl rfl h ze_12 zs_12
  | 13, h => exact zm_okl rfl h ze_13 zs_13
  | 14, h => exact zm_okl rfl h ze_14 zs_14
  | 15, h => exact zm_okl rfl h ze_15 zs_15
  | 16, h => exact zm_okl rfl h ze_16 zs_16
  | 17, h => exact zm_okl rfl h ze_17 zs_17
  | 18, h => exact zm_okl rfl h ze_18 zs_18
  | 19, h => exact zm_okl rfl h ze_19 zs_19
  | 20, h => exact zm_okl rfl h ze_20 zs_20
  | 21, h => exact zm_okl rfl h ze_21 zs_21
  | 22, h => exact zm_okl rfl h ze_22 zs_22
  | 23, h => exact zm_okl rfl h ze_23 zs_23
  | 24, h => exact zm_okl rfl h ze_24 zs_24
  | 25, h => exact zm_okl rfl h ze_25 zs_25
  | 26, h => exact zm_okl rfl h ze_26 zs_26
  | 27, h => exact zm_okl rfl h ze_27 zs_27
  | 28, h => exact zm_okl rfl h ze_28 zs_28
  | 29, h => exact zm_okl rfl h ze_29 zs_29
  | 30, h => exact zm_okl rfl h ze_30 zs_30
  | 31, h => exact zm_okl rfl h ze_31 zs_31
  | 32, h => exact zm_okl rfl h ze_32 zs_32
  | 33, h => exact zm_okl rfl h ze_33 zs_33
  | 34, h => exact zm_okl rfl h ze_34 zs_34
  | 35, h => exact zm_okl rfl h ze_35 zs_35
  | 36, h => exact zm_okl rfl h ze_36 zs_36
  | 37, h => exact zm_okl rfl h ze_37 zs_37
  | 38, h => exact zm_okl rfl h ze_38 zs_38
  | 39, h => exact zm_okl rfl h ze_39 zs_39
  | 40, h => exact zm_okl rfl h ze_40 zs_40
  | 41, h => exact zm_okl rfl h ze_41 zs_41
  | 42, h => exact zm_okl rfl h ze_42 zs_42
  | 43, h => exact zm_okl rfl h ze_43 zs_43
  | 44, h => exact zm_okl rfl h ze_44 zs_44
  | 45, h => exact zm_okl rfl h ze_45 zs_45
  | 46, h => exact zm_okl rfl h ze_46 zs_46
  | 47, h => exact zm_okl rfl h ze_47 zs_47
  | 48, h => exact zm_okl rfl h ze_48 zs_48
  | 49, h => exact zm_okl rfl h ze_49 zs_49
  | 50, h => exact zm_okl rfl h ze_50 zs_50
  | 51, h => exact zm_okl rfl h ze_51 zs_51
  | 52, h => exact zm_okl rfl h ze_52 zs_52
  | 53, h => exact zm_okl rfl h ze_53 zs_53
  | 54, h => exact zm_okl rfl h ze_54 zs_54
  | 55, h => exact zm_okl rfl h ze_55 zs_55
  | 56, h => exact zm_okl rfl h ze_56 zs_56
  | 57, h => exact zm_okl rfl h ze_57 zs_57
  | 58, h => exact zm_okl rfl h ze_58 zs_58
  | 59, h => exact zm_okl rfl h ze_59 zs_59
  | 60, h => exact zm_okl rfl h ze_60 zs_60
  | 61, h => exact zm_okl rfl h ze_61 zs_61
  | 62, h => exact zm_okl rfl h ze_62 zs_62
  | 63, h => exact zm_okl rfl h ze_63 zs_63
  | 64, h => exact zm_okl rfl h ze_64 zs_64
  | 65, h => exact zm_okl rfl h ze_65 zs_65
  | 66, h => exact zm_okl rfl h ze_66 zs_66
  | 67, h => exact zm_okl rfl h ze_67 zs_67
  | 68, h => exact zm_okl rfl h ze_68 zs_68
  | 69, h => exact zm_okl rfl h ze_69 zs_69
  | 70, h => exact zm_okl rfl h ze_70 zs_70
  | 71, h => exact zm_okl rfl h ze_71 zs_71
  | 72, h => exact zm_okl rfl h ze_72 zs_72
  | 73, h => exact zm_okl rfl h ze_73 zs_73
  | 74, h => exact zm_okl rfl h ze_74 zs_74
  | 75, h => exact zm_okl rfl h ze_75 zs_75
  | 76, h => exact zm_okl rfl h ze_76 zs_76
  | 77, h => exact zm_okl rfl h ze_77 zs_77
  | 78, h => exact zm_okl rfl h ze_78 zs_78
  | 79, h => exact zm_okl rfl h ze_79 zs_79
  | 80, h => exact zm_okl rfl h ze_80 zs_80
  | 81, h => exact zm_okl rfl h ze_81 zs_81
  | 82, h => exact zm_okl rfl h ze_82 zs_82
  | 83, h => exact zm_okl rfl h ze_83 zs_83
  | 84, h => exact zm_okl rfl h ze_84 zs_84
  | 85, h => exact zm_okl rfl h ze_85 zs_85
  | 86, h => exact zm_okl rfl h ze_86 zs_86
  | 87, h => exact zm_okl rfl h ze_87 zs_87
  | 88, h => exact zm_okl rfl h ze_88 zs_88
  | 89, h => exact zm_okl rfl h ze_89 zs_89
  | 90, h => exact zm_okl rfl h ze_90 zs_90
  | 91, h => exact zm_okl rfl h ze_91 zs_91
  | 92, h => exact zm_okl rfl h ze_92 zs_92
  | 93, h => exact zm_okl rfl h ze_93 zs_93
  | 94, h => exact zm_okl rfl h ze_94 zs_94
  | 95, h => exact zm_okl rfl h ze_95 zs_95
  | 96, h => exact zm_okl rfl h ze_96 zs_96
  | 97, h => exact zm_okl rfl h ze_97 zs_97
  | 98, h => exact zm_okl rfl h ze_98 zs_98
  | 99, h => exact zm_okl rfl h ze_99 zs_99
  | 100, h => exact zm_okl rfl h ze_100 zs_100
  | 101, h => exact zm_okl rfl h ze_101 zs_101
  | 102, h => exact zm_okl rfl h ze_102 zs_102
  | 103, h => exact zm_okl rfl h ze_103 zs_103
  | 104, h => exact zm_okl rfl h ze_104 zs_104
  | 105, h => exact zm_okl rfl h ze_105 zs_105
  | 106, h => exact zm_okl rfl h ze_106 zs_106
  | 107, h => exact zm_okl rfl h ze_107 zs_107
  | 108, h => exact zm_okl rfl h ze_108 zs_108
  | 109, h => exact zm_okl rfl h ze_109 zs_109
  | k + 110, h =>
    unfold zt_code at h
    rw [zt_cod_out] at h
    cases h
end
section
theorem zm_ro_of {t : Nat} (h : zm_ro t = true) : ∃ C, zt_at t = some (.object C) := by
  unfold zm_ro at h
  split at h
  · next C e => exact ⟨C, e⟩
  · cases h
theorem zm_tl {G : zm_G} {r1 : Option Value} : r1.toList.map (zm_cv G) = (r1.map (zm_cv G)).toList := by cases r1 <;> rfl
theorem zm_rfo {G : zm_G} {v : Value} (h : zm_isK 2 v = true) : ∃ o : Option Nat, zm_cv G v = va_rf o := by
  rcases zm_isK2 h with rfl | ⟨a, rfl⟩
  · exact ⟨none, rfl⟩
  · exact ⟨some (zm_ad G a), rfl⟩
theorem zm_ad_inj {G : zm_G} {s : State} {h : zm_H} {H : Heap} (hw : zm_wl G s h H) {a b : Nat} (e : zm_ad G a = zm_ad G b) : a = b := by
  have w3 := hw.2.2.1
  unfold zm_ad at e
  split at e <;> split at e <;> omega
theorem zm_rfo_eq {G : zm_G} {s : State} {h : zm_H} {H : Heap} (hw : zm_wl G s h H) {a b : Value} {ra rb : Option Nat} (ka : zm_isK 2 a = true) (kb : zm_isK 2 b = true) (ea : zm_cv G a = va_rf ra) (eb : zm_cv G b = va_rf rb) : ra = rb ↔ a = b := by
  rcases zm_isK2 ka with rfl | ⟨x, rfl⟩ <;> rcases zm_isK2 kb with rfl | ⟨y, rfl⟩ <;> cases ra <;> cases rb <;> simp only [zm_cv, va_rf] at ea eb <;> first | (cases ea; done) | (cases eb; done) | skip
  · exact ⟨fun _ => rfl, fun _ => rfl⟩
  · exact ⟨fun z => (by cases z), fun z => (by cases z)⟩
  · exact ⟨fun z => (by cases z), fun z => (by cases z)⟩
  · cases ea
    cases eb
    exact ⟨fun z => by rw [zm_ad_inj hw (Option.some.inj z)], fun z => by cases z; rfl⟩
def zm_rm (x mc ms : Nat) : Room := { frames := zt_fr x, cells := mc, slots := ms, locals := zt_lc x }
def zm_Pc (G : zm_G) (av : List Value) (h : zm_H) : Array Value → State → Prop := va_Pc (av.map (zm_cv G)) (fun U => zm_wl G U h U.heap ∧ zm_K G U)
def zm_Qc (G : zm_G) (r : Option Value) (h' : zm_H) : Array Value → State → Outcome → State → Prop := fun _ st oc t => oc = .returned (r.map (zm_cv G)) ∧ zm_wl G t h' t.heap ∧ va_F (zm_A G) st t
def zt_wsM (M : Nat) : List Jvm.Cond := Jvm.Cond.code (zt_nm M) (zt_by M) (zt_ml M) (zt_rt M) :: zt_ws
def zm_Cx (G : zm_G) (p : Program) (R : Room) (s : State) (m : MethodId) (args : Array Value) (meth : Method) (c : Code) (M : Nat) : Prop :=
  p.tables.exec = Jvm.exec ∧ c.code = zt_by M ∧ c.maxLocals = zt_ml M ∧ s.vm.findClass (zt_own M) = some m.cls ∧ (∀ w ∈ zt_ws, w.before args s = true) ∧ zm_K G s ∧ zt_fr M ≤ R.frames ∧ zt_lc M ≤ R.locals ∧ ((zt_nm M).name = "<init>" → meth.name = "<init>")
def zm_Dy (G : zm_G) (s : State) (h0 h : zm_H) (H : Heap) (locs : List Loc) (cells slots : Nat) : Prop := zm_wl G s h H ∧ va_S (zm_A G) s.heap H locs ∧ zm_nx h = zm_nx h0 + cells ∧ zm_sl h = zm_sl h0 + slots
theorem zm_fit_cv {G : zm_G} {ty : FieldType} {v : Value} (h : zm_fit ty v = true) : zm_fit ty (zm_cv G v) = true := by
  cases v <;> first | exact h | (cases ty <;> first | rfl | exact absurd h (by simp [zm_fit]))
section
variable {l : Launch} {G : zm_G} {p : Program} {e : Env} {R : Room} {s : State} {m : MethodId} {args : Array Value} {below : List Frame} {meth : Method} {c : Code} {Q : State → Prop} {M pc : Nat} {H : Heap} {locs : List Loc} {cells slots : Nat} {lsA : Array Slot} {h h0 : zm_H} {rest : List Value}
theorem zm_getf {idx x y a : Nat} (X : zm_Cx G p R s m args meth c M) (hrf : zm_rf (zt_own M) idx x y) (hi : zm_is h a x) (hw : zm_wl G s h H) (hdg : decode (zt_by M) pc = .ok (.getfield idx, 3)) (k0 : W p l e R s m args below meth c H locs cells slots Q (F0 m (pc + 3) lsA (zm_cv G (zm_at h a y) :: rest))) : W p l e R s m args below meth c H locs cells slots Q (F0 m pc lsA (.ref (zm_ad G a) :: rest)) := by
  obtain ⟨hx, hb, hml, hown, hts, hK, -, -, -⟩ := X
  obtain ⟨q, hq, hy, hlk⟩ := hrf
  obtain ⟨ha0, han, htg⟩ := hi
  obtain ⟨hx1, hin, hty, hnm⟩ := zt_cls_ok x q hq
  have hce := hw.2.2.2.2.2 a ha0 han
  obtain ⟨q', hq', cell, q1, q2, q3, q4⟩ := hce.1 (by rw [htg]; exact hx1)
  rw [htg] at hq' q4
  cases hq.symm.trans hq'
  obtain ⟨hS, hfc, kC, hkC, hkind⟩ := hK.1 x q hq
  obtain ⟨cf, kf, fi, f, hi, hsl⟩ := hS y hy
  have hst := (u_facts hfc hkC (u_lays hts hin hy) hi).1
  have hslot : cell.slots[f.slot]? = some (zm_cv G (zm_at h a y)) := by rw [hsl]; exact q4 y hy
  exact W.getf hx hb hown (hts _ hlk) hi hst q1 (by rw [q3]; exact fun z => by cases z) hslot rfl rfl hdg k0
theorem zm_putf {idx x y a : Nat} {v : Value} (X : zm_Cx G p R s m args meth c M) (hrp : zm_rp (zt_own M) (zt_nm M).name idx x y) (hi : zm_is h a x) (hfv : zm_fit (zt_ty x y) v = true) (hw : zm_wl G s h H) (hS0 : va_S (zm_A G) s.heap H locs) (hdg : decode (zt_by M) pc = .ok (.putfield idx, 3))
    (k0 : ∀ (H' : Heap) (locs' : List Loc), zm_wl G s (zm_put h a y v) H' → va_S (zm_A G) s.heap H' locs' → W p l e R s m args below meth c H' locs' cells slots Q (F0 m (pc + 3) lsA rest)) : W p l e R s m args below meth c H locs cells slots Q (F0 m pc lsA (zm_cv G v :: .ref (zm_ad G a) :: rest)) := by
  obtain ⟨hx, hb, hml, hown, hts, hK, -, -, hmn⟩ := X
  obtain ⟨q, hq, hy, hlk, hfl⟩ := hrp
  obtain ⟨ha0, han, htg⟩ := hi
  obtain ⟨hx1, hin, hty, hnm⟩ := zt_cls_ok x q hq
  have hce := hw.2.2.2.2.2 a ha0 han
  obtain ⟨q', hq', cell, q1, q2, q3, q4⟩ := hce.1 (by rw [htg]; exact hx1)
  rw [htg] at hq' q2 q4
  cases hq.symm.trans hq'
  have hap := va_apart (own := "") (D := (G.1, G.2.1)) (cl := zt_cl) (tys := []) (C := q.1) (T := q.2.1) (N := q.2.2) (ci := x) hts hin (zt_ty x) hty hnm ⟨hK.1, fun k z hz => by simp at hz⟩ hq
  obtain ⟨hS, hfc, kC, hkC, hkind⟩ := hK.1 x q hq
  obtain ⟨cf, kf, fi, f, hi, hsl⟩ := hS y hy
  have hst := (u_facts hfc hkC (u_lays hts hin hy) hi).1
  have hd := hty y hy
  obtain ⟨hn1, hf1⟩ := zm_fit_ok (zm_fit_cv (G := G) hfv)
  have hlay := hts _ (hin _ (u_in_lay hy))
  unfold u_lay at hlay
  have hlt : f.slot < cell.slots.size := by rw [hsl]; exact k2_hasslot (q4 y hy)
  have done : ∀ H' : Heap, H'[zm_ad G a]? = some (cell.setSlot f.slot (zm_cv G v)) → H'.size = H.size → (∀ q, q ≠ zm_ad G a → H'[q]? = H[q]?) → W p l e R s m args below meth c H' (locs ++ [⟨zm_ad G a, f.slot⟩]) cells slots Q (F0 m (pc + 3) lsA rest) := by
    intro H' e1 e2 e3
    refine k0 H' _ (zm_wl_upd hw ha0 rfl (fun _ => rfl) (fun _ => rfl) (fun b j hb => ?_) e2 e3 ?_) (hS0.put e2 e3 (zm_A_ad ha0))
    · show (if b = a ∧ j = y then v else zm_at h b j) = zm_at h b j
      rw [if_neg (fun z => hb z.1)]
    · refine ⟨fun _ => ⟨q, by show zt_cl[zm_tg h a]? = some q; rw [htg]; exact hq, ?_⟩, fun hl => absurd hl (by show ¬ 100 ≤ zm_tg h a; rw [htg]; omega)⟩
      show t_OB (zm_ad G a) (G.1 (zm_tg h a)) q.2.2 (G.2.1 (zm_tg h a)) H' (fun k => zm_cv G (zm_at (zm_put h a y v) a k))
      rw [htg]
      rw [hsl] at e1
      refine t_OB.to (V := updV (fun k => zm_cv G (zm_at h a k)) y (zm_cv G v)) ⟨_, e1, q2, q3, t_set q4 hap hy (zm_cv G v)⟩ (fun j _ => ?_)
      show (if j = y then zm_cv G v else zm_cv G (zm_at h a j)) = zm_cv G (if a = a ∧ j = y then v else zm_at h a j)
      by_cases hj : j = y
      · rw [if_pos hj, if_pos ⟨rfl, hj⟩]
      · rw [if_neg hj, if_neg (fun z => hj z.2)]
  rcases hfl with hfin | ⟨hfin, hin2, hdecl⟩
  · rw [if_neg (by rw [hfin]; decide)] at hlay
    exact W.putK hx hb (f := f) ⟨hown, hts _ hlk, ⟨_, _, _, hi⟩, hst⟩ (by rw [q2]; exact u_store hfc hkC hkind hlay hi hd hn1 hf1) q1 q3 hlt rfl rfl hdg done
  · rw [if_pos hfin] at hlay
    have hcf : m.cls = cf := by
      obtain ⟨_, _, c', _, _, _, -, -, hf', -, -, -, hown2, -⟩ := Cond.laysFinal_spec hlay
      have e1 : c' = cf := by have := hi.symm.trans hf'; simp at this; exact this.1.symm
      rw [hdecl] at hown2
      rw [← e1]; exact Option.some.inj (hown.symm.trans hown2)
    exact W.putFinK hx hb hown (hts _ hlk) hi hst hcf (hmn hin2) (by rw [q2]; exact u_fits hfc hkC hkind (Or.inr hlay) hi hd hn1 hf1) q1 q3 hlt rfl rfl hdg done
theorem zm_arr {a : Nat} {ty : FieldType} (hK : zm_K G s) (hw : zm_wl G s h H) (ha : a < zm_nx h) (ht : zt_at (zm_tg h a) = some ty) : ∃ cell : Cell, H[zm_ad G a]? = some cell ∧ s.isArrayOf cell ty ∧ cell.vm ≠ .unknown ∧ cell.slots.size = zm_ln h a ∧ ∀ j, j < zm_ln h a → cell.slots[j]? = some (zm_cv G (zm_at h a j)) := by
  by_cases h0 : a = 0
  · subst h0
    obtain ⟨-, -, -, w4, ⟨scr, e1, e2, e3, e4, e5⟩, -⟩ := hw
    rw [w4, zt_at_101] at ht
    cases ht
    exact ⟨scr, e1, e2, e3, e4, e5⟩
  · have hce := hw.2.2.2.2.2 a (by omega) ha
    refine ⟨_, hce.2 (zt_at_100 _ _ ht), (hK.2.1 _ _ ht).1 _ _, fun z => (by cases z), arrV_size _ _ _, fun j hj => arrV_read _ _ hj⟩
/-- a place of an array that has been written -/
theorem zm_wl_ast {a j : Nat} {v : Value} {H' : Heap} (hw : zm_wl G s h H) (ha0 : 0 < a) (han : a < zm_nx h) (ht : 100 ≤ zm_tg h a) (e1 : H'[zm_ad G a]? = some ((arrV (G.2.2.1 (zm_tg h a)) (zm_ln h a) (fun j => zm_cv G (zm_at h a j))).setSlot j (zm_cv G v))) (e2 : H'.size = H.size) (e3 : ∀ q, q ≠ zm_ad G a → H'[q]? = H[q]?) : zm_wl G s (zm_put h a j v) H' := by
  refine zm_wl_upd hw ha0 rfl (fun _ => rfl) (fun _ => rfl) (fun b i hb => ?_) e2 e3 ⟨fun hl => absurd hl (by show ¬ zm_tg h a < 100; omega), fun _ => ?_⟩
  · show (if b = a ∧ i = j then v else zm_at h b i) = zm_at h b i
    rw [if_neg (fun z => hb z.1)]
  · rw [e1, arrV_store]
    show some (arrV _ _ _) = some (arrV (G.2.2.1 (zm_tg h a)) (zm_ln h a) (fun i => zm_cv G (if a = a ∧ i = j then v else zm_at h a i)))
    congr 2
    funext i
    show (if i = j then zm_cv G v else zm_cv G (zm_at h a i)) = _
    by_cases hj : i = j
    · rw [if_pos hj, if_pos ⟨rfl, hj⟩]
    · rw [if_neg hj, if_neg (fun z => hj z.2)]
theorem zm_cv_df (ty : FieldType) : zm_cv G (defaultValue ty) = defaultValue ty := by cases ty <;> rfl
theorem zm_cv_zdf (t : Nat) : zm_cv G (zm_df t) = zm_df t := by
  unfold zm_df
  split
  · rfl
  · split <;> rfl
theorem zm_newc {idx x y : Nat} (X : zm_Cx G p R s m args meth c M) (hrs : zm_rnw (zt_own M) idx x y ∧ ∀ j, j < y → defaultValue (zt_ty x j) = zt_df x j) (hw : zm_wl G s h H) (hS0 : va_S (zm_A G) s.heap H locs) (hcells : cells + 1 ≤ R.cells) (hslots : slots + y ≤ R.slots) (hdg : decode (zt_by M) pc = .ok (.new idx, 3))
    (k0 : ∀ H' : Heap, zm_wl G s (zm_mk h x y (zt_df x)) H' → va_S (zm_A G) s.heap H' locs → W p l e R s m args below meth c H' locs (cells + 1) (slots + y) Q (F0 m (pc + 3) lsA (.ref (zm_ad G (zm_nx h)) :: rest))) : W p l e R s m args below meth c H locs cells slots Q (F0 m pc lsA rest) := by
  obtain ⟨hx, hb, hml, hown, hts, hK, -, -, hmn⟩ := X
  obtain ⟨⟨q, hq, hqy, h1, h2, h3⟩, hdf⟩ := hrs
  obtain ⟨hx1, hin, hty, hnm⟩ := zt_cls_ok x q hq
  have hKn := hK.1 x q hq
  have hnx : zm_ad G (zm_nx h) = H.size := by rw [zm_ad_pos hw.2.1]; exact hw.1.symm
  rw [hnx] at k0
  refine W.newcK hx hb hown (hts _ h1) (hts _ h2) (hts _ h3) rfl hdg hcells hslots hKn.2.1 rfl fun H' kC hkC e1 z1 o1 => ?_
  have t1 : zm_tg (zm_mk h x y (zt_df x)) (zm_nx h) = x := by simp [zm_tg, zm_mk, zm_nx]
  have t2 : ∀ j, zm_at (zm_mk h x y (zt_df x)) (zm_nx h) j = zt_df x j := fun j => by simp [zm_at, zm_mk, zm_nx]
  refine k0 H' (zm_wl_mk hw z1 o1 ⟨fun _ => ⟨q, by rw [t1]; exact hq, ?_⟩, fun hl => absurd hl (by rw [t1]; omega)⟩) ⟨Nat.le_trans hS0.1 (by omega), fun z g1 g2 => (o1 z (Nat.lt_of_lt_of_le g1 hS0.1)).trans (hS0.2.1 z g1 g2), hS0.2.2⟩
  rw [t1, hnx]
  refine (u_born (zt_ty x) hts hin hKn hkC e1 hty).to (fun j hj => ?_)
  rw [t2, ← hdf j (by omega), zm_cv_df]
theorem zm_newa {t : ArrayType} {x : Nat} {n : Int32} (X : zm_Cx G p R s m args meth c M) (hrs : 100 ≤ x ∧ x < 200 ∧ zt_at x = some (newarray.typeOf t) ∧ Jvm.Cond.arrayClass (newarray.typeOf t) ∈ zt_ws ∧ defaultValue (newarray.typeOf t) = zm_df x ∧ componentBytes (newarray.typeOf t) ≤ 8) (hn : ¬ n < 0) (hbig : n.toNatClampNeg ≤ 60000000) (hw : zm_wl G s h H) (hS0 : va_S (zm_A G) s.heap H locs) (hcells : cells + 1 ≤ R.cells) (hslots : slots + n.toNatClampNeg ≤ R.slots) (hdg : decode (zt_by M) pc = .ok (.newarray t, 2))
    (k0 : ∀ H' : Heap, zm_wl G s (zm_mk h x n.toNatClampNeg (fun _ => zm_df x)) H' → va_S (zm_A G) s.heap H' locs → W p l e R s m args below meth c H' locs (cells + 1) (slots + n.toNatClampNeg) Q (F0 m (pc + 2) lsA (.ref (zm_ad G (zm_nx h)) :: rest))) : W p l e R s m args below meth c H locs cells slots Q (F0 m pc lsA (.int n :: rest)) := by
  obtain ⟨hx, hb, hml, hown, hts, hK, -, -, hmn⟩ := X
  obtain ⟨g1, g2, g3, g4, g5, g6⟩ := hrs
  have hnx : zm_ad G (zm_nx h) = H.size := by rw [zm_ad_pos hw.2.1]; exact hw.1.symm
  rw [hnx] at k0
  refine va_newaK hx hb (hts _ g4) rfl hdg rfl hn rfl (by
    have : n.toNatClampNeg * componentBytes (newarray.typeOf t) ≤ 60000000 * 8 := Nat.mul_le_mul hbig g6
    omega) hcells hslots rfl fun H' cA e1 z1 o1 hAr hNm => ?_
  have hcA : cA = G.2.2.1 x := by
    have hRA := (hK.2.1 x _ g3).2
    have : s.vm.findClass ("[" ++ (newarray.typeOf t).toString) = some (G.2.2.1 x) := by cases t <;> exact hRA
    exact Option.some.inj (hNm.symm.trans this)
  subst hcA
  have t1 : zm_tg (zm_mk h x n.toNatClampNeg (fun _ => zm_df x)) (zm_nx h) = x := by simp [zm_tg, zm_mk, zm_nx]
  have t2 : ∀ j, zm_at (zm_mk h x n.toNatClampNeg (fun _ => zm_df x)) (zm_nx h) j = zm_df x := fun j => by simp [zm_at, zm_mk, zm_nx]
  have t3 : zm_ln (zm_mk h x n.toNatClampNeg (fun _ => zm_df x)) (zm_nx h) = n.toNatClampNeg := by simp [zm_ln, zm_mk, zm_nx]
  refine k0 H' (zm_wl_mk hw z1 o1 ⟨fun hl => absurd hl (by rw [t1]; omega), fun _ => ?_⟩) ⟨Nat.le_trans hS0.1 (by omega), fun z g1 g2 => (o1 z (Nat.lt_of_lt_of_le g1 hS0.1)).trans (hS0.2.1 z g1 g2), hS0.2.2⟩
  rw [t1, t3, hnx, e1]
  congr 2
  funext j
  rw [t2, zm_cv_zdf, g5]
theorem zm_newq {idx x : Nat} {n : Int32} (X : zm_Cx G p R s m args meth c M) (hrs : zm_ran (zt_own M) idx x) (hn : ¬ n < 0) (hbig : n.toNatClampNeg ≤ 60000000) (hw : zm_wl G s h H) (hS0 : va_S (zm_A G) s.heap H locs) (hcells : cells + 1 ≤ R.cells) (hslots : slots + n.toNatClampNeg ≤ R.slots) (hdg : decode (zt_by M) pc = .ok (.anewarray idx, 3))
    (k0 : ∀ H' : Heap, zm_wl G s (zm_mk h x n.toNatClampNeg (fun _ => zm_df x)) H' → va_S (zm_A G) s.heap H' locs → W p l e R s m args below meth c H' locs (cells + 1) (slots + n.toNatClampNeg) Q (F0 m (pc + 3) lsA (.ref (zm_ad G (zm_nx h)) :: rest))) : W p l e R s m args below meth c H locs cells slots Q (F0 m pc lsA (.int n :: rest)) := by
  obtain ⟨hx, hb, hml, hown, hts, hK, -, -, hmn⟩ := X
  obtain ⟨g1, C, g3, g4, g5⟩ := hrs
  have hnx : zm_ad G (zm_nx h) = H.size := by rw [zm_ad_pos hw.2.1]; exact hw.1.symm
  rw [hnx] at k0
  refine W.anew hx hb hown (hts _ g5) (va_AO.use (hK.2.2.1 C g4)) rfl hdg rfl hn (by omega) hcells hslots fun cA kA comp f1 f2 f3 f4 => ?_
  have hcA : cA = G.2.2.1 x := by
    obtain ⟨_, _, _, _, _, r4⟩ := (hK.2.1 x _ g3).2
    exact Option.some.inj (f1.symm.trans r4)
  subst hcA
  have t1 : zm_tg (zm_mk h x n.toNatClampNeg (fun _ => zm_df x)) (zm_nx h) = x := by simp [zm_tg, zm_mk, zm_nx]
  have t2 : ∀ j, zm_at (zm_mk h x n.toNatClampNeg (fun _ => zm_df x)) (zm_nx h) j = zm_df x := fun j => by simp [zm_at, zm_mk, zm_nx]
  have t3 : zm_ln (zm_mk h x n.toNatClampNeg (fun _ => zm_df x)) (zm_nx h) = n.toNatClampNeg := by simp [zm_ln, zm_mk, zm_nx]
  have t4 : zm_df x = .null := by unfold zm_df; rw [if_neg (by omega), if_neg (by omega)]
  have o1 : ∀ q : Nat, q < H.size → (H.push ({ cls := G.2.2.1 x, slots := Array.replicate n.toNatClampNeg .null, vm := .none } : Cell))[q]? = H[q]? := fun q hq => by rw [Array.getElem?_push, if_neg (Nat.ne_of_lt hq)]
  have z1 : (H.push ({ cls := G.2.2.1 x, slots := Array.replicate n.toNatClampNeg .null, vm := .none } : Cell)).size = H.size + 1 := by rw [Array.size_push]
  refine k0 _ (zm_wl_mk hw z1 o1 ⟨fun hl => absurd hl (by rw [t1]; omega), fun _ => ?_⟩) ⟨Nat.le_trans hS0.1 (by omega), fun z g1 g2 => (o1 z (Nat.lt_of_lt_of_le g1 hS0.1)).trans (hS0.2.1 z g1 g2), hS0.2.2⟩
  rw [t1, t3, hnx, Array.getElem?_push_size, arrV_new]
  congr 2
  funext j
  rw [t2, zm_cv_zdf, t4]
/-- behind a call -/
theorem zm_back {h1 : zm_H} {r1 : Option Value} {a : Array Value} {st0 : List Value} (hr : va_Run p l e R s m args below meth c H locs cells slots (zm_nx h1 - zm_nx h) (zm_sl h1 - zm_sl h) (F0 m pc lsA st0) rest (zm_Qc G r1 h1 a) (zm_A G)) (hd : zm_Dy G s h0 h H locs cells slots) (hm : zm_nx h ≤ zm_nx h1 ∧ zm_sl h ≤ zm_sl h1)
    (k0 : ∀ (H' : Heap) (locs' : List Loc), zm_Dy G s h0 h1 H' locs' (cells + (zm_nx h1 - zm_nx h)) (slots + (zm_sl h1 - zm_sl h)) → W p l e R s m args below meth c H' locs' (cells + (zm_nx h1 - zm_nx h)) (slots + (zm_sl h1 - zm_sl h)) Q (F0 m (pc + 3) lsA ((r1.map (zm_cv G)).toList ++ rest))) : W p l e R s m args below meth c H locs cells slots Q (F0 m pc lsA st0) := by
  intro T hT X
  obtain ⟨v, st₀, t, T', L, g0, X', hL, e1, e2, ⟨hv, hw, hF⟩, st⟩ := hr T hT X
  obtain ⟨d1, d2, d3, d4⟩ := hd
  have hv : v = r1.map (zm_cv G) := Outcome.returned.inj hv
  subst hv
  have al : t.vm.Alike s.vm := by rw [← e2]; exact X'.warmed.alike.symm
  have hw' : zm_wl G s h1 T'.heap := by rw [e1]; exact hw.moved al
  have hS' : va_S (zm_A G) s.heap T'.heap (locs ++ L) := by
    refine ⟨Nat.le_trans d2.1 (by rw [e1, ← g0]; exact hF.1), fun q g1 g2 => ?_, fun q hq => ?_⟩
    · rw [e1, hF.2 q (by rw [g0]; exact Nat.lt_of_lt_of_le g1 d2.1) g2, g0]
      exact d2.2.1 q g1 g2
    · rcases List.mem_append.mp hq with z | z
      · exact d2.2.2 q z
      · exact hL q z
  obtain ⟨t2, a1, b1⟩ := k0 T'.heap (locs ++ L) ⟨hw', hS', by omega, by omega⟩ T' rfl X'
  exact ⟨t2, st t2 a1, b1⟩
theorem zm_good {x : Nat} (hc : Jvm.Cond.code (zt_nm x) (zt_by x) (zt_ml x) (zt_rt x) ∈ zt_ws) : GoodIn zt_ws (zt_wsM x) := by
  intro w hw
  rcases List.mem_cons.mp hw with rfl | hw
  · exact ⟨hc, good_of_word rfl⟩
  · exact ⟨hw, good_of_word (List.mem_filter.mp hw).2⟩
theorem zm_blind {av : List Value} : FrameBlind (zm_Pc G av h) := fun a U g mk q => ⟨q.1, q.2.1.moved (U := U.calling g mk a) (Vm.Alike.refl U.vm), zm_K.same (U := U.calling g mk a) rfl q.2.2⟩
theorem zm_pre {av : List Value} {A0 : Array Value} (hw : zm_wl G s h H) (hK : zm_K G s) (e : A0 = (av.map (zm_cv G)).toArray) : ∀ U : State, U.heap = H → s.WarmedH U.vm → zm_Pc G av h A0 U := fun U hU hW => ⟨e, by rw [hU]; exact hw.moved hW.alike, hK.moved hW⟩
theorem zm_mid : ∀ (st : List Value) (y : Nat) (v : Value), st[y]? = some v → st = st.take y ++ v :: st.drop (y + 1)
  | [], _, _, h => by simp at h
  | a :: l, 0, v, h => by cases h; rfl
  | a :: l, y + 1, v, h => by
    have := zm_mid l y v h
    show a :: l = a :: (l.take y ++ v :: l.drop (y + 1))
    rw [← this]
theorem zm_arv {st : List Value} {y : Nat} {v : Value} (h : st[y]? = some v) : zm_ar (y + 1) st = v :: (st.take y).reverse := by
  unfold zm_ar
  have e : st.take (y + 1) = st.take y ++ [v] := by rw [List.take_succ, h]; rfl
  rw [e, List.reverse_append]
  rfl
theorem zm_sum : ∀ (t : List Value), (t.map fun v => v.category).sum ≤ 2 * t.length
  | [] => Nat.le_refl _
  | v :: t => by
    have := zm_sum t
    have h2 : v.category ≤ 2 := by rcases lv_cat v with h | h <;> omega
    simp only [List.map_cons, List.sum_cons, List.length_cons]
    omega
theorem zm_cB {idx x y mc ms : Nat} (X : zm_Cx G p R s m args meth c M) (hcd : zm_cd0 x y) (hroom : zt_fr x + 1 ≤ zt_fr M ∧ 8 + (zt_ml x + 11) + zt_lc x ≤ zt_lc M) (hl : Jvm.Cond.methodLink (zt_own M) idx (zt_nm x) ∈ zt_ws) : CallB R s args (zt_own M) idx (zt_nm x) (zt_by x) (zt_ml x) (zt_rt x) (zt_wsM x) (zm_rm x mc ms) mc ms y := by
  obtain ⟨hx, hb, hml, hown, hts, hK, hfr, hlo, hmn⟩ := X
  obtain ⟨c1, c2, c3, c4, c5⟩ := hcd
  refine ⟨rfl, rfl, Nat.le_trans hroom.1 hfr, Nat.le_trans hroom.2 hlo, pay_in hts (zm_good c1), List.mem_cons_self, hts _ c1, hts _ c2, c4, fun sig h => ?_, hts _ hl⟩
  rw [h] at c5
  exact (Option.some.inj c5).symm
theorem zm_cN {idx x y mc ms : Nat} {host : String} (X : zm_Cx G p R s m args meth c M) (hcd : zm_cd0 x y) (hroom : zt_fr x + 1 ≤ zt_fr M ∧ 8 + (zt_ml x + 11) + zt_lc x ≤ zt_lc M) (hl : (zt_own M, idx, zt_nm x, host) ∈ zt_nm2) : va_CN R s args (zt_own M) idx (zt_nm x) host (zt_by x) (zt_ml x) (zt_rt x) (zt_wsM x) (zm_rm x mc ms) mc ms y := by
  obtain ⟨hx, hb, hml, hown, hts, hK, hfr, hlo, hmn⟩ := X
  obtain ⟨c1, c2, c3, c4, c5⟩ := hcd
  refine ⟨⟨rfl, rfl, Nat.le_trans hroom.1 hfr, Nat.le_trans hroom.2 hlo, pay_in hts (zm_good c1), List.mem_cons_self⟩, hts _ c1, hts _ c2, c4, fun sig h => ?_, va_Nw.use rfl (hK.2.2.2 _ hl)⟩
  rw [h] at c5
  exact (Option.some.inj c5).symm
variable {st : List Value} {r1 : Option Value} {h1 : zm_H}
theorem zm_cS {idx x y mc ms : Nat} (X : zm_Cx G p R s m args meth c M) (hcd : zm_cd0 x y) (hroom : zt_fr x + 1 ≤ zt_fr M ∧ 8 + (zt_ml x + 11) + zt_lc x ≤ zt_lc M) (hlk : zm_lk (zt_own M) idx x) (hstt : Jvm.Cond.static (zt_nm x) ∈ zt_ws) (hM : Met l (zt_nm x) (zt_wsM x) (zm_rm x mc ms) (zm_Pc G (zm_ar y st) h) (zm_Qc G r1 h1) mc ms (zm_A G)) (hw : zm_wl G s h H) (hlen : y ≤ st.length) (h4 : (st.drop y).length ≤ 4) (hsz : lsA.size = zt_ml M) (hdg : decode (zt_by M) pc = .ok (.invokestatic idx, 3)) (hf : cells + mc ≤ R.cells ∧ slots + ms ≤ R.slots) :
    va_Run p l e R s m args below meth c H locs cells slots mc ms (F0 m pc lsA (st.map (zm_cv G))) ((st.drop y).map (zm_cv G)) (zm_Qc G r1 h1 ((zm_ar y st).map (zm_cv G)).toArray) (zm_A G) := by
  have X0 := X
  obtain ⟨hx, hb, hml, hown, hts, hK, hfr, hlo, hmn⟩ := X
  have hn : ((zm_ar y st).map (zm_cv G)).length = y := by simp [zm_ar]; omega
  have hstk : (F0 m pc lsA (st.map (zm_cv G))).stack = ((zm_ar y st).map (zm_cv G)).reverse ++ (st.drop y).map (zm_cv G) := by
    show st.map (zm_cv G) = _
    rw [zm_ar, ← List.map_reverse, List.reverse_reverse, ← List.map_append, List.take_append_drop]
  have hrm : 2 * (F0 m pc lsA (st.map (zm_cv G))).monitorRoom + (((st.drop y).map (zm_cv G)).map fun v => v.category).sum ≤ 8 := lv_room (Nat.le_trans (zm_sum _) (by rw [List.length_map]; omega))
  rcases hlk with hlk | ⟨host, hlk⟩
  · exact va_runS ⟨hx, hb, hml, hown, hts⟩ hM ⟨zm_cB X0 hcd hroom hlk, hts _ hstt⟩ ⟨zm_blind, zm_pre hw hK rfl⟩ rfl hn hsz hstk hrm hdg hf
  · exact va_runSN ⟨hx, hb, hml, hown, hts⟩ hM ⟨zm_cN X0 hcd hroom hlk, hts _ hstt, trivial⟩ ⟨zm_blind, zm_pre hw hK rfl⟩ rfl hn hsz hstk hrm hdg hf
theorem zm_cI {idx x y mc ms a : Nat} (X : zm_Cx G p R s m args meth c M) (hcd : zm_cd0 x y) (hroom : zt_fr x + 1 ≤ zt_fr M ∧ 8 + (zt_ml x + 11) + zt_lc x ≤ zt_lc M) (hlk : zm_lk (zt_own M) idx x) (hin : Jvm.Cond.instanceMethod (zt_nm x) ∈ zt_ws) (hy1 : (zt_nm x).name = "<init>") (hrt : zt_rt x = none) (ha : st[y]? = some (.ref a)) (hM : Met l (zt_nm x) (zt_wsM x) (zm_rm x mc ms) (zm_Pc G (zm_ar (y + 1) st) h) (zm_Qc G r1 h1) mc ms (zm_A G)) (hw : zm_wl G s h H) (h4 : (st.drop (y + 1)).length ≤ 4) (hsz : lsA.size = zt_ml M) (hdg : decode (zt_by M) pc = .ok (.invokespecial idx, 3)) (hf : cells + mc ≤ R.cells ∧ slots + ms ≤ R.slots) :
    va_Run p l e R s m args below meth c H locs cells slots mc ms (F0 m pc lsA (st.map (zm_cv G))) ((st.drop (y + 1)).map (zm_cv G)) (zm_Qc G r1 h1 (.ref (zm_ad G a) :: ((st.take y).reverse.map (zm_cv G))).toArray) (zm_A G) := by
  have X0 := X
  obtain ⟨hx, hb, hml, hown, hts, hK, hfr, hlo, hmn⟩ := X
  have hlt : y < st.length := (List.getElem?_eq_some_iff.mp ha).1
  have hn : ((st.take y).reverse.map (zm_cv G)).length = y := by simp; omega
  have hstk : (F0 m pc lsA (st.map (zm_cv G))).stack = ((st.take y).reverse.map (zm_cv G)).reverse ++ .ref (zm_ad G a) :: (st.drop (y + 1)).map (zm_cv G) := by
    show st.map (zm_cv G) = _
    conv => lhs; rw [zm_mid st y _ ha]
    rw [← List.map_reverse, List.reverse_reverse, List.map_append]
    rfl
  have hrm : 2 * (F0 m pc lsA (st.map (zm_cv G))).monitorRoom + (((st.drop (y + 1)).map (zm_cv G)).map fun v => v.category).sum ≤ 8 := lv_room (Nat.le_trans (zm_sum _) (by rw [List.length_map]; omega))
  have hpre : (Value.ref (zm_ad G a) :: ((st.take y).reverse.map (zm_cv G))).toArray = ((zm_ar (y + 1) st).map (zm_cv G)).toArray := by rw [zm_arv ha]; rfl
  have cB := fun hlk => zm_cB (mc := mc) (ms := ms) (idx := idx) X0 hcd hroom hlk
  have cN := fun host hlk => zm_cN (mc := mc) (ms := ms) (host := host) (idx := idx) X0 hcd hroom hlk
  rw [hrt] at cB cN
  rcases hlk with hlk | ⟨host, hlk⟩
  · exact va_runI ⟨hx, hb, hml, hown, hts⟩ hM ⟨cB hlk, hy1, hts _ hin⟩ ⟨zm_blind, zm_pre hw hK hpre⟩ rfl hn hsz hstk hrm hdg hf
  · exact va_runIN ⟨hx, hb, hml, hown, hts⟩ hM ⟨cN host hlk, hy1, hts _ hin⟩ ⟨zm_blind, zm_pre hw hK hpre⟩ rfl hn hsz hstk hrm hdg hf
theorem zm_cV {idx x y mc ms a : Nat} (X : zm_Cx G p R s m args meth c M) (hcd : zm_cd0 x y) (hroom : zt_fr x + 1 ≤ zt_fr M ∧ 8 + (zt_ml x + 11) + zt_lc x ≤ zt_lc M) (hlk : zm_lk (zt_own M) idx x) (hin : Jvm.Cond.instanceMethod (zt_nm x) ∈ zt_ws) (hse : Jvm.Cond.selects (zt_own x) (zt_nm x) (zt_nm x) ∈ zt_ws) (hmc : ∃ q : vw_C, zt_cl[zt_mc x]? = some q ∧ q.1 = zt_own x) (ha : st[y]? = some (.ref a)) (hia : zm_is h a (zt_mc x)) (hM : Met l (zt_nm x) (zt_wsM x) (zm_rm x mc ms) (zm_Pc G (zm_ar (y + 1) st) h) (zm_Qc G r1 h1) mc ms (zm_A G)) (hw : zm_wl G s h H) (h4 : (st.drop (y + 1)).length ≤ 4) (hsz : lsA.size = zt_ml M) (hdg : decode (zt_by M) pc = .ok (.invokevirtual idx, 3)) (hf : cells + mc ≤ R.cells ∧ slots + ms ≤ R.slots) :
    va_Run p l e R s m args below meth c H locs cells slots mc ms (F0 m pc lsA (st.map (zm_cv G))) ((st.drop (y + 1)).map (zm_cv G)) (zm_Qc G r1 h1 (.ref (zm_ad G a) :: ((st.take y).reverse.map (zm_cv G))).toArray) (zm_A G) := by
  have X0 := X
  obtain ⟨hx, hb, hml, hown, hts, hK, hfr, hlo, hmn⟩ := X
  have hlt : y < st.length := (List.getElem?_eq_some_iff.mp ha).1
  have hn : ((st.take y).reverse.map (zm_cv G)).length = y := by simp; omega
  have hstk : (F0 m pc lsA (st.map (zm_cv G))).stack = ((st.take y).reverse.map (zm_cv G)).reverse ++ .ref (zm_ad G a) :: (st.drop (y + 1)).map (zm_cv G) := by
    show st.map (zm_cv G) = _
    conv => lhs; rw [zm_mid st y _ ha]
    rw [← List.map_reverse, List.reverse_reverse, List.map_append]
    rfl
  have hrm : 2 * (F0 m pc lsA (st.map (zm_cv G))).monitorRoom + (((st.drop (y + 1)).map (zm_cv G)).map fun v => v.category).sum ≤ 8 := lv_room (Nat.le_trans (zm_sum _) (by rw [List.length_map]; omega))
  have hpre : (Value.ref (zm_ad G a) :: ((st.take y).reverse.map (zm_cv G))).toArray = ((zm_ar (y + 1) st).map (zm_cv G)).toArray := by rw [zm_arv ha]; rfl
  obtain ⟨q, hq, hqn⟩ := hmc
  obtain ⟨i1, i2, i3⟩ := hia
  have hrecv : ∃ cellB : Cell, H[zm_ad G a]? = some cellB ∧ cellB.vm.isStatics = false ∧ s.vm.findClass (zt_own x) = some cellB.cls := by
    obtain ⟨q', hq', cell, q1, q2, q3, -⟩ := (hw.2.2.2.2.2 a i1 i2).1 (by rw [i3]; exact (zt_cls_ok _ q hq).1)
    rw [i3] at q2
    exact ⟨cell, q1, by rw [q3]; rfl, by rw [q2, ← hqn]; exact (hK.1 _ q hq).2.1⟩
  rcases hlk with hlk | ⟨host, hlk⟩
  · exact va_runV ⟨hx, hb, hml, hown, hts⟩ hM ⟨zm_cB X0 hcd hroom hlk, hts _ hin, hts _ hse⟩ ⟨zm_blind, hrecv, zm_pre hw hK hpre⟩ rfl hn hsz hstk hrm hdg hf
  · exact va_runVN ⟨hx, hb, hml, hown, hts⟩ hM ⟨zm_cN X0 hcd hroom hlk, hts _ hin, hts _ hse⟩ ⟨zm_blind, hrecv, zm_pre hw hK hpre⟩ rfl hn hsz hstk hrm hdg hf
end
section
variable {l : Launch} {G : zm_G} {p : Program} {e : Env} {R : Room} {s : State} {m : MethodId} {args : Array Value} {below : List Frame} {meth : Method} {c : Code} {Q : State → Prop} {M pc : Nat} {H : Heap} {locs : List Loc} {cells slots : Nat} {lsA : Array Slot} {h h0 h' : zm_H} {rest : List Value}
theorem zm_nn {z : Int32} (hz : ¬ z < 0) : z.toInt = (z.toNatClampNeg : Int) := by
  have hz0 : (0 : Int) ≤ z.toInt := by
    have := Int32.not_lt.mp hz
    simpa using Int32.le_iff_toInt_le.mp this
  show z.toInt = ((z.toInt.toNat : Nat) : Int)
  omega
theorem zm_copy {idx a b : Nat} {sp dp n : Int32} (X : zm_Cx G p R s m args meth c M) (hl1 : Jvm.Cond.methodLink (zt_own M) idx arraycopyName ∈ zt_ws) (hl2 : Jvm.Cond.native arraycopyName ∈ zt_ws) (hl3 : Jvm.Cond.static arraycopyName ∈ zt_ws) (hl4 : Jvm.Cond.initialized "java/lang/System" ∈ zt_ws)
    (hia : zm_is h a 100) (hib : zm_is h b 100) (hro : 1 ≤ zt_fr M ∧ 26 ≤ zt_lc M) (h1 : ¬ sp < 0) (h2 : ¬ dp < 0) (h3 : ¬ n < 0) (h4 : sp.toNatClampNeg + n.toNatClampNeg ≤ zm_ln h a) (h5 : dp.toNatClampNeg + n.toNatClampNeg ≤ zm_ln h b) (hfv : ∀ i, i < n.toNatClampNeg → zm_fit .byte (zm_at h a (sp.toNatClampNeg + i)) = true)
    (hw : zm_wl G s h H) (hS : va_S (zm_A G) s.heap H locs) (hsz : lsA.size = zt_ml M) (hr : rest.length ≤ 4) (hdg : decode (zt_by M) pc = .ok (.invokestatic idx, 3))
    (k0 : ∀ (H' : Heap) (locs' : List Loc), zm_wl G s (zm_cp h a sp.toNatClampNeg b dp.toNatClampNeg n.toNatClampNeg) H' → va_S (zm_A G) s.heap H' locs' → W p l e R s m args below meth c H' locs' cells slots Q (F0 m (pc + 3) lsA rest)) : W p l e R s m args below meth c H locs cells slots Q (F0 m pc lsA (.int n :: .int dp :: .ref (zm_ad G b) :: .int sp :: .ref (zm_ad G a) :: rest)) := by
  obtain ⟨hx, hb, hml, hown, hts, hK, hfr, hlo, hmn⟩ := X
  obtain ⟨a1, a2, a3⟩ := hia
  obtain ⟨b1, b2, b3⟩ := hib
  have hca := (hw.2.2.2.2.2 a a1 a2).2 (by omega)
  have hcb := (hw.2.2.2.2.2 b b1 b2).2 (by omega)
  rw [a3] at hca
  rw [b3] at hcb
  obtain ⟨-, k0', hk0, cm0, hkk0⟩ := (hK.2.1 100 .byte zt_at_b).1 (zm_ln h a) (fun j => zm_cv G (zm_at h a j))
  have hsum : (rest.map fun v => v.category).sum ≤ 8 := Nat.le_trans (zm_sum _) (by omega)
  intro T hT XT
  obtain ⟨vm', X', step⟩ := XT.arraycopy hx hown (hts _ hl1) (hts _ hl2) (hts _ hl3) (hts _ hl4) (src := zm_ad G a) (dst := zm_ad G b) (cs := arrV (G.2.2.1 100) (zm_ln h a) (fun j => zm_cv G (zm_at h a j))) (cd := arrV (G.2.2.1 100) (zm_ln h b) (fun j => zm_cv G (zm_at h b j))) (srcPos := sp) (destPos := dp) (n := n) (by rw [hT]; exact hca) (by rw [hT]; exact hcb)
    (fun _ z => by cases z) (fun _ z => by cases z) (fun z => by cases z) (fun z => by cases z) hk0 hk0 hkk0 hkk0 (by decide) h1 h2 h3
    (by rw [zm_nn h1, zm_nn h3, arrV_size]; omega)
    (by rw [zm_nn h2, zm_nn h3, arrV_size]; omega)
    (fun vm₁ _ i hi => by
      have e : (arrV (G.2.2.1 100) (zm_ln h a) (fun j => zm_cv G (zm_at h a j))).slots.getD (sp.toNatClampNeg + i) .null = zm_cv G (zm_at h a (sp.toNatClampNeg + i)) := by
        rw [Array.getD_eq_getD_getElem?, arrV_read _ _ (by omega)]
        rfl
      have hfi := hfv i hi
      refine ⟨by rw [e]; exact (zm_fit_ok (zm_fit_cv hfi)).2, ?_⟩
      rw [e]
      cases hz : zm_at h a (sp.toNatClampNeg + i) with
      | int z => exact trivial
      | _ => rw [hz] at hfi; simp [zm_fit] at hfi)
    (g := F0 m pc lsA (.int n :: .int dp :: .ref (zm_ad G b) :: .int sp :: .ref (zm_ad G a) :: rest)) rfl (by rw [hml]; exact hsz) (rest := rest) rfl (by rw [hb]; exact hdg) (by omega) (by
      have : nativeFrameWords "java/lang/System" "arraycopy" 5 + 11 = 18 := by decide
      show 2 * 0 + _ + _ ≤ _
      omega)
  have e1 : copied (arrV (G.2.2.1 100) (zm_ln h a) (fun j => zm_cv G (zm_at h a j))) (arrV (G.2.2.1 100) (zm_ln h b) (fun j => zm_cv G (zm_at h b j))) sp dp n = arrV (G.2.2.1 100) (zm_ln h b) (fun j => zm_cv G (va_cpy (zm_at h a) (zm_at h b) sp.toNatClampNeg dp.toNatClampNeg n.toNatClampNeg j)) := va_copied (zm_cv G) _ _ (zm_at h a) (zm_at h b) h4
  rw [e1] at X' step
  have hlt : zm_ad G b < H.size := (Array.getElem?_eq_some_iff.mp hcb).1
  generalize hcell : arrV (G.2.2.1 100) (zm_ln h b) (fun j => zm_cv G (va_cpy (zm_at h a) (zm_at h b) sp.toNatClampNeg dp.toNatClampNeg n.toNatClampNeg j)) = cell1 at X' step
  have hheap : ((T.setVm vm').setCell (zm_ad G b) cell1).heap = H.setIfInBounds (zm_ad G b) cell1 := by rw [← hT]; rfl
  have oq : ∀ q : Nat, q ≠ zm_ad G b → (H.setIfInBounds (zm_ad G b) cell1)[q]? = H[q]? := fun q hq => by simp [Array.getElem?_setIfInBounds, Ne.symm hq]
  have e5 : (H.setIfInBounds (zm_ad G b) cell1)[zm_ad G b]? = some cell1 := by simp [Array.getElem?_setIfInBounds, hlt]
  have z5 : (H.setIfInBounds (zm_ad G b) cell1).size = H.size := by simp
  obtain ⟨t, q1, q2⟩ := k0 (H.setIfInBounds (zm_ad G b) cell1) (locs ++ ((arrV (G.2.2.1 100) (zm_ln h a) (fun j => zm_cv G (zm_at h a j))).stretch sp.toNatClampNeg n.toNatClampNeg).zipIdx.map fun q => ⟨zm_ad G b, dp.toNatClampNeg + q.2⟩)
    (zm_wl_upd hw b1 rfl (fun _ => rfl) (fun _ => rfl) (fun b' j hb' => by
        show (if b' = b ∧ _ ∧ _ then _ else zm_at h b' j) = zm_at h b' j
        rw [if_neg (fun z => hb' z.1)]) z5 oq
      ⟨fun hl => absurd hl (by show ¬ zm_tg h b < 100; omega), fun _ => by
        show _ = some (arrV (G.2.2.1 (zm_tg h b)) (zm_ln h b) (fun j => zm_cv G (if b = b ∧ dp.toNatClampNeg ≤ j ∧ j < dp.toNatClampNeg + n.toNatClampNeg then zm_at h a (sp.toNatClampNeg + (j - dp.toNatClampNeg)) else zm_at h b j)))
        rw [e5, ← hcell, b3]
        congr 2
        funext j
        congr 1
        show (if dp.toNatClampNeg ≤ j ∧ j < dp.toNatClampNeg + n.toNatClampNeg then zm_at h a (sp.toNatClampNeg + (j - dp.toNatClampNeg)) else zm_at h b j) = _
        by_cases hj : dp.toNatClampNeg ≤ j ∧ j < dp.toNatClampNeg + n.toNatClampNeg
        · rw [if_pos hj, if_pos ⟨rfl, hj⟩]
        · rw [if_neg hj, if_neg (fun z => hj z.2)]⟩)
    ⟨by rw [z5]; exact hS.1, fun q g1 g2 => by
      rw [oq q (fun z => g2 (by rw [z]; exact zm_A_ad b1))]
      exact hS.2.1 q g1 g2, fun q hq => by
      rcases List.mem_append.mp hq with z | z
      · exact hS.2.2 q z
      · obtain ⟨w, -, hz⟩ := List.mem_map.mp z
        rw [← hz]
        exact zm_A_ad b1⟩ _ hheap X'
  exact ⟨t, step t q1, q2⟩
variable {C : Nat → List Value → zm_H → Option Value → zm_H → Prop} {k : Nat → List Value → List Value → zm_H → Prop} {r : Option Value}
set_option maxHeartbeats 4000000 in
theorem zm_step (X : zm_Cx G p R s m args meth c M) (hR : zm_nx h' ≤ zm_nx h0 + R.cells ∧ zm_sl h' ≤ zm_sl h0 + R.slots)
    (hm : ∀ pc ls st h, k pc ls st h → zm_nx h ≤ zm_nx h' ∧ zm_sl h ≤ zm_sl h')
    (hC : ∀ x a h r1 h1, C x a h r1 h1 → (zm_nx h ≤ zm_nx h1 ∧ zm_sl h ≤ zm_sl h1) ∧ Met l (zt_nm x) (zt_wsM x) (zm_rm x (zm_nx h1 - zm_nx h) (zm_sl h1 - zm_sl h)) (zm_Pc G a h) (zm_Qc G r1 h1) (zm_nx h1 - zm_nx h) (zm_sl h1 - zm_sl h) (zm_A G))
    (hend : ∀ (i : Instr) (pc : Nat) (st : List Value) (h : zm_H) (lsA : Array Slot) (H : Heap) (locs : List Loc) (cells slots : Nat), (i = .ireturn ∨ i = .areturn ∨ i = .return_) → (∀ np x y sw ls, zm_ex C k np x y sw ls st h (zt_rt M) r h' i) → decode (zt_by M) pc = .ok (i, 1) → zm_Dy G s h0 h H locs cells slots → W p l e R s m args below meth c H locs cells slots Q (F0 m pc lsA (st.map (zm_cv G))))
    (kk : ∀ (pc : Nat) (ls st : List Value) (h : zm_H) (lsA : Array Slot) (H : Heap) (locs : List Loc) (cells slots : Nat), k pc ls st h → zm_lr G (zt_ml M) ls lsA → zm_Dy G s h0 h H locs cells slots → W p l e R s m args below meth c H locs cells slots Q (F0 m pc lsA (st.map (zm_cv G))))
    {i : Instr} {np x y : Nat} {sw : List (Int × Nat)} (ok : zm_ok M pc (i, np, x, y, sw)) {ls st : List Value} (hx : zm_ex C k np x y sw ls st h (zt_rt M) r h' i) (hl : zm_lr G (zt_ml M) ls lsA) (hd : zm_Dy G s h0 h H locs cells slots) :
    W p l e R s m args below meth c H locs cells slots Q (F0 m pc lsA (st.map (zm_cv G))) := by
  obtain ⟨⟨len, hdg, hlen⟩, hrs⟩ := ok
  dsimp only at hdg hlen hrs
  have X0 := X
  obtain ⟨hX, hB, hml, hown, hts, hK, hfr, hlo, hmn⟩ := X
  have hd0 := hd
  obtain ⟨hw, hS, hc1, hc2⟩ := hd
  have hsz : lsA.size = zt_ml M := hl.2.1
  cases i with
  | iconst v =>
    obtain ⟨rfl, rfl⟩ := hlen rfl
    exact lv_iconst hX hB hdg rfl (kk _ _ _ _ _ _ _ _ _ hx hl hd0)
  | bipush v =>
    obtain ⟨rfl, rfl⟩ := hlen rfl
    exact lv_bipush hX hB hdg rfl (kk _ _ _ _ _ _ _ _ _ hx hl hd0)
  | sipush v =>
    obtain ⟨rfl, rfl⟩ := hlen rfl
    exact lv_sipush hX hB hdg rfl (kk _ _ _ _ _ _ _ _ _ hx hl hd0)
  | lconst v =>
    obtain ⟨rfl, rfl⟩ := hlen rfl
    exact lv_lconst hX hB hdg rfl (kk _ _ _ _ _ _ _ _ _ hx hl hd0)
  | ldc idx =>
    obtain ⟨rfl, rfl⟩ := hlen rfl
    obtain ⟨v, n, rfl, hc⟩ := hrs
    exact W.ldc hX hB hown (hts _ hc) rfl hdg (kk _ _ _ _ _ _ _ _ _ hx hl hd0)
  | ldc2_w idx =>
    obtain ⟨rfl, rfl⟩ := hlen rfl
    obtain ⟨v, n, rfl, hc⟩ := hrs
    exact W.ldc2 hX hB hown (hts _ hc) rfl hdg (kk _ _ _ _ _ _ _ _ _ hx hl hd0)
  | aconst_null =>
    obtain ⟨rfl, rfl⟩ := hlen rfl
    exact lv_null hX hB hdg (kk _ _ _ _ _ _ _ _ _ hx hl hd0)
  | iload j =>
    obtain ⟨rfl, rfl⟩ := hlen rfl
    refine zm_ld_el hx (fun v hv hk q => ?_)
    obtain ⟨z, rfl⟩ := zm_isK0 hk
    exact lv_iload hX hB hdg (zm_lr_at hl hv rfl) (kk _ _ _ _ _ _ _ _ _ q hl hd0)
  | iload_n j =>
    obtain ⟨rfl, rfl⟩ := hlen rfl
    refine zm_ld_el hx (fun v hv hk q => ?_)
    obtain ⟨z, rfl⟩ := zm_isK0 hk
    exact lv_iload_n hX hB hdg rfl (zm_lr_at hl hv rfl) (kk _ _ _ _ _ _ _ _ _ q hl hd0)
  | lload j =>
    obtain ⟨rfl, rfl⟩ := hlen rfl
    refine zm_ld_el hx (fun v hv hk q => ?_)
    obtain ⟨z, rfl⟩ := zm_isK1 hk
    exact lv_lload hX hB hdg (zm_lr_at hl hv rfl) (kk _ _ _ _ _ _ _ _ _ q hl hd0)
  | lload_n j =>
    obtain ⟨rfl, rfl⟩ := hlen rfl
    refine zm_ld_el hx (fun v hv hk q => ?_)
    obtain ⟨z, rfl⟩ := zm_isK1 hk
    exact lv_lload_n hX hB hdg rfl (zm_lr_at hl hv rfl) (kk _ _ _ _ _ _ _ _ _ q hl hd0)
  | aload j =>
    obtain ⟨rfl, rfl⟩ := hlen rfl
    refine zm_ld_el hx (fun v hv hk q => ?_)
    rcases zm_isK2 hk with rfl | ⟨z, rfl⟩
    · exact lv_aloadN hX hB hdg (zm_lr_at hl hv rfl) (kk _ _ _ _ _ _ _ _ _ q hl hd0)
    · exact lv_aload hX hB hdg (zm_lr_at hl hv rfl) (kk _ _ _ _ _ _ _ _ _ q hl hd0)
  | aload_n j =>
    obtain ⟨rfl, rfl⟩ := hlen rfl
    refine zm_ld_el hx (fun v hv hk q => ?_)
    rcases zm_isK2 hk with rfl | ⟨z, rfl⟩
    · exact lv_aload_nN hX hB hdg rfl (zm_lr_at hl hv rfl) (kk _ _ _ _ _ _ _ _ _ q hl hd0)
    · exact lv_aload_n hX hB hdg rfl (zm_lr_at hl hv rfl) (kk _ _ _ _ _ _ _ _ _ q hl hd0)
  | istore j =>
    obtain ⟨rfl, rfl⟩ := hlen rfl
    simp only [zm_ex] at hx
    refine zm_sto_el hx (fun v t e1 hk hj hn q => ?_)
    subst e1
    obtain ⟨z, rfl⟩ := zm_isK0 hk
    exact lv_istore hX hB hdg hl.2 (by rw [← hl.1]; exact hj) rfl (fun ls' h' => kk _ _ _ _ _ _ _ _ _ q (zm_lr_st1 hl.1 hn h') hd0)
  | istore_n j =>
    obtain ⟨rfl, rfl⟩ := hlen rfl
    simp only [zm_ex] at hx
    refine zm_sto_el hx (fun v t e1 hk hj hn q => ?_)
    subst e1
    obtain ⟨z, rfl⟩ := zm_isK0 hk
    exact lv_istore_n hX hB hdg rfl hl.2 (by rw [← hl.1]; exact hj) rfl (fun ls' h' => kk _ _ _ _ _ _ _ _ _ q (zm_lr_st1 hl.1 hn h') hd0)
  | astore j =>
    obtain ⟨rfl, rfl⟩ := hlen rfl
    simp only [zm_ex] at hx
    refine zm_sto_el hx (fun v t e1 hk hj hn q => ?_)
    subst e1
    rcases zm_isK2 hk with rfl | ⟨z, rfl⟩
    · exact lv_astoreN hX hB hdg hl.2 (by rw [← hl.1]; exact hj) rfl (fun ls' h' => kk _ _ _ _ _ _ _ _ _ q (zm_lr_st1 hl.1 hn h') hd0)
    · exact lv_astore hX hB hdg hl.2 (by rw [← hl.1]; exact hj) rfl (fun ls' h' => kk _ _ _ _ _ _ _ _ _ q (zm_lr_st1 hl.1 hn h') hd0)
  | astore_n j =>
    obtain ⟨rfl, rfl⟩ := hlen rfl
    simp only [zm_ex] at hx
    refine zm_sto_el hx (fun v t e1 hk hj hn q => ?_)
    subst e1
    rcases zm_isK2 hk with rfl | ⟨z, rfl⟩
    · exact lv_astore_nN hX hB hdg rfl hl.2 (by rw [← hl.1]; exact hj) rfl (fun ls' h' => kk _ _ _ _ _ _ _ _ _ q (zm_lr_st1 hl.1 hn h') hd0)
    · exact lv_astore_n hX hB hdg rfl hl.2 (by rw [← hl.1]; exact hj) rfl (fun ls' h' => kk _ _ _ _ _ _ _ _ _ q (zm_lr_st1 hl.1 hn h') hd0)
  | lstore j =>
    obtain ⟨rfl, rfl⟩ := hlen rfl
    simp only [zm_ex] at hx
    refine zm_stoL_el hx (fun v t e1 hk hj hn q => ?_)
    subst e1
    obtain ⟨z, rfl⟩ := zm_isK1 hk
    exact lv_lstore hX hB hdg hl.2 (by rw [← hl.1]; exact hj) rfl (fun ls' h' => kk _ _ _ _ _ _ _ _ _ q (zm_lr_st2 hl.1 hn h') hd0)
  | lstore_n j =>
    obtain ⟨rfl, rfl⟩ := hlen rfl
    simp only [zm_ex] at hx
    refine zm_stoL_el hx (fun v t e1 hk hj hn q => ?_)
    subst e1
    obtain ⟨z, rfl⟩ := zm_isK1 hk
    exact lv_lstore_n hX hB hdg rfl hl.2 (by rw [← hl.1]; exact hj) rfl (fun ls' h' => kk _ _ _ _ _ _ _ _ _ q (zm_lr_st2 hl.1 hn h') hd0)
  | iinc j n =>
    obtain ⟨rfl, rfl⟩ := hlen rfl
    refine zm_ld_el hx (fun v hv hk q => ?_)
    obtain ⟨z, rfl⟩ := zm_isK0 hk
    obtain ⟨hj, hn, q⟩ := q
    obtain ⟨k1, hk1⟩ := List.getElem?_of_mem (zm_ll_mem.mpr ⟨_, hv, rfl, rfl⟩ : (j, zm_cv G (.int z)) ∈ zm_ll G ls)
    exact lv_iinc hX hB hdg hl.2 hk1 rfl (by rw [← hl.1]; exact hj) rfl (fun ls' h' => kk _ _ _ _ _ _ _ _ _ q (zm_lr_st1 (v := .int (z + Int32.ofInt n)) hl.1 hn h') hd0)
  | iadd =>
    obtain ⟨rfl, rfl⟩ := hlen rfl
    simp only [zm_ex] at hx
    refine zm_s2_el hx (fun a b t e1 q => ?_)
    subst e1
    exact lv_iadd hX hB hdg (kk _ _ _ _ _ _ _ _ _ q hl hd0)
  | isub =>
    obtain ⟨rfl, rfl⟩ := hlen rfl
    simp only [zm_ex] at hx
    refine zm_s2_el hx (fun a b t e1 q => ?_)
    subst e1
    exact lv_isub hX hB hdg (kk _ _ _ _ _ _ _ _ _ q hl hd0)
  | imul =>
    obtain ⟨rfl, rfl⟩ := hlen rfl
    simp only [zm_ex] at hx
    refine zm_s2_el hx (fun a b t e1 q => ?_)
    subst e1
    exact lv_imul hX hB hdg (kk _ _ _ _ _ _ _ _ _ q hl hd0)
  | iand =>
    obtain ⟨rfl, rfl⟩ := hlen rfl
    simp only [zm_ex] at hx
    refine zm_s2_el hx (fun a b t e1 q => ?_)
    subst e1
    exact lv_iand hX hB hdg (kk _ _ _ _ _ _ _ _ _ q hl hd0)
  | ior =>
    obtain ⟨rfl, rfl⟩ := hlen rfl
    simp only [zm_ex] at hx
    refine zm_s2_el hx (fun a b t e1 q => ?_)
    subst e1
    exact lv_ior hX hB hdg (kk _ _ _ _ _ _ _ _ _ q hl hd0)
  | ixor =>
    obtain ⟨rfl, rfl⟩ := hlen rfl
    simp only [zm_ex] at hx
    refine zm_s2_el hx (fun a b t e1 q => ?_)
    subst e1
    exact lv_ixor hX hB hdg (kk _ _ _ _ _ _ _ _ _ q hl hd0)
  | land =>
    obtain ⟨rfl, rfl⟩ := hlen rfl
    simp only [zm_ex] at hx
    refine zm_l2_el hx (fun a b t e1 q => ?_)
    subst e1
    exact lv_land hX hB hdg (kk _ _ _ _ _ _ _ _ _ q hl hd0)
  | lor =>
    obtain ⟨rfl, rfl⟩ := hlen rfl
    simp only [zm_ex] at hx
    refine zm_l2_el hx (fun a b t e1 q => ?_)
    subst e1
    exact lv_lor hX hB hdg (kk _ _ _ _ _ _ _ _ _ q hl hd0)
  | lushr =>
    obtain ⟨rfl, rfl⟩ := hlen rfl
    simp only [zm_ex] at hx
    refine zm_lsh_el hx (fun a b t e1 q => ?_)
    subst e1
    exact lv_lushr hX hB hdg rfl (kk _ _ _ _ _ _ _ _ _ q hl hd0)
  | lshl =>
    obtain ⟨rfl, rfl⟩ := hlen rfl
    simp only [zm_ex] at hx
    refine zm_lsh_el hx (fun a b t e1 q => ?_)
    subst e1
    exact lv_lshl hX hB hdg rfl (kk _ _ _ _ _ _ _ _ _ q hl hd0)
  | lshr =>
    obtain ⟨rfl, rfl⟩ := hlen rfl
    simp only [zm_ex] at hx
    refine zm_lsh_el hx (fun a b t e1 q => ?_)
    subst e1
    exact lv_lshr hX hB hdg rfl (kk _ _ _ _ _ _ _ _ _ q hl hd0)
  | l2i =>
    obtain ⟨rfl, rfl⟩ := hlen rfl
    simp only [zm_ex] at hx
    refine zm_l1_el hx (fun a t e1 q => ?_)
    subst e1
    exact lv_l2i hX hB hdg rfl (kk _ _ _ _ _ _ _ _ _ q hl hd0)
  | i2l =>
    obtain ⟨rfl, rfl⟩ := hlen rfl
    simp only [zm_ex] at hx
    refine zm_s1_el hx (fun a t e1 q => ?_)
    subst e1
    exact lv_i2l hX hB hdg rfl (kk _ _ _ _ _ _ _ _ _ q hl hd0)
  | i2b =>
    obtain ⟨rfl, rfl⟩ := hlen rfl
    simp only [zm_ex] at hx
    refine zm_s1_el hx (fun a t e1 q => ?_)
    subst e1
    exact lv_i2b hX hB hdg rfl (kk _ _ _ _ _ _ _ _ _ q hl hd0)
  | dup =>
    obtain ⟨rfl, rfl⟩ := hlen rfl
    match st, hx with
    | v :: t, hx => exact lv_dup hX hB hdg (zm_cat hx.1) (kk _ _ _ _ _ _ _ _ _ hx.2 hl hd0)
  | pop =>
    obtain ⟨rfl, rfl⟩ := hlen rfl
    match st, hx with
    | v :: t, hx => exact lv_pop hX hB hdg (zm_cat hx.1) (kk _ _ _ _ _ _ _ _ _ hx.2 hl hd0)
  | dup_x1 =>
    obtain ⟨rfl, rfl⟩ := hlen rfl
    match st, hx with
    | v :: w :: t, hx => exact lv_dup_x1 hX hB hdg (zm_cat hx.1) (zm_cat hx.2.1) (kk _ _ _ _ _ _ _ _ _ hx.2.2 hl hd0)
  | dup2 =>
    obtain ⟨rfl, rfl⟩ := hlen rfl
    match st, hx with
    | v :: w :: t, hx => exact lv_dup2_11 hX hB hdg (zm_cat hx.1) (zm_cat hx.2.1) (kk _ _ _ _ _ _ _ _ _ hx.2.2 hl hd0)
  | ifCond cd o =>
    obtain ⟨rfl, rfl⟩ := hlen rfl
    match st, hx with
    | .int a :: t, hx =>
      cases cd with
      | eq => exact lv_if_eq hX hB hdg hrs (fun q => kk _ _ _ _ _ _ _ _ _ (hx.1 q) hl hd0) (fun q => kk _ _ _ _ _ _ _ _ _ (hx.2 q) hl hd0)
      | ne => exact lv_if_ne hX hB hdg hrs (fun q => kk _ _ _ _ _ _ _ _ _ (hx.1 q) hl hd0) (fun q => kk _ _ _ _ _ _ _ _ _ (hx.2 (fun z => z q)) hl hd0)
      | lt => exact lv_if_lt hX hB hdg hrs (fun q => kk _ _ _ _ _ _ _ _ _ (hx.1 q) hl hd0) (fun q => kk _ _ _ _ _ _ _ _ _ (hx.2 q) hl hd0)
      | ge => exact lv_if_ge hX hB hdg hrs (fun q => kk _ _ _ _ _ _ _ _ _ (hx.1 q) hl hd0) (fun q => kk _ _ _ _ _ _ _ _ _ (hx.2 q) hl hd0)
      | gt => exact lv_if_gt hX hB hdg hrs (fun q => kk _ _ _ _ _ _ _ _ _ (hx.1 q) hl hd0) (fun q => kk _ _ _ _ _ _ _ _ _ (hx.2 q) hl hd0)
      | le => exact lv_if_le hX hB hdg hrs (fun q => kk _ _ _ _ _ _ _ _ _ (hx.1 q) hl hd0) (fun q => kk _ _ _ _ _ _ _ _ _ (hx.2 q) hl hd0)
  | if_icmp cd o =>
    obtain ⟨rfl, rfl⟩ := hlen rfl
    match st, hx with
    | .int b :: .int a :: t, hx =>
      cases cd with
      | eq => exact lv_icmp_eq hX hB hdg hrs (fun q => kk _ _ _ _ _ _ _ _ _ (hx.1 q) hl hd0) (fun q => kk _ _ _ _ _ _ _ _ _ (hx.2 q) hl hd0)
      | ne => exact lv_icmp_ne hX hB hdg hrs (fun q => kk _ _ _ _ _ _ _ _ _ (hx.1 q) hl hd0) (fun q => kk _ _ _ _ _ _ _ _ _ (hx.2 (fun z => z q)) hl hd0)
      | lt => exact lv_icmp_lt hX hB hdg hrs (fun q => kk _ _ _ _ _ _ _ _ _ (hx.1 q) hl hd0) (fun q => kk _ _ _ _ _ _ _ _ _ (hx.2 q) hl hd0)
      | ge => exact lv_icmp_ge hX hB hdg hrs (fun q => kk _ _ _ _ _ _ _ _ _ (hx.1 q) hl hd0) (fun q => kk _ _ _ _ _ _ _ _ _ (hx.2 q) hl hd0)
      | gt => exact lv_icmp_gt hX hB hdg hrs (fun q => kk _ _ _ _ _ _ _ _ _ (hx.1 q) hl hd0) (fun q => kk _ _ _ _ _ _ _ _ _ (hx.2 q) hl hd0)
      | le => exact lv_icmp_le hX hB hdg hrs (fun q => kk _ _ _ _ _ _ _ _ _ (hx.1 q) hl hd0) (fun q => kk _ _ _ _ _ _ _ _ _ (hx.2 q) hl hd0)
  | if_acmp cd o =>
    obtain ⟨rfl, rfl⟩ := hlen rfl
    cases cd with
    | eq =>
      match st, hx with
      | b :: a :: t, hx =>
        obtain ⟨ka, kb, q1, q2⟩ := hx
        obtain ⟨ra, ea⟩ := zm_rfo (G := G) ka
        obtain ⟨rb, eb⟩ := zm_rfo (G := G) kb
        have hab : ra = rb ↔ a = b := zm_rfo_eq hw ka kb ea eb
        show W p l e R s m args below meth c H locs cells slots Q (F0 m pc lsA (zm_cv G b :: zm_cv G a :: t.map (zm_cv G)))
        rw [ea, eb]
        exact lv_acmp_eq hX hB hdg hrs (fun z => kk _ _ _ _ _ _ _ _ _ (q1 (hab.mp z)) hl hd0) (fun z => kk _ _ _ _ _ _ _ _ _ (q2 (fun w => z (hab.mpr w))) hl hd0)
    | ne =>
      match st, hx with
      | b :: a :: t, hx =>
        obtain ⟨ka, kb, q1, q2⟩ := hx
        obtain ⟨ra, ea⟩ := zm_rfo (G := G) ka
        obtain ⟨rb, eb⟩ := zm_rfo (G := G) kb
        have hab : ra = rb ↔ a = b := zm_rfo_eq hw ka kb ea eb
        show W p l e R s m args below meth c H locs cells slots Q (F0 m pc lsA (zm_cv G b :: zm_cv G a :: t.map (zm_cv G)))
        rw [ea, eb]
        exact lv_acmp_ne hX hB hdg hrs (fun z => kk _ _ _ _ _ _ _ _ _ (q1 (fun w => z (hab.mpr w))) hl hd0) (fun z => kk _ _ _ _ _ _ _ _ _ (q2 (hab.mp z)) hl hd0)
  | ifnull o =>
    obtain ⟨rfl, rfl⟩ := hlen rfl
    match st, hx with
    | .null :: t, hx => exact lv_ifnullN hX hB hdg hrs (kk _ _ _ _ _ _ _ _ _ hx hl hd0)
    | .ref a :: t, hx => exact lv_ifnull hX hB hdg (kk _ _ _ _ _ _ _ _ _ hx hl hd0)
  | ifnonnull o =>
    obtain ⟨rfl, rfl⟩ := hlen rfl
    match st, hx with
    | .null :: t, hx => exact lv_ifnonnullN hX hB hdg (kk _ _ _ _ _ _ _ _ _ hx hl hd0)
    | .ref a :: t, hx => exact lv_ifnonnull hX hB hdg hrs (kk _ _ _ _ _ _ _ _ _ hx hl hd0)
  | goto o =>
    exact lv_goto hX hB (by obtain ⟨rfl, rfl⟩ := hlen rfl; exact hdg) hrs (kk _ _ _ _ _ _ _ _ _ hx hl hd0)
  | tableswitch dd lo hi offs =>
    match st, hx with
    | .int a :: t, hx =>
      obtain ⟨r1, r2⟩ := hrs
      by_cases ho : a.toInt < lo ∨ hi < a.toInt
      · have e1 := (r2 a.toInt).1 ho
        have hx : k (zm_sw x sw a.toInt) ls t h := hx
        rw [e1] at hx
        exact lv_tableOut hX hB hdg ho r1 (kk _ _ _ _ _ _ _ _ _ hx hl hd0)
      · obtain ⟨o, e1, e2⟩ := (r2 a.toInt).2 (fun z => ho (Or.inl z)) (fun z => ho (Or.inr z))
        exact lv_tableIn hX hB hdg (fun z => ho (Or.inl z)) (fun z => ho (Or.inr z)) e1 e2 (kk _ _ _ _ _ _ _ _ _ hx hl hd0)
  | getfield idx =>
    obtain ⟨rfl, rfl⟩ := hlen rfl
    match st, hx with
    | .ref a :: t, hx => exact zm_getf X0 hrs hx.1 hw hdg (kk _ _ _ _ _ _ _ _ _ hx.2 hl hd0)
  | putfield idx =>
    obtain ⟨rfl, rfl⟩ := hlen rfl
    match st, hx with
    | v :: .ref a :: t, hx => exact zm_putf X0 hrs hx.1 hx.2.1 hw hS hdg (fun H' locs' w1 w2 => kk _ _ _ _ _ _ _ _ _ hx.2.2 hl ⟨w1, w2, hc1, hc2⟩)
  | new idx =>
    obtain ⟨rfl, rfl⟩ := hlen rfl
    have hmm := hm _ _ _ _ hx
    have e1 : zm_nx (zm_mk h x y (zt_df x)) = zm_nx h + 1 := rfl
    have e2 : zm_sl (zm_mk h x y (zt_df x)) = zm_sl h + y := rfl
    exact zm_newc X0 hrs hw hS (by omega) (by omega) hdg (fun H' w1 w2 => kk _ _ _ _ _ _ _ _ _ hx hl ⟨w1, w2, by omega, by omega⟩)
  | newarray t0 =>
    obtain ⟨rfl, rfl⟩ := hlen rfl
    match st, hx with
    | .int n :: t, hx =>
      have hmm := hm _ _ _ _ hx.2.2
      have e1 : zm_nx (zm_mk h x n.toNatClampNeg (fun _ => zm_df x)) = zm_nx h + 1 := rfl
      have e2 : zm_sl (zm_mk h x n.toNatClampNeg (fun _ => zm_df x)) = zm_sl h + n.toNatClampNeg := rfl
      exact zm_newa X0 hrs hx.1 hx.2.1 hw hS (by omega) (by omega) hdg (fun H' w1 w2 => kk _ _ _ _ _ _ _ _ _ hx.2.2 hl ⟨w1, w2, by omega, by omega⟩)
  | anewarray idx =>
    obtain ⟨rfl, rfl⟩ := hlen rfl
    match st, hx with
    | .int n :: t, hx =>
      have hmm := hm _ _ _ _ hx.2.2
      have e1 : zm_nx (zm_mk h x n.toNatClampNeg (fun _ => zm_df x)) = zm_nx h + 1 := rfl
      have e2 : zm_sl (zm_mk h x n.toNatClampNeg (fun _ => zm_df x)) = zm_sl h + n.toNatClampNeg := rfl
      exact zm_newq X0 hrs hx.1 hx.2.1 hw hS (by omega) (by omega) hdg (fun H' w1 w2 => kk _ _ _ _ _ _ _ _ _ hx.2.2 hl ⟨w1, w2, by omega, by omega⟩)
  | arraylength =>
    obtain ⟨rfl, rfl⟩ := hlen rfl
    match st, hx with
    | .ref a :: t, hx =>
      obtain ⟨ty, hty⟩ := Option.isSome_iff_exists.mp hx.2.1
      obtain ⟨cell, q1, q2, q3, q4, q5⟩ := zm_arr hK hw hx.1 hty
      exact W.alen hX hB q1 q2 (by rw [q4]) rfl rfl hdg (kk _ _ _ _ _ _ _ _ _ hx.2.2 hl hd0)
  | iaload =>
    obtain ⟨rfl, rfl⟩ := hlen rfl
    simp only [zm_ex] at hx
    refine zm_rd_el hx (fun i a t e1 ha ht hin q => ?_)
    subst e1
    have htg : zm_tg h a = 101 := by simpa using ht
    obtain ⟨cell, q1, q2, q3, q4, q5⟩ := zm_arr (ty := .int) hK hw ha (by rw [htg]; exact zt_at_101)
    exact W.iald hX hB q1 q2 q3 (by rw [q4]; exact hin) (q5 _ (Nat.not_le.mp fun z => hin (Or.inr z))) rfl rfl hdg (kk _ _ _ _ _ _ _ _ _ q hl hd0)
  | baload =>
    obtain ⟨rfl, rfl⟩ := hlen rfl
    simp only [zm_ex] at hx
    refine zm_rd_el hx (fun i a t e1 ha ht hin q => ?_)
    subst e1
    have htg : zm_tg h a = 100 := by simpa using ht
    obtain ⟨cell, q1, q2, q3, q4, q5⟩ := zm_arr (ty := .byte) hK hw ha (by rw [htg]; exact zt_at_b)
    exact W.bald hX hB q1 q2 q3 (by rw [q4]; exact hin) (q5 _ (Nat.not_le.mp fun z => hin (Or.inr z))) rfl rfl hdg (kk _ _ _ _ _ _ _ _ _ q hl hd0)
  | aaload =>
    obtain ⟨rfl, rfl⟩ := hlen rfl
    simp only [zm_ex] at hx
    refine zm_rd_el hx (fun i a t e1 ha ht hin q => ?_)
    subst e1
    obtain ⟨C0, hC0⟩ := zm_ro_of ht
    obtain ⟨cell, q1, q2, q3, q4, q5⟩ := zm_arr (ty := .object C0) hK hw ha hC0
    exact W.aald hX hB q1 q2 rfl q3 (by rw [q4]; exact hin) (q5 _ (Nat.not_le.mp fun z => hin (Or.inr z))) rfl rfl hdg (kk _ _ _ _ _ _ _ _ _ q hl hd0)
  | iastore =>
    obtain ⟨rfl, rfl⟩ := hlen rfl
    simp only [zm_ex] at hx
    refine zm_wr_el hx (fun v i a t e1 hi hin q => ?_)
    subst e1
    obtain ⟨i1, i2, i3⟩ := hi
    have hce := (hw.2.2.2.2.2 a i1 i2).2 (by omega)
    exact W.iast hX hB hce (by rw [i3]; exact (hK.2.1 101 .int zt_at_101).1 _ _) (fun z => by cases z) (by rw [arrV_size]; exact hin) rfl rfl hdg (fun H' e1 e2 e3 => kk _ _ _ _ _ _ _ _ _ q hl ⟨zm_wl_ast hw i1 i2 (by omega) e1 e2 e3, hS.put e2 e3 (zm_A_ad i1), hc1, hc2⟩)
  | bastore =>
    obtain ⟨rfl, rfl⟩ := hlen rfl
    simp only [zm_ex] at hx
    refine zm_wr_el hx (fun v i a t e1 hi hin q => ?_)
    subst e1
    obtain ⟨i1, i2, i3⟩ := hi
    have hce := (hw.2.2.2.2.2 a i1 i2).2 (by omega)
    exact W.bast hX hB hce (by rw [i3]; exact (hK.2.1 100 .byte zt_at_b).1 _ _) (fun z => by cases z) (by rw [arrV_size]; exact hin) rfl rfl hdg (fun H' e1 e2 e3 => kk _ _ _ _ _ _ _ _ _ q hl ⟨zm_wl_ast hw i1 i2 (by omega) e1 e2 e3, hS.put e2 e3 (zm_A_ad i1), hc1, hc2⟩)
  | aastore =>
    obtain ⟨rfl, rfl⟩ := hlen rfl
    match st, hx with
    | .null :: .int i :: .ref a :: t, hx =>
      obtain ⟨g1, ⟨i1, i2, -⟩, hin, q⟩ := hx
      obtain ⟨C0, hC0⟩ := zm_ro_of g1
      have h1 := zt_at_100 _ _ hC0
      have hce := (hw.2.2.2.2.2 a i1 i2).2 h1
      exact va_WaastN hX hB hce ((hK.2.1 _ _ hC0).1 _ _) (fun z => by cases z) (by rw [arrV_size]; exact hin) rfl rfl hdg (fun H' e1 e2 e3 => kk _ _ _ _ _ _ _ _ _ q hl ⟨zm_wl_ast (v := .null) hw i1 i2 h1 e1 e2 e3, hS.put e2 e3 (zm_A_ad i1), hc1, hc2⟩)
    | .ref b :: .int i :: .ref a :: t, hx =>
      obtain ⟨g1, ⟨i1, i2, -⟩, ⟨j1, j2, j3⟩, hin, q⟩ := hx
      obtain ⟨C0, hC0⟩ := zm_ro_of g1
      have h1 := zt_at_100 _ _ hC0
      have hce := (hw.2.2.2.2.2 a i1 i2).2 h1
      obtain ⟨q0, hq0, hq1⟩ := zt_ro_ok _ _ hC0
      obtain ⟨q0', hq0', cellV, p1, p2, p3, -⟩ := (hw.2.2.2.2.2 b j1 j2).1 (by rw [j3]; exact (zt_cls_ok _ _ hq0).1)
      rw [j3] at p2
      have hcls := (hK.1 _ _ hq0).2
      obtain ⟨kA, comp, k1, k2, k3, -⟩ := (hK.2.1 _ _ hC0).2
      have hcomp : comp = G.1 (zm_tg h a - 200) := Option.some.inj (k3.symm.trans (by rw [← hq1]; exact hcls.1))
      subst hcomp
      obtain ⟨kC, hkC, -⟩ := hcls.2
      exact W.aast hX hB hce (fun z w => by cases w) (fun z => by cases z) k1 k2 rfl hkC ⟨fun z => hin (Or.inl z), by rw [arrV_size]; exact Nat.not_le.mp fun z => hin (Or.inr z)⟩ p1 (fun z w => by rw [p3] at w; cases w) (by rw [p2]; exact hkC) (by rw [p2]; exact va_assign hcls) rfl rfl hdg (fun H' e1 e2 e3 => kk _ _ _ _ _ _ _ _ _ q hl ⟨zm_wl_ast (v := .ref b) hw i1 i2 h1 e1 e2 e3, hS.put e2 e3 (zm_A_ad i1), hc1, hc2⟩)
  | invokestatic idx =>
    obtain ⟨rfl, rfl⟩ := hlen rfl
    rcases hrs with ⟨rfl, ⟨l1, l2, l3, l4⟩, l5⟩ | ⟨rfl, ⟨l1, l2, l3, l4⟩, l5⟩ | ⟨rfl, ⟨l1, l2, l3, l4⟩, l5⟩ | ⟨⟨hx1, hcd, hlk, hstt⟩, hroom⟩
    · match st, hx with
      | .int b :: .int a :: t, hx =>
        obtain ⟨ht, q⟩ := hx
        have hmm := hm _ _ _ _ q
        refine va_mmax hX hB (by rw [hml]; exact hsz.symm) hown (hts _ l1) (hts _ l2) (hts _ l3) (hts _ l4) (by omega) (Nat.le_trans (Nat.add_le_add_right (Nat.le_trans (zm_sum _) (by rw [List.length_map]; omega : _ ≤ 8)) 13) (by omega)) (by omega) (by omega) hdg (kk _ _ _ _ _ _ _ _ _ q hl hd0)
    · match st, hx with
      | .int b :: .int a :: t, hx =>
        obtain ⟨ht, q⟩ := hx
        have hmm := hm _ _ _ _ q
        refine va_mmin hX hB (by rw [hml]; exact hsz.symm) hown (hts _ l1) (hts _ l2) (hts _ l3) (hts _ l4) (by omega) (Nat.le_trans (Nat.add_le_add_right (Nat.le_trans (zm_sum _) (by rw [List.length_map]; omega : _ ≤ 8)) 13) (by omega)) (by omega) (by omega) hdg (kk _ _ _ _ _ _ _ _ _ q hl hd0)
    · match st, hx with
      | .int n :: .int dp :: .ref b :: .int sp :: .ref a :: t, hx =>
        obtain ⟨ht, ia, ib, g1, g2, g3, g4, g5, g6, q⟩ := hx
        exact zm_copy X0 l1 l2 l3 l4 ia ib l5 g1 g2 g3 g4 g5 g6 hw hS hsz (by rw [List.length_map]; exact ht) hdg (fun H' locs' w1 w2 => kk _ _ _ _ _ _ _ _ _ q hl ⟨w1, w2, hc1, hc2⟩)
    · have hx : zm_cl C k (pc + 3) x ls st h y := by
        have hn : ¬ 1000 < x := by omega
        have hx := hx
        simp only [zm_ex, if_neg hn] at hx
        exact hx
      obtain ⟨n1, n2, r1, h1, c1, q⟩ := hx
      obtain ⟨mo, hM⟩ := hC _ _ _ _ _ c1
      have hmm := hm _ _ _ _ q
      refine zm_back (zm_cS X0 hcd hroom hlk hstt hM hw n1 n2 hsz hdg (by omega)) hd0 mo (fun H' locs' hd' => ?_)
      have := kk _ _ _ _ lsA _ _ _ _ q hl hd'
      rwa [List.map_append, zm_tl] at this
  | invokevirtual idx =>
    obtain ⟨rfl, rfl⟩ := hlen rfl
    obtain ⟨⟨hx1, hcd, hlk, hin, hse, hmc⟩, hroom⟩ := hrs
    obtain ⟨⟨a, ha, hia⟩, n1, n2, r1, h1, c1, q⟩ := hx
    obtain ⟨mo, hM⟩ := hC _ _ _ _ _ c1
    have hmm := hm _ _ _ _ q
    refine zm_back (zm_cV X0 hcd hroom hlk hin hse hmc ha hia hM hw n2 hsz hdg (by omega)) hd0 mo (fun H' locs' hd' => ?_)
    have := kk _ _ _ _ lsA _ _ _ _ q hl hd'
    rwa [List.map_append, zm_tl] at this
  | invokespecial idx =>
    obtain ⟨rfl, rfl⟩ := hlen rfl
    rcases hrs with ⟨rfl, ⟨l1, l2, l3⟩, l5⟩ | ⟨⟨hx1, hcd, hlk, hin, hy1, hrt⟩, hroom⟩
    · match st, hx with
      | .ref a :: t, hx =>
        obtain ⟨ht, q⟩ := hx
        exact W.objInit hX hB hown (hts _ l1) (hts _ l2) (hts _ l3) rfl (by rw [hml]; exact hsz) rfl hdg (by omega) (by
          have h8 : ((t.map (zm_cv G)).map fun v => v.category).sum ≤ 8 := Nat.le_trans (zm_sum _) (by rw [List.length_map]; omega)
          show 2 * 0 + _ + 12 ≤ _
          omega) (kk _ _ _ _ _ _ _ _ _ q hl hd0)
    · have hx : (∃ a, st[y]? = some (.ref a)) ∧ zm_cl C k (pc + 3) x ls st h (y + 1) := by
        have hn : ¬ x = 1000 := by omega
        have hx := hx
        simp only [zm_ex, if_neg hn] at hx
        exact hx
      obtain ⟨⟨a, ha⟩, n1, n2, r1, h1, c1, q⟩ := hx
      obtain ⟨mo, hM⟩ := hC _ _ _ _ _ c1
      have hmm := hm _ _ _ _ q
      refine zm_back (zm_cI X0 hcd hroom hlk hin hy1 hrt ha hM hw n2 hsz hdg (by omega)) hd0 mo (fun H' locs' hd' => ?_)
      have := kk _ _ _ _ lsA _ _ _ _ q hl hd'
      rwa [List.map_append, zm_tl] at this
  | ireturn =>
    obtain ⟨rfl, rfl⟩ := hlen rfl
    exact hend _ _ _ _ _ _ _ _ _ (Or.inl rfl) (fun _ _ _ _ _ => hx) hdg hd0
  | areturn =>
    obtain ⟨rfl, rfl⟩ := hlen rfl
    exact hend _ _ _ _ _ _ _ _ _ (Or.inr (Or.inl rfl)) (fun _ _ _ _ _ => hx) hdg hd0
  | return_ =>
    obtain ⟨rfl, rfl⟩ := hlen rfl
    exact hend _ _ _ _ _ _ _ _ _ (Or.inr (Or.inr rfl)) (fun _ _ _ _ _ => hx) hdg hd0
  | _ => exact False.elim hx
end
end
section
section
variable {l : Launch} {G : zm_G} {d : Nat} {p : Program} {e : Env} {R : Room} {s : State} {m : MethodId} {args : Array Value} {below : List Frame} {meth : Method} {c : Code} {Q : State → Prop} {M : Nat} {h0 h' : zm_H} {r : Option Value}
/-- a run of the small machine is a run of the machine -/
theorem zm_body (X : zm_Cx G p R s m args meth c M) (hR : zm_nx h' ≤ zm_nx h0 + R.cells ∧ zm_sl h' ≤ zm_sl h0 + R.slots)
    (hC : ∀ x a h r1 h1, zm_ca d x a h r1 h1 → (zm_nx h ≤ zm_nx h1 ∧ zm_sl h ≤ zm_sl h1) ∧ Met l (zt_nm x) (zt_wsM x) (zm_rm x (zm_nx h1 - zm_nx h) (zm_sl h1 - zm_sl h)) (zm_Pc G a h) (zm_Qc G r1 h1) (zm_nx h1 - zm_nx h) (zm_sl h1 - zm_sl h) (zm_A G))
    (hend : ∀ (k : Nat → List Value → List Value → zm_H → Prop) (i : Instr) (pc : Nat) (st : List Value) (h : zm_H) (lsA : Array Slot) (H : Heap) (locs : List Loc) (cells slots : Nat), (i = .ireturn ∨ i = .areturn ∨ i = .return_) → (∀ np x y sw ls, zm_ex (zm_ca d) k np x y sw ls st h (zt_rt M) r h' i) → decode (zt_by M) pc = .ok (i, 1) → zm_Dy G s h0 h H locs cells slots → W p l e R s m args below meth c H locs cells slots Q (F0 m pc lsA (st.map (zm_cv G)))) :
    ∀ (n pc : Nat) (ls st : List Value) (h : zm_H) (lsA : Array Slot) (H : Heap) (locs : List Loc) (cells slots : Nat), zm_rn (zm_ca d) M r h' n pc ls st h → zm_lr G (zt_ml M) ls lsA → zm_Dy G s h0 h H locs cells slots → W p l e R s m args below meth c H locs cells slots Q (F0 m pc lsA (st.map (zm_cv G))) := by
  intro n
  induction n with
  | zero => intro pc ls st h lsA H locs cells slots hr; exact False.elim hr
  | succ n ih =>
    intro pc ls st h lsA H locs cells slots hr hl hd
    obtain ⟨E, hE, hx⟩ := hr
    obtain ⟨i, np, x, y, sw⟩ := E
    exact zm_step X hR (fun pc ls st h q => zm_rn_mono (fun M a h r h1 z => zm_ca_mono d M a h r h1 z) n pc ls st h q) hC (hend _) ih (zt_ok M pc _ hE) hx hl hd
end
theorem zm_sim (l : Launch) (G : zm_G) : ∀ (d x : Nat) (a : List Value) (h : zm_H) (r1 : Option Value) (h1 : zm_H), zm_ca d x a h r1 h1 → (zm_nx h ≤ zm_nx h1 ∧ zm_sl h ≤ zm_sl h1) ∧ Met l (zt_nm x) (zt_wsM x) (zm_rm x (zm_nx h1 - zm_nx h) (zm_sl h1 - zm_sl h)) (zm_Pc G a h) (zm_Qc G r1 h1) (zm_nx h1 - zm_nx h) (zm_sl h1 - zm_sl h) (zm_A G)
  | 0, _, _, _, _, _, hc => False.elim hc
  | d + 1, x, a, h, r1, h1, hc => by
    have mo := zm_ca_mono _ _ _ _ _ _ hc
    refine ⟨mo, ?_⟩
    obtain ⟨hlen, n, hr⟩ := hc
    refine Met.ofW (cc := zt_by x) (maxL := zt_ml x) (ret := zt_rt x) (zt_plain x) rfl ?_
    intro p e s m args below meth c s₁ B hml hv
    obtain ⟨rfl, hw, hK⟩ := hv
    have hts := atoms_spec (ws := zt_wsM x) B.pre
    have hr2 := B.returns
    have hlocks := B.notSynchronized
    have X : zm_Cx G p (headSpec (zt_wsM x) (zm_rm x (zm_nx h1 - zm_nx h) (zm_sl h1 - zm_sl h))).room s m (a.map (zm_cv G)).toArray meth c x :=
      ⟨B.exec, B.bytes, hml, findClass_of_methodNamed B.named, fun w z => hts w (List.mem_cons_of_mem _ z), hK, Nat.le_refl _, Nat.le_refl _, fun z => (name_of_methodNamed B.named B.method).1.trans z⟩
    rw [lg_entry_eq]
    refine zm_body (h0 := h) (h' := h1) (r := r1) X ⟨by show _ ≤ _ + (zm_nx h1 - zm_nx h); omega, by show _ ≤ _ + (zm_sl h1 - zm_sl h); omega⟩ (fun x a h r1 h1 z => zm_sim l G d x a h r1 h1 z) ?_ n 0 _ [] h _ _ _ _ _ hr (zm_lr_entry hlen) ⟨hw, va_S.rf, rfl, rfl⟩
    intro k i pc st hh lsA H locs cells slots hi hx hdg hd
    obtain ⟨w1, w2, w3, w4⟩ := hd
    rcases hi with rfl | rfl | rfl
    · have hx := hx 0 0 0 [] []
      match st, hx with
      | [.int v], hx =>
        obtain ⟨rfl, rfl, ty, ht, hf⟩ := hx
        obtain rfl : cells = zm_nx h1 - zm_nx h := by omega
        obtain rfl : slots = zm_sl h1 - zm_sl h := by omega
        exact W.zret B.exec B.bytes (hr2.trans ht) (zm_fit_ok hf).1 (fun t e1 hW => ⟨rfl, by rw [e1]; exact w1.moved hW.alike, w2.F e1⟩) w2.2.2 hdg
    · have hx := hx 0 0 0 [] []
      match st, hx with
      | [v], hx =>
        obtain ⟨rfl, rfl, hk, ty, ht, hf⟩ := hx
        obtain rfl : cells = zm_nx h1 - zm_nx h := by omega
        obtain rfl : slots = zm_sl h1 - zm_sl h := by omega
        refine W.aret B.exec B.bytes (hr2.trans ht) ?_ ?_ (fun t e1 hW => ⟨rfl, by rw [e1]; exact w1.moved hW.alike, w2.F e1⟩) w2.2.2 hdg
        · rcases zm_isK2 hk with rfl | ⟨z, rfl⟩ <;> cases ty <;> first | exact Or.inl ⟨_, rfl⟩ | exact Or.inr ⟨_, rfl⟩ | (simp [zm_fit] at hf)
        · rcases zm_isK2 hk with rfl | ⟨z, rfl⟩
          · exact Or.inl rfl
          · exact Or.inr ⟨_, rfl⟩
    · obtain ⟨rfl, rfl, rfl, ht⟩ := hx 0 0 0 [] []
      obtain rfl : cells = zm_nx h1 - zm_nx h := by omega
      obtain rfl : slots = zm_sl h1 - zm_sl h := by omega
      exact W.vret B.exec B.bytes (hr2.trans ht) (fun t e1 hW => ⟨rfl, by rw [e1]; exact w1.moved hW.alike, w2.F e1⟩) w2.2.2 hdg
end
section
/-- from here on the method ends, and Q holds of its answer and heap -/
def zm_wp (d M pc : Nat) (ls st : List Value) (h : zm_H) (Q : Option Value → zm_H → Prop) : Prop := ∃ n r h', zm_rn (zm_ca d) M r h' n pc ls st h ∧ Q r h'
/-- the method, called so, ends, and Q holds of its answer and heap -/
def zm_wc (d M : Nat) (a : List Value) (h : zm_H) (Q : Option Value → zm_H → Prop) : Prop := ∃ r h', zm_ca d M a h r h' ∧ Q r h'
theorem zm_wc_mono {d M : Nat} {a : List Value} {h : zm_H} {Q Q' : Option Value → zm_H → Prop} (k : zm_wc d M a h Q) (f : ∀ r h', Q r h' → Q' r h') : zm_wc d M a h Q' := by
  obtain ⟨r, h', h1, h2⟩ := k
  exact ⟨r, h', h1, f r h' h2⟩
theorem zm_wp_mono {d M pc : Nat} {ls st : List Value} {h : zm_H} {Q Q' : Option Value → zm_H → Prop} (k : zm_wp d M pc ls st h Q) (f : ∀ r h', Q r h' → Q' r h') : zm_wp d M pc ls st h Q' := by
  obtain ⟨n, r, h', h1, h2⟩ := k
  exact ⟨n, r, h', h1, f r h' h2⟩
theorem zm_enter {d M : Nat} {a : List Value} {h : zm_H} {Q : Option Value → zm_H → Prop} (hl : (zm_fl a).length ≤ zt_ml M) (k : zm_wp d M 0 (zm_lo a (zt_ml M)) [] h Q) : zm_wc (d + 1) M a h Q := by
  obtain ⟨n, r, h', h1, h2⟩ := k
  exact ⟨r, h', ⟨hl, n, h1⟩, h2⟩
section
variable {d M pc np x y : Nat} {sw : List (Int × Nat)} {ls st : List Value} {h : zm_H} {Q : Option Value → zm_H → Prop}
theorem wx_iconst {w : Int} (v : Int32) (hc : zt_code M pc = some (.iconst w, np, x, y, sw)) (hv : Int32.ofInt w = v) (kk : zm_wp d M np ls (.int v :: st) h Q) : zm_wp d M pc ls st h Q := by
  subst hv
  obtain ⟨n, r, h', hr, hq⟩ := kk
  exact ⟨n + 1, r, h', ⟨_, hc, hr⟩, hq⟩
theorem wx_bipush {w : Int} (v : Int32) (hc : zt_code M pc = some (.bipush w, np, x, y, sw)) (hv : (Int8.ofInt w).toInt32 = v) (kk : zm_wp d M np ls (.int v :: st) h Q) : zm_wp d M pc ls st h Q := by
  subst hv
  obtain ⟨n, r, h', hr, hq⟩ := kk
  exact ⟨n + 1, r, h', ⟨_, hc, hr⟩, hq⟩
theorem wx_sipush {w : Int} (v : Int32) (hc : zt_code M pc = some (.sipush w, np, x, y, sw)) (hv : (Int16.ofInt w).toInt32 = v) (kk : zm_wp d M np ls (.int v :: st) h Q) : zm_wp d M pc ls st h Q := by
  subst hv
  obtain ⟨n, r, h', hr, hq⟩ := kk
  exact ⟨n + 1, r, h', ⟨_, hc, hr⟩, hq⟩
theorem wx_lconst {w : Fin 2} (v : Int64) (hc : zt_code M pc = some (.lconst w, np, x, y, sw)) (hv : Int64.ofNat w = v) (kk : zm_wp d M np ls (.long v :: st) h Q) : zm_wp d M pc ls st h Q := by
  subst hv
  obtain ⟨n, r, h', hr, hq⟩ := kk
  exact ⟨n + 1, r, h', ⟨_, hc, hr⟩, hq⟩
theorem wx_ldc {o u : Nat} {w : Int} (v : Int32) (hc : zt_code M pc = some (.ldc o, np, x, y, [(w, u)])) (hv : Int32.ofInt w = v) (kk : zm_wp d M np ls (.int v :: st) h Q) : zm_wp d M pc ls st h Q := by
  subst hv
  obtain ⟨n, r, h', hr, hq⟩ := kk
  exact ⟨n + 1, r, h', ⟨_, hc, hr⟩, hq⟩
theorem wx_ldc2_w {o u : Nat} {w : Int} (v : Int64) (hc : zt_code M pc = some (.ldc2_w o, np, x, y, [(w, u)])) (hv : Int64.ofInt w = v) (kk : zm_wp d M np ls (.long v :: st) h Q) : zm_wp d M pc ls st h Q := by
  subst hv
  obtain ⟨n, r, h', hr, hq⟩ := kk
  exact ⟨n + 1, r, h', ⟨_, hc, hr⟩, hq⟩
theorem wx_aconst_null (hc : zt_code M pc = some (.aconst_null, np, x, y, sw)) (kk : zm_wp d M np ls (.null :: st) h Q) : zm_wp d M pc ls st h Q := by
  obtain ⟨n, r, h', hr, hq⟩ := kk
  exact ⟨n + 1, r, h', ⟨_, hc, hr⟩, hq⟩
theorem wx_iload {j : Nat} {v : Value} (hc : zt_code M pc = some (.iload j, np, x, y, sw)) (hv : ls[(j : Nat)]? = some v) (hk : zm_isK 0 v = true) (kk : zm_wp d M np ls (v :: st) h Q) : zm_wp d M pc ls st h Q := by
  obtain ⟨n, r, h', hr, hq⟩ := kk
  exact ⟨n + 1, r, h', ⟨_, hc, (by show zm_ld 0 ls j _; unfold zm_ld; rw [hv]; exact ⟨hk, hr⟩)⟩, hq⟩
theorem wx_iload_n {j : Fin 4} {v : Value} (hc : zt_code M pc = some (.iload_n j, np, x, y, sw)) (hv : ls[(j : Nat)]? = some v) (hk : zm_isK 0 v = true) (kk : zm_wp d M np ls (v :: st) h Q) : zm_wp d M pc ls st h Q := by
  obtain ⟨n, r, h', hr, hq⟩ := kk
  exact ⟨n + 1, r, h', ⟨_, hc, (by show zm_ld 0 ls j _; unfold zm_ld; rw [hv]; exact ⟨hk, hr⟩)⟩, hq⟩
theorem wx_lload {j : Nat} {v : Value} (hc : zt_code M pc = some (.lload j, np, x, y, sw)) (hv : ls[(j : Nat)]? = some v) (hk : zm_isK 1 v = true) (kk : zm_wp d M np ls (v :: st) h Q) : zm_wp d M pc ls st h Q := by
  obtain ⟨n, r, h', hr, hq⟩ := kk
  exact ⟨n + 1, r, h', ⟨_, hc, (by show zm_ld 1 ls j _; unfold zm_ld; rw [hv]; exact ⟨hk, hr⟩)⟩, hq⟩
theorem wx_lload_n {j : Fin 4} {v : Value} (hc : zt_code M pc = some (.lload_n j, np, x, y, sw)) (hv : ls[(j : Nat)]? = some v) (hk : zm_isK 1 v = true) (kk : zm_wp d M np ls (v :: st) h Q) : zm_wp d M pc ls st h Q := by
  obtain ⟨n, r, h', hr, hq⟩ := kk
  exact ⟨n + 1, r, h', ⟨_, hc, (by show zm_ld 1 ls j _; unfold zm_ld; rw [hv]; exact ⟨hk, hr⟩)⟩, hq⟩
theorem wx_aload {j : Nat} {v : Value} (hc : zt_code M pc = some (.aload j, np, x, y, sw)) (hv : ls[(j : Nat)]? = some v) (hk : zm_isK 2 v = true) (kk : zm_wp d M np ls (v :: st) h Q) : zm_wp d M pc ls st h Q := by
  obtain ⟨n, r, h', hr, hq⟩ := kk
  exact ⟨n + 1, r, h', ⟨_, hc, (by show zm_ld 2 ls j _; unfold zm_ld; rw [hv]; exact ⟨hk, hr⟩)⟩, hq⟩
theorem wx_aload_n {j : Fin 4} {v : Value} (hc : zt_code M pc = some (.aload_n j, np, x, y, sw)) (hv : ls[(j : Nat)]? = some v) (hk : zm_isK 2 v = true) (kk : zm_wp d M np ls (v :: st) h Q) : zm_wp d M pc ls st h Q := by
  obtain ⟨n, r, h', hr, hq⟩ := kk
  exact ⟨n + 1, r, h', ⟨_, hc, (by show zm_ld 2 ls j _; unfold zm_ld; rw [hv]; exact ⟨hk, hr⟩)⟩, hq⟩
theorem wx_istore {j : Nat} {v : Value} {ls' : List Value} (hc : zt_code M pc = some (.istore j, np, x, y, sw)) (hk : zm_isK 0 v = true) (hj : Nat.blt j ls.length = true) (hn : zm_nl ls j = true) (hs : ls.set j v = ls') (kk : zm_wp d M np ls' st h Q) : zm_wp d M pc ls (v :: st) h Q := by
  subst hs
  obtain ⟨n, r, h', hr, hq⟩ := kk
  exact ⟨n + 1, r, h', ⟨_, hc, ⟨hk, Nat.blt_eq.mp hj, hn, hr⟩⟩, hq⟩
theorem wx_istore_n {j : Fin 4} {v : Value} {ls' : List Value} (hc : zt_code M pc = some (.istore_n j, np, x, y, sw)) (hk : zm_isK 0 v = true) (hj : Nat.blt j ls.length = true) (hn : zm_nl ls j = true) (hs : ls.set j v = ls') (kk : zm_wp d M np ls' st h Q) : zm_wp d M pc ls (v :: st) h Q := by
  subst hs
  obtain ⟨n, r, h', hr, hq⟩ := kk
  exact ⟨n + 1, r, h', ⟨_, hc, ⟨hk, Nat.blt_eq.mp hj, hn, hr⟩⟩, hq⟩
theorem wx_astore {j : Nat} {v : Value} {ls' : List Value} (hc : zt_code M pc = some (.astore j, np, x, y, sw)) (hk : zm_isK 2 v = true) (hj : Nat.blt j ls.length = true) (hn : zm_nl ls j = true) (hs : ls.set j v = ls') (kk : zm_wp d M np ls' st h Q) : zm_wp d M pc ls (v :: st) h Q := by
  subst hs
  obtain ⟨n, r, h', hr, hq⟩ := kk
  exact ⟨n + 1, r, h', ⟨_, hc, ⟨hk, Nat.blt_eq.mp hj, hn, hr⟩⟩, hq⟩
theorem wx_astore_n {j : Fin 4} {v : Value} {ls' : List Value} (hc : zt_code M pc = some (.astore_n j, np, x, y, sw)) (hk : zm_isK 2 v = true) (hj : Nat.blt j ls.length = true) (hn : zm_nl ls j = true) (hs : ls.set j v = ls') (kk : zm_wp d M np ls' st h Q) : zm_wp d M pc ls (v :: st) h Q := by
  subst hs
  obtain ⟨n, r, h', hr, hq⟩ := kk
  exact ⟨n + 1, r, h', ⟨_, hc, ⟨hk, Nat.blt_eq.mp hj, hn, hr⟩⟩, hq⟩
theorem wx_lstore {j : Nat} {v : Value} {ls' : List Value} (hc : zt_code M pc = some (.lstore j, np, x, y, sw)) (hk : zm_isK 1 v = true) (hj : Nat.blt (j + 1) ls.length = true) (hn : zm_nl ls j = true) (hs : (ls.set j v).set (j + 1) zm_un = ls') (kk : zm_wp d M np ls' st h Q) : zm_wp d M pc ls (v :: st) h Q := by
  subst hs
  obtain ⟨n, r, h', hr, hq⟩ := kk
  exact ⟨n + 1, r, h', ⟨_, hc, ⟨hk, Nat.blt_eq.mp hj, hn, hr⟩⟩, hq⟩
theorem wx_lstore_n {j : Fin 4} {v : Value} {ls' : List Value} (hc : zt_code M pc = some (.lstore_n j, np, x, y, sw)) (hk : zm_isK 1 v = true) (hj : Nat.blt (j + 1) ls.length = true) (hn : zm_nl ls j = true) (hs : (ls.set j v).set (j + 1) zm_un = ls') (kk : zm_wp d M np ls' st h Q) : zm_wp d M pc ls (v :: st) h Q := by
  subst hs
  obtain ⟨n, r, h', hr, hq⟩ := kk
  exact ⟨n + 1, r, h', ⟨_, hc, ⟨hk, Nat.blt_eq.mp hj, hn, hr⟩⟩, hq⟩
theorem wx_iinc {j : Nat} {w : Int} {z z' : Int32} {ls' : List Value} (hc : zt_code M pc = some (.iinc j w, np, x, y, sw)) (hv : ls[j]? = some (.int z)) (hj : Nat.blt j ls.length = true) (hn : zm_nl ls j = true) (hz : z + Int32.ofInt w = z') (hs : ls.set j (.int z') = ls') (kk : zm_wp d M np ls' st h Q) : zm_wp d M pc ls st h Q := by
  subst hz
  subst hs
  obtain ⟨n, r, h', hr, hq⟩ := kk
  exact ⟨n + 1, r, h', ⟨_, hc, (by show zm_ld 0 ls j _; unfold zm_ld; rw [hv]; exact ⟨rfl, Nat.blt_eq.mp hj, hn, hr⟩)⟩, hq⟩
theorem wx_iadd {a b : Int32} (hc : zt_code M pc = some (.iadd, np, x, y, sw)) (kk : zm_wp d M np ls (.int (a + b) :: st) h Q) : zm_wp d M pc ls (.int b :: .int a :: st) h Q := by
  obtain ⟨n, r, h', hr, hq⟩ := kk
  exact ⟨n + 1, r, h', ⟨_, hc, hr⟩, hq⟩
theorem wx_isub {a b : Int32} (hc : zt_code M pc = some (.isub, np, x, y, sw)) (kk : zm_wp d M np ls (.int (a - b) :: st) h Q) : zm_wp d M pc ls (.int b :: .int a :: st) h Q := by
  obtain ⟨n, r, h', hr, hq⟩ := kk
  exact ⟨n + 1, r, h', ⟨_, hc, hr⟩, hq⟩
theorem wx_imul {a b : Int32} (hc : zt_code M pc = some (.imul, np, x, y, sw)) (kk : zm_wp d M np ls (.int (a * b) :: st) h Q) : zm_wp d M pc ls (.int b :: .int a :: st) h Q := by
  obtain ⟨n, r, h', hr, hq⟩ := kk
  exact ⟨n + 1, r, h', ⟨_, hc, hr⟩, hq⟩
theorem wx_iand {a b : Int32} (hc : zt_code M pc = some (.iand, np, x, y, sw)) (kk : zm_wp d M np ls (.int (a &&& b) :: st) h Q) : zm_wp d M pc ls (.int b :: .int a :: st) h Q := by
  obtain ⟨n, r, h', hr, hq⟩ := kk
  exact ⟨n + 1, r, h', ⟨_, hc, hr⟩, hq⟩
theorem wx_ior {a b : Int32} (hc : zt_code M pc = some (.ior, np, x, y, sw)) (kk : zm_wp d M np ls (.int (a ||| b) :: st) h Q) : zm_wp d M pc ls (.int b :: .int a :: st) h Q := by
  obtain ⟨n, r, h', hr, hq⟩ := kk
  exact ⟨n + 1, r, h', ⟨_, hc, hr⟩, hq⟩
theorem wx_ixor {a b : Int32} (hc : zt_code M pc = some (.ixor, np, x, y, sw)) (kk : zm_wp d M np ls (.int (a ^^^ b) :: st) h Q) : zm_wp d M pc ls (.int b :: .int a :: st) h Q := by
  obtain ⟨n, r, h', hr, hq⟩ := kk
  exact ⟨n + 1, r, h', ⟨_, hc, hr⟩, hq⟩
theorem wx_land {a b : Int64} (hc : zt_code M pc = some (.land, np, x, y, sw)) (kk : zm_wp d M np ls (.long (a &&& b) :: st) h Q) : zm_wp d M pc ls (.long b :: .long a :: st) h Q := by
  obtain ⟨n, r, h', hr, hq⟩ := kk
  exact ⟨n + 1, r, h', ⟨_, hc, hr⟩, hq⟩
theorem wx_lor {a b : Int64} (hc : zt_code M pc = some (.lor, np, x, y, sw)) (kk : zm_wp d M np ls (.long (a ||| b) :: st) h Q) : zm_wp d M pc ls (.long b :: .long a :: st) h Q := by
  obtain ⟨n, r, h', hr, hq⟩ := kk
  exact ⟨n + 1, r, h', ⟨_, hc, hr⟩, hq⟩
theorem wx_lushr {a : Int64} {b : Int32} (hc : zt_code M pc = some (.lushr, np, x, y, sw)) (kk : zm_wp d M np ls (.long (a.toUInt64 >>> (b.toInt64.toUInt64 &&& Int64.toUInt64 63)).toInt64 :: st) h Q) : zm_wp d M pc ls (.int b :: .long a :: st) h Q := by
  obtain ⟨n, r, h', hr, hq⟩ := kk
  exact ⟨n + 1, r, h', ⟨_, hc, hr⟩, hq⟩
theorem wx_lshr {a : Int64} {b : Int32} (hc : zt_code M pc = some (.lshr, np, x, y, sw)) (kk : zm_wp d M np ls (.long (a >>> (b.toInt64 &&& 63)) :: st) h Q) : zm_wp d M pc ls (.int b :: .long a :: st) h Q := by
  obtain ⟨n, r, h', hr, hq⟩ := kk
  exact ⟨n + 1, r, h', ⟨_, hc, hr⟩, hq⟩
theorem wx_lshl {a : Int64} {b : Int32} (hc : zt_code M pc = some (.lshl, np, x, y, sw)) (kk : zm_wp d M np ls (.long (a <<< (b.toInt64 &&& 63)) :: st) h Q) : zm_wp d M pc ls (.int b :: .long a :: st) h Q := by
  obtain ⟨n, r, h', hr, hq⟩ := kk
  exact ⟨n + 1, r, h', ⟨_, hc, hr⟩, hq⟩
theorem wx_l2i {a : Int64} (hc : zt_code M pc = some (.l2i, np, x, y, sw)) (kk : zm_wp d M np ls (.int a.toInt32 :: st) h Q) : zm_wp d M pc ls (.long a :: st) h Q := by
  obtain ⟨n, r, h', hr, hq⟩ := kk
  exact ⟨n + 1, r, h', ⟨_, hc, hr⟩, hq⟩
theorem wx_i2l {a : Int32} (hc : zt_code M pc = some (.i2l, np, x, y, sw)) (kk : zm_wp d M np ls (.long a.toInt64 :: st) h Q) : zm_wp d M pc ls (.int a :: st) h Q := by
  obtain ⟨n, r, h', hr, hq⟩ := kk
  exact ⟨n + 1, r, h', ⟨_, hc, hr⟩, hq⟩
theorem wx_i2b {a : Int32} (hc : zt_code M pc = some (.i2b, np, x, y, sw)) (kk : zm_wp d M np ls (.int a.toInt8.toInt32 :: st) h Q) : zm_wp d M pc ls (.int a :: st) h Q := by
  obtain ⟨n, r, h', hr, hq⟩ := kk
  exact ⟨n + 1, r, h', ⟨_, hc, hr⟩, hq⟩
theorem wx_dup {v : Value} (hc : zt_code M pc = some (.dup, np, x, y, sw)) (hv : zm_c1 v = true) (kk : zm_wp d M np ls (v :: v :: st) h Q) : zm_wp d M pc ls (v :: st) h Q := by
  obtain ⟨n, r, h', hr, hq⟩ := kk
  exact ⟨n + 1, r, h', ⟨_, hc, ⟨hv, hr⟩⟩, hq⟩
theorem wx_pop {v : Value} (hc : zt_code M pc = some (.pop, np, x, y, sw)) (hv : zm_c1 v = true) (kk : zm_wp d M np ls st h Q) : zm_wp d M pc ls (v :: st) h Q := by
  obtain ⟨n, r, h', hr, hq⟩ := kk
  exact ⟨n + 1, r, h', ⟨_, hc, ⟨hv, hr⟩⟩, hq⟩
theorem wx_dup_x1 {v w : Value} (hc : zt_code M pc = some (.dup_x1, np, x, y, sw)) (hv : zm_c1 v = true) (hw : zm_c1 w = true) (kk : zm_wp d M np ls (v :: w :: v :: st) h Q) : zm_wp d M pc ls (v :: w :: st) h Q := by
  obtain ⟨n, r, h', hr, hq⟩ := kk
  exact ⟨n + 1, r, h', ⟨_, hc, ⟨hv, hw, hr⟩⟩, hq⟩
theorem wx_dup2 {v w : Value} (hc : zt_code M pc = some (.dup2, np, x, y, sw)) (hv : zm_c1 v = true) (hw : zm_c1 w = true) (kk : zm_wp d M np ls (v :: w :: v :: w :: st) h Q) : zm_wp d M pc ls (v :: w :: st) h Q := by
  obtain ⟨n, r, h', hr, hq⟩ := kk
  exact ⟨n + 1, r, h', ⟨_, hc, ⟨hv, hw, hr⟩⟩, hq⟩
theorem wx_if_eq {a : Int32} {o : Int} (hc : zt_code M pc = some (.ifCond .eq o, np, x, y, sw)) (kt : a = 0 → zm_wp d M x ls st h Q) (kf : ¬ (a = 0) → zm_wp d M np ls st h Q) : zm_wp d M pc ls (.int a :: st) h Q := by
  rcases Classical.em (a = 0) with q | q
  · obtain ⟨n, r, h', hr, hq⟩ := kt q
    exact ⟨n + 1, r, h', ⟨_, hc, ⟨fun _ => hr, fun z => absurd q z⟩⟩, hq⟩
  · obtain ⟨n, r, h', hr, hq⟩ := kf q
    exact ⟨n + 1, r, h', ⟨_, hc, ⟨fun z => absurd z q, fun _ => hr⟩⟩, hq⟩
theorem wx_icmp_eq {a b : Int32} {o : Int} (hc : zt_code M pc = some (.if_icmp .eq o, np, x, y, sw)) (kt : a = b → zm_wp d M x ls st h Q) (kf : ¬ (a = b) → zm_wp d M np ls st h Q) : zm_wp d M pc ls (.int b :: .int a :: st) h Q := by
  rcases Classical.em (a = b) with q | q
  · obtain ⟨n, r, h', hr, hq⟩ := kt q
    exact ⟨n + 1, r, h', ⟨_, hc, ⟨fun _ => hr, fun z => absurd q z⟩⟩, hq⟩
  · obtain ⟨n, r, h', hr, hq⟩ := kf q
    exact ⟨n + 1, r, h', ⟨_, hc, ⟨fun z => absurd z q, fun _ => hr⟩⟩, hq⟩
theorem wx_if_ne {a : Int32} {o : Int} (hc : zt_code M pc = some (.ifCond .ne o, np, x, y, sw)) (kt : ¬ a = 0 → zm_wp d M x ls st h Q) (kf : a = 0 → zm_wp d M np ls st h Q) : zm_wp d M pc ls (.int a :: st) h Q := by
  rcases Classical.em (¬ a = 0) with q | q
  · obtain ⟨n, r, h', hr, hq⟩ := kt q
    exact ⟨n + 1, r, h', ⟨_, hc, ⟨fun _ => hr, fun z => absurd q z⟩⟩, hq⟩
  · obtain ⟨n, r, h', hr, hq⟩ := kf (Classical.not_not.mp q)
    exact ⟨n + 1, r, h', ⟨_, hc, ⟨fun z => absurd z q, fun _ => hr⟩⟩, hq⟩
theorem wx_icmp_ne {a b : Int32} {o : Int} (hc : zt_code M pc = some (.if_icmp .ne o, np, x, y, sw)) (kt : ¬ a = b → zm_wp d M x ls st h Q) (kf : a = b → zm_wp d M np ls st h Q) : zm_wp d M pc ls (.int b :: .int a :: st) h Q := by
  rcases Classical.em (¬ a = b) with q | q
  · obtain ⟨n, r, h', hr, hq⟩ := kt q
    exact ⟨n + 1, r, h', ⟨_, hc, ⟨fun _ => hr, fun z => absurd q z⟩⟩, hq⟩
  · obtain ⟨n, r, h', hr, hq⟩ := kf (Classical.not_not.mp q)
    exact ⟨n + 1, r, h', ⟨_, hc, ⟨fun z => absurd z q, fun _ => hr⟩⟩, hq⟩
theorem wx_if_lt {a : Int32} {o : Int} (hc : zt_code M pc = some (.ifCond .lt o, np, x, y, sw)) (kt : a < 0 → zm_wp d M x ls st h Q) (kf : ¬ (a < 0) → zm_wp d M np ls st h Q) : zm_wp d M pc ls (.int a :: st) h Q := by
  rcases Classical.em (a < 0) with q | q
  · obtain ⟨n, r, h', hr, hq⟩ := kt q
    exact ⟨n + 1, r, h', ⟨_, hc, ⟨fun _ => hr, fun z => absurd q z⟩⟩, hq⟩
  · obtain ⟨n, r, h', hr, hq⟩ := kf q
    exact ⟨n + 1, r, h', ⟨_, hc, ⟨fun z => absurd z q, fun _ => hr⟩⟩, hq⟩
theorem wx_icmp_lt {a b : Int32} {o : Int} (hc : zt_code M pc = some (.if_icmp .lt o, np, x, y, sw)) (kt : a < b → zm_wp d M x ls st h Q) (kf : ¬ (a < b) → zm_wp d M np ls st h Q) : zm_wp d M pc ls (.int b :: .int a :: st) h Q := by
  rcases Classical.em (a < b) with q | q
  · obtain ⟨n, r, h', hr, hq⟩ := kt q
    exact ⟨n + 1, r, h', ⟨_, hc, ⟨fun _ => hr, fun z => absurd q z⟩⟩, hq⟩
  · obtain ⟨n, r, h', hr, hq⟩ := kf q
    exact ⟨n + 1, r, h', ⟨_, hc, ⟨fun z => absurd z q, fun _ => hr⟩⟩, hq⟩
theorem wx_if_ge {a : Int32} {o : Int} (hc : zt_code M pc = some (.ifCond .ge o, np, x, y, sw)) (kt : 0 ≤ a → zm_wp d M x ls st h Q) (kf : ¬ (0 ≤ a) → zm_wp d M np ls st h Q) : zm_wp d M pc ls (.int a :: st) h Q := by
  rcases Classical.em (0 ≤ a) with q | q
  · obtain ⟨n, r, h', hr, hq⟩ := kt q
    exact ⟨n + 1, r, h', ⟨_, hc, ⟨fun _ => hr, fun z => absurd q z⟩⟩, hq⟩
  · obtain ⟨n, r, h', hr, hq⟩ := kf q
    exact ⟨n + 1, r, h', ⟨_, hc, ⟨fun z => absurd z q, fun _ => hr⟩⟩, hq⟩
theorem wx_icmp_ge {a b : Int32} {o : Int} (hc : zt_code M pc = some (.if_icmp .ge o, np, x, y, sw)) (kt : b ≤ a → zm_wp d M x ls st h Q) (kf : ¬ (b ≤ a) → zm_wp d M np ls st h Q) : zm_wp d M pc ls (.int b :: .int a :: st) h Q := by
  rcases Classical.em (b ≤ a) with q | q
  · obtain ⟨n, r, h', hr, hq⟩ := kt q
    exact ⟨n + 1, r, h', ⟨_, hc, ⟨fun _ => hr, fun z => absurd q z⟩⟩, hq⟩
  · obtain ⟨n, r, h', hr, hq⟩ := kf q
    exact ⟨n + 1, r, h', ⟨_, hc, ⟨fun z => absurd z q, fun _ => hr⟩⟩, hq⟩
theorem wx_if_gt {a : Int32} {o : Int} (hc : zt_code M pc = some (.ifCond .gt o, np, x, y, sw)) (kt : 0 < a → zm_wp d M x ls st h Q) (kf : ¬ (0 < a) → zm_wp d M np ls st h Q) : zm_wp d M pc ls (.int a :: st) h Q := by
  rcases Classical.em (0 < a) with q | q
  · obtain ⟨n, r, h', hr, hq⟩ := kt q
    exact ⟨n + 1, r, h', ⟨_, hc, ⟨fun _ => hr, fun z => absurd q z⟩⟩, hq⟩
  · obtain ⟨n, r, h', hr, hq⟩ := kf q
    exact ⟨n + 1, r, h', ⟨_, hc, ⟨fun z => absurd z q, fun _ => hr⟩⟩, hq⟩
theorem wx_icmp_gt {a b : Int32} {o : Int} (hc : zt_code M pc = some (.if_icmp .gt o, np, x, y, sw)) (kt : b < a → zm_wp d M x ls st h Q) (kf : ¬ (b < a) → zm_wp d M np ls st h Q) : zm_wp d M pc ls (.int b :: .int a :: st) h Q := by
  rcases Classical.em (b < a) with q | q
  · obtain ⟨n, r, h', hr, hq⟩ := kt q
    exact ⟨n + 1, r, h', ⟨_, hc, ⟨fun _ => hr, fun z => absurd q z⟩⟩, hq⟩
  · obtain ⟨n, r, h', hr, hq⟩ := kf q
    exact ⟨n + 1, r, h', ⟨_, hc, ⟨fun z => absurd z q, fun _ => hr⟩⟩, hq⟩
theorem wx_if_le {a : Int32} {o : Int} (hc : zt_code M pc = some (.ifCond .le o, np, x, y, sw)) (kt : a ≤ 0 → zm_wp d M x ls st h Q) (kf : ¬ (a ≤ 0) → zm_wp d M np ls st h Q) : zm_wp d M pc ls (.int a :: st) h Q := by
  rcases Classical.em (a ≤ 0) with q | q
  · obtain ⟨n, r, h', hr, hq⟩ := kt q
    exact ⟨n + 1, r, h', ⟨_, hc, ⟨fun _ => hr, fun z => absurd q z⟩⟩, hq⟩
  · obtain ⟨n, r, h', hr, hq⟩ := kf q
    exact ⟨n + 1, r, h', ⟨_, hc, ⟨fun z => absurd z q, fun _ => hr⟩⟩, hq⟩
theorem wx_icmp_le {a b : Int32} {o : Int} (hc : zt_code M pc = some (.if_icmp .le o, np, x, y, sw)) (kt : a ≤ b → zm_wp d M x ls st h Q) (kf : ¬ (a ≤ b) → zm_wp d M np ls st h Q) : zm_wp d M pc ls (.int b :: .int a :: st) h Q := by
  rcases Classical.em (a ≤ b) with q | q
  · obtain ⟨n, r, h', hr, hq⟩ := kt q
    exact ⟨n + 1, r, h', ⟨_, hc, ⟨fun _ => hr, fun z => absurd q z⟩⟩, hq⟩
  · obtain ⟨n, r, h', hr, hq⟩ := kf q
    exact ⟨n + 1, r, h', ⟨_, hc, ⟨fun z => absurd z q, fun _ => hr⟩⟩, hq⟩
theorem wx_acmp_eq {a b : Value} {o : Int} (hc : zt_code M pc = some (.if_acmp .eq o, np, x, y, sw)) (ka : zm_isK 2 a = true) (kb : zm_isK 2 b = true) (kt : a = b → zm_wp d M x ls st h Q) (kf : ¬ a = b → zm_wp d M np ls st h Q) : zm_wp d M pc ls (b :: a :: st) h Q := by
  rcases Classical.em (a = b) with q | q
  · obtain ⟨n, r, h', hr, hq⟩ := kt q
    exact ⟨n + 1, r, h', ⟨_, hc, ⟨ka, kb, fun _ => hr, fun z => absurd q z⟩⟩, hq⟩
  · obtain ⟨n, r, h', hr, hq⟩ := kf q
    exact ⟨n + 1, r, h', ⟨_, hc, ⟨ka, kb, fun z => absurd z q, fun _ => hr⟩⟩, hq⟩
theorem wx_acmp_ne {a b : Value} {o : Int} (hc : zt_code M pc = some (.if_acmp .ne o, np, x, y, sw)) (ka : zm_isK 2 a = true) (kb : zm_isK 2 b = true) (kt : ¬ a = b → zm_wp d M x ls st h Q) (kf : a = b → zm_wp d M np ls st h Q) : zm_wp d M pc ls (b :: a :: st) h Q := by
  rcases Classical.em (a = b) with q | q
  · obtain ⟨n, r, h', hr, hq⟩ := kf q
    exact ⟨n + 1, r, h', ⟨_, hc, ⟨ka, kb, fun z => absurd q z, fun _ => hr⟩⟩, hq⟩
  · obtain ⟨n, r, h', hr, hq⟩ := kt q
    exact ⟨n + 1, r, h', ⟨_, hc, ⟨ka, kb, fun _ => hr, fun z => absurd z q⟩⟩, hq⟩
theorem wx_ifnullN {o : Int} (hc : zt_code M pc = some (.ifnull o, np, x, y, sw)) (kk : zm_wp d M x ls st h Q) : zm_wp d M pc ls (.null :: st) h Q := by
  obtain ⟨n, r, h', hr, hq⟩ := kk
  exact ⟨n + 1, r, h', ⟨_, hc, hr⟩, hq⟩
theorem wx_ifnullR {o : Int} {a : Nat} (hc : zt_code M pc = some (.ifnull o, np, x, y, sw)) (kk : zm_wp d M np ls st h Q) : zm_wp d M pc ls (.ref a :: st) h Q := by
  obtain ⟨n, r, h', hr, hq⟩ := kk
  exact ⟨n + 1, r, h', ⟨_, hc, hr⟩, hq⟩
theorem wx_ifnonnullN {o : Int} (hc : zt_code M pc = some (.ifnonnull o, np, x, y, sw)) (kk : zm_wp d M np ls st h Q) : zm_wp d M pc ls (.null :: st) h Q := by
  obtain ⟨n, r, h', hr, hq⟩ := kk
  exact ⟨n + 1, r, h', ⟨_, hc, hr⟩, hq⟩
theorem wx_ifnonnullR {o : Int} {a : Nat} (hc : zt_code M pc = some (.ifnonnull o, np, x, y, sw)) (kk : zm_wp d M x ls st h Q) : zm_wp d M pc ls (.ref a :: st) h Q := by
  obtain ⟨n, r, h', hr, hq⟩ := kk
  exact ⟨n + 1, r, h', ⟨_, hc, hr⟩, hq⟩
theorem wx_goto {o : Int} (hc : zt_code M pc = some (.goto o, np, x, y, sw)) (kk : zm_wp d M x ls st h Q) : zm_wp d M pc ls st h Q := by
  obtain ⟨n, r, h', hr, hq⟩ := kk
  exact ⟨n + 1, r, h', ⟨_, hc, hr⟩, hq⟩
theorem wx_tableswitch {a : Int32} {q1 q2 q3 : Int} {os : Array Int} {tgt : Nat} (hc : zt_code M pc = some (.tableswitch q1 q2 q3 os, np, x, y, sw)) (ht : zm_sw x sw a.toInt = tgt) (kk : zm_wp d M tgt ls st h Q) : zm_wp d M pc ls (.int a :: st) h Q := by
  subst ht
  obtain ⟨n, r, h', hr, hq⟩ := kk
  exact ⟨n + 1, r, h', ⟨_, hc, hr⟩, hq⟩
theorem wx_getfield {o a : Nat} {v : Value} (hc : zt_code M pc = some (.getfield o, np, x, y, sw)) (hi : zm_is h a x) (hv : zm_at h a y = v) (kk : zm_wp d M np ls (v :: st) h Q) : zm_wp d M pc ls (.ref a :: st) h Q := by
  subst hv
  obtain ⟨n, r, h', hr, hq⟩ := kk
  exact ⟨n + 1, r, h', ⟨_, hc, ⟨hi, hr⟩⟩, hq⟩
theorem wx_putfield {o a : Nat} {v : Value} (hc : zt_code M pc = some (.putfield o, np, x, y, sw)) (hi : zm_is h a x) (hf : zm_fit (zt_ty x y) v = true) (kk : zm_wp d M np ls st (zm_put h a y v) Q) : zm_wp d M pc ls (v :: .ref a :: st) h Q := by
  obtain ⟨n, r, h', hr, hq⟩ := kk
  exact ⟨n + 1, r, h', ⟨_, hc, ⟨hi, hf, hr⟩⟩, hq⟩
theorem wx_new {o : Nat} (hc : zt_code M pc = some (.new o, np, x, y, sw)) (kk : zm_wp d M np ls (.ref (zm_nx h) :: st) (zm_mk h x y (zt_df x)) Q) : zm_wp d M pc ls st h Q := by
  obtain ⟨n, r, h', hr, hq⟩ := kk
  exact ⟨n + 1, r, h', ⟨_, hc, hr⟩, hq⟩
theorem wx_newarray {o : ArrayType} {w : Int32} (N : Nat) (hc : zt_code M pc = some (.newarray o, np, x, y, sw)) (h1 : ¬ w < 0) (hN : w.toNatClampNeg = N) (h2 : N ≤ 60000000) (kk : zm_wp d M np ls (.ref (zm_nx h) :: st) (zm_mk h x N (fun _ => zm_df x)) Q) : zm_wp d M pc ls (.int w :: st) h Q := by
  subst hN
  obtain ⟨n, r, h', hr, hq⟩ := kk
  exact ⟨n + 1, r, h', ⟨_, hc, ⟨h1, h2, hr⟩⟩, hq⟩
theorem wx_anewarray {o : Nat} {w : Int32} (N : Nat) (hc : zt_code M pc = some (.anewarray o, np, x, y, sw)) (h1 : ¬ w < 0) (hN : w.toNatClampNeg = N) (h2 : N ≤ 60000000) (kk : zm_wp d M np ls (.ref (zm_nx h) :: st) (zm_mk h x N (fun _ => zm_df x)) Q) : zm_wp d M pc ls (.int w :: st) h Q := by
  subst hN
  obtain ⟨n, r, h', hr, hq⟩ := kk
  exact ⟨n + 1, r, h', ⟨_, hc, ⟨h1, h2, hr⟩⟩, hq⟩
theorem wx_arraylength {a N : Nat} (hc : zt_code M pc = some (.arraylength, np, x, y, sw)) (ha : a < zm_nx h) (ht : (zt_at (zm_tg h a)).isSome = true) (hN : zm_ln h a = N) (kk : zm_wp d M np ls (.int (nI N) :: st) h Q) : zm_wp d M pc ls (.ref a :: st) h Q := by
  subst hN
  obtain ⟨n, r, h', hr, hq⟩ := kk
  exact ⟨n + 1, r, h', ⟨_, hc, ⟨ha, ht, hr⟩⟩, hq⟩
theorem wx_iaload {a j : Nat} {v : Value} (hc : zt_code M pc = some (.iaload, np, x, y, sw)) (ha : a < zm_nx h) (ht : zm_tg h a = 101) (hj : j < zm_ln h a) (hb : zm_ln h a < 2 ^ 31) (hv : zm_at h a j = v) (kk : zm_wp d M np ls (v :: st) h Q) : zm_wp d M pc ls (.int (nI j) :: .ref a :: st) h Q := by
  subst hv
  obtain ⟨n, r, h', hr, hq⟩ := kk
  refine ⟨n + 1, r, h', ⟨_, hc, ⟨ha, by rw [ht]; rfl, vp_in_nI hj hb, ?_⟩⟩, hq⟩
  rw [nI_clamp (Nat.lt_trans hj hb)]
  exact hr
theorem wx_baload {a j : Nat} {v : Value} (hc : zt_code M pc = some (.baload, np, x, y, sw)) (ha : a < zm_nx h) (ht : zm_tg h a = 100) (hj : j < zm_ln h a) (hb : zm_ln h a < 2 ^ 31) (hv : zm_at h a j = v) (kk : zm_wp d M np ls (v :: st) h Q) : zm_wp d M pc ls (.int (nI j) :: .ref a :: st) h Q := by
  subst hv
  obtain ⟨n, r, h', hr, hq⟩ := kk
  refine ⟨n + 1, r, h', ⟨_, hc, ⟨ha, by rw [ht]; rfl, vp_in_nI hj hb, ?_⟩⟩, hq⟩
  rw [nI_clamp (Nat.lt_trans hj hb)]
  exact hr
theorem wx_aaload {a j : Nat} {v : Value} (hc : zt_code M pc = some (.aaload, np, x, y, sw)) (ha : a < zm_nx h) (ht : zm_ro (zm_tg h a) = true) (hj : j < zm_ln h a) (hb : zm_ln h a < 2 ^ 31) (hv : zm_at h a j = v) (kk : zm_wp d M np ls (v :: st) h Q) : zm_wp d M pc ls (.int (nI j) :: .ref a :: st) h Q := by
  subst hv
  obtain ⟨n, r, h', hr, hq⟩ := kk
  refine ⟨n + 1, r, h', ⟨_, hc, ⟨ha, ht, vp_in_nI hj hb, ?_⟩⟩, hq⟩
  rw [nI_clamp (Nat.lt_trans hj hb)]
  exact hr
theorem wx_iastore {a j : Nat} {v : Int32} (hc : zt_code M pc = some (.iastore, np, x, y, sw)) (hi : zm_is h a 101) (hj : j < zm_ln h a) (hb : zm_ln h a < 2 ^ 31) (kk : zm_wp d M np ls st (zm_put h a j (.int v)) Q) : zm_wp d M pc ls (.int v :: .int (nI j) :: .ref a :: st) h Q := by
  obtain ⟨n, r, h', hr, hq⟩ := kk
  refine ⟨n + 1, r, h', ⟨_, hc, ⟨hi, vp_in_nI hj hb, ?_⟩⟩, hq⟩
  rw [nI_clamp (Nat.lt_trans hj hb)]
  exact hr
theorem wx_bastore {a j : Nat} {v : Int32} (hc : zt_code M pc = some (.bastore, np, x, y, sw)) (hi : zm_is h a 100) (hj : j < zm_ln h a) (hb : zm_ln h a < 2 ^ 31) (kk : zm_wp d M np ls st (zm_put h a j (.int v.toInt8.toInt32)) Q) : zm_wp d M pc ls (.int v :: .int (nI j) :: .ref a :: st) h Q := by
  obtain ⟨n, r, h', hr, hq⟩ := kk
  refine ⟨n + 1, r, h', ⟨_, hc, ⟨hi, vp_in_nI hj hb, ?_⟩⟩, hq⟩
  rw [nI_clamp (Nat.lt_trans hj hb)]
  exact hr
theorem wx_aastore {a b j t : Nat} (hc : zt_code M pc = some (.aastore, np, x, y, sw)) (hi : zm_is h a t) (ht : zm_ro t = true) (hb2 : zm_is h b (t - 200)) (hj : j < zm_ln h a) (hb : zm_ln h a < 2 ^ 31) (kk : zm_wp d M np ls st (zm_put h a j (.ref b)) Q) : zm_wp d M pc ls (.ref b :: .int (nI j) :: .ref a :: st) h Q := by
  obtain ⟨n, r, h', hr, hq⟩ := kk
  refine ⟨n + 1, r, h', ⟨_, hc, ⟨by rw [hi.2.2]; exact ht, ⟨hi.1, hi.2.1, rfl⟩, by rw [hi.2.2]; exact hb2, vp_in_nI hj hb, ?_⟩⟩, hq⟩
  rw [nI_clamp (Nat.lt_trans hj hb)]
  exact hr
theorem wx_max {o : Nat} {a b : Int32} (hc : zt_code M pc = some (.invokestatic o, np, 1001, y, sw)) (h4 : Nat.ble st.length 4 = true) (kk : zm_wp d M np ls (.int (if a < b then b else a) :: st) h Q) : zm_wp d M pc ls (.int b :: .int a :: st) h Q := by
  obtain ⟨n, r, h', hr, hq⟩ := kk
  exact ⟨n + 1, r, h', ⟨_, hc, ⟨Nat.le_of_ble_eq_true h4, hr⟩⟩, hq⟩
theorem wx_min {o : Nat} {a b : Int32} (hc : zt_code M pc = some (.invokestatic o, np, 1002, y, sw)) (h4 : Nat.ble st.length 4 = true) (kk : zm_wp d M np ls (.int (if b < a then b else a) :: st) h Q) : zm_wp d M pc ls (.int b :: .int a :: st) h Q := by
  obtain ⟨n, r, h', hr, hq⟩ := kk
  exact ⟨n + 1, r, h', ⟨_, hc, ⟨Nat.le_of_ble_eq_true h4, hr⟩⟩, hq⟩
theorem wx_copy {o a b sp dp w : Nat} (hc : zt_code M pc = some (.invokestatic o, np, 1003, y, sw)) (h4 : Nat.ble st.length 4 = true) (ia : zm_is h a 100) (ib : zm_is h b 100) (g1 : sp + w ≤ zm_ln h a) (g2 : dp + w ≤ zm_ln h b) (b1 : zm_ln h a < 2 ^ 31) (b2 : zm_ln h b < 2 ^ 31) (hf : ∀ i, i < w → zm_fit .byte (zm_at h a (sp + i)) = true) (kk : zm_wp d M np ls st (zm_cp h a sp b dp w) Q) : zm_wp d M pc ls (.int (nI w) :: .int (nI dp) :: .ref b :: .int (nI sp) :: .ref a :: st) h Q := by
  obtain ⟨n, r, h', hr, hq⟩ := kk
  have e1 : (nI w).toNatClampNeg = w := nI_clamp (by omega)
  have e2 : (nI dp).toNatClampNeg = dp := nI_clamp (by omega)
  have e3 : (nI sp).toNatClampNeg = sp := nI_clamp (by omega)
  refine ⟨n + 1, r, h', ⟨_, hc, ⟨Nat.le_of_ble_eq_true h4, ia, ib, nI_pos (by omega), nI_pos (by omega), nI_pos (by omega), by rw [e1, e3]; exact g1, by rw [e1, e2]; exact g2, by rw [e1, e3]; exact hf, ?_⟩⟩, hq⟩
  rw [e1, e2, e3]
  exact hr
theorem wx_static {o : Nat} (hc : zt_code M pc = some (.invokestatic o, np, x, y, sw)) (hx : Nat.blt x 1000 = true) (hn : Nat.ble y st.length = true) (h4 : Nat.ble (st.drop y).length 4 = true) (kk : zm_wc d x (zm_ar y st) h (fun r1 h1 => zm_wp d M np ls (r1.toList ++ st.drop y) h1 Q)) : zm_wp d M pc ls st h Q := by
  obtain ⟨r1, h1, hca, n, r, h', hr, hq⟩ := kk
  have hx : ¬ 1000 < x := by have := Nat.blt_eq.mp hx; omega
  refine ⟨n + 1, r, h', ⟨_, hc, ?_⟩, hq⟩
  show zm_ex (zm_ca d) _ np x y sw ls st h (zt_rt M) r h' (.invokestatic o)
  simp only [zm_ex, if_neg hx]
  exact ⟨Nat.le_of_ble_eq_true hn, Nat.le_of_ble_eq_true h4, r1, h1, hca, hr⟩
theorem wx_virtual {o a : Nat} (hc : zt_code M pc = some (.invokevirtual o, np, x, y, sw)) (ha : st[y]? = some (.ref a)) (hi : zm_is h a (zt_mc x)) (h4 : Nat.ble (st.drop (y + 1)).length 4 = true) (kk : zm_wc d x (zm_ar (y + 1) st) h (fun r1 h1 => zm_wp d M np ls (r1.toList ++ st.drop (y + 1)) h1 Q)) : zm_wp d M pc ls st h Q := by
  obtain ⟨r1, h1, hca, n, r, h', hr, hq⟩ := kk
  have hl : y + 1 ≤ st.length := (List.getElem?_eq_some_iff.mp ha).1
  exact ⟨n + 1, r, h', ⟨_, hc, ⟨⟨a, ha, hi⟩, hl, Nat.le_of_ble_eq_true h4, r1, h1, hca, hr⟩⟩, hq⟩
theorem wx_special {o a : Nat} (hc : zt_code M pc = some (.invokespecial o, np, x, y, sw)) (hx : Nat.blt x 1000 = true) (ha : st[y]? = some (.ref a)) (h4 : Nat.ble (st.drop (y + 1)).length 4 = true) (kk : zm_wc d x (zm_ar (y + 1) st) h (fun r1 h1 => zm_wp d M np ls (r1.toList ++ st.drop (y + 1)) h1 Q)) : zm_wp d M pc ls st h Q := by
  obtain ⟨r1, h1, hca, n, r, h', hr, hq⟩ := kk
  have hl : y + 1 ≤ st.length := (List.getElem?_eq_some_iff.mp ha).1
  have hx : ¬ x = 1000 := by have := Nat.blt_eq.mp hx; omega
  refine ⟨n + 1, r, h', ⟨_, hc, ?_⟩, hq⟩
  show zm_ex (zm_ca d) _ np x y sw ls st h (zt_rt M) r h' (.invokespecial o)
  simp only [zm_ex, if_neg hx]
  exact ⟨⟨a, ha⟩, hl, Nat.le_of_ble_eq_true h4, r1, h1, hca, hr⟩
theorem wx_objinit {o a : Nat} (hc : zt_code M pc = some (.invokespecial o, np, 1000, y, sw)) (h4 : Nat.ble st.length 4 = true) (kk : zm_wp d M np ls st h Q) : zm_wp d M pc ls (.ref a :: st) h Q := by
  obtain ⟨n, r, h', hr, hq⟩ := kk
  exact ⟨n + 1, r, h', ⟨_, hc, ⟨Nat.le_of_ble_eq_true h4, hr⟩⟩, hq⟩
theorem wx_ireturn {v : Int32} {ty : FieldType} (hc : zt_code M pc = some (.ireturn, np, x, y, sw)) (ht : zt_rt M = some ty) (hf : zm_fit ty (.int v) = true) (hq : Q (some (.int v)) h) : zm_wp d M pc ls [.int v] h Q := ⟨1, _, _, ⟨_, hc, ⟨rfl, rfl, ty, ht, hf⟩⟩, hq⟩
theorem wx_areturn {v : Value} {ty : FieldType} (hc : zt_code M pc = some (.areturn, np, x, y, sw)) (hk : zm_isK 2 v = true) (ht : zt_rt M = some ty) (hf : zm_fit ty v = true) (hq : Q (some v) h) : zm_wp d M pc ls [v] h Q := ⟨1, _, _, ⟨_, hc, ⟨rfl, rfl, hk, ty, ht, hf⟩⟩, hq⟩
theorem wx_return (hc : zt_code M pc = some (.return_, np, x, y, sw)) (ht : zt_rt M = none) (hq : Q none h) : zm_wp d M pc ls [] h Q := ⟨1, _, _, ⟨_, hc, ⟨rfl, rfl, rfl, ht⟩⟩, hq⟩
end
end
section
/-! THE CLAIM OUT OF ONE WALK OF THE LAW'S BODY. Your part is whole_start (and what it stands on); all else here is the same for every law, but numbers. -/
def R_law : String := "NameTreeLaw"
def lw_P (b : Addr) (xs : List Int32) (args : Array Value) (s : State) : Prop := args = #[.ref b] ∧ s.IntsAt b xs ∧ xs.length ≤ 2048 ∧ (Jvm.Cond.and given_1 narrow_1).before args s = true
def lw_Q (_ : Array Value) (s : State) (o : Outcome) (t : State) : Prop := o = .returned (some (.int 1)) ∧ Framed s o t [] 600000 7302250
def lw_Z (below : List Frame) (a : Array Value) (s : State) : State → Prop := fun t => ∃ o, t.status = .running ∧ Ended t below o ∧ lw_Q a s o t
/-- the law's own end, with 1 on the stack, nothing written that was there before, its room as the claim has it -/
theorem lw_ret {p : Program} {l : Launch} {e : Env} {s : State} {m : MethodId} {below : List Frame} {meth : Method} {c : Code} {b : Nat} (hx : p.tables.exec = Jvm.exec) (hb : c.code = code) (hr : meth.sig.returnType = ret) (hlocks : meth.locks = false) {pc : Nat} {H : Heap} {ls : Array Slot} (hdg : decode code pc = .ok (.ireturn, 1)) : W p l e room_1 s m #[Value.ref b] below meth c H [] 600000 7302250 (lw_Z below #[Value.ref b] s) (F0 m pc ls [.int 1]) := by
  intro T hT X
  obtain ⟨fs, hret, hrun, hended, hW, hframe⟩ := X.leave (v := some (.int 1)) (hlocks := hlocks) (fun h => by rw [hr] at h; cases h)
  have hmeth' : T.vm.method? m = some meth := X.method'
  refine ⟨T.setFrames fs, ?_, .returned (some (.int 1)), hrun, hended, rfl, ⟨_, rfl⟩, hW, hframe⟩
  jvm_step X.here [X.here.top, hx, hb, hdg, hmeth', hr, ret, narrow_b1]
  (try refine ⟨rfl, ?_⟩); (try refine ⟨rfl, ?_⟩)
  first | (intro acts; rw [hret _ acts rfl rfl rfl]) | rw [hret _ _ rfl rfl rfl]
  exact Steps.refl _
/-- what holds at the law's entry: the machine, the code, the tables' words (any of lw_tbl by 'hts w (by decide +kernel)'), the script of L ints xs at the cell b, what the Statement gives of the start (any of its parts by flat_of_before) -/
def lw_At (p : Program) (s : State) (m : MethodId) (meth : Method) (c : Code) (b L : Nat) (xs : Nat → Int32) : Prop :=
  p.tables.exec = Jvm.exec ∧ c.code = code ∧ meth.sig.returnType = ret ∧ c.maxLocals = 4 ∧ s.vm.findClass R_law = some m.cls ∧ (∀ w ∈ lw_tbl, w.before #[Value.ref b] s = true) ∧ va_X b L xs s s.heap ∧ b < s.heap.size ∧ meth.locks = false ∧ (Jvm.Cond.and given_1 narrow_1).before #[Value.ref b] s = true
end
section
/-- the heap with which the small machine begins: the script alone -/
def zm_h0 (L : Nat) (xs : Nat → Int32) : zm_H := (1, 0, fun _ => (101, L), fun _ j => .int (xs j))
theorem zm_arrP {s : State} {args : Array Value} {ty : FieldType} (h : (Jvm.Cond.arrayClass ty).before args s = true) : ∃ cA, ArrOfT s cA ty ∧ s.vm.findClass ("[" ++ ty.toString) = some cA := by
  obtain ⟨c, k, comp, h1, h2, h3⟩ := Cond.arrayClass_spec h
  exact ⟨c, fun n z => ⟨fun k h => (by cases h), k, h2, comp, h3⟩, h1⟩
theorem zm_arrO {s : State} {args : Array Value} {C : String} (h : (Jvm.Cond.arrayOver (.object C)).before args s = true) : ∃ cA, ArrOfT s cA (.object C) ∧ va_RA s cA (.object C) := by
  obtain ⟨comp, c, k, h1, h2, h3, h4, h5⟩ := Cond.arrayOver_spec h
  exact ⟨c, fun n z => ⟨fun k h => (by cases h), k, h3, comp, h4⟩, k, comp, h3, h4, h1, h5⟩
set_option maxHeartbeats 4000000 in
set_option maxRecDepth 100000 in
theorem zm_K0 {s : State} {args : Array Value} (b off : Nat) (hts : ∀ w ∈ lw_tbl, w.before args s = true) : ∃ dC dI dA, zm_K (dC, dI, dA, b, off) s := by
  have hz : ∀ w ∈ zt_ws, w.before args s = true := fun w hw => hts w (List.mem_filter.mp hw).1
  obtain ⟨c0, i0, k0⟩ := u_known (C := ztC0) (T := ztF0) (N := 2) (n := 2) hz zu_0 (hz _ (zt_m1 37 rfl rfl))
  obtain ⟨c1, i1, k1⟩ := u_known (C := ztC1) (T := ztF1) (N := 4) (n := 4) hz zu_1 (hz _ (zt_m1 114 rfl rfl))
  obtain ⟨c2, i2, k2⟩ := u_known (C := ztC2) (T := ztF2) (N := 2) (n := 2) hz zu_2 (hz _ (zt_m1 107 rfl rfl))
  obtain ⟨c3, i3, k3⟩ := u_known (C := ztC3) (T := ztF3) (N := 3) (n := 3) hz zu_3 (hz _ (zt_m1 150 rfl rfl))
  obtain ⟨c4, i4, k4⟩ := u_known (C := ztC4) (T := ztF4) (N := 2) (n := 2) hz zu_4 (hz _ (zt_m1 21 rfl rfl))
  obtain ⟨c5, i5, k5⟩ := u_known (C := ztC5) (T := ztF5) (N := 9) (n := 9) hz zu_5 (hz _ (zt_m1 44 rfl rfl))
  obtain ⟨c6, i6, k6⟩ := u_known (C := ztC6) (T := ztF6) (N := 11) (n := 11) hz zu_6 (hz _ (zt_m1 143 rfl rfl))
  obtain ⟨c7, i7, k7⟩ := u_known (C := ztC7) (T := ztF7) (N := 6) (n := 6) hz zu_7 (hz _ (zt_m1 13 rfl rfl))
  obtain ⟨c8, i8, k8⟩ := u_known (C := ztC8) (T := ztF8) (N := 22) (n := 22) hz zu_8 (hz _ (zt_m3 13 rfl rfl))
  obtain ⟨aB, aB1, aB2⟩ := zm_arrP (hz _ (zt_m1 35 rfl rfl))
  obtain ⟨aI, aI1, aI2⟩ := zm_arrP (hz _ (zt_m3 87 rfl rfl))
  have o201 := hts (.arrayOver (.object "NameTree$NameRow")) (List.mem_append_right _ (List.mem_append_left _ (List.mem_of_getElem? (i := 113) rfl)))
  obtain ⟨a201, b201⟩ := zm_arrO o201
  have o203 := hts (.arrayOver (.object "NameTree$Span")) (List.mem_append_right _ (List.mem_append_left _ (List.mem_of_getElem? (i := 149) rfl)))
  obtain ⟨a203, b203⟩ := zm_arrO o203
  have o205 := hts (.arrayOver (.object "NameTree$TreeFile")) (List.mem_append_right _ (List.mem_append_left _ (List.mem_of_getElem? (i := 43) rfl)))
  obtain ⟨a205, b205⟩ := zm_arrO o205
  refine ⟨fun k => if k = 0 then c0 else if k = 1 then c1 else if k = 2 then c2 else if k = 3 then c3 else if k = 4 then c4 else if k = 5 then c5 else if k = 6 then c6 else if k = 7 then c7 else c8, fun k => if k = 0 then i0 else if k = 1 then i1 else if k = 2 then i2 else if k = 3 then i3 else if k = 4 then i4 else if k = 5 then i5 else if k = 6 then i6 else if k = 7 then i7 else i8, fun t => if t = 100 then aB else if t = 101 then aI else if t = 201 then a201 else if t = 203 then a203 else if t = 205 then a205 else aB, ?_, ?_, ?_, ?_⟩
  · intro k q hq
    match k, hq with
    | 0, hq => cases hq; exact k0
    | 1, hq => cases hq; exact k1
    | 2, hq => cases hq; exact k2
    | 3, hq => cases hq; exact k3
    | 4, hq => cases hq; exact k4
    | 5, hq => cases hq; exact k5
    | 6, hq => cases hq; exact k6
    | 7, hq => cases hq; exact k7
    | 8, hq => cases hq; exact k8
    | k + 9, hq => simp [zt_cl] at hq
  · intro t ty ht
    rcases zt_at_in t ty ht with rfl | rfl | rfl | rfl | rfl
    · cases ht; exact ⟨aB1, aB2⟩
    · cases ht; exact ⟨aI1, aI2⟩
    · cases ht; exact b201
    · cases ht; exact b203
    · cases ht; exact b205
  · intro C hC
    simp only [zt_ao, List.mem_cons, List.not_mem_nil, or_false] at hC
    rcases hC with rfl | rfl | rfl
    · exact va_AO.of o201
    · exact va_AO.of o203
    · exact va_AO.of o205
  · intro q hq
    simp only [zt_nm2, List.mem_cons, List.not_mem_nil, or_false] at hq
    rcases hq with rfl | rfl | rfl | rfl | rfl | rfl | rfl
    · exact va_Nw.of rfl (hts _ (List.mem_append_right _ (List.mem_append_right _ (List.mem_append_left _ (List.mem_of_getElem? (i := 135) rfl)))))
    · exact va_Nw.of rfl (hts _ (List.mem_append_right _ (List.mem_append_left _ (List.mem_of_getElem? (i := 115) rfl))))
    · exact va_Nw.of rfl (hts _ (List.mem_append_right _ (List.mem_append_right _ (List.mem_append_left _ (List.mem_of_getElem? (i := 167) rfl)))))
    · exact va_Nw.of rfl (hts _ (List.mem_append_right _ (List.mem_append_right _ (List.mem_append_left _ (List.mem_of_getElem? (i := 16) rfl)))))
    · exact va_Nw.of rfl (hts _ (List.mem_append_right _ (List.mem_append_right _ (List.mem_append_left _ (List.mem_of_getElem? (i := 19) rfl)))))
    · exact va_Nw.of rfl (hts _ (List.mem_append_right _ (List.mem_append_left _ (List.mem_of_getElem? (i := 151) rfl))))
    · exact va_Nw.of rfl (hts _ (List.mem_append_right _ (List.mem_append_left _ (List.mem_of_getElem? (i := 22) rfl))))
set_option maxRecDepth 100000 in
theorem zm_start {p : Program} {e : Env} {s : State} {m : MethodId} {below : List Frame} {meth : Method} {c : Code} (l : Launch) {b L d : Nat} {xs : Nat → Int32} (C0 : lw_At p s m meth c b L xs) (hp : zm_wp d 0 0 (zm_lo [.ref 0] 4) [] (zm_h0 L xs) (fun r h' => r = some (.int 1) ∧ zm_nx h' ≤ 600001 ∧ zm_sl h' ≤ 7302250)) : W p l e room_1 s m #[Value.ref b] below meth c s.heap [] 0 0 (lw_Z below #[Value.ref b] s) (entryFrame m ([Value.ref b] : List Value).toArray 4) := by
  obtain ⟨hx, hb, hr, hml, hown, hts, hX, hbl, hlocks, hgv⟩ := id C0
  obtain ⟨n, r, h', hrn, rfl, hcl, hsl⟩ := hp
  obtain ⟨dC, dI, dA, hK⟩ := zm_K0 b (s.heap.size - 1) hts
  obtain ⟨scr, x1, x2, x3, x4, x5⟩ := hX
  have X : zm_Cx (dC, dI, dA, b, s.heap.size - 1) p room_1 s m #[Value.ref b] meth c 0 := ⟨hx, hb, hml, hown, fun w hw => hts w (List.mem_filter.mp hw).1, hK, by decide, by decide, fun z => absurd z (by decide)⟩
  have hw : zm_wl (dC, dI, dA, b, s.heap.size - 1) s (zm_h0 L xs) s.heap := by
    refine ⟨?_, Nat.le_refl 1, ?_, rfl, ⟨scr, x1, x2, x3, x4, x5⟩, fun a h1 h2 => ?_⟩
    · show s.heap.size = s.heap.size - 1 + 1
      omega
    · show b ≤ s.heap.size - 1
      omega
    · have h2 : a < 1 := h2
      omega
  have he := zm_lr_entry (G := (dC, dI, dA, b, s.heap.size - 1)) (args := [.ref 0]) (n := 4) (by decide)
  have hb0 : [Value.ref b] = ([Value.ref 0] : List Value).map (zm_cv (dC, dI, dA, b, s.heap.size - 1)) := rfl
  rw [hb0, lg_entry_eq]
  have z1 : zm_nx (zm_h0 L xs) = 1 := rfl
  have z2 : zm_sl (zm_h0 L xs) = 0 := rfl
  have z3 : room_1.cells = 600000 := rfl
  have z4 : room_1.slots = 7302250 := rfl
  refine zm_body (h0 := zm_h0 L xs) (h' := h') (r := some (.int 1)) X ⟨by rw [z1, z3]; omega, by rw [z2, z4]; omega⟩ (fun x a h r1 h1 z => zm_sim l _ d x a h r1 h1 z) ?_ n 0 _ [] _ _ _ _ _ _ hrn he ⟨hw, va_S.rf, rfl, rfl⟩
  intro k i pc st hh lsA H locs cells slots hi hex hdg hd
  obtain ⟨w1, w2, w3, w4⟩ := hd
  have hA : ∀ q ∈ locs, s.heap.size ≤ q.base := fun q hq => by
    have := w2.2.2 q hq
    have : s.heap.size - 1 < q.base := this
    omega
  rcases hi with rfl | rfl | rfl
  · have hex := hex 0 0 0 [] []
    match st, hex with
    | [.int v], hex =>
      obtain ⟨e1, rfl, ty, ht, hf⟩ := hex
      cases e1
      refine va_forget hA ?_
      rw [z1] at w3
      rw [z2] at w4
      refine W.widen (k := 600000) (n := 7302250) (by omega) (by omega) ?_
      exact lw_ret hx hb hr hlocks hdg
  · have hex := hex 0 0 0 [] []
    match st, hex with
    | [v], hex =>
      obtain ⟨e1, -, hk, -⟩ := hex
      cases e1
      cases hk
  · obtain ⟨-, e1, -⟩ := hex 0 0 0 [] []
    cases e1
end
section
theorem kc0_0 : zt_code 0 0 = some (.new 7, 3, 7, 6, []) := rfl
theorem kc0_3 : zt_code 0 3 = some (.dup, 4, 0, 0, []) := rfl
theorem kc0_4 : zt_code 0 4 = some (.invokespecial 9, 7, 45, 0, []) := rfl
theorem kc0_7 : zt_code 0 7 = some (.astore_n 1, 8, 0, 0, []) := rfl
theorem kc0_8 : zt_code 0 8 = some (.new 10, 11, 8, 22, []) := rfl
theorem kc0_11 : zt_code 0 11 = some (.dup, 12, 0, 0, []) := rfl
theorem kc0_12 : zt_code 0 12 = some (.invokespecial 12, 15, 73, 0, []) := rfl
theorem kc0_15 : zt_code 0 15 = some (.astore_n 2, 16, 0, 0, []) := rfl
theorem kc0_16 : zt_code 0 16 = some (.iconst 0, 17, 0, 0, []) := rfl
theorem kc0_17 : zt_code 0 17 = some (.istore_n 3, 18, 0, 0, []) := rfl
theorem kc0_18 : zt_code 0 18 = some (.iload_n 3, 19, 0, 0, []) := rfl
theorem kc0_19 : zt_code 0 19 = some (.aload_n 0, 20, 0, 0, []) := rfl
theorem kc0_20 : zt_code 0 20 = some (.arraylength, 21, 0, 0, []) := rfl
theorem kc0_21 : zt_code 0 21 = some (.iconst 4, 22, 0, 0, []) := rfl
theorem kc0_22 : zt_code 0 22 = some (.isub, 23, 0, 0, []) := rfl
theorem kc0_23 : zt_code 0 23 = some (.if_icmp .gt 462, 26, 485, 0, []) := rfl
theorem kc0_26 : zt_code 0 26 = some (.aload_n 0, 27, 0, 0, []) := rfl
theorem kc0_27 : zt_code 0 27 = some (.iload_n 3, 28, 0, 0, []) := rfl
theorem kc0_28 : zt_code 0 28 = some (.iaload, 29, 0, 0, []) := rfl
theorem kc0_29 : zt_code 0 29 = some (.bipush 15, 31, 0, 0, []) := rfl
theorem kc0_31 : zt_code 0 31 = some (.iand, 32, 0, 0, []) := rfl
theorem kc0_32 : zt_code 0 32 = some (.tableswitch 447 0 14 #[76, 139, 172, 195, 218, 231, 244, 257, 270, 283, 322, 335, 358, 391, 424], 108, 479, 0, [(0, 108), (1, 171), (2, 204), (3, 227), (4, 250), (5, 263), (6, 276), (7, 289), (8, 302), (9, 315), (10, 354), (11, 367), (12, 390), (13, 423), (14, 456)]) := rfl
theorem kc0_108 : zt_code 0 108 = some (.aload_n 1, 109, 0, 0, []) := rfl
theorem kc0_109 : zt_code 0 109 = some (.aload_n 0, 110, 0, 0, []) := rfl
theorem kc0_110 : zt_code 0 110 = some (.iload_n 3, 111, 0, 0, []) := rfl
theorem kc0_111 : zt_code 0 111 = some (.iconst 1, 112, 0, 0, []) := rfl
theorem kc0_112 : zt_code 0 112 = some (.iadd, 113, 0, 0, []) := rfl
theorem kc0_113 : zt_code 0 113 = some (.iaload, 114, 0, 0, []) := rfl
theorem kc0_114 : zt_code 0 114 = some (.i2l, 115, 0, 0, []) := rfl
theorem kc0_115 : zt_code 0 115 = some (.bipush 32, 117, 0, 0, []) := rfl
theorem kc0_117 : zt_code 0 117 = some (.lshl, 118, 0, 0, []) := rfl
theorem kc0_118 : zt_code 0 118 = some (.aload_n 0, 119, 0, 0, []) := rfl
theorem kc0_119 : zt_code 0 119 = some (.iload_n 3, 120, 0, 0, []) := rfl
theorem kc0_120 : zt_code 0 120 = some (.iconst 2, 121, 0, 0, []) := rfl
theorem kc0_121 : zt_code 0 121 = some (.iadd, 122, 0, 0, []) := rfl
theorem kc0_122 : zt_code 0 122 = some (.iaload, 123, 0, 0, []) := rfl
theorem kc0_123 : zt_code 0 123 = some (.i2l, 124, 0, 0, []) := rfl
theorem kc0_124 : zt_code 0 124 = some (.ldc2_w 13, 127, 0, 0, [(4294967295, 0)]) := rfl
theorem kc0_127 : zt_code 0 127 = some (.land, 128, 0, 0, []) := rfl
theorem kc0_128 : zt_code 0 128 = some (.lor, 129, 0, 0, []) := rfl
theorem kc0_129 : zt_code 0 129 = some (.aload_n 0, 130, 0, 0, []) := rfl
theorem kc0_130 : zt_code 0 130 = some (.iload_n 3, 131, 0, 0, []) := rfl
theorem kc0_131 : zt_code 0 131 = some (.iconst 3, 132, 0, 0, []) := rfl
theorem kc0_132 : zt_code 0 132 = some (.iadd, 133, 0, 0, []) := rfl
theorem kc0_133 : zt_code 0 133 = some (.iaload, 134, 0, 0, []) := rfl
theorem kc0_134 : zt_code 0 134 = some (.invokevirtual 15, 137, 46, 2, []) := rfl
theorem kc0_137 : zt_code 0 137 = some (.aload_n 2, 138, 0, 0, []) := rfl
theorem kc0_138 : zt_code 0 138 = some (.aload_n 0, 139, 0, 0, []) := rfl
theorem kc0_139 : zt_code 0 139 = some (.iload_n 3, 140, 0, 0, []) := rfl
theorem kc0_140 : zt_code 0 140 = some (.iconst 1, 141, 0, 0, []) := rfl
theorem kc0_141 : zt_code 0 141 = some (.iadd, 142, 0, 0, []) := rfl
theorem kc0_142 : zt_code 0 142 = some (.iaload, 143, 0, 0, []) := rfl
theorem kc0_143 : zt_code 0 143 = some (.i2l, 144, 0, 0, []) := rfl
theorem kc0_144 : zt_code 0 144 = some (.bipush 32, 146, 0, 0, []) := rfl
theorem kc0_146 : zt_code 0 146 = some (.lshl, 147, 0, 0, []) := rfl
theorem kc0_147 : zt_code 0 147 = some (.aload_n 0, 148, 0, 0, []) := rfl
theorem kc0_148 : zt_code 0 148 = some (.iload_n 3, 149, 0, 0, []) := rfl
theorem kc0_149 : zt_code 0 149 = some (.iconst 2, 150, 0, 0, []) := rfl
theorem kc0_150 : zt_code 0 150 = some (.iadd, 151, 0, 0, []) := rfl
theorem kc0_151 : zt_code 0 151 = some (.iaload, 152, 0, 0, []) := rfl
theorem kc0_152 : zt_code 0 152 = some (.i2l, 153, 0, 0, []) := rfl
theorem kc0_153 : zt_code 0 153 = some (.ldc2_w 13, 156, 0, 0, [(4294967295, 0)]) := rfl
theorem kc0_156 : zt_code 0 156 = some (.land, 157, 0, 0, []) := rfl
theorem kc0_157 : zt_code 0 157 = some (.lor, 158, 0, 0, []) := rfl
theorem kc0_158 : zt_code 0 158 = some (.aload_n 0, 159, 0, 0, []) := rfl
theorem kc0_159 : zt_code 0 159 = some (.iload_n 3, 160, 0, 0, []) := rfl
theorem kc0_160 : zt_code 0 160 = some (.iconst 3, 161, 0, 0, []) := rfl
theorem kc0_161 : zt_code 0 161 = some (.iadd, 162, 0, 0, []) := rfl
theorem kc0_162 : zt_code 0 162 = some (.iaload, 163, 0, 0, []) := rfl
theorem kc0_163 : zt_code 0 163 = some (.invokevirtual 19, 166, 74, 2, []) := rfl
theorem kc0_166 : zt_code 0 166 = some (.if_icmp .eq 313, 169, 479, 0, []) := rfl
theorem kc0_169 : zt_code 0 169 = some (.iconst 0, 170, 0, 0, []) := rfl
theorem kc0_170 : zt_code 0 170 = some (.ireturn, 171, 0, 0, []) := rfl
theorem kc0_171 : zt_code 0 171 = some (.aload_n 1, 172, 0, 0, []) := rfl
theorem kc0_172 : zt_code 0 172 = some (.aload_n 0, 173, 0, 0, []) := rfl
theorem kc0_173 : zt_code 0 173 = some (.iload_n 3, 174, 0, 0, []) := rfl
theorem kc0_174 : zt_code 0 174 = some (.iconst 1, 175, 0, 0, []) := rfl
theorem kc0_175 : zt_code 0 175 = some (.iadd, 176, 0, 0, []) := rfl
theorem kc0_176 : zt_code 0 176 = some (.iaload, 177, 0, 0, []) := rfl
theorem kc0_177 : zt_code 0 177 = some (.aload_n 0, 178, 0, 0, []) := rfl
theorem kc0_178 : zt_code 0 178 = some (.iload_n 3, 179, 0, 0, []) := rfl
set_option maxRecDepth 20000 in
theorem kc0_179 : zt_code 0 179 = some (.iconst 2, 180, 0, 0, []) := rfl
set_option maxRecDepth 20000 in
theorem kc0_180 : zt_code 0 180 = some (.iadd, 181, 0, 0, []) := rfl
set_option maxRecDepth 20000 in
theorem kc0_181 : zt_code 0 181 = some (.iaload, 182, 0, 0, []) := rfl
set_option maxRecDepth 20000 in
theorem kc0_182 : zt_code 0 182 = some (.invokevirtual 20, 185, 47, 2, []) := rfl
set_option maxRecDepth 20000 in
theorem kc0_185 : zt_code 0 185 = some (.aload_n 2, 186, 0, 0, []) := rfl
set_option maxRecDepth 20000 in
theorem kc0_186 : zt_code 0 186 = some (.aload_n 0, 187, 0, 0, []) := rfl
set_option maxRecDepth 20000 in
theorem kc0_187 : zt_code 0 187 = some (.iload_n 3, 188, 0, 0, []) := rfl
set_option maxRecDepth 20000 in
theorem kc0_188 : zt_code 0 188 = some (.iconst 1, 189, 0, 0, []) := rfl
set_option maxRecDepth 20000 in
theorem kc0_189 : zt_code 0 189 = some (.iadd, 190, 0, 0, []) := rfl
set_option maxRecDepth 20000 in
theorem kc0_190 : zt_code 0 190 = some (.iaload, 191, 0, 0, []) := rfl
set_option maxRecDepth 20000 in
theorem kc0_191 : zt_code 0 191 = some (.aload_n 0, 192, 0, 0, []) := rfl
set_option maxRecDepth 20000 in
theorem kc0_192 : zt_code 0 192 = some (.iload_n 3, 193, 0, 0, []) := rfl
set_option maxRecDepth 20000 in
theorem kc0_193 : zt_code 0 193 = some (.iconst 2, 194, 0, 0, []) := rfl
set_option maxRecDepth 20000 in
theorem kc0_194 : zt_code 0 194 = some (.iadd, 195, 0, 0, []) := rfl
set_option maxRecDepth 20000 in
theorem kc0_195 : zt_code 0 195 = some (.iaload, 196, 0, 0, []) := rfl
set_option maxRecDepth 20000 in
theorem kc0_196 : zt_code 0 196 = some (.invokevirtual 24, 199, 75, 2, []) := rfl
set_option maxRecDepth 20000 in
theorem kc0_199 : zt_code 0 199 = some (.if_icmp .eq 280, 202, 479, 0, []) := rfl
set_option maxRecDepth 20000 in
theorem kc0_202 : zt_code 0 202 = some (.iconst 0, 203, 0, 0, []) := rfl
set_option maxRecDepth 20000 in
theorem kc0_203 : zt_code 0 203 = some (.ireturn, 204, 0, 0, []) := rfl
set_option maxRecDepth 20000 in
theorem kc0_204 : zt_code 0 204 = some (.aload_n 1, 205, 0, 0, []) := rfl
set_option maxRecDepth 20000 in
theorem kc0_205 : zt_code 0 205 = some (.aload_n 0, 206, 0, 0, []) := rfl
set_option maxRecDepth 20000 in
theorem kc0_206 : zt_code 0 206 = some (.iload_n 3, 207, 0, 0, []) := rfl
set_option maxRecDepth 20000 in
theorem kc0_207 : zt_code 0 207 = some (.iconst 1, 208, 0, 0, []) := rfl
set_option maxRecDepth 20000 in
theorem kc0_208 : zt_code 0 208 = some (.iadd, 209, 0, 0, []) := rfl
set_option maxRecDepth 20000 in
theorem kc0_209 : zt_code 0 209 = some (.iaload, 210, 0, 0, []) := rfl
set_option maxRecDepth 20000 in
theorem kc0_210 : zt_code 0 210 = some (.invokevirtual 25, 213, 48, 1, []) := rfl
set_option maxRecDepth 20000 in
theorem kc0_213 : zt_code 0 213 = some (.aload_n 2, 214, 0, 0, []) := rfl
set_option maxRecDepth 20000 in
theorem kc0_214 : zt_code 0 214 = some (.aload_n 0, 215, 0, 0, []) := rfl
set_option maxRecDepth 20000 in
theorem kc0_215 : zt_code 0 215 = some (.iload_n 3, 216, 0, 0, []) := rfl
set_option maxRecDepth 20000 in
theorem kc0_216 : zt_code 0 216 = some (.iconst 1, 217, 0, 0, []) := rfl
set_option maxRecDepth 20000 in
theorem kc0_217 : zt_code 0 217 = some (.iadd, 218, 0, 0, []) := rfl
set_option maxRecDepth 20000 in
theorem kc0_218 : zt_code 0 218 = some (.iaload, 219, 0, 0, []) := rfl
set_option maxRecDepth 20000 in
theorem kc0_219 : zt_code 0 219 = some (.invokevirtual 29, 222, 93, 1, []) := rfl
set_option maxRecDepth 20000 in
theorem kc0_222 : zt_code 0 222 = some (.if_icmp .eq 257, 225, 479, 0, []) := rfl
set_option maxRecDepth 20000 in
theorem kc0_225 : zt_code 0 225 = some (.iconst 0, 226, 0, 0, []) := rfl
set_option maxRecDepth 20000 in
theorem kc0_226 : zt_code 0 226 = some (.ireturn, 227, 0, 0, []) := rfl
set_option maxRecDepth 20000 in
theorem kc0_227 : zt_code 0 227 = some (.aload_n 1, 228, 0, 0, []) := rfl
set_option maxRecDepth 20000 in
theorem kc0_228 : zt_code 0 228 = some (.aload_n 0, 229, 0, 0, []) := rfl
set_option maxRecDepth 20000 in
theorem kc0_229 : zt_code 0 229 = some (.iload_n 3, 230, 0, 0, []) := rfl
set_option maxRecDepth 20000 in
theorem kc0_230 : zt_code 0 230 = some (.iconst 1, 231, 0, 0, []) := rfl
set_option maxRecDepth 20000 in
theorem kc0_231 : zt_code 0 231 = some (.iadd, 232, 0, 0, []) := rfl
set_option maxRecDepth 20000 in
theorem kc0_232 : zt_code 0 232 = some (.iaload, 233, 0, 0, []) := rfl
set_option maxRecDepth 20000 in
theorem kc0_233 : zt_code 0 233 = some (.invokevirtual 30, 236, 49, 1, []) := rfl
set_option maxRecDepth 20000 in
theorem kc0_236 : zt_code 0 236 = some (.aload_n 2, 237, 0, 0, []) := rfl
set_option maxRecDepth 20000 in
theorem kc0_237 : zt_code 0 237 = some (.aload_n 0, 238, 0, 0, []) := rfl
set_option maxRecDepth 20000 in
theorem kc0_238 : zt_code 0 238 = some (.iload_n 3, 239, 0, 0, []) := rfl
set_option maxRecDepth 20000 in
theorem kc0_239 : zt_code 0 239 = some (.iconst 1, 240, 0, 0, []) := rfl
set_option maxRecDepth 20000 in
theorem kc0_240 : zt_code 0 240 = some (.iadd, 241, 0, 0, []) := rfl
set_option maxRecDepth 20000 in
theorem kc0_241 : zt_code 0 241 = some (.iaload, 242, 0, 0, []) := rfl
set_option maxRecDepth 20000 in
theorem kc0_242 : zt_code 0 242 = some (.invokevirtual 33, 245, 95, 1, []) := rfl
set_option maxRecDepth 20000 in
theorem kc0_245 : zt_code 0 245 = some (.if_icmp .eq 234, 248, 479, 0, []) := rfl
set_option maxRecDepth 20000 in
theorem kc0_248 : zt_code 0 248 = some (.iconst 0, 249, 0, 0, []) := rfl
set_option maxRecDepth 20000 in
theorem kc0_249 : zt_code 0 249 = some (.ireturn, 250, 0, 0, []) := rfl
set_option maxRecDepth 20000 in
theorem kc0_250 : zt_code 0 250 = some (.aload_n 1, 251, 0, 0, []) := rfl
set_option maxRecDepth 20000 in
theorem kc0_251 : zt_code 0 251 = some (.invokevirtual 34, 254, 50, 0, []) := rfl
set_option maxRecDepth 20000 in
theorem kc0_254 : zt_code 0 254 = some (.aload_n 2, 255, 0, 0, []) := rfl
set_option maxRecDepth 20000 in
theorem kc0_255 : zt_code 0 255 = some (.invokevirtual 38, 258, 96, 0, []) := rfl
set_option maxRecDepth 20000 in
theorem kc0_258 : zt_code 0 258 = some (.if_icmp .eq 221, 261, 479, 0, []) := rfl
set_option maxRecDepth 20000 in
theorem kc0_261 : zt_code 0 261 = some (.iconst 0, 262, 0, 0, []) := rfl
set_option maxRecDepth 20000 in
theorem kc0_262 : zt_code 0 262 = some (.ireturn, 263, 0, 0, []) := rfl
set_option maxRecDepth 20000 in
theorem kc0_263 : zt_code 0 263 = some (.aload_n 1, 264, 0, 0, []) := rfl
set_option maxRecDepth 20000 in
theorem kc0_264 : zt_code 0 264 = some (.invokevirtual 39, 267, 51, 0, []) := rfl
set_option maxRecDepth 20000 in
theorem kc0_267 : zt_code 0 267 = some (.aload_n 2, 268, 0, 0, []) := rfl
set_option maxRecDepth 20000 in
theorem kc0_268 : zt_code 0 268 = some (.invokevirtual 42, 271, 97, 0, []) := rfl
set_option maxRecDepth 20000 in
theorem kc0_271 : zt_code 0 271 = some (.if_icmp .eq 208, 274, 479, 0, []) := rfl
set_option maxRecDepth 20000 in
theorem kc0_274 : zt_code 0 274 = some (.iconst 0, 275, 0, 0, []) := rfl
set_option maxRecDepth 20000 in
theorem kc0_275 : zt_code 0 275 = some (.ireturn, 276, 0, 0, []) := rfl
set_option maxRecDepth 20000 in
theorem kc0_276 : zt_code 0 276 = some (.aload_n 1, 277, 0, 0, []) := rfl
set_option maxRecDepth 20000 in
theorem kc0_277 : zt_code 0 277 = some (.invokevirtual 43, 280, 52, 0, []) := rfl
set_option maxRecDepth 20000 in
theorem kc0_280 : zt_code 0 280 = some (.aload_n 2, 281, 0, 0, []) := rfl
set_option maxRecDepth 20000 in
theorem kc0_281 : zt_code 0 281 = some (.invokevirtual 46, 284, 98, 0, []) := rfl
set_option maxRecDepth 20000 in
theorem kc0_284 : zt_code 0 284 = some (.if_icmp .eq 195, 287, 479, 0, []) := rfl
set_option maxRecDepth 20000 in
theorem kc0_287 : zt_code 0 287 = some (.iconst 0, 288, 0, 0, []) := rfl
set_option maxRecDepth 20000 in
theorem kc0_288 : zt_code 0 288 = some (.ireturn, 289, 0, 0, []) := rfl
set_option maxRecDepth 20000 in
theorem kc0_289 : zt_code 0 289 = some (.aload_n 1, 290, 0, 0, []) := rfl
set_option maxRecDepth 20000 in
theorem kc0_290 : zt_code 0 290 = some (.invokevirtual 47, 293, 53, 0, []) := rfl
set_option maxRecDepth 20000 in
theorem kc0_293 : zt_code 0 293 = some (.aload_n 2, 294, 0, 0, []) := rfl
set_option maxRecDepth 20000 in
theorem kc0_294 : zt_code 0 294 = some (.invokevirtual 50, 297, 99, 0, []) := rfl
set_option maxRecDepth 20000 in
theorem kc0_297 : zt_code 0 297 = some (.if_icmp .eq 182, 300, 479, 0, []) := rfl
set_option maxRecDepth 20000 in
theorem kc0_300 : zt_code 0 300 = some (.iconst 0, 301, 0, 0, []) := rfl
set_option maxRecDepth 20000 in
theorem kc0_301 : zt_code 0 301 = some (.ireturn, 302, 0, 0, []) := rfl
set_option maxRecDepth 20000 in
theorem kc0_302 : zt_code 0 302 = some (.aload_n 1, 303, 0, 0, []) := rfl
set_option maxRecDepth 20000 in
theorem kc0_303 : zt_code 0 303 = some (.invokevirtual 51, 306, 54, 0, []) := rfl
set_option maxRecDepth 20000 in
theorem kc0_306 : zt_code 0 306 = some (.aload_n 2, 307, 0, 0, []) := rfl
set_option maxRecDepth 20000 in
theorem kc0_307 : zt_code 0 307 = some (.invokevirtual 54, 310, 101, 0, []) := rfl
set_option maxRecDepth 20000 in
theorem kc0_310 : zt_code 0 310 = some (.if_icmp .eq 169, 313, 479, 0, []) := rfl
set_option maxRecDepth 20000 in
theorem kc0_313 : zt_code 0 313 = some (.iconst 0, 314, 0, 0, []) := rfl
set_option maxRecDepth 20000 in
theorem kc0_314 : zt_code 0 314 = some (.ireturn, 315, 0, 0, []) := rfl
set_option maxRecDepth 20000 in
theorem kc0_315 : zt_code 0 315 = some (.aload_n 1, 316, 0, 0, []) := rfl
set_option maxRecDepth 20000 in
theorem kc0_316 : zt_code 0 316 = some (.aload_n 0, 317, 0, 0, []) := rfl
set_option maxRecDepth 20000 in
theorem kc0_317 : zt_code 0 317 = some (.iload_n 3, 318, 0, 0, []) := rfl
set_option maxRecDepth 20000 in
theorem kc0_318 : zt_code 0 318 = some (.iconst 1, 319, 0, 0, []) := rfl
set_option maxRecDepth 20000 in
theorem kc0_319 : zt_code 0 319 = some (.iadd, 320, 0, 0, []) := rfl
set_option maxRecDepth 20000 in
theorem kc0_320 : zt_code 0 320 = some (.iaload, 321, 0, 0, []) := rfl
set_option maxRecDepth 20000 in
theorem kc0_321 : zt_code 0 321 = some (.ifCond .eq 7, 324, 328, 0, []) := rfl
set_option maxRecDepth 20000 in
theorem kc0_324 : zt_code 0 324 = some (.iconst 1, 325, 0, 0, []) := rfl
set_option maxRecDepth 20000 in
theorem kc0_325 : zt_code 0 325 = some (.goto 4, 328, 329, 0, []) := rfl
set_option maxRecDepth 20000 in
theorem kc0_328 : zt_code 0 328 = some (.iconst 0, 329, 0, 0, []) := rfl
set_option maxRecDepth 20000 in
theorem kc0_329 : zt_code 0 329 = some (.invokevirtual 55, 332, 55, 1, []) := rfl
set_option maxRecDepth 20000 in
theorem kc0_332 : zt_code 0 332 = some (.aload_n 2, 333, 0, 0, []) := rfl
set_option maxRecDepth 20000 in
theorem kc0_333 : zt_code 0 333 = some (.aload_n 0, 334, 0, 0, []) := rfl
set_option maxRecDepth 20000 in
theorem kc0_334 : zt_code 0 334 = some (.iload_n 3, 335, 0, 0, []) := rfl
set_option maxRecDepth 20000 in
theorem kc0_335 : zt_code 0 335 = some (.iconst 1, 336, 0, 0, []) := rfl
set_option maxRecDepth 20000 in
theorem kc0_336 : zt_code 0 336 = some (.iadd, 337, 0, 0, []) := rfl
set_option maxRecDepth 20000 in
theorem kc0_337 : zt_code 0 337 = some (.iaload, 338, 0, 0, []) := rfl
set_option maxRecDepth 20000 in
theorem kc0_338 : zt_code 0 338 = some (.ifCond .eq 7, 341, 345, 0, []) := rfl
set_option maxRecDepth 20000 in
theorem kc0_341 : zt_code 0 341 = some (.iconst 1, 342, 0, 0, []) := rfl
set_option maxRecDepth 20000 in
theorem kc0_342 : zt_code 0 342 = some (.goto 4, 345, 346, 0, []) := rfl
set_option maxRecDepth 20000 in
theorem kc0_345 : zt_code 0 345 = some (.iconst 0, 346, 0, 0, []) := rfl
set_option maxRecDepth 20000 in
theorem kc0_346 : zt_code 0 346 = some (.invokevirtual 59, 349, 102, 1, []) := rfl
set_option maxRecDepth 20000 in
theorem kc0_349 : zt_code 0 349 = some (.if_icmp .eq 130, 352, 479, 0, []) := rfl
set_option maxRecDepth 20000 in
theorem kc0_352 : zt_code 0 352 = some (.iconst 0, 353, 0, 0, []) := rfl
set_option maxRecDepth 20000 in
theorem kc0_353 : zt_code 0 353 = some (.ireturn, 354, 0, 0, []) := rfl
set_option maxRecDepth 20000 in
theorem kc0_354 : zt_code 0 354 = some (.aload_n 1, 355, 0, 0, []) := rfl
set_option maxRecDepth 20000 in
theorem kc0_355 : zt_code 0 355 = some (.invokevirtual 60, 358, 56, 0, []) := rfl
set_option maxRecDepth 20000 in
theorem kc0_358 : zt_code 0 358 = some (.aload_n 2, 359, 0, 0, []) := rfl
set_option maxRecDepth 20000 in
theorem kc0_359 : zt_code 0 359 = some (.invokevirtual 63, 362, 103, 0, []) := rfl
set_option maxRecDepth 20000 in
theorem kc0_362 : zt_code 0 362 = some (.if_icmp .eq 117, 365, 479, 0, []) := rfl
set_option maxRecDepth 20000 in
theorem kc0_365 : zt_code 0 365 = some (.iconst 0, 366, 0, 0, []) := rfl
set_option maxRecDepth 20000 in
theorem kc0_366 : zt_code 0 366 = some (.ireturn, 367, 0, 0, []) := rfl
set_option maxRecDepth 20000 in
theorem kc0_367 : zt_code 0 367 = some (.aload_n 1, 368, 0, 0, []) := rfl
set_option maxRecDepth 20000 in
theorem kc0_368 : zt_code 0 368 = some (.aload_n 0, 369, 0, 0, []) := rfl
set_option maxRecDepth 20000 in
theorem kc0_369 : zt_code 0 369 = some (.iload_n 3, 370, 0, 0, []) := rfl
set_option maxRecDepth 20000 in
theorem kc0_370 : zt_code 0 370 = some (.iconst 1, 371, 0, 0, []) := rfl
set_option maxRecDepth 20000 in
theorem kc0_371 : zt_code 0 371 = some (.iadd, 372, 0, 0, []) := rfl
set_option maxRecDepth 20000 in
theorem kc0_372 : zt_code 0 372 = some (.iaload, 373, 0, 0, []) := rfl
set_option maxRecDepth 20000 in
theorem kc0_373 : zt_code 0 373 = some (.invokevirtual 64, 376, 57, 1, []) := rfl
set_option maxRecDepth 20000 in
theorem kc0_376 : zt_code 0 376 = some (.aload_n 2, 377, 0, 0, []) := rfl
set_option maxRecDepth 20000 in
theorem kc0_377 : zt_code 0 377 = some (.aload_n 0, 378, 0, 0, []) := rfl
set_option maxRecDepth 20000 in
theorem kc0_378 : zt_code 0 378 = some (.iload_n 3, 379, 0, 0, []) := rfl
set_option maxRecDepth 20000 in
theorem kc0_379 : zt_code 0 379 = some (.iconst 1, 380, 0, 0, []) := rfl
set_option maxRecDepth 20000 in
theorem kc0_380 : zt_code 0 380 = some (.iadd, 381, 0, 0, []) := rfl
set_option maxRecDepth 20000 in
theorem kc0_381 : zt_code 0 381 = some (.iaload, 382, 0, 0, []) := rfl
set_option maxRecDepth 20000 in
theorem kc0_382 : zt_code 0 382 = some (.invokevirtual 67, 385, 105, 1, []) := rfl
set_option maxRecDepth 20000 in
theorem kc0_385 : zt_code 0 385 = some (.if_icmp .eq 94, 388, 479, 0, []) := rfl
set_option maxRecDepth 20000 in
theorem kc0_388 : zt_code 0 388 = some (.iconst 0, 389, 0, 0, []) := rfl
set_option maxRecDepth 20000 in
theorem kc0_389 : zt_code 0 389 = some (.ireturn, 390, 0, 0, []) := rfl
set_option maxRecDepth 20000 in
theorem kc0_390 : zt_code 0 390 = some (.aload_n 1, 391, 0, 0, []) := rfl
set_option maxRecDepth 20000 in
theorem kc0_391 : zt_code 0 391 = some (.aload_n 0, 392, 0, 0, []) := rfl
set_option maxRecDepth 20000 in
theorem kc0_392 : zt_code 0 392 = some (.iload_n 3, 393, 0, 0, []) := rfl
set_option maxRecDepth 20000 in
theorem kc0_393 : zt_code 0 393 = some (.iconst 1, 394, 0, 0, []) := rfl
set_option maxRecDepth 20000 in
theorem kc0_394 : zt_code 0 394 = some (.iadd, 395, 0, 0, []) := rfl
set_option maxRecDepth 20000 in
theorem kc0_395 : zt_code 0 395 = some (.iaload, 396, 0, 0, []) := rfl
set_option maxRecDepth 20000 in
theorem kc0_396 : zt_code 0 396 = some (.aload_n 0, 397, 0, 0, []) := rfl
set_option maxRecDepth 20000 in
theorem kc0_397 : zt_code 0 397 = some (.iload_n 3, 398, 0, 0, []) := rfl
set_option maxRecDepth 20000 in
theorem kc0_398 : zt_code 0 398 = some (.iconst 2, 399, 0, 0, []) := rfl
set_option maxRecDepth 20000 in
theorem kc0_399 : zt_code 0 399 = some (.iadd, 400, 0, 0, []) := rfl
set_option maxRecDepth 20000 in
theorem kc0_400 : zt_code 0 400 = some (.iaload, 401, 0, 0, []) := rfl
set_option maxRecDepth 20000 in
theorem kc0_401 : zt_code 0 401 = some (.invokevirtual 68, 404, 58, 2, []) := rfl
set_option maxRecDepth 20000 in
theorem kc0_404 : zt_code 0 404 = some (.aload_n 2, 405, 0, 0, []) := rfl
set_option maxRecDepth 20000 in
theorem kc0_405 : zt_code 0 405 = some (.aload_n 0, 406, 0, 0, []) := rfl
set_option maxRecDepth 20000 in
theorem kc0_406 : zt_code 0 406 = some (.iload_n 3, 407, 0, 0, []) := rfl
set_option maxRecDepth 20000 in
theorem kc0_407 : zt_code 0 407 = some (.iconst 1, 408, 0, 0, []) := rfl
set_option maxRecDepth 20000 in
theorem kc0_408 : zt_code 0 408 = some (.iadd, 409, 0, 0, []) := rfl
set_option maxRecDepth 20000 in
theorem kc0_409 : zt_code 0 409 = some (.iaload, 410, 0, 0, []) := rfl
set_option maxRecDepth 20000 in
theorem kc0_410 : zt_code 0 410 = some (.aload_n 0, 411, 0, 0, []) := rfl
set_option maxRecDepth 20000 in
theorem kc0_411 : zt_code 0 411 = some (.iload_n 3, 412, 0, 0, []) := rfl
set_option maxRecDepth 20000 in
theorem kc0_412 : zt_code 0 412 = some (.iconst 2, 413, 0, 0, []) := rfl
set_option maxRecDepth 20000 in
theorem kc0_413 : zt_code 0 413 = some (.iadd, 414, 0, 0, []) := rfl
set_option maxRecDepth 20000 in
theorem kc0_414 : zt_code 0 414 = some (.iaload, 415, 0, 0, []) := rfl
set_option maxRecDepth 20000 in
theorem kc0_415 : zt_code 0 415 = some (.invokevirtual 71, 418, 107, 2, []) := rfl
set_option maxRecDepth 20000 in
theorem kc0_418 : zt_code 0 418 = some (.if_icmp .eq 61, 421, 479, 0, []) := rfl
set_option maxRecDepth 20000 in
theorem kc0_421 : zt_code 0 421 = some (.iconst 0, 422, 0, 0, []) := rfl
set_option maxRecDepth 20000 in
theorem kc0_422 : zt_code 0 422 = some (.ireturn, 423, 0, 0, []) := rfl
set_option maxRecDepth 20000 in
theorem kc0_423 : zt_code 0 423 = some (.aload_n 1, 424, 0, 0, []) := rfl
set_option maxRecDepth 20000 in
theorem kc0_424 : zt_code 0 424 = some (.aload_n 0, 425, 0, 0, []) := rfl
set_option maxRecDepth 20000 in
theorem kc0_425 : zt_code 0 425 = some (.iload_n 3, 426, 0, 0, []) := rfl
set_option maxRecDepth 20000 in
theorem kc0_426 : zt_code 0 426 = some (.iconst 1, 427, 0, 0, []) := rfl
set_option maxRecDepth 20000 in
theorem kc0_427 : zt_code 0 427 = some (.iadd, 428, 0, 0, []) := rfl
set_option maxRecDepth 20000 in
theorem kc0_428 : zt_code 0 428 = some (.iaload, 429, 0, 0, []) := rfl
set_option maxRecDepth 20000 in
theorem kc0_429 : zt_code 0 429 = some (.aload_n 0, 430, 0, 0, []) := rfl
set_option maxRecDepth 20000 in
theorem kc0_430 : zt_code 0 430 = some (.iload_n 3, 431, 0, 0, []) := rfl
set_option maxRecDepth 20000 in
theorem kc0_431 : zt_code 0 431 = some (.iconst 2, 432, 0, 0, []) := rfl
set_option maxRecDepth 20000 in
theorem kc0_432 : zt_code 0 432 = some (.iadd, 433, 0, 0, []) := rfl
set_option maxRecDepth 20000 in
theorem kc0_433 : zt_code 0 433 = some (.iaload, 434, 0, 0, []) := rfl
set_option maxRecDepth 20000 in
theorem kc0_434 : zt_code 0 434 = some (.invokevirtual 72, 437, 59, 2, []) := rfl
set_option maxRecDepth 20000 in
theorem kc0_437 : zt_code 0 437 = some (.aload_n 2, 438, 0, 0, []) := rfl
set_option maxRecDepth 20000 in
theorem kc0_438 : zt_code 0 438 = some (.aload_n 0, 439, 0, 0, []) := rfl
set_option maxRecDepth 20000 in
theorem kc0_439 : zt_code 0 439 = some (.iload_n 3, 440, 0, 0, []) := rfl
set_option maxRecDepth 20000 in
theorem kc0_440 : zt_code 0 440 = some (.iconst 1, 441, 0, 0, []) := rfl
set_option maxRecDepth 20000 in
theorem kc0_441 : zt_code 0 441 = some (.iadd, 442, 0, 0, []) := rfl
set_option maxRecDepth 20000 in
theorem kc0_442 : zt_code 0 442 = some (.iaload, 443, 0, 0, []) := rfl
set_option maxRecDepth 20000 in
theorem kc0_443 : zt_code 0 443 = some (.aload_n 0, 444, 0, 0, []) := rfl
set_option maxRecDepth 20000 in
theorem kc0_444 : zt_code 0 444 = some (.iload_n 3, 445, 0, 0, []) := rfl
set_option maxRecDepth 20000 in
theorem kc0_445 : zt_code 0 445 = some (.iconst 2, 446, 0, 0, []) := rfl
set_option maxRecDepth 20000 in
theorem kc0_446 : zt_code 0 446 = some (.iadd, 447, 0, 0, []) := rfl
set_option maxRecDepth 20000 in
theorem kc0_447 : zt_code 0 447 = some (.iaload, 448, 0, 0, []) := rfl
set_option maxRecDepth 20000 in
theorem kc0_448 : zt_code 0 448 = some (.invokevirtual 75, 451, 108, 2, []) := rfl
set_option maxRecDepth 20000 in
theorem kc0_451 : zt_code 0 451 = some (.if_icmp .eq 28, 454, 479, 0, []) := rfl
set_option maxRecDepth 20000 in
theorem kc0_454 : zt_code 0 454 = some (.iconst 0, 455, 0, 0, []) := rfl
set_option maxRecDepth 20000 in
theorem kc0_455 : zt_code 0 455 = some (.ireturn, 456, 0, 0, []) := rfl
set_option maxRecDepth 20000 in
theorem kc0_456 : zt_code 0 456 = some (.aload_n 1, 457, 0, 0, []) := rfl
set_option maxRecDepth 20000 in
theorem kc0_457 : zt_code 0 457 = some (.aload_n 0, 458, 0, 0, []) := rfl
set_option maxRecDepth 20000 in
theorem kc0_458 : zt_code 0 458 = some (.iload_n 3, 459, 0, 0, []) := rfl
set_option maxRecDepth 20000 in
theorem kc0_459 : zt_code 0 459 = some (.iconst 1, 460, 0, 0, []) := rfl
set_option maxRecDepth 20000 in
theorem kc0_460 : zt_code 0 460 = some (.iadd, 461, 0, 0, []) := rfl
set_option maxRecDepth 20000 in
theorem kc0_461 : zt_code 0 461 = some (.iaload, 462, 0, 0, []) := rfl
set_option maxRecDepth 20000 in
theorem kc0_462 : zt_code 0 462 = some (.invokevirtual 76, 465, 60, 1, []) := rfl
set_option maxRecDepth 20000 in
theorem kc0_465 : zt_code 0 465 = some (.aload_n 2, 466, 0, 0, []) := rfl
set_option maxRecDepth 20000 in
theorem kc0_466 : zt_code 0 466 = some (.aload_n 0, 467, 0, 0, []) := rfl
set_option maxRecDepth 20000 in
theorem kc0_467 : zt_code 0 467 = some (.iload_n 3, 468, 0, 0, []) := rfl
set_option maxRecDepth 20000 in
theorem kc0_468 : zt_code 0 468 = some (.iconst 1, 469, 0, 0, []) := rfl
set_option maxRecDepth 20000 in
theorem kc0_469 : zt_code 0 469 = some (.iadd, 470, 0, 0, []) := rfl
set_option maxRecDepth 20000 in
theorem kc0_470 : zt_code 0 470 = some (.iaload, 471, 0, 0, []) := rfl
set_option maxRecDepth 20000 in
theorem kc0_471 : zt_code 0 471 = some (.invokevirtual 79, 474, 109, 1, []) := rfl
set_option maxRecDepth 20000 in
theorem kc0_474 : zt_code 0 474 = some (.if_icmp .eq 5, 477, 479, 0, []) := rfl
set_option maxRecDepth 20000 in
theorem kc0_477 : zt_code 0 477 = some (.iconst 0, 478, 0, 0, []) := rfl
set_option maxRecDepth 20000 in
theorem kc0_478 : zt_code 0 478 = some (.ireturn, 479, 0, 0, []) := rfl
set_option maxRecDepth 20000 in
theorem kc0_479 : zt_code 0 479 = some (.iinc 3 4, 482, 0, 0, []) := rfl
set_option maxRecDepth 20000 in
theorem kc0_482 : zt_code 0 482 = some (.goto (-464), 485, 18, 0, []) := rfl
set_option maxRecDepth 20000 in
theorem kc0_485 : zt_code 0 485 = some (.iconst 1, 486, 0, 0, []) := rfl
set_option maxRecDepth 20000 in
theorem kc0_486 : zt_code 0 486 = some (.ireturn, 487, 0, 0, []) := rfl
theorem kc1_0 : zt_code 1 0 = some (.aload_n 0, 1, 0, 0, []) := rfl
theorem kc1_1 : zt_code 1 1 = some (.invokespecial 3, 4, 1000, 0, []) := rfl
theorem kc1_4 : zt_code 1 4 = some (.aload_n 0, 5, 0, 0, []) := rfl
theorem kc1_5 : zt_code 1 5 = some (.bipush 40, 7, 0, 0, []) := rfl
theorem kc1_7 : zt_code 1 7 = some (.anewarray 9, 10, 205, 0, []) := rfl
theorem kc1_10 : zt_code 1 10 = some (.putfield 11, 13, 0, 0, []) := rfl
theorem kc1_13 : zt_code 1 13 = some (.aload_n 0, 14, 0, 0, []) := rfl
theorem kc1_14 : zt_code 1 14 = some (.new 9, 17, 5, 9, []) := rfl
theorem kc1_17 : zt_code 1 17 = some (.dup, 18, 0, 0, []) := rfl
theorem kc1_18 : zt_code 1 18 = some (.iconst 1, 19, 0, 0, []) := rfl
theorem kc1_19 : zt_code 1 19 = some (.invokespecial 17, 22, 26, 1, []) := rfl
theorem kc1_22 : zt_code 1 22 = some (.putfield 20, 25, 0, 1, []) := rfl
theorem kc1_25 : zt_code 1 25 = some (.aload_n 0, 26, 0, 0, []) := rfl
theorem kc1_26 : zt_code 1 26 = some (.getfield 20, 29, 0, 1, []) := rfl
theorem kc1_29 : zt_code 1 29 = some (.iconst 2, 30, 0, 0, []) := rfl
theorem kc1_30 : zt_code 1 30 = some (.invokevirtual 24, 33, 27, 1, []) := rfl
theorem kc1_33 : zt_code 1 33 = some (.aload_n 0, 34, 0, 0, []) := rfl
theorem kc1_34 : zt_code 1 34 = some (.getfield 20, 37, 0, 1, []) := rfl
theorem kc1_37 : zt_code 1 37 = some (.aload_n 0, 38, 0, 0, []) := rfl
theorem kc1_38 : zt_code 1 38 = some (.getfield 20, 41, 0, 1, []) := rfl
theorem kc1_41 : zt_code 1 41 = some (.putfield 27, 44, 5, 6, []) := rfl
theorem kc1_44 : zt_code 1 44 = some (.aload_n 0, 45, 0, 0, []) := rfl
theorem kc1_45 : zt_code 1 45 = some (.getfield 11, 48, 0, 0, []) := rfl
theorem kc1_48 : zt_code 1 48 = some (.iconst 0, 49, 0, 0, []) := rfl
theorem kc1_49 : zt_code 1 49 = some (.aload_n 0, 50, 0, 0, []) := rfl
theorem kc1_50 : zt_code 1 50 = some (.getfield 20, 53, 0, 1, []) := rfl
theorem kc1_53 : zt_code 1 53 = some (.aastore, 54, 0, 0, []) := rfl
theorem kc1_54 : zt_code 1 54 = some (.iconst 1, 55, 0, 0, []) := rfl
theorem kc1_55 : zt_code 1 55 = some (.istore_n 1, 56, 0, 0, []) := rfl
theorem kc1_56 : zt_code 1 56 = some (.iload_n 1, 57, 0, 0, []) := rfl
theorem kc1_57 : zt_code 1 57 = some (.aload_n 0, 58, 0, 0, []) := rfl
theorem kc1_58 : zt_code 1 58 = some (.getfield 11, 61, 0, 0, []) := rfl
theorem kc1_61 : zt_code 1 61 = some (.arraylength, 62, 0, 0, []) := rfl
theorem kc1_62 : zt_code 1 62 = some (.if_icmp .ge 25, 65, 87, 0, []) := rfl
theorem kc1_65 : zt_code 1 65 = some (.aload_n 0, 66, 0, 0, []) := rfl
theorem kc1_66 : zt_code 1 66 = some (.getfield 11, 69, 0, 0, []) := rfl
theorem kc1_69 : zt_code 1 69 = some (.iload_n 1, 70, 0, 0, []) := rfl
theorem kc1_70 : zt_code 1 70 = some (.new 9, 73, 5, 9, []) := rfl
theorem kc1_73 : zt_code 1 73 = some (.dup, 74, 0, 0, []) := rfl
theorem kc1_74 : zt_code 1 74 = some (.iload_n 1, 75, 0, 0, []) := rfl
theorem kc1_75 : zt_code 1 75 = some (.iconst 1, 76, 0, 0, []) := rfl
theorem kc1_76 : zt_code 1 76 = some (.iadd, 77, 0, 0, []) := rfl
theorem kc1_77 : zt_code 1 77 = some (.invokespecial 17, 80, 26, 1, []) := rfl
theorem kc1_80 : zt_code 1 80 = some (.aastore, 81, 0, 0, []) := rfl
theorem kc1_81 : zt_code 1 81 = some (.iinc 1 1, 84, 0, 0, []) := rfl
theorem kc1_84 : zt_code 1 84 = some (.goto (-28), 87, 56, 0, []) := rfl
theorem kc1_87 : zt_code 1 87 = some (.return_, 88, 0, 0, []) := rfl
theorem kc2_0 : zt_code 2 0 = some (.iload_n 1, 1, 0, 0, []) := rfl
theorem kc2_1 : zt_code 2 1 = some (.iconst 1, 2, 0, 0, []) := rfl
theorem kc2_2 : zt_code 2 2 = some (.if_icmp .lt 12, 5, 14, 0, []) := rfl
theorem kc2_5 : zt_code 2 5 = some (.iload_n 1, 6, 0, 0, []) := rfl
theorem kc2_6 : zt_code 2 6 = some (.aload_n 0, 7, 0, 0, []) := rfl
theorem kc2_7 : zt_code 2 7 = some (.getfield 11, 10, 0, 0, []) := rfl
theorem kc2_10 : zt_code 2 10 = some (.arraylength, 11, 0, 0, []) := rfl
theorem kc2_11 : zt_code 2 11 = some (.if_icmp .le 5, 14, 16, 0, []) := rfl
theorem kc2_14 : zt_code 2 14 = some (.aconst_null, 15, 0, 0, []) := rfl
theorem kc2_15 : zt_code 2 15 = some (.areturn, 16, 0, 0, []) := rfl
theorem kc2_16 : zt_code 2 16 = some (.aload_n 0, 17, 0, 0, []) := rfl
theorem kc2_17 : zt_code 2 17 = some (.getfield 11, 20, 0, 0, []) := rfl
theorem kc2_20 : zt_code 2 20 = some (.iload_n 1, 21, 0, 0, []) := rfl
theorem kc2_21 : zt_code 2 21 = some (.iconst 1, 22, 0, 0, []) := rfl
theorem kc2_22 : zt_code 2 22 = some (.isub, 23, 0, 0, []) := rfl
theorem kc2_23 : zt_code 2 23 = some (.aaload, 24, 0, 0, []) := rfl
theorem kc2_24 : zt_code 2 24 = some (.astore_n 2, 25, 0, 0, []) := rfl
theorem kc2_25 : zt_code 2 25 = some (.aload_n 2, 26, 0, 0, []) := rfl
theorem kc2_26 : zt_code 2 26 = some (.ifnull 10, 29, 36, 0, []) := rfl
theorem kc2_29 : zt_code 2 29 = some (.aload_n 2, 30, 0, 0, []) := rfl
theorem kc2_30 : zt_code 2 30 = some (.getfield 30, 33, 5, 1, []) := rfl
theorem kc2_33 : zt_code 2 33 = some (.ifCond .ne 7, 36, 40, 0, []) := rfl
theorem kc2_36 : zt_code 2 36 = some (.aconst_null, 37, 0, 0, []) := rfl
theorem kc2_37 : zt_code 2 37 = some (.goto 4, 40, 41, 0, []) := rfl
theorem kc2_40 : zt_code 2 40 = some (.aload_n 2, 41, 0, 0, []) := rfl
theorem kc2_41 : zt_code 2 41 = some (.areturn, 42, 0, 0, []) := rfl
theorem kc3_0 : zt_code 3 0 = some (.aload_n 0, 1, 0, 0, []) := rfl
theorem kc3_1 : zt_code 3 1 = some (.getfield 11, 4, 0, 0, []) := rfl
theorem kc3_4 : zt_code 3 4 = some (.astore_n 1, 5, 0, 0, []) := rfl
theorem kc3_5 : zt_code 3 5 = some (.aload_n 1, 6, 0, 0, []) := rfl
theorem kc3_6 : zt_code 3 6 = some (.arraylength, 7, 0, 0, []) := rfl
theorem kc3_7 : zt_code 3 7 = some (.istore_n 2, 8, 0, 0, []) := rfl
theorem kc3_8 : zt_code 3 8 = some (.iconst 0, 9, 0, 0, []) := rfl
theorem kc3_9 : zt_code 3 9 = some (.istore_n 3, 10, 0, 0, []) := rfl
theorem kc3_10 : zt_code 3 10 = some (.iload_n 3, 11, 0, 0, []) := rfl
theorem kc3_11 : zt_code 3 11 = some (.iload_n 2, 12, 0, 0, []) := rfl
theorem kc3_12 : zt_code 3 12 = some (.if_icmp .ge 30, 15, 42, 0, []) := rfl
theorem kc3_15 : zt_code 3 15 = some (.aload_n 1, 16, 0, 0, []) := rfl
theorem kc3_16 : zt_code 3 16 = some (.iload_n 3, 17, 0, 0, []) := rfl
theorem kc3_17 : zt_code 3 17 = some (.aaload, 18, 0, 0, []) := rfl
theorem kc3_18 : zt_code 3 18 = some (.astore 4, 20, 0, 0, []) := rfl
theorem kc3_20 : zt_code 3 20 = some (.aload 4, 22, 0, 0, []) := rfl
theorem kc3_22 : zt_code 3 22 = some (.ifnull 14, 25, 36, 0, []) := rfl
theorem kc3_25 : zt_code 3 25 = some (.aload 4, 27, 0, 0, []) := rfl
theorem kc3_27 : zt_code 3 27 = some (.getfield 30, 30, 5, 1, []) := rfl
theorem kc3_30 : zt_code 3 30 = some (.ifCond .ne 6, 33, 36, 0, []) := rfl
theorem kc3_33 : zt_code 3 33 = some (.aload 4, 35, 0, 0, []) := rfl
theorem kc3_35 : zt_code 3 35 = some (.areturn, 36, 0, 0, []) := rfl
theorem kc3_36 : zt_code 3 36 = some (.iinc 3 1, 39, 0, 0, []) := rfl
theorem kc3_39 : zt_code 3 39 = some (.goto (-29), 42, 10, 0, []) := rfl
theorem kc3_42 : zt_code 3 42 = some (.aconst_null, 43, 0, 0, []) := rfl
theorem kc3_43 : zt_code 3 43 = some (.areturn, 44, 0, 0, []) := rfl
theorem kc4_0 : zt_code 4 0 = some (.iconst 0, 1, 0, 0, []) := rfl
theorem kc4_1 : zt_code 4 1 = some (.istore_n 1, 2, 0, 0, []) := rfl
theorem kc4_2 : zt_code 4 2 = some (.aload_n 0, 3, 0, 0, []) := rfl
theorem kc4_3 : zt_code 4 3 = some (.getfield 11, 6, 0, 0, []) := rfl
theorem kc4_6 : zt_code 4 6 = some (.astore_n 2, 7, 0, 0, []) := rfl
theorem kc4_7 : zt_code 4 7 = some (.aload_n 2, 8, 0, 0, []) := rfl
theorem kc4_8 : zt_code 4 8 = some (.arraylength, 9, 0, 0, []) := rfl
theorem kc4_9 : zt_code 4 9 = some (.istore_n 3, 10, 0, 0, []) := rfl
theorem kc4_10 : zt_code 4 10 = some (.iconst 0, 11, 0, 0, []) := rfl
theorem kc4_11 : zt_code 4 11 = some (.istore 4, 13, 0, 0, []) := rfl
theorem kc4_13 : zt_code 4 13 = some (.iload 4, 15, 0, 0, []) := rfl
theorem kc4_15 : zt_code 4 15 = some (.iload_n 3, 16, 0, 0, []) := rfl
theorem kc4_16 : zt_code 4 16 = some (.if_icmp .ge 31, 19, 47, 0, []) := rfl
theorem kc4_19 : zt_code 4 19 = some (.aload_n 2, 20, 0, 0, []) := rfl
theorem kc4_20 : zt_code 4 20 = some (.iload 4, 22, 0, 0, []) := rfl
theorem kc4_22 : zt_code 4 22 = some (.aaload, 23, 0, 0, []) := rfl
theorem kc4_23 : zt_code 4 23 = some (.astore 5, 25, 0, 0, []) := rfl
theorem kc4_25 : zt_code 4 25 = some (.aload 5, 27, 0, 0, []) := rfl
theorem kc4_27 : zt_code 4 27 = some (.ifnull 14, 30, 41, 0, []) := rfl
theorem kc4_30 : zt_code 4 30 = some (.aload 5, 32, 0, 0, []) := rfl
theorem kc4_32 : zt_code 4 32 = some (.getfield 30, 35, 5, 1, []) := rfl
theorem kc4_35 : zt_code 4 35 = some (.ifCond .eq 6, 38, 41, 0, []) := rfl
theorem kc4_38 : zt_code 4 38 = some (.iinc 1 1, 41, 0, 0, []) := rfl
theorem kc4_41 : zt_code 4 41 = some (.iinc 4 1, 44, 0, 0, []) := rfl
theorem kc4_44 : zt_code 4 44 = some (.goto (-31), 47, 13, 0, []) := rfl
theorem kc4_47 : zt_code 4 47 = some (.iload_n 1, 48, 0, 0, []) := rfl
theorem kc4_48 : zt_code 4 48 = some (.ireturn, 49, 0, 0, []) := rfl
theorem kc5_0 : zt_code 5 0 = some (.iconst 0, 1, 0, 0, []) := rfl
theorem kc5_1 : zt_code 5 1 = some (.istore_n 1, 2, 0, 0, []) := rfl
theorem kc5_2 : zt_code 5 2 = some (.aload_n 0, 3, 0, 0, []) := rfl
theorem kc5_3 : zt_code 5 3 = some (.getfield 11, 6, 0, 0, []) := rfl
theorem kc5_6 : zt_code 5 6 = some (.astore_n 2, 7, 0, 0, []) := rfl
theorem kc5_7 : zt_code 5 7 = some (.aload_n 2, 8, 0, 0, []) := rfl
theorem kc5_8 : zt_code 5 8 = some (.arraylength, 9, 0, 0, []) := rfl
theorem kc5_9 : zt_code 5 9 = some (.istore_n 3, 10, 0, 0, []) := rfl
theorem kc5_10 : zt_code 5 10 = some (.iconst 0, 11, 0, 0, []) := rfl
theorem kc5_11 : zt_code 5 11 = some (.istore 4, 13, 0, 0, []) := rfl
theorem kc5_13 : zt_code 5 13 = some (.iload 4, 15, 0, 0, []) := rfl
theorem kc5_15 : zt_code 5 15 = some (.iload_n 3, 16, 0, 0, []) := rfl
theorem kc5_16 : zt_code 5 16 = some (.if_icmp .ge 28, 19, 44, 0, []) := rfl
theorem kc5_19 : zt_code 5 19 = some (.aload_n 2, 20, 0, 0, []) := rfl
theorem kc5_20 : zt_code 5 20 = some (.iload 4, 22, 0, 0, []) := rfl
theorem kc5_22 : zt_code 5 22 = some (.aaload, 23, 0, 0, []) := rfl
theorem kc5_23 : zt_code 5 23 = some (.astore 5, 25, 0, 0, []) := rfl
theorem kc5_25 : zt_code 5 25 = some (.aload 5, 27, 0, 0, []) := rfl
theorem kc5_27 : zt_code 5 27 = some (.ifnull 11, 30, 38, 0, []) := rfl
theorem kc5_30 : zt_code 5 30 = some (.iload_n 1, 31, 0, 0, []) := rfl
theorem kc5_31 : zt_code 5 31 = some (.aload 5, 33, 0, 0, []) := rfl
theorem kc5_33 : zt_code 5 33 = some (.invokevirtual 34, 36, 30, 0, []) := rfl
theorem kc5_36 : zt_code 5 36 = some (.iadd, 37, 0, 0, []) := rfl
theorem kc5_37 : zt_code 5 37 = some (.istore_n 1, 38, 0, 0, []) := rfl
theorem kc5_38 : zt_code 5 38 = some (.iinc 4 1, 41, 0, 0, []) := rfl
theorem kc5_41 : zt_code 5 41 = some (.goto (-28), 44, 13, 0, []) := rfl
theorem kc5_44 : zt_code 5 44 = some (.iload_n 1, 45, 0, 0, []) := rfl
theorem kc5_45 : zt_code 5 45 = some (.ireturn, 46, 0, 0, []) := rfl
theorem kc6_0 : zt_code 6 0 = some (.iconst 0, 1, 0, 0, []) := rfl
theorem kc6_1 : zt_code 6 1 = some (.istore_n 2, 2, 0, 0, []) := rfl
theorem kc6_2 : zt_code 6 2 = some (.aload_n 0, 3, 0, 0, []) := rfl
theorem kc6_3 : zt_code 6 3 = some (.getfield 11, 6, 0, 0, []) := rfl
theorem kc6_6 : zt_code 6 6 = some (.astore_n 3, 7, 0, 0, []) := rfl
theorem kc6_7 : zt_code 6 7 = some (.aload_n 3, 8, 0, 0, []) := rfl
theorem kc6_8 : zt_code 6 8 = some (.arraylength, 9, 0, 0, []) := rfl
theorem kc6_9 : zt_code 6 9 = some (.istore 4, 11, 0, 0, []) := rfl
theorem kc6_11 : zt_code 6 11 = some (.iconst 0, 12, 0, 0, []) := rfl
theorem kc6_12 : zt_code 6 12 = some (.istore 5, 14, 0, 0, []) := rfl
theorem kc6_14 : zt_code 6 14 = some (.iload 5, 16, 0, 0, []) := rfl
theorem kc6_16 : zt_code 6 16 = some (.iload 4, 18, 0, 0, []) := rfl
theorem kc6_18 : zt_code 6 18 = some (.if_icmp .ge 41, 21, 59, 0, []) := rfl
theorem kc6_21 : zt_code 6 21 = some (.aload_n 3, 22, 0, 0, []) := rfl
theorem kc6_22 : zt_code 6 22 = some (.iload 5, 24, 0, 0, []) := rfl
theorem kc6_24 : zt_code 6 24 = some (.aaload, 25, 0, 0, []) := rfl
theorem kc6_25 : zt_code 6 25 = some (.astore 6, 27, 0, 0, []) := rfl
theorem kc6_27 : zt_code 6 27 = some (.aload 6, 29, 0, 0, []) := rfl
theorem kc6_29 : zt_code 6 29 = some (.ifnull 24, 32, 53, 0, []) := rfl
theorem kc6_32 : zt_code 6 32 = some (.aload 6, 34, 0, 0, []) := rfl
theorem kc6_34 : zt_code 6 34 = some (.aload_n 0, 35, 0, 0, []) := rfl
theorem kc6_35 : zt_code 6 35 = some (.getfield 20, 38, 0, 1, []) := rfl
theorem kc6_38 : zt_code 6 38 = some (.if_acmp .eq 15, 41, 53, 0, []) := rfl
theorem kc6_41 : zt_code 6 41 = some (.aload 6, 43, 0, 0, []) := rfl
theorem kc6_43 : zt_code 6 43 = some (.getfield 27, 46, 5, 6, []) := rfl
theorem kc6_46 : zt_code 6 46 = some (.aload_n 1, 47, 0, 0, []) := rfl
theorem kc6_47 : zt_code 6 47 = some (.if_acmp .ne 6, 50, 53, 0, []) := rfl
theorem kc6_50 : zt_code 6 50 = some (.iinc 2 1, 53, 0, 0, []) := rfl
theorem kc6_53 : zt_code 6 53 = some (.iinc 5 1, 56, 0, 0, []) := rfl
theorem kc6_56 : zt_code 6 56 = some (.goto (-42), 59, 14, 0, []) := rfl
theorem kc6_59 : zt_code 6 59 = some (.iload_n 2, 60, 0, 0, []) := rfl
theorem kc6_60 : zt_code 6 60 = some (.ireturn, 61, 0, 0, []) := rfl
theorem kc7_0 : zt_code 7 0 = some (.aload_n 0, 1, 0, 0, []) := rfl
theorem kc7_1 : zt_code 7 1 = some (.invokespecial 3, 4, 1000, 0, []) := rfl
theorem kc7_4 : zt_code 7 4 = some (.return_, 5, 0, 0, []) := rfl
theorem kc8_0 : zt_code 8 0 = some (.aload_n 0, 1, 0, 0, []) := rfl
theorem kc8_1 : zt_code 8 1 = some (.getfield 9, 4, 1, 2, []) := rfl
theorem kc8_4 : zt_code 8 4 = some (.ifnonnull 12, 7, 16, 0, []) := rfl
theorem kc8_7 : zt_code 8 7 = some (.aload_n 0, 8, 0, 0, []) := rfl
theorem kc8_8 : zt_code 8 8 = some (.sipush 255, 11, 0, 0, []) := rfl
theorem kc8_11 : zt_code 8 11 = some (.newarray .byte, 13, 100, 0, []) := rfl
theorem kc8_13 : zt_code 8 13 = some (.putfield 9, 16, 1, 2, []) := rfl
theorem kc8_16 : zt_code 8 16 = some (.aload_n 0, 17, 0, 0, []) := rfl
theorem kc8_17 : zt_code 8 17 = some (.aload_n 1, 18, 0, 0, []) := rfl
theorem kc8_18 : zt_code 8 18 = some (.iload_n 2, 19, 0, 0, []) := rfl
theorem kc8_19 : zt_code 8 19 = some (.iload_n 3, 20, 0, 0, []) := rfl
theorem kc8_20 : zt_code 8 20 = some (.aload_n 0, 21, 0, 0, []) := rfl
theorem kc8_21 : zt_code 8 21 = some (.getfield 9, 24, 1, 2, []) := rfl
theorem kc8_24 : zt_code 8 24 = some (.invokestatic 15, 27, 72, 4, []) := rfl
theorem kc8_27 : zt_code 8 27 = some (.putfield 19, 30, 1, 3, []) := rfl
theorem kc8_30 : zt_code 8 30 = some (.return_, 31, 0, 0, []) := rfl
theorem kc9_0 : zt_code 9 0 = some (.aload_n 0, 1, 0, 0, []) := rfl
theorem kc9_1 : zt_code 9 1 = some (.getfield 9, 4, 1, 2, []) := rfl
theorem kc9_4 : zt_code 9 4 = some (.ifnull 36, 7, 40, 0, []) := rfl
theorem kc9_7 : zt_code 9 7 = some (.aload_n 1, 8, 0, 0, []) := rfl
theorem kc9_8 : zt_code 9 8 = some (.ifnull 32, 11, 40, 0, []) := rfl
theorem kc9_11 : zt_code 9 11 = some (.iload_n 3, 12, 0, 0, []) := rfl
theorem kc9_12 : zt_code 9 12 = some (.aload_n 0, 13, 0, 0, []) := rfl
theorem kc9_13 : zt_code 9 13 = some (.getfield 19, 16, 1, 3, []) := rfl
theorem kc9_16 : zt_code 9 16 = some (.if_icmp .ne 24, 19, 40, 0, []) := rfl
theorem kc9_19 : zt_code 9 19 = some (.iload_n 3, 20, 0, 0, []) := rfl
theorem kc9_20 : zt_code 9 20 = some (.aload_n 0, 21, 0, 0, []) := rfl
theorem kc9_21 : zt_code 9 21 = some (.getfield 9, 24, 1, 2, []) := rfl
theorem kc9_24 : zt_code 9 24 = some (.arraylength, 25, 0, 0, []) := rfl
theorem kc9_25 : zt_code 9 25 = some (.if_icmp .gt 15, 28, 40, 0, []) := rfl
theorem kc9_28 : zt_code 9 28 = some (.iload_n 2, 29, 0, 0, []) := rfl
theorem kc9_29 : zt_code 9 29 = some (.ifCond .lt 11, 32, 40, 0, []) := rfl
theorem kc9_32 : zt_code 9 32 = some (.iload_n 3, 33, 0, 0, []) := rfl
theorem kc9_33 : zt_code 9 33 = some (.aload_n 1, 34, 0, 0, []) := rfl
theorem kc9_34 : zt_code 9 34 = some (.arraylength, 35, 0, 0, []) := rfl
theorem kc9_35 : zt_code 9 35 = some (.iload_n 2, 36, 0, 0, []) := rfl
theorem kc9_36 : zt_code 9 36 = some (.isub, 37, 0, 0, []) := rfl
theorem kc9_37 : zt_code 9 37 = some (.if_icmp .le 5, 40, 42, 0, []) := rfl
theorem kc9_40 : zt_code 9 40 = some (.iconst 0, 41, 0, 0, []) := rfl
theorem kc9_41 : zt_code 9 41 = some (.ireturn, 42, 0, 0, []) := rfl
theorem kc9_42 : zt_code 9 42 = some (.iconst 0, 43, 0, 0, []) := rfl
theorem kc9_43 : zt_code 9 43 = some (.istore 4, 45, 0, 0, []) := rfl
theorem kc9_45 : zt_code 9 45 = some (.iload 4, 47, 0, 0, []) := rfl
theorem kc9_47 : zt_code 9 47 = some (.iload_n 3, 48, 0, 0, []) := rfl
theorem kc9_48 : zt_code 9 48 = some (.if_icmp .ge 27, 51, 75, 0, []) := rfl
theorem kc9_51 : zt_code 9 51 = some (.aload_n 0, 52, 0, 0, []) := rfl
theorem kc9_52 : zt_code 9 52 = some (.getfield 9, 55, 1, 2, []) := rfl
theorem kc9_55 : zt_code 9 55 = some (.iload 4, 57, 0, 0, []) := rfl
theorem kc9_57 : zt_code 9 57 = some (.baload, 58, 0, 0, []) := rfl
theorem kc9_58 : zt_code 9 58 = some (.aload_n 1, 59, 0, 0, []) := rfl
theorem kc9_59 : zt_code 9 59 = some (.iload_n 2, 60, 0, 0, []) := rfl
theorem kc9_60 : zt_code 9 60 = some (.iload 4, 62, 0, 0, []) := rfl
theorem kc9_62 : zt_code 9 62 = some (.iadd, 63, 0, 0, []) := rfl
theorem kc9_63 : zt_code 9 63 = some (.baload, 64, 0, 0, []) := rfl
theorem kc9_64 : zt_code 9 64 = some (.if_icmp .eq 5, 67, 69, 0, []) := rfl
theorem kc9_67 : zt_code 9 67 = some (.iconst 0, 68, 0, 0, []) := rfl
theorem kc9_68 : zt_code 9 68 = some (.ireturn, 69, 0, 0, []) := rfl
theorem kc9_69 : zt_code 9 69 = some (.iinc 4 1, 72, 0, 0, []) := rfl
theorem kc9_72 : zt_code 9 72 = some (.goto (-27), 75, 45, 0, []) := rfl
theorem kc9_75 : zt_code 9 75 = some (.iconst 1, 76, 0, 0, []) := rfl
theorem kc9_76 : zt_code 9 76 = some (.ireturn, 77, 0, 0, []) := rfl
theorem kc10_0 : zt_code 10 0 = some (.aload_n 0, 1, 0, 0, []) := rfl
theorem kc10_1 : zt_code 10 1 = some (.invokespecial 3, 4, 1000, 0, []) := rfl
theorem kc10_4 : zt_code 10 4 = some (.aload_n 0, 5, 0, 0, []) := rfl
theorem kc10_5 : zt_code 10 5 = some (.bipush 60, 7, 0, 0, []) := rfl
theorem kc10_7 : zt_code 10 7 = some (.anewarray 9, 10, 201, 0, []) := rfl
theorem kc10_10 : zt_code 10 10 = some (.putfield 11, 13, 2, 0, []) := rfl
theorem kc10_13 : zt_code 10 13 = some (.iconst 0, 14, 0, 0, []) := rfl
theorem kc10_14 : zt_code 10 14 = some (.istore_n 1, 15, 0, 0, []) := rfl
theorem kc10_15 : zt_code 10 15 = some (.iload_n 1, 16, 0, 0, []) := rfl
theorem kc10_16 : zt_code 10 16 = some (.aload_n 0, 17, 0, 0, []) := rfl
theorem kc10_17 : zt_code 10 17 = some (.getfield 11, 20, 2, 0, []) := rfl
theorem kc10_20 : zt_code 10 20 = some (.arraylength, 21, 0, 0, []) := rfl
theorem kc10_21 : zt_code 10 21 = some (.if_icmp .ge 22, 24, 43, 0, []) := rfl
theorem kc10_24 : zt_code 10 24 = some (.aload_n 0, 25, 0, 0, []) := rfl
theorem kc10_25 : zt_code 10 25 = some (.getfield 11, 28, 2, 0, []) := rfl
theorem kc10_28 : zt_code 10 28 = some (.iload_n 1, 29, 0, 0, []) := rfl
theorem kc10_29 : zt_code 10 29 = some (.new 9, 32, 1, 4, []) := rfl
theorem kc10_32 : zt_code 10 32 = some (.dup, 33, 0, 0, []) := rfl
theorem kc10_33 : zt_code 10 33 = some (.invokespecial 17, 36, 7, 0, []) := rfl
theorem kc10_36 : zt_code 10 36 = some (.aastore, 37, 0, 0, []) := rfl
theorem kc10_37 : zt_code 10 37 = some (.iinc 1 1, 40, 0, 0, []) := rfl
theorem kc10_40 : zt_code 10 40 = some (.goto (-25), 43, 15, 0, []) := rfl
theorem kc10_43 : zt_code 10 43 = some (.return_, 44, 0, 0, []) := rfl
theorem kc11_0 : zt_code 11 0 = some (.iconst 0, 1, 0, 0, []) := rfl
theorem kc11_1 : zt_code 11 1 = some (.istore 5, 3, 0, 0, []) := rfl
theorem kc11_3 : zt_code 11 3 = some (.iload 5, 5, 0, 0, []) := rfl
theorem kc11_5 : zt_code 11 5 = some (.aload_n 0, 6, 0, 0, []) := rfl
theorem kc11_6 : zt_code 11 6 = some (.getfield 18, 9, 2, 1, []) := rfl
theorem kc11_9 : zt_code 11 9 = some (.if_icmp .ge 57, 12, 66, 0, []) := rfl
theorem kc11_12 : zt_code 11 12 = some (.iload 5, 14, 0, 0, []) := rfl
theorem kc11_14 : zt_code 11 14 = some (.aload_n 0, 15, 0, 0, []) := rfl
theorem kc11_15 : zt_code 11 15 = some (.getfield 11, 18, 2, 0, []) := rfl
theorem kc11_18 : zt_code 11 18 = some (.arraylength, 19, 0, 0, []) := rfl
theorem kc11_19 : zt_code 11 19 = some (.if_icmp .ge 47, 22, 66, 0, []) := rfl
theorem kc11_22 : zt_code 11 22 = some (.aload_n 0, 23, 0, 0, []) := rfl
theorem kc11_23 : zt_code 11 23 = some (.getfield 11, 26, 2, 0, []) := rfl
theorem kc11_26 : zt_code 11 26 = some (.iload 5, 28, 0, 0, []) := rfl
theorem kc11_28 : zt_code 11 28 = some (.aaload, 29, 0, 0, []) := rfl
theorem kc11_29 : zt_code 11 29 = some (.astore 6, 31, 0, 0, []) := rfl
theorem kc11_31 : zt_code 11 31 = some (.aload 6, 33, 0, 0, []) := rfl
theorem kc11_33 : zt_code 11 33 = some (.ifnull 27, 36, 60, 0, []) := rfl
theorem kc11_36 : zt_code 11 36 = some (.aload 6, 38, 0, 0, []) := rfl
theorem kc11_38 : zt_code 11 38 = some (.getfield 22, 41, 1, 0, []) := rfl
theorem kc11_41 : zt_code 11 41 = some (.aload_n 1, 42, 0, 0, []) := rfl
theorem kc11_42 : zt_code 11 42 = some (.if_acmp .ne 18, 45, 60, 0, []) := rfl
theorem kc11_45 : zt_code 11 45 = some (.aload 6, 47, 0, 0, []) := rfl
theorem kc11_47 : zt_code 11 47 = some (.aload_n 2, 48, 0, 0, []) := rfl
theorem kc11_48 : zt_code 11 48 = some (.iload_n 3, 49, 0, 0, []) := rfl
theorem kc11_49 : zt_code 11 49 = some (.iload 4, 51, 0, 0, []) := rfl
theorem kc11_51 : zt_code 11 51 = some (.invokevirtual 26, 54, 9, 3, []) := rfl
theorem kc11_54 : zt_code 11 54 = some (.ifCond .eq 6, 57, 60, 0, []) := rfl
theorem kc11_57 : zt_code 11 57 = some (.aload 6, 59, 0, 0, []) := rfl
theorem kc11_59 : zt_code 11 59 = some (.areturn, 60, 0, 0, []) := rfl
theorem kc11_60 : zt_code 11 60 = some (.iinc 5 1, 63, 0, 0, []) := rfl
theorem kc11_63 : zt_code 11 63 = some (.goto (-60), 66, 3, 0, []) := rfl
theorem kc11_66 : zt_code 11 66 = some (.aconst_null, 67, 0, 0, []) := rfl
theorem kc11_67 : zt_code 11 67 = some (.areturn, 68, 0, 0, []) := rfl
theorem kc12_0 : zt_code 12 0 = some (.aload_n 0, 1, 0, 0, []) := rfl
theorem kc12_1 : zt_code 12 1 = some (.getfield 18, 4, 2, 1, []) := rfl
theorem kc12_4 : zt_code 12 4 = some (.ifCond .lt 15, 7, 19, 0, []) := rfl
theorem kc12_7 : zt_code 12 7 = some (.aload_n 0, 8, 0, 0, []) := rfl
theorem kc12_8 : zt_code 12 8 = some (.getfield 18, 11, 2, 1, []) := rfl
theorem kc12_11 : zt_code 12 11 = some (.aload_n 0, 12, 0, 0, []) := rfl
theorem kc12_12 : zt_code 12 12 = some (.getfield 11, 15, 2, 0, []) := rfl
theorem kc12_15 : zt_code 12 15 = some (.arraylength, 16, 0, 0, []) := rfl
theorem kc12_16 : zt_code 12 16 = some (.if_icmp .lt 4, 19, 20, 0, []) := rfl
theorem kc12_19 : zt_code 12 19 = some (.return_, 20, 0, 0, []) := rfl
theorem kc12_20 : zt_code 12 20 = some (.aload_n 0, 21, 0, 0, []) := rfl
theorem kc12_21 : zt_code 12 21 = some (.getfield 11, 24, 2, 0, []) := rfl
theorem kc12_24 : zt_code 12 24 = some (.aload_n 0, 25, 0, 0, []) := rfl
theorem kc12_25 : zt_code 12 25 = some (.getfield 18, 28, 2, 1, []) := rfl
theorem kc12_28 : zt_code 12 28 = some (.aaload, 29, 0, 0, []) := rfl
theorem kc12_29 : zt_code 12 29 = some (.astore_n 3, 30, 0, 0, []) := rfl
theorem kc12_30 : zt_code 12 30 = some (.aload_n 2, 31, 0, 0, []) := rfl
theorem kc12_31 : zt_code 12 31 = some (.getfield 30, 34, 6, 8, []) := rfl
theorem kc12_34 : zt_code 12 34 = some (.astore 4, 36, 0, 0, []) := rfl
theorem kc12_36 : zt_code 12 36 = some (.aload_n 3, 37, 0, 0, []) := rfl
theorem kc12_37 : zt_code 12 37 = some (.ifnull 8, 40, 45, 0, []) := rfl
theorem kc12_40 : zt_code 12 40 = some (.aload 4, 42, 0, 0, []) := rfl
theorem kc12_42 : zt_code 12 42 = some (.ifnonnull 4, 45, 46, 0, []) := rfl
theorem kc12_45 : zt_code 12 45 = some (.return_, 46, 0, 0, []) := rfl
theorem kc12_46 : zt_code 12 46 = some (.aload_n 0, 47, 0, 0, []) := rfl
theorem kc12_47 : zt_code 12 47 = some (.dup, 48, 0, 0, []) := rfl
theorem kc12_48 : zt_code 12 48 = some (.getfield 18, 51, 2, 1, []) := rfl
theorem kc12_51 : zt_code 12 51 = some (.iconst 1, 52, 0, 0, []) := rfl
theorem kc12_52 : zt_code 12 52 = some (.iadd, 53, 0, 0, []) := rfl
theorem kc12_53 : zt_code 12 53 = some (.putfield 18, 56, 2, 1, []) := rfl
theorem kc12_56 : zt_code 12 56 = some (.aload_n 3, 57, 0, 0, []) := rfl
theorem kc12_57 : zt_code 12 57 = some (.aload_n 2, 58, 0, 0, []) := rfl
theorem kc12_58 : zt_code 12 58 = some (.getfield 33, 61, 6, 5, []) := rfl
theorem kc12_61 : zt_code 12 61 = some (.aload_n 2, 62, 0, 0, []) := rfl
theorem kc12_62 : zt_code 12 62 = some (.getfield 37, 65, 6, 6, []) := rfl
theorem kc12_65 : zt_code 12 65 = some (.aload_n 2, 66, 0, 0, []) := rfl
theorem kc12_66 : zt_code 12 66 = some (.getfield 40, 69, 6, 7, []) := rfl
theorem kc12_69 : zt_code 12 69 = some (.invokevirtual 43, 72, 8, 3, []) := rfl
theorem kc12_72 : zt_code 12 72 = some (.aload_n 3, 73, 0, 0, []) := rfl
theorem kc12_73 : zt_code 12 73 = some (.aload 4, 75, 0, 0, []) := rfl
theorem kc12_75 : zt_code 12 75 = some (.putfield 22, 78, 1, 0, []) := rfl
theorem kc12_78 : zt_code 12 78 = some (.aload_n 3, 79, 0, 0, []) := rfl
theorem kc12_79 : zt_code 12 79 = some (.aload_n 1, 80, 0, 0, []) := rfl
theorem kc12_80 : zt_code 12 80 = some (.putfield 47, 83, 1, 1, []) := rfl
theorem kc12_83 : zt_code 12 83 = some (.aload 4, 85, 0, 0, []) := rfl
theorem kc12_85 : zt_code 12 85 = some (.dup, 86, 0, 0, []) := rfl
theorem kc12_86 : zt_code 12 86 = some (.getfield 50, 89, 5, 4, []) := rfl
theorem kc12_89 : zt_code 12 89 = some (.iconst 1, 90, 0, 0, []) := rfl
theorem kc12_90 : zt_code 12 90 = some (.iadd, 91, 0, 0, []) := rfl
theorem kc12_91 : zt_code 12 91 = some (.putfield 50, 94, 5, 4, []) := rfl
theorem kc12_94 : zt_code 12 94 = some (.aload 4, 96, 0, 0, []) := rfl
theorem kc12_96 : zt_code 12 96 = some (.aload 4, 98, 0, 0, []) := rfl
theorem kc12_98 : zt_code 12 98 = some (.getfield 55, 101, 5, 5, []) := rfl
theorem kc12_101 : zt_code 12 101 = some (.aload 4, 103, 0, 0, []) := rfl
theorem kc12_103 : zt_code 12 103 = some (.getfield 50, 106, 5, 4, []) := rfl
theorem kc12_106 : zt_code 12 106 = some (.invokestatic 58, 109, 1001, 0, []) := rfl
theorem kc12_109 : zt_code 12 109 = some (.putfield 55, 112, 5, 5, []) := rfl
theorem kc12_112 : zt_code 12 112 = some (.aload_n 1, 113, 0, 0, []) := rfl
theorem kc12_113 : zt_code 12 113 = some (.dup, 114, 0, 0, []) := rfl
theorem kc12_114 : zt_code 12 114 = some (.getfield 64, 117, 5, 2, []) := rfl
theorem kc12_117 : zt_code 12 117 = some (.iconst 1, 118, 0, 0, []) := rfl
theorem kc12_118 : zt_code 12 118 = some (.iadd, 119, 0, 0, []) := rfl
theorem kc12_119 : zt_code 12 119 = some (.putfield 64, 122, 5, 2, []) := rfl
theorem kc12_122 : zt_code 12 122 = some (.aload_n 1, 123, 0, 0, []) := rfl
theorem kc12_123 : zt_code 12 123 = some (.getfield 67, 126, 5, 1, []) := rfl
theorem kc12_126 : zt_code 12 126 = some (.iconst 2, 127, 0, 0, []) := rfl
theorem kc12_127 : zt_code 12 127 = some (.if_icmp .ne 9, 130, 136, 0, []) := rfl
theorem kc12_130 : zt_code 12 130 = some (.aload_n 1, 131, 0, 0, []) := rfl
theorem kc12_131 : zt_code 12 131 = some (.aload 4, 133, 0, 0, []) := rfl
theorem kc12_133 : zt_code 12 133 = some (.putfield 70, 136, 5, 6, []) := rfl
theorem kc12_136 : zt_code 12 136 = some (.return_, 137, 0, 0, []) := rfl
theorem kc13_0 : zt_code 13 0 = some (.aload_n 0, 1, 0, 0, []) := rfl
theorem kc13_1 : zt_code 13 1 = some (.getfield 18, 4, 2, 1, []) := rfl
theorem kc13_4 : zt_code 13 4 = some (.iconst 1, 5, 0, 0, []) := rfl
theorem kc13_5 : zt_code 13 5 = some (.isub, 6, 0, 0, []) := rfl
theorem kc13_6 : zt_code 13 6 = some (.istore_n 2, 7, 0, 0, []) := rfl
theorem kc13_7 : zt_code 13 7 = some (.iconst 0, 8, 0, 0, []) := rfl
theorem kc13_8 : zt_code 13 8 = some (.istore_n 3, 9, 0, 0, []) := rfl
theorem kc13_9 : zt_code 13 9 = some (.iload_n 3, 10, 0, 0, []) := rfl
theorem kc13_10 : zt_code 13 10 = some (.iload_n 2, 11, 0, 0, []) := rfl
theorem kc13_11 : zt_code 13 11 = some (.if_icmp .gt 57, 14, 68, 0, []) := rfl
theorem kc13_14 : zt_code 13 14 = some (.iload_n 2, 15, 0, 0, []) := rfl
theorem kc13_15 : zt_code 13 15 = some (.aload_n 0, 16, 0, 0, []) := rfl
theorem kc13_16 : zt_code 13 16 = some (.getfield 11, 19, 2, 0, []) := rfl
theorem kc13_19 : zt_code 13 19 = some (.arraylength, 20, 0, 0, []) := rfl
theorem kc13_20 : zt_code 13 20 = some (.if_icmp .ge 48, 23, 68, 0, []) := rfl
theorem kc13_23 : zt_code 13 23 = some (.aload_n 0, 24, 0, 0, []) := rfl
theorem kc13_24 : zt_code 13 24 = some (.getfield 11, 27, 2, 0, []) := rfl
theorem kc13_27 : zt_code 13 27 = some (.iload_n 3, 28, 0, 0, []) := rfl
theorem kc13_28 : zt_code 13 28 = some (.aaload, 29, 0, 0, []) := rfl
theorem kc13_29 : zt_code 13 29 = some (.aload_n 1, 30, 0, 0, []) := rfl
theorem kc13_30 : zt_code 13 30 = some (.if_acmp .ne 32, 33, 62, 0, []) := rfl
theorem kc13_33 : zt_code 13 33 = some (.aload_n 0, 34, 0, 0, []) := rfl
theorem kc13_34 : zt_code 13 34 = some (.getfield 11, 37, 2, 0, []) := rfl
theorem kc13_37 : zt_code 13 37 = some (.iload_n 3, 38, 0, 0, []) := rfl
theorem kc13_38 : zt_code 13 38 = some (.aload_n 0, 39, 0, 0, []) := rfl
theorem kc13_39 : zt_code 13 39 = some (.getfield 11, 42, 2, 0, []) := rfl
theorem kc13_42 : zt_code 13 42 = some (.iload_n 2, 43, 0, 0, []) := rfl
theorem kc13_43 : zt_code 13 43 = some (.aaload, 44, 0, 0, []) := rfl
theorem kc13_44 : zt_code 13 44 = some (.aastore, 45, 0, 0, []) := rfl
theorem kc13_45 : zt_code 13 45 = some (.aload_n 0, 46, 0, 0, []) := rfl
theorem kc13_46 : zt_code 13 46 = some (.getfield 11, 49, 2, 0, []) := rfl
theorem kc13_49 : zt_code 13 49 = some (.iload_n 2, 50, 0, 0, []) := rfl
theorem kc13_50 : zt_code 13 50 = some (.aload_n 1, 51, 0, 0, []) := rfl
theorem kc13_51 : zt_code 13 51 = some (.aastore, 52, 0, 0, []) := rfl
theorem kc13_52 : zt_code 13 52 = some (.aload_n 0, 53, 0, 0, []) := rfl
theorem kc13_53 : zt_code 13 53 = some (.iload_n 2, 54, 0, 0, []) := rfl
theorem kc13_54 : zt_code 13 54 = some (.putfield 18, 57, 2, 1, []) := rfl
theorem kc13_57 : zt_code 13 57 = some (.aload_n 1, 58, 0, 0, []) := rfl
theorem kc13_58 : zt_code 13 58 = some (.invokestatic 73, 61, 14, 1, []) := rfl
theorem kc13_61 : zt_code 13 61 = some (.return_, 62, 0, 0, []) := rfl
theorem kc13_62 : zt_code 13 62 = some (.iinc 3 1, 65, 0, 0, []) := rfl
theorem kc13_65 : zt_code 13 65 = some (.goto (-56), 68, 9, 0, []) := rfl
theorem kc13_68 : zt_code 13 68 = some (.return_, 69, 0, 0, []) := rfl
theorem kc14_0 : zt_code 14 0 = some (.aload_n 0, 1, 0, 0, []) := rfl
theorem kc14_1 : zt_code 14 1 = some (.ifnonnull 4, 4, 5, 0, []) := rfl
theorem kc14_4 : zt_code 14 4 = some (.return_, 5, 0, 0, []) := rfl
theorem kc14_5 : zt_code 14 5 = some (.aload_n 0, 6, 0, 0, []) := rfl
theorem kc14_6 : zt_code 14 6 = some (.getfield 22, 9, 1, 0, []) := rfl
theorem kc14_9 : zt_code 14 9 = some (.ifnull 16, 12, 25, 0, []) := rfl
theorem kc14_12 : zt_code 14 12 = some (.aload_n 0, 13, 0, 0, []) := rfl
theorem kc14_13 : zt_code 14 13 = some (.getfield 22, 16, 1, 0, []) := rfl
theorem kc14_16 : zt_code 14 16 = some (.dup, 17, 0, 0, []) := rfl
theorem kc14_17 : zt_code 14 17 = some (.getfield 50, 20, 5, 4, []) := rfl
theorem kc14_20 : zt_code 14 20 = some (.iconst 1, 21, 0, 0, []) := rfl
theorem kc14_21 : zt_code 14 21 = some (.isub, 22, 0, 0, []) := rfl
theorem kc14_22 : zt_code 14 22 = some (.putfield 50, 25, 5, 4, []) := rfl
theorem kc14_25 : zt_code 14 25 = some (.aload_n 0, 26, 0, 0, []) := rfl
theorem kc14_26 : zt_code 14 26 = some (.getfield 47, 29, 1, 1, []) := rfl
theorem kc14_29 : zt_code 14 29 = some (.ifnull 16, 32, 45, 0, []) := rfl
theorem kc14_32 : zt_code 14 32 = some (.aload_n 0, 33, 0, 0, []) := rfl
theorem kc14_33 : zt_code 14 33 = some (.getfield 47, 36, 1, 1, []) := rfl
theorem kc14_36 : zt_code 14 36 = some (.dup, 37, 0, 0, []) := rfl
theorem kc14_37 : zt_code 14 37 = some (.getfield 64, 40, 5, 2, []) := rfl
theorem kc14_40 : zt_code 14 40 = some (.iconst 1, 41, 0, 0, []) := rfl
theorem kc14_41 : zt_code 14 41 = some (.isub, 42, 0, 0, []) := rfl
theorem kc14_42 : zt_code 14 42 = some (.putfield 64, 45, 5, 2, []) := rfl
theorem kc14_45 : zt_code 14 45 = some (.aload_n 0, 46, 0, 0, []) := rfl
theorem kc14_46 : zt_code 14 46 = some (.aconst_null, 47, 0, 0, []) := rfl
theorem kc14_47 : zt_code 14 47 = some (.putfield 22, 50, 1, 0, []) := rfl
theorem kc14_50 : zt_code 14 50 = some (.aload_n 0, 51, 0, 0, []) := rfl
theorem kc14_51 : zt_code 14 51 = some (.aconst_null, 52, 0, 0, []) := rfl
theorem kc14_52 : zt_code 14 52 = some (.putfield 47, 55, 1, 1, []) := rfl
theorem kc14_55 : zt_code 14 55 = some (.return_, 56, 0, 0, []) := rfl
theorem kc15_0 : zt_code 15 0 = some (.aload_n 0, 1, 0, 0, []) := rfl
theorem kc15_1 : zt_code 15 1 = some (.invokespecial 3, 4, 1000, 0, []) := rfl
theorem kc15_4 : zt_code 15 4 = some (.return_, 5, 0, 0, []) := rfl
theorem kc16_0 : zt_code 16 0 = some (.aload_n 0, 1, 0, 0, []) := rfl
theorem kc16_1 : zt_code 16 1 = some (.getfield 9, 4, 3, 1, []) := rfl
theorem kc16_4 : zt_code 16 4 = some (.aload_n 0, 5, 0, 0, []) := rfl
theorem kc16_5 : zt_code 16 5 = some (.getfield 15, 8, 3, 2, []) := rfl
theorem kc16_8 : zt_code 16 8 = some (.if_icmp .ge 82, 11, 90, 0, []) := rfl
theorem kc16_11 : zt_code 16 11 = some (.aload_n 0, 12, 0, 0, []) := rfl
theorem kc16_12 : zt_code 16 12 = some (.aload_n 0, 13, 0, 0, []) := rfl
theorem kc16_13 : zt_code 16 13 = some (.getfield 9, 16, 3, 1, []) := rfl
theorem kc16_16 : zt_code 16 16 = some (.bipush 47, 18, 0, 0, []) := rfl
theorem kc16_18 : zt_code 16 18 = some (.invokevirtual 18, 21, 18, 2, []) := rfl
theorem kc16_21 : zt_code 16 21 = some (.ifCond .ne 44, 24, 65, 0, []) := rfl
theorem kc16_24 : zt_code 16 24 = some (.aload_n 0, 25, 0, 0, []) := rfl
theorem kc16_25 : zt_code 16 25 = some (.aload_n 0, 26, 0, 0, []) := rfl
theorem kc16_26 : zt_code 16 26 = some (.getfield 9, 29, 3, 1, []) := rfl
theorem kc16_29 : zt_code 16 29 = some (.bipush 46, 31, 0, 0, []) := rfl
theorem kc16_31 : zt_code 16 31 = some (.invokevirtual 18, 34, 18, 2, []) := rfl
theorem kc16_34 : zt_code 16 34 = some (.ifCond .eq 35, 37, 69, 0, []) := rfl
theorem kc16_37 : zt_code 16 37 = some (.aload_n 0, 38, 0, 0, []) := rfl
theorem kc16_38 : zt_code 16 38 = some (.getfield 9, 41, 3, 1, []) := rfl
theorem kc16_41 : zt_code 16 41 = some (.iconst 1, 42, 0, 0, []) := rfl
theorem kc16_42 : zt_code 16 42 = some (.iadd, 43, 0, 0, []) := rfl
theorem kc16_43 : zt_code 16 43 = some (.aload_n 0, 44, 0, 0, []) := rfl
theorem kc16_44 : zt_code 16 44 = some (.getfield 15, 47, 3, 2, []) := rfl
theorem kc16_47 : zt_code 16 47 = some (.if_icmp .ge 18, 50, 65, 0, []) := rfl
theorem kc16_50 : zt_code 16 50 = some (.aload_n 0, 51, 0, 0, []) := rfl
theorem kc16_51 : zt_code 16 51 = some (.aload_n 0, 52, 0, 0, []) := rfl
theorem kc16_52 : zt_code 16 52 = some (.getfield 9, 55, 3, 1, []) := rfl
theorem kc16_55 : zt_code 16 55 = some (.iconst 1, 56, 0, 0, []) := rfl
theorem kc16_56 : zt_code 16 56 = some (.iadd, 57, 0, 0, []) := rfl
theorem kc16_57 : zt_code 16 57 = some (.bipush 47, 59, 0, 0, []) := rfl
theorem kc16_59 : zt_code 16 59 = some (.invokevirtual 18, 62, 18, 2, []) := rfl
theorem kc16_62 : zt_code 16 62 = some (.ifCond .eq 7, 65, 69, 0, []) := rfl
theorem kc16_65 : zt_code 16 65 = some (.iconst 1, 66, 0, 0, []) := rfl
theorem kc16_66 : zt_code 16 66 = some (.goto 4, 69, 70, 0, []) := rfl
theorem kc16_69 : zt_code 16 69 = some (.iconst 0, 70, 0, 0, []) := rfl
theorem kc16_70 : zt_code 16 70 = some (.istore_n 1, 71, 0, 0, []) := rfl
theorem kc16_71 : zt_code 16 71 = some (.iload_n 1, 72, 0, 0, []) := rfl
theorem kc16_72 : zt_code 16 72 = some (.ifCond .ne 5, 75, 77, 0, []) := rfl
theorem kc16_75 : zt_code 16 75 = some (.iconst 1, 76, 0, 0, []) := rfl
theorem kc16_76 : zt_code 16 76 = some (.ireturn, 77, 0, 0, []) := rfl
theorem kc16_77 : zt_code 16 77 = some (.aload_n 0, 78, 0, 0, []) := rfl
theorem kc16_78 : zt_code 16 78 = some (.dup, 79, 0, 0, []) := rfl
theorem kc16_79 : zt_code 16 79 = some (.getfield 9, 82, 3, 1, []) := rfl
theorem kc16_82 : zt_code 16 82 = some (.iconst 1, 83, 0, 0, []) := rfl
theorem kc16_83 : zt_code 16 83 = some (.iadd, 84, 0, 0, []) := rfl
theorem kc16_84 : zt_code 16 84 = some (.putfield 9, 87, 3, 1, []) := rfl
theorem kc16_87 : zt_code 16 87 = some (.goto (-87), 90, 0, 0, []) := rfl
theorem kc16_90 : zt_code 16 90 = some (.iconst 0, 91, 0, 0, []) := rfl
theorem kc16_91 : zt_code 16 91 = some (.ireturn, 92, 0, 0, []) := rfl
theorem kc17_0 : zt_code 17 0 = some (.aload_n 0, 1, 0, 0, []) := rfl
theorem kc17_1 : zt_code 17 1 = some (.getfield 9, 4, 3, 1, []) := rfl
theorem kc17_4 : zt_code 17 4 = some (.aload_n 0, 5, 0, 0, []) := rfl
theorem kc17_5 : zt_code 17 5 = some (.getfield 15, 8, 3, 2, []) := rfl
theorem kc17_8 : zt_code 17 8 = some (.if_icmp .ge 29, 11, 37, 0, []) := rfl
theorem kc17_11 : zt_code 17 11 = some (.aload_n 0, 12, 0, 0, []) := rfl
theorem kc17_12 : zt_code 17 12 = some (.aload_n 0, 13, 0, 0, []) := rfl
theorem kc17_13 : zt_code 17 13 = some (.getfield 9, 16, 3, 1, []) := rfl
theorem kc17_16 : zt_code 17 16 = some (.bipush 47, 18, 0, 0, []) := rfl
theorem kc17_18 : zt_code 17 18 = some (.invokevirtual 18, 21, 18, 2, []) := rfl
theorem kc17_21 : zt_code 17 21 = some (.ifCond .ne 16, 24, 37, 0, []) := rfl
theorem kc17_24 : zt_code 17 24 = some (.aload_n 0, 25, 0, 0, []) := rfl
theorem kc17_25 : zt_code 17 25 = some (.dup, 26, 0, 0, []) := rfl
theorem kc17_26 : zt_code 17 26 = some (.getfield 9, 29, 3, 1, []) := rfl
theorem kc17_29 : zt_code 17 29 = some (.iconst 1, 30, 0, 0, []) := rfl
theorem kc17_30 : zt_code 17 30 = some (.iadd, 31, 0, 0, []) := rfl
theorem kc17_31 : zt_code 17 31 = some (.putfield 9, 34, 3, 1, []) := rfl
theorem kc17_34 : zt_code 17 34 = some (.goto (-34), 37, 0, 0, []) := rfl
theorem kc17_37 : zt_code 17 37 = some (.aload_n 0, 38, 0, 0, []) := rfl
theorem kc17_38 : zt_code 17 38 = some (.getfield 9, 41, 3, 1, []) := rfl
theorem kc17_41 : zt_code 17 41 = some (.ireturn, 42, 0, 0, []) := rfl
theorem kc18_0 : zt_code 18 0 = some (.aload_n 0, 1, 0, 0, []) := rfl
theorem kc18_1 : zt_code 18 1 = some (.getfield 22, 4, 3, 0, []) := rfl
theorem kc18_4 : zt_code 18 4 = some (.ifnull 30, 7, 34, 0, []) := rfl
theorem kc18_7 : zt_code 18 7 = some (.iload_n 1, 8, 0, 0, []) := rfl
theorem kc18_8 : zt_code 18 8 = some (.ifCond .lt 26, 11, 34, 0, []) := rfl
theorem kc18_11 : zt_code 18 11 = some (.iload_n 1, 12, 0, 0, []) := rfl
theorem kc18_12 : zt_code 18 12 = some (.aload_n 0, 13, 0, 0, []) := rfl
theorem kc18_13 : zt_code 18 13 = some (.getfield 22, 16, 3, 0, []) := rfl
theorem kc18_16 : zt_code 18 16 = some (.arraylength, 17, 0, 0, []) := rfl
theorem kc18_17 : zt_code 18 17 = some (.if_icmp .ge 17, 20, 34, 0, []) := rfl
theorem kc18_20 : zt_code 18 20 = some (.aload_n 0, 21, 0, 0, []) := rfl
theorem kc18_21 : zt_code 18 21 = some (.getfield 22, 24, 3, 0, []) := rfl
theorem kc18_24 : zt_code 18 24 = some (.iload_n 1, 25, 0, 0, []) := rfl
theorem kc18_25 : zt_code 18 25 = some (.baload, 26, 0, 0, []) := rfl
theorem kc18_26 : zt_code 18 26 = some (.iload_n 2, 27, 0, 0, []) := rfl
theorem kc18_27 : zt_code 18 27 = some (.if_icmp .ne 7, 30, 34, 0, []) := rfl
theorem kc18_30 : zt_code 18 30 = some (.iconst 1, 31, 0, 0, []) := rfl
theorem kc18_31 : zt_code 18 31 = some (.goto 4, 34, 35, 0, []) := rfl
theorem kc18_34 : zt_code 18 34 = some (.iconst 0, 35, 0, 0, []) := rfl
theorem kc18_35 : zt_code 18 35 = some (.ireturn, 36, 0, 0, []) := rfl
theorem kc19_0 : zt_code 19 0 = some (.aload_n 0, 1, 0, 0, []) := rfl
theorem kc19_1 : zt_code 19 1 = some (.invokespecial 3, 4, 1000, 0, []) := rfl
theorem kc19_4 : zt_code 19 4 = some (.aload_n 0, 5, 0, 0, []) := rfl
theorem kc19_5 : zt_code 19 5 = some (.sipush 1200, 8, 0, 0, []) := rfl
theorem kc19_8 : zt_code 19 8 = some (.newarray .byte, 10, 100, 0, []) := rfl
theorem kc19_10 : zt_code 19 10 = some (.putfield 9, 13, 4, 0, []) := rfl
theorem kc19_13 : zt_code 19 13 = some (.return_, 14, 0, 0, []) := rfl
theorem kc20_0 : zt_code 20 0 = some (.iload_n 1, 1, 0, 0, []) := rfl
theorem kc20_1 : zt_code 20 1 = some (.sipush 1200, 4, 0, 0, []) := rfl
theorem kc20_4 : zt_code 20 4 = some (.aload_n 0, 5, 0, 0, []) := rfl
theorem kc20_5 : zt_code 20 5 = some (.getfield 15, 8, 4, 1, []) := rfl
theorem kc20_8 : zt_code 20 8 = some (.isub, 9, 0, 0, []) := rfl
theorem kc20_9 : zt_code 20 9 = some (.if_icmp .gt 7, 12, 16, 0, []) := rfl
theorem kc20_12 : zt_code 20 12 = some (.iconst 1, 13, 0, 0, []) := rfl
theorem kc20_13 : zt_code 20 13 = some (.goto 4, 16, 17, 0, []) := rfl
theorem kc20_16 : zt_code 20 16 = some (.iconst 0, 17, 0, 0, []) := rfl
theorem kc20_17 : zt_code 20 17 = some (.ireturn, 18, 0, 0, []) := rfl
theorem kc21_0 : zt_code 21 0 = some (.aload_n 0, 1, 0, 0, []) := rfl
theorem kc21_1 : zt_code 21 1 = some (.getfield 15, 4, 4, 1, []) := rfl
theorem kc21_4 : zt_code 21 4 = some (.ifCond .lt 35, 7, 39, 0, []) := rfl
theorem kc21_7 : zt_code 21 7 = some (.aload_n 0, 8, 0, 0, []) := rfl
theorem kc21_8 : zt_code 21 8 = some (.getfield 15, 11, 4, 1, []) := rfl
theorem kc21_11 : zt_code 21 11 = some (.aload_n 0, 12, 0, 0, []) := rfl
theorem kc21_12 : zt_code 21 12 = some (.getfield 9, 15, 4, 0, []) := rfl
theorem kc21_15 : zt_code 21 15 = some (.arraylength, 16, 0, 0, []) := rfl
theorem kc21_16 : zt_code 21 16 = some (.if_icmp .ge 23, 19, 39, 0, []) := rfl
theorem kc21_19 : zt_code 21 19 = some (.aload_n 0, 20, 0, 0, []) := rfl
theorem kc21_20 : zt_code 21 20 = some (.getfield 9, 23, 4, 0, []) := rfl
theorem kc21_23 : zt_code 21 23 = some (.aload_n 0, 24, 0, 0, []) := rfl
theorem kc21_24 : zt_code 21 24 = some (.getfield 15, 27, 4, 1, []) := rfl
theorem kc21_27 : zt_code 21 27 = some (.iload_n 1, 28, 0, 0, []) := rfl
theorem kc21_28 : zt_code 21 28 = some (.bastore, 29, 0, 0, []) := rfl
theorem kc21_29 : zt_code 21 29 = some (.aload_n 0, 30, 0, 0, []) := rfl
theorem kc21_30 : zt_code 21 30 = some (.dup, 31, 0, 0, []) := rfl
theorem kc21_31 : zt_code 21 31 = some (.getfield 15, 34, 4, 1, []) := rfl
theorem kc21_34 : zt_code 21 34 = some (.iconst 1, 35, 0, 0, []) := rfl
theorem kc21_35 : zt_code 21 35 = some (.iadd, 36, 0, 0, []) := rfl
theorem kc21_36 : zt_code 21 36 = some (.putfield 15, 39, 4, 1, []) := rfl
theorem kc21_39 : zt_code 21 39 = some (.return_, 40, 0, 0, []) := rfl
theorem kc22_0 : zt_code 22 0 = some (.aload_n 0, 1, 0, 0, []) := rfl
theorem kc22_1 : zt_code 22 1 = some (.getfield 15, 4, 4, 1, []) := rfl
theorem kc22_4 : zt_code 22 4 = some (.istore_n 1, 5, 0, 0, []) := rfl
theorem kc22_5 : zt_code 22 5 = some (.aload_n 0, 6, 0, 0, []) := rfl
theorem kc22_6 : zt_code 22 6 = some (.iconst 0, 7, 0, 0, []) := rfl
theorem kc22_7 : zt_code 22 7 = some (.putfield 15, 10, 4, 1, []) := rfl
theorem kc22_10 : zt_code 22 10 = some (.iload_n 1, 11, 0, 0, []) := rfl
theorem kc22_11 : zt_code 22 11 = some (.ireturn, 12, 0, 0, []) := rfl
theorem kc23_0 : zt_code 23 0 = some (.aload_n 0, 1, 0, 0, []) := rfl
theorem kc23_1 : zt_code 23 1 = some (.iconst 0, 2, 0, 0, []) := rfl
theorem kc23_2 : zt_code 23 2 = some (.iload_n 1, 3, 0, 0, []) := rfl
theorem kc23_3 : zt_code 23 3 = some (.invokevirtual 19, 6, 25, 2, []) := rfl
theorem kc23_6 : zt_code 23 6 = some (.ifCond .lt 7, 9, 13, 0, []) := rfl
theorem kc23_9 : zt_code 23 9 = some (.iconst 1, 10, 0, 0, []) := rfl
theorem kc23_10 : zt_code 23 10 = some (.goto 4, 13, 14, 0, []) := rfl
theorem kc23_13 : zt_code 23 13 = some (.iconst 0, 14, 0, 0, []) := rfl
theorem kc23_14 : zt_code 23 14 = some (.ireturn, 15, 0, 0, []) := rfl
theorem kc24_0 : zt_code 24 0 = some (.aload_n 0, 1, 0, 0, []) := rfl
theorem kc24_1 : zt_code 24 1 = some (.iconst 0, 2, 0, 0, []) := rfl
theorem kc24_2 : zt_code 24 2 = some (.iload_n 1, 3, 0, 0, []) := rfl
theorem kc24_3 : zt_code 24 3 = some (.invokevirtual 19, 6, 25, 2, []) := rfl
theorem kc24_6 : zt_code 24 6 = some (.istore_n 2, 7, 0, 0, []) := rfl
theorem kc24_7 : zt_code 24 7 = some (.iload_n 2, 8, 0, 0, []) := rfl
theorem kc24_8 : zt_code 24 8 = some (.ifCond .lt 18, 11, 26, 0, []) := rfl
theorem kc24_11 : zt_code 24 11 = some (.aload_n 0, 12, 0, 0, []) := rfl
theorem kc24_12 : zt_code 24 12 = some (.iload_n 2, 13, 0, 0, []) := rfl
theorem kc24_13 : zt_code 24 13 = some (.iconst 1, 14, 0, 0, []) := rfl
theorem kc24_14 : zt_code 24 14 = some (.iadd, 15, 0, 0, []) := rfl
theorem kc24_15 : zt_code 24 15 = some (.iload_n 1, 16, 0, 0, []) := rfl
theorem kc24_16 : zt_code 24 16 = some (.invokevirtual 19, 19, 25, 2, []) := rfl
theorem kc24_19 : zt_code 24 19 = some (.ifCond .ge 7, 22, 26, 0, []) := rfl
theorem kc24_22 : zt_code 24 22 = some (.iload_n 2, 23, 0, 0, []) := rfl
theorem kc24_23 : zt_code 24 23 = some (.goto 4, 26, 27, 0, []) := rfl
theorem kc24_26 : zt_code 24 26 = some (.iconst (-1), 27, 0, 0, []) := rfl
theorem kc24_27 : zt_code 24 27 = some (.ireturn, 28, 0, 0, []) := rfl
theorem kc25_0 : zt_code 25 0 = some (.iload_n 1, 1, 0, 0, []) := rfl
theorem kc25_1 : zt_code 25 1 = some (.istore_n 3, 2, 0, 0, []) := rfl
theorem kc25_2 : zt_code 25 2 = some (.iload_n 3, 3, 0, 0, []) := rfl
theorem kc25_3 : zt_code 25 3 = some (.ifCond .lt 34, 6, 37, 0, []) := rfl
theorem kc25_6 : zt_code 25 6 = some (.iload_n 3, 7, 0, 0, []) := rfl
theorem kc25_7 : zt_code 25 7 = some (.iload_n 2, 8, 0, 0, []) := rfl
theorem kc25_8 : zt_code 25 8 = some (.if_icmp .ge 29, 11, 37, 0, []) := rfl
theorem kc25_11 : zt_code 25 11 = some (.iload_n 3, 12, 0, 0, []) := rfl
theorem kc25_12 : zt_code 25 12 = some (.aload_n 0, 13, 0, 0, []) := rfl
theorem kc25_13 : zt_code 25 13 = some (.getfield 9, 16, 4, 0, []) := rfl
theorem kc25_16 : zt_code 25 16 = some (.arraylength, 17, 0, 0, []) := rfl
theorem kc25_17 : zt_code 25 17 = some (.if_icmp .ge 20, 20, 37, 0, []) := rfl
theorem kc25_20 : zt_code 25 20 = some (.aload_n 0, 21, 0, 0, []) := rfl
theorem kc25_21 : zt_code 25 21 = some (.getfield 9, 24, 4, 0, []) := rfl
theorem kc25_24 : zt_code 25 24 = some (.iload_n 3, 25, 0, 0, []) := rfl
theorem kc25_25 : zt_code 25 25 = some (.baload, 26, 0, 0, []) := rfl
theorem kc25_26 : zt_code 25 26 = some (.ifCond .ne 5, 29, 31, 0, []) := rfl
theorem kc25_29 : zt_code 25 29 = some (.iload_n 3, 30, 0, 0, []) := rfl
theorem kc25_30 : zt_code 25 30 = some (.ireturn, 31, 0, 0, []) := rfl
theorem kc25_31 : zt_code 25 31 = some (.iinc 3 1, 34, 0, 0, []) := rfl
theorem kc25_34 : zt_code 25 34 = some (.goto (-32), 37, 2, 0, []) := rfl
theorem kc25_37 : zt_code 25 37 = some (.iconst (-1), 38, 0, 0, []) := rfl
theorem kc25_38 : zt_code 25 38 = some (.ireturn, 39, 0, 0, []) := rfl
theorem kc26_0 : zt_code 26 0 = some (.aload_n 0, 1, 0, 0, []) := rfl
theorem kc26_1 : zt_code 26 1 = some (.invokespecial 3, 4, 1000, 0, []) := rfl
theorem kc26_4 : zt_code 26 4 = some (.aload_n 0, 5, 0, 0, []) := rfl
theorem kc26_5 : zt_code 26 5 = some (.iload_n 1, 6, 0, 0, []) := rfl
theorem kc26_6 : zt_code 26 6 = some (.putfield 9, 9, 5, 0, []) := rfl
theorem kc26_9 : zt_code 26 9 = some (.return_, 10, 0, 0, []) := rfl
theorem kc27_0 : zt_code 27 0 = some (.aload_n 0, 1, 0, 0, []) := rfl
theorem kc27_1 : zt_code 27 1 = some (.iload_n 1, 2, 0, 0, []) := rfl
theorem kc27_2 : zt_code 27 2 = some (.putfield 15, 5, 5, 1, []) := rfl
theorem kc27_5 : zt_code 27 5 = some (.aload_n 0, 6, 0, 0, []) := rfl
theorem kc27_6 : zt_code 27 6 = some (.iconst 0, 7, 0, 0, []) := rfl
theorem kc27_7 : zt_code 27 7 = some (.putfield 18, 10, 5, 2, []) := rfl
theorem kc27_10 : zt_code 27 10 = some (.aload_n 0, 11, 0, 0, []) := rfl
theorem kc27_11 : zt_code 27 11 = some (.iconst 0, 12, 0, 0, []) := rfl
theorem kc27_12 : zt_code 27 12 = some (.putfield 21, 15, 5, 3, []) := rfl
theorem kc27_15 : zt_code 27 15 = some (.aload_n 0, 16, 0, 0, []) := rfl
theorem kc27_16 : zt_code 27 16 = some (.iconst 0, 17, 0, 0, []) := rfl
theorem kc27_17 : zt_code 27 17 = some (.putfield 24, 20, 5, 4, []) := rfl
theorem kc27_20 : zt_code 27 20 = some (.aload_n 0, 21, 0, 0, []) := rfl
theorem kc27_21 : zt_code 27 21 = some (.iconst 0, 22, 0, 0, []) := rfl
theorem kc27_22 : zt_code 27 22 = some (.putfield 27, 25, 5, 5, []) := rfl
theorem kc27_25 : zt_code 27 25 = some (.aload_n 0, 26, 0, 0, []) := rfl
theorem kc27_26 : zt_code 27 26 = some (.aconst_null, 27, 0, 0, []) := rfl
theorem kc27_27 : zt_code 27 27 = some (.putfield 30, 30, 5, 6, []) := rfl
theorem kc27_30 : zt_code 27 30 = some (.aload_n 0, 31, 0, 0, []) := rfl
theorem kc27_31 : zt_code 27 31 = some (.iconst 0, 32, 0, 0, []) := rfl
theorem kc27_32 : zt_code 27 32 = some (.putfield 34, 35, 5, 8, []) := rfl
theorem kc27_35 : zt_code 27 35 = some (.return_, 36, 0, 0, []) := rfl
theorem kc28_0 : zt_code 28 0 = some (.aload_n 0, 1, 0, 0, []) := rfl
theorem kc28_1 : zt_code 28 1 = some (.getfield 37, 4, 5, 7, []) := rfl
theorem kc28_4 : zt_code 28 4 = some (.ifnonnull 12, 7, 16, 0, []) := rfl
theorem kc28_7 : zt_code 28 7 = some (.aload_n 0, 8, 0, 0, []) := rfl
theorem kc28_8 : zt_code 28 8 = some (.sipush 1000, 11, 0, 0, []) := rfl
theorem kc28_11 : zt_code 28 11 = some (.newarray .byte, 13, 100, 0, []) := rfl
theorem kc28_13 : zt_code 28 13 = some (.putfield 37, 16, 5, 7, []) := rfl
theorem kc28_16 : zt_code 28 16 = some (.aload_n 0, 17, 0, 0, []) := rfl
theorem kc28_17 : zt_code 28 17 = some (.aload_n 1, 18, 0, 0, []) := rfl
theorem kc28_18 : zt_code 28 18 = some (.iload_n 2, 19, 0, 0, []) := rfl
theorem kc28_19 : zt_code 28 19 = some (.iload_n 3, 20, 0, 0, []) := rfl
theorem kc28_20 : zt_code 28 20 = some (.aload_n 0, 21, 0, 0, []) := rfl
theorem kc28_21 : zt_code 28 21 = some (.getfield 37, 24, 5, 7, []) := rfl
theorem kc28_24 : zt_code 28 24 = some (.invokestatic 41, 27, 72, 4, []) := rfl
theorem kc28_27 : zt_code 28 27 = some (.putfield 34, 30, 5, 8, []) := rfl
theorem kc28_30 : zt_code 28 30 = some (.return_, 31, 0, 0, []) := rfl
theorem kc29_0 : zt_code 29 0 = some (.aload_n 0, 1, 0, 0, []) := rfl
theorem kc29_1 : zt_code 29 1 = some (.getfield 15, 4, 5, 1, []) := rfl
theorem kc29_4 : zt_code 29 4 = some (.iconst 3, 5, 0, 0, []) := rfl
theorem kc29_5 : zt_code 29 5 = some (.if_icmp .ne 31, 8, 36, 0, []) := rfl
theorem kc29_8 : zt_code 29 8 = some (.aload_n 0, 9, 0, 0, []) := rfl
theorem kc29_9 : zt_code 29 9 = some (.getfield 37, 12, 5, 7, []) := rfl
theorem kc29_12 : zt_code 29 12 = some (.ifnull 24, 15, 36, 0, []) := rfl
theorem kc29_15 : zt_code 29 15 = some (.iload_n 1, 16, 0, 0, []) := rfl
theorem kc29_16 : zt_code 29 16 = some (.ifCond .lt 20, 19, 36, 0, []) := rfl
theorem kc29_19 : zt_code 29 19 = some (.iload_n 1, 20, 0, 0, []) := rfl
theorem kc29_20 : zt_code 29 20 = some (.aload_n 0, 21, 0, 0, []) := rfl
theorem kc29_21 : zt_code 29 21 = some (.getfield 34, 24, 5, 8, []) := rfl
theorem kc29_24 : zt_code 29 24 = some (.if_icmp .ge 12, 27, 36, 0, []) := rfl
theorem kc29_27 : zt_code 29 27 = some (.iload_n 1, 28, 0, 0, []) := rfl
theorem kc29_28 : zt_code 29 28 = some (.aload_n 0, 29, 0, 0, []) := rfl
theorem kc29_29 : zt_code 29 29 = some (.getfield 37, 32, 5, 7, []) := rfl
theorem kc29_32 : zt_code 29 32 = some (.arraylength, 33, 0, 0, []) := rfl
theorem kc29_33 : zt_code 29 33 = some (.if_icmp .lt 5, 36, 38, 0, []) := rfl
theorem kc29_36 : zt_code 29 36 = some (.iconst (-1), 37, 0, 0, []) := rfl
theorem kc29_37 : zt_code 29 37 = some (.ireturn, 38, 0, 0, []) := rfl
theorem kc29_38 : zt_code 29 38 = some (.aload_n 0, 39, 0, 0, []) := rfl
theorem kc29_39 : zt_code 29 39 = some (.getfield 37, 42, 5, 7, []) := rfl
theorem kc29_42 : zt_code 29 42 = some (.iload_n 1, 43, 0, 0, []) := rfl
theorem kc29_43 : zt_code 29 43 = some (.baload, 44, 0, 0, []) := rfl
theorem kc29_44 : zt_code 29 44 = some (.sipush 255, 47, 0, 0, []) := rfl
theorem kc29_47 : zt_code 29 47 = some (.iand, 48, 0, 0, []) := rfl
theorem kc29_48 : zt_code 29 48 = some (.ireturn, 49, 0, 0, []) := rfl
theorem kc30_0 : zt_code 30 0 = some (.aload_n 0, 1, 0, 0, []) := rfl
theorem kc30_1 : zt_code 30 1 = some (.getfield 15, 4, 5, 1, []) := rfl
theorem kc30_4 : zt_code 30 4 = some (.tableswitch 46 1 3 #[28, 30, 38], 32, 50, 0, [(1, 32), (2, 34), (3, 42)]) := rfl
theorem kc30_32 : zt_code 30 32 = some (.iconst 1, 33, 0, 0, []) := rfl
theorem kc30_33 : zt_code 30 33 = some (.ireturn, 34, 0, 0, []) := rfl
theorem kc30_34 : zt_code 30 34 = some (.aload_n 0, 35, 0, 0, []) := rfl
theorem kc30_35 : zt_code 30 35 = some (.getfield 27, 38, 5, 5, []) := rfl
theorem kc30_38 : zt_code 30 38 = some (.invokestatic 45, 41, 71, 1, []) := rfl
theorem kc30_41 : zt_code 30 41 = some (.ireturn, 42, 0, 0, []) := rfl
theorem kc30_42 : zt_code 30 42 = some (.aload_n 0, 43, 0, 0, []) := rfl
theorem kc30_43 : zt_code 30 43 = some (.getfield 34, 46, 5, 8, []) := rfl
theorem kc30_46 : zt_code 30 46 = some (.invokestatic 49, 49, 70, 1, []) := rfl
theorem kc30_49 : zt_code 30 49 = some (.ireturn, 50, 0, 0, []) := rfl
theorem kc30_50 : zt_code 30 50 = some (.iconst 0, 51, 0, 0, []) := rfl
theorem kc30_51 : zt_code 30 51 = some (.ireturn, 52, 0, 0, []) := rfl
theorem kc31_0 : zt_code 31 0 = some (.aload_n 0, 1, 0, 0, []) := rfl
theorem kc31_1 : zt_code 31 1 = some (.getfield 27, 4, 5, 5, []) := rfl
theorem kc31_4 : zt_code 31 4 = some (.aload_n 0, 5, 0, 0, []) := rfl
theorem kc31_5 : zt_code 31 5 = some (.getfield 24, 8, 5, 4, []) := rfl
theorem kc31_8 : zt_code 31 8 = some (.iconst 1, 9, 0, 0, []) := rfl
theorem kc31_9 : zt_code 31 9 = some (.iadd, 10, 0, 0, []) := rfl
theorem kc31_10 : zt_code 31 10 = some (.invokestatic 52, 13, 1001, 0, []) := rfl
theorem kc31_13 : zt_code 31 13 = some (.invokestatic 45, 16, 71, 1, []) := rfl
theorem kc31_16 : zt_code 31 16 = some (.aload_n 0, 17, 0, 0, []) := rfl
theorem kc31_17 : zt_code 31 17 = some (.getfield 27, 20, 5, 5, []) := rfl
theorem kc31_20 : zt_code 31 20 = some (.invokestatic 45, 23, 71, 1, []) := rfl
theorem kc31_23 : zt_code 31 23 = some (.isub, 24, 0, 0, []) := rfl
theorem kc31_24 : zt_code 31 24 = some (.ireturn, 25, 0, 0, []) := rfl
theorem kc32_0 : zt_code 32 0 = some (.aload_n 0, 1, 0, 0, []) := rfl
theorem kc32_1 : zt_code 32 1 = some (.getfield 15, 4, 5, 1, []) := rfl
theorem kc32_4 : zt_code 32 4 = some (.tableswitch 43 1 3 #[28, 33, 38], 32, 47, 0, [(1, 32), (2, 37), (3, 42)]) := rfl
theorem kc32_32 : zt_code 32 32 = some (.aload_n 0, 33, 0, 0, []) := rfl
theorem kc32_33 : zt_code 32 33 = some (.getfield 21, 36, 5, 3, []) := rfl
theorem kc32_36 : zt_code 32 36 = some (.ireturn, 37, 0, 0, []) := rfl
theorem kc32_37 : zt_code 32 37 = some (.aload_n 0, 38, 0, 0, []) := rfl
theorem kc32_38 : zt_code 32 38 = some (.getfield 24, 41, 5, 4, []) := rfl
theorem kc32_41 : zt_code 32 41 = some (.ireturn, 42, 0, 0, []) := rfl
theorem kc32_42 : zt_code 32 42 = some (.aload_n 0, 43, 0, 0, []) := rfl
theorem kc32_43 : zt_code 32 43 = some (.getfield 34, 46, 5, 8, []) := rfl
theorem kc32_46 : zt_code 32 46 = some (.ireturn, 47, 0, 0, []) := rfl
theorem kc32_47 : zt_code 32 47 = some (.iconst 0, 48, 0, 0, []) := rfl
theorem kc32_48 : zt_code 32 48 = some (.ireturn, 49, 0, 0, []) := rfl
theorem kc33_0 : zt_code 33 0 = some (.aload_n 0, 1, 0, 0, []) := rfl
theorem kc33_1 : zt_code 33 1 = some (.getfield 18, 4, 5, 2, []) := rfl
theorem kc33_4 : zt_code 33 4 = some (.ifCond .ne 15, 7, 19, 0, []) := rfl
theorem kc33_7 : zt_code 33 7 = some (.aload_n 0, 8, 0, 0, []) := rfl
theorem kc33_8 : zt_code 33 8 = some (.getfield 21, 11, 5, 3, []) := rfl
theorem kc33_11 : zt_code 33 11 = some (.ifCond .ne 8, 14, 19, 0, []) := rfl
theorem kc33_14 : zt_code 33 14 = some (.aload_n 0, 15, 0, 0, []) := rfl
theorem kc33_15 : zt_code 33 15 = some (.iconst 0, 16, 0, 0, []) := rfl
theorem kc33_16 : zt_code 33 16 = some (.invokevirtual 58, 19, 27, 1, []) := rfl
theorem kc33_19 : zt_code 33 19 = some (.return_, 20, 0, 0, []) := rfl
theorem kc34_0 : zt_code 34 0 = some (.aload_n 0, 1, 0, 0, []) := rfl
theorem kc34_1 : zt_code 34 1 = some (.invokespecial 3, 4, 1000, 0, []) := rfl
theorem kc34_4 : zt_code 34 4 = some (.aload_n 0, 5, 0, 0, []) := rfl
theorem kc34_5 : zt_code 34 5 = some (.bipush 41, 7, 0, 0, []) := rfl
theorem kc34_7 : zt_code 34 7 = some (.anewarray 9, 10, 203, 0, []) := rfl
theorem kc34_10 : zt_code 34 10 = some (.putfield 11, 13, 6, 2, []) := rfl
theorem kc34_13 : zt_code 34 13 = some (.aload_n 0, 14, 0, 0, []) := rfl
theorem kc34_14 : zt_code 34 14 = some (.aload_n 1, 15, 0, 0, []) := rfl
theorem kc34_15 : zt_code 34 15 = some (.putfield 17, 18, 6, 0, []) := rfl
theorem kc34_18 : zt_code 34 18 = some (.aload_n 0, 19, 0, 0, []) := rfl
theorem kc34_19 : zt_code 34 19 = some (.aload_n 2, 20, 0, 0, []) := rfl
theorem kc34_20 : zt_code 34 20 = some (.putfield 21, 23, 6, 1, []) := rfl
theorem kc34_23 : zt_code 34 23 = some (.iconst 0, 24, 0, 0, []) := rfl
theorem kc34_24 : zt_code 34 24 = some (.istore_n 3, 25, 0, 0, []) := rfl
theorem kc34_25 : zt_code 34 25 = some (.iload_n 3, 26, 0, 0, []) := rfl
theorem kc34_26 : zt_code 34 26 = some (.aload_n 0, 27, 0, 0, []) := rfl
theorem kc34_27 : zt_code 34 27 = some (.getfield 11, 30, 6, 2, []) := rfl
theorem kc34_30 : zt_code 34 30 = some (.arraylength, 31, 0, 0, []) := rfl
theorem kc34_31 : zt_code 34 31 = some (.if_icmp .ge 22, 34, 53, 0, []) := rfl
theorem kc34_34 : zt_code 34 34 = some (.aload_n 0, 35, 0, 0, []) := rfl
theorem kc34_35 : zt_code 34 35 = some (.getfield 11, 38, 6, 2, []) := rfl
theorem kc34_38 : zt_code 34 38 = some (.iload_n 3, 39, 0, 0, []) := rfl
theorem kc34_39 : zt_code 34 39 = some (.new 9, 42, 3, 3, []) := rfl
theorem kc34_42 : zt_code 34 42 = some (.dup, 43, 0, 0, []) := rfl
theorem kc34_43 : zt_code 34 43 = some (.invokespecial 25, 46, 15, 0, []) := rfl
theorem kc34_46 : zt_code 34 46 = some (.aastore, 47, 0, 0, []) := rfl
theorem kc34_47 : zt_code 34 47 = some (.iinc 3 1, 50, 0, 0, []) := rfl
theorem kc34_50 : zt_code 34 50 = some (.goto (-25), 53, 25, 0, []) := rfl
theorem kc34_53 : zt_code 34 53 = some (.return_, 54, 0, 0, []) := rfl
theorem kc35_0 : zt_code 35 0 = some (.aload_n 0, 1, 0, 0, []) := rfl
theorem kc35_1 : zt_code 35 1 = some (.aload_n 1, 2, 0, 0, []) := rfl
theorem kc35_2 : zt_code 35 2 = some (.iload_n 2, 3, 0, 0, []) := rfl
theorem kc35_3 : zt_code 35 3 = some (.iload_n 3, 4, 0, 0, []) := rfl
theorem kc35_4 : zt_code 35 4 = some (.iconst 0, 5, 0, 0, []) := rfl
theorem kc35_5 : zt_code 35 5 = some (.invokevirtual 26, 8, 36, 4, []) := rfl
theorem kc35_8 : zt_code 35 8 = some (.istore 4, 10, 0, 0, []) := rfl
theorem kc35_10 : zt_code 35 10 = some (.iload 4, 12, 0, 0, []) := rfl
theorem kc35_12 : zt_code 35 12 = some (.ifCond .eq 6, 15, 18, 0, []) := rfl
theorem kc35_15 : zt_code 35 15 = some (.iload 4, 17, 0, 0, []) := rfl
theorem kc35_17 : zt_code 35 17 = some (.ireturn, 18, 0, 0, []) := rfl
theorem kc35_18 : zt_code 35 18 = some (.aload_n 0, 19, 0, 0, []) := rfl
theorem kc35_19 : zt_code 35 19 = some (.getfield 30, 22, 6, 7, []) := rfl
theorem kc35_22 : zt_code 35 22 = some (.ifCond .eq 10, 25, 32, 0, []) := rfl
theorem kc35_25 : zt_code 35 25 = some (.aload_n 0, 26, 0, 0, []) := rfl
theorem kc35_26 : zt_code 35 26 = some (.invokevirtual 34, 29, 44, 0, []) := rfl
theorem kc35_29 : zt_code 35 29 = some (.ifCond .eq 7, 32, 36, 0, []) := rfl
theorem kc35_32 : zt_code 35 32 = some (.iconst (-1), 33, 0, 0, []) := rfl
theorem kc35_33 : zt_code 35 33 = some (.goto 4, 36, 37, 0, []) := rfl
theorem kc35_36 : zt_code 35 36 = some (.iconst 0, 37, 0, 0, []) := rfl
theorem kc35_37 : zt_code 35 37 = some (.ireturn, 38, 0, 0, []) := rfl
theorem kc36_0 : zt_code 36 0 = some (.aload_n 0, 1, 0, 0, []) := rfl
theorem kc36_1 : zt_code 36 1 = some (.invokevirtual 38, 4, 37, 0, []) := rfl
theorem kc36_4 : zt_code 36 4 = some (.aload_n 0, 5, 0, 0, []) := rfl
theorem kc36_5 : zt_code 36 5 = some (.aload_n 1, 6, 0, 0, []) := rfl
theorem kc36_6 : zt_code 36 6 = some (.iload_n 2, 7, 0, 0, []) := rfl
theorem kc36_7 : zt_code 36 7 = some (.iload_n 3, 8, 0, 0, []) := rfl
theorem kc36_8 : zt_code 36 8 = some (.invokevirtual 41, 11, 38, 3, []) := rfl
theorem kc36_11 : zt_code 36 11 = some (.iconst 0, 12, 0, 0, []) := rfl
theorem kc36_12 : zt_code 36 12 = some (.istore 5, 14, 0, 0, []) := rfl
theorem kc36_14 : zt_code 36 14 = some (.iload 5, 16, 0, 0, []) := rfl
theorem kc36_16 : zt_code 36 16 = some (.ldc 45, 18, 0, 0, [(1000000, 0)]) := rfl
theorem kc36_18 : zt_code 36 18 = some (.if_icmp .ge 48, 21, 66, 0, []) := rfl
theorem kc36_21 : zt_code 36 21 = some (.aload_n 0, 22, 0, 0, []) := rfl
theorem kc36_22 : zt_code 36 22 = some (.invokevirtual 46, 25, 39, 0, []) := rfl
theorem kc36_25 : zt_code 36 25 = some (.ifCond .eq 41, 28, 66, 0, []) := rfl
theorem kc36_28 : zt_code 36 28 = some (.aload_n 0, 29, 0, 0, []) := rfl
theorem kc36_29 : zt_code 36 29 = some (.invokevirtual 49, 32, 41, 0, []) := rfl
theorem kc36_32 : zt_code 36 32 = some (.aload_n 0, 33, 0, 0, []) := rfl
theorem kc36_33 : zt_code 36 33 = some (.aload_n 0, 34, 0, 0, []) := rfl
theorem kc36_34 : zt_code 36 34 = some (.invokevirtual 46, 37, 39, 0, []) := rfl
theorem kc36_37 : zt_code 36 37 = some (.ifCond .ne 7, 40, 44, 0, []) := rfl
theorem kc36_40 : zt_code 36 40 = some (.iconst 1, 41, 0, 0, []) := rfl
theorem kc36_41 : zt_code 36 41 = some (.goto 4, 44, 45, 0, []) := rfl
theorem kc36_44 : zt_code 36 44 = some (.iconst 0, 45, 0, 0, []) := rfl
theorem kc36_45 : zt_code 36 45 = some (.iload 4, 47, 0, 0, []) := rfl
theorem kc36_47 : zt_code 36 47 = some (.invokevirtual 52, 50, 42, 2, []) := rfl
theorem kc36_50 : zt_code 36 50 = some (.istore 6, 52, 0, 0, []) := rfl
theorem kc36_52 : zt_code 36 52 = some (.iload 6, 54, 0, 0, []) := rfl
theorem kc36_54 : zt_code 36 54 = some (.ifCond .eq 6, 57, 60, 0, []) := rfl
theorem kc36_57 : zt_code 36 57 = some (.iload 6, 59, 0, 0, []) := rfl
theorem kc36_59 : zt_code 36 59 = some (.ireturn, 60, 0, 0, []) := rfl
theorem kc36_60 : zt_code 36 60 = some (.iinc 5 1, 63, 0, 0, []) := rfl
theorem kc36_63 : zt_code 36 63 = some (.goto (-49), 66, 14, 0, []) := rfl
theorem kc36_66 : zt_code 36 66 = some (.iconst 0, 67, 0, 0, []) := rfl
theorem kc36_67 : zt_code 36 67 = some (.ireturn, 68, 0, 0, []) := rfl
theorem kc37_0 : zt_code 37 0 = some (.aload_n 0, 1, 0, 0, []) := rfl
theorem kc37_1 : zt_code 37 1 = some (.iconst 0, 2, 0, 0, []) := rfl
theorem kc37_2 : zt_code 37 2 = some (.putfield 56, 5, 6, 3, []) := rfl
theorem kc37_5 : zt_code 37 5 = some (.aload_n 0, 6, 0, 0, []) := rfl
theorem kc37_6 : zt_code 37 6 = some (.iconst 0, 7, 0, 0, []) := rfl
theorem kc37_7 : zt_code 37 7 = some (.putfield 59, 10, 6, 4, []) := rfl
theorem kc37_10 : zt_code 37 10 = some (.aload_n 0, 11, 0, 0, []) := rfl
theorem kc37_11 : zt_code 37 11 = some (.aconst_null, 12, 0, 0, []) := rfl
theorem kc37_12 : zt_code 37 12 = some (.putfield 62, 15, 6, 5, []) := rfl
theorem kc37_15 : zt_code 37 15 = some (.aload_n 0, 16, 0, 0, []) := rfl
theorem kc37_16 : zt_code 37 16 = some (.iconst 0, 17, 0, 0, []) := rfl
theorem kc37_17 : zt_code 37 17 = some (.putfield 66, 20, 6, 6, []) := rfl
theorem kc37_20 : zt_code 37 20 = some (.aload_n 0, 21, 0, 0, []) := rfl
theorem kc37_21 : zt_code 37 21 = some (.iconst 0, 22, 0, 0, []) := rfl
theorem kc37_22 : zt_code 37 22 = some (.putfield 30, 25, 6, 7, []) := rfl
theorem kc37_25 : zt_code 37 25 = some (.aload_n 0, 26, 0, 0, []) := rfl
theorem kc37_26 : zt_code 37 26 = some (.aload_n 0, 27, 0, 0, []) := rfl
theorem kc37_27 : zt_code 37 27 = some (.getfield 17, 30, 6, 0, []) := rfl
theorem kc37_30 : zt_code 37 30 = some (.putfield 69, 33, 6, 8, []) := rfl
theorem kc37_33 : zt_code 37 33 = some (.aload_n 0, 34, 0, 0, []) := rfl
theorem kc37_34 : zt_code 37 34 = some (.aconst_null, 35, 0, 0, []) := rfl
theorem kc37_35 : zt_code 37 35 = some (.putfield 72, 38, 6, 9, []) := rfl
theorem kc37_38 : zt_code 37 38 = some (.aload_n 0, 39, 0, 0, []) := rfl
theorem kc37_39 : zt_code 37 39 = some (.aload_n 0, 40, 0, 0, []) := rfl
theorem kc37_40 : zt_code 37 40 = some (.getfield 17, 43, 6, 0, []) := rfl
theorem kc37_43 : zt_code 37 43 = some (.putfield 76, 46, 6, 10, []) := rfl
theorem kc37_46 : zt_code 37 46 = some (.return_, 47, 0, 0, []) := rfl
theorem kc38_0 : zt_code 38 0 = some (.aload_n 0, 1, 0, 0, []) := rfl
theorem kc38_1 : zt_code 38 1 = some (.getfield 56, 4, 6, 3, []) := rfl
theorem kc38_4 : zt_code 38 4 = some (.ifCond .lt 27, 7, 31, 0, []) := rfl
theorem kc38_7 : zt_code 38 7 = some (.aload_n 0, 8, 0, 0, []) := rfl
theorem kc38_8 : zt_code 38 8 = some (.getfield 56, 11, 6, 3, []) := rfl
theorem kc38_11 : zt_code 38 11 = some (.aload_n 0, 12, 0, 0, []) := rfl
theorem kc38_12 : zt_code 38 12 = some (.getfield 11, 15, 6, 2, []) := rfl
theorem kc38_15 : zt_code 38 15 = some (.arraylength, 16, 0, 0, []) := rfl
theorem kc38_16 : zt_code 38 16 = some (.if_icmp .ge 15, 19, 31, 0, []) := rfl
theorem kc38_19 : zt_code 38 19 = some (.aload_n 0, 20, 0, 0, []) := rfl
theorem kc38_20 : zt_code 38 20 = some (.getfield 11, 23, 6, 2, []) := rfl
theorem kc38_23 : zt_code 38 23 = some (.aload_n 0, 24, 0, 0, []) := rfl
theorem kc38_24 : zt_code 38 24 = some (.getfield 56, 27, 6, 3, []) := rfl
theorem kc38_27 : zt_code 38 27 = some (.aaload, 28, 0, 0, []) := rfl
theorem kc38_28 : zt_code 38 28 = some (.ifnonnull 4, 31, 32, 0, []) := rfl
theorem kc38_31 : zt_code 38 31 = some (.return_, 32, 0, 0, []) := rfl
theorem kc38_32 : zt_code 38 32 = some (.aload_n 0, 33, 0, 0, []) := rfl
theorem kc38_33 : zt_code 38 33 = some (.getfield 11, 36, 6, 2, []) := rfl
theorem kc38_36 : zt_code 38 36 = some (.aload_n 0, 37, 0, 0, []) := rfl
theorem kc38_37 : zt_code 38 37 = some (.getfield 56, 40, 6, 3, []) := rfl
theorem kc38_40 : zt_code 38 40 = some (.aaload, 41, 0, 0, []) := rfl
theorem kc38_41 : zt_code 38 41 = some (.astore 4, 43, 0, 0, []) := rfl
theorem kc38_43 : zt_code 38 43 = some (.aload 4, 45, 0, 0, []) := rfl
theorem kc38_45 : zt_code 38 45 = some (.aload_n 1, 46, 0, 0, []) := rfl
theorem kc38_46 : zt_code 38 46 = some (.putfield 79, 49, 3, 0, []) := rfl
theorem kc38_49 : zt_code 38 49 = some (.aload 4, 51, 0, 0, []) := rfl
theorem kc38_51 : zt_code 38 51 = some (.iload_n 2, 52, 0, 0, []) := rfl
theorem kc38_52 : zt_code 38 52 = some (.putfield 82, 55, 3, 1, []) := rfl
theorem kc38_55 : zt_code 38 55 = some (.aload 4, 57, 0, 0, []) := rfl
theorem kc38_57 : zt_code 38 57 = some (.iload_n 3, 58, 0, 0, []) := rfl
theorem kc38_58 : zt_code 38 58 = some (.putfield 85, 61, 3, 2, []) := rfl
theorem kc38_61 : zt_code 38 61 = some (.aload_n 0, 62, 0, 0, []) := rfl
theorem kc38_62 : zt_code 38 62 = some (.dup, 63, 0, 0, []) := rfl
theorem kc38_63 : zt_code 38 63 = some (.getfield 56, 66, 6, 3, []) := rfl
theorem kc38_66 : zt_code 38 66 = some (.iconst 1, 67, 0, 0, []) := rfl
theorem kc38_67 : zt_code 38 67 = some (.iadd, 68, 0, 0, []) := rfl
theorem kc38_68 : zt_code 38 68 = some (.putfield 56, 71, 6, 3, []) := rfl
theorem kc38_71 : zt_code 38 71 = some (.return_, 72, 0, 0, []) := rfl
theorem kc39_0 : zt_code 39 0 = some (.aload_n 0, 1, 0, 0, []) := rfl
theorem kc39_1 : zt_code 39 1 = some (.getfield 56, 4, 6, 3, []) := rfl
theorem kc39_4 : zt_code 39 4 = some (.ifCond .le 34, 7, 38, 0, []) := rfl
theorem kc39_7 : zt_code 39 7 = some (.aload_n 0, 8, 0, 0, []) := rfl
theorem kc39_8 : zt_code 39 8 = some (.invokevirtual 88, 11, 40, 0, []) := rfl
theorem kc39_11 : zt_code 39 11 = some (.astore_n 1, 12, 0, 0, []) := rfl
theorem kc39_12 : zt_code 39 12 = some (.aload_n 1, 13, 0, 0, []) := rfl
theorem kc39_13 : zt_code 39 13 = some (.ifnull 12, 16, 25, 0, []) := rfl
theorem kc39_16 : zt_code 39 16 = some (.aload_n 1, 17, 0, 0, []) := rfl
theorem kc39_17 : zt_code 39 17 = some (.invokevirtual 92, 20, 16, 0, []) := rfl
theorem kc39_20 : zt_code 39 20 = some (.ifCond .eq 5, 23, 25, 0, []) := rfl
theorem kc39_23 : zt_code 39 23 = some (.iconst 1, 24, 0, 0, []) := rfl
theorem kc39_24 : zt_code 39 24 = some (.ireturn, 25, 0, 0, []) := rfl
theorem kc39_25 : zt_code 39 25 = some (.aload_n 0, 26, 0, 0, []) := rfl
theorem kc39_26 : zt_code 39 26 = some (.dup, 27, 0, 0, []) := rfl
theorem kc39_27 : zt_code 39 27 = some (.getfield 56, 30, 6, 3, []) := rfl
theorem kc39_30 : zt_code 39 30 = some (.iconst 1, 31, 0, 0, []) := rfl
theorem kc39_31 : zt_code 39 31 = some (.isub, 32, 0, 0, []) := rfl
theorem kc39_32 : zt_code 39 32 = some (.putfield 56, 35, 6, 3, []) := rfl
theorem kc39_35 : zt_code 39 35 = some (.goto (-35), 38, 0, 0, []) := rfl
theorem kc39_38 : zt_code 39 38 = some (.iconst 0, 39, 0, 0, []) := rfl
theorem kc39_39 : zt_code 39 39 = some (.ireturn, 40, 0, 0, []) := rfl
theorem kc40_0 : zt_code 40 0 = some (.aload_n 0, 1, 0, 0, []) := rfl
theorem kc40_1 : zt_code 40 1 = some (.getfield 56, 4, 6, 3, []) := rfl
theorem kc40_4 : zt_code 40 4 = some (.ifCond .le 29, 7, 33, 0, []) := rfl
theorem kc40_7 : zt_code 40 7 = some (.aload_n 0, 8, 0, 0, []) := rfl
theorem kc40_8 : zt_code 40 8 = some (.getfield 56, 11, 6, 3, []) := rfl
theorem kc40_11 : zt_code 40 11 = some (.aload_n 0, 12, 0, 0, []) := rfl
theorem kc40_12 : zt_code 40 12 = some (.getfield 11, 15, 6, 2, []) := rfl
theorem kc40_15 : zt_code 40 15 = some (.arraylength, 16, 0, 0, []) := rfl
theorem kc40_16 : zt_code 40 16 = some (.if_icmp .gt 17, 19, 33, 0, []) := rfl
theorem kc40_19 : zt_code 40 19 = some (.aload_n 0, 20, 0, 0, []) := rfl
theorem kc40_20 : zt_code 40 20 = some (.getfield 11, 23, 6, 2, []) := rfl
theorem kc40_23 : zt_code 40 23 = some (.aload_n 0, 24, 0, 0, []) := rfl
theorem kc40_24 : zt_code 40 24 = some (.getfield 56, 27, 6, 3, []) := rfl
theorem kc40_27 : zt_code 40 27 = some (.iconst 1, 28, 0, 0, []) := rfl
theorem kc40_28 : zt_code 40 28 = some (.isub, 29, 0, 0, []) := rfl
theorem kc40_29 : zt_code 40 29 = some (.aaload, 30, 0, 0, []) := rfl
theorem kc40_30 : zt_code 40 30 = some (.goto 4, 33, 34, 0, []) := rfl
theorem kc40_33 : zt_code 40 33 = some (.aconst_null, 34, 0, 0, []) := rfl
theorem kc40_34 : zt_code 40 34 = some (.areturn, 35, 0, 0, []) := rfl
theorem kc41_0 : zt_code 41 0 = some (.aload_n 0, 1, 0, 0, []) := rfl
theorem kc41_1 : zt_code 41 1 = some (.invokevirtual 88, 4, 40, 0, []) := rfl
theorem kc41_4 : zt_code 41 4 = some (.astore_n 1, 5, 0, 0, []) := rfl
theorem kc41_5 : zt_code 41 5 = some (.aload_n 1, 6, 0, 0, []) := rfl
theorem kc41_6 : zt_code 41 6 = some (.ifnull 32, 9, 38, 0, []) := rfl
theorem kc41_9 : zt_code 41 9 = some (.aload_n 0, 10, 0, 0, []) := rfl
theorem kc41_10 : zt_code 41 10 = some (.aload_n 1, 11, 0, 0, []) := rfl
theorem kc41_11 : zt_code 41 11 = some (.getfield 79, 14, 3, 0, []) := rfl
theorem kc41_14 : zt_code 41 14 = some (.putfield 62, 17, 6, 5, []) := rfl
theorem kc41_17 : zt_code 41 17 = some (.aload_n 0, 18, 0, 0, []) := rfl
theorem kc41_18 : zt_code 41 18 = some (.aload_n 1, 19, 0, 0, []) := rfl
theorem kc41_19 : zt_code 41 19 = some (.getfield 82, 22, 3, 1, []) := rfl
theorem kc41_22 : zt_code 41 22 = some (.putfield 66, 25, 6, 6, []) := rfl
theorem kc41_25 : zt_code 41 25 = some (.aload_n 0, 26, 0, 0, []) := rfl
theorem kc41_26 : zt_code 41 26 = some (.aload_n 1, 27, 0, 0, []) := rfl
theorem kc41_27 : zt_code 41 27 = some (.invokevirtual 95, 30, 17, 0, []) := rfl
theorem kc41_30 : zt_code 41 30 = some (.aload_n 0, 31, 0, 0, []) := rfl
theorem kc41_31 : zt_code 41 31 = some (.getfield 66, 34, 6, 6, []) := rfl
theorem kc41_34 : zt_code 41 34 = some (.isub, 35, 0, 0, []) := rfl
theorem kc41_35 : zt_code 41 35 = some (.putfield 30, 38, 6, 7, []) := rfl
theorem kc41_38 : zt_code 41 38 = some (.return_, 39, 0, 0, []) := rfl
theorem kc42_0 : zt_code 42 0 = some (.aload_n 0, 1, 0, 0, []) := rfl
theorem kc42_1 : zt_code 42 1 = some (.getfield 30, 4, 6, 7, []) := rfl
theorem kc42_4 : zt_code 42 4 = some (.sipush 255, 7, 0, 0, []) := rfl
theorem kc42_7 : zt_code 42 7 = some (.if_icmp .le 6, 10, 13, 0, []) := rfl
theorem kc42_10 : zt_code 42 10 = some (.bipush (-9), 12, 0, 0, []) := rfl
theorem kc42_12 : zt_code 42 12 = some (.ireturn, 13, 0, 0, []) := rfl
theorem kc42_13 : zt_code 42 13 = some (.aload_n 0, 14, 0, 0, []) := rfl
theorem kc42_14 : zt_code 42 14 = some (.getfield 76, 17, 6, 10, []) := rfl
theorem kc42_17 : zt_code 42 17 = some (.ifnull 14, 20, 31, 0, []) := rfl
theorem kc42_20 : zt_code 42 20 = some (.aload_n 0, 21, 0, 0, []) := rfl
theorem kc42_21 : zt_code 42 21 = some (.getfield 76, 24, 6, 10, []) := rfl
theorem kc42_24 : zt_code 42 24 = some (.getfield 99, 27, 5, 1, []) := rfl
theorem kc42_27 : zt_code 42 27 = some (.iconst 2, 28, 0, 0, []) := rfl
theorem kc42_28 : zt_code 42 28 = some (.if_icmp .eq 6, 31, 34, 0, []) := rfl
theorem kc42_31 : zt_code 42 31 = some (.bipush (-4), 33, 0, 0, []) := rfl
theorem kc42_33 : zt_code 42 33 = some (.ireturn, 34, 0, 0, []) := rfl
theorem kc42_34 : zt_code 42 34 = some (.aload_n 0, 35, 0, 0, []) := rfl
theorem kc42_35 : zt_code 42 35 = some (.aload_n 0, 36, 0, 0, []) := rfl
theorem kc42_36 : zt_code 42 36 = some (.getfield 76, 39, 6, 10, []) := rfl
theorem kc42_39 : zt_code 42 39 = some (.putfield 69, 42, 6, 8, []) := rfl
theorem kc42_42 : zt_code 42 42 = some (.aload_n 0, 43, 0, 0, []) := rfl
theorem kc42_43 : zt_code 42 43 = some (.invokevirtual 34, 46, 44, 0, []) := rfl
theorem kc42_46 : zt_code 42 46 = some (.ifCond .eq 21, 49, 67, 0, []) := rfl
theorem kc42_49 : zt_code 42 49 = some (.aload_n 0, 50, 0, 0, []) := rfl
theorem kc42_50 : zt_code 42 50 = some (.aconst_null, 51, 0, 0, []) := rfl
theorem kc42_51 : zt_code 42 51 = some (.putfield 72, 54, 6, 9, []) := rfl
theorem kc42_54 : zt_code 42 54 = some (.aload_n 0, 55, 0, 0, []) := rfl
theorem kc42_55 : zt_code 42 55 = some (.aload_n 0, 56, 0, 0, []) := rfl
theorem kc42_56 : zt_code 42 56 = some (.getfield 69, 59, 6, 8, []) := rfl
theorem kc42_59 : zt_code 42 59 = some (.getfield 104, 62, 5, 6, []) := rfl
theorem kc42_62 : zt_code 42 62 = some (.putfield 76, 65, 6, 10, []) := rfl
theorem kc42_65 : zt_code 42 65 = some (.iconst 0, 66, 0, 0, []) := rfl
theorem kc42_66 : zt_code 42 66 = some (.ireturn, 67, 0, 0, []) := rfl
theorem kc42_67 : zt_code 42 67 = some (.aload_n 0, 68, 0, 0, []) := rfl
theorem kc42_68 : zt_code 42 68 = some (.aload_n 0, 69, 0, 0, []) := rfl
theorem kc42_69 : zt_code 42 69 = some (.getfield 21, 72, 6, 1, []) := rfl
theorem kc42_72 : zt_code 42 72 = some (.aload_n 0, 73, 0, 0, []) := rfl
theorem kc42_73 : zt_code 42 73 = some (.getfield 69, 76, 6, 8, []) := rfl
theorem kc42_76 : zt_code 42 76 = some (.aload_n 0, 77, 0, 0, []) := rfl
theorem kc42_77 : zt_code 42 77 = some (.getfield 62, 80, 6, 5, []) := rfl
theorem kc42_80 : zt_code 42 80 = some (.aload_n 0, 81, 0, 0, []) := rfl
theorem kc42_81 : zt_code 42 81 = some (.getfield 66, 84, 6, 6, []) := rfl
theorem kc42_84 : zt_code 42 84 = some (.aload_n 0, 85, 0, 0, []) := rfl
theorem kc42_85 : zt_code 42 85 = some (.getfield 30, 88, 6, 7, []) := rfl
theorem kc42_88 : zt_code 42 88 = some (.invokevirtual 107, 91, 11, 4, []) := rfl
theorem kc42_91 : zt_code 42 91 = some (.putfield 72, 94, 6, 9, []) := rfl
theorem kc42_94 : zt_code 42 94 = some (.aload_n 0, 95, 0, 0, []) := rfl
theorem kc42_95 : zt_code 42 95 = some (.getfield 72, 98, 6, 9, []) := rfl
theorem kc42_98 : zt_code 42 98 = some (.ifnonnull 19, 101, 117, 0, []) := rfl
theorem kc42_101 : zt_code 42 101 = some (.aload_n 0, 102, 0, 0, []) := rfl
theorem kc42_102 : zt_code 42 102 = some (.aconst_null, 103, 0, 0, []) := rfl
theorem kc42_103 : zt_code 42 103 = some (.putfield 76, 106, 6, 10, []) := rfl
theorem kc42_106 : zt_code 42 106 = some (.iload_n 1, 107, 0, 0, []) := rfl
theorem kc42_107 : zt_code 42 107 = some (.ifCond .eq 7, 110, 114, 0, []) := rfl
theorem kc42_110 : zt_code 42 110 = some (.iconst 0, 111, 0, 0, []) := rfl
theorem kc42_111 : zt_code 42 111 = some (.goto 5, 114, 116, 0, []) := rfl
theorem kc42_114 : zt_code 42 114 = some (.bipush (-2), 116, 0, 0, []) := rfl
theorem kc42_116 : zt_code 42 116 = some (.ireturn, 117, 0, 0, []) := rfl
theorem kc42_117 : zt_code 42 117 = some (.aload_n 0, 118, 0, 0, []) := rfl
theorem kc42_118 : zt_code 42 118 = some (.aload_n 0, 119, 0, 0, []) := rfl
theorem kc42_119 : zt_code 42 119 = some (.getfield 72, 122, 6, 9, []) := rfl
theorem kc42_122 : zt_code 42 122 = some (.getfield 113, 125, 1, 1, []) := rfl
theorem kc42_125 : zt_code 42 125 = some (.putfield 76, 128, 6, 10, []) := rfl
theorem kc42_128 : zt_code 42 128 = some (.aload_n 0, 129, 0, 0, []) := rfl
theorem kc42_129 : zt_code 42 129 = some (.getfield 76, 132, 6, 10, []) := rfl
theorem kc42_132 : zt_code 42 132 = some (.ifnull 26, 135, 158, 0, []) := rfl
theorem kc42_135 : zt_code 42 135 = some (.aload_n 0, 136, 0, 0, []) := rfl
theorem kc42_136 : zt_code 42 136 = some (.getfield 76, 139, 6, 10, []) := rfl
theorem kc42_139 : zt_code 42 139 = some (.getfield 99, 142, 5, 1, []) := rfl
theorem kc42_142 : zt_code 42 142 = some (.iconst 3, 143, 0, 0, []) := rfl
theorem kc42_143 : zt_code 42 143 = some (.if_icmp .ne 15, 146, 158, 0, []) := rfl
theorem kc42_146 : zt_code 42 146 = some (.iload_n 2, 147, 0, 0, []) := rfl
theorem kc42_147 : zt_code 42 147 = some (.ifCond .ne 7, 150, 154, 0, []) := rfl
theorem kc42_150 : zt_code 42 150 = some (.iload_n 1, 151, 0, 0, []) := rfl
theorem kc42_151 : zt_code 42 151 = some (.ifCond .ne 7, 154, 158, 0, []) := rfl
theorem kc42_154 : zt_code 42 154 = some (.iconst 1, 155, 0, 0, []) := rfl
theorem kc42_155 : zt_code 42 155 = some (.goto 4, 158, 159, 0, []) := rfl
theorem kc42_158 : zt_code 42 158 = some (.iconst 0, 159, 0, 0, []) := rfl
theorem kc42_159 : zt_code 42 159 = some (.istore_n 3, 160, 0, 0, []) := rfl
theorem kc42_160 : zt_code 42 160 = some (.iload_n 3, 161, 0, 0, []) := rfl
theorem kc42_161 : zt_code 42 161 = some (.ifCond .eq 14, 164, 175, 0, []) := rfl
set_option maxRecDepth 20000 in
theorem kc42_164 : zt_code 42 164 = some (.aload_n 0, 165, 0, 0, []) := rfl
set_option maxRecDepth 20000 in
theorem kc42_165 : zt_code 42 165 = some (.aload_n 0, 166, 0, 0, []) := rfl
set_option maxRecDepth 20000 in
theorem kc42_166 : zt_code 42 166 = some (.getfield 76, 169, 6, 10, []) := rfl
set_option maxRecDepth 20000 in
theorem kc42_169 : zt_code 42 169 = some (.invokevirtual 118, 172, 43, 1, []) := rfl
set_option maxRecDepth 20000 in
theorem kc42_172 : zt_code 42 172 = some (.goto 4, 175, 176, 0, []) := rfl
set_option maxRecDepth 20000 in
theorem kc42_175 : zt_code 42 175 = some (.iconst 0, 176, 0, 0, []) := rfl
set_option maxRecDepth 20000 in
theorem kc42_176 : zt_code 42 176 = some (.ireturn, 177, 0, 0, []) := rfl
theorem kc43_0 : zt_code 43 0 = some (.aload_n 0, 1, 0, 0, []) := rfl
theorem kc43_1 : zt_code 43 1 = some (.getfield 59, 4, 6, 4, []) := rfl
theorem kc43_4 : zt_code 43 4 = some (.bipush 40, 6, 0, 0, []) := rfl
theorem kc43_6 : zt_code 43 6 = some (.if_icmp .lt 6, 9, 12, 0, []) := rfl
theorem kc43_9 : zt_code 43 9 = some (.bipush (-8), 11, 0, 0, []) := rfl
theorem kc43_11 : zt_code 43 11 = some (.ireturn, 12, 0, 0, []) := rfl
theorem kc43_12 : zt_code 43 12 = some (.aload_n 0, 13, 0, 0, []) := rfl
theorem kc43_13 : zt_code 43 13 = some (.dup, 14, 0, 0, []) := rfl
theorem kc43_14 : zt_code 43 14 = some (.getfield 59, 17, 6, 4, []) := rfl
theorem kc43_17 : zt_code 43 17 = some (.iconst 1, 18, 0, 0, []) := rfl
theorem kc43_18 : zt_code 43 18 = some (.iadd, 19, 0, 0, []) := rfl
theorem kc43_19 : zt_code 43 19 = some (.putfield 59, 22, 6, 4, []) := rfl
theorem kc43_22 : zt_code 43 22 = some (.aload_n 0, 23, 0, 0, []) := rfl
theorem kc43_23 : zt_code 43 23 = some (.aload_n 1, 24, 0, 0, []) := rfl
theorem kc43_24 : zt_code 43 24 = some (.getfield 122, 27, 5, 7, []) := rfl
theorem kc43_27 : zt_code 43 27 = some (.iconst 0, 28, 0, 0, []) := rfl
theorem kc43_28 : zt_code 43 28 = some (.aload_n 1, 29, 0, 0, []) := rfl
theorem kc43_29 : zt_code 43 29 = some (.getfield 125, 32, 5, 8, []) := rfl
theorem kc43_32 : zt_code 43 32 = some (.invokevirtual 41, 35, 38, 3, []) := rfl
theorem kc43_35 : zt_code 43 35 = some (.aload_n 0, 36, 0, 0, []) := rfl
theorem kc43_36 : zt_code 43 36 = some (.aload_n 1, 37, 0, 0, []) := rfl
theorem kc43_37 : zt_code 43 37 = some (.iconst 0, 38, 0, 0, []) := rfl
theorem kc43_38 : zt_code 43 38 = some (.invokevirtual 128, 41, 29, 1, []) := rfl
theorem kc43_41 : zt_code 43 41 = some (.bipush 47, 43, 0, 0, []) := rfl
theorem kc43_43 : zt_code 43 43 = some (.if_icmp .ne 10, 46, 53, 0, []) := rfl
theorem kc43_46 : zt_code 43 46 = some (.aload_n 0, 47, 0, 0, []) := rfl
theorem kc43_47 : zt_code 43 47 = some (.getfield 17, 50, 6, 0, []) := rfl
theorem kc43_50 : zt_code 43 50 = some (.goto 7, 53, 57, 0, []) := rfl
theorem kc43_53 : zt_code 43 53 = some (.aload_n 0, 54, 0, 0, []) := rfl
theorem kc43_54 : zt_code 43 54 = some (.getfield 69, 57, 6, 8, []) := rfl
theorem kc43_57 : zt_code 43 57 = some (.putfield 76, 60, 6, 10, []) := rfl
theorem kc43_60 : zt_code 43 60 = some (.iconst 0, 61, 0, 0, []) := rfl
theorem kc43_61 : zt_code 43 61 = some (.ireturn, 62, 0, 0, []) := rfl
theorem kc44_0 : zt_code 44 0 = some (.aload_n 0, 1, 0, 0, []) := rfl
theorem kc44_1 : zt_code 44 1 = some (.getfield 30, 4, 6, 7, []) := rfl
theorem kc44_4 : zt_code 44 4 = some (.iconst 2, 5, 0, 0, []) := rfl
theorem kc44_5 : zt_code 44 5 = some (.if_icmp .ne 65, 8, 70, 0, []) := rfl
theorem kc44_8 : zt_code 44 8 = some (.aload_n 0, 9, 0, 0, []) := rfl
theorem kc44_9 : zt_code 44 9 = some (.getfield 62, 12, 6, 5, []) := rfl
theorem kc44_12 : zt_code 44 12 = some (.ifnull 58, 15, 70, 0, []) := rfl
theorem kc44_15 : zt_code 44 15 = some (.aload_n 0, 16, 0, 0, []) := rfl
theorem kc44_16 : zt_code 44 16 = some (.getfield 66, 19, 6, 6, []) := rfl
theorem kc44_19 : zt_code 44 19 = some (.ifCond .lt 51, 22, 70, 0, []) := rfl
theorem kc44_22 : zt_code 44 22 = some (.aload_n 0, 23, 0, 0, []) := rfl
theorem kc44_23 : zt_code 44 23 = some (.getfield 66, 26, 6, 6, []) := rfl
theorem kc44_26 : zt_code 44 26 = some (.aload_n 0, 27, 0, 0, []) := rfl
theorem kc44_27 : zt_code 44 27 = some (.getfield 62, 30, 6, 5, []) := rfl
theorem kc44_30 : zt_code 44 30 = some (.arraylength, 31, 0, 0, []) := rfl
theorem kc44_31 : zt_code 44 31 = some (.iconst 1, 32, 0, 0, []) := rfl
theorem kc44_32 : zt_code 44 32 = some (.isub, 33, 0, 0, []) := rfl
theorem kc44_33 : zt_code 44 33 = some (.if_icmp .ge 37, 36, 70, 0, []) := rfl
theorem kc44_36 : zt_code 44 36 = some (.aload_n 0, 37, 0, 0, []) := rfl
theorem kc44_37 : zt_code 44 37 = some (.getfield 62, 40, 6, 5, []) := rfl
theorem kc44_40 : zt_code 44 40 = some (.aload_n 0, 41, 0, 0, []) := rfl
theorem kc44_41 : zt_code 44 41 = some (.getfield 66, 44, 6, 6, []) := rfl
theorem kc44_44 : zt_code 44 44 = some (.baload, 45, 0, 0, []) := rfl
theorem kc44_45 : zt_code 44 45 = some (.bipush 46, 47, 0, 0, []) := rfl
theorem kc44_47 : zt_code 44 47 = some (.if_icmp .ne 23, 50, 70, 0, []) := rfl
theorem kc44_50 : zt_code 44 50 = some (.aload_n 0, 51, 0, 0, []) := rfl
theorem kc44_51 : zt_code 44 51 = some (.getfield 62, 54, 6, 5, []) := rfl
theorem kc44_54 : zt_code 44 54 = some (.aload_n 0, 55, 0, 0, []) := rfl
theorem kc44_55 : zt_code 44 55 = some (.getfield 66, 58, 6, 6, []) := rfl
theorem kc44_58 : zt_code 44 58 = some (.iconst 1, 59, 0, 0, []) := rfl
theorem kc44_59 : zt_code 44 59 = some (.iadd, 60, 0, 0, []) := rfl
theorem kc44_60 : zt_code 44 60 = some (.baload, 61, 0, 0, []) := rfl
theorem kc44_61 : zt_code 44 61 = some (.bipush 46, 63, 0, 0, []) := rfl
theorem kc44_63 : zt_code 44 63 = some (.if_icmp .ne 7, 66, 70, 0, []) := rfl
theorem kc44_66 : zt_code 44 66 = some (.iconst 1, 67, 0, 0, []) := rfl
theorem kc44_67 : zt_code 44 67 = some (.goto 4, 70, 71, 0, []) := rfl
theorem kc44_70 : zt_code 44 70 = some (.iconst 0, 71, 0, 0, []) := rfl
theorem kc44_71 : zt_code 44 71 = some (.ireturn, 72, 0, 0, []) := rfl
theorem kc45_0 : zt_code 45 0 = some (.aload_n 0, 1, 0, 0, []) := rfl
theorem kc45_1 : zt_code 45 1 = some (.invokespecial 1, 4, 1000, 0, []) := rfl
theorem kc45_4 : zt_code 45 4 = some (.aload_n 0, 5, 0, 0, []) := rfl
theorem kc45_5 : zt_code 45 5 = some (.new 7, 8, 4, 2, []) := rfl
theorem kc45_8 : zt_code 45 8 = some (.dup, 9, 0, 0, []) := rfl
theorem kc45_9 : zt_code 45 9 = some (.invokespecial 9, 12, 19, 0, []) := rfl
theorem kc45_12 : zt_code 45 12 = some (.putfield 10, 15, 7, 0, []) := rfl
theorem kc45_15 : zt_code 45 15 = some (.aload_n 0, 16, 0, 0, []) := rfl
theorem kc45_16 : zt_code 45 16 = some (.new 16, 19, 0, 2, []) := rfl
theorem kc45_19 : zt_code 45 19 = some (.dup, 20, 0, 0, []) := rfl
theorem kc45_20 : zt_code 45 20 = some (.invokespecial 18, 23, 1, 0, []) := rfl
theorem kc45_23 : zt_code 45 23 = some (.putfield 19, 26, 7, 1, []) := rfl
theorem kc45_26 : zt_code 45 26 = some (.aload_n 0, 27, 0, 0, []) := rfl
theorem kc45_27 : zt_code 45 27 = some (.new 23, 30, 2, 2, []) := rfl
theorem kc45_30 : zt_code 45 30 = some (.dup, 31, 0, 0, []) := rfl
theorem kc45_31 : zt_code 45 31 = some (.invokespecial 25, 34, 10, 0, []) := rfl
theorem kc45_34 : zt_code 45 34 = some (.putfield 26, 37, 7, 2, []) := rfl
theorem kc45_37 : zt_code 45 37 = some (.aload_n 0, 38, 0, 0, []) := rfl
theorem kc45_38 : zt_code 45 38 = some (.new 30, 41, 6, 11, []) := rfl
theorem kc45_41 : zt_code 45 41 = some (.dup, 42, 0, 0, []) := rfl
theorem kc45_42 : zt_code 45 42 = some (.aload_n 0, 43, 0, 0, []) := rfl
theorem kc45_43 : zt_code 45 43 = some (.getfield 19, 46, 7, 1, []) := rfl
theorem kc45_46 : zt_code 45 46 = some (.getfield 32, 49, 0, 1, []) := rfl
theorem kc45_49 : zt_code 45 49 = some (.aload_n 0, 50, 0, 0, []) := rfl
theorem kc45_50 : zt_code 45 50 = some (.getfield 26, 53, 7, 2, []) := rfl
theorem kc45_53 : zt_code 45 53 = some (.invokespecial 36, 56, 34, 2, []) := rfl
theorem kc45_56 : zt_code 45 56 = some (.putfield 39, 59, 7, 3, []) := rfl
theorem kc45_59 : zt_code 45 59 = some (.aload_n 0, 60, 0, 0, []) := rfl
theorem kc45_60 : zt_code 45 60 = some (.new 30, 63, 6, 11, []) := rfl
theorem kc45_63 : zt_code 45 63 = some (.dup, 64, 0, 0, []) := rfl
theorem kc45_64 : zt_code 45 64 = some (.aload_n 0, 65, 0, 0, []) := rfl
theorem kc45_65 : zt_code 45 65 = some (.getfield 19, 68, 7, 1, []) := rfl
theorem kc45_68 : zt_code 45 68 = some (.getfield 32, 71, 0, 1, []) := rfl
theorem kc45_71 : zt_code 45 71 = some (.aload_n 0, 72, 0, 0, []) := rfl
theorem kc45_72 : zt_code 45 72 = some (.getfield 26, 75, 7, 2, []) := rfl
theorem kc45_75 : zt_code 45 75 = some (.invokespecial 36, 78, 34, 2, []) := rfl
theorem kc45_78 : zt_code 45 78 = some (.putfield 43, 81, 7, 4, []) := rfl
theorem kc45_81 : zt_code 45 81 = some (.aload_n 0, 82, 0, 0, []) := rfl
theorem kc45_82 : zt_code 45 82 = some (.bipush 40, 84, 0, 0, []) := rfl
theorem kc45_84 : zt_code 45 84 = some (.putfield 46, 87, 7, 5, []) := rfl
theorem kc45_87 : zt_code 45 87 = some (.return_, 88, 0, 0, []) := rfl
theorem kc46_0 : zt_code 46 0 = some (.iload_n 3, 1, 0, 0, []) := rfl
theorem kc46_1 : zt_code 46 1 = some (.iconst 1, 2, 0, 0, []) := rfl
theorem kc46_2 : zt_code 46 2 = some (.if_icmp .lt 20, 5, 22, 0, []) := rfl
theorem kc46_5 : zt_code 46 5 = some (.iload_n 3, 6, 0, 0, []) := rfl
theorem kc46_6 : zt_code 46 6 = some (.bipush 8, 8, 0, 0, []) := rfl
theorem kc46_8 : zt_code 46 8 = some (.if_icmp .gt 14, 11, 22, 0, []) := rfl
theorem kc46_11 : zt_code 46 11 = some (.aload_n 0, 12, 0, 0, []) := rfl
theorem kc46_12 : zt_code 46 12 = some (.getfield 10, 15, 7, 0, []) := rfl
theorem kc46_15 : zt_code 46 15 = some (.iload_n 3, 16, 0, 0, []) := rfl
theorem kc46_16 : zt_code 46 16 = some (.invokevirtual 50, 19, 20, 1, []) := rfl
theorem kc46_19 : zt_code 46 19 = some (.ifCond .ne 5, 22, 24, 0, []) := rfl
theorem kc46_22 : zt_code 46 22 = some (.iconst (-1), 23, 0, 0, []) := rfl
theorem kc46_23 : zt_code 46 23 = some (.ireturn, 24, 0, 0, []) := rfl
theorem kc46_24 : zt_code 46 24 = some (.iload_n 3, 25, 0, 0, []) := rfl
theorem kc46_25 : zt_code 46 25 = some (.iconst 1, 26, 0, 0, []) := rfl
theorem kc46_26 : zt_code 46 26 = some (.isub, 27, 0, 0, []) := rfl
theorem kc46_27 : zt_code 46 27 = some (.istore 4, 29, 0, 0, []) := rfl
theorem kc46_29 : zt_code 46 29 = some (.iload 4, 31, 0, 0, []) := rfl
theorem kc46_31 : zt_code 46 31 = some (.ifCond .lt 25, 34, 56, 0, []) := rfl
theorem kc46_34 : zt_code 46 34 = some (.aload_n 0, 35, 0, 0, []) := rfl
theorem kc46_35 : zt_code 46 35 = some (.getfield 10, 38, 7, 0, []) := rfl
theorem kc46_38 : zt_code 46 38 = some (.lload_n 1, 39, 0, 0, []) := rfl
theorem kc46_39 : zt_code 46 39 = some (.bipush 8, 41, 0, 0, []) := rfl
theorem kc46_41 : zt_code 46 41 = some (.iload 4, 43, 0, 0, []) := rfl
theorem kc46_43 : zt_code 46 43 = some (.imul, 44, 0, 0, []) := rfl
theorem kc46_44 : zt_code 46 44 = some (.lushr, 45, 0, 0, []) := rfl
theorem kc46_45 : zt_code 46 45 = some (.l2i, 46, 0, 0, []) := rfl
theorem kc46_46 : zt_code 46 46 = some (.i2b, 47, 0, 0, []) := rfl
theorem kc46_47 : zt_code 46 47 = some (.invokevirtual 54, 50, 21, 1, []) := rfl
theorem kc46_50 : zt_code 46 50 = some (.iinc 4 (-1), 53, 0, 0, []) := rfl
theorem kc46_53 : zt_code 46 53 = some (.goto (-24), 56, 29, 0, []) := rfl
theorem kc46_56 : zt_code 46 56 = some (.aload_n 0, 57, 0, 0, []) := rfl
theorem kc46_57 : zt_code 46 57 = some (.getfield 10, 60, 7, 0, []) := rfl
theorem kc46_60 : zt_code 46 60 = some (.getfield 58, 63, 4, 1, []) := rfl
theorem kc46_63 : zt_code 46 63 = some (.ireturn, 64, 0, 0, []) := rfl
theorem kc47_0 : zt_code 47 0 = some (.iload_n 1, 1, 0, 0, []) := rfl
theorem kc47_1 : zt_code 47 1 = some (.ifCond .lt 33, 4, 34, 0, []) := rfl
theorem kc47_4 : zt_code 47 4 = some (.iload_n 1, 5, 0, 0, []) := rfl
theorem kc47_5 : zt_code 47 5 = some (.sipush 255, 8, 0, 0, []) := rfl
theorem kc47_8 : zt_code 47 8 = some (.if_icmp .gt 26, 11, 34, 0, []) := rfl
theorem kc47_11 : zt_code 47 11 = some (.iload_n 2, 12, 0, 0, []) := rfl
theorem kc47_12 : zt_code 47 12 = some (.iconst 1, 13, 0, 0, []) := rfl
theorem kc47_13 : zt_code 47 13 = some (.if_icmp .lt 21, 16, 34, 0, []) := rfl
theorem kc47_16 : zt_code 47 16 = some (.iload_n 2, 17, 0, 0, []) := rfl
theorem kc47_17 : zt_code 47 17 = some (.sipush 1200, 20, 0, 0, []) := rfl
theorem kc47_20 : zt_code 47 20 = some (.if_icmp .gt 14, 23, 34, 0, []) := rfl
theorem kc47_23 : zt_code 47 23 = some (.aload_n 0, 24, 0, 0, []) := rfl
theorem kc47_24 : zt_code 47 24 = some (.getfield 10, 27, 7, 0, []) := rfl
theorem kc47_27 : zt_code 47 27 = some (.iload_n 2, 28, 0, 0, []) := rfl
theorem kc47_28 : zt_code 47 28 = some (.invokevirtual 50, 31, 20, 1, []) := rfl
theorem kc47_31 : zt_code 47 31 = some (.ifCond .ne 5, 34, 36, 0, []) := rfl
theorem kc47_34 : zt_code 47 34 = some (.iconst (-1), 35, 0, 0, []) := rfl
theorem kc47_35 : zt_code 47 35 = some (.ireturn, 36, 0, 0, []) := rfl
theorem kc47_36 : zt_code 47 36 = some (.iconst 0, 37, 0, 0, []) := rfl
theorem kc47_37 : zt_code 47 37 = some (.istore_n 3, 38, 0, 0, []) := rfl
theorem kc47_38 : zt_code 47 38 = some (.iload_n 3, 39, 0, 0, []) := rfl
theorem kc47_39 : zt_code 47 39 = some (.iload_n 2, 40, 0, 0, []) := rfl
theorem kc47_40 : zt_code 47 40 = some (.if_icmp .ge 18, 43, 58, 0, []) := rfl
theorem kc47_43 : zt_code 47 43 = some (.aload_n 0, 44, 0, 0, []) := rfl
theorem kc47_44 : zt_code 47 44 = some (.getfield 10, 47, 7, 0, []) := rfl
theorem kc47_47 : zt_code 47 47 = some (.iload_n 1, 48, 0, 0, []) := rfl
theorem kc47_48 : zt_code 47 48 = some (.i2b, 49, 0, 0, []) := rfl
theorem kc47_49 : zt_code 47 49 = some (.invokevirtual 54, 52, 21, 1, []) := rfl
theorem kc47_52 : zt_code 47 52 = some (.iinc 3 1, 55, 0, 0, []) := rfl
theorem kc47_55 : zt_code 47 55 = some (.goto (-17), 58, 38, 0, []) := rfl
theorem kc47_58 : zt_code 47 58 = some (.aload_n 0, 59, 0, 0, []) := rfl
theorem kc47_59 : zt_code 47 59 = some (.getfield 10, 62, 7, 0, []) := rfl
theorem kc47_62 : zt_code 47 62 = some (.getfield 58, 65, 4, 1, []) := rfl
theorem kc47_65 : zt_code 47 65 = some (.ireturn, 66, 0, 0, []) := rfl
theorem kc48_0 : zt_code 48 0 = some (.aload_n 0, 1, 0, 0, []) := rfl
theorem kc48_1 : zt_code 48 1 = some (.getfield 19, 4, 7, 1, []) := rfl
theorem kc48_4 : zt_code 48 4 = some (.invokevirtual 61, 7, 5, 0, []) := rfl
theorem kc48_7 : zt_code 48 7 = some (.istore_n 2, 8, 0, 0, []) := rfl
theorem kc48_8 : zt_code 48 8 = some (.iload_n 1, 9, 0, 0, []) := rfl
theorem kc48_9 : zt_code 48 9 = some (.sipush 200, 12, 0, 0, []) := rfl
theorem kc48_12 : zt_code 48 12 = some (.if_icmp .gt 8, 15, 20, 0, []) := rfl
theorem kc48_15 : zt_code 48 15 = some (.iload_n 1, 16, 0, 0, []) := rfl
theorem kc48_16 : zt_code 48 16 = some (.iload_n 2, 17, 0, 0, []) := rfl
theorem kc48_17 : zt_code 48 17 = some (.if_icmp .ge 5, 20, 22, 0, []) := rfl
theorem kc48_20 : zt_code 48 20 = some (.iconst (-1), 21, 0, 0, []) := rfl
theorem kc48_21 : zt_code 48 21 = some (.ireturn, 22, 0, 0, []) := rfl
theorem kc48_22 : zt_code 48 22 = some (.aload_n 0, 23, 0, 0, []) := rfl
theorem kc48_23 : zt_code 48 23 = some (.iload_n 1, 24, 0, 0, []) := rfl
theorem kc48_24 : zt_code 48 24 = some (.putfield 46, 27, 7, 5, []) := rfl
theorem kc48_27 : zt_code 48 27 = some (.iload_n 1, 28, 0, 0, []) := rfl
theorem kc48_28 : zt_code 48 28 = some (.iload_n 2, 29, 0, 0, []) := rfl
theorem kc48_29 : zt_code 48 29 = some (.isub, 30, 0, 0, []) := rfl
theorem kc48_30 : zt_code 48 30 = some (.ireturn, 31, 0, 0, []) := rfl
theorem kc49_0 : zt_code 49 0 = some (.aload_n 0, 1, 0, 0, []) := rfl
theorem kc49_1 : zt_code 49 1 = some (.invokevirtual 65, 4, 62, 0, []) := rfl
theorem kc49_4 : zt_code 49 4 = some (.istore_n 2, 5, 0, 0, []) := rfl
theorem kc49_5 : zt_code 49 5 = some (.iload_n 1, 6, 0, 0, []) := rfl
theorem kc49_6 : zt_code 49 6 = some (.iconst 1, 7, 0, 0, []) := rfl
theorem kc49_7 : zt_code 49 7 = some (.if_icmp .eq 10, 10, 17, 0, []) := rfl
theorem kc49_10 : zt_code 49 10 = some (.iload_n 1, 11, 0, 0, []) := rfl
theorem kc49_11 : zt_code 49 11 = some (.iconst 2, 12, 0, 0, []) := rfl
theorem kc49_12 : zt_code 49 12 = some (.if_icmp .eq 5, 15, 17, 0, []) := rfl
theorem kc49_15 : zt_code 49 15 = some (.iconst (-1), 16, 0, 0, []) := rfl
theorem kc49_16 : zt_code 49 16 = some (.ireturn, 17, 0, 0, []) := rfl
theorem kc49_17 : zt_code 49 17 = some (.iload_n 2, 18, 0, 0, []) := rfl
theorem kc49_18 : zt_code 49 18 = some (.ifCond .eq 5, 21, 23, 0, []) := rfl
theorem kc49_21 : zt_code 49 21 = some (.iload_n 2, 22, 0, 0, []) := rfl
theorem kc49_22 : zt_code 49 22 = some (.ireturn, 23, 0, 0, []) := rfl
theorem kc49_23 : zt_code 49 23 = some (.aload_n 0, 24, 0, 0, []) := rfl
theorem kc49_24 : zt_code 49 24 = some (.getfield 39, 27, 7, 3, []) := rfl
theorem kc49_27 : zt_code 49 27 = some (.getfield 68, 30, 6, 10, []) := rfl
theorem kc49_30 : zt_code 49 30 = some (.ifnull 6, 33, 36, 0, []) := rfl
theorem kc49_33 : zt_code 49 33 = some (.bipush (-3), 35, 0, 0, []) := rfl
theorem kc49_35 : zt_code 49 35 = some (.ireturn, 36, 0, 0, []) := rfl
theorem kc49_36 : zt_code 49 36 = some (.aload_n 0, 37, 0, 0, []) := rfl
theorem kc49_37 : zt_code 49 37 = some (.getfield 19, 40, 7, 1, []) := rfl
theorem kc49_40 : zt_code 49 40 = some (.invokevirtual 71, 43, 3, 0, []) := rfl
theorem kc49_43 : zt_code 49 43 = some (.astore_n 3, 44, 0, 0, []) := rfl
theorem kc49_44 : zt_code 49 44 = some (.aload_n 3, 45, 0, 0, []) := rfl
theorem kc49_45 : zt_code 49 45 = some (.ifnull 18, 48, 63, 0, []) := rfl
theorem kc49_48 : zt_code 49 48 = some (.aload_n 0, 49, 0, 0, []) := rfl
theorem kc49_49 : zt_code 49 49 = some (.aload_n 0, 50, 0, 0, []) := rfl
theorem kc49_50 : zt_code 49 50 = some (.getfield 39, 53, 7, 3, []) := rfl
theorem kc49_53 : zt_code 49 53 = some (.getfield 75, 56, 6, 8, []) := rfl
theorem kc49_56 : zt_code 49 56 = some (.iconst 1, 57, 0, 0, []) := rfl
theorem kc49_57 : zt_code 49 57 = some (.invokevirtual 78, 60, 64, 2, []) := rfl
theorem kc49_60 : zt_code 49 60 = some (.ifCond .eq 6, 63, 66, 0, []) := rfl
theorem kc49_63 : zt_code 49 63 = some (.bipush (-7), 65, 0, 0, []) := rfl
theorem kc49_65 : zt_code 49 65 = some (.ireturn, 66, 0, 0, []) := rfl
theorem kc49_66 : zt_code 49 66 = some (.aload_n 3, 67, 0, 0, []) := rfl
theorem kc49_67 : zt_code 49 67 = some (.iload_n 1, 68, 0, 0, []) := rfl
theorem kc49_68 : zt_code 49 68 = some (.invokevirtual 82, 71, 27, 1, []) := rfl
theorem kc49_71 : zt_code 49 71 = some (.aload_n 0, 72, 0, 0, []) := rfl
theorem kc49_72 : zt_code 49 72 = some (.getfield 26, 75, 7, 2, []) := rfl
theorem kc49_75 : zt_code 49 75 = some (.aload_n 3, 76, 0, 0, []) := rfl
theorem kc49_76 : zt_code 49 76 = some (.aload_n 0, 77, 0, 0, []) := rfl
theorem kc49_77 : zt_code 49 77 = some (.getfield 39, 80, 7, 3, []) := rfl
theorem kc49_80 : zt_code 49 80 = some (.invokevirtual 88, 83, 12, 2, []) := rfl
theorem kc49_83 : zt_code 49 83 = some (.aload_n 3, 84, 0, 0, []) := rfl
theorem kc49_84 : zt_code 49 84 = some (.getfield 92, 87, 5, 0, []) := rfl
theorem kc49_87 : zt_code 49 87 = some (.ireturn, 88, 0, 0, []) := rfl
theorem kc50_0 : zt_code 50 0 = some (.aload_n 0, 1, 0, 0, []) := rfl
theorem kc50_1 : zt_code 50 1 = some (.iconst 0, 2, 0, 0, []) := rfl
theorem kc50_2 : zt_code 50 2 = some (.invokevirtual 95, 5, 63, 1, []) := rfl
theorem kc50_5 : zt_code 50 5 = some (.istore_n 1, 6, 0, 0, []) := rfl
theorem kc50_6 : zt_code 50 6 = some (.iload_n 1, 7, 0, 0, []) := rfl
theorem kc50_7 : zt_code 50 7 = some (.ifCond .eq 5, 10, 12, 0, []) := rfl
theorem kc50_10 : zt_code 50 10 = some (.iload_n 1, 11, 0, 0, []) := rfl
theorem kc50_11 : zt_code 50 11 = some (.ireturn, 12, 0, 0, []) := rfl
theorem kc50_12 : zt_code 50 12 = some (.aload_n 0, 13, 0, 0, []) := rfl
theorem kc50_13 : zt_code 50 13 = some (.getfield 39, 16, 7, 3, []) := rfl
theorem kc50_16 : zt_code 50 16 = some (.getfield 68, 19, 6, 10, []) := rfl
theorem kc50_19 : zt_code 50 19 = some (.astore_n 2, 20, 0, 0, []) := rfl
theorem kc50_20 : zt_code 50 20 = some (.aload_n 2, 21, 0, 0, []) := rfl
theorem kc50_21 : zt_code 50 21 = some (.ifnonnull 6, 24, 27, 0, []) := rfl
theorem kc50_24 : zt_code 50 24 = some (.bipush (-2), 26, 0, 0, []) := rfl
theorem kc50_26 : zt_code 50 26 = some (.ireturn, 27, 0, 0, []) := rfl
theorem kc50_27 : zt_code 50 27 = some (.aload_n 2, 28, 0, 0, []) := rfl
theorem kc50_28 : zt_code 50 28 = some (.getfield 99, 31, 5, 1, []) := rfl
theorem kc50_31 : zt_code 50 31 = some (.iconst 2, 32, 0, 0, []) := rfl
theorem kc50_32 : zt_code 50 32 = some (.if_icmp .ne 6, 35, 38, 0, []) := rfl
theorem kc50_35 : zt_code 50 35 = some (.bipush (-5), 37, 0, 0, []) := rfl
theorem kc50_37 : zt_code 50 37 = some (.ireturn, 38, 0, 0, []) := rfl
theorem kc50_38 : zt_code 50 38 = some (.aload_n 0, 39, 0, 0, []) := rfl
theorem kc50_39 : zt_code 50 39 = some (.getfield 43, 42, 7, 4, []) := rfl
theorem kc50_42 : zt_code 50 42 = some (.getfield 68, 45, 6, 10, []) := rfl
theorem kc50_45 : zt_code 50 45 = some (.ifnull 6, 48, 51, 0, []) := rfl
theorem kc50_48 : zt_code 50 48 = some (.bipush (-3), 50, 0, 0, []) := rfl
theorem kc50_50 : zt_code 50 50 = some (.ireturn, 51, 0, 0, []) := rfl
theorem kc50_51 : zt_code 50 51 = some (.aload_n 0, 52, 0, 0, []) := rfl
theorem kc50_52 : zt_code 50 52 = some (.aload_n 0, 53, 0, 0, []) := rfl
theorem kc50_53 : zt_code 50 53 = some (.getfield 43, 56, 7, 4, []) := rfl
theorem kc50_56 : zt_code 50 56 = some (.getfield 75, 59, 6, 8, []) := rfl
theorem kc50_59 : zt_code 50 59 = some (.iconst 0, 60, 0, 0, []) := rfl
theorem kc50_60 : zt_code 50 60 = some (.invokevirtual 78, 63, 64, 2, []) := rfl
theorem kc50_63 : zt_code 50 63 = some (.ifCond .eq 6, 66, 69, 0, []) := rfl
theorem kc50_66 : zt_code 50 66 = some (.bipush (-7), 68, 0, 0, []) := rfl
theorem kc50_68 : zt_code 50 68 = some (.ireturn, 69, 0, 0, []) := rfl
theorem kc50_69 : zt_code 50 69 = some (.aload_n 0, 70, 0, 0, []) := rfl
theorem kc50_70 : zt_code 50 70 = some (.getfield 26, 73, 7, 2, []) := rfl
theorem kc50_73 : zt_code 50 73 = some (.aload_n 2, 74, 0, 0, []) := rfl
theorem kc50_74 : zt_code 50 74 = some (.aload_n 0, 75, 0, 0, []) := rfl
theorem kc50_75 : zt_code 50 75 = some (.getfield 43, 78, 7, 4, []) := rfl
theorem kc50_78 : zt_code 50 78 = some (.invokevirtual 88, 81, 12, 2, []) := rfl
theorem kc50_81 : zt_code 50 81 = some (.aload_n 2, 82, 0, 0, []) := rfl
theorem kc50_82 : zt_code 50 82 = some (.getfield 92, 85, 5, 0, []) := rfl
theorem kc50_85 : zt_code 50 85 = some (.ireturn, 86, 0, 0, []) := rfl
theorem kc51_0 : zt_code 51 0 = some (.aload_n 0, 1, 0, 0, []) := rfl
theorem kc51_1 : zt_code 51 1 = some (.getfield 10, 4, 7, 0, []) := rfl
theorem kc51_4 : zt_code 51 4 = some (.invokevirtual 102, 7, 22, 0, []) := rfl
theorem kc51_7 : zt_code 51 7 = some (.istore_n 1, 8, 0, 0, []) := rfl
theorem kc51_8 : zt_code 51 8 = some (.aload_n 0, 9, 0, 0, []) := rfl
theorem kc51_9 : zt_code 51 9 = some (.getfield 10, 12, 7, 0, []) := rfl
theorem kc51_12 : zt_code 51 12 = some (.iload_n 1, 13, 0, 0, []) := rfl
theorem kc51_13 : zt_code 51 13 = some (.invokevirtual 105, 16, 24, 1, []) := rfl
theorem kc51_16 : zt_code 51 16 = some (.istore_n 2, 17, 0, 0, []) := rfl
theorem kc51_17 : zt_code 51 17 = some (.iload_n 1, 18, 0, 0, []) := rfl
theorem kc51_18 : zt_code 51 18 = some (.iload_n 2, 19, 0, 0, []) := rfl
theorem kc51_19 : zt_code 51 19 = some (.isub, 20, 0, 0, []) := rfl
theorem kc51_20 : zt_code 51 20 = some (.iconst 1, 21, 0, 0, []) := rfl
theorem kc51_21 : zt_code 51 21 = some (.isub, 22, 0, 0, []) := rfl
theorem kc51_22 : zt_code 51 22 = some (.istore_n 3, 23, 0, 0, []) := rfl
theorem kc51_23 : zt_code 51 23 = some (.iload_n 2, 24, 0, 0, []) := rfl
theorem kc51_24 : zt_code 51 24 = some (.ifCond .lt 15, 27, 39, 0, []) := rfl
theorem kc51_27 : zt_code 51 27 = some (.iload_n 3, 28, 0, 0, []) := rfl
theorem kc51_28 : zt_code 51 28 = some (.iconst 1, 29, 0, 0, []) := rfl
theorem kc51_29 : zt_code 51 29 = some (.if_icmp .lt 10, 32, 39, 0, []) := rfl
theorem kc51_32 : zt_code 51 32 = some (.iload_n 3, 33, 0, 0, []) := rfl
theorem kc51_33 : zt_code 51 33 = some (.sipush 1000, 36, 0, 0, []) := rfl
theorem kc51_36 : zt_code 51 36 = some (.if_icmp .le 5, 39, 41, 0, []) := rfl
theorem kc51_39 : zt_code 51 39 = some (.iconst (-1), 40, 0, 0, []) := rfl
theorem kc51_40 : zt_code 51 40 = some (.ireturn, 41, 0, 0, []) := rfl
theorem kc51_41 : zt_code 51 41 = some (.aload_n 0, 42, 0, 0, []) := rfl
theorem kc51_42 : zt_code 51 42 = some (.getfield 39, 45, 7, 3, []) := rfl
theorem kc51_45 : zt_code 51 45 = some (.aload_n 0, 46, 0, 0, []) := rfl
theorem kc51_46 : zt_code 51 46 = some (.getfield 10, 49, 7, 0, []) := rfl
theorem kc51_49 : zt_code 51 49 = some (.getfield 109, 52, 4, 0, []) := rfl
theorem kc51_52 : zt_code 51 52 = some (.iconst 0, 53, 0, 0, []) := rfl
theorem kc51_53 : zt_code 51 53 = some (.iload_n 2, 54, 0, 0, []) := rfl
theorem kc51_54 : zt_code 51 54 = some (.invokevirtual 113, 57, 35, 3, []) := rfl
theorem kc51_57 : zt_code 51 57 = some (.istore 4, 59, 0, 0, []) := rfl
theorem kc51_59 : zt_code 51 59 = some (.iload 4, 61, 0, 0, []) := rfl
theorem kc51_61 : zt_code 51 61 = some (.ifCond .eq 6, 64, 67, 0, []) := rfl
theorem kc51_64 : zt_code 51 64 = some (.iload 4, 66, 0, 0, []) := rfl
theorem kc51_66 : zt_code 51 66 = some (.ireturn, 67, 0, 0, []) := rfl
theorem kc51_67 : zt_code 51 67 = some (.aload_n 0, 68, 0, 0, []) := rfl
theorem kc51_68 : zt_code 51 68 = some (.getfield 39, 71, 7, 3, []) := rfl
theorem kc51_71 : zt_code 51 71 = some (.getfield 68, 74, 6, 10, []) := rfl
theorem kc51_74 : zt_code 51 74 = some (.ifnull 6, 77, 80, 0, []) := rfl
theorem kc51_77 : zt_code 51 77 = some (.bipush (-3), 79, 0, 0, []) := rfl
theorem kc51_79 : zt_code 51 79 = some (.ireturn, 80, 0, 0, []) := rfl
theorem kc51_80 : zt_code 51 80 = some (.aload_n 0, 81, 0, 0, []) := rfl
theorem kc51_81 : zt_code 51 81 = some (.getfield 19, 84, 7, 1, []) := rfl
theorem kc51_84 : zt_code 51 84 = some (.invokevirtual 71, 87, 3, 0, []) := rfl
theorem kc51_87 : zt_code 51 87 = some (.astore 5, 89, 0, 0, []) := rfl
theorem kc51_89 : zt_code 51 89 = some (.aload 5, 91, 0, 0, []) := rfl
theorem kc51_91 : zt_code 51 91 = some (.ifnull 21, 94, 112, 0, []) := rfl
theorem kc51_94 : zt_code 51 94 = some (.aload_n 0, 95, 0, 0, []) := rfl
theorem kc51_95 : zt_code 51 95 = some (.aload_n 0, 96, 0, 0, []) := rfl
theorem kc51_96 : zt_code 51 96 = some (.getfield 39, 99, 7, 3, []) := rfl
theorem kc51_99 : zt_code 51 99 = some (.getfield 75, 102, 6, 8, []) := rfl
theorem kc51_102 : zt_code 51 102 = some (.iload_n 3, 103, 0, 0, []) := rfl
theorem kc51_103 : zt_code 51 103 = some (.invokestatic 117, 106, 70, 1, []) := rfl
theorem kc51_106 : zt_code 51 106 = some (.invokevirtual 78, 109, 64, 2, []) := rfl
theorem kc51_109 : zt_code 51 109 = some (.ifCond .eq 6, 112, 115, 0, []) := rfl
theorem kc51_112 : zt_code 51 112 = some (.bipush (-7), 114, 0, 0, []) := rfl
theorem kc51_114 : zt_code 51 114 = some (.ireturn, 115, 0, 0, []) := rfl
theorem kc51_115 : zt_code 51 115 = some (.aload 5, 117, 0, 0, []) := rfl
theorem kc51_117 : zt_code 51 117 = some (.iconst 3, 118, 0, 0, []) := rfl
theorem kc51_118 : zt_code 51 118 = some (.invokevirtual 82, 121, 27, 1, []) := rfl
theorem kc51_121 : zt_code 51 121 = some (.aload 5, 123, 0, 0, []) := rfl
theorem kc51_123 : zt_code 51 123 = some (.aload_n 0, 124, 0, 0, []) := rfl
theorem kc51_124 : zt_code 51 124 = some (.getfield 10, 127, 7, 0, []) := rfl
theorem kc51_127 : zt_code 51 127 = some (.getfield 109, 130, 4, 0, []) := rfl
theorem kc51_130 : zt_code 51 130 = some (.iload_n 2, 131, 0, 0, []) := rfl
theorem kc51_131 : zt_code 51 131 = some (.iconst 1, 132, 0, 0, []) := rfl
theorem kc51_132 : zt_code 51 132 = some (.iadd, 133, 0, 0, []) := rfl
theorem kc51_133 : zt_code 51 133 = some (.iload_n 3, 134, 0, 0, []) := rfl
theorem kc51_134 : zt_code 51 134 = some (.invokevirtual 120, 137, 28, 3, []) := rfl
theorem kc51_137 : zt_code 51 137 = some (.aload_n 0, 138, 0, 0, []) := rfl
theorem kc51_138 : zt_code 51 138 = some (.getfield 26, 141, 7, 2, []) := rfl
theorem kc51_141 : zt_code 51 141 = some (.aload 5, 143, 0, 0, []) := rfl
theorem kc51_143 : zt_code 51 143 = some (.aload_n 0, 144, 0, 0, []) := rfl
theorem kc51_144 : zt_code 51 144 = some (.getfield 39, 147, 7, 3, []) := rfl
theorem kc51_147 : zt_code 51 147 = some (.invokevirtual 88, 150, 12, 2, []) := rfl
theorem kc51_150 : zt_code 51 150 = some (.aload 5, 152, 0, 0, []) := rfl
theorem kc51_152 : zt_code 51 152 = some (.getfield 92, 155, 5, 0, []) := rfl
theorem kc51_155 : zt_code 51 155 = some (.ireturn, 156, 0, 0, []) := rfl
theorem kc52_0 : zt_code 52 0 = some (.aload_n 0, 1, 0, 0, []) := rfl
theorem kc52_1 : zt_code 52 1 = some (.invokevirtual 65, 4, 62, 0, []) := rfl
theorem kc52_4 : zt_code 52 4 = some (.istore_n 1, 5, 0, 0, []) := rfl
theorem kc52_5 : zt_code 52 5 = some (.iload_n 1, 6, 0, 0, []) := rfl
theorem kc52_6 : zt_code 52 6 = some (.ifCond .eq 5, 9, 11, 0, []) := rfl
theorem kc52_9 : zt_code 52 9 = some (.iload_n 1, 10, 0, 0, []) := rfl
theorem kc52_10 : zt_code 52 10 = some (.ireturn, 11, 0, 0, []) := rfl
theorem kc52_11 : zt_code 52 11 = some (.aload_n 0, 12, 0, 0, []) := rfl
theorem kc52_12 : zt_code 52 12 = some (.getfield 39, 15, 7, 3, []) := rfl
theorem kc52_15 : zt_code 52 15 = some (.getfield 68, 18, 6, 10, []) := rfl
theorem kc52_18 : zt_code 52 18 = some (.astore_n 2, 19, 0, 0, []) := rfl
theorem kc52_19 : zt_code 52 19 = some (.aload_n 2, 20, 0, 0, []) := rfl
theorem kc52_20 : zt_code 52 20 = some (.ifnonnull 6, 23, 26, 0, []) := rfl
theorem kc52_23 : zt_code 52 23 = some (.bipush (-2), 25, 0, 0, []) := rfl
theorem kc52_25 : zt_code 52 25 = some (.ireturn, 26, 0, 0, []) := rfl
theorem kc52_26 : zt_code 52 26 = some (.aload_n 2, 27, 0, 0, []) := rfl
theorem kc52_27 : zt_code 52 27 = some (.getfield 99, 30, 5, 1, []) := rfl
theorem kc52_30 : zt_code 52 30 = some (.iconst 2, 31, 0, 0, []) := rfl
theorem kc52_31 : zt_code 52 31 = some (.if_icmp .ne 6, 34, 37, 0, []) := rfl
theorem kc52_34 : zt_code 52 34 = some (.bipush (-5), 36, 0, 0, []) := rfl
theorem kc52_36 : zt_code 52 36 = some (.ireturn, 37, 0, 0, []) := rfl
theorem kc52_37 : zt_code 52 37 = some (.aload_n 0, 38, 0, 0, []) := rfl
theorem kc52_38 : zt_code 52 38 = some (.aload_n 0, 39, 0, 0, []) := rfl
theorem kc52_39 : zt_code 52 39 = some (.getfield 39, 42, 7, 3, []) := rfl
theorem kc52_42 : zt_code 52 42 = some (.getfield 124, 45, 6, 9, []) := rfl
theorem kc52_45 : zt_code 52 45 = some (.invokevirtual 128, 48, 69, 1, []) := rfl
theorem kc52_48 : zt_code 52 48 = some (.aload_n 2, 49, 0, 0, []) := rfl
theorem kc52_49 : zt_code 52 49 = some (.getfield 92, 52, 5, 0, []) := rfl
theorem kc52_52 : zt_code 52 52 = some (.ireturn, 53, 0, 0, []) := rfl
theorem kc53_0 : zt_code 53 0 = some (.aload_n 0, 1, 0, 0, []) := rfl
theorem kc53_1 : zt_code 53 1 = some (.invokevirtual 65, 4, 62, 0, []) := rfl
theorem kc53_4 : zt_code 53 4 = some (.istore_n 1, 5, 0, 0, []) := rfl
theorem kc53_5 : zt_code 53 5 = some (.iload_n 1, 6, 0, 0, []) := rfl
theorem kc53_6 : zt_code 53 6 = some (.ifCond .eq 5, 9, 11, 0, []) := rfl
theorem kc53_9 : zt_code 53 9 = some (.iload_n 1, 10, 0, 0, []) := rfl
theorem kc53_10 : zt_code 53 10 = some (.ireturn, 11, 0, 0, []) := rfl
theorem kc53_11 : zt_code 53 11 = some (.aload_n 0, 12, 0, 0, []) := rfl
theorem kc53_12 : zt_code 53 12 = some (.getfield 39, 15, 7, 3, []) := rfl
theorem kc53_15 : zt_code 53 15 = some (.getfield 68, 18, 6, 10, []) := rfl
theorem kc53_18 : zt_code 53 18 = some (.astore_n 2, 19, 0, 0, []) := rfl
theorem kc53_19 : zt_code 53 19 = some (.aload_n 2, 20, 0, 0, []) := rfl
theorem kc53_20 : zt_code 53 20 = some (.ifnonnull 6, 23, 26, 0, []) := rfl
theorem kc53_23 : zt_code 53 23 = some (.bipush (-2), 25, 0, 0, []) := rfl
theorem kc53_25 : zt_code 53 25 = some (.ireturn, 26, 0, 0, []) := rfl
theorem kc53_26 : zt_code 53 26 = some (.aload_n 2, 27, 0, 0, []) := rfl
theorem kc53_27 : zt_code 53 27 = some (.getfield 99, 30, 5, 1, []) := rfl
theorem kc53_30 : zt_code 53 30 = some (.iconst 2, 31, 0, 0, []) := rfl
theorem kc53_31 : zt_code 53 31 = some (.if_icmp .eq 6, 34, 37, 0, []) := rfl
theorem kc53_34 : zt_code 53 34 = some (.bipush (-4), 36, 0, 0, []) := rfl
theorem kc53_36 : zt_code 53 36 = some (.ireturn, 37, 0, 0, []) := rfl
theorem kc53_37 : zt_code 53 37 = some (.aload_n 2, 38, 0, 0, []) := rfl
theorem kc53_38 : zt_code 53 38 = some (.getfield 132, 41, 5, 4, []) := rfl
theorem kc53_41 : zt_code 53 41 = some (.ifCond .le 6, 44, 47, 0, []) := rfl
theorem kc53_44 : zt_code 53 44 = some (.bipush (-6), 46, 0, 0, []) := rfl
theorem kc53_46 : zt_code 53 46 = some (.ireturn, 47, 0, 0, []) := rfl
theorem kc53_47 : zt_code 53 47 = some (.aload_n 0, 48, 0, 0, []) := rfl
theorem kc53_48 : zt_code 53 48 = some (.aload_n 0, 49, 0, 0, []) := rfl
theorem kc53_49 : zt_code 53 49 = some (.getfield 39, 52, 7, 3, []) := rfl
theorem kc53_52 : zt_code 53 52 = some (.getfield 124, 55, 6, 9, []) := rfl
theorem kc53_55 : zt_code 53 55 = some (.invokevirtual 128, 58, 69, 1, []) := rfl
theorem kc53_58 : zt_code 53 58 = some (.aload_n 2, 59, 0, 0, []) := rfl
theorem kc53_59 : zt_code 53 59 = some (.getfield 92, 62, 5, 0, []) := rfl
theorem kc53_62 : zt_code 53 62 = some (.ireturn, 63, 0, 0, []) := rfl
theorem kc54_0 : zt_code 54 0 = some (.aload_n 0, 1, 0, 0, []) := rfl
theorem kc54_1 : zt_code 54 1 = some (.iconst 1, 2, 0, 0, []) := rfl
theorem kc54_2 : zt_code 54 2 = some (.invokevirtual 95, 5, 63, 1, []) := rfl
theorem kc54_5 : zt_code 54 5 = some (.istore_n 1, 6, 0, 0, []) := rfl
theorem kc54_6 : zt_code 54 6 = some (.iload_n 1, 7, 0, 0, []) := rfl
theorem kc54_7 : zt_code 54 7 = some (.ifCond .eq 5, 10, 12, 0, []) := rfl
theorem kc54_10 : zt_code 54 10 = some (.iload_n 1, 11, 0, 0, []) := rfl
theorem kc54_11 : zt_code 54 11 = some (.ireturn, 12, 0, 0, []) := rfl
theorem kc54_12 : zt_code 54 12 = some (.aload_n 0, 13, 0, 0, []) := rfl
theorem kc54_13 : zt_code 54 13 = some (.getfield 39, 16, 7, 3, []) := rfl
theorem kc54_16 : zt_code 54 16 = some (.getfield 68, 19, 6, 10, []) := rfl
theorem kc54_19 : zt_code 54 19 = some (.astore_n 2, 20, 0, 0, []) := rfl
theorem kc54_20 : zt_code 54 20 = some (.aload_n 2, 21, 0, 0, []) := rfl
theorem kc54_21 : zt_code 54 21 = some (.ifnonnull 6, 24, 27, 0, []) := rfl
theorem kc54_24 : zt_code 54 24 = some (.bipush (-2), 26, 0, 0, []) := rfl
theorem kc54_26 : zt_code 54 26 = some (.ireturn, 27, 0, 0, []) := rfl
theorem kc54_27 : zt_code 54 27 = some (.aload_n 0, 28, 0, 0, []) := rfl
theorem kc54_28 : zt_code 54 28 = some (.getfield 43, 31, 7, 4, []) := rfl
theorem kc54_31 : zt_code 54 31 = some (.getfield 68, 34, 6, 10, []) := rfl
theorem kc54_34 : zt_code 54 34 = some (.astore_n 3, 35, 0, 0, []) := rfl
theorem kc54_35 : zt_code 54 35 = some (.aload_n 3, 36, 0, 0, []) := rfl
theorem kc54_36 : zt_code 54 36 = some (.aload_n 2, 37, 0, 0, []) := rfl
theorem kc54_37 : zt_code 54 37 = some (.if_acmp .ne 8, 40, 45, 0, []) := rfl
theorem kc54_40 : zt_code 54 40 = some (.aload_n 2, 41, 0, 0, []) := rfl
theorem kc54_41 : zt_code 54 41 = some (.getfield 92, 44, 5, 0, []) := rfl
theorem kc54_44 : zt_code 54 44 = some (.ireturn, 45, 0, 0, []) := rfl
theorem kc54_45 : zt_code 54 45 = some (.aload_n 2, 46, 0, 0, []) := rfl
theorem kc54_46 : zt_code 54 46 = some (.getfield 99, 49, 5, 1, []) := rfl
theorem kc54_49 : zt_code 54 49 = some (.iconst 2, 50, 0, 0, []) := rfl
theorem kc54_50 : zt_code 54 50 = some (.if_icmp .ne 20, 53, 70, 0, []) := rfl
theorem kc54_53 : zt_code 54 53 = some (.aload_n 0, 54, 0, 0, []) := rfl
theorem kc54_54 : zt_code 54 54 = some (.getfield 43, 57, 7, 4, []) := rfl
theorem kc54_57 : zt_code 54 57 = some (.getfield 75, 60, 6, 8, []) := rfl
theorem kc54_60 : zt_code 54 60 = some (.aload_n 2, 61, 0, 0, []) := rfl
theorem kc54_61 : zt_code 54 61 = some (.invokestatic 135, 64, 68, 2, []) := rfl
theorem kc54_64 : zt_code 54 64 = some (.ifCond .eq 6, 67, 70, 0, []) := rfl
theorem kc54_67 : zt_code 54 67 = some (.bipush (-10), 69, 0, 0, []) := rfl
theorem kc54_69 : zt_code 54 69 = some (.ireturn, 70, 0, 0, []) := rfl
theorem kc54_70 : zt_code 54 70 = some (.aload_n 3, 71, 0, 0, []) := rfl
theorem kc54_71 : zt_code 54 71 = some (.ifnonnull 10, 74, 81, 0, []) := rfl
theorem kc54_74 : zt_code 54 74 = some (.aload_n 0, 75, 0, 0, []) := rfl
theorem kc54_75 : zt_code 54 75 = some (.invokevirtual 139, 78, 66, 0, []) := rfl
theorem kc54_78 : zt_code 54 78 = some (.goto 8, 81, 86, 0, []) := rfl
theorem kc54_81 : zt_code 54 81 = some (.aload_n 2, 82, 0, 0, []) := rfl
theorem kc54_82 : zt_code 54 82 = some (.aload_n 3, 83, 0, 0, []) := rfl
theorem kc54_83 : zt_code 54 83 = some (.invokestatic 142, 86, 67, 2, []) := rfl
theorem kc54_86 : zt_code 54 86 = some (.istore_n 1, 87, 0, 0, []) := rfl
theorem kc54_87 : zt_code 54 87 = some (.iload_n 1, 88, 0, 0, []) := rfl
theorem kc54_88 : zt_code 54 88 = some (.ifCond .eq 5, 91, 93, 0, []) := rfl
theorem kc54_91 : zt_code 54 91 = some (.iload_n 1, 92, 0, 0, []) := rfl
theorem kc54_92 : zt_code 54 92 = some (.ireturn, 93, 0, 0, []) := rfl
theorem kc54_93 : zt_code 54 93 = some (.aload_n 0, 94, 0, 0, []) := rfl
theorem kc54_94 : zt_code 54 94 = some (.aload_n 0, 95, 0, 0, []) := rfl
theorem kc54_95 : zt_code 54 95 = some (.getfield 43, 98, 7, 4, []) := rfl
theorem kc54_98 : zt_code 54 98 = some (.getfield 124, 101, 6, 9, []) := rfl
theorem kc54_101 : zt_code 54 101 = some (.invokevirtual 128, 104, 69, 1, []) := rfl
theorem kc54_104 : zt_code 54 104 = some (.aload_n 0, 105, 0, 0, []) := rfl
theorem kc54_105 : zt_code 54 105 = some (.getfield 26, 108, 7, 2, []) := rfl
theorem kc54_108 : zt_code 54 108 = some (.aload_n 0, 109, 0, 0, []) := rfl
theorem kc54_109 : zt_code 54 109 = some (.getfield 39, 112, 7, 3, []) := rfl
theorem kc54_112 : zt_code 54 112 = some (.getfield 124, 115, 6, 9, []) := rfl
theorem kc54_115 : zt_code 54 115 = some (.invokevirtual 146, 118, 13, 1, []) := rfl
theorem kc54_118 : zt_code 54 118 = some (.aload_n 0, 119, 0, 0, []) := rfl
theorem kc54_119 : zt_code 54 119 = some (.getfield 26, 122, 7, 2, []) := rfl
theorem kc54_122 : zt_code 54 122 = some (.aload_n 2, 123, 0, 0, []) := rfl
theorem kc54_123 : zt_code 54 123 = some (.aload_n 0, 124, 0, 0, []) := rfl
theorem kc54_124 : zt_code 54 124 = some (.getfield 43, 127, 7, 4, []) := rfl
theorem kc54_127 : zt_code 54 127 = some (.invokevirtual 88, 130, 12, 2, []) := rfl
theorem kc54_130 : zt_code 54 130 = some (.aload_n 2, 131, 0, 0, []) := rfl
theorem kc54_131 : zt_code 54 131 = some (.getfield 92, 134, 5, 0, []) := rfl
theorem kc54_134 : zt_code 54 134 = some (.ireturn, 135, 0, 0, []) := rfl
theorem kc55_0 : zt_code 55 0 = some (.aload_n 0, 1, 0, 0, []) := rfl
theorem kc55_1 : zt_code 55 1 = some (.iload_n 1, 2, 0, 0, []) := rfl
theorem kc55_2 : zt_code 55 2 = some (.invokevirtual 149, 5, 61, 1, []) := rfl
theorem kc55_5 : zt_code 55 5 = some (.istore_n 2, 6, 0, 0, []) := rfl
theorem kc55_6 : zt_code 55 6 = some (.iload_n 2, 7, 0, 0, []) := rfl
theorem kc55_7 : zt_code 55 7 = some (.ifCond .eq 5, 10, 12, 0, []) := rfl
theorem kc55_10 : zt_code 55 10 = some (.iload_n 2, 11, 0, 0, []) := rfl
theorem kc55_11 : zt_code 55 11 = some (.ireturn, 12, 0, 0, []) := rfl
theorem kc55_12 : zt_code 55 12 = some (.aload_n 0, 13, 0, 0, []) := rfl
theorem kc55_13 : zt_code 55 13 = some (.getfield 39, 16, 7, 3, []) := rfl
theorem kc55_16 : zt_code 55 16 = some (.getfield 68, 19, 6, 10, []) := rfl
theorem kc55_19 : zt_code 55 19 = some (.ifnonnull 8, 22, 27, 0, []) := rfl
theorem kc55_22 : zt_code 55 22 = some (.bipush (-2), 24, 0, 0, []) := rfl
theorem kc55_24 : zt_code 55 24 = some (.goto 13, 27, 37, 0, []) := rfl
theorem kc55_27 : zt_code 55 27 = some (.aload_n 0, 28, 0, 0, []) := rfl
theorem kc55_28 : zt_code 55 28 = some (.getfield 39, 31, 7, 3, []) := rfl
theorem kc55_31 : zt_code 55 31 = some (.getfield 68, 34, 6, 10, []) := rfl
theorem kc55_34 : zt_code 55 34 = some (.getfield 92, 37, 5, 0, []) := rfl
theorem kc55_37 : zt_code 55 37 = some (.ireturn, 38, 0, 0, []) := rfl
theorem kc56_0 : zt_code 56 0 = some (.aload_n 0, 1, 0, 0, []) := rfl
theorem kc56_1 : zt_code 56 1 = some (.iconst 1, 2, 0, 0, []) := rfl
theorem kc56_2 : zt_code 56 2 = some (.invokevirtual 149, 5, 61, 1, []) := rfl
theorem kc56_5 : zt_code 56 5 = some (.istore_n 1, 6, 0, 0, []) := rfl
theorem kc56_6 : zt_code 56 6 = some (.iload_n 1, 7, 0, 0, []) := rfl
theorem kc56_7 : zt_code 56 7 = some (.ifCond .eq 5, 10, 12, 0, []) := rfl
theorem kc56_10 : zt_code 56 10 = some (.iload_n 1, 11, 0, 0, []) := rfl
theorem kc56_11 : zt_code 56 11 = some (.ireturn, 12, 0, 0, []) := rfl
theorem kc56_12 : zt_code 56 12 = some (.aload_n 0, 13, 0, 0, []) := rfl
theorem kc56_13 : zt_code 56 13 = some (.getfield 39, 16, 7, 3, []) := rfl
theorem kc56_16 : zt_code 56 16 = some (.getfield 68, 19, 6, 10, []) := rfl
theorem kc56_19 : zt_code 56 19 = some (.astore_n 2, 20, 0, 0, []) := rfl
theorem kc56_20 : zt_code 56 20 = some (.aload_n 2, 21, 0, 0, []) := rfl
theorem kc56_21 : zt_code 56 21 = some (.ifnonnull 6, 24, 27, 0, []) := rfl
theorem kc56_24 : zt_code 56 24 = some (.bipush (-2), 26, 0, 0, []) := rfl
theorem kc56_26 : zt_code 56 26 = some (.ireturn, 27, 0, 0, []) := rfl
theorem kc56_27 : zt_code 56 27 = some (.aload_n 2, 28, 0, 0, []) := rfl
theorem kc56_28 : zt_code 56 28 = some (.getfield 99, 31, 5, 1, []) := rfl
theorem kc56_31 : zt_code 56 31 = some (.iconst 1, 32, 0, 0, []) := rfl
theorem kc56_32 : zt_code 56 32 = some (.if_icmp .ne 12, 35, 44, 0, []) := rfl
theorem kc56_35 : zt_code 56 35 = some (.aload_n 2, 36, 0, 0, []) := rfl
theorem kc56_36 : zt_code 56 36 = some (.getfield 152, 39, 5, 3, []) := rfl
theorem kc56_39 : zt_code 56 39 = some (.bipush 100, 41, 0, 0, []) := rfl
theorem kc56_41 : zt_code 56 41 = some (.if_icmp .lt 5, 44, 46, 0, []) := rfl
theorem kc56_44 : zt_code 56 44 = some (.iconst (-1), 45, 0, 0, []) := rfl
theorem kc56_45 : zt_code 56 45 = some (.ireturn, 46, 0, 0, []) := rfl
theorem kc56_46 : zt_code 56 46 = some (.aload_n 2, 47, 0, 0, []) := rfl
theorem kc56_47 : zt_code 56 47 = some (.dup, 48, 0, 0, []) := rfl
theorem kc56_48 : zt_code 56 48 = some (.getfield 152, 51, 5, 3, []) := rfl
theorem kc56_51 : zt_code 56 51 = some (.iconst 1, 52, 0, 0, []) := rfl
theorem kc56_52 : zt_code 56 52 = some (.iadd, 53, 0, 0, []) := rfl
theorem kc56_53 : zt_code 56 53 = some (.putfield 152, 56, 5, 3, []) := rfl
theorem kc56_56 : zt_code 56 56 = some (.aload_n 2, 57, 0, 0, []) := rfl
theorem kc56_57 : zt_code 56 57 = some (.getfield 92, 60, 5, 0, []) := rfl
theorem kc56_60 : zt_code 56 60 = some (.ireturn, 61, 0, 0, []) := rfl
theorem kc57_0 : zt_code 57 0 = some (.aload_n 0, 1, 0, 0, []) := rfl
theorem kc57_1 : zt_code 57 1 = some (.getfield 19, 4, 7, 1, []) := rfl
theorem kc57_4 : zt_code 57 4 = some (.iload_n 1, 5, 0, 0, []) := rfl
theorem kc57_5 : zt_code 57 5 = some (.invokevirtual 155, 8, 2, 1, []) := rfl
theorem kc57_8 : zt_code 57 8 = some (.astore_n 2, 9, 0, 0, []) := rfl
theorem kc57_9 : zt_code 57 9 = some (.aload_n 2, 10, 0, 0, []) := rfl
theorem kc57_10 : zt_code 57 10 = some (.ifnull 11, 13, 21, 0, []) := rfl
theorem kc57_13 : zt_code 57 13 = some (.aload_n 2, 14, 0, 0, []) := rfl
theorem kc57_14 : zt_code 57 14 = some (.getfield 152, 17, 5, 3, []) := rfl
theorem kc57_17 : zt_code 57 17 = some (.iconst 1, 18, 0, 0, []) := rfl
theorem kc57_18 : zt_code 57 18 = some (.if_icmp .ge 5, 21, 23, 0, []) := rfl
theorem kc57_21 : zt_code 57 21 = some (.iconst (-1), 22, 0, 0, []) := rfl
theorem kc57_22 : zt_code 57 22 = some (.ireturn, 23, 0, 0, []) := rfl
theorem kc57_23 : zt_code 57 23 = some (.aload_n 2, 24, 0, 0, []) := rfl
theorem kc57_24 : zt_code 57 24 = some (.dup, 25, 0, 0, []) := rfl
theorem kc57_25 : zt_code 57 25 = some (.getfield 152, 28, 5, 3, []) := rfl
theorem kc57_28 : zt_code 57 28 = some (.iconst 1, 29, 0, 0, []) := rfl
theorem kc57_29 : zt_code 57 29 = some (.isub, 30, 0, 0, []) := rfl
theorem kc57_30 : zt_code 57 30 = some (.putfield 152, 33, 5, 3, []) := rfl
theorem kc57_33 : zt_code 57 33 = some (.aload_n 2, 34, 0, 0, []) := rfl
theorem kc57_34 : zt_code 57 34 = some (.getfield 159, 37, 5, 2, []) := rfl
theorem kc57_37 : zt_code 57 37 = some (.istore_n 3, 38, 0, 0, []) := rfl
theorem kc57_38 : zt_code 57 38 = some (.aload_n 2, 39, 0, 0, []) := rfl
theorem kc57_39 : zt_code 57 39 = some (.invokevirtual 161, 42, 33, 0, []) := rfl
theorem kc57_42 : zt_code 57 42 = some (.iload_n 3, 43, 0, 0, []) := rfl
theorem kc57_43 : zt_code 57 43 = some (.ireturn, 44, 0, 0, []) := rfl
theorem kc58_0 : zt_code 58 0 = some (.aload_n 0, 1, 0, 0, []) := rfl
theorem kc58_1 : zt_code 58 1 = some (.getfield 19, 4, 7, 1, []) := rfl
theorem kc58_4 : zt_code 58 4 = some (.iload_n 1, 5, 0, 0, []) := rfl
theorem kc58_5 : zt_code 58 5 = some (.invokevirtual 155, 8, 2, 1, []) := rfl
theorem kc58_8 : zt_code 58 8 = some (.astore_n 3, 9, 0, 0, []) := rfl
theorem kc58_9 : zt_code 58 9 = some (.aload_n 3, 10, 0, 0, []) := rfl
theorem kc58_10 : zt_code 58 10 = some (.ifnonnull 5, 13, 15, 0, []) := rfl
theorem kc58_13 : zt_code 58 13 = some (.iconst (-1), 14, 0, 0, []) := rfl
theorem kc58_14 : zt_code 58 14 = some (.ireturn, 15, 0, 0, []) := rfl
theorem kc58_15 : zt_code 58 15 = some (.iload_n 2, 16, 0, 0, []) := rfl
theorem kc58_16 : zt_code 58 16 = some (.tableswitch 96 0 4 #[36, 41, 67, 72, 77], 52, 112, 0, [(0, 52), (1, 57), (2, 83), (3, 88), (4, 93)]) := rfl
theorem kc58_52 : zt_code 58 52 = some (.aload_n 3, 53, 0, 0, []) := rfl
theorem kc58_53 : zt_code 58 53 = some (.getfield 99, 56, 5, 1, []) := rfl
theorem kc58_56 : zt_code 58 56 = some (.ireturn, 57, 0, 0, []) := rfl
theorem kc58_57 : zt_code 58 57 = some (.aload_n 3, 58, 0, 0, []) := rfl
theorem kc58_58 : zt_code 58 58 = some (.getfield 99, 61, 5, 1, []) := rfl
theorem kc58_61 : zt_code 58 61 = some (.iconst 2, 62, 0, 0, []) := rfl
theorem kc58_62 : zt_code 58 62 = some (.if_icmp .ne 16, 65, 78, 0, []) := rfl
theorem kc58_65 : zt_code 58 65 = some (.iconst 2, 66, 0, 0, []) := rfl
theorem kc58_66 : zt_code 58 66 = some (.aload_n 0, 67, 0, 0, []) := rfl
theorem kc58_67 : zt_code 58 67 = some (.getfield 19, 70, 7, 1, []) := rfl
theorem kc58_70 : zt_code 58 70 = some (.aload_n 3, 71, 0, 0, []) := rfl
theorem kc58_71 : zt_code 58 71 = some (.invokevirtual 164, 74, 6, 1, []) := rfl
theorem kc58_74 : zt_code 58 74 = some (.iadd, 75, 0, 0, []) := rfl
theorem kc58_75 : zt_code 58 75 = some (.goto 7, 78, 82, 0, []) := rfl
theorem kc58_78 : zt_code 58 78 = some (.aload_n 3, 79, 0, 0, []) := rfl
theorem kc58_79 : zt_code 58 79 = some (.getfield 159, 82, 5, 2, []) := rfl
theorem kc58_82 : zt_code 58 82 = some (.ireturn, 83, 0, 0, []) := rfl
theorem kc58_83 : zt_code 58 83 = some (.aload_n 3, 84, 0, 0, []) := rfl
theorem kc58_84 : zt_code 58 84 = some (.invokevirtual 168, 87, 32, 0, []) := rfl
theorem kc58_87 : zt_code 58 87 = some (.ireturn, 88, 0, 0, []) := rfl
theorem kc58_88 : zt_code 58 88 = some (.aload_n 3, 89, 0, 0, []) := rfl
theorem kc58_89 : zt_code 58 89 = some (.invokevirtual 171, 92, 30, 0, []) := rfl
theorem kc58_92 : zt_code 58 92 = some (.ireturn, 93, 0, 0, []) := rfl
theorem kc58_93 : zt_code 58 93 = some (.aload_n 3, 94, 0, 0, []) := rfl
theorem kc58_94 : zt_code 58 94 = some (.getfield 174, 97, 5, 6, []) := rfl
theorem kc58_97 : zt_code 58 97 = some (.ifnonnull 7, 100, 104, 0, []) := rfl
theorem kc58_100 : zt_code 58 100 = some (.iconst 0, 101, 0, 0, []) := rfl
theorem kc58_101 : zt_code 58 101 = some (.goto 10, 104, 111, 0, []) := rfl
theorem kc58_104 : zt_code 58 104 = some (.aload_n 3, 105, 0, 0, []) := rfl
theorem kc58_105 : zt_code 58 105 = some (.getfield 174, 108, 5, 6, []) := rfl
theorem kc58_108 : zt_code 58 108 = some (.getfield 92, 111, 5, 0, []) := rfl
theorem kc58_111 : zt_code 58 111 = some (.ireturn, 112, 0, 0, []) := rfl
theorem kc58_112 : zt_code 58 112 = some (.iconst (-1), 113, 0, 0, []) := rfl
theorem kc58_113 : zt_code 58 113 = some (.ireturn, 114, 0, 0, []) := rfl
theorem kc59_0 : zt_code 59 0 = some (.aload_n 0, 1, 0, 0, []) := rfl
theorem kc59_1 : zt_code 59 1 = some (.getfield 19, 4, 7, 1, []) := rfl
theorem kc59_4 : zt_code 59 4 = some (.iload_n 1, 5, 0, 0, []) := rfl
theorem kc59_5 : zt_code 59 5 = some (.invokevirtual 155, 8, 2, 1, []) := rfl
theorem kc59_8 : zt_code 59 8 = some (.astore_n 3, 9, 0, 0, []) := rfl
theorem kc59_9 : zt_code 59 9 = some (.aload_n 3, 10, 0, 0, []) := rfl
theorem kc59_10 : zt_code 59 10 = some (.ifnonnull 7, 13, 17, 0, []) := rfl
theorem kc59_13 : zt_code 59 13 = some (.iconst (-1), 14, 0, 0, []) := rfl
theorem kc59_14 : zt_code 59 14 = some (.goto 8, 17, 22, 0, []) := rfl
theorem kc59_17 : zt_code 59 17 = some (.aload_n 3, 18, 0, 0, []) := rfl
theorem kc59_18 : zt_code 59 18 = some (.iload_n 2, 19, 0, 0, []) := rfl
theorem kc59_19 : zt_code 59 19 = some (.invokevirtual 177, 22, 29, 1, []) := rfl
theorem kc59_22 : zt_code 59 22 = some (.ireturn, 23, 0, 0, []) := rfl
theorem kc60_0 : zt_code 60 0 = some (.iload_n 1, 1, 0, 0, []) := rfl
theorem kc60_1 : zt_code 60 1 = some (.tableswitch 63 0 3 #[31, 39, 47, 55], 32, 64, 0, [(0, 32), (1, 40), (2, 48), (3, 56)]) := rfl
theorem kc60_32 : zt_code 60 32 = some (.aload_n 0, 33, 0, 0, []) := rfl
theorem kc60_33 : zt_code 60 33 = some (.getfield 19, 36, 7, 1, []) := rfl
theorem kc60_36 : zt_code 60 36 = some (.invokevirtual 180, 39, 4, 0, []) := rfl
theorem kc60_39 : zt_code 60 39 = some (.ireturn, 40, 0, 0, []) := rfl
theorem kc60_40 : zt_code 60 40 = some (.aload_n 0, 41, 0, 0, []) := rfl
theorem kc60_41 : zt_code 60 41 = some (.getfield 26, 44, 7, 2, []) := rfl
theorem kc60_44 : zt_code 60 44 = some (.getfield 183, 47, 2, 1, []) := rfl
theorem kc60_47 : zt_code 60 47 = some (.ireturn, 48, 0, 0, []) := rfl
theorem kc60_48 : zt_code 60 48 = some (.aload_n 0, 49, 0, 0, []) := rfl
theorem kc60_49 : zt_code 60 49 = some (.getfield 10, 52, 7, 0, []) := rfl
theorem kc60_52 : zt_code 60 52 = some (.getfield 58, 55, 4, 1, []) := rfl
theorem kc60_55 : zt_code 60 55 = some (.ireturn, 56, 0, 0, []) := rfl
theorem kc60_56 : zt_code 60 56 = some (.aload_n 0, 57, 0, 0, []) := rfl
theorem kc60_57 : zt_code 60 57 = some (.getfield 19, 60, 7, 1, []) := rfl
theorem kc60_60 : zt_code 60 60 = some (.invokevirtual 61, 63, 5, 0, []) := rfl
theorem kc60_63 : zt_code 60 63 = some (.ireturn, 64, 0, 0, []) := rfl
theorem kc60_64 : zt_code 60 64 = some (.iconst (-1), 65, 0, 0, []) := rfl
theorem kc60_65 : zt_code 60 65 = some (.ireturn, 66, 0, 0, []) := rfl
theorem kc61_0 : zt_code 61 0 = some (.aload_n 0, 1, 0, 0, []) := rfl
theorem kc61_1 : zt_code 61 1 = some (.getfield 10, 4, 7, 0, []) := rfl
theorem kc61_4 : zt_code 61 4 = some (.invokevirtual 102, 7, 22, 0, []) := rfl
theorem kc61_7 : zt_code 61 7 = some (.istore_n 2, 8, 0, 0, []) := rfl
theorem kc61_8 : zt_code 61 8 = some (.aload_n 0, 9, 0, 0, []) := rfl
theorem kc61_9 : zt_code 61 9 = some (.getfield 10, 12, 7, 0, []) := rfl
theorem kc61_12 : zt_code 61 12 = some (.iload_n 2, 13, 0, 0, []) := rfl
theorem kc61_13 : zt_code 61 13 = some (.invokevirtual 186, 16, 23, 1, []) := rfl
theorem kc61_16 : zt_code 61 16 = some (.ifCond .eq 7, 19, 23, 0, []) := rfl
theorem kc61_19 : zt_code 61 19 = some (.iconst (-1), 20, 0, 0, []) := rfl
theorem kc61_20 : zt_code 61 20 = some (.goto 20, 23, 40, 0, []) := rfl
theorem kc61_23 : zt_code 61 23 = some (.aload_n 0, 24, 0, 0, []) := rfl
theorem kc61_24 : zt_code 61 24 = some (.getfield 39, 27, 7, 3, []) := rfl
theorem kc61_27 : zt_code 61 27 = some (.aload_n 0, 28, 0, 0, []) := rfl
theorem kc61_28 : zt_code 61 28 = some (.getfield 10, 31, 7, 0, []) := rfl
theorem kc61_31 : zt_code 61 31 = some (.getfield 109, 34, 4, 0, []) := rfl
theorem kc61_34 : zt_code 61 34 = some (.iconst 0, 35, 0, 0, []) := rfl
theorem kc61_35 : zt_code 61 35 = some (.iload_n 2, 36, 0, 0, []) := rfl
theorem kc61_36 : zt_code 61 36 = some (.iload_n 1, 37, 0, 0, []) := rfl
theorem kc61_37 : zt_code 61 37 = some (.invokevirtual 189, 40, 36, 4, []) := rfl
theorem kc61_40 : zt_code 61 40 = some (.ireturn, 41, 0, 0, []) := rfl
theorem kc62_0 : zt_code 62 0 = some (.aload_n 0, 1, 0, 0, []) := rfl
theorem kc62_1 : zt_code 62 1 = some (.getfield 10, 4, 7, 0, []) := rfl
theorem kc62_4 : zt_code 62 4 = some (.invokevirtual 102, 7, 22, 0, []) := rfl
theorem kc62_7 : zt_code 62 7 = some (.istore_n 1, 8, 0, 0, []) := rfl
theorem kc62_8 : zt_code 62 8 = some (.aload_n 0, 9, 0, 0, []) := rfl
theorem kc62_9 : zt_code 62 9 = some (.getfield 10, 12, 7, 0, []) := rfl
theorem kc62_12 : zt_code 62 12 = some (.iload_n 1, 13, 0, 0, []) := rfl
theorem kc62_13 : zt_code 62 13 = some (.invokevirtual 186, 16, 23, 1, []) := rfl
theorem kc62_16 : zt_code 62 16 = some (.ifCond .eq 7, 19, 23, 0, []) := rfl
theorem kc62_19 : zt_code 62 19 = some (.iconst (-1), 20, 0, 0, []) := rfl
theorem kc62_20 : zt_code 62 20 = some (.goto 19, 23, 39, 0, []) := rfl
theorem kc62_23 : zt_code 62 23 = some (.aload_n 0, 24, 0, 0, []) := rfl
theorem kc62_24 : zt_code 62 24 = some (.getfield 39, 27, 7, 3, []) := rfl
theorem kc62_27 : zt_code 62 27 = some (.aload_n 0, 28, 0, 0, []) := rfl
theorem kc62_28 : zt_code 62 28 = some (.getfield 10, 31, 7, 0, []) := rfl
theorem kc62_31 : zt_code 62 31 = some (.getfield 109, 34, 4, 0, []) := rfl
theorem kc62_34 : zt_code 62 34 = some (.iconst 0, 35, 0, 0, []) := rfl
theorem kc62_35 : zt_code 62 35 = some (.iload_n 1, 36, 0, 0, []) := rfl
theorem kc62_36 : zt_code 62 36 = some (.invokevirtual 113, 39, 35, 3, []) := rfl
theorem kc62_39 : zt_code 62 39 = some (.ireturn, 40, 0, 0, []) := rfl
theorem kc63_0 : zt_code 63 0 = some (.aload_n 0, 1, 0, 0, []) := rfl
theorem kc63_1 : zt_code 63 1 = some (.getfield 10, 4, 7, 0, []) := rfl
theorem kc63_4 : zt_code 63 4 = some (.invokevirtual 102, 7, 22, 0, []) := rfl
theorem kc63_7 : zt_code 63 7 = some (.istore_n 2, 8, 0, 0, []) := rfl
theorem kc63_8 : zt_code 63 8 = some (.aload_n 0, 9, 0, 0, []) := rfl
theorem kc63_9 : zt_code 63 9 = some (.getfield 10, 12, 7, 0, []) := rfl
theorem kc63_12 : zt_code 63 12 = some (.iload_n 2, 13, 0, 0, []) := rfl
theorem kc63_13 : zt_code 63 13 = some (.invokevirtual 105, 16, 24, 1, []) := rfl
theorem kc63_16 : zt_code 63 16 = some (.istore_n 3, 17, 0, 0, []) := rfl
theorem kc63_17 : zt_code 63 17 = some (.iload_n 3, 18, 0, 0, []) := rfl
theorem kc63_18 : zt_code 63 18 = some (.ifCond .ge 5, 21, 23, 0, []) := rfl
theorem kc63_21 : zt_code 63 21 = some (.iconst (-1), 22, 0, 0, []) := rfl
theorem kc63_22 : zt_code 63 22 = some (.ireturn, 23, 0, 0, []) := rfl
theorem kc63_23 : zt_code 63 23 = some (.iload_n 1, 24, 0, 0, []) := rfl
theorem kc63_24 : zt_code 63 24 = some (.ifCond .eq 22, 27, 46, 0, []) := rfl
theorem kc63_27 : zt_code 63 27 = some (.aload_n 0, 28, 0, 0, []) := rfl
theorem kc63_28 : zt_code 63 28 = some (.getfield 39, 31, 7, 3, []) := rfl
theorem kc63_31 : zt_code 63 31 = some (.aload_n 0, 32, 0, 0, []) := rfl
theorem kc63_32 : zt_code 63 32 = some (.getfield 10, 35, 7, 0, []) := rfl
theorem kc63_35 : zt_code 63 35 = some (.getfield 109, 38, 4, 0, []) := rfl
theorem kc63_38 : zt_code 63 38 = some (.iconst 0, 39, 0, 0, []) := rfl
theorem kc63_39 : zt_code 63 39 = some (.iload_n 3, 40, 0, 0, []) := rfl
theorem kc63_40 : zt_code 63 40 = some (.invokevirtual 113, 43, 35, 3, []) := rfl
theorem kc63_43 : zt_code 63 43 = some (.goto 20, 46, 63, 0, []) := rfl
theorem kc63_46 : zt_code 63 46 = some (.aload_n 0, 47, 0, 0, []) := rfl
theorem kc63_47 : zt_code 63 47 = some (.getfield 39, 50, 7, 3, []) := rfl
theorem kc63_50 : zt_code 63 50 = some (.aload_n 0, 51, 0, 0, []) := rfl
theorem kc63_51 : zt_code 63 51 = some (.getfield 10, 54, 7, 0, []) := rfl
theorem kc63_54 : zt_code 63 54 = some (.getfield 109, 57, 4, 0, []) := rfl
theorem kc63_57 : zt_code 63 57 = some (.iconst 0, 58, 0, 0, []) := rfl
theorem kc63_58 : zt_code 63 58 = some (.iload_n 3, 59, 0, 0, []) := rfl
theorem kc63_59 : zt_code 63 59 = some (.iconst 0, 60, 0, 0, []) := rfl
theorem kc63_60 : zt_code 63 60 = some (.invokevirtual 189, 63, 36, 4, []) := rfl
theorem kc63_63 : zt_code 63 63 = some (.istore 4, 65, 0, 0, []) := rfl
theorem kc63_65 : zt_code 63 65 = some (.iload 4, 67, 0, 0, []) := rfl
theorem kc63_67 : zt_code 63 67 = some (.ifCond .eq 8, 70, 75, 0, []) := rfl
theorem kc63_70 : zt_code 63 70 = some (.iload 4, 72, 0, 0, []) := rfl
theorem kc63_72 : zt_code 63 72 = some (.goto 21, 75, 93, 0, []) := rfl
theorem kc63_75 : zt_code 63 75 = some (.aload_n 0, 76, 0, 0, []) := rfl
theorem kc63_76 : zt_code 63 76 = some (.getfield 43, 79, 7, 4, []) := rfl
theorem kc63_79 : zt_code 63 79 = some (.aload_n 0, 80, 0, 0, []) := rfl
theorem kc63_80 : zt_code 63 80 = some (.getfield 10, 83, 7, 0, []) := rfl
theorem kc63_83 : zt_code 63 83 = some (.getfield 109, 86, 4, 0, []) := rfl
theorem kc63_86 : zt_code 63 86 = some (.iload_n 3, 87, 0, 0, []) := rfl
theorem kc63_87 : zt_code 63 87 = some (.iconst 1, 88, 0, 0, []) := rfl
theorem kc63_88 : zt_code 63 88 = some (.iadd, 89, 0, 0, []) := rfl
theorem kc63_89 : zt_code 63 89 = some (.iload_n 2, 90, 0, 0, []) := rfl
theorem kc63_90 : zt_code 63 90 = some (.invokevirtual 113, 93, 35, 3, []) := rfl
theorem kc63_93 : zt_code 63 93 = some (.ireturn, 94, 0, 0, []) := rfl
theorem kc64_0 : zt_code 64 0 = some (.aload_n 0, 1, 0, 0, []) := rfl
theorem kc64_1 : zt_code 64 1 = some (.getfield 26, 4, 7, 2, []) := rfl
theorem kc64_4 : zt_code 64 4 = some (.getfield 183, 7, 2, 1, []) := rfl
theorem kc64_7 : zt_code 64 7 = some (.bipush 60, 9, 0, 0, []) := rfl
theorem kc64_9 : zt_code 64 9 = some (.if_icmp .ge 12, 12, 21, 0, []) := rfl
theorem kc64_12 : zt_code 64 12 = some (.aload_n 0, 13, 0, 0, []) := rfl
theorem kc64_13 : zt_code 64 13 = some (.aload_n 1, 14, 0, 0, []) := rfl
theorem kc64_14 : zt_code 64 14 = some (.iload_n 2, 15, 0, 0, []) := rfl
theorem kc64_15 : zt_code 64 15 = some (.invokevirtual 193, 18, 65, 2, []) := rfl
theorem kc64_18 : zt_code 64 18 = some (.ifCond .eq 7, 21, 25, 0, []) := rfl
theorem kc64_21 : zt_code 64 21 = some (.iconst 1, 22, 0, 0, []) := rfl
theorem kc64_22 : zt_code 64 22 = some (.goto 4, 25, 26, 0, []) := rfl
theorem kc64_25 : zt_code 64 25 = some (.iconst 0, 26, 0, 0, []) := rfl
theorem kc64_26 : zt_code 64 26 = some (.ireturn, 27, 0, 0, []) := rfl
theorem kc65_0 : zt_code 65 0 = some (.aload_n 1, 1, 0, 0, []) := rfl
theorem kc65_1 : zt_code 65 1 = some (.ifnonnull 7, 4, 8, 0, []) := rfl
theorem kc65_4 : zt_code 65 4 = some (.iconst 0, 5, 0, 0, []) := rfl
theorem kc65_5 : zt_code 65 5 = some (.goto 7, 8, 12, 0, []) := rfl
theorem kc65_8 : zt_code 65 8 = some (.aload_n 1, 9, 0, 0, []) := rfl
theorem kc65_9 : zt_code 65 9 = some (.invokevirtual 196, 12, 31, 0, []) := rfl
theorem kc65_12 : zt_code 65 12 = some (.istore_n 3, 13, 0, 0, []) := rfl
theorem kc65_13 : zt_code 65 13 = some (.aload_n 0, 14, 0, 0, []) := rfl
theorem kc65_14 : zt_code 65 14 = some (.getfield 19, 17, 7, 1, []) := rfl
theorem kc65_17 : zt_code 65 17 = some (.invokevirtual 61, 20, 5, 0, []) := rfl
theorem kc65_20 : zt_code 65 20 = some (.iload_n 2, 21, 0, 0, []) := rfl
theorem kc65_21 : zt_code 65 21 = some (.iadd, 22, 0, 0, []) := rfl
theorem kc65_22 : zt_code 65 22 = some (.iload_n 3, 23, 0, 0, []) := rfl
theorem kc65_23 : zt_code 65 23 = some (.iadd, 24, 0, 0, []) := rfl
theorem kc65_24 : zt_code 65 24 = some (.aload_n 0, 25, 0, 0, []) := rfl
theorem kc65_25 : zt_code 65 25 = some (.getfield 46, 28, 7, 5, []) := rfl
theorem kc65_28 : zt_code 65 28 = some (.if_icmp .le 7, 31, 35, 0, []) := rfl
theorem kc65_31 : zt_code 65 31 = some (.iconst 1, 32, 0, 0, []) := rfl
theorem kc65_32 : zt_code 65 32 = some (.goto 4, 35, 36, 0, []) := rfl
theorem kc65_35 : zt_code 65 35 = some (.iconst 0, 36, 0, 0, []) := rfl
theorem kc65_36 : zt_code 65 36 = some (.ireturn, 37, 0, 0, []) := rfl
theorem kc66_0 : zt_code 66 0 = some (.aload_n 0, 1, 0, 0, []) := rfl
theorem kc66_1 : zt_code 66 1 = some (.getfield 39, 4, 7, 3, []) := rfl
theorem kc66_4 : zt_code 66 4 = some (.getfield 75, 7, 6, 8, []) := rfl
theorem kc66_7 : zt_code 66 7 = some (.aload_n 0, 8, 0, 0, []) := rfl
theorem kc66_8 : zt_code 66 8 = some (.getfield 43, 11, 7, 4, []) := rfl
theorem kc66_11 : zt_code 66 11 = some (.getfield 75, 14, 6, 8, []) := rfl
theorem kc66_14 : zt_code 66 14 = some (.if_acmp .ne 7, 17, 21, 0, []) := rfl
theorem kc66_17 : zt_code 66 17 = some (.iconst 1, 18, 0, 0, []) := rfl
theorem kc66_18 : zt_code 66 18 = some (.goto 4, 21, 22, 0, []) := rfl
theorem kc66_21 : zt_code 66 21 = some (.iconst 0, 22, 0, 0, []) := rfl
theorem kc66_22 : zt_code 66 22 = some (.istore_n 1, 23, 0, 0, []) := rfl
theorem kc66_23 : zt_code 66 23 = some (.iload_n 1, 24, 0, 0, []) := rfl
theorem kc66_24 : zt_code 66 24 = some (.ifCond .ne 23, 27, 47, 0, []) := rfl
theorem kc66_27 : zt_code 66 27 = some (.aload_n 0, 28, 0, 0, []) := rfl
theorem kc66_28 : zt_code 66 28 = some (.aload_n 0, 29, 0, 0, []) := rfl
theorem kc66_29 : zt_code 66 29 = some (.getfield 43, 32, 7, 4, []) := rfl
theorem kc66_32 : zt_code 66 32 = some (.getfield 75, 35, 6, 8, []) := rfl
theorem kc66_35 : zt_code 66 35 = some (.iconst 0, 36, 0, 0, []) := rfl
theorem kc66_36 : zt_code 66 36 = some (.invokevirtual 193, 39, 65, 2, []) := rfl
theorem kc66_39 : zt_code 66 39 = some (.ifCond .eq 8, 42, 47, 0, []) := rfl
theorem kc66_42 : zt_code 66 42 = some (.bipush (-7), 44, 0, 0, []) := rfl
theorem kc66_44 : zt_code 66 44 = some (.goto 4, 47, 48, 0, []) := rfl
theorem kc66_47 : zt_code 66 47 = some (.iconst 0, 48, 0, 0, []) := rfl
theorem kc66_48 : zt_code 66 48 = some (.ireturn, 49, 0, 0, []) := rfl
theorem kc67_0 : zt_code 67 0 = some (.aload_n 0, 1, 0, 0, []) := rfl
theorem kc67_1 : zt_code 67 1 = some (.getfield 99, 4, 5, 1, []) := rfl
theorem kc67_4 : zt_code 67 4 = some (.iconst 2, 5, 0, 0, []) := rfl
theorem kc67_5 : zt_code 67 5 = some (.if_icmp .ne 14, 8, 19, 0, []) := rfl
theorem kc67_8 : zt_code 67 8 = some (.aload_n 1, 9, 0, 0, []) := rfl
theorem kc67_9 : zt_code 67 9 = some (.getfield 99, 12, 5, 1, []) := rfl
theorem kc67_12 : zt_code 67 12 = some (.iconst 2, 13, 0, 0, []) := rfl
theorem kc67_13 : zt_code 67 13 = some (.if_icmp .eq 6, 16, 19, 0, []) := rfl
theorem kc67_16 : zt_code 67 16 = some (.bipush (-4), 18, 0, 0, []) := rfl
theorem kc67_18 : zt_code 67 18 = some (.ireturn, 19, 0, 0, []) := rfl
theorem kc67_19 : zt_code 67 19 = some (.aload_n 0, 20, 0, 0, []) := rfl
theorem kc67_20 : zt_code 67 20 = some (.getfield 99, 23, 5, 1, []) := rfl
theorem kc67_23 : zt_code 67 23 = some (.iconst 2, 24, 0, 0, []) := rfl
theorem kc67_24 : zt_code 67 24 = some (.if_icmp .eq 14, 27, 38, 0, []) := rfl
theorem kc67_27 : zt_code 67 27 = some (.aload_n 1, 28, 0, 0, []) := rfl
theorem kc67_28 : zt_code 67 28 = some (.getfield 99, 31, 5, 1, []) := rfl
theorem kc67_31 : zt_code 67 31 = some (.iconst 2, 32, 0, 0, []) := rfl
theorem kc67_32 : zt_code 67 32 = some (.if_icmp .ne 6, 35, 38, 0, []) := rfl
theorem kc67_35 : zt_code 67 35 = some (.bipush (-5), 37, 0, 0, []) := rfl
theorem kc67_37 : zt_code 67 37 = some (.ireturn, 38, 0, 0, []) := rfl
theorem kc67_38 : zt_code 67 38 = some (.aload_n 1, 39, 0, 0, []) := rfl
theorem kc67_39 : zt_code 67 39 = some (.getfield 132, 42, 5, 4, []) := rfl
theorem kc67_42 : zt_code 67 42 = some (.ifCond .le 8, 45, 50, 0, []) := rfl
theorem kc67_45 : zt_code 67 45 = some (.bipush (-6), 47, 0, 0, []) := rfl
theorem kc67_47 : zt_code 67 47 = some (.goto 4, 50, 51, 0, []) := rfl
theorem kc67_50 : zt_code 67 50 = some (.iconst 0, 51, 0, 0, []) := rfl
theorem kc67_51 : zt_code 67 51 = some (.ireturn, 52, 0, 0, []) := rfl
theorem kc68_0 : zt_code 68 0 = some (.aload_n 0, 1, 0, 0, []) := rfl
theorem kc68_1 : zt_code 68 1 = some (.astore_n 2, 2, 0, 0, []) := rfl
theorem kc68_2 : zt_code 68 2 = some (.iconst 0, 3, 0, 0, []) := rfl
theorem kc68_3 : zt_code 68 3 = some (.istore_n 3, 4, 0, 0, []) := rfl
theorem kc68_4 : zt_code 68 4 = some (.iload_n 3, 5, 0, 0, []) := rfl
theorem kc68_5 : zt_code 68 5 = some (.bipush 40, 7, 0, 0, []) := rfl
theorem kc68_7 : zt_code 68 7 = some (.if_icmp .ge 25, 10, 32, 0, []) := rfl
theorem kc68_10 : zt_code 68 10 = some (.aload_n 2, 11, 0, 0, []) := rfl
theorem kc68_11 : zt_code 68 11 = some (.ifnull 21, 14, 32, 0, []) := rfl
theorem kc68_14 : zt_code 68 14 = some (.aload_n 2, 15, 0, 0, []) := rfl
theorem kc68_15 : zt_code 68 15 = some (.aload_n 1, 16, 0, 0, []) := rfl
theorem kc68_16 : zt_code 68 16 = some (.if_acmp .ne 5, 19, 21, 0, []) := rfl
theorem kc68_19 : zt_code 68 19 = some (.iconst 1, 20, 0, 0, []) := rfl
theorem kc68_20 : zt_code 68 20 = some (.ireturn, 21, 0, 0, []) := rfl
theorem kc68_21 : zt_code 68 21 = some (.aload_n 2, 22, 0, 0, []) := rfl
theorem kc68_22 : zt_code 68 22 = some (.getfield 174, 25, 5, 6, []) := rfl
theorem kc68_25 : zt_code 68 25 = some (.astore_n 2, 26, 0, 0, []) := rfl
theorem kc68_26 : zt_code 68 26 = some (.iinc 3 1, 29, 0, 0, []) := rfl
theorem kc68_29 : zt_code 68 29 = some (.goto (-25), 32, 4, 0, []) := rfl
theorem kc68_32 : zt_code 68 32 = some (.iconst 0, 33, 0, 0, []) := rfl
theorem kc68_33 : zt_code 68 33 = some (.ireturn, 34, 0, 0, []) := rfl
theorem kc69_0 : zt_code 69 0 = some (.aload_n 1, 1, 0, 0, []) := rfl
theorem kc69_1 : zt_code 69 1 = some (.ifnonnull 4, 4, 5, 0, []) := rfl
theorem kc69_4 : zt_code 69 4 = some (.return_, 5, 0, 0, []) := rfl
theorem kc69_5 : zt_code 69 5 = some (.aload_n 1, 6, 0, 0, []) := rfl
theorem kc69_6 : zt_code 69 6 = some (.getfield 199, 9, 1, 1, []) := rfl
theorem kc69_9 : zt_code 69 9 = some (.astore_n 2, 10, 0, 0, []) := rfl
theorem kc69_10 : zt_code 69 10 = some (.aload_n 0, 11, 0, 0, []) := rfl
theorem kc69_11 : zt_code 69 11 = some (.getfield 26, 14, 7, 2, []) := rfl
theorem kc69_14 : zt_code 69 14 = some (.aload_n 1, 15, 0, 0, []) := rfl
theorem kc69_15 : zt_code 69 15 = some (.invokevirtual 146, 18, 13, 1, []) := rfl
theorem kc69_18 : zt_code 69 18 = some (.aload_n 2, 19, 0, 0, []) := rfl
theorem kc69_19 : zt_code 69 19 = some (.ifnull 7, 22, 26, 0, []) := rfl
theorem kc69_22 : zt_code 69 22 = some (.aload_n 2, 23, 0, 0, []) := rfl
theorem kc69_23 : zt_code 69 23 = some (.invokevirtual 161, 26, 33, 0, []) := rfl
theorem kc69_26 : zt_code 69 26 = some (.return_, 27, 0, 0, []) := rfl
theorem kc70_0 : zt_code 70 0 = some (.iload_n 0, 1, 0, 0, []) := rfl
theorem kc70_1 : zt_code 70 1 = some (.bipush 59, 3, 0, 0, []) := rfl
theorem kc70_3 : zt_code 70 3 = some (.if_icmp .le 7, 6, 10, 0, []) := rfl
theorem kc70_6 : zt_code 70 6 = some (.iconst 1, 7, 0, 0, []) := rfl
theorem kc70_7 : zt_code 70 7 = some (.goto 4, 10, 11, 0, []) := rfl
theorem kc70_10 : zt_code 70 10 = some (.iconst 0, 11, 0, 0, []) := rfl
theorem kc70_11 : zt_code 70 11 = some (.ireturn, 12, 0, 0, []) := rfl
theorem kc71_0 : zt_code 71 0 = some (.iload_n 0, 1, 0, 0, []) := rfl
theorem kc71_1 : zt_code 71 1 = some (.iconst 3, 2, 0, 0, []) := rfl
theorem kc71_2 : zt_code 71 2 = some (.if_icmp .le 7, 5, 9, 0, []) := rfl
theorem kc71_5 : zt_code 71 5 = some (.iload_n 0, 6, 0, 0, []) := rfl
theorem kc71_6 : zt_code 71 6 = some (.goto 4, 9, 10, 0, []) := rfl
theorem kc71_9 : zt_code 71 9 = some (.iconst 1, 10, 0, 0, []) := rfl
theorem kc71_10 : zt_code 71 10 = some (.ireturn, 11, 0, 0, []) := rfl
theorem kc72_0 : zt_code 72 0 = some (.aload_n 0, 1, 0, 0, []) := rfl
theorem kc72_1 : zt_code 72 1 = some (.ifnull 21, 4, 22, 0, []) := rfl
theorem kc72_4 : zt_code 72 4 = some (.aload_n 3, 5, 0, 0, []) := rfl
theorem kc72_5 : zt_code 72 5 = some (.ifnull 17, 8, 22, 0, []) := rfl
theorem kc72_8 : zt_code 72 8 = some (.iload_n 1, 9, 0, 0, []) := rfl
theorem kc72_9 : zt_code 72 9 = some (.ifCond .lt 13, 12, 22, 0, []) := rfl
theorem kc72_12 : zt_code 72 12 = some (.iload_n 1, 13, 0, 0, []) := rfl
theorem kc72_13 : zt_code 72 13 = some (.aload_n 0, 14, 0, 0, []) := rfl
theorem kc72_14 : zt_code 72 14 = some (.arraylength, 15, 0, 0, []) := rfl
theorem kc72_15 : zt_code 72 15 = some (.if_icmp .gt 7, 18, 22, 0, []) := rfl
theorem kc72_18 : zt_code 72 18 = some (.iload_n 2, 19, 0, 0, []) := rfl
theorem kc72_19 : zt_code 72 19 = some (.ifCond .ge 5, 22, 24, 0, []) := rfl
theorem kc72_22 : zt_code 72 22 = some (.iconst 0, 23, 0, 0, []) := rfl
theorem kc72_23 : zt_code 72 23 = some (.ireturn, 24, 0, 0, []) := rfl
theorem kc72_24 : zt_code 72 24 = some (.iload_n 2, 25, 0, 0, []) := rfl
theorem kc72_25 : zt_code 72 25 = some (.aload_n 0, 26, 0, 0, []) := rfl
theorem kc72_26 : zt_code 72 26 = some (.arraylength, 27, 0, 0, []) := rfl
theorem kc72_27 : zt_code 72 27 = some (.iload_n 1, 28, 0, 0, []) := rfl
theorem kc72_28 : zt_code 72 28 = some (.isub, 29, 0, 0, []) := rfl
theorem kc72_29 : zt_code 72 29 = some (.aload_n 3, 30, 0, 0, []) := rfl
theorem kc72_30 : zt_code 72 30 = some (.arraylength, 31, 0, 0, []) := rfl
theorem kc72_31 : zt_code 72 31 = some (.invokestatic 204, 34, 1002, 0, []) := rfl
theorem kc72_34 : zt_code 72 34 = some (.invokestatic 204, 37, 1002, 0, []) := rfl
theorem kc72_37 : zt_code 72 37 = some (.istore 4, 39, 0, 0, []) := rfl
theorem kc72_39 : zt_code 72 39 = some (.aload_n 0, 40, 0, 0, []) := rfl
theorem kc72_40 : zt_code 72 40 = some (.iload_n 1, 41, 0, 0, []) := rfl
theorem kc72_41 : zt_code 72 41 = some (.aload_n 3, 42, 0, 0, []) := rfl
theorem kc72_42 : zt_code 72 42 = some (.iconst 0, 43, 0, 0, []) := rfl
theorem kc72_43 : zt_code 72 43 = some (.iload 4, 45, 0, 0, []) := rfl
theorem kc72_45 : zt_code 72 45 = some (.invokestatic 210, 48, 1003, 0, []) := rfl
theorem kc72_48 : zt_code 72 48 = some (.iload 4, 50, 0, 0, []) := rfl
theorem kc72_50 : zt_code 72 50 = some (.ireturn, 51, 0, 0, []) := rfl
theorem kc73_0 : zt_code 73 0 = some (.aload_n 0, 1, 0, 0, []) := rfl
theorem kc73_1 : zt_code 73 1 = some (.invokespecial 1, 4, 1000, 0, []) := rfl
theorem kc73_4 : zt_code 73 4 = some (.aload_n 0, 5, 0, 0, []) := rfl
theorem kc73_5 : zt_code 73 5 = some (.bipush 40, 7, 0, 0, []) := rfl
theorem kc73_7 : zt_code 73 7 = some (.putfield 7, 10, 8, 0, []) := rfl
theorem kc73_10 : zt_code 73 10 = some (.aload_n 0, 11, 0, 0, []) := rfl
theorem kc73_11 : zt_code 73 11 = some (.sipush 1200, 14, 0, 0, []) := rfl
theorem kc73_14 : zt_code 73 14 = some (.newarray .int, 16, 101, 0, []) := rfl
theorem kc73_16 : zt_code 73 16 = some (.putfield 13, 19, 8, 2, []) := rfl
theorem kc73_19 : zt_code 73 19 = some (.aload_n 0, 20, 0, 0, []) := rfl
theorem kc73_20 : zt_code 73 20 = some (.sipush 1200, 23, 0, 0, []) := rfl
theorem kc73_23 : zt_code 73 23 = some (.newarray .int, 25, 101, 0, []) := rfl
theorem kc73_25 : zt_code 73 25 = some (.putfield 17, 28, 8, 4, []) := rfl
theorem kc73_28 : zt_code 73 28 = some (.aload_n 0, 29, 0, 0, []) := rfl
theorem kc73_29 : zt_code 73 29 = some (.bipush 41, 31, 0, 0, []) := rfl
theorem kc73_31 : zt_code 73 31 = some (.newarray .int, 33, 101, 0, []) := rfl
theorem kc73_33 : zt_code 73 33 = some (.putfield 20, 36, 8, 5, []) := rfl
theorem kc73_36 : zt_code 73 36 = some (.aload_n 0, 37, 0, 0, []) := rfl
theorem kc73_37 : zt_code 73 37 = some (.bipush 41, 39, 0, 0, []) := rfl
theorem kc73_39 : zt_code 73 39 = some (.newarray .int, 41, 101, 0, []) := rfl
theorem kc73_41 : zt_code 73 41 = some (.putfield 23, 44, 8, 6, []) := rfl
theorem kc73_44 : zt_code 73 44 = some (.aload_n 0, 45, 0, 0, []) := rfl
theorem kc73_45 : zt_code 73 45 = some (.bipush 41, 47, 0, 0, []) := rfl
theorem kc73_47 : zt_code 73 47 = some (.newarray .int, 49, 101, 0, []) := rfl
theorem kc73_49 : zt_code 73 49 = some (.putfield 26, 52, 8, 7, []) := rfl
theorem kc73_52 : zt_code 73 52 = some (.aload_n 0, 53, 0, 0, []) := rfl
theorem kc73_53 : zt_code 73 53 = some (.bipush 41, 55, 0, 0, []) := rfl
theorem kc73_55 : zt_code 73 55 = some (.newarray .int, 57, 101, 0, []) := rfl
theorem kc73_57 : zt_code 73 57 = some (.putfield 29, 60, 8, 8, []) := rfl
theorem kc73_60 : zt_code 73 60 = some (.aload_n 0, 61, 0, 0, []) := rfl
theorem kc73_61 : zt_code 73 61 = some (.ldc 32, 63, 0, 0, [(41000, 0)]) := rfl
theorem kc73_63 : zt_code 73 63 = some (.newarray .byte, 65, 100, 0, []) := rfl
theorem kc73_65 : zt_code 73 65 = some (.putfield 33, 68, 8, 9, []) := rfl
theorem kc73_68 : zt_code 73 68 = some (.aload_n 0, 69, 0, 0, []) := rfl
theorem kc73_69 : zt_code 73 69 = some (.bipush 60, 71, 0, 0, []) := rfl
theorem kc73_71 : zt_code 73 71 = some (.newarray .int, 73, 101, 0, []) := rfl
theorem kc73_73 : zt_code 73 73 = some (.putfield 37, 76, 8, 11, []) := rfl
theorem kc73_76 : zt_code 73 76 = some (.aload_n 0, 77, 0, 0, []) := rfl
theorem kc73_77 : zt_code 73 77 = some (.bipush 60, 79, 0, 0, []) := rfl
theorem kc73_79 : zt_code 73 79 = some (.newarray .int, 81, 101, 0, []) := rfl
theorem kc73_81 : zt_code 73 81 = some (.putfield 40, 84, 8, 12, []) := rfl
theorem kc73_84 : zt_code 73 84 = some (.aload_n 0, 85, 0, 0, []) := rfl
theorem kc73_85 : zt_code 73 85 = some (.bipush 60, 87, 0, 0, []) := rfl
theorem kc73_87 : zt_code 73 87 = some (.newarray .int, 89, 101, 0, []) := rfl
theorem kc73_89 : zt_code 73 89 = some (.putfield 43, 92, 8, 13, []) := rfl
theorem kc73_92 : zt_code 73 92 = some (.aload_n 0, 93, 0, 0, []) := rfl
theorem kc73_93 : zt_code 73 93 = some (.sipush 15300, 96, 0, 0, []) := rfl
theorem kc73_96 : zt_code 73 96 = some (.newarray .byte, 98, 100, 0, []) := rfl
theorem kc73_98 : zt_code 73 98 = some (.putfield 46, 101, 8, 14, []) := rfl
theorem kc73_101 : zt_code 73 101 = some (.aload_n 0, 102, 0, 0, []) := rfl
theorem kc73_102 : zt_code 73 102 = some (.ldc 49, 104, 0, 0, [(42000, 0)]) := rfl
theorem kc73_104 : zt_code 73 104 = some (.newarray .int, 106, 101, 0, []) := rfl
theorem kc73_106 : zt_code 73 106 = some (.putfield 50, 109, 8, 15, []) := rfl
theorem kc73_109 : zt_code 73 109 = some (.aload_n 0, 110, 0, 0, []) := rfl
theorem kc73_110 : zt_code 73 110 = some (.getfield 20, 113, 8, 5, []) := rfl
theorem kc73_113 : zt_code 73 113 = some (.iconst 1, 114, 0, 0, []) := rfl
theorem kc73_114 : zt_code 73 114 = some (.iconst 2, 115, 0, 0, []) := rfl
theorem kc73_115 : zt_code 73 115 = some (.iastore, 116, 0, 0, []) := rfl
theorem kc73_116 : zt_code 73 116 = some (.return_, 117, 0, 0, []) := rfl
theorem kc74_0 : zt_code 74 0 = some (.iload_n 3, 1, 0, 0, []) := rfl
theorem kc74_1 : zt_code 74 1 = some (.iconst 1, 2, 0, 0, []) := rfl
theorem kc74_2 : zt_code 74 2 = some (.if_icmp .lt 21, 5, 23, 0, []) := rfl
theorem kc74_5 : zt_code 74 5 = some (.iload_n 3, 6, 0, 0, []) := rfl
theorem kc74_6 : zt_code 74 6 = some (.bipush 8, 8, 0, 0, []) := rfl
theorem kc74_8 : zt_code 74 8 = some (.if_icmp .gt 15, 11, 23, 0, []) := rfl
theorem kc74_11 : zt_code 74 11 = some (.aload_n 0, 12, 0, 0, []) := rfl
theorem kc74_12 : zt_code 74 12 = some (.getfield 53, 15, 8, 1, []) := rfl
theorem kc74_15 : zt_code 74 15 = some (.iload_n 3, 16, 0, 0, []) := rfl
theorem kc74_16 : zt_code 74 16 = some (.iadd, 17, 0, 0, []) := rfl
theorem kc74_17 : zt_code 74 17 = some (.sipush 1200, 20, 0, 0, []) := rfl
theorem kc74_20 : zt_code 74 20 = some (.if_icmp .le 5, 23, 25, 0, []) := rfl
theorem kc74_23 : zt_code 74 23 = some (.iconst (-1), 24, 0, 0, []) := rfl
theorem kc74_24 : zt_code 74 24 = some (.ireturn, 25, 0, 0, []) := rfl
theorem kc74_25 : zt_code 74 25 = some (.iload_n 3, 26, 0, 0, []) := rfl
theorem kc74_26 : zt_code 74 26 = some (.iconst 1, 27, 0, 0, []) := rfl
theorem kc74_27 : zt_code 74 27 = some (.isub, 28, 0, 0, []) := rfl
theorem kc74_28 : zt_code 74 28 = some (.istore 4, 30, 0, 0, []) := rfl
theorem kc74_30 : zt_code 74 30 = some (.iload 4, 32, 0, 0, []) := rfl
theorem kc74_32 : zt_code 74 32 = some (.ifCond .lt 40, 35, 72, 0, []) := rfl
theorem kc74_35 : zt_code 74 35 = some (.aload_n 0, 36, 0, 0, []) := rfl
theorem kc74_36 : zt_code 74 36 = some (.getfield 13, 39, 8, 2, []) := rfl
theorem kc74_39 : zt_code 74 39 = some (.aload_n 0, 40, 0, 0, []) := rfl
theorem kc74_40 : zt_code 74 40 = some (.getfield 53, 43, 8, 1, []) := rfl
theorem kc74_43 : zt_code 74 43 = some (.lload_n 1, 44, 0, 0, []) := rfl
theorem kc74_44 : zt_code 74 44 = some (.bipush 8, 46, 0, 0, []) := rfl
theorem kc74_46 : zt_code 74 46 = some (.iload 4, 48, 0, 0, []) := rfl
theorem kc74_48 : zt_code 74 48 = some (.imul, 49, 0, 0, []) := rfl
theorem kc74_49 : zt_code 74 49 = some (.lshr, 50, 0, 0, []) := rfl
theorem kc74_50 : zt_code 74 50 = some (.ldc2_w 56, 53, 0, 0, [(255, 0)]) := rfl
theorem kc74_53 : zt_code 74 53 = some (.land, 54, 0, 0, []) := rfl
theorem kc74_54 : zt_code 74 54 = some (.l2i, 55, 0, 0, []) := rfl
theorem kc74_55 : zt_code 74 55 = some (.iastore, 56, 0, 0, []) := rfl
theorem kc74_56 : zt_code 74 56 = some (.aload_n 0, 57, 0, 0, []) := rfl
theorem kc74_57 : zt_code 74 57 = some (.dup, 58, 0, 0, []) := rfl
theorem kc74_58 : zt_code 74 58 = some (.getfield 53, 61, 8, 1, []) := rfl
theorem kc74_61 : zt_code 74 61 = some (.iconst 1, 62, 0, 0, []) := rfl
theorem kc74_62 : zt_code 74 62 = some (.iadd, 63, 0, 0, []) := rfl
theorem kc74_63 : zt_code 74 63 = some (.putfield 53, 66, 8, 1, []) := rfl
theorem kc74_66 : zt_code 74 66 = some (.iinc 4 (-1), 69, 0, 0, []) := rfl
theorem kc74_69 : zt_code 74 69 = some (.goto (-39), 72, 30, 0, []) := rfl
theorem kc74_72 : zt_code 74 72 = some (.aload_n 0, 73, 0, 0, []) := rfl
theorem kc74_73 : zt_code 74 73 = some (.getfield 53, 76, 8, 1, []) := rfl
theorem kc74_76 : zt_code 74 76 = some (.ireturn, 77, 0, 0, []) := rfl
theorem kc75_0 : zt_code 75 0 = some (.iload_n 1, 1, 0, 0, []) := rfl
theorem kc75_1 : zt_code 75 1 = some (.ifCond .lt 34, 4, 35, 0, []) := rfl
theorem kc75_4 : zt_code 75 4 = some (.iload_n 1, 5, 0, 0, []) := rfl
theorem kc75_5 : zt_code 75 5 = some (.sipush 255, 8, 0, 0, []) := rfl
theorem kc75_8 : zt_code 75 8 = some (.if_icmp .gt 27, 11, 35, 0, []) := rfl
theorem kc75_11 : zt_code 75 11 = some (.iload_n 2, 12, 0, 0, []) := rfl
theorem kc75_12 : zt_code 75 12 = some (.iconst 1, 13, 0, 0, []) := rfl
theorem kc75_13 : zt_code 75 13 = some (.if_icmp .lt 22, 16, 35, 0, []) := rfl
theorem kc75_16 : zt_code 75 16 = some (.iload_n 2, 17, 0, 0, []) := rfl
theorem kc75_17 : zt_code 75 17 = some (.sipush 1200, 20, 0, 0, []) := rfl
theorem kc75_20 : zt_code 75 20 = some (.if_icmp .gt 15, 23, 35, 0, []) := rfl
theorem kc75_23 : zt_code 75 23 = some (.aload_n 0, 24, 0, 0, []) := rfl
theorem kc75_24 : zt_code 75 24 = some (.getfield 53, 27, 8, 1, []) := rfl
theorem kc75_27 : zt_code 75 27 = some (.iload_n 2, 28, 0, 0, []) := rfl
theorem kc75_28 : zt_code 75 28 = some (.iadd, 29, 0, 0, []) := rfl
theorem kc75_29 : zt_code 75 29 = some (.sipush 1200, 32, 0, 0, []) := rfl
theorem kc75_32 : zt_code 75 32 = some (.if_icmp .le 5, 35, 37, 0, []) := rfl
theorem kc75_35 : zt_code 75 35 = some (.iconst (-1), 36, 0, 0, []) := rfl
theorem kc75_36 : zt_code 75 36 = some (.ireturn, 37, 0, 0, []) := rfl
theorem kc75_37 : zt_code 75 37 = some (.iconst 0, 38, 0, 0, []) := rfl
theorem kc75_38 : zt_code 75 38 = some (.istore_n 3, 39, 0, 0, []) := rfl
theorem kc75_39 : zt_code 75 39 = some (.iload_n 3, 40, 0, 0, []) := rfl
theorem kc75_40 : zt_code 75 40 = some (.iload_n 2, 41, 0, 0, []) := rfl
theorem kc75_41 : zt_code 75 41 = some (.if_icmp .ge 21, 44, 62, 0, []) := rfl
theorem kc75_44 : zt_code 75 44 = some (.aload_n 0, 45, 0, 0, []) := rfl
theorem kc75_45 : zt_code 75 45 = some (.getfield 13, 48, 8, 2, []) := rfl
theorem kc75_48 : zt_code 75 48 = some (.aload_n 0, 49, 0, 0, []) := rfl
theorem kc75_49 : zt_code 75 49 = some (.getfield 53, 52, 8, 1, []) := rfl
theorem kc75_52 : zt_code 75 52 = some (.iload_n 3, 53, 0, 0, []) := rfl
theorem kc75_53 : zt_code 75 53 = some (.iadd, 54, 0, 0, []) := rfl
theorem kc75_54 : zt_code 75 54 = some (.iload_n 1, 55, 0, 0, []) := rfl
theorem kc75_55 : zt_code 75 55 = some (.iastore, 56, 0, 0, []) := rfl
theorem kc75_56 : zt_code 75 56 = some (.iinc 3 1, 59, 0, 0, []) := rfl
theorem kc75_59 : zt_code 75 59 = some (.goto (-20), 62, 39, 0, []) := rfl
theorem kc75_62 : zt_code 75 62 = some (.aload_n 0, 63, 0, 0, []) := rfl
theorem kc75_63 : zt_code 75 63 = some (.dup, 64, 0, 0, []) := rfl
theorem kc75_64 : zt_code 75 64 = some (.getfield 53, 67, 8, 1, []) := rfl
theorem kc75_67 : zt_code 75 67 = some (.iload_n 2, 68, 0, 0, []) := rfl
theorem kc75_68 : zt_code 75 68 = some (.iadd, 69, 0, 0, []) := rfl
theorem kc75_69 : zt_code 75 69 = some (.putfield 53, 72, 8, 1, []) := rfl
theorem kc75_72 : zt_code 75 72 = some (.aload_n 0, 73, 0, 0, []) := rfl
theorem kc75_73 : zt_code 75 73 = some (.getfield 53, 76, 8, 1, []) := rfl
theorem kc75_76 : zt_code 75 76 = some (.ireturn, 77, 0, 0, []) := rfl
theorem kc76_0 : zt_code 76 0 = some (.aload_n 0, 1, 0, 0, []) := rfl
theorem kc76_1 : zt_code 76 1 = some (.aload_n 0, 2, 0, 0, []) := rfl
theorem kc76_2 : zt_code 76 2 = some (.getfield 53, 5, 8, 1, []) := rfl
theorem kc76_5 : zt_code 76 5 = some (.putfield 58, 8, 8, 3, []) := rfl
theorem kc76_8 : zt_code 76 8 = some (.aload_n 0, 9, 0, 0, []) := rfl
theorem kc76_9 : zt_code 76 9 = some (.iconst 0, 10, 0, 0, []) := rfl
theorem kc76_10 : zt_code 76 10 = some (.putfield 53, 13, 8, 1, []) := rfl
theorem kc76_13 : zt_code 76 13 = some (.iconst (-1), 14, 0, 0, []) := rfl
theorem kc76_14 : zt_code 76 14 = some (.istore_n 1, 15, 0, 0, []) := rfl
theorem kc76_15 : zt_code 76 15 = some (.iconst 0, 16, 0, 0, []) := rfl
theorem kc76_16 : zt_code 76 16 = some (.istore_n 2, 17, 0, 0, []) := rfl
theorem kc76_17 : zt_code 76 17 = some (.iload_n 2, 18, 0, 0, []) := rfl
theorem kc76_18 : zt_code 76 18 = some (.aload_n 0, 19, 0, 0, []) := rfl
theorem kc76_19 : zt_code 76 19 = some (.getfield 58, 22, 8, 3, []) := rfl
theorem kc76_22 : zt_code 76 22 = some (.if_icmp .ge 42, 25, 64, 0, []) := rfl
theorem kc76_25 : zt_code 76 25 = some (.aload_n 0, 26, 0, 0, []) := rfl
theorem kc76_26 : zt_code 76 26 = some (.getfield 17, 29, 8, 4, []) := rfl
theorem kc76_29 : zt_code 76 29 = some (.iload_n 2, 30, 0, 0, []) := rfl
theorem kc76_30 : zt_code 76 30 = some (.aload_n 0, 31, 0, 0, []) := rfl
theorem kc76_31 : zt_code 76 31 = some (.getfield 13, 34, 8, 2, []) := rfl
theorem kc76_34 : zt_code 76 34 = some (.iload_n 2, 35, 0, 0, []) := rfl
theorem kc76_35 : zt_code 76 35 = some (.iaload, 36, 0, 0, []) := rfl
theorem kc76_36 : zt_code 76 36 = some (.iastore, 37, 0, 0, []) := rfl
theorem kc76_37 : zt_code 76 37 = some (.aload_n 0, 38, 0, 0, []) := rfl
theorem kc76_38 : zt_code 76 38 = some (.getfield 17, 41, 8, 4, []) := rfl
theorem kc76_41 : zt_code 76 41 = some (.iload_n 2, 42, 0, 0, []) := rfl
theorem kc76_42 : zt_code 76 42 = some (.iaload, 43, 0, 0, []) := rfl
theorem kc76_43 : zt_code 76 43 = some (.ifCond .ne 15, 46, 58, 0, []) := rfl
theorem kc76_46 : zt_code 76 46 = some (.iload_n 1, 47, 0, 0, []) := rfl
theorem kc76_47 : zt_code 76 47 = some (.iconst (-1), 48, 0, 0, []) := rfl
theorem kc76_48 : zt_code 76 48 = some (.if_icmp .ne 7, 51, 55, 0, []) := rfl
theorem kc76_51 : zt_code 76 51 = some (.iload_n 2, 52, 0, 0, []) := rfl
theorem kc76_52 : zt_code 76 52 = some (.goto 5, 55, 57, 0, []) := rfl
theorem kc76_55 : zt_code 76 55 = some (.bipush (-2), 57, 0, 0, []) := rfl
theorem kc76_57 : zt_code 76 57 = some (.istore_n 1, 58, 0, 0, []) := rfl
theorem kc76_58 : zt_code 76 58 = some (.iinc 2 1, 61, 0, 0, []) := rfl
theorem kc76_61 : zt_code 76 61 = some (.goto (-44), 64, 17, 0, []) := rfl
theorem kc76_64 : zt_code 76 64 = some (.iconst 0, 65, 0, 0, []) := rfl
theorem kc76_65 : zt_code 76 65 = some (.istore_n 2, 66, 0, 0, []) := rfl
theorem kc76_66 : zt_code 76 66 = some (.iconst 0, 67, 0, 0, []) := rfl
theorem kc76_67 : zt_code 76 67 = some (.istore_n 3, 68, 0, 0, []) := rfl
theorem kc76_68 : zt_code 76 68 = some (.iload_n 3, 69, 0, 0, []) := rfl
theorem kc76_69 : zt_code 76 69 = some (.aload_n 0, 70, 0, 0, []) := rfl
theorem kc76_70 : zt_code 76 70 = some (.getfield 58, 73, 8, 3, []) := rfl
theorem kc76_73 : zt_code 76 73 = some (.if_icmp .ge 26, 76, 99, 0, []) := rfl
theorem kc76_76 : zt_code 76 76 = some (.iload_n 2, 77, 0, 0, []) := rfl
theorem kc76_77 : zt_code 76 77 = some (.aload_n 0, 78, 0, 0, []) := rfl
theorem kc76_78 : zt_code 76 78 = some (.getfield 17, 81, 8, 4, []) := rfl
theorem kc76_81 : zt_code 76 81 = some (.iload_n 3, 82, 0, 0, []) := rfl
theorem kc76_82 : zt_code 76 82 = some (.iaload, 83, 0, 0, []) := rfl
theorem kc76_83 : zt_code 76 83 = some (.ifCond .ne 7, 86, 90, 0, []) := rfl
theorem kc76_86 : zt_code 76 86 = some (.iconst 1, 87, 0, 0, []) := rfl
theorem kc76_87 : zt_code 76 87 = some (.goto 4, 90, 91, 0, []) := rfl
theorem kc76_90 : zt_code 76 90 = some (.iconst 0, 91, 0, 0, []) := rfl
theorem kc76_91 : zt_code 76 91 = some (.iadd, 92, 0, 0, []) := rfl
theorem kc76_92 : zt_code 76 92 = some (.istore_n 2, 93, 0, 0, []) := rfl
theorem kc76_93 : zt_code 76 93 = some (.iinc 3 1, 96, 0, 0, []) := rfl
theorem kc76_96 : zt_code 76 96 = some (.goto (-28), 99, 68, 0, []) := rfl
theorem kc76_99 : zt_code 76 99 = some (.iload_n 2, 100, 0, 0, []) := rfl
theorem kc76_100 : zt_code 76 100 = some (.iconst 1, 101, 0, 0, []) := rfl
theorem kc76_101 : zt_code 76 101 = some (.if_icmp .le 8, 104, 109, 0, []) := rfl
theorem kc76_104 : zt_code 76 104 = some (.bipush (-2), 106, 0, 0, []) := rfl
theorem kc76_106 : zt_code 76 106 = some (.goto 4, 109, 110, 0, []) := rfl
theorem kc76_109 : zt_code 76 109 = some (.iload_n 1, 110, 0, 0, []) := rfl
theorem kc76_110 : zt_code 76 110 = some (.ireturn, 111, 0, 0, []) := rfl
theorem kc77_0 : zt_code 77 0 = some (.iload_n 0, 1, 0, 0, []) := rfl
theorem kc77_1 : zt_code 77 1 = some (.iconst 3, 2, 0, 0, []) := rfl
theorem kc77_2 : zt_code 77 2 = some (.if_icmp .le 7, 5, 9, 0, []) := rfl
theorem kc77_5 : zt_code 77 5 = some (.iload_n 0, 6, 0, 0, []) := rfl
theorem kc77_6 : zt_code 77 6 = some (.goto 4, 9, 10, 0, []) := rfl
theorem kc77_9 : zt_code 77 9 = some (.iconst 1, 10, 0, 0, []) := rfl
theorem kc77_10 : zt_code 77 10 = some (.ireturn, 11, 0, 0, []) := rfl
theorem kc78_0 : zt_code 78 0 = some (.aload_n 0, 1, 0, 0, []) := rfl
theorem kc78_1 : zt_code 78 1 = some (.getfield 20, 4, 8, 5, []) := rfl
theorem kc78_4 : zt_code 78 4 = some (.iload_n 1, 5, 0, 0, []) := rfl
theorem kc78_5 : zt_code 78 5 = some (.iaload, 6, 0, 0, []) := rfl
theorem kc78_6 : zt_code 78 6 = some (.ifCond .ne 5, 9, 11, 0, []) := rfl
theorem kc78_9 : zt_code 78 9 = some (.iconst 0, 10, 0, 0, []) := rfl
theorem kc78_10 : zt_code 78 10 = some (.ireturn, 11, 0, 0, []) := rfl
theorem kc78_11 : zt_code 78 11 = some (.aload_n 0, 12, 0, 0, []) := rfl
theorem kc78_12 : zt_code 78 12 = some (.getfield 20, 15, 8, 5, []) := rfl
theorem kc78_15 : zt_code 78 15 = some (.iload_n 1, 16, 0, 0, []) := rfl
theorem kc78_16 : zt_code 78 16 = some (.iaload, 17, 0, 0, []) := rfl
theorem kc78_17 : zt_code 78 17 = some (.iconst 1, 18, 0, 0, []) := rfl
theorem kc78_18 : zt_code 78 18 = some (.if_icmp .ne 7, 21, 25, 0, []) := rfl
theorem kc78_21 : zt_code 78 21 = some (.iconst 1, 22, 0, 0, []) := rfl
theorem kc78_22 : zt_code 78 22 = some (.goto 41, 25, 63, 0, []) := rfl
theorem kc78_25 : zt_code 78 25 = some (.aload_n 0, 26, 0, 0, []) := rfl
theorem kc78_26 : zt_code 78 26 = some (.getfield 20, 29, 8, 5, []) := rfl
theorem kc78_29 : zt_code 78 29 = some (.iload_n 1, 30, 0, 0, []) := rfl
theorem kc78_30 : zt_code 78 30 = some (.iaload, 31, 0, 0, []) := rfl
theorem kc78_31 : zt_code 78 31 = some (.iconst 3, 32, 0, 0, []) := rfl
theorem kc78_32 : zt_code 78 32 = some (.if_icmp .ne 22, 35, 54, 0, []) := rfl
theorem kc78_35 : zt_code 78 35 = some (.aload_n 0, 36, 0, 0, []) := rfl
theorem kc78_36 : zt_code 78 36 = some (.getfield 29, 39, 8, 8, []) := rfl
theorem kc78_39 : zt_code 78 39 = some (.iload_n 1, 40, 0, 0, []) := rfl
theorem kc78_40 : zt_code 78 40 = some (.iaload, 41, 0, 0, []) := rfl
theorem kc78_41 : zt_code 78 41 = some (.bipush 59, 43, 0, 0, []) := rfl
theorem kc78_43 : zt_code 78 43 = some (.if_icmp .le 7, 46, 50, 0, []) := rfl
theorem kc78_46 : zt_code 78 46 = some (.iconst 1, 47, 0, 0, []) := rfl
theorem kc78_47 : zt_code 78 47 = some (.goto 16, 50, 63, 0, []) := rfl
theorem kc78_50 : zt_code 78 50 = some (.iconst 0, 51, 0, 0, []) := rfl
theorem kc78_51 : zt_code 78 51 = some (.goto 12, 54, 63, 0, []) := rfl
theorem kc78_54 : zt_code 78 54 = some (.aload_n 0, 55, 0, 0, []) := rfl
theorem kc78_55 : zt_code 78 55 = some (.getfield 23, 58, 8, 6, []) := rfl
theorem kc78_58 : zt_code 78 58 = some (.iload_n 1, 59, 0, 0, []) := rfl
theorem kc78_59 : zt_code 78 59 = some (.iaload, 60, 0, 0, []) := rfl
theorem kc78_60 : zt_code 78 60 = some (.invokestatic 61, 63, 77, 1, []) := rfl
theorem kc78_63 : zt_code 78 63 = some (.ireturn, 64, 0, 0, []) := rfl
theorem kc79_0 : zt_code 79 0 = some (.iconst 0, 1, 0, 0, []) := rfl
theorem kc79_1 : zt_code 79 1 = some (.istore_n 1, 2, 0, 0, []) := rfl
theorem kc79_2 : zt_code 79 2 = some (.iconst 1, 3, 0, 0, []) := rfl
theorem kc79_3 : zt_code 79 3 = some (.istore_n 2, 4, 0, 0, []) := rfl
theorem kc79_4 : zt_code 79 4 = some (.iload_n 2, 5, 0, 0, []) := rfl
theorem kc79_5 : zt_code 79 5 = some (.bipush 40, 7, 0, 0, []) := rfl
theorem kc79_7 : zt_code 79 7 = some (.if_icmp .gt 17, 10, 24, 0, []) := rfl
theorem kc79_10 : zt_code 79 10 = some (.iload_n 1, 11, 0, 0, []) := rfl
theorem kc79_11 : zt_code 79 11 = some (.aload_n 0, 12, 0, 0, []) := rfl
theorem kc79_12 : zt_code 79 12 = some (.iload_n 2, 13, 0, 0, []) := rfl
theorem kc79_13 : zt_code 79 13 = some (.invokevirtual 65, 16, 78, 1, []) := rfl
theorem kc79_16 : zt_code 79 16 = some (.iadd, 17, 0, 0, []) := rfl
theorem kc79_17 : zt_code 79 17 = some (.istore_n 1, 18, 0, 0, []) := rfl
theorem kc79_18 : zt_code 79 18 = some (.iinc 2 1, 21, 0, 0, []) := rfl
theorem kc79_21 : zt_code 79 21 = some (.goto (-17), 24, 4, 0, []) := rfl
theorem kc79_24 : zt_code 79 24 = some (.iload_n 1, 25, 0, 0, []) := rfl
theorem kc79_25 : zt_code 79 25 = some (.ireturn, 26, 0, 0, []) := rfl
theorem kc80_0 : zt_code 80 0 = some (.iconst 0, 1, 0, 0, []) := rfl
theorem kc80_1 : zt_code 80 1 = some (.istore_n 1, 2, 0, 0, []) := rfl
theorem kc80_2 : zt_code 80 2 = some (.iconst 1, 3, 0, 0, []) := rfl
theorem kc80_3 : zt_code 80 3 = some (.istore_n 2, 4, 0, 0, []) := rfl
theorem kc80_4 : zt_code 80 4 = some (.iload_n 2, 5, 0, 0, []) := rfl
theorem kc80_5 : zt_code 80 5 = some (.bipush 40, 7, 0, 0, []) := rfl
theorem kc80_7 : zt_code 80 7 = some (.if_icmp .gt 26, 10, 33, 0, []) := rfl
theorem kc80_10 : zt_code 80 10 = some (.iload_n 1, 11, 0, 0, []) := rfl
theorem kc80_11 : zt_code 80 11 = some (.aload_n 0, 12, 0, 0, []) := rfl
theorem kc80_12 : zt_code 80 12 = some (.getfield 20, 15, 8, 5, []) := rfl
theorem kc80_15 : zt_code 80 15 = some (.iload_n 2, 16, 0, 0, []) := rfl
theorem kc80_16 : zt_code 80 16 = some (.iaload, 17, 0, 0, []) := rfl
theorem kc80_17 : zt_code 80 17 = some (.ifCond .le 7, 20, 24, 0, []) := rfl
theorem kc80_20 : zt_code 80 20 = some (.iconst 1, 21, 0, 0, []) := rfl
theorem kc80_21 : zt_code 80 21 = some (.goto 4, 24, 25, 0, []) := rfl
theorem kc80_24 : zt_code 80 24 = some (.iconst 0, 25, 0, 0, []) := rfl
theorem kc80_25 : zt_code 80 25 = some (.iadd, 26, 0, 0, []) := rfl
theorem kc80_26 : zt_code 80 26 = some (.istore_n 1, 27, 0, 0, []) := rfl
theorem kc80_27 : zt_code 80 27 = some (.iinc 2 1, 30, 0, 0, []) := rfl
theorem kc80_30 : zt_code 80 30 = some (.goto (-26), 33, 4, 0, []) := rfl
theorem kc80_33 : zt_code 80 33 = some (.iload_n 1, 34, 0, 0, []) := rfl
theorem kc80_34 : zt_code 80 34 = some (.ireturn, 35, 0, 0, []) := rfl
theorem kc81_0 : zt_code 81 0 = some (.iconst 0, 1, 0, 0, []) := rfl
theorem kc81_1 : zt_code 81 1 = some (.istore_n 2, 2, 0, 0, []) := rfl
theorem kc81_2 : zt_code 81 2 = some (.iconst 0, 3, 0, 0, []) := rfl
theorem kc81_3 : zt_code 81 3 = some (.istore_n 3, 4, 0, 0, []) := rfl
theorem kc81_4 : zt_code 81 4 = some (.iload_n 3, 5, 0, 0, []) := rfl
theorem kc81_5 : zt_code 81 5 = some (.aload_n 0, 6, 0, 0, []) := rfl
theorem kc81_6 : zt_code 81 6 = some (.getfield 68, 9, 8, 10, []) := rfl
theorem kc81_9 : zt_code 81 9 = some (.if_icmp .ge 27, 12, 36, 0, []) := rfl
theorem kc81_12 : zt_code 81 12 = some (.iload_n 2, 13, 0, 0, []) := rfl
theorem kc81_13 : zt_code 81 13 = some (.aload_n 0, 14, 0, 0, []) := rfl
theorem kc81_14 : zt_code 81 14 = some (.getfield 40, 17, 8, 12, []) := rfl
theorem kc81_17 : zt_code 81 17 = some (.iload_n 3, 18, 0, 0, []) := rfl
theorem kc81_18 : zt_code 81 18 = some (.iaload, 19, 0, 0, []) := rfl
theorem kc81_19 : zt_code 81 19 = some (.iload_n 1, 20, 0, 0, []) := rfl
theorem kc81_20 : zt_code 81 20 = some (.if_icmp .ne 7, 23, 27, 0, []) := rfl
theorem kc81_23 : zt_code 81 23 = some (.iconst 1, 24, 0, 0, []) := rfl
theorem kc81_24 : zt_code 81 24 = some (.goto 4, 27, 28, 0, []) := rfl
theorem kc81_27 : zt_code 81 27 = some (.iconst 0, 28, 0, 0, []) := rfl
theorem kc81_28 : zt_code 81 28 = some (.iadd, 29, 0, 0, []) := rfl
theorem kc81_29 : zt_code 81 29 = some (.istore_n 2, 30, 0, 0, []) := rfl
theorem kc81_30 : zt_code 81 30 = some (.iinc 3 1, 33, 0, 0, []) := rfl
theorem kc81_33 : zt_code 81 33 = some (.goto (-29), 36, 4, 0, []) := rfl
theorem kc81_36 : zt_code 81 36 = some (.iload_n 2, 37, 0, 0, []) := rfl
theorem kc81_37 : zt_code 81 37 = some (.ireturn, 38, 0, 0, []) := rfl
theorem kc82_0 : zt_code 82 0 = some (.iconst 0, 1, 0, 0, []) := rfl
theorem kc82_1 : zt_code 82 1 = some (.istore_n 2, 2, 0, 0, []) := rfl
theorem kc82_2 : zt_code 82 2 = some (.iconst 0, 3, 0, 0, []) := rfl
theorem kc82_3 : zt_code 82 3 = some (.istore_n 3, 4, 0, 0, []) := rfl
theorem kc82_4 : zt_code 82 4 = some (.iload_n 3, 5, 0, 0, []) := rfl
theorem kc82_5 : zt_code 82 5 = some (.aload_n 0, 6, 0, 0, []) := rfl
theorem kc82_6 : zt_code 82 6 = some (.getfield 68, 9, 8, 10, []) := rfl
theorem kc82_9 : zt_code 82 9 = some (.if_icmp .ge 27, 12, 36, 0, []) := rfl
theorem kc82_12 : zt_code 82 12 = some (.iload_n 2, 13, 0, 0, []) := rfl
theorem kc82_13 : zt_code 82 13 = some (.aload_n 0, 14, 0, 0, []) := rfl
theorem kc82_14 : zt_code 82 14 = some (.getfield 37, 17, 8, 11, []) := rfl
theorem kc82_17 : zt_code 82 17 = some (.iload_n 3, 18, 0, 0, []) := rfl
theorem kc82_18 : zt_code 82 18 = some (.iaload, 19, 0, 0, []) := rfl
theorem kc82_19 : zt_code 82 19 = some (.iload_n 1, 20, 0, 0, []) := rfl
theorem kc82_20 : zt_code 82 20 = some (.if_icmp .ne 7, 23, 27, 0, []) := rfl
theorem kc82_23 : zt_code 82 23 = some (.iconst 1, 24, 0, 0, []) := rfl
theorem kc82_24 : zt_code 82 24 = some (.goto 4, 27, 28, 0, []) := rfl
theorem kc82_27 : zt_code 82 27 = some (.iconst 0, 28, 0, 0, []) := rfl
theorem kc82_28 : zt_code 82 28 = some (.iadd, 29, 0, 0, []) := rfl
theorem kc82_29 : zt_code 82 29 = some (.istore_n 2, 30, 0, 0, []) := rfl
theorem kc82_30 : zt_code 82 30 = some (.iinc 3 1, 33, 0, 0, []) := rfl
theorem kc82_33 : zt_code 82 33 = some (.goto (-29), 36, 4, 0, []) := rfl
theorem kc82_36 : zt_code 82 36 = some (.iload_n 2, 37, 0, 0, []) := rfl
theorem kc82_37 : zt_code 82 37 = some (.ireturn, 38, 0, 0, []) := rfl
theorem kc83_0 : zt_code 83 0 = some (.iconst 1, 1, 0, 0, []) := rfl
theorem kc83_1 : zt_code 83 1 = some (.istore_n 2, 2, 0, 0, []) := rfl
theorem kc83_2 : zt_code 83 2 = some (.iconst 0, 3, 0, 0, []) := rfl
theorem kc83_3 : zt_code 83 3 = some (.istore_n 3, 4, 0, 0, []) := rfl
theorem kc83_4 : zt_code 83 4 = some (.iload_n 3, 5, 0, 0, []) := rfl
theorem kc83_5 : zt_code 83 5 = some (.aload_n 0, 6, 0, 0, []) := rfl
theorem kc83_6 : zt_code 83 6 = some (.getfield 68, 9, 8, 10, []) := rfl
theorem kc83_9 : zt_code 83 9 = some (.if_icmp .ge 30, 12, 39, 0, []) := rfl
theorem kc83_12 : zt_code 83 12 = some (.aload_n 0, 13, 0, 0, []) := rfl
theorem kc83_13 : zt_code 83 13 = some (.getfield 40, 16, 8, 12, []) := rfl
theorem kc83_16 : zt_code 83 16 = some (.iload_n 3, 17, 0, 0, []) := rfl
theorem kc83_17 : zt_code 83 17 = some (.iaload, 18, 0, 0, []) := rfl
theorem kc83_18 : zt_code 83 18 = some (.iload_n 1, 19, 0, 0, []) := rfl
theorem kc83_19 : zt_code 83 19 = some (.if_icmp .ne 12, 22, 31, 0, []) := rfl
theorem kc83_22 : zt_code 83 22 = some (.aload_n 0, 23, 0, 0, []) := rfl
theorem kc83_23 : zt_code 83 23 = some (.getfield 37, 26, 8, 11, []) := rfl
theorem kc83_26 : zt_code 83 26 = some (.iload_n 3, 27, 0, 0, []) := rfl
theorem kc83_27 : zt_code 83 27 = some (.iaload, 28, 0, 0, []) := rfl
theorem kc83_28 : zt_code 83 28 = some (.goto 4, 31, 32, 0, []) := rfl
theorem kc83_31 : zt_code 83 31 = some (.iload_n 2, 32, 0, 0, []) := rfl
theorem kc83_32 : zt_code 83 32 = some (.istore_n 2, 33, 0, 0, []) := rfl
theorem kc83_33 : zt_code 83 33 = some (.iinc 3 1, 36, 0, 0, []) := rfl
theorem kc83_36 : zt_code 83 36 = some (.goto (-32), 39, 4, 0, []) := rfl
theorem kc83_39 : zt_code 83 39 = some (.iload_n 2, 40, 0, 0, []) := rfl
theorem kc83_40 : zt_code 83 40 = some (.ireturn, 41, 0, 0, []) := rfl
theorem kc84_0 : zt_code 84 0 = some (.aload_n 0, 1, 0, 0, []) := rfl
theorem kc84_1 : zt_code 84 1 = some (.getfield 43, 4, 8, 13, []) := rfl
theorem kc84_4 : zt_code 84 4 = some (.iload_n 1, 5, 0, 0, []) := rfl
theorem kc84_5 : zt_code 84 5 = some (.iaload, 6, 0, 0, []) := rfl
theorem kc84_6 : zt_code 84 6 = some (.iload_n 3, 7, 0, 0, []) := rfl
theorem kc84_7 : zt_code 84 7 = some (.if_icmp .ne 7, 10, 14, 0, []) := rfl
theorem kc84_10 : zt_code 84 10 = some (.iconst 1, 11, 0, 0, []) := rfl
theorem kc84_11 : zt_code 84 11 = some (.goto 4, 14, 15, 0, []) := rfl
theorem kc84_14 : zt_code 84 14 = some (.iconst 0, 15, 0, 0, []) := rfl
theorem kc84_15 : zt_code 84 15 = some (.istore 4, 17, 0, 0, []) := rfl
theorem kc84_17 : zt_code 84 17 = some (.iconst 0, 18, 0, 0, []) := rfl
theorem kc84_18 : zt_code 84 18 = some (.istore 5, 20, 0, 0, []) := rfl
theorem kc84_20 : zt_code 84 20 = some (.iload 5, 22, 0, 0, []) := rfl
theorem kc84_22 : zt_code 84 22 = some (.iload_n 3, 23, 0, 0, []) := rfl
theorem kc84_23 : zt_code 84 23 = some (.if_icmp .ge 50, 26, 73, 0, []) := rfl
theorem kc84_26 : zt_code 84 26 = some (.iload 4, 28, 0, 0, []) := rfl
theorem kc84_28 : zt_code 84 28 = some (.ifCond .eq 45, 31, 73, 0, []) := rfl
theorem kc84_31 : zt_code 84 31 = some (.aload_n 0, 32, 0, 0, []) := rfl
theorem kc84_32 : zt_code 84 32 = some (.getfield 46, 35, 8, 14, []) := rfl
theorem kc84_35 : zt_code 84 35 = some (.sipush 255, 38, 0, 0, []) := rfl
theorem kc84_38 : zt_code 84 38 = some (.iload_n 1, 39, 0, 0, []) := rfl
theorem kc84_39 : zt_code 84 39 = some (.imul, 40, 0, 0, []) := rfl
theorem kc84_40 : zt_code 84 40 = some (.iload 5, 42, 0, 0, []) := rfl
theorem kc84_42 : zt_code 84 42 = some (.iadd, 43, 0, 0, []) := rfl
theorem kc84_43 : zt_code 84 43 = some (.baload, 44, 0, 0, []) := rfl
theorem kc84_44 : zt_code 84 44 = some (.sipush 255, 47, 0, 0, []) := rfl
theorem kc84_47 : zt_code 84 47 = some (.iand, 48, 0, 0, []) := rfl
theorem kc84_48 : zt_code 84 48 = some (.aload_n 0, 49, 0, 0, []) := rfl
theorem kc84_49 : zt_code 84 49 = some (.getfield 50, 52, 8, 15, []) := rfl
theorem kc84_52 : zt_code 84 52 = some (.iload_n 2, 53, 0, 0, []) := rfl
theorem kc84_53 : zt_code 84 53 = some (.iload 5, 55, 0, 0, []) := rfl
theorem kc84_55 : zt_code 84 55 = some (.iadd, 56, 0, 0, []) := rfl
theorem kc84_56 : zt_code 84 56 = some (.iaload, 57, 0, 0, []) := rfl
theorem kc84_57 : zt_code 84 57 = some (.if_icmp .ne 7, 60, 64, 0, []) := rfl
theorem kc84_60 : zt_code 84 60 = some (.iconst 1, 61, 0, 0, []) := rfl
theorem kc84_61 : zt_code 84 61 = some (.goto 4, 64, 65, 0, []) := rfl
theorem kc84_64 : zt_code 84 64 = some (.iconst 0, 65, 0, 0, []) := rfl
theorem kc84_65 : zt_code 84 65 = some (.istore 4, 67, 0, 0, []) := rfl
theorem kc84_67 : zt_code 84 67 = some (.iinc 5 1, 70, 0, 0, []) := rfl
theorem kc84_70 : zt_code 84 70 = some (.goto (-50), 73, 20, 0, []) := rfl
theorem kc84_73 : zt_code 84 73 = some (.iload 4, 75, 0, 0, []) := rfl
theorem kc84_75 : zt_code 84 75 = some (.ireturn, 76, 0, 0, []) := rfl
theorem kc85_0 : zt_code 85 0 = some (.iconst (-1), 1, 0, 0, []) := rfl
theorem kc85_1 : zt_code 85 1 = some (.istore 4, 3, 0, 0, []) := rfl
theorem kc85_3 : zt_code 85 3 = some (.iconst 0, 4, 0, 0, []) := rfl
theorem kc85_4 : zt_code 85 4 = some (.istore 5, 6, 0, 0, []) := rfl
theorem kc85_6 : zt_code 85 6 = some (.iload 5, 8, 0, 0, []) := rfl
theorem kc85_8 : zt_code 85 8 = some (.aload_n 0, 9, 0, 0, []) := rfl
theorem kc85_9 : zt_code 85 9 = some (.getfield 68, 12, 8, 10, []) := rfl
theorem kc85_12 : zt_code 85 12 = some (.if_icmp .ge 40, 15, 52, 0, []) := rfl
theorem kc85_15 : zt_code 85 15 = some (.aload_n 0, 16, 0, 0, []) := rfl
theorem kc85_16 : zt_code 85 16 = some (.getfield 37, 19, 8, 11, []) := rfl
theorem kc85_19 : zt_code 85 19 = some (.iload 5, 21, 0, 0, []) := rfl
theorem kc85_21 : zt_code 85 21 = some (.iaload, 22, 0, 0, []) := rfl
theorem kc85_22 : zt_code 85 22 = some (.iload_n 1, 23, 0, 0, []) := rfl
theorem kc85_23 : zt_code 85 23 = some (.if_icmp .ne 19, 26, 42, 0, []) := rfl
theorem kc85_26 : zt_code 85 26 = some (.aload_n 0, 27, 0, 0, []) := rfl
theorem kc85_27 : zt_code 85 27 = some (.iload 5, 29, 0, 0, []) := rfl
theorem kc85_29 : zt_code 85 29 = some (.iload_n 2, 30, 0, 0, []) := rfl
theorem kc85_30 : zt_code 85 30 = some (.iload_n 3, 31, 0, 0, []) := rfl
theorem kc85_31 : zt_code 85 31 = some (.invokevirtual 71, 34, 84, 3, []) := rfl
theorem kc85_34 : zt_code 85 34 = some (.ifCond .eq 8, 37, 42, 0, []) := rfl
theorem kc85_37 : zt_code 85 37 = some (.iload 5, 39, 0, 0, []) := rfl
theorem kc85_39 : zt_code 85 39 = some (.goto 5, 42, 44, 0, []) := rfl
theorem kc85_42 : zt_code 85 42 = some (.iload 4, 44, 0, 0, []) := rfl
theorem kc85_44 : zt_code 85 44 = some (.istore 4, 46, 0, 0, []) := rfl
theorem kc85_46 : zt_code 85 46 = some (.iinc 5 1, 49, 0, 0, []) := rfl
theorem kc85_49 : zt_code 85 49 = some (.goto (-43), 52, 6, 0, []) := rfl
theorem kc85_52 : zt_code 85 52 = some (.iload 4, 54, 0, 0, []) := rfl
theorem kc85_54 : zt_code 85 54 = some (.ireturn, 55, 0, 0, []) := rfl
theorem kc86_0 : zt_code 86 0 = some (.iload_n 2, 1, 0, 0, []) := rfl
theorem kc86_1 : zt_code 86 1 = some (.aload_n 0, 2, 0, 0, []) := rfl
theorem kc86_2 : zt_code 86 2 = some (.getfield 23, 5, 8, 6, []) := rfl
theorem kc86_5 : zt_code 86 5 = some (.iload_n 1, 6, 0, 0, []) := rfl
theorem kc86_6 : zt_code 86 6 = some (.iaload, 7, 0, 0, []) := rfl
theorem kc86_7 : zt_code 86 7 = some (.if_icmp .le 20, 10, 27, 0, []) := rfl
theorem kc86_10 : zt_code 86 10 = some (.iload_n 2, 11, 0, 0, []) := rfl
theorem kc86_11 : zt_code 86 11 = some (.invokestatic 61, 14, 77, 1, []) := rfl
theorem kc86_14 : zt_code 86 14 = some (.aload_n 0, 15, 0, 0, []) := rfl
theorem kc86_15 : zt_code 86 15 = some (.getfield 23, 18, 8, 6, []) := rfl
theorem kc86_18 : zt_code 86 18 = some (.iload_n 1, 19, 0, 0, []) := rfl
theorem kc86_19 : zt_code 86 19 = some (.iaload, 20, 0, 0, []) := rfl
theorem kc86_20 : zt_code 86 20 = some (.invokestatic 61, 23, 77, 1, []) := rfl
theorem kc86_23 : zt_code 86 23 = some (.isub, 24, 0, 0, []) := rfl
theorem kc86_24 : zt_code 86 24 = some (.goto 4, 27, 28, 0, []) := rfl
theorem kc86_27 : zt_code 86 27 = some (.iconst 0, 28, 0, 0, []) := rfl
theorem kc86_28 : zt_code 86 28 = some (.ireturn, 29, 0, 0, []) := rfl
theorem kc87_0 : zt_code 87 0 = some (.aload_n 0, 1, 0, 0, []) := rfl
theorem kc87_1 : zt_code 87 1 = some (.getfield 37, 4, 8, 11, []) := rfl
theorem kc87_4 : zt_code 87 4 = some (.aload_n 0, 5, 0, 0, []) := rfl
theorem kc87_5 : zt_code 87 5 = some (.getfield 68, 8, 8, 10, []) := rfl
theorem kc87_8 : zt_code 87 8 = some (.aload_n 0, 9, 0, 0, []) := rfl
theorem kc87_9 : zt_code 87 9 = some (.getfield 75, 12, 8, 17, []) := rfl
theorem kc87_12 : zt_code 87 12 = some (.iastore, 13, 0, 0, []) := rfl
theorem kc87_13 : zt_code 87 13 = some (.aload_n 0, 14, 0, 0, []) := rfl
theorem kc87_14 : zt_code 87 14 = some (.getfield 40, 17, 8, 12, []) := rfl
theorem kc87_17 : zt_code 87 17 = some (.aload_n 0, 18, 0, 0, []) := rfl
theorem kc87_18 : zt_code 87 18 = some (.getfield 68, 21, 8, 10, []) := rfl
theorem kc87_21 : zt_code 87 21 = some (.iload_n 1, 22, 0, 0, []) := rfl
theorem kc87_22 : zt_code 87 22 = some (.iastore, 23, 0, 0, []) := rfl
theorem kc87_23 : zt_code 87 23 = some (.aload_n 0, 24, 0, 0, []) := rfl
theorem kc87_24 : zt_code 87 24 = some (.getfield 43, 27, 8, 13, []) := rfl
theorem kc87_27 : zt_code 87 27 = some (.aload_n 0, 28, 0, 0, []) := rfl
theorem kc87_28 : zt_code 87 28 = some (.getfield 68, 31, 8, 10, []) := rfl
theorem kc87_31 : zt_code 87 31 = some (.aload_n 0, 32, 0, 0, []) := rfl
theorem kc87_32 : zt_code 87 32 = some (.getfield 78, 35, 8, 19, []) := rfl
theorem kc87_35 : zt_code 87 35 = some (.iastore, 36, 0, 0, []) := rfl
theorem kc87_36 : zt_code 87 36 = some (.iconst 0, 37, 0, 0, []) := rfl
theorem kc87_37 : zt_code 87 37 = some (.istore_n 2, 38, 0, 0, []) := rfl
theorem kc87_38 : zt_code 87 38 = some (.iload_n 2, 39, 0, 0, []) := rfl
theorem kc87_39 : zt_code 87 39 = some (.aload_n 0, 40, 0, 0, []) := rfl
theorem kc87_40 : zt_code 87 40 = some (.getfield 78, 43, 8, 19, []) := rfl
theorem kc87_43 : zt_code 87 43 = some (.if_icmp .ge 36, 46, 79, 0, []) := rfl
theorem kc87_46 : zt_code 87 46 = some (.aload_n 0, 47, 0, 0, []) := rfl
theorem kc87_47 : zt_code 87 47 = some (.getfield 46, 50, 8, 14, []) := rfl
theorem kc87_50 : zt_code 87 50 = some (.sipush 255, 53, 0, 0, []) := rfl
theorem kc87_53 : zt_code 87 53 = some (.aload_n 0, 54, 0, 0, []) := rfl
theorem kc87_54 : zt_code 87 54 = some (.getfield 68, 57, 8, 10, []) := rfl
theorem kc87_57 : zt_code 87 57 = some (.imul, 58, 0, 0, []) := rfl
theorem kc87_58 : zt_code 87 58 = some (.iload_n 2, 59, 0, 0, []) := rfl
theorem kc87_59 : zt_code 87 59 = some (.iadd, 60, 0, 0, []) := rfl
theorem kc87_60 : zt_code 87 60 = some (.aload_n 0, 61, 0, 0, []) := rfl
theorem kc87_61 : zt_code 87 61 = some (.getfield 50, 64, 8, 15, []) := rfl
theorem kc87_64 : zt_code 87 64 = some (.aload_n 0, 65, 0, 0, []) := rfl
theorem kc87_65 : zt_code 87 65 = some (.getfield 81, 68, 8, 18, []) := rfl
theorem kc87_68 : zt_code 87 68 = some (.iload_n 2, 69, 0, 0, []) := rfl
theorem kc87_69 : zt_code 87 69 = some (.iadd, 70, 0, 0, []) := rfl
theorem kc87_70 : zt_code 87 70 = some (.iaload, 71, 0, 0, []) := rfl
theorem kc87_71 : zt_code 87 71 = some (.i2b, 72, 0, 0, []) := rfl
theorem kc87_72 : zt_code 87 72 = some (.bastore, 73, 0, 0, []) := rfl
theorem kc87_73 : zt_code 87 73 = some (.iinc 2 1, 76, 0, 0, []) := rfl
theorem kc87_76 : zt_code 87 76 = some (.goto (-38), 79, 38, 0, []) := rfl
theorem kc87_79 : zt_code 87 79 = some (.aload_n 0, 80, 0, 0, []) := rfl
theorem kc87_80 : zt_code 87 80 = some (.dup, 81, 0, 0, []) := rfl
theorem kc87_81 : zt_code 87 81 = some (.getfield 68, 84, 8, 10, []) := rfl
theorem kc87_84 : zt_code 87 84 = some (.iconst 1, 85, 0, 0, []) := rfl
theorem kc87_85 : zt_code 87 85 = some (.iadd, 86, 0, 0, []) := rfl
theorem kc87_86 : zt_code 87 86 = some (.putfield 68, 89, 8, 10, []) := rfl
theorem kc87_89 : zt_code 87 89 = some (.aload_n 0, 90, 0, 0, []) := rfl
theorem kc87_90 : zt_code 87 90 = some (.aload_n 0, 91, 0, 0, []) := rfl
theorem kc87_91 : zt_code 87 91 = some (.getfield 75, 94, 8, 17, []) := rfl
theorem kc87_94 : zt_code 87 94 = some (.invokevirtual 84, 97, 82, 1, []) := rfl
theorem kc87_97 : zt_code 87 97 = some (.istore_n 2, 98, 0, 0, []) := rfl
theorem kc87_98 : zt_code 87 98 = some (.aload_n 0, 99, 0, 0, []) := rfl
theorem kc87_99 : zt_code 87 99 = some (.getfield 23, 102, 8, 6, []) := rfl
theorem kc87_102 : zt_code 87 102 = some (.aload_n 0, 103, 0, 0, []) := rfl
theorem kc87_103 : zt_code 87 103 = some (.getfield 75, 106, 8, 17, []) := rfl
theorem kc87_106 : zt_code 87 106 = some (.iload_n 2, 107, 0, 0, []) := rfl
theorem kc87_107 : zt_code 87 107 = some (.aload_n 0, 108, 0, 0, []) := rfl
theorem kc87_108 : zt_code 87 108 = some (.getfield 23, 111, 8, 6, []) := rfl
theorem kc87_111 : zt_code 87 111 = some (.aload_n 0, 112, 0, 0, []) := rfl
theorem kc87_112 : zt_code 87 112 = some (.getfield 75, 115, 8, 17, []) := rfl
theorem kc87_115 : zt_code 87 115 = some (.iaload, 116, 0, 0, []) := rfl
theorem kc87_116 : zt_code 87 116 = some (.if_icmp .le 7, 119, 123, 0, []) := rfl
theorem kc87_119 : zt_code 87 119 = some (.iload_n 2, 120, 0, 0, []) := rfl
theorem kc87_120 : zt_code 87 120 = some (.goto 12, 123, 132, 0, []) := rfl
theorem kc87_123 : zt_code 87 123 = some (.aload_n 0, 124, 0, 0, []) := rfl
theorem kc87_124 : zt_code 87 124 = some (.getfield 23, 127, 8, 6, []) := rfl
theorem kc87_127 : zt_code 87 127 = some (.aload_n 0, 128, 0, 0, []) := rfl
theorem kc87_128 : zt_code 87 128 = some (.getfield 75, 131, 8, 17, []) := rfl
theorem kc87_131 : zt_code 87 131 = some (.iaload, 132, 0, 0, []) := rfl
theorem kc87_132 : zt_code 87 132 = some (.iastore, 133, 0, 0, []) := rfl
theorem kc87_133 : zt_code 87 133 = some (.return_, 134, 0, 0, []) := rfl
theorem kc88_0 : zt_code 88 0 = some (.aload_n 0, 1, 0, 0, []) := rfl
theorem kc88_1 : zt_code 88 1 = some (.getfield 40, 4, 8, 12, []) := rfl
theorem kc88_4 : zt_code 88 4 = some (.iload_n 1, 5, 0, 0, []) := rfl
theorem kc88_5 : zt_code 88 5 = some (.iaload, 6, 0, 0, []) := rfl
theorem kc88_6 : zt_code 88 6 = some (.istore_n 2, 7, 0, 0, []) := rfl
theorem kc88_7 : zt_code 88 7 = some (.aload_n 0, 8, 0, 0, []) := rfl
theorem kc88_8 : zt_code 88 8 = some (.dup, 9, 0, 0, []) := rfl
theorem kc88_9 : zt_code 88 9 = some (.getfield 68, 12, 8, 10, []) := rfl
theorem kc88_12 : zt_code 88 12 = some (.iconst 1, 13, 0, 0, []) := rfl
theorem kc88_13 : zt_code 88 13 = some (.isub, 14, 0, 0, []) := rfl
theorem kc88_14 : zt_code 88 14 = some (.putfield 68, 17, 8, 10, []) := rfl
theorem kc88_17 : zt_code 88 17 = some (.aload_n 0, 18, 0, 0, []) := rfl
theorem kc88_18 : zt_code 88 18 = some (.getfield 37, 21, 8, 11, []) := rfl
theorem kc88_21 : zt_code 88 21 = some (.iload_n 1, 22, 0, 0, []) := rfl
theorem kc88_22 : zt_code 88 22 = some (.aload_n 0, 23, 0, 0, []) := rfl
theorem kc88_23 : zt_code 88 23 = some (.getfield 37, 26, 8, 11, []) := rfl
theorem kc88_26 : zt_code 88 26 = some (.aload_n 0, 27, 0, 0, []) := rfl
theorem kc88_27 : zt_code 88 27 = some (.getfield 68, 30, 8, 10, []) := rfl
theorem kc88_30 : zt_code 88 30 = some (.iaload, 31, 0, 0, []) := rfl
theorem kc88_31 : zt_code 88 31 = some (.iastore, 32, 0, 0, []) := rfl
theorem kc88_32 : zt_code 88 32 = some (.aload_n 0, 33, 0, 0, []) := rfl
theorem kc88_33 : zt_code 88 33 = some (.getfield 40, 36, 8, 12, []) := rfl
theorem kc88_36 : zt_code 88 36 = some (.iload_n 1, 37, 0, 0, []) := rfl
theorem kc88_37 : zt_code 88 37 = some (.aload_n 0, 38, 0, 0, []) := rfl
theorem kc88_38 : zt_code 88 38 = some (.getfield 40, 41, 8, 12, []) := rfl
theorem kc88_41 : zt_code 88 41 = some (.aload_n 0, 42, 0, 0, []) := rfl
theorem kc88_42 : zt_code 88 42 = some (.getfield 68, 45, 8, 10, []) := rfl
theorem kc88_45 : zt_code 88 45 = some (.iaload, 46, 0, 0, []) := rfl
theorem kc88_46 : zt_code 88 46 = some (.iastore, 47, 0, 0, []) := rfl
theorem kc88_47 : zt_code 88 47 = some (.aload_n 0, 48, 0, 0, []) := rfl
theorem kc88_48 : zt_code 88 48 = some (.getfield 43, 51, 8, 13, []) := rfl
theorem kc88_51 : zt_code 88 51 = some (.iload_n 1, 52, 0, 0, []) := rfl
theorem kc88_52 : zt_code 88 52 = some (.aload_n 0, 53, 0, 0, []) := rfl
theorem kc88_53 : zt_code 88 53 = some (.getfield 43, 56, 8, 13, []) := rfl
theorem kc88_56 : zt_code 88 56 = some (.aload_n 0, 57, 0, 0, []) := rfl
theorem kc88_57 : zt_code 88 57 = some (.getfield 68, 60, 8, 10, []) := rfl
theorem kc88_60 : zt_code 88 60 = some (.iaload, 61, 0, 0, []) := rfl
theorem kc88_61 : zt_code 88 61 = some (.iastore, 62, 0, 0, []) := rfl
theorem kc88_62 : zt_code 88 62 = some (.iconst 0, 63, 0, 0, []) := rfl
theorem kc88_63 : zt_code 88 63 = some (.istore_n 3, 64, 0, 0, []) := rfl
theorem kc88_64 : zt_code 88 64 = some (.iload_n 3, 65, 0, 0, []) := rfl
theorem kc88_65 : zt_code 88 65 = some (.sipush 255, 68, 0, 0, []) := rfl
theorem kc88_68 : zt_code 88 68 = some (.if_icmp .ge 36, 71, 104, 0, []) := rfl
theorem kc88_71 : zt_code 88 71 = some (.aload_n 0, 72, 0, 0, []) := rfl
theorem kc88_72 : zt_code 88 72 = some (.getfield 46, 75, 8, 14, []) := rfl
theorem kc88_75 : zt_code 88 75 = some (.sipush 255, 78, 0, 0, []) := rfl
theorem kc88_78 : zt_code 88 78 = some (.iload_n 1, 79, 0, 0, []) := rfl
theorem kc88_79 : zt_code 88 79 = some (.imul, 80, 0, 0, []) := rfl
theorem kc88_80 : zt_code 88 80 = some (.iload_n 3, 81, 0, 0, []) := rfl
theorem kc88_81 : zt_code 88 81 = some (.iadd, 82, 0, 0, []) := rfl
theorem kc88_82 : zt_code 88 82 = some (.aload_n 0, 83, 0, 0, []) := rfl
theorem kc88_83 : zt_code 88 83 = some (.getfield 46, 86, 8, 14, []) := rfl
theorem kc88_86 : zt_code 88 86 = some (.sipush 255, 89, 0, 0, []) := rfl
theorem kc88_89 : zt_code 88 89 = some (.aload_n 0, 90, 0, 0, []) := rfl
theorem kc88_90 : zt_code 88 90 = some (.getfield 68, 93, 8, 10, []) := rfl
theorem kc88_93 : zt_code 88 93 = some (.imul, 94, 0, 0, []) := rfl
theorem kc88_94 : zt_code 88 94 = some (.iload_n 3, 95, 0, 0, []) := rfl
theorem kc88_95 : zt_code 88 95 = some (.iadd, 96, 0, 0, []) := rfl
theorem kc88_96 : zt_code 88 96 = some (.baload, 97, 0, 0, []) := rfl
theorem kc88_97 : zt_code 88 97 = some (.bastore, 98, 0, 0, []) := rfl
theorem kc88_98 : zt_code 88 98 = some (.iinc 3 1, 101, 0, 0, []) := rfl
theorem kc88_101 : zt_code 88 101 = some (.goto (-37), 104, 64, 0, []) := rfl
theorem kc88_104 : zt_code 88 104 = some (.aload_n 0, 105, 0, 0, []) := rfl
theorem kc88_105 : zt_code 88 105 = some (.iload_n 2, 106, 0, 0, []) := rfl
theorem kc88_106 : zt_code 88 106 = some (.invokevirtual 87, 109, 81, 1, []) := rfl
theorem kc88_109 : zt_code 88 109 = some (.ifCond .ne 19, 112, 128, 0, []) := rfl
theorem kc88_112 : zt_code 88 112 = some (.aload_n 0, 113, 0, 0, []) := rfl
theorem kc88_113 : zt_code 88 113 = some (.getfield 26, 116, 8, 7, []) := rfl
theorem kc88_116 : zt_code 88 116 = some (.iload_n 2, 117, 0, 0, []) := rfl
theorem kc88_117 : zt_code 88 117 = some (.iaload, 118, 0, 0, []) := rfl
theorem kc88_118 : zt_code 88 118 = some (.ifCond .ne 10, 121, 128, 0, []) := rfl
theorem kc88_121 : zt_code 88 121 = some (.aload_n 0, 122, 0, 0, []) := rfl
theorem kc88_122 : zt_code 88 122 = some (.getfield 20, 125, 8, 5, []) := rfl
theorem kc88_125 : zt_code 88 125 = some (.iload_n 2, 126, 0, 0, []) := rfl
theorem kc88_126 : zt_code 88 126 = some (.iconst 0, 127, 0, 0, []) := rfl
theorem kc88_127 : zt_code 88 127 = some (.iastore, 128, 0, 0, []) := rfl
theorem kc88_128 : zt_code 88 128 = some (.return_, 129, 0, 0, []) := rfl
theorem kc89_0 : zt_code 89 0 = some (.aload_n 0, 1, 0, 0, []) := rfl
theorem kc89_1 : zt_code 89 1 = some (.getfield 90, 4, 8, 16, []) := rfl
theorem kc89_4 : zt_code 89 4 = some (.istore_n 1, 5, 0, 0, []) := rfl
theorem kc89_5 : zt_code 89 5 = some (.iload_n 1, 6, 0, 0, []) := rfl
theorem kc89_6 : zt_code 89 6 = some (.ldc 49, 8, 0, 0, [(42000, 0)]) := rfl
theorem kc89_8 : zt_code 89 8 = some (.if_icmp .ge 61, 11, 69, 0, []) := rfl
theorem kc89_11 : zt_code 89 11 = some (.iload_n 1, 12, 0, 0, []) := rfl
theorem kc89_12 : zt_code 89 12 = some (.istore_n 2, 13, 0, 0, []) := rfl
theorem kc89_13 : zt_code 89 13 = some (.iload_n 1, 14, 0, 0, []) := rfl
theorem kc89_14 : zt_code 89 14 = some (.ldc 49, 16, 0, 0, [(42000, 0)]) := rfl
theorem kc89_16 : zt_code 89 16 = some (.if_icmp .ge 20, 19, 36, 0, []) := rfl
theorem kc89_19 : zt_code 89 19 = some (.aload_n 0, 20, 0, 0, []) := rfl
theorem kc89_20 : zt_code 89 20 = some (.getfield 50, 23, 8, 15, []) := rfl
theorem kc89_23 : zt_code 89 23 = some (.iload_n 1, 24, 0, 0, []) := rfl
theorem kc89_24 : zt_code 89 24 = some (.iaload, 25, 0, 0, []) := rfl
theorem kc89_25 : zt_code 89 25 = some (.bipush 47, 27, 0, 0, []) := rfl
theorem kc89_27 : zt_code 89 27 = some (.if_icmp .eq 9, 30, 36, 0, []) := rfl
theorem kc89_30 : zt_code 89 30 = some (.iinc 1 1, 33, 0, 0, []) := rfl
theorem kc89_33 : zt_code 89 33 = some (.goto (-20), 36, 13, 0, []) := rfl
theorem kc89_36 : zt_code 89 36 = some (.iload_n 1, 37, 0, 0, []) := rfl
theorem kc89_37 : zt_code 89 37 = some (.iload_n 2, 38, 0, 0, []) := rfl
theorem kc89_38 : zt_code 89 38 = some (.isub, 39, 0, 0, []) := rfl
theorem kc89_39 : zt_code 89 39 = some (.iconst 1, 40, 0, 0, []) := rfl
theorem kc89_40 : zt_code 89 40 = some (.if_icmp .gt 21, 43, 61, 0, []) := rfl
theorem kc89_43 : zt_code 89 43 = some (.iload_n 1, 44, 0, 0, []) := rfl
theorem kc89_44 : zt_code 89 44 = some (.iload_n 2, 45, 0, 0, []) := rfl
theorem kc89_45 : zt_code 89 45 = some (.isub, 46, 0, 0, []) := rfl
theorem kc89_46 : zt_code 89 46 = some (.iconst 1, 47, 0, 0, []) := rfl
theorem kc89_47 : zt_code 89 47 = some (.if_icmp .ne 16, 50, 63, 0, []) := rfl
theorem kc89_50 : zt_code 89 50 = some (.aload_n 0, 51, 0, 0, []) := rfl
theorem kc89_51 : zt_code 89 51 = some (.getfield 50, 54, 8, 15, []) := rfl
theorem kc89_54 : zt_code 89 54 = some (.iload_n 2, 55, 0, 0, []) := rfl
theorem kc89_55 : zt_code 89 55 = some (.iaload, 56, 0, 0, []) := rfl
theorem kc89_56 : zt_code 89 56 = some (.bipush 46, 58, 0, 0, []) := rfl
theorem kc89_58 : zt_code 89 58 = some (.if_icmp .eq 5, 61, 63, 0, []) := rfl
theorem kc89_61 : zt_code 89 61 = some (.iconst 1, 62, 0, 0, []) := rfl
theorem kc89_62 : zt_code 89 62 = some (.ireturn, 63, 0, 0, []) := rfl
theorem kc89_63 : zt_code 89 63 = some (.iinc 1 1, 66, 0, 0, []) := rfl
theorem kc89_66 : zt_code 89 66 = some (.goto (-61), 69, 5, 0, []) := rfl
theorem kc89_69 : zt_code 89 69 = some (.iconst 0, 70, 0, 0, []) := rfl
theorem kc89_70 : zt_code 89 70 = some (.ireturn, 71, 0, 0, []) := rfl
theorem kc90_0 : zt_code 90 0 = some (.aload_n 0, 1, 0, 0, []) := rfl
theorem kc90_1 : zt_code 90 1 = some (.ldc 49, 3, 0, 0, [(42000, 0)]) := rfl
theorem kc90_3 : zt_code 90 3 = some (.iload_n 2, 4, 0, 0, []) := rfl
theorem kc90_4 : zt_code 90 4 = some (.isub, 5, 0, 0, []) := rfl
theorem kc90_5 : zt_code 90 5 = some (.putfield 90, 8, 8, 16, []) := rfl
theorem kc90_8 : zt_code 90 8 = some (.iconst 0, 9, 0, 0, []) := rfl
theorem kc90_9 : zt_code 90 9 = some (.istore 4, 11, 0, 0, []) := rfl
theorem kc90_11 : zt_code 90 11 = some (.iload 4, 13, 0, 0, []) := rfl
theorem kc90_13 : zt_code 90 13 = some (.iload_n 2, 14, 0, 0, []) := rfl
theorem kc90_14 : zt_code 90 14 = some (.if_icmp .ge 30, 17, 44, 0, []) := rfl
theorem kc90_17 : zt_code 90 17 = some (.aload_n 0, 18, 0, 0, []) := rfl
theorem kc90_18 : zt_code 90 18 = some (.getfield 50, 21, 8, 15, []) := rfl
theorem kc90_21 : zt_code 90 21 = some (.aload_n 0, 22, 0, 0, []) := rfl
theorem kc90_22 : zt_code 90 22 = some (.getfield 90, 25, 8, 16, []) := rfl
theorem kc90_25 : zt_code 90 25 = some (.iload 4, 27, 0, 0, []) := rfl
theorem kc90_27 : zt_code 90 27 = some (.iadd, 28, 0, 0, []) := rfl
theorem kc90_28 : zt_code 90 28 = some (.aload_n 0, 29, 0, 0, []) := rfl
theorem kc90_29 : zt_code 90 29 = some (.getfield 17, 32, 8, 4, []) := rfl
theorem kc90_32 : zt_code 90 32 = some (.iload_n 1, 33, 0, 0, []) := rfl
theorem kc90_33 : zt_code 90 33 = some (.iload 4, 35, 0, 0, []) := rfl
theorem kc90_35 : zt_code 90 35 = some (.iadd, 36, 0, 0, []) := rfl
theorem kc90_36 : zt_code 90 36 = some (.iaload, 37, 0, 0, []) := rfl
theorem kc90_37 : zt_code 90 37 = some (.iastore, 38, 0, 0, []) := rfl
theorem kc90_38 : zt_code 90 38 = some (.iinc 4 1, 41, 0, 0, []) := rfl
theorem kc90_41 : zt_code 90 41 = some (.goto (-30), 44, 11, 0, []) := rfl
theorem kc90_44 : zt_code 90 44 = some (.iconst 0, 45, 0, 0, []) := rfl
theorem kc90_45 : zt_code 90 45 = some (.istore 4, 47, 0, 0, []) := rfl
theorem kc90_47 : zt_code 90 47 = some (.aload_n 0, 48, 0, 0, []) := rfl
theorem kc90_48 : zt_code 90 48 = some (.iconst 1, 49, 0, 0, []) := rfl
theorem kc90_49 : zt_code 90 49 = some (.putfield 93, 52, 8, 20, []) := rfl
theorem kc90_52 : zt_code 90 52 = some (.aload_n 0, 53, 0, 0, []) := rfl
theorem kc90_53 : zt_code 90 53 = some (.iconst 1, 54, 0, 0, []) := rfl
theorem kc90_54 : zt_code 90 54 = some (.putfield 96, 57, 8, 21, []) := rfl
theorem kc90_57 : zt_code 90 57 = some (.aload_n 0, 58, 0, 0, []) := rfl
theorem kc90_58 : zt_code 90 58 = some (.invokevirtual 100, 61, 89, 0, []) := rfl
theorem kc90_61 : zt_code 90 61 = some (.ifCond .eq 333, 64, 394, 0, []) := rfl
theorem kc90_64 : zt_code 90 64 = some (.aload_n 0, 65, 0, 0, []) := rfl
theorem kc90_65 : zt_code 90 65 = some (.getfield 50, 68, 8, 15, []) := rfl
theorem kc90_68 : zt_code 90 68 = some (.aload_n 0, 69, 0, 0, []) := rfl
theorem kc90_69 : zt_code 90 69 = some (.getfield 90, 72, 8, 16, []) := rfl
theorem kc90_72 : zt_code 90 72 = some (.iaload, 73, 0, 0, []) := rfl
theorem kc90_73 : zt_code 90 73 = some (.bipush 47, 75, 0, 0, []) := rfl
theorem kc90_75 : zt_code 90 75 = some (.if_icmp .ne 16, 78, 91, 0, []) := rfl
theorem kc90_78 : zt_code 90 78 = some (.aload_n 0, 79, 0, 0, []) := rfl
theorem kc90_79 : zt_code 90 79 = some (.dup, 80, 0, 0, []) := rfl
theorem kc90_80 : zt_code 90 80 = some (.getfield 90, 83, 8, 16, []) := rfl
theorem kc90_83 : zt_code 90 83 = some (.iconst 1, 84, 0, 0, []) := rfl
theorem kc90_84 : zt_code 90 84 = some (.iadd, 85, 0, 0, []) := rfl
theorem kc90_85 : zt_code 90 85 = some (.putfield 90, 88, 8, 16, []) := rfl
theorem kc90_88 : zt_code 90 88 = some (.goto (-31), 91, 57, 0, []) := rfl
theorem kc90_91 : zt_code 90 91 = some (.aload_n 0, 92, 0, 0, []) := rfl
theorem kc90_92 : zt_code 90 92 = some (.aload_n 0, 93, 0, 0, []) := rfl
theorem kc90_93 : zt_code 90 93 = some (.getfield 90, 96, 8, 16, []) := rfl
theorem kc90_96 : zt_code 90 96 = some (.putfield 81, 99, 8, 18, []) := rfl
theorem kc90_99 : zt_code 90 99 = some (.aload_n 0, 100, 0, 0, []) := rfl
theorem kc90_100 : zt_code 90 100 = some (.getfield 90, 103, 8, 16, []) := rfl
theorem kc90_103 : zt_code 90 103 = some (.ldc 49, 105, 0, 0, [(42000, 0)]) := rfl
theorem kc90_105 : zt_code 90 105 = some (.if_icmp .ge 30, 108, 135, 0, []) := rfl
theorem kc90_108 : zt_code 90 108 = some (.aload_n 0, 109, 0, 0, []) := rfl
theorem kc90_109 : zt_code 90 109 = some (.getfield 50, 112, 8, 15, []) := rfl
theorem kc90_112 : zt_code 90 112 = some (.aload_n 0, 113, 0, 0, []) := rfl
theorem kc90_113 : zt_code 90 113 = some (.getfield 90, 116, 8, 16, []) := rfl
theorem kc90_116 : zt_code 90 116 = some (.iaload, 117, 0, 0, []) := rfl
theorem kc90_117 : zt_code 90 117 = some (.bipush 47, 119, 0, 0, []) := rfl
theorem kc90_119 : zt_code 90 119 = some (.if_icmp .eq 16, 122, 135, 0, []) := rfl
theorem kc90_122 : zt_code 90 122 = some (.aload_n 0, 123, 0, 0, []) := rfl
theorem kc90_123 : zt_code 90 123 = some (.dup, 124, 0, 0, []) := rfl
theorem kc90_124 : zt_code 90 124 = some (.getfield 90, 127, 8, 16, []) := rfl
theorem kc90_127 : zt_code 90 127 = some (.iconst 1, 128, 0, 0, []) := rfl
theorem kc90_128 : zt_code 90 128 = some (.iadd, 129, 0, 0, []) := rfl
theorem kc90_129 : zt_code 90 129 = some (.putfield 90, 132, 8, 16, []) := rfl
theorem kc90_132 : zt_code 90 132 = some (.goto (-33), 135, 99, 0, []) := rfl
theorem kc90_135 : zt_code 90 135 = some (.aload_n 0, 136, 0, 0, []) := rfl
theorem kc90_136 : zt_code 90 136 = some (.aload_n 0, 137, 0, 0, []) := rfl
theorem kc90_137 : zt_code 90 137 = some (.getfield 90, 140, 8, 16, []) := rfl
theorem kc90_140 : zt_code 90 140 = some (.aload_n 0, 141, 0, 0, []) := rfl
theorem kc90_141 : zt_code 90 141 = some (.getfield 81, 144, 8, 18, []) := rfl
theorem kc90_144 : zt_code 90 144 = some (.isub, 145, 0, 0, []) := rfl
theorem kc90_145 : zt_code 90 145 = some (.putfield 78, 148, 8, 19, []) := rfl
theorem kc90_148 : zt_code 90 148 = some (.aload_n 0, 149, 0, 0, []) := rfl
theorem kc90_149 : zt_code 90 149 = some (.getfield 78, 152, 8, 19, []) := rfl
set_option maxRecDepth 20000 in
theorem kc90_152 : zt_code 90 152 = some (.iconst 1, 153, 0, 0, []) := rfl
set_option maxRecDepth 20000 in
theorem kc90_153 : zt_code 90 153 = some (.if_icmp .ne 20, 156, 173, 0, []) := rfl
set_option maxRecDepth 20000 in
theorem kc90_156 : zt_code 90 156 = some (.aload_n 0, 157, 0, 0, []) := rfl
set_option maxRecDepth 20000 in
theorem kc90_157 : zt_code 90 157 = some (.getfield 50, 160, 8, 15, []) := rfl
set_option maxRecDepth 20000 in
theorem kc90_160 : zt_code 90 160 = some (.aload_n 0, 161, 0, 0, []) := rfl
set_option maxRecDepth 20000 in
theorem kc90_161 : zt_code 90 161 = some (.getfield 81, 164, 8, 18, []) := rfl
set_option maxRecDepth 20000 in
theorem kc90_164 : zt_code 90 164 = some (.iaload, 165, 0, 0, []) := rfl
set_option maxRecDepth 20000 in
theorem kc90_165 : zt_code 90 165 = some (.bipush 46, 167, 0, 0, []) := rfl
set_option maxRecDepth 20000 in
theorem kc90_167 : zt_code 90 167 = some (.if_icmp .ne 6, 170, 173, 0, []) := rfl
set_option maxRecDepth 20000 in
theorem kc90_170 : zt_code 90 170 = some (.goto (-113), 173, 57, 0, []) := rfl
set_option maxRecDepth 20000 in
theorem kc90_173 : zt_code 90 173 = some (.aload_n 0, 174, 0, 0, []) := rfl
set_option maxRecDepth 20000 in
theorem kc90_174 : zt_code 90 174 = some (.getfield 78, 177, 8, 19, []) := rfl
set_option maxRecDepth 20000 in
theorem kc90_177 : zt_code 90 177 = some (.sipush 255, 180, 0, 0, []) := rfl
set_option maxRecDepth 20000 in
theorem kc90_180 : zt_code 90 180 = some (.if_icmp .le 6, 183, 186, 0, []) := rfl
set_option maxRecDepth 20000 in
theorem kc90_183 : zt_code 90 183 = some (.bipush (-9), 185, 0, 0, []) := rfl
set_option maxRecDepth 20000 in
theorem kc90_185 : zt_code 90 185 = some (.ireturn, 186, 0, 0, []) := rfl
set_option maxRecDepth 20000 in
theorem kc90_186 : zt_code 90 186 = some (.aload_n 0, 187, 0, 0, []) := rfl
set_option maxRecDepth 20000 in
theorem kc90_187 : zt_code 90 187 = some (.getfield 20, 190, 8, 5, []) := rfl
set_option maxRecDepth 20000 in
theorem kc90_190 : zt_code 90 190 = some (.aload_n 0, 191, 0, 0, []) := rfl
set_option maxRecDepth 20000 in
theorem kc90_191 : zt_code 90 191 = some (.getfield 93, 194, 8, 20, []) := rfl
set_option maxRecDepth 20000 in
theorem kc90_194 : zt_code 90 194 = some (.iaload, 195, 0, 0, []) := rfl
set_option maxRecDepth 20000 in
theorem kc90_195 : zt_code 90 195 = some (.iconst 2, 196, 0, 0, []) := rfl
set_option maxRecDepth 20000 in
theorem kc90_196 : zt_code 90 196 = some (.if_icmp .eq 6, 199, 202, 0, []) := rfl
set_option maxRecDepth 20000 in
theorem kc90_199 : zt_code 90 199 = some (.bipush (-4), 201, 0, 0, []) := rfl
set_option maxRecDepth 20000 in
theorem kc90_201 : zt_code 90 201 = some (.ireturn, 202, 0, 0, []) := rfl
set_option maxRecDepth 20000 in
theorem kc90_202 : zt_code 90 202 = some (.aload_n 0, 203, 0, 0, []) := rfl
set_option maxRecDepth 20000 in
theorem kc90_203 : zt_code 90 203 = some (.invokevirtual 100, 206, 89, 0, []) := rfl
set_option maxRecDepth 20000 in
theorem kc90_206 : zt_code 90 206 = some (.ifCond .ne 7, 209, 213, 0, []) := rfl
set_option maxRecDepth 20000 in
theorem kc90_209 : zt_code 90 209 = some (.iconst 1, 210, 0, 0, []) := rfl
set_option maxRecDepth 20000 in
theorem kc90_210 : zt_code 90 210 = some (.goto 4, 213, 214, 0, []) := rfl
set_option maxRecDepth 20000 in
theorem kc90_213 : zt_code 90 213 = some (.iconst 0, 214, 0, 0, []) := rfl
set_option maxRecDepth 20000 in
theorem kc90_214 : zt_code 90 214 = some (.istore 5, 216, 0, 0, []) := rfl
set_option maxRecDepth 20000 in
theorem kc90_216 : zt_code 90 216 = some (.aload_n 0, 217, 0, 0, []) := rfl
set_option maxRecDepth 20000 in
theorem kc90_217 : zt_code 90 217 = some (.aload_n 0, 218, 0, 0, []) := rfl
set_option maxRecDepth 20000 in
theorem kc90_218 : zt_code 90 218 = some (.getfield 78, 221, 8, 19, []) := rfl
set_option maxRecDepth 20000 in
theorem kc90_221 : zt_code 90 221 = some (.iconst 2, 222, 0, 0, []) := rfl
set_option maxRecDepth 20000 in
theorem kc90_222 : zt_code 90 222 = some (.if_icmp .ne 37, 225, 259, 0, []) := rfl
set_option maxRecDepth 20000 in
theorem kc90_225 : zt_code 90 225 = some (.aload_n 0, 226, 0, 0, []) := rfl
set_option maxRecDepth 20000 in
theorem kc90_226 : zt_code 90 226 = some (.getfield 50, 229, 8, 15, []) := rfl
set_option maxRecDepth 20000 in
theorem kc90_229 : zt_code 90 229 = some (.aload_n 0, 230, 0, 0, []) := rfl
set_option maxRecDepth 20000 in
theorem kc90_230 : zt_code 90 230 = some (.getfield 81, 233, 8, 18, []) := rfl
set_option maxRecDepth 20000 in
theorem kc90_233 : zt_code 90 233 = some (.iaload, 234, 0, 0, []) := rfl
set_option maxRecDepth 20000 in
theorem kc90_234 : zt_code 90 234 = some (.bipush 46, 236, 0, 0, []) := rfl
set_option maxRecDepth 20000 in
theorem kc90_236 : zt_code 90 236 = some (.if_icmp .ne 23, 239, 259, 0, []) := rfl
set_option maxRecDepth 20000 in
theorem kc90_239 : zt_code 90 239 = some (.aload_n 0, 240, 0, 0, []) := rfl
set_option maxRecDepth 20000 in
theorem kc90_240 : zt_code 90 240 = some (.getfield 50, 243, 8, 15, []) := rfl
set_option maxRecDepth 20000 in
theorem kc90_243 : zt_code 90 243 = some (.aload_n 0, 244, 0, 0, []) := rfl
set_option maxRecDepth 20000 in
theorem kc90_244 : zt_code 90 244 = some (.getfield 81, 247, 8, 18, []) := rfl
set_option maxRecDepth 20000 in
theorem kc90_247 : zt_code 90 247 = some (.iconst 1, 248, 0, 0, []) := rfl
set_option maxRecDepth 20000 in
theorem kc90_248 : zt_code 90 248 = some (.iadd, 249, 0, 0, []) := rfl
set_option maxRecDepth 20000 in
theorem kc90_249 : zt_code 90 249 = some (.iaload, 250, 0, 0, []) := rfl
set_option maxRecDepth 20000 in
theorem kc90_250 : zt_code 90 250 = some (.bipush 46, 252, 0, 0, []) := rfl
set_option maxRecDepth 20000 in
theorem kc90_252 : zt_code 90 252 = some (.if_icmp .ne 7, 255, 259, 0, []) := rfl
set_option maxRecDepth 20000 in
theorem kc90_255 : zt_code 90 255 = some (.iconst 1, 256, 0, 0, []) := rfl
set_option maxRecDepth 20000 in
theorem kc90_256 : zt_code 90 256 = some (.goto 4, 259, 260, 0, []) := rfl
set_option maxRecDepth 20000 in
theorem kc90_259 : zt_code 90 259 = some (.iconst 0, 260, 0, 0, []) := rfl
set_option maxRecDepth 20000 in
theorem kc90_260 : zt_code 90 260 = some (.putfield 96, 263, 8, 21, []) := rfl
set_option maxRecDepth 20000 in
theorem kc90_263 : zt_code 90 263 = some (.aload_n 0, 264, 0, 0, []) := rfl
set_option maxRecDepth 20000 in
theorem kc90_264 : zt_code 90 264 = some (.getfield 96, 267, 8, 21, []) := rfl
set_option maxRecDepth 20000 in
theorem kc90_267 : zt_code 90 267 = some (.ifCond .eq 18, 270, 285, 0, []) := rfl
set_option maxRecDepth 20000 in
theorem kc90_270 : zt_code 90 270 = some (.aload_n 0, 271, 0, 0, []) := rfl
set_option maxRecDepth 20000 in
theorem kc90_271 : zt_code 90 271 = some (.aload_n 0, 272, 0, 0, []) := rfl
set_option maxRecDepth 20000 in
theorem kc90_272 : zt_code 90 272 = some (.aload_n 0, 273, 0, 0, []) := rfl
set_option maxRecDepth 20000 in
theorem kc90_273 : zt_code 90 273 = some (.getfield 93, 276, 8, 20, []) := rfl
set_option maxRecDepth 20000 in
theorem kc90_276 : zt_code 90 276 = some (.invokevirtual 104, 279, 83, 1, []) := rfl
set_option maxRecDepth 20000 in
theorem kc90_279 : zt_code 90 279 = some (.putfield 93, 282, 8, 20, []) := rfl
set_option maxRecDepth 20000 in
theorem kc90_282 : zt_code 90 282 = some (.goto (-225), 285, 57, 0, []) := rfl
set_option maxRecDepth 20000 in
theorem kc90_285 : zt_code 90 285 = some (.aload_n 0, 286, 0, 0, []) := rfl
set_option maxRecDepth 20000 in
theorem kc90_286 : zt_code 90 286 = some (.aload_n 0, 287, 0, 0, []) := rfl
set_option maxRecDepth 20000 in
theorem kc90_287 : zt_code 90 287 = some (.getfield 93, 290, 8, 20, []) := rfl
set_option maxRecDepth 20000 in
theorem kc90_290 : zt_code 90 290 = some (.putfield 75, 293, 8, 17, []) := rfl
set_option maxRecDepth 20000 in
theorem kc90_293 : zt_code 90 293 = some (.aload_n 0, 294, 0, 0, []) := rfl
set_option maxRecDepth 20000 in
theorem kc90_294 : zt_code 90 294 = some (.aload_n 0, 295, 0, 0, []) := rfl
set_option maxRecDepth 20000 in
theorem kc90_295 : zt_code 90 295 = some (.getfield 75, 298, 8, 17, []) := rfl
set_option maxRecDepth 20000 in
theorem kc90_298 : zt_code 90 298 = some (.aload_n 0, 299, 0, 0, []) := rfl
set_option maxRecDepth 20000 in
theorem kc90_299 : zt_code 90 299 = some (.getfield 81, 302, 8, 18, []) := rfl
set_option maxRecDepth 20000 in
theorem kc90_302 : zt_code 90 302 = some (.aload_n 0, 303, 0, 0, []) := rfl
set_option maxRecDepth 20000 in
theorem kc90_303 : zt_code 90 303 = some (.getfield 78, 306, 8, 19, []) := rfl
set_option maxRecDepth 20000 in
theorem kc90_306 : zt_code 90 306 = some (.invokevirtual 107, 309, 85, 3, []) := rfl
set_option maxRecDepth 20000 in
theorem kc90_309 : zt_code 90 309 = some (.istore 6, 311, 0, 0, []) := rfl
set_option maxRecDepth 20000 in
theorem kc90_311 : zt_code 90 311 = some (.aload_n 0, 312, 0, 0, []) := rfl
set_option maxRecDepth 20000 in
theorem kc90_312 : zt_code 90 312 = some (.iload 6, 314, 0, 0, []) := rfl
set_option maxRecDepth 20000 in
theorem kc90_314 : zt_code 90 314 = some (.ifCond .ge 7, 317, 321, 0, []) := rfl
set_option maxRecDepth 20000 in
theorem kc90_317 : zt_code 90 317 = some (.iconst 0, 318, 0, 0, []) := rfl
set_option maxRecDepth 20000 in
theorem kc90_318 : zt_code 90 318 = some (.goto 10, 321, 328, 0, []) := rfl
set_option maxRecDepth 20000 in
theorem kc90_321 : zt_code 90 321 = some (.aload_n 0, 322, 0, 0, []) := rfl
set_option maxRecDepth 20000 in
theorem kc90_322 : zt_code 90 322 = some (.getfield 40, 325, 8, 12, []) := rfl
set_option maxRecDepth 20000 in
theorem kc90_325 : zt_code 90 325 = some (.iload 6, 327, 0, 0, []) := rfl
set_option maxRecDepth 20000 in
theorem kc90_327 : zt_code 90 327 = some (.iaload, 328, 0, 0, []) := rfl
set_option maxRecDepth 20000 in
theorem kc90_328 : zt_code 90 328 = some (.putfield 93, 331, 8, 20, []) := rfl
set_option maxRecDepth 20000 in
theorem kc90_331 : zt_code 90 331 = some (.iload 6, 333, 0, 0, []) := rfl
set_option maxRecDepth 20000 in
theorem kc90_333 : zt_code 90 333 = some (.ifCond .ge 15, 336, 348, 0, []) := rfl
set_option maxRecDepth 20000 in
theorem kc90_336 : zt_code 90 336 = some (.iload 5, 338, 0, 0, []) := rfl
set_option maxRecDepth 20000 in
theorem kc90_338 : zt_code 90 338 = some (.ifCond .eq 7, 341, 345, 0, []) := rfl
set_option maxRecDepth 20000 in
theorem kc90_341 : zt_code 90 341 = some (.iconst 0, 342, 0, 0, []) := rfl
set_option maxRecDepth 20000 in
theorem kc90_342 : zt_code 90 342 = some (.goto 5, 345, 347, 0, []) := rfl
set_option maxRecDepth 20000 in
theorem kc90_345 : zt_code 90 345 = some (.bipush (-2), 347, 0, 0, []) := rfl
set_option maxRecDepth 20000 in
theorem kc90_347 : zt_code 90 347 = some (.ireturn, 348, 0, 0, []) := rfl
set_option maxRecDepth 20000 in
theorem kc90_348 : zt_code 90 348 = some (.aload_n 0, 349, 0, 0, []) := rfl
set_option maxRecDepth 20000 in
theorem kc90_349 : zt_code 90 349 = some (.getfield 20, 352, 8, 5, []) := rfl
set_option maxRecDepth 20000 in
theorem kc90_352 : zt_code 90 352 = some (.aload_n 0, 353, 0, 0, []) := rfl
set_option maxRecDepth 20000 in
theorem kc90_353 : zt_code 90 353 = some (.getfield 93, 356, 8, 20, []) := rfl
set_option maxRecDepth 20000 in
theorem kc90_356 : zt_code 90 356 = some (.iaload, 357, 0, 0, []) := rfl
set_option maxRecDepth 20000 in
theorem kc90_357 : zt_code 90 357 = some (.iconst 3, 358, 0, 0, []) := rfl
set_option maxRecDepth 20000 in
theorem kc90_358 : zt_code 90 358 = some (.if_icmp .ne 33, 361, 391, 0, []) := rfl
set_option maxRecDepth 20000 in
theorem kc90_361 : zt_code 90 361 = some (.iload 5, 363, 0, 0, []) := rfl
set_option maxRecDepth 20000 in
theorem kc90_363 : zt_code 90 363 = some (.ifCond .eq 7, 366, 370, 0, []) := rfl
set_option maxRecDepth 20000 in
theorem kc90_366 : zt_code 90 366 = some (.iload_n 3, 367, 0, 0, []) := rfl
set_option maxRecDepth 20000 in
theorem kc90_367 : zt_code 90 367 = some (.ifCond .eq 24, 370, 391, 0, []) := rfl
set_option maxRecDepth 20000 in
theorem kc90_370 : zt_code 90 370 = some (.iload 4, 372, 0, 0, []) := rfl
set_option maxRecDepth 20000 in
theorem kc90_372 : zt_code 90 372 = some (.bipush 40, 374, 0, 0, []) := rfl
set_option maxRecDepth 20000 in
theorem kc90_374 : zt_code 90 374 = some (.if_icmp .ne 6, 377, 380, 0, []) := rfl
set_option maxRecDepth 20000 in
theorem kc90_377 : zt_code 90 377 = some (.bipush (-8), 379, 0, 0, []) := rfl
set_option maxRecDepth 20000 in
theorem kc90_379 : zt_code 90 379 = some (.ireturn, 380, 0, 0, []) := rfl
set_option maxRecDepth 20000 in
theorem kc90_380 : zt_code 90 380 = some (.iinc 4 1, 383, 0, 0, []) := rfl
set_option maxRecDepth 20000 in
theorem kc90_383 : zt_code 90 383 = some (.aload_n 0, 384, 0, 0, []) := rfl
set_option maxRecDepth 20000 in
theorem kc90_384 : zt_code 90 384 = some (.aload_n 0, 385, 0, 0, []) := rfl
set_option maxRecDepth 20000 in
theorem kc90_385 : zt_code 90 385 = some (.getfield 93, 388, 8, 20, []) := rfl
set_option maxRecDepth 20000 in
theorem kc90_388 : zt_code 90 388 = some (.invokevirtual 111, 391, 91, 1, []) := rfl
set_option maxRecDepth 20000 in
theorem kc90_391 : zt_code 90 391 = some (.goto (-334), 394, 57, 0, []) := rfl
set_option maxRecDepth 20000 in
theorem kc90_394 : zt_code 90 394 = some (.iconst 0, 395, 0, 0, []) := rfl
set_option maxRecDepth 20000 in
theorem kc90_395 : zt_code 90 395 = some (.ireturn, 396, 0, 0, []) := rfl
theorem kc91_0 : zt_code 91 0 = some (.aload_n 0, 1, 0, 0, []) := rfl
theorem kc91_1 : zt_code 91 1 = some (.dup, 2, 0, 0, []) := rfl
theorem kc91_2 : zt_code 91 2 = some (.getfield 90, 5, 8, 16, []) := rfl
theorem kc91_5 : zt_code 91 5 = some (.iconst 1, 6, 0, 0, []) := rfl
theorem kc91_6 : zt_code 91 6 = some (.isub, 7, 0, 0, []) := rfl
theorem kc91_7 : zt_code 91 7 = some (.putfield 90, 10, 8, 16, []) := rfl
theorem kc91_10 : zt_code 91 10 = some (.aload_n 0, 11, 0, 0, []) := rfl
theorem kc91_11 : zt_code 91 11 = some (.getfield 50, 14, 8, 15, []) := rfl
theorem kc91_14 : zt_code 91 14 = some (.aload_n 0, 15, 0, 0, []) := rfl
theorem kc91_15 : zt_code 91 15 = some (.getfield 90, 18, 8, 16, []) := rfl
theorem kc91_18 : zt_code 91 18 = some (.bipush 47, 20, 0, 0, []) := rfl
theorem kc91_20 : zt_code 91 20 = some (.iastore, 21, 0, 0, []) := rfl
theorem kc91_21 : zt_code 91 21 = some (.aload_n 0, 22, 0, 0, []) := rfl
theorem kc91_22 : zt_code 91 22 = some (.dup, 23, 0, 0, []) := rfl
theorem kc91_23 : zt_code 91 23 = some (.getfield 90, 26, 8, 16, []) := rfl
theorem kc91_26 : zt_code 91 26 = some (.aload_n 0, 27, 0, 0, []) := rfl
theorem kc91_27 : zt_code 91 27 = some (.getfield 29, 30, 8, 8, []) := rfl
theorem kc91_30 : zt_code 91 30 = some (.iload_n 1, 31, 0, 0, []) := rfl
theorem kc91_31 : zt_code 91 31 = some (.iaload, 32, 0, 0, []) := rfl
theorem kc91_32 : zt_code 91 32 = some (.isub, 33, 0, 0, []) := rfl
theorem kc91_33 : zt_code 91 33 = some (.putfield 90, 36, 8, 16, []) := rfl
theorem kc91_36 : zt_code 91 36 = some (.iconst 0, 37, 0, 0, []) := rfl
theorem kc91_37 : zt_code 91 37 = some (.istore_n 2, 38, 0, 0, []) := rfl
theorem kc91_38 : zt_code 91 38 = some (.iload_n 2, 39, 0, 0, []) := rfl
theorem kc91_39 : zt_code 91 39 = some (.aload_n 0, 40, 0, 0, []) := rfl
theorem kc91_40 : zt_code 91 40 = some (.getfield 29, 43, 8, 8, []) := rfl
theorem kc91_43 : zt_code 91 43 = some (.iload_n 1, 44, 0, 0, []) := rfl
theorem kc91_44 : zt_code 91 44 = some (.iaload, 45, 0, 0, []) := rfl
theorem kc91_45 : zt_code 91 45 = some (.if_icmp .ge 36, 48, 81, 0, []) := rfl
theorem kc91_48 : zt_code 91 48 = some (.aload_n 0, 49, 0, 0, []) := rfl
theorem kc91_49 : zt_code 91 49 = some (.getfield 50, 52, 8, 15, []) := rfl
theorem kc91_52 : zt_code 91 52 = some (.aload_n 0, 53, 0, 0, []) := rfl
theorem kc91_53 : zt_code 91 53 = some (.getfield 90, 56, 8, 16, []) := rfl
theorem kc91_56 : zt_code 91 56 = some (.iload_n 2, 57, 0, 0, []) := rfl
theorem kc91_57 : zt_code 91 57 = some (.iadd, 58, 0, 0, []) := rfl
theorem kc91_58 : zt_code 91 58 = some (.aload_n 0, 59, 0, 0, []) := rfl
theorem kc91_59 : zt_code 91 59 = some (.getfield 33, 62, 8, 9, []) := rfl
theorem kc91_62 : zt_code 91 62 = some (.sipush 1000, 65, 0, 0, []) := rfl
theorem kc91_65 : zt_code 91 65 = some (.iload_n 1, 66, 0, 0, []) := rfl
theorem kc91_66 : zt_code 91 66 = some (.imul, 67, 0, 0, []) := rfl
theorem kc91_67 : zt_code 91 67 = some (.iload_n 2, 68, 0, 0, []) := rfl
theorem kc91_68 : zt_code 91 68 = some (.iadd, 69, 0, 0, []) := rfl
theorem kc91_69 : zt_code 91 69 = some (.baload, 70, 0, 0, []) := rfl
theorem kc91_70 : zt_code 91 70 = some (.sipush 255, 73, 0, 0, []) := rfl
theorem kc91_73 : zt_code 91 73 = some (.iand, 74, 0, 0, []) := rfl
theorem kc91_74 : zt_code 91 74 = some (.iastore, 75, 0, 0, []) := rfl
theorem kc91_75 : zt_code 91 75 = some (.iinc 2 1, 78, 0, 0, []) := rfl
theorem kc91_78 : zt_code 91 78 = some (.goto (-40), 81, 38, 0, []) := rfl
theorem kc91_81 : zt_code 91 81 = some (.aload_n 0, 82, 0, 0, []) := rfl
theorem kc91_82 : zt_code 91 82 = some (.aload_n 0, 83, 0, 0, []) := rfl
theorem kc91_83 : zt_code 91 83 = some (.getfield 50, 86, 8, 15, []) := rfl
theorem kc91_86 : zt_code 91 86 = some (.aload_n 0, 87, 0, 0, []) := rfl
theorem kc91_87 : zt_code 91 87 = some (.getfield 90, 90, 8, 16, []) := rfl
theorem kc91_90 : zt_code 91 90 = some (.iaload, 91, 0, 0, []) := rfl
theorem kc91_91 : zt_code 91 91 = some (.bipush 47, 93, 0, 0, []) := rfl
theorem kc91_93 : zt_code 91 93 = some (.if_icmp .ne 7, 96, 100, 0, []) := rfl
theorem kc91_96 : zt_code 91 96 = some (.iconst 1, 97, 0, 0, []) := rfl
theorem kc91_97 : zt_code 91 97 = some (.goto 7, 100, 104, 0, []) := rfl
theorem kc91_100 : zt_code 91 100 = some (.aload_n 0, 101, 0, 0, []) := rfl
theorem kc91_101 : zt_code 91 101 = some (.getfield 75, 104, 8, 17, []) := rfl
theorem kc91_104 : zt_code 91 104 = some (.putfield 93, 107, 8, 20, []) := rfl
theorem kc91_107 : zt_code 91 107 = some (.aload_n 0, 108, 0, 0, []) := rfl
theorem kc91_108 : zt_code 91 108 = some (.iconst 1, 109, 0, 0, []) := rfl
theorem kc91_109 : zt_code 91 109 = some (.putfield 96, 112, 8, 21, []) := rfl
theorem kc91_112 : zt_code 91 112 = some (.return_, 113, 0, 0, []) := rfl
theorem kc92_0 : zt_code 92 0 = some (.aload_n 0, 1, 0, 0, []) := rfl
theorem kc92_1 : zt_code 92 1 = some (.iload_n 1, 2, 0, 0, []) := rfl
theorem kc92_2 : zt_code 92 2 = some (.iload_n 2, 3, 0, 0, []) := rfl
theorem kc92_3 : zt_code 92 3 = some (.iconst 0, 4, 0, 0, []) := rfl
theorem kc92_4 : zt_code 92 4 = some (.invokevirtual 115, 7, 90, 3, []) := rfl
theorem kc92_7 : zt_code 92 7 = some (.istore_n 3, 8, 0, 0, []) := rfl
theorem kc92_8 : zt_code 92 8 = some (.iload_n 3, 9, 0, 0, []) := rfl
theorem kc92_9 : zt_code 92 9 = some (.ifCond .ge 7, 12, 16, 0, []) := rfl
theorem kc92_12 : zt_code 92 12 = some (.iload_n 3, 13, 0, 0, []) := rfl
theorem kc92_13 : zt_code 92 13 = some (.goto 15, 16, 28, 0, []) := rfl
theorem kc92_16 : zt_code 92 16 = some (.aload_n 0, 17, 0, 0, []) := rfl
theorem kc92_17 : zt_code 92 17 = some (.getfield 96, 20, 8, 21, []) := rfl
theorem kc92_20 : zt_code 92 20 = some (.ifCond .eq 7, 23, 27, 0, []) := rfl
theorem kc92_23 : zt_code 92 23 = some (.iconst (-1), 24, 0, 0, []) := rfl
theorem kc92_24 : zt_code 92 24 = some (.goto 4, 27, 28, 0, []) := rfl
theorem kc92_27 : zt_code 92 27 = some (.iconst 0, 28, 0, 0, []) := rfl
theorem kc92_28 : zt_code 92 28 = some (.ireturn, 29, 0, 0, []) := rfl
theorem kc93_0 : zt_code 93 0 = some (.iload_n 1, 1, 0, 0, []) := rfl
theorem kc93_1 : zt_code 93 1 = some (.sipush 200, 4, 0, 0, []) := rfl
theorem kc93_4 : zt_code 93 4 = some (.if_icmp .gt 11, 7, 15, 0, []) := rfl
theorem kc93_7 : zt_code 93 7 = some (.iload_n 1, 8, 0, 0, []) := rfl
theorem kc93_8 : zt_code 93 8 = some (.aload_n 0, 9, 0, 0, []) := rfl
theorem kc93_9 : zt_code 93 9 = some (.invokevirtual 119, 12, 79, 0, []) := rfl
theorem kc93_12 : zt_code 93 12 = some (.if_icmp .ge 5, 15, 17, 0, []) := rfl
theorem kc93_15 : zt_code 93 15 = some (.iconst (-1), 16, 0, 0, []) := rfl
theorem kc93_16 : zt_code 93 16 = some (.ireturn, 17, 0, 0, []) := rfl
theorem kc93_17 : zt_code 93 17 = some (.aload_n 0, 18, 0, 0, []) := rfl
theorem kc93_18 : zt_code 93 18 = some (.iload_n 1, 19, 0, 0, []) := rfl
theorem kc93_19 : zt_code 93 19 = some (.putfield 7, 22, 8, 0, []) := rfl
theorem kc93_22 : zt_code 93 22 = some (.aload_n 0, 23, 0, 0, []) := rfl
theorem kc93_23 : zt_code 93 23 = some (.getfield 7, 26, 8, 0, []) := rfl
theorem kc93_26 : zt_code 93 26 = some (.aload_n 0, 27, 0, 0, []) := rfl
theorem kc93_27 : zt_code 93 27 = some (.invokevirtual 119, 30, 79, 0, []) := rfl
theorem kc93_30 : zt_code 93 30 = some (.isub, 31, 0, 0, []) := rfl
theorem kc93_31 : zt_code 93 31 = some (.ireturn, 32, 0, 0, []) := rfl
theorem kc94_0 : zt_code 94 0 = some (.iconst 2, 1, 0, 0, []) := rfl
theorem kc94_1 : zt_code 94 1 = some (.istore_n 3, 2, 0, 0, []) := rfl
theorem kc94_2 : zt_code 94 2 = some (.iload_n 3, 3, 0, 0, []) := rfl
theorem kc94_3 : zt_code 94 3 = some (.bipush 40, 5, 0, 0, []) := rfl
theorem kc94_5 : zt_code 94 5 = some (.if_icmp .gt 18, 8, 23, 0, []) := rfl
theorem kc94_8 : zt_code 94 8 = some (.aload_n 0, 9, 0, 0, []) := rfl
theorem kc94_9 : zt_code 94 9 = some (.getfield 20, 12, 8, 5, []) := rfl
theorem kc94_12 : zt_code 94 12 = some (.iload_n 3, 13, 0, 0, []) := rfl
theorem kc94_13 : zt_code 94 13 = some (.iaload, 14, 0, 0, []) := rfl
theorem kc94_14 : zt_code 94 14 = some (.ifCond .le 9, 17, 23, 0, []) := rfl
theorem kc94_17 : zt_code 94 17 = some (.iinc 3 1, 20, 0, 0, []) := rfl
theorem kc94_20 : zt_code 94 20 = some (.goto (-18), 23, 2, 0, []) := rfl
theorem kc94_23 : zt_code 94 23 = some (.iload_n 3, 24, 0, 0, []) := rfl
theorem kc94_24 : zt_code 94 24 = some (.bipush 40, 26, 0, 0, []) := rfl
theorem kc94_26 : zt_code 94 26 = some (.if_icmp .gt 44, 29, 70, 0, []) := rfl
theorem kc94_29 : zt_code 94 29 = some (.aload_n 0, 30, 0, 0, []) := rfl
theorem kc94_30 : zt_code 94 30 = some (.getfield 68, 33, 8, 10, []) := rfl
theorem kc94_33 : zt_code 94 33 = some (.bipush 60, 35, 0, 0, []) := rfl
theorem kc94_35 : zt_code 94 35 = some (.if_icmp .eq 35, 38, 70, 0, []) := rfl
theorem kc94_38 : zt_code 94 38 = some (.aload_n 0, 39, 0, 0, []) := rfl
theorem kc94_39 : zt_code 94 39 = some (.invokevirtual 119, 42, 79, 0, []) := rfl
theorem kc94_42 : zt_code 94 42 = some (.iload_n 2, 43, 0, 0, []) := rfl
theorem kc94_43 : zt_code 94 43 = some (.iadd, 44, 0, 0, []) := rfl
theorem kc94_44 : zt_code 94 44 = some (.aload_n 0, 45, 0, 0, []) := rfl
theorem kc94_45 : zt_code 94 45 = some (.aload_n 0, 46, 0, 0, []) := rfl
theorem kc94_46 : zt_code 94 46 = some (.getfield 75, 49, 8, 17, []) := rfl
theorem kc94_49 : zt_code 94 49 = some (.aload_n 0, 50, 0, 0, []) := rfl
theorem kc94_50 : zt_code 94 50 = some (.aload_n 0, 51, 0, 0, []) := rfl
theorem kc94_51 : zt_code 94 51 = some (.getfield 75, 54, 8, 17, []) := rfl
theorem kc94_54 : zt_code 94 54 = some (.invokevirtual 84, 57, 82, 1, []) := rfl
theorem kc94_57 : zt_code 94 57 = some (.iconst 1, 58, 0, 0, []) := rfl
theorem kc94_58 : zt_code 94 58 = some (.iadd, 59, 0, 0, []) := rfl
theorem kc94_59 : zt_code 94 59 = some (.invokevirtual 123, 62, 86, 2, []) := rfl
theorem kc94_62 : zt_code 94 62 = some (.iadd, 63, 0, 0, []) := rfl
theorem kc94_63 : zt_code 94 63 = some (.aload_n 0, 64, 0, 0, []) := rfl
theorem kc94_64 : zt_code 94 64 = some (.getfield 7, 67, 8, 0, []) := rfl
theorem kc94_67 : zt_code 94 67 = some (.if_icmp .le 6, 70, 73, 0, []) := rfl
theorem kc94_70 : zt_code 94 70 = some (.bipush (-7), 72, 0, 0, []) := rfl
theorem kc94_72 : zt_code 94 72 = some (.ireturn, 73, 0, 0, []) := rfl
theorem kc94_73 : zt_code 94 73 = some (.aload_n 0, 74, 0, 0, []) := rfl
theorem kc94_74 : zt_code 94 74 = some (.getfield 20, 77, 8, 5, []) := rfl
theorem kc94_77 : zt_code 94 77 = some (.iload_n 3, 78, 0, 0, []) := rfl
theorem kc94_78 : zt_code 94 78 = some (.iload_n 1, 79, 0, 0, []) := rfl
theorem kc94_79 : zt_code 94 79 = some (.iastore, 80, 0, 0, []) := rfl
theorem kc94_80 : zt_code 94 80 = some (.aload_n 0, 81, 0, 0, []) := rfl
theorem kc94_81 : zt_code 94 81 = some (.getfield 23, 84, 8, 6, []) := rfl
theorem kc94_84 : zt_code 94 84 = some (.iload_n 3, 85, 0, 0, []) := rfl
theorem kc94_85 : zt_code 94 85 = some (.iconst 0, 86, 0, 0, []) := rfl
theorem kc94_86 : zt_code 94 86 = some (.iastore, 87, 0, 0, []) := rfl
theorem kc94_87 : zt_code 94 87 = some (.aload_n 0, 88, 0, 0, []) := rfl
theorem kc94_88 : zt_code 94 88 = some (.getfield 26, 91, 8, 7, []) := rfl
theorem kc94_91 : zt_code 94 91 = some (.iload_n 3, 92, 0, 0, []) := rfl
theorem kc94_92 : zt_code 94 92 = some (.iconst 0, 93, 0, 0, []) := rfl
theorem kc94_93 : zt_code 94 93 = some (.iastore, 94, 0, 0, []) := rfl
theorem kc94_94 : zt_code 94 94 = some (.aload_n 0, 95, 0, 0, []) := rfl
theorem kc94_95 : zt_code 94 95 = some (.iload_n 3, 96, 0, 0, []) := rfl
theorem kc94_96 : zt_code 94 96 = some (.invokevirtual 127, 99, 87, 1, []) := rfl
theorem kc94_99 : zt_code 94 99 = some (.iload_n 3, 100, 0, 0, []) := rfl
theorem kc94_100 : zt_code 94 100 = some (.ireturn, 101, 0, 0, []) := rfl
theorem kc95_0 : zt_code 95 0 = some (.aload_n 0, 1, 0, 0, []) := rfl
theorem kc95_1 : zt_code 95 1 = some (.invokevirtual 130, 4, 76, 0, []) := rfl
theorem kc95_4 : zt_code 95 4 = some (.istore_n 2, 5, 0, 0, []) := rfl
theorem kc95_5 : zt_code 95 5 = some (.iload_n 1, 6, 0, 0, []) := rfl
theorem kc95_6 : zt_code 95 6 = some (.iconst 1, 7, 0, 0, []) := rfl
theorem kc95_7 : zt_code 95 7 = some (.if_icmp .eq 8, 10, 15, 0, []) := rfl
theorem kc95_10 : zt_code 95 10 = some (.iload_n 1, 11, 0, 0, []) := rfl
theorem kc95_11 : zt_code 95 11 = some (.iconst 2, 12, 0, 0, []) := rfl
theorem kc95_12 : zt_code 95 12 = some (.if_icmp .ne 8, 15, 20, 0, []) := rfl
theorem kc95_15 : zt_code 95 15 = some (.iload_n 2, 16, 0, 0, []) := rfl
theorem kc95_16 : zt_code 95 16 = some (.iconst (-1), 17, 0, 0, []) := rfl
theorem kc95_17 : zt_code 95 17 = some (.if_icmp .eq 5, 20, 22, 0, []) := rfl
theorem kc95_20 : zt_code 95 20 = some (.iconst (-1), 21, 0, 0, []) := rfl
theorem kc95_21 : zt_code 95 21 = some (.ireturn, 22, 0, 0, []) := rfl
theorem kc95_22 : zt_code 95 22 = some (.aload_n 0, 23, 0, 0, []) := rfl
theorem kc95_23 : zt_code 95 23 = some (.iconst 0, 24, 0, 0, []) := rfl
theorem kc95_24 : zt_code 95 24 = some (.aload_n 0, 25, 0, 0, []) := rfl
theorem kc95_25 : zt_code 95 25 = some (.getfield 58, 28, 8, 3, []) := rfl
theorem kc95_28 : zt_code 95 28 = some (.invokevirtual 133, 31, 92, 2, []) := rfl
theorem kc95_31 : zt_code 95 31 = some (.istore_n 3, 32, 0, 0, []) := rfl
theorem kc95_32 : zt_code 95 32 = some (.iload_n 3, 33, 0, 0, []) := rfl
theorem kc95_33 : zt_code 95 33 = some (.ifCond .ge 5, 36, 38, 0, []) := rfl
theorem kc95_36 : zt_code 95 36 = some (.iload_n 3, 37, 0, 0, []) := rfl
theorem kc95_37 : zt_code 95 37 = some (.ireturn, 38, 0, 0, []) := rfl
theorem kc95_38 : zt_code 95 38 = some (.aload_n 0, 39, 0, 0, []) := rfl
theorem kc95_39 : zt_code 95 39 = some (.getfield 93, 42, 8, 20, []) := rfl
theorem kc95_42 : zt_code 95 42 = some (.ifCond .le 8, 45, 50, 0, []) := rfl
theorem kc95_45 : zt_code 95 45 = some (.bipush (-3), 47, 0, 0, []) := rfl
theorem kc95_47 : zt_code 95 47 = some (.goto 9, 50, 56, 0, []) := rfl
theorem kc95_50 : zt_code 95 50 = some (.aload_n 0, 51, 0, 0, []) := rfl
theorem kc95_51 : zt_code 95 51 = some (.iload_n 1, 52, 0, 0, []) := rfl
theorem kc95_52 : zt_code 95 52 = some (.iconst 1, 53, 0, 0, []) := rfl
theorem kc95_53 : zt_code 95 53 = some (.invokevirtual 136, 56, 94, 2, []) := rfl
theorem kc95_56 : zt_code 95 56 = some (.ireturn, 57, 0, 0, []) := rfl
theorem kc96_0 : zt_code 96 0 = some (.aload_n 0, 1, 0, 0, []) := rfl
theorem kc96_1 : zt_code 96 1 = some (.invokevirtual 130, 4, 76, 0, []) := rfl
theorem kc96_4 : zt_code 96 4 = some (.istore_n 1, 5, 0, 0, []) := rfl
theorem kc96_5 : zt_code 96 5 = some (.iload_n 1, 6, 0, 0, []) := rfl
theorem kc96_6 : zt_code 96 6 = some (.ifCond .ge 5, 9, 11, 0, []) := rfl
theorem kc96_9 : zt_code 96 9 = some (.iconst (-1), 10, 0, 0, []) := rfl
theorem kc96_10 : zt_code 96 10 = some (.ireturn, 11, 0, 0, []) := rfl
theorem kc96_11 : zt_code 96 11 = some (.aload_n 0, 12, 0, 0, []) := rfl
theorem kc96_12 : zt_code 96 12 = some (.iconst 0, 13, 0, 0, []) := rfl
theorem kc96_13 : zt_code 96 13 = some (.iload_n 1, 14, 0, 0, []) := rfl
theorem kc96_14 : zt_code 96 14 = some (.iconst 0, 15, 0, 0, []) := rfl
theorem kc96_15 : zt_code 96 15 = some (.invokevirtual 115, 18, 90, 3, []) := rfl
theorem kc96_18 : zt_code 96 18 = some (.istore_n 2, 19, 0, 0, []) := rfl
theorem kc96_19 : zt_code 96 19 = some (.iload_n 2, 20, 0, 0, []) := rfl
theorem kc96_20 : zt_code 96 20 = some (.ifCond .ge 5, 23, 25, 0, []) := rfl
theorem kc96_23 : zt_code 96 23 = some (.iload_n 2, 24, 0, 0, []) := rfl
theorem kc96_24 : zt_code 96 24 = some (.ireturn, 25, 0, 0, []) := rfl
theorem kc96_25 : zt_code 96 25 = some (.aload_n 0, 26, 0, 0, []) := rfl
theorem kc96_26 : zt_code 96 26 = some (.getfield 93, 29, 8, 20, []) := rfl
theorem kc96_29 : zt_code 96 29 = some (.istore_n 3, 30, 0, 0, []) := rfl
theorem kc96_30 : zt_code 96 30 = some (.aload_n 0, 31, 0, 0, []) := rfl
theorem kc96_31 : zt_code 96 31 = some (.iload_n 1, 32, 0, 0, []) := rfl
theorem kc96_32 : zt_code 96 32 = some (.iconst 1, 33, 0, 0, []) := rfl
theorem kc96_33 : zt_code 96 33 = some (.iadd, 34, 0, 0, []) := rfl
theorem kc96_34 : zt_code 96 34 = some (.aload_n 0, 35, 0, 0, []) := rfl
theorem kc96_35 : zt_code 96 35 = some (.getfield 58, 38, 8, 3, []) := rfl
theorem kc96_38 : zt_code 96 38 = some (.iload_n 1, 39, 0, 0, []) := rfl
theorem kc96_39 : zt_code 96 39 = some (.isub, 40, 0, 0, []) := rfl
theorem kc96_40 : zt_code 96 40 = some (.iconst 1, 41, 0, 0, []) := rfl
theorem kc96_41 : zt_code 96 41 = some (.isub, 42, 0, 0, []) := rfl
theorem kc96_42 : zt_code 96 42 = some (.invokevirtual 133, 45, 92, 2, []) := rfl
theorem kc96_45 : zt_code 96 45 = some (.istore_n 2, 46, 0, 0, []) := rfl
theorem kc96_46 : zt_code 96 46 = some (.iload_n 2, 47, 0, 0, []) := rfl
theorem kc96_47 : zt_code 96 47 = some (.ifCond .ge 5, 50, 52, 0, []) := rfl
theorem kc96_50 : zt_code 96 50 = some (.iload_n 2, 51, 0, 0, []) := rfl
theorem kc96_51 : zt_code 96 51 = some (.ireturn, 52, 0, 0, []) := rfl
theorem kc96_52 : zt_code 96 52 = some (.iload_n 3, 53, 0, 0, []) := rfl
theorem kc96_53 : zt_code 96 53 = some (.ifCond .ne 6, 56, 59, 0, []) := rfl
theorem kc96_56 : zt_code 96 56 = some (.bipush (-2), 58, 0, 0, []) := rfl
theorem kc96_58 : zt_code 96 58 = some (.ireturn, 59, 0, 0, []) := rfl
theorem kc96_59 : zt_code 96 59 = some (.aload_n 0, 60, 0, 0, []) := rfl
theorem kc96_60 : zt_code 96 60 = some (.getfield 20, 63, 8, 5, []) := rfl
theorem kc96_63 : zt_code 96 63 = some (.iload_n 3, 64, 0, 0, []) := rfl
theorem kc96_64 : zt_code 96 64 = some (.iaload, 65, 0, 0, []) := rfl
theorem kc96_65 : zt_code 96 65 = some (.iconst 2, 66, 0, 0, []) := rfl
theorem kc96_66 : zt_code 96 66 = some (.if_icmp .ne 6, 69, 72, 0, []) := rfl
theorem kc96_69 : zt_code 96 69 = some (.bipush (-5), 71, 0, 0, []) := rfl
theorem kc96_71 : zt_code 96 71 = some (.ireturn, 72, 0, 0, []) := rfl
theorem kc96_72 : zt_code 96 72 = some (.aload_n 0, 73, 0, 0, []) := rfl
theorem kc96_73 : zt_code 96 73 = some (.getfield 93, 76, 8, 20, []) := rfl
theorem kc96_76 : zt_code 96 76 = some (.ifCond .le 6, 79, 82, 0, []) := rfl
theorem kc96_79 : zt_code 96 79 = some (.bipush (-3), 81, 0, 0, []) := rfl
theorem kc96_81 : zt_code 96 81 = some (.ireturn, 82, 0, 0, []) := rfl
theorem kc96_82 : zt_code 96 82 = some (.aload_n 0, 83, 0, 0, []) := rfl
theorem kc96_83 : zt_code 96 83 = some (.getfield 68, 86, 8, 10, []) := rfl
theorem kc96_86 : zt_code 96 86 = some (.bipush 60, 88, 0, 0, []) := rfl
theorem kc96_88 : zt_code 96 88 = some (.if_icmp .eq 33, 91, 121, 0, []) := rfl
theorem kc96_91 : zt_code 96 91 = some (.aload_n 0, 92, 0, 0, []) := rfl
theorem kc96_92 : zt_code 96 92 = some (.invokevirtual 119, 95, 79, 0, []) := rfl
theorem kc96_95 : zt_code 96 95 = some (.aload_n 0, 96, 0, 0, []) := rfl
theorem kc96_96 : zt_code 96 96 = some (.aload_n 0, 97, 0, 0, []) := rfl
theorem kc96_97 : zt_code 96 97 = some (.getfield 75, 100, 8, 17, []) := rfl
theorem kc96_100 : zt_code 96 100 = some (.aload_n 0, 101, 0, 0, []) := rfl
theorem kc96_101 : zt_code 96 101 = some (.aload_n 0, 102, 0, 0, []) := rfl
theorem kc96_102 : zt_code 96 102 = some (.getfield 75, 105, 8, 17, []) := rfl
theorem kc96_105 : zt_code 96 105 = some (.invokevirtual 84, 108, 82, 1, []) := rfl
theorem kc96_108 : zt_code 96 108 = some (.iconst 1, 109, 0, 0, []) := rfl
theorem kc96_109 : zt_code 96 109 = some (.iadd, 110, 0, 0, []) := rfl
theorem kc96_110 : zt_code 96 110 = some (.invokevirtual 123, 113, 86, 2, []) := rfl
theorem kc96_113 : zt_code 96 113 = some (.iadd, 114, 0, 0, []) := rfl
theorem kc96_114 : zt_code 96 114 = some (.aload_n 0, 115, 0, 0, []) := rfl
theorem kc96_115 : zt_code 96 115 = some (.getfield 7, 118, 8, 0, []) := rfl
theorem kc96_118 : zt_code 96 118 = some (.if_icmp .le 6, 121, 124, 0, []) := rfl
theorem kc96_121 : zt_code 96 121 = some (.bipush (-7), 123, 0, 0, []) := rfl
theorem kc96_123 : zt_code 96 123 = some (.ireturn, 124, 0, 0, []) := rfl
theorem kc96_124 : zt_code 96 124 = some (.aload_n 0, 125, 0, 0, []) := rfl
theorem kc96_125 : zt_code 96 125 = some (.iload_n 3, 126, 0, 0, []) := rfl
theorem kc96_126 : zt_code 96 126 = some (.invokevirtual 127, 129, 87, 1, []) := rfl
theorem kc96_129 : zt_code 96 129 = some (.iload_n 3, 130, 0, 0, []) := rfl
theorem kc96_130 : zt_code 96 130 = some (.ireturn, 131, 0, 0, []) := rfl
theorem kc97_0 : zt_code 97 0 = some (.aload_n 0, 1, 0, 0, []) := rfl
theorem kc97_1 : zt_code 97 1 = some (.invokevirtual 130, 4, 76, 0, []) := rfl
theorem kc97_4 : zt_code 97 4 = some (.istore_n 1, 5, 0, 0, []) := rfl
theorem kc97_5 : zt_code 97 5 = some (.aload_n 0, 6, 0, 0, []) := rfl
theorem kc97_6 : zt_code 97 6 = some (.getfield 58, 9, 8, 3, []) := rfl
theorem kc97_9 : zt_code 97 9 = some (.iload_n 1, 10, 0, 0, []) := rfl
theorem kc97_10 : zt_code 97 10 = some (.isub, 11, 0, 0, []) := rfl
theorem kc97_11 : zt_code 97 11 = some (.iconst 1, 12, 0, 0, []) := rfl
theorem kc97_12 : zt_code 97 12 = some (.isub, 13, 0, 0, []) := rfl
theorem kc97_13 : zt_code 97 13 = some (.istore_n 2, 14, 0, 0, []) := rfl
theorem kc97_14 : zt_code 97 14 = some (.iload_n 1, 15, 0, 0, []) := rfl
theorem kc97_15 : zt_code 97 15 = some (.ifCond .lt 15, 18, 30, 0, []) := rfl
theorem kc97_18 : zt_code 97 18 = some (.iload_n 2, 19, 0, 0, []) := rfl
theorem kc97_19 : zt_code 97 19 = some (.iconst 1, 20, 0, 0, []) := rfl
theorem kc97_20 : zt_code 97 20 = some (.if_icmp .lt 10, 23, 30, 0, []) := rfl
theorem kc97_23 : zt_code 97 23 = some (.iload_n 2, 24, 0, 0, []) := rfl
theorem kc97_24 : zt_code 97 24 = some (.sipush 1000, 27, 0, 0, []) := rfl
theorem kc97_27 : zt_code 97 27 = some (.if_icmp .le 5, 30, 32, 0, []) := rfl
theorem kc97_30 : zt_code 97 30 = some (.iconst (-1), 31, 0, 0, []) := rfl
theorem kc97_31 : zt_code 97 31 = some (.ireturn, 32, 0, 0, []) := rfl
theorem kc97_32 : zt_code 97 32 = some (.aload_n 0, 33, 0, 0, []) := rfl
theorem kc97_33 : zt_code 97 33 = some (.iconst 0, 34, 0, 0, []) := rfl
theorem kc97_34 : zt_code 97 34 = some (.iload_n 1, 35, 0, 0, []) := rfl
theorem kc97_35 : zt_code 97 35 = some (.invokevirtual 133, 38, 92, 2, []) := rfl
theorem kc97_38 : zt_code 97 38 = some (.istore_n 3, 39, 0, 0, []) := rfl
theorem kc97_39 : zt_code 97 39 = some (.iload_n 3, 40, 0, 0, []) := rfl
theorem kc97_40 : zt_code 97 40 = some (.ifCond .ge 5, 43, 45, 0, []) := rfl
theorem kc97_43 : zt_code 97 43 = some (.iload_n 3, 44, 0, 0, []) := rfl
theorem kc97_44 : zt_code 97 44 = some (.ireturn, 45, 0, 0, []) := rfl
theorem kc97_45 : zt_code 97 45 = some (.aload_n 0, 46, 0, 0, []) := rfl
theorem kc97_46 : zt_code 97 46 = some (.getfield 93, 49, 8, 20, []) := rfl
theorem kc97_49 : zt_code 97 49 = some (.ifCond .le 6, 52, 55, 0, []) := rfl
theorem kc97_52 : zt_code 97 52 = some (.bipush (-3), 54, 0, 0, []) := rfl
theorem kc97_54 : zt_code 97 54 = some (.ireturn, 55, 0, 0, []) := rfl
theorem kc97_55 : zt_code 97 55 = some (.aload_n 0, 56, 0, 0, []) := rfl
theorem kc97_56 : zt_code 97 56 = some (.iconst 3, 57, 0, 0, []) := rfl
theorem kc97_57 : zt_code 97 57 = some (.iload_n 2, 58, 0, 0, []) := rfl
theorem kc97_58 : zt_code 97 58 = some (.bipush 59, 60, 0, 0, []) := rfl
theorem kc97_60 : zt_code 97 60 = some (.if_icmp .le 7, 63, 67, 0, []) := rfl
theorem kc97_63 : zt_code 97 63 = some (.iconst 1, 64, 0, 0, []) := rfl
theorem kc97_64 : zt_code 97 64 = some (.goto 4, 67, 68, 0, []) := rfl
theorem kc97_67 : zt_code 97 67 = some (.iconst 0, 68, 0, 0, []) := rfl
theorem kc97_68 : zt_code 97 68 = some (.invokevirtual 136, 71, 94, 2, []) := rfl
theorem kc97_71 : zt_code 97 71 = some (.istore 4, 73, 0, 0, []) := rfl
theorem kc97_73 : zt_code 97 73 = some (.iload 4, 75, 0, 0, []) := rfl
theorem kc97_75 : zt_code 97 75 = some (.ifCond .ge 6, 78, 81, 0, []) := rfl
theorem kc97_78 : zt_code 97 78 = some (.iload 4, 80, 0, 0, []) := rfl
theorem kc97_80 : zt_code 97 80 = some (.ireturn, 81, 0, 0, []) := rfl
theorem kc97_81 : zt_code 97 81 = some (.aload_n 0, 82, 0, 0, []) := rfl
theorem kc97_82 : zt_code 97 82 = some (.getfield 29, 85, 8, 8, []) := rfl
theorem kc97_85 : zt_code 97 85 = some (.iload 4, 87, 0, 0, []) := rfl
theorem kc97_87 : zt_code 97 87 = some (.iload_n 2, 88, 0, 0, []) := rfl
theorem kc97_88 : zt_code 97 88 = some (.iastore, 89, 0, 0, []) := rfl
theorem kc97_89 : zt_code 97 89 = some (.iconst 0, 90, 0, 0, []) := rfl
theorem kc97_90 : zt_code 97 90 = some (.istore 5, 92, 0, 0, []) := rfl
theorem kc97_92 : zt_code 97 92 = some (.iload 5, 94, 0, 0, []) := rfl
theorem kc97_94 : zt_code 97 94 = some (.iload_n 2, 95, 0, 0, []) := rfl
theorem kc97_95 : zt_code 97 95 = some (.if_icmp .ge 35, 98, 130, 0, []) := rfl
theorem kc97_98 : zt_code 97 98 = some (.aload_n 0, 99, 0, 0, []) := rfl
theorem kc97_99 : zt_code 97 99 = some (.getfield 33, 102, 8, 9, []) := rfl
theorem kc97_102 : zt_code 97 102 = some (.sipush 1000, 105, 0, 0, []) := rfl
theorem kc97_105 : zt_code 97 105 = some (.iload 4, 107, 0, 0, []) := rfl
theorem kc97_107 : zt_code 97 107 = some (.imul, 108, 0, 0, []) := rfl
theorem kc97_108 : zt_code 97 108 = some (.iload 5, 110, 0, 0, []) := rfl
theorem kc97_110 : zt_code 97 110 = some (.iadd, 111, 0, 0, []) := rfl
theorem kc97_111 : zt_code 97 111 = some (.aload_n 0, 112, 0, 0, []) := rfl
theorem kc97_112 : zt_code 97 112 = some (.getfield 17, 115, 8, 4, []) := rfl
theorem kc97_115 : zt_code 97 115 = some (.iload_n 1, 116, 0, 0, []) := rfl
theorem kc97_116 : zt_code 97 116 = some (.iconst 1, 117, 0, 0, []) := rfl
theorem kc97_117 : zt_code 97 117 = some (.iadd, 118, 0, 0, []) := rfl
theorem kc97_118 : zt_code 97 118 = some (.iload 5, 120, 0, 0, []) := rfl
theorem kc97_120 : zt_code 97 120 = some (.iadd, 121, 0, 0, []) := rfl
theorem kc97_121 : zt_code 97 121 = some (.iaload, 122, 0, 0, []) := rfl
theorem kc97_122 : zt_code 97 122 = some (.i2b, 123, 0, 0, []) := rfl
theorem kc97_123 : zt_code 97 123 = some (.bastore, 124, 0, 0, []) := rfl
theorem kc97_124 : zt_code 97 124 = some (.iinc 5 1, 127, 0, 0, []) := rfl
theorem kc97_127 : zt_code 97 127 = some (.goto (-35), 130, 92, 0, []) := rfl
theorem kc97_130 : zt_code 97 130 = some (.iload 4, 132, 0, 0, []) := rfl
theorem kc97_132 : zt_code 97 132 = some (.ireturn, 133, 0, 0, []) := rfl
theorem kc98_0 : zt_code 98 0 = some (.aload_n 0, 1, 0, 0, []) := rfl
theorem kc98_1 : zt_code 98 1 = some (.invokevirtual 130, 4, 76, 0, []) := rfl
theorem kc98_4 : zt_code 98 4 = some (.istore_n 1, 5, 0, 0, []) := rfl
theorem kc98_5 : zt_code 98 5 = some (.iload_n 1, 6, 0, 0, []) := rfl
theorem kc98_6 : zt_code 98 6 = some (.iconst (-1), 7, 0, 0, []) := rfl
theorem kc98_7 : zt_code 98 7 = some (.if_icmp .eq 5, 10, 12, 0, []) := rfl
theorem kc98_10 : zt_code 98 10 = some (.iconst (-1), 11, 0, 0, []) := rfl
theorem kc98_11 : zt_code 98 11 = some (.ireturn, 12, 0, 0, []) := rfl
theorem kc98_12 : zt_code 98 12 = some (.aload_n 0, 13, 0, 0, []) := rfl
theorem kc98_13 : zt_code 98 13 = some (.iconst 0, 14, 0, 0, []) := rfl
theorem kc98_14 : zt_code 98 14 = some (.aload_n 0, 15, 0, 0, []) := rfl
theorem kc98_15 : zt_code 98 15 = some (.getfield 58, 18, 8, 3, []) := rfl
theorem kc98_18 : zt_code 98 18 = some (.invokevirtual 133, 21, 92, 2, []) := rfl
theorem kc98_21 : zt_code 98 21 = some (.istore_n 2, 22, 0, 0, []) := rfl
theorem kc98_22 : zt_code 98 22 = some (.iload_n 2, 23, 0, 0, []) := rfl
theorem kc98_23 : zt_code 98 23 = some (.ifCond .ge 5, 26, 28, 0, []) := rfl
theorem kc98_26 : zt_code 98 26 = some (.iload_n 2, 27, 0, 0, []) := rfl
theorem kc98_27 : zt_code 98 27 = some (.ireturn, 28, 0, 0, []) := rfl
theorem kc98_28 : zt_code 98 28 = some (.aload_n 0, 29, 0, 0, []) := rfl
theorem kc98_29 : zt_code 98 29 = some (.getfield 93, 32, 8, 20, []) := rfl
theorem kc98_32 : zt_code 98 32 = some (.ifCond .ne 6, 35, 38, 0, []) := rfl
theorem kc98_35 : zt_code 98 35 = some (.bipush (-2), 37, 0, 0, []) := rfl
theorem kc98_37 : zt_code 98 37 = some (.ireturn, 38, 0, 0, []) := rfl
theorem kc98_38 : zt_code 98 38 = some (.aload_n 0, 39, 0, 0, []) := rfl
theorem kc98_39 : zt_code 98 39 = some (.getfield 20, 42, 8, 5, []) := rfl
theorem kc98_42 : zt_code 98 42 = some (.aload_n 0, 43, 0, 0, []) := rfl
theorem kc98_43 : zt_code 98 43 = some (.getfield 93, 46, 8, 20, []) := rfl
theorem kc98_46 : zt_code 98 46 = some (.iaload, 47, 0, 0, []) := rfl
theorem kc98_47 : zt_code 98 47 = some (.iconst 2, 48, 0, 0, []) := rfl
theorem kc98_48 : zt_code 98 48 = some (.if_icmp .ne 6, 51, 54, 0, []) := rfl
theorem kc98_51 : zt_code 98 51 = some (.bipush (-5), 53, 0, 0, []) := rfl
theorem kc98_53 : zt_code 98 53 = some (.ireturn, 54, 0, 0, []) := rfl
theorem kc98_54 : zt_code 98 54 = some (.aload_n 0, 55, 0, 0, []) := rfl
theorem kc98_55 : zt_code 98 55 = some (.aload_n 0, 56, 0, 0, []) := rfl
theorem kc98_56 : zt_code 98 56 = some (.aload_n 0, 57, 0, 0, []) := rfl
theorem kc98_57 : zt_code 98 57 = some (.getfield 75, 60, 8, 17, []) := rfl
theorem kc98_60 : zt_code 98 60 = some (.aload_n 0, 61, 0, 0, []) := rfl
theorem kc98_61 : zt_code 98 61 = some (.getfield 81, 64, 8, 18, []) := rfl
theorem kc98_64 : zt_code 98 64 = some (.aload_n 0, 65, 0, 0, []) := rfl
theorem kc98_65 : zt_code 98 65 = some (.getfield 78, 68, 8, 19, []) := rfl
theorem kc98_68 : zt_code 98 68 = some (.invokevirtual 107, 71, 85, 3, []) := rfl
theorem kc98_71 : zt_code 98 71 = some (.invokevirtual 139, 74, 88, 1, []) := rfl
theorem kc98_74 : zt_code 98 74 = some (.aload_n 0, 75, 0, 0, []) := rfl
theorem kc98_75 : zt_code 98 75 = some (.getfield 93, 78, 8, 20, []) := rfl
theorem kc98_78 : zt_code 98 78 = some (.ireturn, 79, 0, 0, []) := rfl
theorem kc99_0 : zt_code 99 0 = some (.aload_n 0, 1, 0, 0, []) := rfl
theorem kc99_1 : zt_code 99 1 = some (.invokevirtual 130, 4, 76, 0, []) := rfl
theorem kc99_4 : zt_code 99 4 = some (.istore_n 1, 5, 0, 0, []) := rfl
theorem kc99_5 : zt_code 99 5 = some (.iload_n 1, 6, 0, 0, []) := rfl
theorem kc99_6 : zt_code 99 6 = some (.iconst (-1), 7, 0, 0, []) := rfl
theorem kc99_7 : zt_code 99 7 = some (.if_icmp .eq 5, 10, 12, 0, []) := rfl
theorem kc99_10 : zt_code 99 10 = some (.iconst (-1), 11, 0, 0, []) := rfl
theorem kc99_11 : zt_code 99 11 = some (.ireturn, 12, 0, 0, []) := rfl
theorem kc99_12 : zt_code 99 12 = some (.aload_n 0, 13, 0, 0, []) := rfl
theorem kc99_13 : zt_code 99 13 = some (.iconst 0, 14, 0, 0, []) := rfl
theorem kc99_14 : zt_code 99 14 = some (.aload_n 0, 15, 0, 0, []) := rfl
theorem kc99_15 : zt_code 99 15 = some (.getfield 58, 18, 8, 3, []) := rfl
theorem kc99_18 : zt_code 99 18 = some (.invokevirtual 133, 21, 92, 2, []) := rfl
theorem kc99_21 : zt_code 99 21 = some (.istore_n 2, 22, 0, 0, []) := rfl
theorem kc99_22 : zt_code 99 22 = some (.iload_n 2, 23, 0, 0, []) := rfl
theorem kc99_23 : zt_code 99 23 = some (.ifCond .ge 5, 26, 28, 0, []) := rfl
theorem kc99_26 : zt_code 99 26 = some (.iload_n 2, 27, 0, 0, []) := rfl
theorem kc99_27 : zt_code 99 27 = some (.ireturn, 28, 0, 0, []) := rfl
theorem kc99_28 : zt_code 99 28 = some (.aload_n 0, 29, 0, 0, []) := rfl
theorem kc99_29 : zt_code 99 29 = some (.getfield 93, 32, 8, 20, []) := rfl
theorem kc99_32 : zt_code 99 32 = some (.ifCond .ne 6, 35, 38, 0, []) := rfl
theorem kc99_35 : zt_code 99 35 = some (.bipush (-2), 37, 0, 0, []) := rfl
theorem kc99_37 : zt_code 99 37 = some (.ireturn, 38, 0, 0, []) := rfl
theorem kc99_38 : zt_code 99 38 = some (.aload_n 0, 39, 0, 0, []) := rfl
theorem kc99_39 : zt_code 99 39 = some (.getfield 20, 42, 8, 5, []) := rfl
theorem kc99_42 : zt_code 99 42 = some (.aload_n 0, 43, 0, 0, []) := rfl
theorem kc99_43 : zt_code 99 43 = some (.getfield 93, 46, 8, 20, []) := rfl
theorem kc99_46 : zt_code 99 46 = some (.iaload, 47, 0, 0, []) := rfl
theorem kc99_47 : zt_code 99 47 = some (.iconst 2, 48, 0, 0, []) := rfl
theorem kc99_48 : zt_code 99 48 = some (.if_icmp .eq 6, 51, 54, 0, []) := rfl
theorem kc99_51 : zt_code 99 51 = some (.bipush (-4), 53, 0, 0, []) := rfl
theorem kc99_53 : zt_code 99 53 = some (.ireturn, 54, 0, 0, []) := rfl
theorem kc99_54 : zt_code 99 54 = some (.aload_n 0, 55, 0, 0, []) := rfl
theorem kc99_55 : zt_code 99 55 = some (.aload_n 0, 56, 0, 0, []) := rfl
theorem kc99_56 : zt_code 99 56 = some (.getfield 93, 59, 8, 20, []) := rfl
theorem kc99_59 : zt_code 99 59 = some (.invokevirtual 84, 62, 82, 1, []) := rfl
theorem kc99_62 : zt_code 99 62 = some (.ifCond .le 6, 65, 68, 0, []) := rfl
theorem kc99_65 : zt_code 99 65 = some (.bipush (-6), 67, 0, 0, []) := rfl
theorem kc99_67 : zt_code 99 67 = some (.ireturn, 68, 0, 0, []) := rfl
theorem kc99_68 : zt_code 99 68 = some (.aload_n 0, 69, 0, 0, []) := rfl
theorem kc99_69 : zt_code 99 69 = some (.aload_n 0, 70, 0, 0, []) := rfl
theorem kc99_70 : zt_code 99 70 = some (.aload_n 0, 71, 0, 0, []) := rfl
theorem kc99_71 : zt_code 99 71 = some (.getfield 75, 74, 8, 17, []) := rfl
theorem kc99_74 : zt_code 99 74 = some (.aload_n 0, 75, 0, 0, []) := rfl
theorem kc99_75 : zt_code 99 75 = some (.getfield 81, 78, 8, 18, []) := rfl
theorem kc99_78 : zt_code 99 78 = some (.aload_n 0, 79, 0, 0, []) := rfl
theorem kc99_79 : zt_code 99 79 = some (.getfield 78, 82, 8, 19, []) := rfl
theorem kc99_82 : zt_code 99 82 = some (.invokevirtual 107, 85, 85, 3, []) := rfl
theorem kc99_85 : zt_code 99 85 = some (.invokevirtual 139, 88, 88, 1, []) := rfl
theorem kc99_88 : zt_code 99 88 = some (.aload_n 0, 89, 0, 0, []) := rfl
theorem kc99_89 : zt_code 99 89 = some (.getfield 93, 92, 8, 20, []) := rfl
theorem kc99_92 : zt_code 99 92 = some (.ireturn, 93, 0, 0, []) := rfl
theorem kc100_0 : zt_code 100 0 = some (.iload_n 1, 1, 0, 0, []) := rfl
theorem kc100_1 : zt_code 100 1 = some (.istore_n 3, 2, 0, 0, []) := rfl
theorem kc100_2 : zt_code 100 2 = some (.iload_n 3, 3, 0, 0, []) := rfl
theorem kc100_3 : zt_code 100 3 = some (.iload_n 2, 4, 0, 0, []) := rfl
theorem kc100_4 : zt_code 100 4 = some (.if_icmp .eq 17, 7, 21, 0, []) := rfl
theorem kc100_7 : zt_code 100 7 = some (.iload_n 3, 8, 0, 0, []) := rfl
theorem kc100_8 : zt_code 100 8 = some (.iconst 1, 9, 0, 0, []) := rfl
theorem kc100_9 : zt_code 100 9 = some (.if_icmp .eq 12, 12, 21, 0, []) := rfl
theorem kc100_12 : zt_code 100 12 = some (.aload_n 0, 13, 0, 0, []) := rfl
theorem kc100_13 : zt_code 100 13 = some (.iload_n 3, 14, 0, 0, []) := rfl
theorem kc100_14 : zt_code 100 14 = some (.invokevirtual 104, 17, 83, 1, []) := rfl
theorem kc100_17 : zt_code 100 17 = some (.istore_n 3, 18, 0, 0, []) := rfl
theorem kc100_18 : zt_code 100 18 = some (.goto (-16), 21, 2, 0, []) := rfl
theorem kc100_21 : zt_code 100 21 = some (.iload_n 3, 22, 0, 0, []) := rfl
theorem kc100_22 : zt_code 100 22 = some (.iload_n 2, 23, 0, 0, []) := rfl
theorem kc100_23 : zt_code 100 23 = some (.if_icmp .ne 7, 26, 30, 0, []) := rfl
theorem kc100_26 : zt_code 100 26 = some (.iconst 1, 27, 0, 0, []) := rfl
theorem kc100_27 : zt_code 100 27 = some (.goto 4, 30, 31, 0, []) := rfl
theorem kc100_30 : zt_code 100 30 = some (.iconst 0, 31, 0, 0, []) := rfl
theorem kc100_31 : zt_code 100 31 = some (.ireturn, 32, 0, 0, []) := rfl
theorem kc101_0 : zt_code 101 0 = some (.aload_n 0, 1, 0, 0, []) := rfl
theorem kc101_1 : zt_code 101 1 = some (.invokevirtual 130, 4, 76, 0, []) := rfl
theorem kc101_4 : zt_code 101 4 = some (.istore_n 1, 5, 0, 0, []) := rfl
theorem kc101_5 : zt_code 101 5 = some (.iload_n 1, 6, 0, 0, []) := rfl
theorem kc101_6 : zt_code 101 6 = some (.ifCond .ge 5, 9, 11, 0, []) := rfl
theorem kc101_9 : zt_code 101 9 = some (.iconst (-1), 10, 0, 0, []) := rfl
theorem kc101_10 : zt_code 101 10 = some (.ireturn, 11, 0, 0, []) := rfl
theorem kc101_11 : zt_code 101 11 = some (.aload_n 0, 12, 0, 0, []) := rfl
theorem kc101_12 : zt_code 101 12 = some (.iconst 0, 13, 0, 0, []) := rfl
theorem kc101_13 : zt_code 101 13 = some (.iload_n 1, 14, 0, 0, []) := rfl
theorem kc101_14 : zt_code 101 14 = some (.invokevirtual 133, 17, 92, 2, []) := rfl
theorem kc101_17 : zt_code 101 17 = some (.istore_n 2, 18, 0, 0, []) := rfl
theorem kc101_18 : zt_code 101 18 = some (.iload_n 2, 19, 0, 0, []) := rfl
theorem kc101_19 : zt_code 101 19 = some (.ifCond .ge 5, 22, 24, 0, []) := rfl
theorem kc101_22 : zt_code 101 22 = some (.iload_n 2, 23, 0, 0, []) := rfl
theorem kc101_23 : zt_code 101 23 = some (.ireturn, 24, 0, 0, []) := rfl
theorem kc101_24 : zt_code 101 24 = some (.aload_n 0, 25, 0, 0, []) := rfl
theorem kc101_25 : zt_code 101 25 = some (.getfield 93, 28, 8, 20, []) := rfl
theorem kc101_28 : zt_code 101 28 = some (.istore_n 3, 29, 0, 0, []) := rfl
theorem kc101_29 : zt_code 101 29 = some (.iload_n 3, 30, 0, 0, []) := rfl
theorem kc101_30 : zt_code 101 30 = some (.ifCond .ne 7, 33, 37, 0, []) := rfl
theorem kc101_33 : zt_code 101 33 = some (.iconst (-1), 34, 0, 0, []) := rfl
theorem kc101_34 : zt_code 101 34 = some (.goto 19, 37, 53, 0, []) := rfl
theorem kc101_37 : zt_code 101 37 = some (.aload_n 0, 38, 0, 0, []) := rfl
theorem kc101_38 : zt_code 101 38 = some (.aload_n 0, 39, 0, 0, []) := rfl
theorem kc101_39 : zt_code 101 39 = some (.getfield 75, 42, 8, 17, []) := rfl
theorem kc101_42 : zt_code 101 42 = some (.aload_n 0, 43, 0, 0, []) := rfl
theorem kc101_43 : zt_code 101 43 = some (.getfield 81, 46, 8, 18, []) := rfl
theorem kc101_46 : zt_code 101 46 = some (.aload_n 0, 47, 0, 0, []) := rfl
theorem kc101_47 : zt_code 101 47 = some (.getfield 78, 50, 8, 19, []) := rfl
theorem kc101_50 : zt_code 101 50 = some (.invokevirtual 107, 53, 85, 3, []) := rfl
theorem kc101_53 : zt_code 101 53 = some (.istore 4, 55, 0, 0, []) := rfl
theorem kc101_55 : zt_code 101 55 = some (.aload_n 0, 56, 0, 0, []) := rfl
theorem kc101_56 : zt_code 101 56 = some (.iload_n 1, 57, 0, 0, []) := rfl
theorem kc101_57 : zt_code 101 57 = some (.iconst 1, 58, 0, 0, []) := rfl
theorem kc101_58 : zt_code 101 58 = some (.iadd, 59, 0, 0, []) := rfl
theorem kc101_59 : zt_code 101 59 = some (.aload_n 0, 60, 0, 0, []) := rfl
theorem kc101_60 : zt_code 101 60 = some (.getfield 58, 63, 8, 3, []) := rfl
theorem kc101_63 : zt_code 101 63 = some (.iload_n 1, 64, 0, 0, []) := rfl
theorem kc101_64 : zt_code 101 64 = some (.isub, 65, 0, 0, []) := rfl
theorem kc101_65 : zt_code 101 65 = some (.iconst 1, 66, 0, 0, []) := rfl
theorem kc101_66 : zt_code 101 66 = some (.isub, 67, 0, 0, []) := rfl
theorem kc101_67 : zt_code 101 67 = some (.invokevirtual 133, 70, 92, 2, []) := rfl
theorem kc101_70 : zt_code 101 70 = some (.istore_n 2, 71, 0, 0, []) := rfl
theorem kc101_71 : zt_code 101 71 = some (.iload_n 2, 72, 0, 0, []) := rfl
theorem kc101_72 : zt_code 101 72 = some (.ifCond .ge 5, 75, 77, 0, []) := rfl
theorem kc101_75 : zt_code 101 75 = some (.iload_n 2, 76, 0, 0, []) := rfl
theorem kc101_76 : zt_code 101 76 = some (.ireturn, 77, 0, 0, []) := rfl
theorem kc101_77 : zt_code 101 77 = some (.iload_n 3, 78, 0, 0, []) := rfl
theorem kc101_78 : zt_code 101 78 = some (.ifCond .ne 6, 81, 84, 0, []) := rfl
theorem kc101_81 : zt_code 101 81 = some (.bipush (-2), 83, 0, 0, []) := rfl
theorem kc101_83 : zt_code 101 83 = some (.ireturn, 84, 0, 0, []) := rfl
theorem kc101_84 : zt_code 101 84 = some (.aload_n 0, 85, 0, 0, []) := rfl
theorem kc101_85 : zt_code 101 85 = some (.getfield 93, 88, 8, 20, []) := rfl
theorem kc101_88 : zt_code 101 88 = some (.iload_n 3, 89, 0, 0, []) := rfl
theorem kc101_89 : zt_code 101 89 = some (.if_icmp .ne 5, 92, 94, 0, []) := rfl
theorem kc101_92 : zt_code 101 92 = some (.iload_n 3, 93, 0, 0, []) := rfl
theorem kc101_93 : zt_code 101 93 = some (.ireturn, 94, 0, 0, []) := rfl
theorem kc101_94 : zt_code 101 94 = some (.aload_n 0, 95, 0, 0, []) := rfl
theorem kc101_95 : zt_code 101 95 = some (.getfield 20, 98, 8, 5, []) := rfl
theorem kc101_98 : zt_code 101 98 = some (.iload_n 3, 99, 0, 0, []) := rfl
theorem kc101_99 : zt_code 101 99 = some (.iaload, 100, 0, 0, []) := rfl
theorem kc101_100 : zt_code 101 100 = some (.iconst 2, 101, 0, 0, []) := rfl
theorem kc101_101 : zt_code 101 101 = some (.if_icmp .ne 7, 104, 108, 0, []) := rfl
theorem kc101_104 : zt_code 101 104 = some (.iconst 1, 105, 0, 0, []) := rfl
theorem kc101_105 : zt_code 101 105 = some (.goto 4, 108, 109, 0, []) := rfl
theorem kc101_108 : zt_code 101 108 = some (.iconst 0, 109, 0, 0, []) := rfl
theorem kc101_109 : zt_code 101 109 = some (.istore 5, 111, 0, 0, []) := rfl
theorem kc101_111 : zt_code 101 111 = some (.iload 5, 113, 0, 0, []) := rfl
theorem kc101_113 : zt_code 101 113 = some (.ifCond .eq 18, 116, 131, 0, []) := rfl
theorem kc101_116 : zt_code 101 116 = some (.aload_n 0, 117, 0, 0, []) := rfl
theorem kc101_117 : zt_code 101 117 = some (.aload_n 0, 118, 0, 0, []) := rfl
theorem kc101_118 : zt_code 101 118 = some (.getfield 75, 121, 8, 17, []) := rfl
theorem kc101_121 : zt_code 101 121 = some (.iload_n 3, 122, 0, 0, []) := rfl
theorem kc101_122 : zt_code 101 122 = some (.invokevirtual 142, 125, 100, 2, []) := rfl
theorem kc101_125 : zt_code 101 125 = some (.ifCond .eq 6, 128, 131, 0, []) := rfl
theorem kc101_128 : zt_code 101 128 = some (.bipush (-10), 130, 0, 0, []) := rfl
theorem kc101_130 : zt_code 101 130 = some (.ireturn, 131, 0, 0, []) := rfl
theorem kc101_131 : zt_code 101 131 = some (.aload_n 0, 132, 0, 0, []) := rfl
theorem kc101_132 : zt_code 101 132 = some (.getfield 93, 135, 8, 20, []) := rfl
theorem kc101_135 : zt_code 101 135 = some (.ifCond .le 20, 138, 155, 0, []) := rfl
set_option maxRecDepth 20000 in
theorem kc101_138 : zt_code 101 138 = some (.aload_n 0, 139, 0, 0, []) := rfl
set_option maxRecDepth 20000 in
theorem kc101_139 : zt_code 101 139 = some (.getfield 20, 142, 8, 5, []) := rfl
set_option maxRecDepth 20000 in
theorem kc101_142 : zt_code 101 142 = some (.aload_n 0, 143, 0, 0, []) := rfl
set_option maxRecDepth 20000 in
theorem kc101_143 : zt_code 101 143 = some (.getfield 93, 146, 8, 20, []) := rfl
set_option maxRecDepth 20000 in
theorem kc101_146 : zt_code 101 146 = some (.iaload, 147, 0, 0, []) := rfl
set_option maxRecDepth 20000 in
theorem kc101_147 : zt_code 101 147 = some (.iconst 2, 148, 0, 0, []) := rfl
set_option maxRecDepth 20000 in
theorem kc101_148 : zt_code 101 148 = some (.if_icmp .ne 7, 151, 155, 0, []) := rfl
set_option maxRecDepth 20000 in
theorem kc101_151 : zt_code 101 151 = some (.iconst 1, 152, 0, 0, []) := rfl
set_option maxRecDepth 20000 in
theorem kc101_152 : zt_code 101 152 = some (.goto 4, 155, 156, 0, []) := rfl
set_option maxRecDepth 20000 in
theorem kc101_155 : zt_code 101 155 = some (.iconst 0, 156, 0, 0, []) := rfl
set_option maxRecDepth 20000 in
theorem kc101_156 : zt_code 101 156 = some (.istore 6, 158, 0, 0, []) := rfl
set_option maxRecDepth 20000 in
theorem kc101_158 : zt_code 101 158 = some (.aload_n 0, 159, 0, 0, []) := rfl
set_option maxRecDepth 20000 in
theorem kc101_159 : zt_code 101 159 = some (.getfield 93, 162, 8, 20, []) := rfl
set_option maxRecDepth 20000 in
theorem kc101_162 : zt_code 101 162 = some (.ifCond .le 16, 165, 178, 0, []) := rfl
set_option maxRecDepth 20000 in
theorem kc101_165 : zt_code 101 165 = some (.iload 5, 167, 0, 0, []) := rfl
set_option maxRecDepth 20000 in
theorem kc101_167 : zt_code 101 167 = some (.ifCond .eq 11, 170, 178, 0, []) := rfl
set_option maxRecDepth 20000 in
theorem kc101_170 : zt_code 101 170 = some (.iload 6, 172, 0, 0, []) := rfl
set_option maxRecDepth 20000 in
theorem kc101_172 : zt_code 101 172 = some (.ifCond .ne 6, 175, 178, 0, []) := rfl
set_option maxRecDepth 20000 in
theorem kc101_175 : zt_code 101 175 = some (.bipush (-4), 177, 0, 0, []) := rfl
set_option maxRecDepth 20000 in
theorem kc101_177 : zt_code 101 177 = some (.ireturn, 178, 0, 0, []) := rfl
set_option maxRecDepth 20000 in
theorem kc101_178 : zt_code 101 178 = some (.iload 6, 180, 0, 0, []) := rfl
set_option maxRecDepth 20000 in
theorem kc101_180 : zt_code 101 180 = some (.ifCond .eq 11, 183, 191, 0, []) := rfl
set_option maxRecDepth 20000 in
theorem kc101_183 : zt_code 101 183 = some (.iload 5, 185, 0, 0, []) := rfl
set_option maxRecDepth 20000 in
theorem kc101_185 : zt_code 101 185 = some (.ifCond .ne 6, 188, 191, 0, []) := rfl
set_option maxRecDepth 20000 in
theorem kc101_188 : zt_code 101 188 = some (.bipush (-5), 190, 0, 0, []) := rfl
set_option maxRecDepth 20000 in
theorem kc101_190 : zt_code 101 190 = some (.ireturn, 191, 0, 0, []) := rfl
set_option maxRecDepth 20000 in
theorem kc101_191 : zt_code 101 191 = some (.iload 6, 193, 0, 0, []) := rfl
set_option maxRecDepth 20000 in
theorem kc101_193 : zt_code 101 193 = some (.ifCond .eq 17, 196, 210, 0, []) := rfl
set_option maxRecDepth 20000 in
theorem kc101_196 : zt_code 101 196 = some (.aload_n 0, 197, 0, 0, []) := rfl
set_option maxRecDepth 20000 in
theorem kc101_197 : zt_code 101 197 = some (.aload_n 0, 198, 0, 0, []) := rfl
set_option maxRecDepth 20000 in
theorem kc101_198 : zt_code 101 198 = some (.getfield 93, 201, 8, 20, []) := rfl
set_option maxRecDepth 20000 in
theorem kc101_201 : zt_code 101 201 = some (.invokevirtual 84, 204, 82, 1, []) := rfl
set_option maxRecDepth 20000 in
theorem kc101_204 : zt_code 101 204 = some (.ifCond .le 6, 207, 210, 0, []) := rfl
set_option maxRecDepth 20000 in
theorem kc101_207 : zt_code 101 207 = some (.bipush (-6), 209, 0, 0, []) := rfl
set_option maxRecDepth 20000 in
theorem kc101_209 : zt_code 101 209 = some (.ireturn, 210, 0, 0, []) := rfl
set_option maxRecDepth 20000 in
theorem kc101_210 : zt_code 101 210 = some (.aload_n 0, 211, 0, 0, []) := rfl
set_option maxRecDepth 20000 in
theorem kc101_211 : zt_code 101 211 = some (.getfield 93, 214, 8, 20, []) := rfl
set_option maxRecDepth 20000 in
theorem kc101_214 : zt_code 101 214 = some (.ifCond .le 31, 217, 245, 0, []) := rfl
set_option maxRecDepth 20000 in
theorem kc101_217 : zt_code 101 217 = some (.aload_n 0, 218, 0, 0, []) := rfl
set_option maxRecDepth 20000 in
theorem kc101_218 : zt_code 101 218 = some (.aload_n 0, 219, 0, 0, []) := rfl
set_option maxRecDepth 20000 in
theorem kc101_219 : zt_code 101 219 = some (.getfield 93, 222, 8, 20, []) := rfl
set_option maxRecDepth 20000 in
theorem kc101_222 : zt_code 101 222 = some (.invokevirtual 87, 225, 81, 1, []) := rfl
set_option maxRecDepth 20000 in
theorem kc101_225 : zt_code 101 225 = some (.iconst 1, 226, 0, 0, []) := rfl
set_option maxRecDepth 20000 in
theorem kc101_226 : zt_code 101 226 = some (.if_icmp .ne 19, 229, 245, 0, []) := rfl
set_option maxRecDepth 20000 in
theorem kc101_229 : zt_code 101 229 = some (.aload_n 0, 230, 0, 0, []) := rfl
set_option maxRecDepth 20000 in
theorem kc101_230 : zt_code 101 230 = some (.getfield 26, 233, 8, 7, []) := rfl
set_option maxRecDepth 20000 in
theorem kc101_233 : zt_code 101 233 = some (.aload_n 0, 234, 0, 0, []) := rfl
set_option maxRecDepth 20000 in
theorem kc101_234 : zt_code 101 234 = some (.getfield 93, 237, 8, 20, []) := rfl
set_option maxRecDepth 20000 in
theorem kc101_237 : zt_code 101 237 = some (.iaload, 238, 0, 0, []) := rfl
set_option maxRecDepth 20000 in
theorem kc101_238 : zt_code 101 238 = some (.ifCond .ne 7, 241, 245, 0, []) := rfl
set_option maxRecDepth 20000 in
theorem kc101_241 : zt_code 101 241 = some (.iconst 1, 242, 0, 0, []) := rfl
set_option maxRecDepth 20000 in
theorem kc101_242 : zt_code 101 242 = some (.goto 4, 245, 246, 0, []) := rfl
set_option maxRecDepth 20000 in
theorem kc101_245 : zt_code 101 245 = some (.iconst 0, 246, 0, 0, []) := rfl
set_option maxRecDepth 20000 in
theorem kc101_246 : zt_code 101 246 = some (.istore 7, 248, 0, 0, []) := rfl
set_option maxRecDepth 20000 in
theorem kc101_248 : zt_code 101 248 = some (.aload_n 0, 249, 0, 0, []) := rfl
set_option maxRecDepth 20000 in
theorem kc101_249 : zt_code 101 249 = some (.aload_n 0, 250, 0, 0, []) := rfl
set_option maxRecDepth 20000 in
theorem kc101_250 : zt_code 101 250 = some (.getfield 75, 253, 8, 17, []) := rfl
set_option maxRecDepth 20000 in
theorem kc101_253 : zt_code 101 253 = some (.invokevirtual 84, 256, 82, 1, []) := rfl
set_option maxRecDepth 20000 in
theorem kc101_256 : zt_code 101 256 = some (.iconst 1, 257, 0, 0, []) := rfl
set_option maxRecDepth 20000 in
theorem kc101_257 : zt_code 101 257 = some (.iadd, 258, 0, 0, []) := rfl
set_option maxRecDepth 20000 in
theorem kc101_258 : zt_code 101 258 = some (.aload_n 0, 259, 0, 0, []) := rfl
set_option maxRecDepth 20000 in
theorem kc101_259 : zt_code 101 259 = some (.getfield 37, 262, 8, 11, []) := rfl
set_option maxRecDepth 20000 in
theorem kc101_262 : zt_code 101 262 = some (.iload 4, 264, 0, 0, []) := rfl
set_option maxRecDepth 20000 in
theorem kc101_264 : zt_code 101 264 = some (.iaload, 265, 0, 0, []) := rfl
set_option maxRecDepth 20000 in
theorem kc101_265 : zt_code 101 265 = some (.aload_n 0, 266, 0, 0, []) := rfl
set_option maxRecDepth 20000 in
theorem kc101_266 : zt_code 101 266 = some (.getfield 75, 269, 8, 17, []) := rfl
set_option maxRecDepth 20000 in
theorem kc101_269 : zt_code 101 269 = some (.if_icmp .ne 7, 272, 276, 0, []) := rfl
set_option maxRecDepth 20000 in
theorem kc101_272 : zt_code 101 272 = some (.iconst 1, 273, 0, 0, []) := rfl
set_option maxRecDepth 20000 in
theorem kc101_273 : zt_code 101 273 = some (.goto 4, 276, 277, 0, []) := rfl
set_option maxRecDepth 20000 in
theorem kc101_276 : zt_code 101 276 = some (.iconst 0, 277, 0, 0, []) := rfl
set_option maxRecDepth 20000 in
theorem kc101_277 : zt_code 101 277 = some (.isub, 278, 0, 0, []) := rfl
set_option maxRecDepth 20000 in
theorem kc101_278 : zt_code 101 278 = some (.aload_n 0, 279, 0, 0, []) := rfl
set_option maxRecDepth 20000 in
theorem kc101_279 : zt_code 101 279 = some (.getfield 93, 282, 8, 20, []) := rfl
set_option maxRecDepth 20000 in
theorem kc101_282 : zt_code 101 282 = some (.ifCond .le 7, 285, 289, 0, []) := rfl
set_option maxRecDepth 20000 in
theorem kc101_285 : zt_code 101 285 = some (.iconst 1, 286, 0, 0, []) := rfl
set_option maxRecDepth 20000 in
theorem kc101_286 : zt_code 101 286 = some (.goto 4, 289, 290, 0, []) := rfl
set_option maxRecDepth 20000 in
theorem kc101_289 : zt_code 101 289 = some (.iconst 0, 290, 0, 0, []) := rfl
set_option maxRecDepth 20000 in
theorem kc101_290 : zt_code 101 290 = some (.isub, 291, 0, 0, []) := rfl
set_option maxRecDepth 20000 in
theorem kc101_291 : zt_code 101 291 = some (.istore 8, 293, 0, 0, []) := rfl
set_option maxRecDepth 20000 in
theorem kc101_293 : zt_code 101 293 = some (.aload_n 0, 294, 0, 0, []) := rfl
set_option maxRecDepth 20000 in
theorem kc101_294 : zt_code 101 294 = some (.invokevirtual 119, 297, 79, 0, []) := rfl
set_option maxRecDepth 20000 in
theorem kc101_297 : zt_code 101 297 = some (.iload 7, 299, 0, 0, []) := rfl
set_option maxRecDepth 20000 in
theorem kc101_299 : zt_code 101 299 = some (.ifCond .eq 14, 302, 313, 0, []) := rfl
set_option maxRecDepth 20000 in
theorem kc101_302 : zt_code 101 302 = some (.aload_n 0, 303, 0, 0, []) := rfl
set_option maxRecDepth 20000 in
theorem kc101_303 : zt_code 101 303 = some (.aload_n 0, 304, 0, 0, []) := rfl
set_option maxRecDepth 20000 in
theorem kc101_304 : zt_code 101 304 = some (.getfield 93, 307, 8, 20, []) := rfl
set_option maxRecDepth 20000 in
theorem kc101_307 : zt_code 101 307 = some (.invokevirtual 65, 310, 78, 1, []) := rfl
set_option maxRecDepth 20000 in
theorem kc101_310 : zt_code 101 310 = some (.goto 4, 313, 314, 0, []) := rfl
set_option maxRecDepth 20000 in
theorem kc101_313 : zt_code 101 313 = some (.iconst 0, 314, 0, 0, []) := rfl
set_option maxRecDepth 20000 in
theorem kc101_314 : zt_code 101 314 = some (.isub, 315, 0, 0, []) := rfl
set_option maxRecDepth 20000 in
theorem kc101_315 : zt_code 101 315 = some (.aload_n 0, 316, 0, 0, []) := rfl
set_option maxRecDepth 20000 in
theorem kc101_316 : zt_code 101 316 = some (.aload_n 0, 317, 0, 0, []) := rfl
set_option maxRecDepth 20000 in
theorem kc101_317 : zt_code 101 317 = some (.getfield 75, 320, 8, 17, []) := rfl
set_option maxRecDepth 20000 in
theorem kc101_320 : zt_code 101 320 = some (.iload 8, 322, 0, 0, []) := rfl
set_option maxRecDepth 20000 in
theorem kc101_322 : zt_code 101 322 = some (.invokevirtual 123, 325, 86, 2, []) := rfl
set_option maxRecDepth 20000 in
theorem kc101_325 : zt_code 101 325 = some (.iadd, 326, 0, 0, []) := rfl
set_option maxRecDepth 20000 in
theorem kc101_326 : zt_code 101 326 = some (.aload_n 0, 327, 0, 0, []) := rfl
set_option maxRecDepth 20000 in
theorem kc101_327 : zt_code 101 327 = some (.getfield 7, 330, 8, 0, []) := rfl
set_option maxRecDepth 20000 in
theorem kc101_330 : zt_code 101 330 = some (.if_icmp .le 6, 333, 336, 0, []) := rfl
set_option maxRecDepth 20000 in
theorem kc101_333 : zt_code 101 333 = some (.bipush (-7), 335, 0, 0, []) := rfl
set_option maxRecDepth 20000 in
theorem kc101_335 : zt_code 101 335 = some (.ireturn, 336, 0, 0, []) := rfl
set_option maxRecDepth 20000 in
theorem kc101_336 : zt_code 101 336 = some (.aload_n 0, 337, 0, 0, []) := rfl
set_option maxRecDepth 20000 in
theorem kc101_337 : zt_code 101 337 = some (.getfield 26, 340, 8, 7, []) := rfl
set_option maxRecDepth 20000 in
theorem kc101_340 : zt_code 101 340 = some (.iload_n 3, 341, 0, 0, []) := rfl
set_option maxRecDepth 20000 in
theorem kc101_341 : zt_code 101 341 = some (.dup2, 342, 0, 0, []) := rfl
set_option maxRecDepth 20000 in
theorem kc101_342 : zt_code 101 342 = some (.iaload, 343, 0, 0, []) := rfl
set_option maxRecDepth 20000 in
theorem kc101_343 : zt_code 101 343 = some (.iconst 1, 344, 0, 0, []) := rfl
set_option maxRecDepth 20000 in
theorem kc101_344 : zt_code 101 344 = some (.iadd, 345, 0, 0, []) := rfl
set_option maxRecDepth 20000 in
theorem kc101_345 : zt_code 101 345 = some (.iastore, 346, 0, 0, []) := rfl
set_option maxRecDepth 20000 in
theorem kc101_346 : zt_code 101 346 = some (.aload_n 0, 347, 0, 0, []) := rfl
set_option maxRecDepth 20000 in
theorem kc101_347 : zt_code 101 347 = some (.iload 4, 349, 0, 0, []) := rfl
set_option maxRecDepth 20000 in
theorem kc101_349 : zt_code 101 349 = some (.invokevirtual 139, 352, 88, 1, []) := rfl
set_option maxRecDepth 20000 in
theorem kc101_352 : zt_code 101 352 = some (.aload_n 0, 353, 0, 0, []) := rfl
set_option maxRecDepth 20000 in
theorem kc101_353 : zt_code 101 353 = some (.getfield 93, 356, 8, 20, []) := rfl
set_option maxRecDepth 20000 in
theorem kc101_356 : zt_code 101 356 = some (.ifCond .le 23, 359, 379, 0, []) := rfl
set_option maxRecDepth 20000 in
theorem kc101_359 : zt_code 101 359 = some (.aload_n 0, 360, 0, 0, []) := rfl
set_option maxRecDepth 20000 in
theorem kc101_360 : zt_code 101 360 = some (.aload_n 0, 361, 0, 0, []) := rfl
set_option maxRecDepth 20000 in
theorem kc101_361 : zt_code 101 361 = some (.aload_n 0, 362, 0, 0, []) := rfl
set_option maxRecDepth 20000 in
theorem kc101_362 : zt_code 101 362 = some (.getfield 75, 365, 8, 17, []) := rfl
set_option maxRecDepth 20000 in
theorem kc101_365 : zt_code 101 365 = some (.aload_n 0, 366, 0, 0, []) := rfl
set_option maxRecDepth 20000 in
theorem kc101_366 : zt_code 101 366 = some (.getfield 81, 369, 8, 18, []) := rfl
set_option maxRecDepth 20000 in
theorem kc101_369 : zt_code 101 369 = some (.aload_n 0, 370, 0, 0, []) := rfl
set_option maxRecDepth 20000 in
theorem kc101_370 : zt_code 101 370 = some (.getfield 78, 373, 8, 19, []) := rfl
set_option maxRecDepth 20000 in
theorem kc101_373 : zt_code 101 373 = some (.invokevirtual 107, 376, 85, 3, []) := rfl
set_option maxRecDepth 20000 in
theorem kc101_376 : zt_code 101 376 = some (.invokevirtual 139, 379, 88, 1, []) := rfl
set_option maxRecDepth 20000 in
theorem kc101_379 : zt_code 101 379 = some (.aload_n 0, 380, 0, 0, []) := rfl
set_option maxRecDepth 20000 in
theorem kc101_380 : zt_code 101 380 = some (.getfield 26, 383, 8, 7, []) := rfl
set_option maxRecDepth 20000 in
theorem kc101_383 : zt_code 101 383 = some (.iload_n 3, 384, 0, 0, []) := rfl
set_option maxRecDepth 20000 in
theorem kc101_384 : zt_code 101 384 = some (.dup2, 385, 0, 0, []) := rfl
set_option maxRecDepth 20000 in
theorem kc101_385 : zt_code 101 385 = some (.iaload, 386, 0, 0, []) := rfl
set_option maxRecDepth 20000 in
theorem kc101_386 : zt_code 101 386 = some (.iconst 1, 387, 0, 0, []) := rfl
set_option maxRecDepth 20000 in
theorem kc101_387 : zt_code 101 387 = some (.isub, 388, 0, 0, []) := rfl
set_option maxRecDepth 20000 in
theorem kc101_388 : zt_code 101 388 = some (.iastore, 389, 0, 0, []) := rfl
set_option maxRecDepth 20000 in
theorem kc101_389 : zt_code 101 389 = some (.aload_n 0, 390, 0, 0, []) := rfl
set_option maxRecDepth 20000 in
theorem kc101_390 : zt_code 101 390 = some (.iload_n 3, 391, 0, 0, []) := rfl
set_option maxRecDepth 20000 in
theorem kc101_391 : zt_code 101 391 = some (.invokevirtual 127, 394, 87, 1, []) := rfl
set_option maxRecDepth 20000 in
theorem kc101_394 : zt_code 101 394 = some (.iload_n 3, 395, 0, 0, []) := rfl
set_option maxRecDepth 20000 in
theorem kc101_395 : zt_code 101 395 = some (.ireturn, 396, 0, 0, []) := rfl
theorem kc102_0 : zt_code 102 0 = some (.aload_n 0, 1, 0, 0, []) := rfl
theorem kc102_1 : zt_code 102 1 = some (.invokevirtual 130, 4, 76, 0, []) := rfl
theorem kc102_4 : zt_code 102 4 = some (.istore_n 2, 5, 0, 0, []) := rfl
theorem kc102_5 : zt_code 102 5 = some (.iload_n 2, 6, 0, 0, []) := rfl
theorem kc102_6 : zt_code 102 6 = some (.iconst (-1), 7, 0, 0, []) := rfl
theorem kc102_7 : zt_code 102 7 = some (.if_icmp .eq 5, 10, 12, 0, []) := rfl
theorem kc102_10 : zt_code 102 10 = some (.iconst (-1), 11, 0, 0, []) := rfl
theorem kc102_11 : zt_code 102 11 = some (.ireturn, 12, 0, 0, []) := rfl
theorem kc102_12 : zt_code 102 12 = some (.aload_n 0, 13, 0, 0, []) := rfl
theorem kc102_13 : zt_code 102 13 = some (.iconst 0, 14, 0, 0, []) := rfl
theorem kc102_14 : zt_code 102 14 = some (.aload_n 0, 15, 0, 0, []) := rfl
theorem kc102_15 : zt_code 102 15 = some (.getfield 58, 18, 8, 3, []) := rfl
theorem kc102_18 : zt_code 102 18 = some (.iload_n 1, 19, 0, 0, []) := rfl
theorem kc102_19 : zt_code 102 19 = some (.invokevirtual 115, 22, 90, 3, []) := rfl
theorem kc102_22 : zt_code 102 22 = some (.istore_n 3, 23, 0, 0, []) := rfl
theorem kc102_23 : zt_code 102 23 = some (.iload_n 3, 24, 0, 0, []) := rfl
theorem kc102_24 : zt_code 102 24 = some (.ifCond .ge 7, 27, 31, 0, []) := rfl
theorem kc102_27 : zt_code 102 27 = some (.iload_n 3, 28, 0, 0, []) := rfl
theorem kc102_28 : zt_code 102 28 = some (.goto 19, 31, 47, 0, []) := rfl
theorem kc102_31 : zt_code 102 31 = some (.aload_n 0, 32, 0, 0, []) := rfl
theorem kc102_32 : zt_code 102 32 = some (.getfield 93, 35, 8, 20, []) := rfl
theorem kc102_35 : zt_code 102 35 = some (.ifCond .ne 8, 38, 43, 0, []) := rfl
theorem kc102_38 : zt_code 102 38 = some (.bipush (-2), 40, 0, 0, []) := rfl
theorem kc102_40 : zt_code 102 40 = some (.goto 7, 43, 47, 0, []) := rfl
theorem kc102_43 : zt_code 102 43 = some (.aload_n 0, 44, 0, 0, []) := rfl
theorem kc102_44 : zt_code 102 44 = some (.getfield 93, 47, 8, 20, []) := rfl
theorem kc102_47 : zt_code 102 47 = some (.ireturn, 48, 0, 0, []) := rfl
theorem kc103_0 : zt_code 103 0 = some (.aload_n 0, 1, 0, 0, []) := rfl
theorem kc103_1 : zt_code 103 1 = some (.invokevirtual 130, 4, 76, 0, []) := rfl
theorem kc103_4 : zt_code 103 4 = some (.istore_n 1, 5, 0, 0, []) := rfl
theorem kc103_5 : zt_code 103 5 = some (.iload_n 1, 6, 0, 0, []) := rfl
theorem kc103_6 : zt_code 103 6 = some (.iconst (-1), 7, 0, 0, []) := rfl
theorem kc103_7 : zt_code 103 7 = some (.if_icmp .eq 5, 10, 12, 0, []) := rfl
theorem kc103_10 : zt_code 103 10 = some (.iconst (-1), 11, 0, 0, []) := rfl
theorem kc103_11 : zt_code 103 11 = some (.ireturn, 12, 0, 0, []) := rfl
theorem kc103_12 : zt_code 103 12 = some (.aload_n 0, 13, 0, 0, []) := rfl
theorem kc103_13 : zt_code 103 13 = some (.iconst 0, 14, 0, 0, []) := rfl
theorem kc103_14 : zt_code 103 14 = some (.aload_n 0, 15, 0, 0, []) := rfl
theorem kc103_15 : zt_code 103 15 = some (.getfield 58, 18, 8, 3, []) := rfl
theorem kc103_18 : zt_code 103 18 = some (.iconst 1, 19, 0, 0, []) := rfl
theorem kc103_19 : zt_code 103 19 = some (.invokevirtual 115, 22, 90, 3, []) := rfl
theorem kc103_22 : zt_code 103 22 = some (.istore_n 2, 23, 0, 0, []) := rfl
theorem kc103_23 : zt_code 103 23 = some (.iload_n 2, 24, 0, 0, []) := rfl
theorem kc103_24 : zt_code 103 24 = some (.ifCond .ge 5, 27, 29, 0, []) := rfl
theorem kc103_27 : zt_code 103 27 = some (.iload_n 2, 28, 0, 0, []) := rfl
theorem kc103_28 : zt_code 103 28 = some (.ireturn, 29, 0, 0, []) := rfl
theorem kc103_29 : zt_code 103 29 = some (.aload_n 0, 30, 0, 0, []) := rfl
theorem kc103_30 : zt_code 103 30 = some (.getfield 93, 33, 8, 20, []) := rfl
theorem kc103_33 : zt_code 103 33 = some (.ifCond .ne 6, 36, 39, 0, []) := rfl
theorem kc103_36 : zt_code 103 36 = some (.bipush (-2), 38, 0, 0, []) := rfl
theorem kc103_38 : zt_code 103 38 = some (.ireturn, 39, 0, 0, []) := rfl
theorem kc103_39 : zt_code 103 39 = some (.aload_n 0, 40, 0, 0, []) := rfl
theorem kc103_40 : zt_code 103 40 = some (.getfield 20, 43, 8, 5, []) := rfl
theorem kc103_43 : zt_code 103 43 = some (.aload_n 0, 44, 0, 0, []) := rfl
theorem kc103_44 : zt_code 103 44 = some (.getfield 93, 47, 8, 20, []) := rfl
theorem kc103_47 : zt_code 103 47 = some (.iaload, 48, 0, 0, []) := rfl
theorem kc103_48 : zt_code 103 48 = some (.iconst 1, 49, 0, 0, []) := rfl
theorem kc103_49 : zt_code 103 49 = some (.if_icmp .ne 17, 52, 66, 0, []) := rfl
theorem kc103_52 : zt_code 103 52 = some (.aload_n 0, 53, 0, 0, []) := rfl
theorem kc103_53 : zt_code 103 53 = some (.getfield 26, 56, 8, 7, []) := rfl
theorem kc103_56 : zt_code 103 56 = some (.aload_n 0, 57, 0, 0, []) := rfl
theorem kc103_57 : zt_code 103 57 = some (.getfield 93, 60, 8, 20, []) := rfl
theorem kc103_60 : zt_code 103 60 = some (.iaload, 61, 0, 0, []) := rfl
theorem kc103_61 : zt_code 103 61 = some (.bipush 100, 63, 0, 0, []) := rfl
theorem kc103_63 : zt_code 103 63 = some (.if_icmp .ne 5, 66, 68, 0, []) := rfl
theorem kc103_66 : zt_code 103 66 = some (.iconst (-1), 67, 0, 0, []) := rfl
theorem kc103_67 : zt_code 103 67 = some (.ireturn, 68, 0, 0, []) := rfl
theorem kc103_68 : zt_code 103 68 = some (.aload_n 0, 69, 0, 0, []) := rfl
theorem kc103_69 : zt_code 103 69 = some (.getfield 26, 72, 8, 7, []) := rfl
theorem kc103_72 : zt_code 103 72 = some (.aload_n 0, 73, 0, 0, []) := rfl
theorem kc103_73 : zt_code 103 73 = some (.getfield 93, 76, 8, 20, []) := rfl
theorem kc103_76 : zt_code 103 76 = some (.dup2, 77, 0, 0, []) := rfl
theorem kc103_77 : zt_code 103 77 = some (.iaload, 78, 0, 0, []) := rfl
theorem kc103_78 : zt_code 103 78 = some (.iconst 1, 79, 0, 0, []) := rfl
theorem kc103_79 : zt_code 103 79 = some (.iadd, 80, 0, 0, []) := rfl
theorem kc103_80 : zt_code 103 80 = some (.iastore, 81, 0, 0, []) := rfl
theorem kc103_81 : zt_code 103 81 = some (.aload_n 0, 82, 0, 0, []) := rfl
theorem kc103_82 : zt_code 103 82 = some (.getfield 93, 85, 8, 20, []) := rfl
theorem kc103_85 : zt_code 103 85 = some (.ireturn, 86, 0, 0, []) := rfl
theorem kc104_0 : zt_code 104 0 = some (.iload_n 1, 1, 0, 0, []) := rfl
theorem kc104_1 : zt_code 104 1 = some (.iconst 1, 2, 0, 0, []) := rfl
theorem kc104_2 : zt_code 104 2 = some (.if_icmp .lt 22, 5, 24, 0, []) := rfl
theorem kc104_5 : zt_code 104 5 = some (.iload_n 1, 6, 0, 0, []) := rfl
theorem kc104_6 : zt_code 104 6 = some (.bipush 40, 8, 0, 0, []) := rfl
theorem kc104_8 : zt_code 104 8 = some (.if_icmp .gt 16, 11, 24, 0, []) := rfl
theorem kc104_11 : zt_code 104 11 = some (.aload_n 0, 12, 0, 0, []) := rfl
theorem kc104_12 : zt_code 104 12 = some (.getfield 20, 15, 8, 5, []) := rfl
theorem kc104_15 : zt_code 104 15 = some (.iload_n 1, 16, 0, 0, []) := rfl
theorem kc104_16 : zt_code 104 16 = some (.iaload, 17, 0, 0, []) := rfl
theorem kc104_17 : zt_code 104 17 = some (.ifCond .le 7, 20, 24, 0, []) := rfl
theorem kc104_20 : zt_code 104 20 = some (.iconst 1, 21, 0, 0, []) := rfl
theorem kc104_21 : zt_code 104 21 = some (.goto 4, 24, 25, 0, []) := rfl
theorem kc104_24 : zt_code 104 24 = some (.iconst 0, 25, 0, 0, []) := rfl
theorem kc104_25 : zt_code 104 25 = some (.ireturn, 26, 0, 0, []) := rfl
theorem kc105_0 : zt_code 105 0 = some (.aload_n 0, 1, 0, 0, []) := rfl
theorem kc105_1 : zt_code 105 1 = some (.iload_n 1, 2, 0, 0, []) := rfl
theorem kc105_2 : zt_code 105 2 = some (.invokevirtual 146, 5, 104, 1, []) := rfl
theorem kc105_5 : zt_code 105 5 = some (.ifCond .eq 12, 8, 17, 0, []) := rfl
theorem kc105_8 : zt_code 105 8 = some (.aload_n 0, 9, 0, 0, []) := rfl
theorem kc105_9 : zt_code 105 9 = some (.getfield 26, 12, 8, 7, []) := rfl
theorem kc105_12 : zt_code 105 12 = some (.iload_n 1, 13, 0, 0, []) := rfl
theorem kc105_13 : zt_code 105 13 = some (.iaload, 14, 0, 0, []) := rfl
theorem kc105_14 : zt_code 105 14 = some (.ifCond .ne 5, 17, 19, 0, []) := rfl
theorem kc105_17 : zt_code 105 17 = some (.iconst (-1), 18, 0, 0, []) := rfl
theorem kc105_18 : zt_code 105 18 = some (.ireturn, 19, 0, 0, []) := rfl
theorem kc105_19 : zt_code 105 19 = some (.aload_n 0, 20, 0, 0, []) := rfl
theorem kc105_20 : zt_code 105 20 = some (.getfield 26, 23, 8, 7, []) := rfl
theorem kc105_23 : zt_code 105 23 = some (.iload_n 1, 24, 0, 0, []) := rfl
theorem kc105_24 : zt_code 105 24 = some (.dup2, 25, 0, 0, []) := rfl
theorem kc105_25 : zt_code 105 25 = some (.iaload, 26, 0, 0, []) := rfl
theorem kc105_26 : zt_code 105 26 = some (.iconst 1, 27, 0, 0, []) := rfl
theorem kc105_27 : zt_code 105 27 = some (.isub, 28, 0, 0, []) := rfl
theorem kc105_28 : zt_code 105 28 = some (.iastore, 29, 0, 0, []) := rfl
theorem kc105_29 : zt_code 105 29 = some (.aload_n 0, 30, 0, 0, []) := rfl
theorem kc105_30 : zt_code 105 30 = some (.iload_n 1, 31, 0, 0, []) := rfl
theorem kc105_31 : zt_code 105 31 = some (.invokevirtual 87, 34, 81, 1, []) := rfl
theorem kc105_34 : zt_code 105 34 = some (.istore_n 2, 35, 0, 0, []) := rfl
theorem kc105_35 : zt_code 105 35 = some (.iload_n 2, 36, 0, 0, []) := rfl
theorem kc105_36 : zt_code 105 36 = some (.ifCond .ne 19, 39, 55, 0, []) := rfl
theorem kc105_39 : zt_code 105 39 = some (.aload_n 0, 40, 0, 0, []) := rfl
theorem kc105_40 : zt_code 105 40 = some (.getfield 26, 43, 8, 7, []) := rfl
theorem kc105_43 : zt_code 105 43 = some (.iload_n 1, 44, 0, 0, []) := rfl
theorem kc105_44 : zt_code 105 44 = some (.iaload, 45, 0, 0, []) := rfl
theorem kc105_45 : zt_code 105 45 = some (.ifCond .ne 10, 48, 55, 0, []) := rfl
theorem kc105_48 : zt_code 105 48 = some (.aload_n 0, 49, 0, 0, []) := rfl
theorem kc105_49 : zt_code 105 49 = some (.getfield 20, 52, 8, 5, []) := rfl
theorem kc105_52 : zt_code 105 52 = some (.iload_n 1, 53, 0, 0, []) := rfl
theorem kc105_53 : zt_code 105 53 = some (.iconst 0, 54, 0, 0, []) := rfl
theorem kc105_54 : zt_code 105 54 = some (.iastore, 55, 0, 0, []) := rfl
theorem kc105_55 : zt_code 105 55 = some (.iload_n 2, 56, 0, 0, []) := rfl
theorem kc105_56 : zt_code 105 56 = some (.ireturn, 57, 0, 0, []) := rfl
theorem kc106_0 : zt_code 106 0 = some (.iconst 0, 1, 0, 0, []) := rfl
theorem kc106_1 : zt_code 106 1 = some (.istore_n 2, 2, 0, 0, []) := rfl
theorem kc106_2 : zt_code 106 2 = some (.iconst 0, 3, 0, 0, []) := rfl
theorem kc106_3 : zt_code 106 3 = some (.istore_n 3, 4, 0, 0, []) := rfl
theorem kc106_4 : zt_code 106 4 = some (.iload_n 3, 5, 0, 0, []) := rfl
theorem kc106_5 : zt_code 106 5 = some (.aload_n 0, 6, 0, 0, []) := rfl
theorem kc106_6 : zt_code 106 6 = some (.getfield 68, 9, 8, 10, []) := rfl
theorem kc106_9 : zt_code 106 9 = some (.if_icmp .ge 42, 12, 51, 0, []) := rfl
theorem kc106_12 : zt_code 106 12 = some (.iload_n 2, 13, 0, 0, []) := rfl
theorem kc106_13 : zt_code 106 13 = some (.aload_n 0, 14, 0, 0, []) := rfl
theorem kc106_14 : zt_code 106 14 = some (.getfield 37, 17, 8, 11, []) := rfl
theorem kc106_17 : zt_code 106 17 = some (.iload_n 3, 18, 0, 0, []) := rfl
theorem kc106_18 : zt_code 106 18 = some (.iaload, 19, 0, 0, []) := rfl
theorem kc106_19 : zt_code 106 19 = some (.iload_n 1, 20, 0, 0, []) := rfl
theorem kc106_20 : zt_code 106 20 = some (.if_icmp .ne 22, 23, 42, 0, []) := rfl
theorem kc106_23 : zt_code 106 23 = some (.aload_n 0, 24, 0, 0, []) := rfl
theorem kc106_24 : zt_code 106 24 = some (.getfield 20, 27, 8, 5, []) := rfl
theorem kc106_27 : zt_code 106 27 = some (.aload_n 0, 28, 0, 0, []) := rfl
theorem kc106_28 : zt_code 106 28 = some (.getfield 40, 31, 8, 12, []) := rfl
theorem kc106_31 : zt_code 106 31 = some (.iload_n 3, 32, 0, 0, []) := rfl
theorem kc106_32 : zt_code 106 32 = some (.iaload, 33, 0, 0, []) := rfl
theorem kc106_33 : zt_code 106 33 = some (.iaload, 34, 0, 0, []) := rfl
theorem kc106_34 : zt_code 106 34 = some (.iconst 2, 35, 0, 0, []) := rfl
theorem kc106_35 : zt_code 106 35 = some (.if_icmp .ne 7, 38, 42, 0, []) := rfl
theorem kc106_38 : zt_code 106 38 = some (.iconst 1, 39, 0, 0, []) := rfl
theorem kc106_39 : zt_code 106 39 = some (.goto 4, 42, 43, 0, []) := rfl
theorem kc106_42 : zt_code 106 42 = some (.iconst 0, 43, 0, 0, []) := rfl
theorem kc106_43 : zt_code 106 43 = some (.iadd, 44, 0, 0, []) := rfl
theorem kc106_44 : zt_code 106 44 = some (.istore_n 2, 45, 0, 0, []) := rfl
theorem kc106_45 : zt_code 106 45 = some (.iinc 3 1, 48, 0, 0, []) := rfl
theorem kc106_48 : zt_code 106 48 = some (.goto (-44), 51, 4, 0, []) := rfl
theorem kc106_51 : zt_code 106 51 = some (.iload_n 2, 52, 0, 0, []) := rfl
theorem kc106_52 : zt_code 106 52 = some (.ireturn, 53, 0, 0, []) := rfl
theorem kc107_0 : zt_code 107 0 = some (.aload_n 0, 1, 0, 0, []) := rfl
theorem kc107_1 : zt_code 107 1 = some (.iload_n 1, 2, 0, 0, []) := rfl
theorem kc107_2 : zt_code 107 2 = some (.invokevirtual 146, 5, 104, 1, []) := rfl
theorem kc107_5 : zt_code 107 5 = some (.ifCond .eq 12, 8, 17, 0, []) := rfl
theorem kc107_8 : zt_code 107 8 = some (.iload_n 2, 9, 0, 0, []) := rfl
theorem kc107_9 : zt_code 107 9 = some (.ifCond .lt 8, 12, 17, 0, []) := rfl
theorem kc107_12 : zt_code 107 12 = some (.iload_n 2, 13, 0, 0, []) := rfl
theorem kc107_13 : zt_code 107 13 = some (.iconst 4, 14, 0, 0, []) := rfl
theorem kc107_14 : zt_code 107 14 = some (.if_icmp .le 5, 17, 19, 0, []) := rfl
theorem kc107_17 : zt_code 107 17 = some (.iconst (-1), 18, 0, 0, []) := rfl
theorem kc107_18 : zt_code 107 18 = some (.ireturn, 19, 0, 0, []) := rfl
theorem kc107_19 : zt_code 107 19 = some (.aload_n 0, 20, 0, 0, []) := rfl
theorem kc107_20 : zt_code 107 20 = some (.getfield 20, 23, 8, 5, []) := rfl
theorem kc107_23 : zt_code 107 23 = some (.iload_n 1, 24, 0, 0, []) := rfl
theorem kc107_24 : zt_code 107 24 = some (.iaload, 25, 0, 0, []) := rfl
theorem kc107_25 : zt_code 107 25 = some (.iconst 2, 26, 0, 0, []) := rfl
theorem kc107_26 : zt_code 107 26 = some (.if_icmp .ne 7, 29, 33, 0, []) := rfl
theorem kc107_29 : zt_code 107 29 = some (.iconst 1, 30, 0, 0, []) := rfl
theorem kc107_30 : zt_code 107 30 = some (.goto 4, 33, 34, 0, []) := rfl
theorem kc107_33 : zt_code 107 33 = some (.iconst 0, 34, 0, 0, []) := rfl
theorem kc107_34 : zt_code 107 34 = some (.istore_n 3, 35, 0, 0, []) := rfl
theorem kc107_35 : zt_code 107 35 = some (.iload_n 2, 36, 0, 0, []) := rfl
theorem kc107_36 : zt_code 107 36 = some (.tableswitch 103 0 3 #[32, 39, 59, 97], 68, 139, 0, [(0, 68), (1, 75), (2, 95), (3, 133)]) := rfl
theorem kc107_68 : zt_code 107 68 = some (.aload_n 0, 69, 0, 0, []) := rfl
theorem kc107_69 : zt_code 107 69 = some (.getfield 20, 72, 8, 5, []) := rfl
theorem kc107_72 : zt_code 107 72 = some (.iload_n 1, 73, 0, 0, []) := rfl
theorem kc107_73 : zt_code 107 73 = some (.iaload, 74, 0, 0, []) := rfl
theorem kc107_74 : zt_code 107 74 = some (.ireturn, 75, 0, 0, []) := rfl
theorem kc107_75 : zt_code 107 75 = some (.iload_n 3, 76, 0, 0, []) := rfl
theorem kc107_76 : zt_code 107 76 = some (.ifCond .eq 13, 79, 89, 0, []) := rfl
theorem kc107_79 : zt_code 107 79 = some (.iconst 2, 80, 0, 0, []) := rfl
theorem kc107_80 : zt_code 107 80 = some (.aload_n 0, 81, 0, 0, []) := rfl
theorem kc107_81 : zt_code 107 81 = some (.iload_n 1, 82, 0, 0, []) := rfl
theorem kc107_82 : zt_code 107 82 = some (.invokevirtual 150, 85, 106, 1, []) := rfl
theorem kc107_85 : zt_code 107 85 = some (.iadd, 86, 0, 0, []) := rfl
theorem kc107_86 : zt_code 107 86 = some (.goto 8, 89, 94, 0, []) := rfl
theorem kc107_89 : zt_code 107 89 = some (.aload_n 0, 90, 0, 0, []) := rfl
theorem kc107_90 : zt_code 107 90 = some (.iload_n 1, 91, 0, 0, []) := rfl
theorem kc107_91 : zt_code 107 91 = some (.invokevirtual 87, 94, 81, 1, []) := rfl
theorem kc107_94 : zt_code 107 94 = some (.ireturn, 95, 0, 0, []) := rfl
theorem kc107_95 : zt_code 107 95 = some (.iload_n 3, 96, 0, 0, []) := rfl
theorem kc107_96 : zt_code 107 96 = some (.ifCond .eq 11, 99, 107, 0, []) := rfl
theorem kc107_99 : zt_code 107 99 = some (.aload_n 0, 100, 0, 0, []) := rfl
theorem kc107_100 : zt_code 107 100 = some (.iload_n 1, 101, 0, 0, []) := rfl
theorem kc107_101 : zt_code 107 101 = some (.invokevirtual 84, 104, 82, 1, []) := rfl
theorem kc107_104 : zt_code 107 104 = some (.goto 28, 107, 132, 0, []) := rfl
theorem kc107_107 : zt_code 107 107 = some (.aload_n 0, 108, 0, 0, []) := rfl
theorem kc107_108 : zt_code 107 108 = some (.getfield 20, 111, 8, 5, []) := rfl
theorem kc107_111 : zt_code 107 111 = some (.iload_n 1, 112, 0, 0, []) := rfl
theorem kc107_112 : zt_code 107 112 = some (.iaload, 113, 0, 0, []) := rfl
theorem kc107_113 : zt_code 107 113 = some (.iconst 3, 114, 0, 0, []) := rfl
theorem kc107_114 : zt_code 107 114 = some (.if_icmp .ne 12, 117, 126, 0, []) := rfl
theorem kc107_117 : zt_code 107 117 = some (.aload_n 0, 118, 0, 0, []) := rfl
theorem kc107_118 : zt_code 107 118 = some (.getfield 29, 121, 8, 8, []) := rfl
theorem kc107_121 : zt_code 107 121 = some (.iload_n 1, 122, 0, 0, []) := rfl
theorem kc107_122 : zt_code 107 122 = some (.iaload, 123, 0, 0, []) := rfl
theorem kc107_123 : zt_code 107 123 = some (.goto 9, 126, 132, 0, []) := rfl
theorem kc107_126 : zt_code 107 126 = some (.aload_n 0, 127, 0, 0, []) := rfl
theorem kc107_127 : zt_code 107 127 = some (.getfield 26, 130, 8, 7, []) := rfl
theorem kc107_130 : zt_code 107 130 = some (.iload_n 1, 131, 0, 0, []) := rfl
theorem kc107_131 : zt_code 107 131 = some (.iaload, 132, 0, 0, []) := rfl
theorem kc107_132 : zt_code 107 132 = some (.ireturn, 133, 0, 0, []) := rfl
theorem kc107_133 : zt_code 107 133 = some (.aload_n 0, 134, 0, 0, []) := rfl
theorem kc107_134 : zt_code 107 134 = some (.iload_n 1, 135, 0, 0, []) := rfl
theorem kc107_135 : zt_code 107 135 = some (.invokevirtual 65, 138, 78, 1, []) := rfl
theorem kc107_138 : zt_code 107 138 = some (.ireturn, 139, 0, 0, []) := rfl
theorem kc107_139 : zt_code 107 139 = some (.iload_n 3, 140, 0, 0, []) := rfl
theorem kc107_140 : zt_code 107 140 = some (.ifCond .eq 11, 143, 151, 0, []) := rfl
theorem kc107_143 : zt_code 107 143 = some (.aload_n 0, 144, 0, 0, []) := rfl
theorem kc107_144 : zt_code 107 144 = some (.iload_n 1, 145, 0, 0, []) := rfl
theorem kc107_145 : zt_code 107 145 = some (.invokevirtual 104, 148, 83, 1, []) := rfl
theorem kc107_148 : zt_code 107 148 = some (.goto 4, 151, 152, 0, []) := rfl
theorem kc107_151 : zt_code 107 151 = some (.iconst 0, 152, 0, 0, []) := rfl
theorem kc107_152 : zt_code 107 152 = some (.ireturn, 153, 0, 0, []) := rfl
theorem kc108_0 : zt_code 108 0 = some (.aload_n 0, 1, 0, 0, []) := rfl
theorem kc108_1 : zt_code 108 1 = some (.iload_n 1, 2, 0, 0, []) := rfl
theorem kc108_2 : zt_code 108 2 = some (.invokevirtual 146, 5, 104, 1, []) := rfl
theorem kc108_5 : zt_code 108 5 = some (.ifCond .eq 27, 8, 32, 0, []) := rfl
theorem kc108_8 : zt_code 108 8 = some (.aload_n 0, 9, 0, 0, []) := rfl
theorem kc108_9 : zt_code 108 9 = some (.getfield 20, 12, 8, 5, []) := rfl
theorem kc108_12 : zt_code 108 12 = some (.iload_n 1, 13, 0, 0, []) := rfl
theorem kc108_13 : zt_code 108 13 = some (.iaload, 14, 0, 0, []) := rfl
theorem kc108_14 : zt_code 108 14 = some (.iconst 3, 15, 0, 0, []) := rfl
theorem kc108_15 : zt_code 108 15 = some (.if_icmp .ne 17, 18, 32, 0, []) := rfl
theorem kc108_18 : zt_code 108 18 = some (.iload_n 2, 19, 0, 0, []) := rfl
theorem kc108_19 : zt_code 108 19 = some (.ifCond .lt 13, 22, 32, 0, []) := rfl
theorem kc108_22 : zt_code 108 22 = some (.iload_n 2, 23, 0, 0, []) := rfl
theorem kc108_23 : zt_code 108 23 = some (.aload_n 0, 24, 0, 0, []) := rfl
theorem kc108_24 : zt_code 108 24 = some (.getfield 29, 27, 8, 8, []) := rfl
theorem kc108_27 : zt_code 108 27 = some (.iload_n 1, 28, 0, 0, []) := rfl
theorem kc108_28 : zt_code 108 28 = some (.iaload, 29, 0, 0, []) := rfl
theorem kc108_29 : zt_code 108 29 = some (.if_icmp .lt 7, 32, 36, 0, []) := rfl
theorem kc108_32 : zt_code 108 32 = some (.iconst (-1), 33, 0, 0, []) := rfl
theorem kc108_33 : zt_code 108 33 = some (.goto 19, 36, 52, 0, []) := rfl
theorem kc108_36 : zt_code 108 36 = some (.aload_n 0, 37, 0, 0, []) := rfl
theorem kc108_37 : zt_code 108 37 = some (.getfield 33, 40, 8, 9, []) := rfl
theorem kc108_40 : zt_code 108 40 = some (.sipush 1000, 43, 0, 0, []) := rfl
theorem kc108_43 : zt_code 108 43 = some (.iload_n 1, 44, 0, 0, []) := rfl
theorem kc108_44 : zt_code 108 44 = some (.imul, 45, 0, 0, []) := rfl
theorem kc108_45 : zt_code 108 45 = some (.iload_n 2, 46, 0, 0, []) := rfl
theorem kc108_46 : zt_code 108 46 = some (.iadd, 47, 0, 0, []) := rfl
theorem kc108_47 : zt_code 108 47 = some (.baload, 48, 0, 0, []) := rfl
theorem kc108_48 : zt_code 108 48 = some (.sipush 255, 51, 0, 0, []) := rfl
theorem kc108_51 : zt_code 108 51 = some (.iand, 52, 0, 0, []) := rfl
theorem kc108_52 : zt_code 108 52 = some (.ireturn, 53, 0, 0, []) := rfl
theorem kc109_0 : zt_code 109 0 = some (.iload_n 1, 1, 0, 0, []) := rfl
theorem kc109_1 : zt_code 109 1 = some (.ifCond .ne 10, 4, 11, 0, []) := rfl
theorem kc109_4 : zt_code 109 4 = some (.aload_n 0, 5, 0, 0, []) := rfl
theorem kc109_5 : zt_code 109 5 = some (.invokevirtual 153, 8, 80, 0, []) := rfl
theorem kc109_8 : zt_code 109 8 = some (.goto 40, 11, 48, 0, []) := rfl
theorem kc109_11 : zt_code 109 11 = some (.iload_n 1, 12, 0, 0, []) := rfl
theorem kc109_12 : zt_code 109 12 = some (.iconst 1, 13, 0, 0, []) := rfl
theorem kc109_13 : zt_code 109 13 = some (.if_icmp .ne 10, 16, 23, 0, []) := rfl
theorem kc109_16 : zt_code 109 16 = some (.aload_n 0, 17, 0, 0, []) := rfl
theorem kc109_17 : zt_code 109 17 = some (.getfield 68, 20, 8, 10, []) := rfl
theorem kc109_20 : zt_code 109 20 = some (.goto 28, 23, 48, 0, []) := rfl
theorem kc109_23 : zt_code 109 23 = some (.iload_n 1, 24, 0, 0, []) := rfl
theorem kc109_24 : zt_code 109 24 = some (.iconst 2, 25, 0, 0, []) := rfl
theorem kc109_25 : zt_code 109 25 = some (.if_icmp .ne 10, 28, 35, 0, []) := rfl
theorem kc109_28 : zt_code 109 28 = some (.aload_n 0, 29, 0, 0, []) := rfl
theorem kc109_29 : zt_code 109 29 = some (.getfield 53, 32, 8, 1, []) := rfl
theorem kc109_32 : zt_code 109 32 = some (.goto 16, 35, 48, 0, []) := rfl
theorem kc109_35 : zt_code 109 35 = some (.iload_n 1, 36, 0, 0, []) := rfl
theorem kc109_36 : zt_code 109 36 = some (.iconst 3, 37, 0, 0, []) := rfl
theorem kc109_37 : zt_code 109 37 = some (.if_icmp .ne 10, 40, 47, 0, []) := rfl
theorem kc109_40 : zt_code 109 40 = some (.aload_n 0, 41, 0, 0, []) := rfl
theorem kc109_41 : zt_code 109 41 = some (.invokevirtual 119, 44, 79, 0, []) := rfl
theorem kc109_44 : zt_code 109 44 = some (.goto 4, 47, 48, 0, []) := rfl
theorem kc109_47 : zt_code 109 47 = some (.iconst (-1), 48, 0, 0, []) := rfl
theorem kc109_48 : zt_code 109 48 = some (.ireturn, 49, 0, 0, []) := rfl
end
section
/-! rows over numbers: ints that are nI of a natural number -/
section
variable {d M pc np x y : Nat} {sw : List (Int × Nat)} {ls st : List Value} {h : zm_H} {Q : Option Value → zm_H → Prop}
theorem wn_iadd {a b : Nat} (c : Nat) (hc : zt_code M pc = some (.iadd, np, x, y, sw)) (e : a + b = c) (kk : zm_wp d M np ls (.int (nI c) :: st) h Q) : zm_wp d M pc ls (.int (nI b) :: .int (nI a) :: st) h Q := by
  subst e
  refine wx_iadd hc ?_
  rw [nI_add]
  exact kk
theorem wn_isub {a b : Nat} (c : Nat) (hc : zt_code M pc = some (.isub, np, x, y, sw)) (e : b + c = a) (kk : zm_wp d M np ls (.int (nI c) :: st) h Q) : zm_wp d M pc ls (.int (nI b) :: .int (nI a) :: st) h Q := by
  subst e
  refine wx_isub hc ?_
  rw [pk_sub (Nat.le_add_right b c), Nat.add_sub_cancel_left]
  exact kk
theorem wn_imul {a b : Nat} (c : Nat) (hc : zt_code M pc = some (.imul, np, x, y, sw)) (e : a * b = c) (kk : zm_wp d M np ls (.int (nI c) :: st) h Q) : zm_wp d M pc ls (.int (nI b) :: .int (nI a) :: st) h Q := by
  subst e
  refine wx_imul hc ?_
  rw [pk_mul]
  exact kk
theorem wn_iinc {j a : Nat} (c : Nat) {ls' : List Value} (hc : zt_code M pc = some (.iinc j 1, np, x, y, sw)) (hv : ls[j]? = some (.int (nI a))) (hj : Nat.blt j ls.length = true) (hn : zm_nl ls j = true) (e : a + 1 = c) (hs : ls.set j (.int (nI c)) = ls') (kk : zm_wp d M np ls' st h Q) : zm_wp d M pc ls st h Q := by
  subst e
  exact wx_iinc hc hv hj hn (nI_1 a) hs kk
theorem wn_idec {j a : Nat} (c : Nat) {ls' : List Value} (hc : zt_code M pc = some (.iinc j (-1), np, x, y, sw)) (hv : ls[j]? = some (.int (nI a))) (hj : Nat.blt j ls.length = true) (hn : zm_nl ls j = true) (e : c + 1 = a) (hs : ls.set j (.int (nI c)) = ls') (kk : zm_wp d M np ls' st h Q) : zm_wp d M pc ls st h Q := by
  subst e
  exact wx_iinc hc hv hj hn (pk_m1 c) hs kk
theorem wn_icmp_eq {a b : Nat} {o : Int} (hc : zt_code M pc = some (.if_icmp .eq o, np, x, y, sw)) (ha : a < 2147483648) (hb : b < 2147483648) (kt : a = b → zm_wp d M x ls st h Q) (kf : a ≠ b → zm_wp d M np ls st h Q) : zm_wp d M pc ls (.int (nI b) :: .int (nI a) :: st) h Q :=
  wx_icmp_eq hc (fun q => kt ((nI_eq ha hb).mp q)) (fun q => kf (fun z => q ((nI_eq ha hb).mpr z)))
theorem wn_icmp_ne {a b : Nat} {o : Int} (hc : zt_code M pc = some (.if_icmp .ne o, np, x, y, sw)) (ha : a < 2147483648) (hb : b < 2147483648) (kt : a ≠ b → zm_wp d M x ls st h Q) (kf : a = b → zm_wp d M np ls st h Q) : zm_wp d M pc ls (.int (nI b) :: .int (nI a) :: st) h Q :=
  wx_icmp_ne hc (fun q => kt (fun z => q ((nI_eq ha hb).mpr z))) (fun q => kf ((nI_eq ha hb).mp q))
theorem wn_icmp_lt {a b : Nat} {o : Int} (hc : zt_code M pc = some (.if_icmp .lt o, np, x, y, sw)) (ha : a < 2147483648) (hb : b < 2147483648) (kt : a < b → zm_wp d M x ls st h Q) (kf : b ≤ a → zm_wp d M np ls st h Q) : zm_wp d M pc ls (.int (nI b) :: .int (nI a) :: st) h Q :=
  wx_icmp_lt hc (fun q => kt ((nI_ltI ha hb).mp q)) (fun q => kf (Nat.not_lt.mp (fun z => q ((nI_ltI ha hb).mpr z))))
theorem wn_icmp_ge {a b : Nat} {o : Int} (hc : zt_code M pc = some (.if_icmp .ge o, np, x, y, sw)) (ha : a < 2147483648) (hb : b < 2147483648) (kt : b ≤ a → zm_wp d M x ls st h Q) (kf : a < b → zm_wp d M np ls st h Q) : zm_wp d M pc ls (.int (nI b) :: .int (nI a) :: st) h Q :=
  wx_icmp_ge hc (fun q => kt ((nI_leI hb ha).mp q)) (fun q => kf (Nat.not_le.mp (fun z => q ((nI_leI hb ha).mpr z))))
theorem wn_icmp_gt {a b : Nat} {o : Int} (hc : zt_code M pc = some (.if_icmp .gt o, np, x, y, sw)) (ha : a < 2147483648) (hb : b < 2147483648) (kt : b < a → zm_wp d M x ls st h Q) (kf : a ≤ b → zm_wp d M np ls st h Q) : zm_wp d M pc ls (.int (nI b) :: .int (nI a) :: st) h Q :=
  wx_icmp_gt hc (fun q => kt ((nI_ltI hb ha).mp q)) (fun q => kf (Nat.not_lt.mp (fun z => q ((nI_ltI hb ha).mpr z))))
theorem wn_icmp_le {a b : Nat} {o : Int} (hc : zt_code M pc = some (.if_icmp .le o, np, x, y, sw)) (ha : a < 2147483648) (hb : b < 2147483648) (kt : a ≤ b → zm_wp d M x ls st h Q) (kf : b < a → zm_wp d M np ls st h Q) : zm_wp d M pc ls (.int (nI b) :: .int (nI a) :: st) h Q :=
  wx_icmp_le hc (fun q => kt ((nI_leI ha hb).mp q)) (fun q => kf (Nat.not_le.mp (fun z => q ((nI_leI ha hb).mpr z))))
theorem nI_z {a : Nat} (ha : a < 2147483648) : nI a = 0 ↔ a = 0 := by rw [← nI_0]; exact nI_eq ha (by decide)
theorem wn_if_eq {a : Nat} {o : Int} (hc : zt_code M pc = some (.ifCond .eq o, np, x, y, sw)) (ha : a < 2147483648) (kt : a = 0 → zm_wp d M x ls st h Q) (kf : a ≠ 0 → zm_wp d M np ls st h Q) : zm_wp d M pc ls (.int (nI a) :: st) h Q :=
  wx_if_eq hc (fun q => kt ((nI_z ha).mp q)) (fun q => kf (fun z => q ((nI_z ha).mpr z)))
theorem wn_if_ne {a : Nat} {o : Int} (hc : zt_code M pc = some (.ifCond .ne o, np, x, y, sw)) (ha : a < 2147483648) (kt : a ≠ 0 → zm_wp d M x ls st h Q) (kf : a = 0 → zm_wp d M np ls st h Q) : zm_wp d M pc ls (.int (nI a) :: st) h Q :=
  wx_if_ne hc (fun q => kt (fun z => q ((nI_z ha).mpr z))) (fun q => kf ((nI_z ha).mp q))
theorem wn_if_lt {a : Nat} {o : Int} (hc : zt_code M pc = some (.ifCond .lt o, np, x, y, sw)) (ha : a < 2147483648) (kf : zm_wp d M np ls st h Q) : zm_wp d M pc ls (.int (nI a) :: st) h Q :=
  wx_if_lt hc (fun q => absurd q (nI_pos ha)) (fun _ => kf)
theorem wn_if_ge {a : Nat} {o : Int} (hc : zt_code M pc = some (.ifCond .ge o, np, x, y, sw)) (ha : a < 2147483648) (kt : zm_wp d M x ls st h Q) : zm_wp d M pc ls (.int (nI a) :: st) h Q :=
  wx_if_ge hc (fun _ => kt) (fun q => absurd (nI_pos' ha) q)
theorem wn_if_gt {a : Nat} {o : Int} (hc : zt_code M pc = some (.ifCond .gt o, np, x, y, sw)) (ha : a < 2147483648) (kt : 0 < a → zm_wp d M x ls st h Q) (kf : a = 0 → zm_wp d M np ls st h Q) : zm_wp d M pc ls (.int (nI a) :: st) h Q :=
  wx_if_gt hc (fun q => kt (by rw [← nI_0] at q; exact (nI_ltI (by decide) ha).mp q)) (fun q => kf (Nat.eq_zero_of_not_pos (fun z => q (by rw [← nI_0]; exact (nI_ltI (by decide) ha).mpr z))))
theorem wn_if_le {a : Nat} {o : Int} (hc : zt_code M pc = some (.ifCond .le o, np, x, y, sw)) (ha : a < 2147483648) (kt : a = 0 → zm_wp d M x ls st h Q) (kf : 0 < a → zm_wp d M np ls st h Q) : zm_wp d M pc ls (.int (nI a) :: st) h Q :=
  wx_if_le hc (fun q => kt (by rw [← nI_0] at q; exact Nat.le_zero.mp ((nI_leI ha (by decide)).mp q))) (fun q => kf (Nat.pos_of_ne_zero (fun z => q (by rw [← nI_0]; exact (nI_leI ha (by decide)).mpr (Nat.le_of_eq z)))))
end
/-- a byte as an array keeps it -/
def zsg (v : Nat) : Int32 := (nI v).toInt8.toInt32
theorem zsg_and_t : ∀ v, v < 256 → zsg v &&& 255 = nI v := by decide +kernel
theorem zsg_and {v : Nat} (h : v < 256) : zsg v &&& nI 255 = nI v := zsg_and_t v h
theorem zsg_inj_t : ∀ v, v < 256 → (zsg v).toInt8.toInt32 = zsg v ∧ fits .byte (.int (zsg v)) = true := by decide +kernel
theorem zsg_ii (v : Nat) : ((nI v).toInt8.toInt32).toInt8.toInt32 = zsg v := by
  show ((nI v).toInt8.toInt32).toInt8.toInt32 = (nI v).toInt8.toInt32
  rw [Int8.toInt8_toInt32]
theorem zsg_inj {a b : Nat} (ha : a < 256) (hb : b < 256) (h : zsg a = zsg b) : a = b := by
  have e : nI a = nI b := by rw [← zsg_and ha, ← zsg_and hb, h]
  exact (nI_eq (by omega) (by omega)).mp e
theorem zsg_fit {v : Nat} (h : v < 256) : zm_fit .byte (.int (zsg v)) = true := by
  obtain ⟨h1, h2⟩ := zsg_inj_t v h
  show ((zsg v).toInt8.toInt32 == zsg v && fits .byte (.int (zsg v))) = true
  rw [h1, h2]
  simp
/-! the reference's heap: its object at 194, its arrays behind it, as numbers -/
def zup (s : Nat → Nat → Nat) (a j v : Nat) : Nat → Nat → Nat := fun b i => bif Nat.beq b a && Nat.beq i j then v else s b i
theorem zup_same (s : Nat → Nat → Nat) (a j v : Nat) : zup s a j v a j = v := by simp [zup]
theorem zup_ne (s : Nat → Nat → Nat) {a j b i : Nat} (v : Nat) (h : ¬ (b = a ∧ i = j)) : zup s a j v b i = s b i := by
  unfold zup
  cases h1 : Nat.beq b a with
  | false => rfl
  | true =>
    cases h2 : Nat.beq i j with
    | false => rfl
    | true => exact absurd ⟨Nat.eq_of_beq_eq_true h1, Nat.eq_of_beq_eq_true h2⟩ h
theorem zup_na (s : Nat → Nat → Nat) {a j b i : Nat} (v : Nat) (h : b ≠ a) : zup s a j v b i = s b i := zup_ne s v (fun z => h z.1)
theorem zup_nj (s : Nat → Nat → Nat) {a j i : Nat} (v : Nat) (h : i ≠ j) : zup s a j v a i = s a i := zup_ne s v (fun z => h z.2)
def zmk : Nat → Nat × Nat
  | 194 => (8, 22)
  | 195 => (101, 1200)
  | 196 => (101, 1200)
  | 197 => (101, 41)
  | 198 => (101, 41)
  | 199 => (101, 41)
  | 200 => (101, 41)
  | 201 => (100, 41000)
  | 202 => (101, 60)
  | 203 => (101, 60)
  | 204 => (101, 60)
  | 205 => (100, 15300)
  | 206 => (101, 42000)
  | _ => (0, 0)
def zme0 : Nat → Option Nat
  | 2 => some 195
  | 4 => some 196
  | 5 => some 197
  | 6 => some 198
  | 7 => some 199
  | 8 => some 200
  | 9 => some 201
  | 11 => some 202
  | 12 => some 203
  | 13 => some 204
  | 14 => some 205
  | 15 => some 206
  | _ => none
def zme (a j v : Nat) : Value := bif Nat.beq a 194 then (match zme0 j with
    | some q => .ref q
    | none => .int (nI v)) else (bif Nat.beq a 201 || Nat.beq a 205 then .int (zsg v) else .int (nI v))
def zmh (h0 : zm_H) (s : Nat → Nat → Nat) : zm_H := (h0.1, h0.2.1, h0.2.2.1, fun a j => bif Nat.ble 194 a && Nat.blt a 207 then zme a j (s (a - 194) j) else h0.2.2.2 a j)
/-- the reference's cells are there -/
def zMS (h0 : zm_H) : Prop := 207 ≤ h0.1 ∧ ∀ a, 194 ≤ a → a < 207 → h0.2.2.1 a = zmk a
theorem zmh_is {h0 : zm_H} {s : Nat → Nat → Nat} (hS : zMS h0) (a t : Nat) (h1 : 194 ≤ a) (h2 : a < 207) (h3 : (zmk a).1 = t) : zm_is (zmh h0 s) a t := by
  refine ⟨by omega, ?_, ?_⟩
  · show a < h0.1
    have := hS.1
    omega
  · show (h0.2.2.1 a).1 = t
    rw [hS.2 a h1 h2]
    exact h3
theorem zmh_ln {h0 : zm_H} {s : Nat → Nat → Nat} (hS : zMS h0) (a n : Nat) (h1 : 194 ≤ a) (h2 : a < 207) (h3 : (zmk a).2 = n) : zm_ln (zmh h0 s) a = n := by
  show (h0.2.2.1 a).2 = n
  rw [hS.2 a h1 h2]
  exact h3
theorem zmh_at {h0 : zm_H} {s : Nat → Nat → Nat} (a j : Nat) (h1 : 194 ≤ a) (h2 : a < 207) : zm_at (zmh h0 s) a j = zme a j (s (a - 194) j) := by
  show (bif Nat.ble 194 a && Nat.blt a 207 then zme a j (s (a - 194) j) else h0.2.2.2 a j) = _
  rw [Nat.ble_eq_true_of_le h1, Nat.blt_eq.mpr h2]
  rfl
theorem zmh_put {h0 : zm_H} {s : Nat → Nat → Nat} (a j v : Nat) (w : Value) (h1 : 194 ≤ a) (h2 : a < 207) (hw : zme a j v = w) : zm_put (zmh h0 s) a j w = zmh h0 (zup s (a - 194) j v) := by
  show (h0.1, h0.2.1, h0.2.2.1, fun b i => if b = a ∧ i = j then w else zm_at (zmh h0 s) b i) = (h0.1, h0.2.1, h0.2.2.1, _)
  congr 3
  funext b i
  by_cases hb : b = a ∧ i = j
  · obtain ⟨rfl, rfl⟩ := hb
    rw [if_pos ⟨rfl, rfl⟩]
    show w = zm_at (zmh h0 (zup s (b - 194) i v)) b i
    rw [zmh_at b i h1 h2, zup_same, hw]
  · rw [if_neg hb]
    show zm_at (zmh h0 s) b i = zm_at (zmh h0 (zup s (a - 194) j v)) b i
    by_cases hr : 194 ≤ b ∧ b < 207
    · rw [zmh_at b i hr.1 hr.2, zmh_at b i hr.1 hr.2, zup_ne]
      intro z
      exact hb ⟨by omega, z.2⟩
    · have hf : (Nat.ble 194 b && Nat.blt b 207) = false := by
        cases h : (Nat.ble 194 b && Nat.blt b 207) with
        | false => rfl
        | true =>
          simp only [Bool.and_eq_true] at h
          exact absurd ⟨Nat.le_of_ble_eq_true h.1, Nat.blt_eq.mp h.2⟩ hr
      have g : ∀ t : Nat → Nat → Nat, zm_at (zmh h0 t) b i = h0.2.2.2 b i := fun t => by
        show (bif Nat.ble 194 b && Nat.blt b 207 then zme b i (t (b - 194) i) else h0.2.2.2 b i) = h0.2.2.2 b i
        rw [hf, cond_false]
      rw [g, g]
section
variable {d M pc np y o : Nat} {sw : List (Int × Nat)} {ls st : List Value} {h0 : zm_H} {s : Nat → Nat → Nat} {Q : Option Value → zm_H → Prop}
theorem wm_getf {k : Nat} (v : Value) (hS : zMS h0) (hc : zt_code M pc = some (.getfield o, np, 8, k, sw)) (hv : zme 194 k (s 0 k) = v) (kk : zm_wp d M np ls (v :: st) (zmh h0 s) Q) : zm_wp d M pc ls (.ref 194 :: st) (zmh h0 s) Q :=
  wx_getfield hc (zmh_is hS 194 8 (by decide) (by decide) rfl) ((zmh_at 194 k (by decide) (by decide)).trans hv) kk
theorem wm_putf {k v : Nat} {w : Value} (hS : zMS h0) (hc : zt_code M pc = some (.putfield o, np, 8, k, sw)) (hw : zme 194 k v = w) (hf : zm_fit (zt_ty 8 k) w = true) (kk : zm_wp d M np ls st (zmh h0 (zup s 0 k v)) Q) : zm_wp d M pc ls (w :: .ref 194 :: st) (zmh h0 s) Q := by
  refine wx_putfield hc (zmh_is hS 194 8 (by decide) (by decide) rfl) hf ?_
  rw [zmh_put 194 k v w (by decide) (by decide) hw]
  exact kk
theorem wm_iald {x j : Nat} (a n v : Nat) (hS : zMS h0) (hc : zt_code M pc = some (.iaload, np, x, y, sw)) (h1 : Nat.ble 194 a = true) (h2 : Nat.blt a 207 = true) (hk : zmk a = (101, n)) (hn : Nat.blt n 100000 = true) (hj : j < n) (hz : ∀ w, zme a j w = .int (nI w)) (hv : s (a - 194) j = v) (kk : zm_wp d M np ls (.int (nI v) :: st) (zmh h0 s) Q) : zm_wp d M pc ls (.int (nI j) :: .ref a :: st) (zmh h0 s) Q := by
  have g1 := Nat.le_of_ble_eq_true h1
  have g2 := Nat.blt_eq.mp h2
  have g3 := Nat.blt_eq.mp hn
  have hi := zmh_is (s := s) hS a 101 g1 g2 (by rw [hk])
  have hl := zmh_ln (s := s) hS a n g1 g2 (by rw [hk])
  exact wx_iaload hc hi.2.1 hi.2.2 (by rw [hl]; exact hj) (by rw [hl]; omega) (by rw [zmh_at a j g1 g2, hz, hv]) kk
theorem wm_bald {x j : Nat} (a n v : Nat) (hS : zMS h0) (hc : zt_code M pc = some (.baload, np, x, y, sw)) (h1 : Nat.ble 194 a = true) (h2 : Nat.blt a 207 = true) (hk : zmk a = (100, n)) (hn : Nat.blt n 100000 = true) (hj : j < n) (hz : ∀ w, zme a j w = .int (zsg w)) (hv : s (a - 194) j = v) (kk : zm_wp d M np ls (.int (zsg v) :: st) (zmh h0 s) Q) : zm_wp d M pc ls (.int (nI j) :: .ref a :: st) (zmh h0 s) Q := by
  have g1 := Nat.le_of_ble_eq_true h1
  have g2 := Nat.blt_eq.mp h2
  have g3 := Nat.blt_eq.mp hn
  have hi := zmh_is (s := s) hS a 100 g1 g2 (by rw [hk])
  have hl := zmh_ln (s := s) hS a n g1 g2 (by rw [hk])
  exact wx_baload hc hi.2.1 hi.2.2 (by rw [hl]; exact hj) (by rw [hl]; omega) (by rw [zmh_at a j g1 g2, hz, hv]) kk
theorem wm_iast {x j v : Nat} (a n : Nat) (hS : zMS h0) (hc : zt_code M pc = some (.iastore, np, x, y, sw)) (h1 : Nat.ble 194 a = true) (h2 : Nat.blt a 207 = true) (hk : zmk a = (101, n)) (hn : Nat.blt n 100000 = true) (hj : j < n) (hz : zme a j v = .int (nI v)) (kk : zm_wp d M np ls st (zmh h0 (zup s (a - 194) j v)) Q) : zm_wp d M pc ls (.int (nI v) :: .int (nI j) :: .ref a :: st) (zmh h0 s) Q := by
  have g1 := Nat.le_of_ble_eq_true h1
  have g2 := Nat.blt_eq.mp h2
  have g3 := Nat.blt_eq.mp hn
  have hi := zmh_is (s := s) hS a 101 g1 g2 (by rw [hk])
  have hl := zmh_ln (s := s) hS a n g1 g2 (by rw [hk])
  refine wx_iastore hc hi (by rw [hl]; exact hj) (by rw [hl]; omega) ?_
  rw [zmh_put a j v _ g1 g2 hz]
  exact kk
theorem wm_bast {x j v : Nat} {w : Int32} (a n : Nat) (hS : zMS h0) (hc : zt_code M pc = some (.bastore, np, x, y, sw)) (h1 : Nat.ble 194 a = true) (h2 : Nat.blt a 207 = true) (hk : zmk a = (100, n)) (hn : Nat.blt n 100000 = true) (hj : j < n) (hw : w.toInt8.toInt32 = zsg v) (hz : zme a j v = .int (zsg v)) (kk : zm_wp d M np ls st (zmh h0 (zup s (a - 194) j v)) Q) : zm_wp d M pc ls (.int w :: .int (nI j) :: .ref a :: st) (zmh h0 s) Q := by
  have g1 := Nat.le_of_ble_eq_true h1
  have g2 := Nat.blt_eq.mp h2
  have g3 := Nat.blt_eq.mp hn
  have hi := zmh_is (s := s) hS a 100 g1 g2 (by rw [hk])
  have hl := zmh_ln (s := s) hS a n g1 g2 (by rw [hk])
  refine wx_bastore hc hi (by rw [hl]; exact hj) (by rw [hl]; omega) ?_
  rw [hw, zmh_put a j v _ g1 g2 hz]
  exact kk
end
end
section
/-! the reference's small methods, as functions of its numbers -/
def zsum (g : Nat → Nat) : Nat → Nat
  | 0 => 0
  | n + 1 => zsum g n + g n
theorem zsum_le {g : Nat → Nat} {b : Nat} : ∀ n, (∀ i, i < n → g i ≤ b) → zsum g n ≤ n * b
  | 0, _ => Nat.zero_le _
  | n + 1, h => by
    have h1 := zsum_le n (fun i hi => h i (by omega))
    have h2 := h n (by omega)
    show zsum g n + g n ≤ (n + 1) * b
    rw [Nat.succ_mul]
    omega
def zft (n : Nat) : Nat := if 3 < n then n else 1
/-- what the reference's numbers keep to -/
def zbd : Nat → Nat → Nat
  | 0, 0 => 200
  | 0, 1 => 1200
  | 0, 3 => 1200
  | 0, 10 => 60
  | 0, 16 => 42000
  | 0, 17 => 40
  | 0, 18 => 42000
  | 0, 19 => 42000
  | 0, 20 => 40
  | 0, 21 => 1
  | 0, _ => 2147483647
  | 3, _ => 3
  | 4, _ => 60
  | 5, _ => 101
  | 6, _ => 1000
  | 8, _ => 40
  | 9, _ => 40
  | _, _ => 255
theorem zbd_le (a j : Nat) : zbd a j ≤ 2147483647 := by
  unfold zbd
  split <;> decide
def zMI (s : Nat → Nat → Nat) : Prop := ∀ a j, s a j ≤ zbd a j
theorem zMIb {s : Nat → Nat → Nat} (h : zMI s) (a j : Nat) : s a j < 2147483648 := by
  have h1 := h a j
  have h2 := zbd_le a j
  omega
theorem zMI_up {s : Nat → Nat → Nat} (h : zMI s) {a j v : Nat} (hv : v ≤ zbd a j) : zMI (zup s a j v) := by
  intro b i
  by_cases hb : b = a ∧ i = j
  · obtain ⟨rfl, rfl⟩ := hb
    rw [zup_same]
    exact hv
  · rw [zup_ne _ _ hb]
    exact h b i
def zmt (s : Nat → Nat → Nat) (f : Nat) : Nat := if s 3 f = 0 then 0 else if s 3 f = 1 then 1 else if s 3 f = 3 then (if 59 < s 6 f then 1 else 0) else zft (s 4 f)
theorem zft_le {n : Nat} (h : n ≤ 60) : zft n ≤ 60 := by unfold zft; split <;> omega
theorem zmt_le {s : Nat → Nat → Nat} (hI : zMI s) (f : Nat) : zmt s f ≤ 60 := by
  have h4 : s 4 f ≤ 60 := hI 4 f
  unfold zmt
  split
  · omega
  · split
    · omega
    · split
      · split <;> omega
      · exact zft_le h4
def zmat (s : Nat → Nat → Nat) : Nat := zsum (fun k => zmt s (k + 1)) 40
def zmfc (s : Nat → Nat → Nat) : Nat := zsum (fun k => if 0 < s 3 (k + 1) then 1 else 0) 40
def zmno (s : Nat → Nat → Nat) (f : Nat) : Nat → Nat := zsum (fun k => if s 9 k = f then 1 else 0)
def zmni (s : Nat → Nat → Nat) (f : Nat) : Nat → Nat := zsum (fun k => if s 8 k = f then 1 else 0)
def zmpa (s : Nat → Nat → Nat) (f : Nat) : Nat → Nat
  | 0 => 1
  | n + 1 => if s 9 n = f then s 8 n else zmpa s f n
theorem zmpa_le {s : Nat → Nat → Nat} (hI : zMI s) (f : Nat) : ∀ n, zmpa s f n ≤ 40
  | 0 => Nat.le_of_ble_eq_true rfl
  | n + 1 => by
    unfold zmpa
    split
    · exact hI 8 n
    · exact zmpa_le hI f n

theorem cM_folderTakes {d : Nat} {h0 : zm_H} {s : Nat → Nat → Nat} {Q : Option Value → zm_H → Prop} {n : Nat} (hn : n < 2147483648) (hq : Q (some (.int (nI (zft n)))) (zmh h0 s)) : zm_wc (d + 1) mM_folderTakes [.int (nI n)] (zmh h0 s) Q := by
  refine zm_enter (Nat.le_of_ble_eq_true rfl) ?_
  show zm_wp _ 77 0 [.int (nI n)] [] (zmh h0 s) Q
  refine wx_iload_n kc77_0 rfl rfl ?_
  refine wx_iconst (nI 3) kc77_1 (by decide) ?_
  refine wn_icmp_le kc77_2 (by omega) (by decide) (fun hq2 => ?_) (fun hq2 => ?_)
  · skip
    refine wx_iconst (nI 1) kc77_9 (by decide) ?_
    refine wx_ireturn kc77_10 rfl rfl ?_
    exact (show zft n = 1 by unfold zft; split <;> omega) ▸ hq
  · skip
    refine wx_iload_n kc77_5 rfl rfl ?_
    refine wx_goto kc77_6 ?_
    refine wx_ireturn kc77_10 rfl rfl ?_
    exact (show zft n = n by unfold zft; split <;> omega) ▸ hq
theorem cM_takes {d : Nat} {h0 : zm_H} {s : Nat → Nat → Nat} {Q : Option Value → zm_H → Prop} {f : Nat} (hS : zMS h0) (hI : zMI s) (hf : f ≤ 40) (hq : Q (some (.int (nI (zmt s f)))) (zmh h0 s)) : zm_wc (d + 2) mM_takes [.ref 194, .int (nI f)] (zmh h0 s) Q := by
  refine zm_enter (Nat.le_of_ble_eq_true rfl) ?_
  show zm_wp _ 78 0 [.ref 194, .int (nI f)] [] (zmh h0 s) Q
  have hB := zMIb hI
  refine wx_aload_n kc78_0 rfl rfl ?_
  refine wm_getf (.ref 197) hS kc78_1 rfl ?_
  refine wx_iload_n kc78_4 rfl rfl ?_
  refine wm_iald 197 41 (s 3 f) hS kc78_5 rfl rfl rfl rfl (by omega) (fun _ => rfl) rfl ?_
  have hb6_1 := hB 3 f
  refine wn_if_ne kc78_6 (hB _ _) (fun hq6 => ?_) (fun hq6 => ?_)
  · skip
    refine wx_aload_n kc78_11 rfl rfl ?_
    refine wm_getf (.ref 197) hS kc78_12 rfl ?_
    refine wx_iload_n kc78_15 rfl rfl ?_
    refine wm_iald 197 41 (s 3 f) hS kc78_16 rfl rfl rfl rfl (by omega) (fun _ => rfl) rfl ?_
    have hb17_2 := hB 3 f
    refine wx_iconst (nI 1) kc78_17 (by decide) ?_
    refine wn_icmp_ne kc78_18 (hB _ _) (by decide) (fun hq18 => ?_) (fun hq18 => ?_)
    · skip
      refine wx_aload_n kc78_25 rfl rfl ?_
      refine wm_getf (.ref 197) hS kc78_26 rfl ?_
      refine wx_iload_n kc78_29 rfl rfl ?_
      refine wm_iald 197 41 (s 3 f) hS kc78_30 rfl rfl rfl rfl (by omega) (fun _ => rfl) rfl ?_
      have hb31_3 := hB 3 f
      refine wx_iconst (nI 3) kc78_31 (by decide) ?_
      refine wn_icmp_ne kc78_32 (hB _ _) (by decide) (fun hq32 => ?_) (fun hq32 => ?_)
      · skip
        refine wx_aload_n kc78_54 rfl rfl ?_
        refine wm_getf (.ref 198) hS kc78_55 rfl ?_
        refine wx_iload_n kc78_58 rfl rfl ?_
        refine wm_iald 198 41 (s 4 f) hS kc78_59 rfl rfl rfl rfl (by omega) (fun _ => rfl) rfl ?_
        have hb60_4 := hB 4 f
        refine wx_static kc78_60 rfl rfl rfl ?_
        refine cM_folderTakes (hB _ _) ?_
        show zm_wp _ 78 63 [.ref 194, .int (nI f)] [.int (nI (zft (s 4 f)))] (zmh h0 s) _
        refine wx_ireturn kc78_63 rfl rfl ?_
        exact (show zmt s f = (zft (s 4 f)) by unfold zmt; repeat (first | rw [if_pos (by omega)] | rw [if_neg (by omega)])) ▸ hq
      · skip
        refine wx_aload_n kc78_35 rfl rfl ?_
        refine wm_getf (.ref 200) hS kc78_36 rfl ?_
        refine wx_iload_n kc78_39 rfl rfl ?_
        refine wm_iald 200 41 (s 6 f) hS kc78_40 rfl rfl rfl rfl (by omega) (fun _ => rfl) rfl ?_
        have hb41_4 := hB 6 f
        refine wx_bipush (nI 59) kc78_41 (by decide) ?_
        refine wn_icmp_le kc78_43 (hB _ _) (by decide) (fun hq43 => ?_) (fun hq43 => ?_)
        · skip
          refine wx_iconst (nI 0) kc78_50 (by decide) ?_
          refine wx_goto kc78_51 ?_
          refine wx_ireturn kc78_63 rfl rfl ?_
          exact (show zmt s f = 0 by unfold zmt; repeat (first | rw [if_pos (by omega)] | rw [if_neg (by omega)])) ▸ hq
        · skip
          refine wx_iconst (nI 1) kc78_46 (by decide) ?_
          refine wx_goto kc78_47 ?_
          refine wx_ireturn kc78_63 rfl rfl ?_
          exact (show zmt s f = 1 by unfold zmt; repeat (first | rw [if_pos (by omega)] | rw [if_neg (by omega)])) ▸ hq
    · skip
      refine wx_iconst (nI 1) kc78_21 (by decide) ?_
      refine wx_goto kc78_22 ?_
      refine wx_ireturn kc78_63 rfl rfl ?_
      exact (show zmt s f = 1 by unfold zmt; repeat (first | rw [if_pos (by omega)] | rw [if_neg (by omega)])) ▸ hq
  · skip
    refine wx_iconst (nI 0) kc78_9 (by decide) ?_
    refine wx_ireturn kc78_10 rfl rfl ?_
    exact (show zmt s f = 0 by unfold zmt; repeat (first | rw [if_pos (by omega)] | rw [if_neg (by omega)])) ▸ hq
theorem lM_allTake {d : Nat} {h0 : zm_H} {s : Nat → Nat → Nat} {Q : Option Value → zm_H → Prop}  (hS : zMS h0) (hI : zMI s) (hq : Q (some (.int (nI (zmat s)))) (zmh h0 s)) : ∀ (n i : Nat), i + n = 40 → zm_wp (d + 2) 79 4 [.ref 194, .int (nI (zsum (fun k => zmt s (k + 1)) i)), .int (nI (i + 1))] [] (zmh h0 s) Q := by
  intro n
  induction n with
  | zero =>
    intro i hi
    have hz := zsum_le (g := fun k => zmt s (k + 1)) (b := 60) i (fun k _ => zmt_le hI (k + 1))
    refine wx_iload_n kc79_4 rfl rfl ?_
    refine wx_bipush (nI 40) kc79_5 (by decide) ?_
    refine wn_icmp_gt kc79_7 (by omega) (by decide) (fun hq7 => ?_) (fun hq7 => ?_)
    · skip
      refine wx_iload_n kc79_24 rfl rfl ?_
      refine wx_ireturn kc79_25 rfl rfl ?_
      obtain rfl : i = 40 := by omega
      exact hq
    · skip
      refine wx_iload_n kc79_10 rfl rfl ?_
      refine wx_aload_n kc79_11 rfl rfl ?_
      refine wx_iload_n kc79_12 rfl rfl ?_
      exact absurd hq7 (by omega)
  | succ n ih =>
    intro i hi
    have hz := zsum_le (g := fun k => zmt s (k + 1)) (b := 60) i (fun k _ => zmt_le hI (k + 1))
    refine wx_iload_n kc79_4 rfl rfl ?_
    refine wx_bipush (nI 40) kc79_5 (by decide) ?_
    refine wn_icmp_gt kc79_7 (by omega) (by decide) (fun hq7 => ?_) (fun hq7 => ?_)
    · skip
      refine wx_iload_n kc79_24 rfl rfl ?_
      refine wx_ireturn kc79_25 rfl rfl ?_
      obtain rfl : i = 40 := by omega
      exact hq
    · skip
      refine wx_iload_n kc79_10 rfl rfl ?_
      refine wx_aload_n kc79_11 rfl rfl ?_
      refine wx_iload_n kc79_12 rfl rfl ?_
      refine wx_virtual kc79_13 rfl (zmh_is hS 194 8 (by decide) (by decide) rfl) rfl ?_
      refine cM_takes hS hI (by omega) ?_
      show zm_wp _ 79 16 [.ref 194, .int (nI (zsum (fun k => zmt s (k + 1)) i)), .int (nI (i + 1))] [.int (nI (zmt s (i + 1))), .int (nI (zsum (fun k => zmt s (k + 1)) i))] (zmh h0 s) _
      refine wn_iadd ((zsum (fun k => zmt s (k + 1)) i) + (zmt s (i + 1))) kc79_16 rfl ?_
      refine wx_istore_n (ls' := [.ref 194, .int (nI ((zsum (fun k => zmt s (k + 1)) i) + (zmt s (i + 1)))), .int (nI (i + 1))]) kc79_17 rfl rfl rfl rfl ?_
      refine wn_iinc ((i + 1) + 1) (ls' := [.ref 194, .int (nI ((zsum (fun k => zmt s (k + 1)) i) + (zmt s (i + 1)))), .int (nI ((i + 1) + 1))]) kc79_18 rfl rfl rfl rfl rfl ?_
      refine wx_goto kc79_21 ?_
      exact ih (i + 1) (by omega)
theorem cM_allTake {d : Nat} {h0 : zm_H} {s : Nat → Nat → Nat} {Q : Option Value → zm_H → Prop}  (hS : zMS h0) (hI : zMI s) (hq : Q (some (.int (nI (zmat s)))) (zmh h0 s)) : zm_wc (d + 3) mM_allTake [.ref 194] (zmh h0 s) Q := by
  refine zm_enter (Nat.le_of_ble_eq_true rfl) ?_
  show zm_wp _ 79 0 [.ref 194, zm_un, zm_un] [] (zmh h0 s) Q
  refine wx_iconst (nI 0) kc79_0 (by decide) ?_
  refine wx_istore_n (ls' := [.ref 194, .int (nI 0), zm_un]) kc79_1 rfl rfl rfl rfl ?_
  refine wx_iconst (nI 1) kc79_2 (by decide) ?_
  refine wx_istore_n (ls' := [.ref 194, .int (nI 0), .int (nI 1)]) kc79_3 rfl rfl rfl rfl ?_
  exact lM_allTake hS hI hq 40 0 rfl
theorem lM_fileCount {d : Nat} {h0 : zm_H} {s : Nat → Nat → Nat} {Q : Option Value → zm_H → Prop}  (hS : zMS h0) (hI : zMI s) (hq : Q (some (.int (nI (zmfc s)))) (zmh h0 s)) : ∀ (n i : Nat), i + n = 40 → zm_wp (d + 0) 80 4 [.ref 194, .int (nI (zsum (fun k => if 0 < s 3 (k + 1) then 1 else 0) i)), .int (nI (i + 1))] [] (zmh h0 s) Q := by
  have hB := zMIb hI
  intro n
  induction n with
  | zero =>
    intro i hi
    have hz := zsum_le (g := fun k => if 0 < s 3 (k + 1) then 1 else 0) (b := 1) i (fun k _ => by split <;> omega)
    refine wx_iload_n kc80_4 rfl rfl ?_
    refine wx_bipush (nI 40) kc80_5 (by decide) ?_
    refine wn_icmp_gt kc80_7 (by omega) (by decide) (fun hq7 => ?_) (fun hq7 => ?_)
    · skip
      refine wx_iload_n kc80_33 rfl rfl ?_
      refine wx_ireturn kc80_34 rfl rfl ?_
      obtain rfl : i = 40 := by omega
      exact hq
    · skip
      exact absurd hq7 (by omega)
  | succ n ih =>
    intro i hi
    have hz := zsum_le (g := fun k => if 0 < s 3 (k + 1) then 1 else 0) (b := 1) i (fun k _ => by split <;> omega)
    refine wx_iload_n kc80_4 rfl rfl ?_
    refine wx_bipush (nI 40) kc80_5 (by decide) ?_
    refine wn_icmp_gt kc80_7 (by omega) (by decide) (fun hq7 => ?_) (fun hq7 => ?_)
    · skip
      refine wx_iload_n kc80_33 rfl rfl ?_
      refine wx_ireturn kc80_34 rfl rfl ?_
      obtain rfl : i = 40 := by omega
      exact hq
    · skip
      refine wx_iload_n kc80_10 rfl rfl ?_
      refine wx_aload_n kc80_11 rfl rfl ?_
      refine wm_getf (.ref 197) hS kc80_12 rfl ?_
      refine wx_iload_n kc80_15 rfl rfl ?_
      refine wm_iald 197 41 (s 3 (i + 1)) hS kc80_16 rfl rfl rfl rfl (by omega) (fun _ => rfl) rfl ?_
      have hb17_1 := hB 3 (i + 1)
      refine wn_if_le kc80_17 (hB _ _) (fun hq17 => ?_) (fun hq17 => ?_)
      · skip
        refine wx_iconst (nI 0) kc80_24 (by decide) ?_
        refine wn_iadd ((zsum (fun k => if 0 < s 3 (k + 1) then 1 else 0) i) + 0) kc80_25 rfl ?_
        refine wx_istore_n (ls' := [.ref 194, .int (nI ((zsum (fun k => if 0 < s 3 (k + 1) then 1 else 0) i) + 0)), .int (nI (i + 1))]) kc80_26 rfl rfl rfl rfl ?_
        refine wn_iinc ((i + 1) + 1) (ls' := [.ref 194, .int (nI ((zsum (fun k => if 0 < s 3 (k + 1) then 1 else 0) i) + 0)), .int (nI ((i + 1) + 1))]) kc80_27 rfl rfl rfl rfl rfl ?_
        refine wx_goto kc80_30 ?_
        have he : zsum (fun k => if 0 < s 3 (k + 1) then 1 else 0) (i + 1) = ((zsum (fun k => if 0 < s 3 (k + 1) then 1 else 0) i) + 0) := by
          show zsum (fun k => if 0 < s 3 (k + 1) then 1 else 0) i + (if 0 < s 3 (i + 1) then 1 else 0) = _
          first | rw [if_pos (by omega)] | rw [if_neg (by omega)]
        have hih := ih (i + 1) (by omega)
        rw [he] at hih
        exact hih
      · skip
        refine wx_iconst (nI 1) kc80_20 (by decide) ?_
        refine wx_goto kc80_21 ?_
        refine wn_iadd ((zsum (fun k => if 0 < s 3 (k + 1) then 1 else 0) i) + 1) kc80_25 rfl ?_
        refine wx_istore_n (ls' := [.ref 194, .int (nI ((zsum (fun k => if 0 < s 3 (k + 1) then 1 else 0) i) + 1)), .int (nI (i + 1))]) kc80_26 rfl rfl rfl rfl ?_
        refine wn_iinc ((i + 1) + 1) (ls' := [.ref 194, .int (nI ((zsum (fun k => if 0 < s 3 (k + 1) then 1 else 0) i) + 1)), .int (nI ((i + 1) + 1))]) kc80_27 rfl rfl rfl rfl rfl ?_
        refine wx_goto kc80_30 ?_
        have he : zsum (fun k => if 0 < s 3 (k + 1) then 1 else 0) (i + 1) = ((zsum (fun k => if 0 < s 3 (k + 1) then 1 else 0) i) + 1) := by
          show zsum (fun k => if 0 < s 3 (k + 1) then 1 else 0) i + (if 0 < s 3 (i + 1) then 1 else 0) = _
          first | rw [if_pos (by omega)] | rw [if_neg (by omega)]
        have hih := ih (i + 1) (by omega)
        rw [he] at hih
        exact hih
theorem cM_fileCount {d : Nat} {h0 : zm_H} {s : Nat → Nat → Nat} {Q : Option Value → zm_H → Prop}  (hS : zMS h0) (hI : zMI s) (hq : Q (some (.int (nI (zmfc s)))) (zmh h0 s)) : zm_wc (d + 1) mM_fileCount [.ref 194] (zmh h0 s) Q := by
  refine zm_enter (Nat.le_of_ble_eq_true rfl) ?_
  show zm_wp _ 80 0 [.ref 194, zm_un, zm_un] [] (zmh h0 s) Q
  refine wx_iconst (nI 0) kc80_0 (by decide) ?_
  refine wx_istore_n (ls' := [.ref 194, .int (nI 0), zm_un]) kc80_1 rfl rfl rfl rfl ?_
  refine wx_iconst (nI 1) kc80_2 (by decide) ?_
  refine wx_istore_n (ls' := [.ref 194, .int (nI 0), .int (nI 1)]) kc80_3 rfl rfl rfl rfl ?_
  exact lM_fileCount hS hI hq 40 0 rfl
theorem lM_namesOf {d : Nat} {h0 : zm_H} {s : Nat → Nat → Nat} {Q : Option Value → zm_H → Prop} {f : Nat} (hS : zMS h0) (hI : zMI s) (hf : f < 2147483648) (hq : Q (some (.int (nI (zmno s f (s 0 10))))) (zmh h0 s)) : ∀ (n i : Nat), i + n = (s 0 10) → zm_wp (d + 0) 81 4 [.ref 194, .int (nI f), .int (nI (zmno s f i)), .int (nI i)] [] (zmh h0 s) Q := by
  have hB := zMIb hI
  intro n
  induction n with
  | zero =>
    intro i hi
    have hz := zsum_le (g := fun k => if s 9 k = f then 1 else 0) (b := 1) i (fun k _ => by split <;> omega)
    have hz : zmno s f i ≤ i * 1 := hz
    have hN : s 0 10 ≤ 60 := hI 0 10
    refine wx_iload_n kc81_4 rfl rfl ?_
    refine wx_aload_n kc81_5 rfl rfl ?_
    refine wm_getf (.int (nI (s 0 10))) hS kc81_6 rfl ?_
    have hb9_1 := hB 0 10
    refine wn_icmp_ge kc81_9 (by omega) (hB _ _) (fun hq9 => ?_) (fun hq9 => ?_)
    · skip
      refine wx_iload_n kc81_36 rfl rfl ?_
      refine wx_ireturn kc81_37 rfl rfl ?_
      obtain rfl : i = s 0 10 := by omega
      exact hq
    · skip
      exact absurd hq9 (by omega)
  | succ n ih =>
    intro i hi
    have hz := zsum_le (g := fun k => if s 9 k = f then 1 else 0) (b := 1) i (fun k _ => by split <;> omega)
    have hz : zmno s f i ≤ i * 1 := hz
    have hN : s 0 10 ≤ 60 := hI 0 10
    refine wx_iload_n kc81_4 rfl rfl ?_
    refine wx_aload_n kc81_5 rfl rfl ?_
    refine wm_getf (.int (nI (s 0 10))) hS kc81_6 rfl ?_
    have hb9_1 := hB 0 10
    refine wn_icmp_ge kc81_9 (by omega) (hB _ _) (fun hq9 => ?_) (fun hq9 => ?_)
    · skip
      refine wx_iload_n kc81_36 rfl rfl ?_
      refine wx_ireturn kc81_37 rfl rfl ?_
      obtain rfl : i = s 0 10 := by omega
      exact hq
    · skip
      refine wx_iload_n kc81_12 rfl rfl ?_
      refine wx_aload_n kc81_13 rfl rfl ?_
      refine wm_getf (.ref 203) hS kc81_14 rfl ?_
      refine wx_iload_n kc81_17 rfl rfl ?_
      refine wm_iald 203 60 (s 9 i) hS kc81_18 rfl rfl rfl rfl (by omega) (fun _ => rfl) rfl ?_
      have hb19_2 := hB 9 i
      refine wx_iload_n kc81_19 rfl rfl ?_
      refine wn_icmp_ne kc81_20 (hB _ _) (by omega) (fun hq20 => ?_) (fun hq20 => ?_)
      · skip
        refine wx_iconst (nI 0) kc81_27 (by decide) ?_
        refine wn_iadd ((zmno s f i) + 0) kc81_28 rfl ?_
        refine wx_istore_n (ls' := [.ref 194, .int (nI f), .int (nI ((zmno s f i) + 0)), .int (nI i)]) kc81_29 rfl rfl rfl rfl ?_
        refine wn_iinc (i + 1) (ls' := [.ref 194, .int (nI f), .int (nI ((zmno s f i) + 0)), .int (nI (i + 1))]) kc81_30 rfl rfl rfl rfl rfl ?_
        refine wx_goto kc81_33 ?_
        have he : zmno s f (i + 1) = ((zmno s f i) + 0) := by
          show zmno s f i + (if s 9 i = f then 1 else 0) = _
          first | rw [if_pos (by omega)] | rw [if_neg (by omega)]
        have hih := ih (i + 1) (by omega)
        rw [he] at hih
        exact hih
      · skip
        refine wx_iconst (nI 1) kc81_23 (by decide) ?_
        refine wx_goto kc81_24 ?_
        refine wn_iadd ((zmno s f i) + 1) kc81_28 rfl ?_
        refine wx_istore_n (ls' := [.ref 194, .int (nI f), .int (nI ((zmno s f i) + 1)), .int (nI i)]) kc81_29 rfl rfl rfl rfl ?_
        refine wn_iinc (i + 1) (ls' := [.ref 194, .int (nI f), .int (nI ((zmno s f i) + 1)), .int (nI (i + 1))]) kc81_30 rfl rfl rfl rfl rfl ?_
        refine wx_goto kc81_33 ?_
        have he : zmno s f (i + 1) = ((zmno s f i) + 1) := by
          show zmno s f i + (if s 9 i = f then 1 else 0) = _
          first | rw [if_pos (by omega)] | rw [if_neg (by omega)]
        have hih := ih (i + 1) (by omega)
        rw [he] at hih
        exact hih
theorem cM_namesOf {d : Nat} {h0 : zm_H} {s : Nat → Nat → Nat} {Q : Option Value → zm_H → Prop} {f : Nat} (hS : zMS h0) (hI : zMI s) (hf : f < 2147483648) (hq : Q (some (.int (nI (zmno s f (s 0 10))))) (zmh h0 s)) : zm_wc (d + 1) mM_namesOf [.ref 194, .int (nI f)] (zmh h0 s) Q := by
  refine zm_enter (Nat.le_of_ble_eq_true rfl) ?_
  show zm_wp _ 81 0 [.ref 194, .int (nI f), zm_un, zm_un] [] (zmh h0 s) Q
  refine wx_iconst (nI 0) kc81_0 (by decide) ?_
  refine wx_istore_n (ls' := [.ref 194, .int (nI f), .int (nI 0), zm_un]) kc81_1 rfl rfl rfl rfl ?_
  refine wx_iconst (nI 0) kc81_2 (by decide) ?_
  refine wx_istore_n (ls' := [.ref 194, .int (nI f), .int (nI 0), .int (nI 0)]) kc81_3 rfl rfl rfl rfl ?_
  exact lM_namesOf hS hI hf hq (s 0 10) 0 (by omega)
theorem lM_namesIn {d : Nat} {h0 : zm_H} {s : Nat → Nat → Nat} {Q : Option Value → zm_H → Prop} {f : Nat} (hS : zMS h0) (hI : zMI s) (hf : f < 2147483648) (hq : Q (some (.int (nI (zmni s f (s 0 10))))) (zmh h0 s)) : ∀ (n i : Nat), i + n = (s 0 10) → zm_wp (d + 0) 82 4 [.ref 194, .int (nI f), .int (nI (zmni s f i)), .int (nI i)] [] (zmh h0 s) Q := by
  have hB := zMIb hI
  intro n
  induction n with
  | zero =>
    intro i hi
    have hz := zsum_le (g := fun k => if s 8 k = f then 1 else 0) (b := 1) i (fun k _ => by split <;> omega)
    have hz : zmni s f i ≤ i * 1 := hz
    have hN : s 0 10 ≤ 60 := hI 0 10
    refine wx_iload_n kc82_4 rfl rfl ?_
    refine wx_aload_n kc82_5 rfl rfl ?_
    refine wm_getf (.int (nI (s 0 10))) hS kc82_6 rfl ?_
    have hb9_1 := hB 0 10
    refine wn_icmp_ge kc82_9 (by omega) (hB _ _) (fun hq9 => ?_) (fun hq9 => ?_)
    · skip
      refine wx_iload_n kc82_36 rfl rfl ?_
      refine wx_ireturn kc82_37 rfl rfl ?_
      obtain rfl : i = s 0 10 := by omega
      exact hq
    · skip
      exact absurd hq9 (by omega)
  | succ n ih =>
    intro i hi
    have hz := zsum_le (g := fun k => if s 8 k = f then 1 else 0) (b := 1) i (fun k _ => by split <;> omega)
    have hz : zmni s f i ≤ i * 1 := hz
    have hN : s 0 10 ≤ 60 := hI 0 10
    refine wx_iload_n kc82_4 rfl rfl ?_
    refine wx_aload_n kc82_5 rfl rfl ?_
    refine wm_getf (.int (nI (s 0 10))) hS kc82_6 rfl ?_
    have hb9_1 := hB 0 10
    refine wn_icmp_ge kc82_9 (by omega) (hB _ _) (fun hq9 => ?_) (fun hq9 => ?_)
    · skip
      refine wx_iload_n kc82_36 rfl rfl ?_
      refine wx_ireturn kc82_37 rfl rfl ?_
      obtain rfl : i = s 0 10 := by omega
      exact hq
    · skip
      refine wx_iload_n kc82_12 rfl rfl ?_
      refine wx_aload_n kc82_13 rfl rfl ?_
      refine wm_getf (.ref 202) hS kc82_14 rfl ?_
      refine wx_iload_n kc82_17 rfl rfl ?_
      refine wm_iald 202 60 (s 8 i) hS kc82_18 rfl rfl rfl rfl (by omega) (fun _ => rfl) rfl ?_
      have hb19_2 := hB 8 i
      refine wx_iload_n kc82_19 rfl rfl ?_
      refine wn_icmp_ne kc82_20 (hB _ _) (by omega) (fun hq20 => ?_) (fun hq20 => ?_)
      · skip
        refine wx_iconst (nI 0) kc82_27 (by decide) ?_
        refine wn_iadd ((zmni s f i) + 0) kc82_28 rfl ?_
        refine wx_istore_n (ls' := [.ref 194, .int (nI f), .int (nI ((zmni s f i) + 0)), .int (nI i)]) kc82_29 rfl rfl rfl rfl ?_
        refine wn_iinc (i + 1) (ls' := [.ref 194, .int (nI f), .int (nI ((zmni s f i) + 0)), .int (nI (i + 1))]) kc82_30 rfl rfl rfl rfl rfl ?_
        refine wx_goto kc82_33 ?_
        have he : zmni s f (i + 1) = ((zmni s f i) + 0) := by
          show zmni s f i + (if s 8 i = f then 1 else 0) = _
          first | rw [if_pos (by omega)] | rw [if_neg (by omega)]
        have hih := ih (i + 1) (by omega)
        rw [he] at hih
        exact hih
      · skip
        refine wx_iconst (nI 1) kc82_23 (by decide) ?_
        refine wx_goto kc82_24 ?_
        refine wn_iadd ((zmni s f i) + 1) kc82_28 rfl ?_
        refine wx_istore_n (ls' := [.ref 194, .int (nI f), .int (nI ((zmni s f i) + 1)), .int (nI i)]) kc82_29 rfl rfl rfl rfl ?_
        refine wn_iinc (i + 1) (ls' := [.ref 194, .int (nI f), .int (nI ((zmni s f i) + 1)), .int (nI (i + 1))]) kc82_30 rfl rfl rfl rfl rfl ?_
        refine wx_goto kc82_33 ?_
        have he : zmni s f (i + 1) = ((zmni s f i) + 1) := by
          show zmni s f i + (if s 8 i = f then 1 else 0) = _
          first | rw [if_pos (by omega)] | rw [if_neg (by omega)]
        have hih := ih (i + 1) (by omega)
        rw [he] at hih
        exact hih
theorem cM_namesIn {d : Nat} {h0 : zm_H} {s : Nat → Nat → Nat} {Q : Option Value → zm_H → Prop} {f : Nat} (hS : zMS h0) (hI : zMI s) (hf : f < 2147483648) (hq : Q (some (.int (nI (zmni s f (s 0 10))))) (zmh h0 s)) : zm_wc (d + 1) mM_namesIn [.ref 194, .int (nI f)] (zmh h0 s) Q := by
  refine zm_enter (Nat.le_of_ble_eq_true rfl) ?_
  show zm_wp _ 82 0 [.ref 194, .int (nI f), zm_un, zm_un] [] (zmh h0 s) Q
  refine wx_iconst (nI 0) kc82_0 (by decide) ?_
  refine wx_istore_n (ls' := [.ref 194, .int (nI f), .int (nI 0), zm_un]) kc82_1 rfl rfl rfl rfl ?_
  refine wx_iconst (nI 0) kc82_2 (by decide) ?_
  refine wx_istore_n (ls' := [.ref 194, .int (nI f), .int (nI 0), .int (nI 0)]) kc82_3 rfl rfl rfl rfl ?_
  exact lM_namesIn hS hI hf hq (s 0 10) 0 (by omega)
theorem lM_parent {d : Nat} {h0 : zm_H} {s : Nat → Nat → Nat} {Q : Option Value → zm_H → Prop} {f : Nat} (hS : zMS h0) (hI : zMI s) (hf : f < 2147483648) (hq : Q (some (.int (nI (zmpa s f (s 0 10))))) (zmh h0 s)) : ∀ (n i : Nat), i + n = (s 0 10) → zm_wp (d + 0) 83 4 [.ref 194, .int (nI f), .int (nI (zmpa s f i)), .int (nI i)] [] (zmh h0 s) Q := by
  have hB := zMIb hI
  intro n
  induction n with
  | zero =>
    intro i hi
    have hz := zmpa_le hI f i
    have hN : s 0 10 ≤ 60 := hI 0 10
    refine wx_iload_n kc83_4 rfl rfl ?_
    refine wx_aload_n kc83_5 rfl rfl ?_
    refine wm_getf (.int (nI (s 0 10))) hS kc83_6 rfl ?_
    have hb9_1 := hB 0 10
    refine wn_icmp_ge kc83_9 (by omega) (hB _ _) (fun hq9 => ?_) (fun hq9 => ?_)
    · skip
      refine wx_iload_n kc83_39 rfl rfl ?_
      refine wx_ireturn kc83_40 rfl rfl ?_
      obtain rfl : i = s 0 10 := by omega
      exact hq
    · skip
      exact absurd hq9 (by omega)
  | succ n ih =>
    intro i hi
    have hz := zmpa_le hI f i
    have hN : s 0 10 ≤ 60 := hI 0 10
    refine wx_iload_n kc83_4 rfl rfl ?_
    refine wx_aload_n kc83_5 rfl rfl ?_
    refine wm_getf (.int (nI (s 0 10))) hS kc83_6 rfl ?_
    have hb9_1 := hB 0 10
    refine wn_icmp_ge kc83_9 (by omega) (hB _ _) (fun hq9 => ?_) (fun hq9 => ?_)
    · skip
      refine wx_iload_n kc83_39 rfl rfl ?_
      refine wx_ireturn kc83_40 rfl rfl ?_
      obtain rfl : i = s 0 10 := by omega
      exact hq
    · skip
      refine wx_aload_n kc83_12 rfl rfl ?_
      refine wm_getf (.ref 203) hS kc83_13 rfl ?_
      refine wx_iload_n kc83_16 rfl rfl ?_
      refine wm_iald 203 60 (s 9 i) hS kc83_17 rfl rfl rfl rfl (by omega) (fun _ => rfl) rfl ?_
      have hb18_2 := hB 9 i
      refine wx_iload_n kc83_18 rfl rfl ?_
      refine wn_icmp_ne kc83_19 (hB _ _) (by omega) (fun hq19 => ?_) (fun hq19 => ?_)
      · skip
        refine wx_iload_n kc83_31 rfl rfl ?_
        refine wx_istore_n (ls' := [.ref 194, .int (nI f), .int (nI (zmpa s f i)), .int (nI i)]) kc83_32 rfl rfl rfl rfl ?_
        refine wn_iinc (i + 1) (ls' := [.ref 194, .int (nI f), .int (nI (zmpa s f i)), .int (nI (i + 1))]) kc83_33 rfl rfl rfl rfl rfl ?_
        refine wx_goto kc83_36 ?_
        have he : zmpa s f (i + 1) = (zmpa s f i) := by
          show (if s 9 i = f then s 8 i else zmpa s f i) = _
          first | rw [if_pos (by omega)] | rw [if_neg (by omega)]
        have hih := ih (i + 1) (by omega)
        rw [he] at hih
        exact hih
      · skip
        refine wx_aload_n kc83_22 rfl rfl ?_
        refine wm_getf (.ref 202) hS kc83_23 rfl ?_
        refine wx_iload_n kc83_26 rfl rfl ?_
        refine wm_iald 202 60 (s 8 i) hS kc83_27 rfl rfl rfl rfl (by omega) (fun _ => rfl) rfl ?_
        have hb28_3 := hB 8 i
        refine wx_goto kc83_28 ?_
        refine wx_istore_n (ls' := [.ref 194, .int (nI f), .int (nI (s 8 i)), .int (nI i)]) kc83_32 rfl rfl rfl rfl ?_
        refine wn_iinc (i + 1) (ls' := [.ref 194, .int (nI f), .int (nI (s 8 i)), .int (nI (i + 1))]) kc83_33 rfl rfl rfl rfl rfl ?_
        refine wx_goto kc83_36 ?_
        have he : zmpa s f (i + 1) = (s 8 i) := by
          show (if s 9 i = f then s 8 i else zmpa s f i) = _
          first | rw [if_pos (by omega)] | rw [if_neg (by omega)]
        have hih := ih (i + 1) (by omega)
        rw [he] at hih
        exact hih
theorem cM_parent {d : Nat} {h0 : zm_H} {s : Nat → Nat → Nat} {Q : Option Value → zm_H → Prop} {f : Nat} (hS : zMS h0) (hI : zMI s) (hf : f < 2147483648) (hq : Q (some (.int (nI (zmpa s f (s 0 10))))) (zmh h0 s)) : zm_wc (d + 1) mM_parent [.ref 194, .int (nI f)] (zmh h0 s) Q := by
  refine zm_enter (Nat.le_of_ble_eq_true rfl) ?_
  show zm_wp _ 83 0 [.ref 194, .int (nI f), zm_un, zm_un] [] (zmh h0 s) Q
  refine wx_iconst (nI 1) kc83_0 (by decide) ?_
  refine wx_istore_n (ls' := [.ref 194, .int (nI f), .int (nI 1), zm_un]) kc83_1 rfl rfl rfl rfl ?_
  refine wx_iconst (nI 0) kc83_2 (by decide) ?_
  refine wx_istore_n (ls' := [.ref 194, .int (nI f), .int (nI 1), .int (nI 0)]) kc83_3 rfl rfl rfl rfl ?_
  exact lM_parent hS hI hf hq (s 0 10) 0 (by omega)
def zmgr (s : Nat → Nat → Nat) (f many : Nat) : Nat := if s 4 f < many then zft many - zft (s 4 f) else 0
theorem zft_mono {a b : Nat} (h : a ≤ b) : zft a ≤ zft b := by unfold zft; split <;> split <;> omega
theorem cM_growth {d : Nat} {h0 : zm_H} {s : Nat → Nat → Nat} {Q : Option Value → zm_H → Prop} {f k : Nat} (hS : zMS h0) (hI : zMI s) (hf : f ≤ 40) (hk : k ≤ 100) (hq : Q (some (.int (nI (zmgr s f k)))) (zmh h0 s)) : zm_wc (d + 2) mM_growth [.ref 194, .int (nI f), .int (nI k)] (zmh h0 s) Q := by
  refine zm_enter (Nat.le_of_ble_eq_true rfl) ?_
  show zm_wp _ 86 0 [.ref 194, .int (nI f), .int (nI k)] [] (zmh h0 s) Q
  have hB := zMIb hI
  refine wx_iload_n kc86_0 rfl rfl ?_
  refine wx_aload_n kc86_1 rfl rfl ?_
  refine wm_getf (.ref 198) hS kc86_2 rfl ?_
  refine wx_iload_n kc86_5 rfl rfl ?_
  refine wm_iald 198 41 (s 4 f) hS kc86_6 rfl rfl rfl rfl (by omega) (fun _ => rfl) rfl ?_
  have hb7_1 := hB 4 f
  refine wn_icmp_le kc86_7 (by omega) (hB _ _) (fun hq7 => ?_) (fun hq7 => ?_)
  · skip
    refine wx_iconst (nI 0) kc86_27 (by decide) ?_
    refine wx_ireturn kc86_28 rfl rfl ?_
    exact (show zmgr s f k = 0 by unfold zmgr; first | rw [if_pos (by omega)] | rw [if_neg (by omega)]) ▸ hq
  · skip
    refine wx_iload_n kc86_10 rfl rfl ?_
    refine wx_static kc86_11 rfl rfl rfl ?_
    refine cM_folderTakes (by omega) ?_
    show zm_wp _ 86 14 [.ref 194, .int (nI f), .int (nI k)] [.int (nI (zft k))] (zmh h0 s) _
    refine wx_aload_n kc86_14 rfl rfl ?_
    refine wm_getf (.ref 198) hS kc86_15 rfl ?_
    refine wx_iload_n kc86_18 rfl rfl ?_
    refine wm_iald 198 41 (s 4 f) hS kc86_19 rfl rfl rfl rfl (by omega) (fun _ => rfl) rfl ?_
    have hb20_2 := hB 4 f
    refine wx_static kc86_20 rfl rfl rfl ?_
    refine cM_folderTakes (hB _ _) ?_
    show zm_wp _ 86 23 [.ref 194, .int (nI f), .int (nI k)] [.int (nI (zft (s 4 f))), .int (nI (zft k))] (zmh h0 s) _
    have hm := zft_mono (show s 4 f ≤ k by omega)
    refine wn_isub ((zft k) - (zft (s 4 f))) kc86_23 (by omega) ?_
    refine wx_goto kc86_24 ?_
    refine wx_ireturn kc86_28 rfl rfl ?_
    exact (show zmgr s f k = ((zft k) - (zft (s 4 f))) by unfold zmgr; first | rw [if_pos (by omega)] | rw [if_neg (by omega)]) ▸ hq
end
section
def zwr (s : Nat → Nat → Nat) (a lo n : Nat) (g : Nat → Nat) : Nat → Nat → Nat := fun b j => bif Nat.beq b a && (Nat.ble lo j && Nat.blt j (lo + n)) then g (j - lo) else s b j
theorem zwr_in (s : Nat → Nat → Nat) {a lo n j : Nat} (g : Nat → Nat) (h1 : lo ≤ j) (h2 : j < lo + n) : zwr s a lo n g a j = g (j - lo) := by
  unfold zwr
  rw [Nat.beq_refl, Nat.ble_eq_true_of_le h1, Nat.blt_eq.mpr h2]
  rfl
theorem zwr_out (s : Nat → Nat → Nat) {a lo n b j : Nat} (g : Nat → Nat) (h : ¬ (b = a ∧ lo ≤ j ∧ j < lo + n)) : zwr s a lo n g b j = s b j := by
  unfold zwr
  cases hc : (Nat.beq b a && (Nat.ble lo j && Nat.blt j (lo + n))) with
  | false => rfl
  | true =>
    simp only [Bool.and_eq_true] at hc
    exact absurd ⟨Nat.eq_of_beq_eq_true hc.1, Nat.le_of_ble_eq_true hc.2.1, Nat.blt_eq.mp hc.2.2⟩ h
theorem zwr_na (s : Nat → Nat → Nat) {a lo n b j : Nat} (g : Nat → Nat) (h : b ≠ a) : zwr s a lo n g b j = s b j := zwr_out s g (fun z => h z.1)
theorem zwr_0 (s : Nat → Nat → Nat) (a lo : Nat) (g : Nat → Nat) : zwr s a lo 0 g = s := by
  funext b j
  exact zwr_out s g (by omega)
theorem zwr_s (s : Nat → Nat → Nat) (a lo n : Nat) (g : Nat → Nat) : zup (zwr s a lo n g) a (lo + n) (g n) = zwr s a lo (n + 1) g := by
  funext b j
  by_cases h : b = a ∧ j = lo + n
  · obtain ⟨rfl, rfl⟩ := h
    rw [zup_same, zwr_in s g (by omega) (by omega), Nat.add_sub_cancel_left]
  · rw [zup_ne _ _ h]
    by_cases h2 : b = a ∧ lo ≤ j ∧ j < lo + n
    · obtain ⟨rfl, h3, h4⟩ := h2
      rw [zwr_in s g h3 h4, zwr_in s g h3 (by omega)]
    · rw [zwr_out s g h2, zwr_out s g (by
        intro z
        apply h2
        refine ⟨z.1, z.2.1, ?_⟩
        have : j ≠ lo + n := fun e => h ⟨z.1, e⟩
        omega)]
theorem zwr_zup (s : Nat → Nat → Nat) {a lo n b j v : Nat} (g : Nat → Nat) (h : b ≠ a) : zup (zwr s a lo n g) b j v = zwr (zup s b j v) a lo n g := by
  funext c i
  by_cases h1 : c = b ∧ i = j
  · obtain ⟨rfl, rfl⟩ := h1
    rw [zup_same, zwr_na _ g h, zup_same]
  · rw [zup_ne _ _ h1]
    by_cases h2 : c = a ∧ lo ≤ i ∧ i < lo + n
    · obtain ⟨rfl, h3, h4⟩ := h2
      rw [zwr_in _ g h3 h4, zwr_in _ g h3 h4]
    · rw [zwr_out _ g h2, zwr_out _ g h2, zup_ne _ _ h1]
theorem zup_zup (s : Nat → Nat → Nat) (a j v w : Nat) : zup (zup s a j v) a j w = zup s a j w := by
  funext b i
  by_cases h : b = a ∧ i = j
  · obtain ⟨rfl, rfl⟩ := h
    rw [zup_same, zup_same]
  · rw [zup_ne _ _ h, zup_ne _ _ h, zup_ne _ _ h]
theorem zup_cm (s : Nat → Nat → Nat) {a b j i v w : Nat} (h : a ≠ b) : zup (zup s a j v) b i w = zup (zup s b i w) a j v := by
  funext c k
  by_cases h1 : c = a ∧ k = j
  · obtain ⟨rfl, rfl⟩ := h1
    rw [zup_na _ _ h, zup_same, zup_same]
  · rw [zup_ne (zup s b i w) _ h1]
    by_cases h2 : c = b ∧ k = i
    · obtain ⟨rfl, rfl⟩ := h2
      rw [zup_same, zup_same]
    · rw [zup_ne _ _ h2, zup_ne _ _ h1, zup_ne _ _ h2]
theorem zMI_wr {s : Nat → Nat → Nat} (h : zMI s) {a lo n : Nat} {g : Nat → Nat} (hv : ∀ i, i < n → g i ≤ zbd a (lo + i)) : zMI (zwr s a lo n g) := by
  intro b i
  by_cases hb : b = a ∧ lo ≤ i ∧ i < lo + n
  · obtain ⟨rfl, h1, h2⟩ := hb
    rw [zwr_in s g h1 h2]
    have := hv (i - lo) (by omega)
    rw [show lo + (i - lo) = i by omega] at this
    exact this
  · rw [zwr_out s g hb]
    exact h b i
/-- an int32 between two small numbers -/
theorem zi_of {x : Int32} (a b : Nat) (ha : a < 2147483648) (hb : b < 2147483648) (h1 : ¬ x < nI a) (h2 : ¬ nI b < x) : ∃ k : Nat, a ≤ k ∧ k ≤ b ∧ x = nI k := by
  have t1 : (nI b).toInt = b := nI_toInt hb
  have h2' : x.toInt ≤ b := by
    have := Int32.not_lt.mp h2
    have := Int32.le_iff_toInt_le.mp this
    rw [t1] at this
    exact this
  have h1' : (nI a).toInt ≤ x.toInt := Int32.le_iff_toInt_le.mp (Int32.not_lt.mp h1)
  rw [nI_toInt ha] at h1'
  refine ⟨x.toInt.toNat, by omega, by omega, ?_⟩
  apply Int32.toInt_inj.mp
  rw [nI_toInt (by omega)]
  omega
/-- a number, or -1 ahead of the first -/
def zpm : Nat → Int32
  | 0 => -1
  | n + 1 => nI n
theorem zpm_dec : ∀ n, nI n + Int32.ofInt (-1) = zpm n
  | 0 => by decide
  | n + 1 => pk_m1 n
theorem zneg : ((-1 : Int32) < 0) = True := by decide
/-- the byte m of a long, from the right -/
def zby (c : Int64) (m : Nat) : Nat := (c >>> ((nI (8 * m)).toInt64 &&& 63)).toBitVec.toNat % 256
theorem zby_lt (c : Int64) (m : Nat) : zby c m < 256 := Nat.mod_lt _ (by decide)
theorem zand255 (x : Int64) : (x &&& 255).toInt32 = nI (x.toBitVec.toNat % 256) := by
  have e : x &&& 255 = lN (x.toBitVec.toNat % 256) := by
    apply Int64.toBitVec_inj.mp
    apply BitVec.eq_of_toNat_eq
    rw [Int64.toBitVec_and, BitVec.toNat_and]
    have e1 : (255 : Int64).toBitVec.toNat = 2 ^ 8 - 1 := by decide
    have e2 : (lN (x.toBitVec.toNat % 256)).toBitVec.toNat = x.toBitVec.toNat % 256 := by
      show (x.toBitVec.toNat % 256) % 2 ^ 64 = _
      omega
    rw [e1, e2, Nat.and_two_pow_sub_one_eq_mod]
  rw [e, lN_i]
theorem zby_eq (c : Int64) (m : Nat) : (c >>> ((nI (8 * m)).toInt64 &&& 63) &&& 255).toInt32 = nI (zby c m) := zand255 _


theorem lM_fill {d : Nat} {h0 : zm_H} {s : Nat → Nat → Nat} {Q : Option Value → zm_H → Prop} {c k : Nat} (hS : zMS h0) (hB : ∀ a j, s a j < 2147483648) (hc : c < 256) (hk : k ≤ 1200) (ht : s 0 1 + k ≤ 1200) (hq : Q (some (.int (nI (s 0 1 + k)))) (zmh h0 (zup (zwr s 1 (s 0 1) k (fun _ => c)) 0 1 (s 0 1 + k)))) : ∀ (n i : Nat), i + n = k → zm_wp (d + 0) 75 39 [.ref 194, .int (nI c), .int (nI k), .int (nI i)] [] (zmh h0 (zwr s 1 (s 0 1) i (fun _ => c))) Q := by
  intro n
  induction n with
  | zero =>
    intro i hi
    refine wx_iload_n kc75_39 rfl rfl ?_
    refine wx_iload_n kc75_40 rfl rfl ?_
    refine wn_icmp_ge kc75_41 (by omega) (by omega) (fun hq41 => ?_) (fun hq41 => ?_)
    · skip
      refine wx_aload_n kc75_62 rfl rfl ?_
      refine wx_dup kc75_63 rfl ?_
      refine wm_getf (.int (nI (s 0 1))) hS kc75_64 rfl ?_
      have hb67_1 := hB 0 1
      refine wx_iload_n kc75_67 rfl rfl ?_
      refine wn_iadd ((s 0 1) + k) kc75_68 rfl ?_
      refine wm_putf (v := ((s 0 1) + k)) hS kc75_69 rfl rfl ?_
      refine wx_aload_n kc75_72 rfl rfl ?_
      refine wm_getf (.int (nI ((s 0 1) + k))) hS kc75_73 rfl ?_
      refine wx_ireturn kc75_76 rfl rfl ?_
      obtain rfl : i = k := by omega
      exact hq
    · skip
      exact absurd hq41 (by omega)
  | succ n ih =>
    intro i hi
    refine wx_iload_n kc75_39 rfl rfl ?_
    refine wx_iload_n kc75_40 rfl rfl ?_
    refine wn_icmp_ge kc75_41 (by omega) (by omega) (fun hq41 => ?_) (fun hq41 => ?_)
    · skip
      refine wx_aload_n kc75_62 rfl rfl ?_
      refine wx_dup kc75_63 rfl ?_
      refine wm_getf (.int (nI (s 0 1))) hS kc75_64 rfl ?_
      have hb67_1 := hB 0 1
      refine wx_iload_n kc75_67 rfl rfl ?_
      refine wn_iadd ((s 0 1) + k) kc75_68 rfl ?_
      refine wm_putf (v := ((s 0 1) + k)) hS kc75_69 rfl rfl ?_
      refine wx_aload_n kc75_72 rfl rfl ?_
      refine wm_getf (.int (nI ((s 0 1) + k))) hS kc75_73 rfl ?_
      refine wx_ireturn kc75_76 rfl rfl ?_
      obtain rfl : i = k := by omega
      exact hq
    · skip
      refine wx_aload_n kc75_44 rfl rfl ?_
      refine wm_getf (.ref 195) hS kc75_45 rfl ?_
      refine wx_aload_n kc75_48 rfl rfl ?_
      refine wm_getf (.int (nI (s 0 1))) hS kc75_49 rfl ?_
      have hb52_1 := hB 0 1
      refine wx_iload_n kc75_52 rfl rfl ?_
      refine wn_iadd ((s 0 1) + i) kc75_53 rfl ?_
      refine wx_iload_n kc75_54 rfl rfl ?_
      refine wm_iast (v := c) 195 1200 hS kc75_55 rfl rfl rfl rfl (by omega) rfl ?_
      refine wn_iinc (i + 1) (ls' := [.ref 194, .int (nI c), .int (nI k), .int (nI (i + 1))]) kc75_56 rfl rfl rfl rfl rfl ?_
      refine wx_goto kc75_59 ?_
      rw [zwr_s]
      exact ih (i + 1) (by omega)
theorem cM_fill {d : Nat} {h0 : zm_H} {s : Nat → Nat → Nat} {Q : Option Value → zm_H → Prop} {x y : Int32} (hS : zMS h0) (hB : ∀ a j, s a j < 2147483648) (ht : s 0 1 ≤ 1200) (hbad : (∀ k c : Nat, c ≤ 255 → 1 ≤ k → k ≤ 1200 → s 0 1 + k ≤ 1200 → ¬ (x = nI c ∧ y = nI k)) → Q (some (.int (-1))) (zmh h0 s)) (hgood : ∀ k c : Nat, c ≤ 255 → k ≤ 1200 → 1 ≤ k → k ≤ 1200 → s 0 1 + k ≤ 1200 → x = nI c → y = nI k → Q (some (.int (nI (s 0 1 + k)))) (zmh h0 (zup (zwr s 1 (s 0 1) k (fun _ => c)) 0 1 (s 0 1 + k)))) : zm_wc (d + 1) mM_fill [.ref 194, .int x, .int y] (zmh h0 s) Q := by
  refine zm_enter (Nat.le_of_ble_eq_true rfl) ?_
  show zm_wp _ 75 0 [.ref 194, .int x, .int y, zm_un] [] (zmh h0 s) Q
  refine wx_iload_n kc75_0 rfl rfl ?_
  refine wx_if_lt kc75_1 (fun hq1 => ?_) (fun hq1 => ?_)
  · skip
    refine wx_iconst (-1) kc75_35 (by decide) ?_
    refine wx_ireturn kc75_36 rfl rfl ?_
    refine hbad (fun k c h1 h2 h3 h4 hh => ?_)
    obtain ⟨rfl, rfl⟩ := hh
    first | exact absurd hq1 (nI_pos (by omega)) | exact absurd ((nI_ltI (by omega) (by omega)).mp hq8) (by omega) | exact absurd ((nI_ltI (by omega) (by omega)).mp hq13) (by omega) | exact absurd ((nI_ltI (by omega) (by omega)).mp hq20) (by omega) | exact absurd ((nI_leI (by omega) (by omega)).mpr h4) (by rw [← nI_add]; exact hq32)
  · skip
    refine wx_iload_n kc75_4 rfl rfl ?_
    refine wx_sipush (nI 255) kc75_5 (by decide) ?_
    refine wx_icmp_gt kc75_8 (fun hq8 => ?_) (fun hq8 => ?_)
    · skip
      refine wx_iconst (-1) kc75_35 (by decide) ?_
      refine wx_ireturn kc75_36 rfl rfl ?_
      refine hbad (fun k c h1 h2 h3 h4 hh => ?_)
      obtain ⟨rfl, rfl⟩ := hh
      first | exact absurd hq1 (nI_pos (by omega)) | exact absurd ((nI_ltI (by omega) (by omega)).mp hq8) (by omega) | exact absurd ((nI_ltI (by omega) (by omega)).mp hq13) (by omega) | exact absurd ((nI_ltI (by omega) (by omega)).mp hq20) (by omega) | exact absurd ((nI_leI (by omega) (by omega)).mpr h4) (by rw [← nI_add]; exact hq32)
    · skip
      refine wx_iload_n kc75_11 rfl rfl ?_
      refine wx_iconst (nI 1) kc75_12 (by decide) ?_
      refine wx_icmp_lt kc75_13 (fun hq13 => ?_) (fun hq13 => ?_)
      · skip
        refine wx_iconst (-1) kc75_35 (by decide) ?_
        refine wx_ireturn kc75_36 rfl rfl ?_
        refine hbad (fun k c h1 h2 h3 h4 hh => ?_)
        obtain ⟨rfl, rfl⟩ := hh
        first | exact absurd hq1 (nI_pos (by omega)) | exact absurd ((nI_ltI (by omega) (by omega)).mp hq8) (by omega) | exact absurd ((nI_ltI (by omega) (by omega)).mp hq13) (by omega) | exact absurd ((nI_ltI (by omega) (by omega)).mp hq20) (by omega) | exact absurd ((nI_leI (by omega) (by omega)).mpr h4) (by rw [← nI_add]; exact hq32)
      · skip
        refine wx_iload_n kc75_16 rfl rfl ?_
        refine wx_sipush (nI 1200) kc75_17 (by decide) ?_
        refine wx_icmp_gt kc75_20 (fun hq20 => ?_) (fun hq20 => ?_)
        · skip
          refine wx_iconst (-1) kc75_35 (by decide) ?_
          refine wx_ireturn kc75_36 rfl rfl ?_
          refine hbad (fun k c h1 h2 h3 h4 hh => ?_)
          obtain ⟨rfl, rfl⟩ := hh
          first | exact absurd hq1 (nI_pos (by omega)) | exact absurd ((nI_ltI (by omega) (by omega)).mp hq8) (by omega) | exact absurd ((nI_ltI (by omega) (by omega)).mp hq13) (by omega) | exact absurd ((nI_ltI (by omega) (by omega)).mp hq20) (by omega) | exact absurd ((nI_leI (by omega) (by omega)).mpr h4) (by rw [← nI_add]; exact hq32)
        · skip
          refine wx_aload_n kc75_23 rfl rfl ?_
          refine wm_getf (.int (nI (s 0 1))) hS kc75_24 rfl ?_
          have hb27_1 := hB 0 1
          refine wx_iload_n kc75_27 rfl rfl ?_
          refine wx_iadd kc75_28 ?_
          refine wx_sipush (nI 1200) kc75_29 (by decide) ?_
          refine wx_icmp_le kc75_32 (fun hq32 => ?_) (fun hq32 => ?_)
          · skip
            obtain ⟨k, hk1, hk2, rfl⟩ := zi_of 1 1200 (by decide) (by decide) hq13 hq20
            obtain ⟨c, hc1, hc2, rfl⟩ := zi_of 0 255 (by decide) (by decide) hq1 hq8
            rw [nI_add] at hq32
            have ht := (nI_leI (by omega) (by decide)).mp hq32
            have hw := hgood k c (by omega) (by omega) hk1 hk2 ht rfl rfl
            refine wx_iconst (nI 0) kc75_37 (by decide) ?_
            refine wx_istore_n (ls' := [.ref 194, .int (nI c), .int (nI k), .int (nI 0)]) kc75_38 rfl rfl rfl rfl ?_
            rw [← zwr_0 s 1 (s 0 1) (fun _ => c)]
            exact lM_fill hS hB (by omega) (by omega) ht hw k 0 (by omega)
          · skip
            refine wx_iconst (-1) kc75_35 (by decide) ?_
            refine wx_ireturn kc75_36 rfl rfl ?_
            refine hbad (fun k c h1 h2 h3 h4 hh => ?_)
            obtain ⟨rfl, rfl⟩ := hh
            first | exact absurd hq1 (nI_pos (by omega)) | exact absurd ((nI_ltI (by omega) (by omega)).mp hq8) (by omega) | exact absurd ((nI_ltI (by omega) (by omega)).mp hq13) (by omega) | exact absurd ((nI_ltI (by omega) (by omega)).mp hq20) (by omega) | exact absurd ((nI_leI (by omega) (by omega)).mpr h4) (by rw [← nI_add]; exact hq32)
theorem lM_type {d : Nat} {h0 : zm_H} {s : Nat → Nat → Nat} {Q : Option Value → zm_H → Prop} {c : Int64} {k : Nat} (hS : zMS h0) (hB : ∀ a j, s a j < 2147483648) (hk : k ≤ 8) (ht : s 0 1 + k ≤ 1200) (hq : Q (some (.int (nI (s 0 1 + k)))) (zmh h0 (zup (zwr s 1 (s 0 1) k (fun i => zby c (k - 1 - i))) 0 1 (s 0 1 + k)))) : ∀ (m i : Nat), i + m = k → zm_wp (d + 0) 74 30 [.ref 194, .long c, zm_un, .int (nI k), .int (zpm m)] [] (zmh h0 (zup (zwr s 1 (s 0 1) i (fun i => zby c (k - 1 - i))) 0 1 (s 0 1 + i))) Q := by
  intro m
  induction m with
  | zero =>
    intro i hi
    show zm_wp _ 74 30 [.ref 194, .long c, zm_un, .int (nI k), .int (-1)] [] (zmh h0 (zup (zwr s 1 (s 0 1) i (fun i => zby c (k - 1 - i))) 0 1 (s 0 1 + i))) _
    refine wx_iload kc74_30 rfl rfl ?_
    refine wx_if_lt kc74_32 (fun hq32 => ?_) (fun hq32 => ?_)
    · skip
      refine wx_aload_n kc74_72 rfl rfl ?_
      refine wm_getf (.int (nI (s 0 1 + i))) hS kc74_73 rfl ?_
      refine wx_ireturn kc74_76 rfl rfl ?_
      obtain rfl : i = k := by omega
      exact hq
    · skip
      exact absurd (by decide) hq32
  | succ m ih =>
    intro i hi
    show zm_wp _ 74 30 [.ref 194, .long c, zm_un, .int (nI k), .int (nI m)] [] (zmh h0 (zup (zwr s 1 (s 0 1) i (fun i => zby c (k - 1 - i))) 0 1 (s 0 1 + i))) _
    refine wx_iload kc74_30 rfl rfl ?_
    refine wn_if_lt kc74_32 (by omega) ?_
    refine wx_aload_n kc74_35 rfl rfl ?_
    refine wm_getf (.ref 195) hS kc74_36 rfl ?_
    refine wx_aload_n kc74_39 rfl rfl ?_
    refine wm_getf (.int (nI (s 0 1 + i))) hS kc74_40 rfl ?_
    refine wx_lload_n kc74_43 rfl rfl ?_
    refine wx_bipush (nI 8) kc74_44 (by decide) ?_
    refine wx_iload kc74_46 rfl rfl ?_
    refine wn_imul (8 * m) kc74_48 rfl ?_
    refine wx_lshr kc74_49 ?_
    refine wx_ldc2_w (255) kc74_50 (by decide) ?_
    refine wx_land kc74_53 ?_
    refine wx_l2i kc74_54 ?_
    rw [zby_eq]
    show zm_wp _ 74 55 [.ref 194, .long c, zm_un, .int (nI k), .int (nI m)] [.int (nI (zby c m)), .int (nI (s 0 1 + i)), .ref 195] (zmh h0 (zup (zwr s 1 (s 0 1) i (fun i => zby c (k - 1 - i))) 0 1 (s 0 1 + i))) _
    refine wm_iast (v := (zby c m)) 195 1200 hS kc74_55 rfl rfl rfl rfl (by omega) rfl ?_
    refine wx_aload_n kc74_56 rfl rfl ?_
    refine wx_dup kc74_57 rfl ?_
    refine wm_getf (.int (nI (s 0 1 + i))) hS kc74_58 rfl ?_
    refine wx_iconst (nI 1) kc74_61 (by decide) ?_
    refine wn_iadd ((s 0 1 + i) + 1) kc74_62 rfl ?_
    refine wm_putf (v := ((s 0 1 + i) + 1)) hS kc74_63 rfl rfl ?_
    refine wx_iinc (z' := zpm m) (ls' := [.ref 194, .long c, zm_un, .int (nI k), .int (zpm m)]) kc74_66 rfl rfl rfl (zpm_dec m) rfl ?_
    refine wx_goto kc74_69 ?_
    show zm_wp _ 74 30 [.ref 194, .long c, zm_un, .int (nI k), .int (zpm m)] [] (zmh h0 (zup (zup (zup (zwr s 1 (s 0 1) i (fun i => zby c (k - 1 - i))) 0 1 (s 0 1 + i)) 1 (s 0 1 + i) (zby c m)) 0 1 ((s 0 1 + i) + 1))) _
    have e1 : zby c m = (fun i => zby c (k - 1 - i)) i := by
      show zby c m = zby c (k - 1 - i)
      congr 1
      omega
    rw [zup_cm _ (by decide : (0 : Nat) ≠ 1), zup_zup, e1, zwr_s]
    exact ih (i + 1) (by omega)
theorem cM_type {d : Nat} {h0 : zm_H} {s : Nat → Nat → Nat} {Q : Option Value → zm_H → Prop} {c : Int64} {y : Int32} (hS : zMS h0) (hB : ∀ a j, s a j < 2147483648) (ht : s 0 1 ≤ 1200) (hbad : (∀ k : Nat, 1 ≤ k → k ≤ 8 → s 0 1 + k ≤ 1200 → ¬ (y = nI k)) → Q (some (.int (-1))) (zmh h0 s)) (hgood : ∀ k : Nat, 1 ≤ k → k ≤ 8 → s 0 1 + k ≤ 1200 → y = nI k → Q (some (.int (nI (s 0 1 + k)))) (zmh h0 (zup (zwr s 1 (s 0 1) k (fun i => zby c (k - 1 - i))) 0 1 (s 0 1 + k)))) : zm_wc (d + 1) mM_type [.ref 194, .long c, .int y] (zmh h0 s) Q := by
  refine zm_enter (Nat.le_of_ble_eq_true rfl) ?_
  show zm_wp _ 74 0 [.ref 194, .long c, zm_un, .int y, zm_un] [] (zmh h0 s) Q
  refine wx_iload_n kc74_0 rfl rfl ?_
  refine wx_iconst (nI 1) kc74_1 (by decide) ?_
  refine wx_icmp_lt kc74_2 (fun hq2 => ?_) (fun hq2 => ?_)
  · skip
    refine wx_iconst (-1) kc74_23 (by decide) ?_
    refine wx_ireturn kc74_24 rfl rfl ?_
    refine hbad (fun k h1 h2 h3 hh => ?_)
    obtain ⟨rfl⟩ := hh
    first | exact absurd ((nI_ltI (by omega) (by omega)).mp hq2) (by omega) | exact absurd ((nI_ltI (by omega) (by omega)).mp hq8) (by omega) | exact absurd ((nI_leI (by omega) (by omega)).mpr h3) (by rw [← nI_add]; exact hq20)
  · skip
    refine wx_iload_n kc74_5 rfl rfl ?_
    refine wx_bipush (nI 8) kc74_6 (by decide) ?_
    refine wx_icmp_gt kc74_8 (fun hq8 => ?_) (fun hq8 => ?_)
    · skip
      refine wx_iconst (-1) kc74_23 (by decide) ?_
      refine wx_ireturn kc74_24 rfl rfl ?_
      refine hbad (fun k h1 h2 h3 hh => ?_)
      obtain ⟨rfl⟩ := hh
      first | exact absurd ((nI_ltI (by omega) (by omega)).mp hq2) (by omega) | exact absurd ((nI_ltI (by omega) (by omega)).mp hq8) (by omega) | exact absurd ((nI_leI (by omega) (by omega)).mpr h3) (by rw [← nI_add]; exact hq20)
    · skip
      refine wx_aload_n kc74_11 rfl rfl ?_
      refine wm_getf (.int (nI (s 0 1))) hS kc74_12 rfl ?_
      have hb15_1 := hB 0 1
      refine wx_iload_n kc74_15 rfl rfl ?_
      refine wx_iadd kc74_16 ?_
      refine wx_sipush (nI 1200) kc74_17 (by decide) ?_
      refine wx_icmp_le kc74_20 (fun hq20 => ?_) (fun hq20 => ?_)
      · skip
        obtain ⟨k, hk1, hk2, rfl⟩ := zi_of 1 8 (by decide) (by decide) hq2 hq8
        rw [nI_add] at hq20
        have ht := (nI_leI (by omega) (by decide)).mp hq20
        have hw := hgood k hk1 hk2 ht rfl
        refine wx_iload_n kc74_25 rfl rfl ?_
        refine wx_iconst (nI 1) kc74_26 (by decide) ?_
        refine wn_isub (k - 1) kc74_27 (by omega) ?_
        refine wx_istore (ls' := [.ref 194, .long c, zm_un, .int (nI k), .int (nI (k - 1))]) kc74_28 rfl rfl rfl rfl ?_
        have e9 : nI (k - 1) = zpm k := by
          cases k with
          | zero => omega
          | succ k => rfl
        have e8 : s = zup (zwr s 1 (s 0 1) 0 (fun i => zby c (k - 1 - i))) 0 1 (s 0 1 + 0) := by
          rw [zwr_0]
          funext b j
          by_cases hbj : b = 0 ∧ j = 1
          · obtain ⟨rfl, rfl⟩ := hbj
            rw [zup_same]
            rfl
          · rw [zup_ne _ _ hbj]
        rw [e9]
        conv => arg 6; rw [e8]
        exact lM_type hS hB (by omega) ht hw k 0 (by omega)
      · skip
        refine wx_iconst (-1) kc74_23 (by decide) ?_
        refine wx_ireturn kc74_24 rfl rfl ?_
        refine hbad (fun k h1 h2 h3 hh => ?_)
        obtain ⟨rfl⟩ := hh
        first | exact absurd ((nI_ltI (by omega) (by omega)).mp hq2) (by omega) | exact absurd ((nI_ltI (by omega) (by omega)).mp hq8) (by omega) | exact absurd ((nI_leI (by omega) (by omega)).mpr h3) (by rw [← nI_add]; exact hq20)
def ztkr (t : Nat → Nat) : Nat → Int32
  | 0 => -1
  | n + 1 => if t n = 0 then (if ztkr t n = -1 then nI n else -2) else ztkr t n
def ztkz (t : Nat → Nat) : Nat → Nat := zsum (fun k => if t k = 0 then 1 else 0)
def zmtk (s : Nat → Nat → Nat) : Int32 := if 1 < ztkz (s 1) (s 0 1) then -2 else ztkr (s 1) (s 0 1)
/-- the numbers behind take() -/
def zmts (s : Nat → Nat → Nat) : Nat → Nat → Nat := zwr (zup (zup s 0 3 (s 0 1)) 0 1 0) 2 0 (s 0 1) (fun i => s 1 i)

theorem lM_take1 {d : Nat} {h0 : zm_H} {s : Nat → Nat → Nat} {Q : Option Value → zm_H → Prop}  (hS : zMS h0) (hB : ∀ a j, s a j < 2147483648) (ht : s 0 1 ≤ 1200) (hq : zm_wp (d + 0) 76 64 [.ref 194, .int (ztkr (s 1) (s 0 1)), .int (nI (s 0 1)), zm_un] [] (zmh h0 (zmts s)) Q) : ∀ (n i : Nat), i + n = s 0 1 → zm_wp (d + 0) 76 17 [.ref 194, .int (ztkr (s 1) i), .int (nI i), zm_un] [] (zmh h0 (zwr (zup (zup s 0 3 (s 0 1)) 0 1 0) 2 0 i (fun i => s 1 i))) Q := by
  intro n
  induction n with
  | zero =>
    intro i hi
    refine wx_iload_n kc76_17 rfl rfl ?_
    refine wx_aload_n kc76_18 rfl rfl ?_
    refine wm_getf (.int (nI (s 0 1))) hS kc76_19 rfl ?_
    have hb22_1 := hB 0 1
    refine wn_icmp_ge kc76_22 (by omega) (hB _ _) (fun hq22 => ?_) (fun hq22 => ?_)
    · skip
      obtain rfl : i = s 0 1 := by omega
      exact hq
    · skip
      exact absurd hq22 (by omega)
  | succ n ih =>
    intro i hi
    refine wx_iload_n kc76_17 rfl rfl ?_
    refine wx_aload_n kc76_18 rfl rfl ?_
    refine wm_getf (.int (nI (s 0 1))) hS kc76_19 rfl ?_
    have hb22_1 := hB 0 1
    refine wn_icmp_ge kc76_22 (by omega) (hB _ _) (fun hq22 => ?_) (fun hq22 => ?_)
    · skip
      obtain rfl : i = s 0 1 := by omega
      exact hq
    · skip
      refine wx_aload_n kc76_25 rfl rfl ?_
      refine wm_getf (.ref 196) hS kc76_26 rfl ?_
      refine wx_iload_n kc76_29 rfl rfl ?_
      refine wx_aload_n kc76_30 rfl rfl ?_
      refine wm_getf (.ref 195) hS kc76_31 rfl ?_
      refine wx_iload_n kc76_34 rfl rfl ?_
      refine wm_iald 195 1200 (s 1 i) hS kc76_35 rfl rfl rfl rfl (by omega) (fun _ => rfl) rfl ?_
      have hb36_2 := hB 1 i
      refine wm_iast (v := (s 1 i)) 196 1200 hS kc76_36 rfl rfl rfl rfl (by omega) rfl ?_
      refine wx_aload_n kc76_37 rfl rfl ?_
      refine wm_getf (.ref 196) hS kc76_38 rfl ?_
      refine wx_iload_n kc76_41 rfl rfl ?_
      refine wm_iald 196 1200 ((s 1 i)) hS kc76_42 rfl rfl rfl rfl (by omega) (fun _ => rfl) (zup_same _ _ _ _) ?_
      refine wn_if_ne kc76_43 (hB _ _) (fun hq43 => ?_) (fun hq43 => ?_)
      · skip
        refine wn_iinc (i + 1) (ls' := [.ref 194, .int (ztkr (s 1) i), .int (nI (i + 1)), zm_un]) kc76_58 rfl rfl rfl rfl rfl ?_
        refine wx_goto kc76_61 ?_
        show zm_wp _ 76 17 [.ref 194, .int (ztkr (s 1) i), .int (nI (i + 1)), zm_un] [] (zmh h0 (zup (zwr (zup (zup s 0 3 (s 0 1)) 0 1 0) 2 0 i (fun i => s 1 i)) 2 i (s 1 i))) _
        have e1 : s 1 i = (fun i => s 1 i) i := rfl
        have e3 : (0 : Nat) + i = i := by omega
        have e2 := zwr_s (zup (zup s 0 3 (s 0 1)) 0 1 0) 2 0 i (fun i => s 1 i)
        rw [e3] at e2
        rw [e2]
        have e4 : ztkr (s 1) (i + 1) = (ztkr (s 1) i) := by
          show (if s 1 i = 0 then (if ztkr (s 1) i = -1 then nI i else -2) else ztkr (s 1) i) = _
          first | rw [if_pos (by omega), if_pos (by assumption)] | rw [if_pos (by omega), if_neg (by assumption)] | rw [if_neg (by omega)]
        rw [← e4]
        exact ih (i + 1) (by omega)
      · skip
        refine wx_iload_n kc76_46 rfl rfl ?_
        refine wx_iconst (-1) kc76_47 (by decide) ?_
        refine wx_icmp_ne kc76_48 (fun hq48 => ?_) (fun hq48 => ?_)
        · skip
          refine wx_bipush (-2) kc76_55 (by decide) ?_
          refine wx_istore_n (ls' := [.ref 194, .int (-2), .int (nI i), zm_un]) kc76_57 rfl rfl rfl rfl ?_
          refine wn_iinc (i + 1) (ls' := [.ref 194, .int (-2), .int (nI (i + 1)), zm_un]) kc76_58 rfl rfl rfl rfl rfl ?_
          refine wx_goto kc76_61 ?_
          show zm_wp _ 76 17 [.ref 194, .int (-2), .int (nI (i + 1)), zm_un] [] (zmh h0 (zup (zwr (zup (zup s 0 3 (s 0 1)) 0 1 0) 2 0 i (fun i => s 1 i)) 2 i (s 1 i))) _
          have e1 : s 1 i = (fun i => s 1 i) i := rfl
          have e3 : (0 : Nat) + i = i := by omega
          have e2 := zwr_s (zup (zup s 0 3 (s 0 1)) 0 1 0) 2 0 i (fun i => s 1 i)
          rw [e3] at e2
          rw [e2]
          have e4 : ztkr (s 1) (i + 1) = (-2) := by
            show (if s 1 i = 0 then (if ztkr (s 1) i = -1 then nI i else -2) else ztkr (s 1) i) = _
            first | rw [if_pos (by omega), if_pos (by assumption)] | rw [if_pos (by omega), if_neg (by assumption)] | rw [if_neg (by omega)]
          rw [← e4]
          exact ih (i + 1) (by omega)
        · skip
          refine wx_iload_n kc76_51 rfl rfl ?_
          refine wx_goto kc76_52 ?_
          refine wx_istore_n (ls' := [.ref 194, .int (nI i), .int (nI i), zm_un]) kc76_57 rfl rfl rfl rfl ?_
          refine wn_iinc (i + 1) (ls' := [.ref 194, .int (nI i), .int (nI (i + 1)), zm_un]) kc76_58 rfl rfl rfl rfl rfl ?_
          refine wx_goto kc76_61 ?_
          show zm_wp _ 76 17 [.ref 194, .int (nI i), .int (nI (i + 1)), zm_un] [] (zmh h0 (zup (zwr (zup (zup s 0 3 (s 0 1)) 0 1 0) 2 0 i (fun i => s 1 i)) 2 i (s 1 i))) _
          have e1 : s 1 i = (fun i => s 1 i) i := rfl
          have e3 : (0 : Nat) + i = i := by omega
          have e2 := zwr_s (zup (zup s 0 3 (s 0 1)) 0 1 0) 2 0 i (fun i => s 1 i)
          rw [e3] at e2
          rw [e2]
          have e4 : ztkr (s 1) (i + 1) = (nI i) := by
            show (if s 1 i = 0 then (if ztkr (s 1) i = -1 then nI i else -2) else ztkr (s 1) i) = _
            first | rw [if_pos (by omega), if_pos (by assumption)] | rw [if_pos (by omega), if_neg (by assumption)] | rw [if_neg (by omega)]
          rw [← e4]
          exact ih (i + 1) (by omega)
end
section
theorem lM_take2 {d : Nat} {h0 : zm_H} {s : Nat → Nat → Nat} {Q : Option Value → zm_H → Prop}  (hS : zMS h0) (hB : ∀ a j, s a j < 2147483648) (ht : s 0 1 ≤ 1200) (hq : Q (some (.int (zmtk s))) (zmh h0 (zmts s))) : ∀ (n i : Nat), i + n = s 0 1 → zm_wp (d + 0) 76 68 [.ref 194, .int (ztkr (s 1) (s 0 1)), .int (nI (ztkz (s 1) i)), .int (nI i)] [] (zmh h0 (zwr (zup (zup s 0 3 (s 0 1)) 0 1 0) 2 0 (s 0 1) (fun i => s 1 i))) Q := by
  intro n
  induction n with
  | zero =>
    intro i hi
    have hz := zsum_le (g := fun k => if s 1 k = 0 then 1 else 0) (b := 1) i (fun k _ => by split <;> omega)
    have hz : ztkz (s 1) i ≤ i * 1 := hz
    refine wx_iload_n kc76_68 rfl rfl ?_
    refine wx_aload_n kc76_69 rfl rfl ?_
    refine wm_getf (.int (nI (s 0 1))) hS kc76_70 rfl ?_
    have hb73_1 := hB 0 1
    refine wn_icmp_ge kc76_73 (by omega) (hB _ _) (fun hq73 => ?_) (fun hq73 => ?_)
    · skip
      obtain rfl : i = s 0 1 := by omega
      refine wx_iload_n kc76_99 rfl rfl ?_
      refine wx_iconst (nI 1) kc76_100 (by decide) ?_
      refine wn_icmp_le kc76_101 (by omega) (by decide) (fun hq101 => ?_) (fun hq101 => ?_)
      · skip
        refine wx_iload_n kc76_109 rfl rfl ?_
        refine wx_ireturn kc76_110 rfl rfl ?_
        exact (show zmtk s = (ztkr (s 1) (s 0 1)) by unfold zmtk; first | rw [if_pos (by omega)] | rw [if_neg (by omega)]) ▸ hq
      · skip
        refine wx_bipush (-2) kc76_104 (by decide) ?_
        refine wx_goto kc76_106 ?_
        refine wx_ireturn kc76_110 rfl rfl ?_
        exact (show zmtk s = (-2) by unfold zmtk; first | rw [if_pos (by omega)] | rw [if_neg (by omega)]) ▸ hq
    · skip
      exact absurd hq73 (by omega)
  | succ n ih =>
    intro i hi
    have hz := zsum_le (g := fun k => if s 1 k = 0 then 1 else 0) (b := 1) i (fun k _ => by split <;> omega)
    have hz : ztkz (s 1) i ≤ i * 1 := hz
    refine wx_iload_n kc76_68 rfl rfl ?_
    refine wx_aload_n kc76_69 rfl rfl ?_
    refine wm_getf (.int (nI (s 0 1))) hS kc76_70 rfl ?_
    have hb73_1 := hB 0 1
    refine wn_icmp_ge kc76_73 (by omega) (hB _ _) (fun hq73 => ?_) (fun hq73 => ?_)
    · skip
      exact absurd hq73 (by omega)
    · skip
      refine wx_iload_n kc76_76 rfl rfl ?_
      refine wx_aload_n kc76_77 rfl rfl ?_
      refine wm_getf (.ref 196) hS kc76_78 rfl ?_
      refine wx_iload_n kc76_81 rfl rfl ?_
      refine wm_iald 196 1200 (s 1 i) hS kc76_82 rfl rfl rfl rfl (by omega) (fun _ => rfl) (by rw [show 196 - 194 = 2 from rfl, zwr_in _ _ (by omega) (by omega)]; rfl) ?_
      have hb83_2 := hB 1 i
      refine wn_if_ne kc76_83 (hB _ _) (fun hq83 => ?_) (fun hq83 => ?_)
      · skip
        refine wx_iconst (nI 0) kc76_90 (by decide) ?_
        refine wn_iadd ((ztkz (s 1) i) + 0) kc76_91 rfl ?_
        refine wx_istore_n (ls' := [.ref 194, .int (ztkr (s 1) (s 0 1)), .int (nI ((ztkz (s 1) i) + 0)), .int (nI i)]) kc76_92 rfl rfl rfl rfl ?_
        refine wn_iinc (i + 1) (ls' := [.ref 194, .int (ztkr (s 1) (s 0 1)), .int (nI ((ztkz (s 1) i) + 0)), .int (nI (i + 1))]) kc76_93 rfl rfl rfl rfl rfl ?_
        refine wx_goto kc76_96 ?_
        have he : ztkz (s 1) (i + 1) = ((ztkz (s 1) i) + 0) := by
          show ztkz (s 1) i + (if s 1 i = 0 then 1 else 0) = _
          first | rw [if_pos (by omega)] | rw [if_neg (by omega)]
        have hih := ih (i + 1) (by omega)
        rw [he] at hih
        exact hih
      · skip
        refine wx_iconst (nI 1) kc76_86 (by decide) ?_
        refine wx_goto kc76_87 ?_
        refine wn_iadd ((ztkz (s 1) i) + 1) kc76_91 rfl ?_
        refine wx_istore_n (ls' := [.ref 194, .int (ztkr (s 1) (s 0 1)), .int (nI ((ztkz (s 1) i) + 1)), .int (nI i)]) kc76_92 rfl rfl rfl rfl ?_
        refine wn_iinc (i + 1) (ls' := [.ref 194, .int (ztkr (s 1) (s 0 1)), .int (nI ((ztkz (s 1) i) + 1)), .int (nI (i + 1))]) kc76_93 rfl rfl rfl rfl rfl ?_
        refine wx_goto kc76_96 ?_
        have he : ztkz (s 1) (i + 1) = ((ztkz (s 1) i) + 1) := by
          show ztkz (s 1) i + (if s 1 i = 0 then 1 else 0) = _
          first | rw [if_pos (by omega)] | rw [if_neg (by omega)]
        have hih := ih (i + 1) (by omega)
        rw [he] at hih
        exact hih
theorem cM_take {d : Nat} {h0 : zm_H} {s : Nat → Nat → Nat} {Q : Option Value → zm_H → Prop}  (hS : zMS h0) (hB : ∀ a j, s a j < 2147483648) (ht : s 0 1 ≤ 1200) (hq : Q (some (.int (zmtk s))) (zmh h0 (zmts s))) : zm_wc (d + 1) mM_take [.ref 194] (zmh h0 s) Q := by
  refine zm_enter (Nat.le_of_ble_eq_true rfl) ?_
  show zm_wp _ 76 0 [.ref 194, zm_un, zm_un, zm_un] [] (zmh h0 s) Q
  refine wx_aload_n kc76_0 rfl rfl ?_
  refine wx_aload_n kc76_1 rfl rfl ?_
  refine wm_getf (.int (nI (s 0 1))) hS kc76_2 rfl ?_
  have hb5_1 := hB 0 1
  refine wm_putf (v := s 0 1) hS kc76_5 rfl rfl ?_
  refine wx_aload_n kc76_8 rfl rfl ?_
  refine wx_iconst (nI 0) kc76_9 (by decide) ?_
  refine wm_putf (v := 0) hS kc76_10 rfl rfl ?_
  refine wx_iconst (-1) kc76_13 (by decide) ?_
  refine wx_istore_n (ls' := [.ref 194, .int (-1), zm_un, zm_un]) kc76_14 rfl rfl rfl rfl ?_
  refine wx_iconst (nI 0) kc76_15 (by decide) ?_
  refine wx_istore_n (ls' := [.ref 194, .int (-1), .int (nI 0), zm_un]) kc76_16 rfl rfl rfl rfl ?_
  show zm_wp _ 76 17 [.ref 194, .int (-1), .int (nI 0), zm_un] [] (zmh h0 (zup (zup s 0 3 (s 0 1)) 0 1 0)) _
  rw [← zwr_0 (zup (zup s 0 3 (s 0 1)) 0 1 0) 2 0 (fun i => s 1 i)]
  refine lM_take1 hS hB ht ?_ (s 0 1) 0 (by omega)
  refine wx_iconst (nI 0) kc76_64 (by decide) ?_
  refine wx_istore_n (ls' := [.ref 194, .int (ztkr (s 1) (s 0 1)), .int (nI 0), zm_un]) kc76_65 rfl rfl rfl rfl ?_
  refine wx_iconst (nI 0) kc76_66 (by decide) ?_
  refine wx_istore_n (ls' := [.ref 194, .int (ztkr (s 1) (s 0 1)), .int (nI 0), .int (nI 0)]) kc76_67 rfl rfl rfl rfl ?_
  exact lM_take2 hS hB ht hq (s 0 1) 0 (by omega)
def zil (s : Nat → Nat → Nat) (k f n : Nat) : Nat → Nat
  | 0 => if s 10 k = n then 1 else 0
  | i + 1 => if zil s k f n i = 1 ∧ s 11 (255 * k + i) = s 12 (f + i) then 1 else 0
theorem zil_le (s : Nat → Nat → Nat) (k f n : Nat) : ∀ i, zil s k f n i ≤ 1
  | 0 => by unfold zil; split <;> omega
  | i + 1 => by unfold zil; split <;> omega
theorem zil_0 {s : Nat → Nat → Nat} {k f n : Nat} : ∀ (m i : Nat), zil s k f n i = 0 → zil s k f n (i + m) = 0
  | 0, i, h => h
  | m + 1, i, h => by
    show (if zil s k f n (i + m) = 1 ∧ s 11 (255 * k + (i + m)) = s 12 (f + (i + m)) then 1 else 0) = 0
    rw [zil_0 m i h, if_neg (by omega)]
theorem lM_isName {d : Nat} {h0 : zm_H} {s : Nat → Nat → Nat} {Q : Option Value → zm_H → Prop} {k f n : Nat} (hS : zMS h0) (hI : zMI s) (hk : k < 60) (hn : n ≤ 255) (hf : f + n ≤ 42000) (hq : Q (some (.int (nI (zil s k f n n)))) (zmh h0 s)) : ∀ (m i : Nat), i + m = n → zm_wp (d + 0) 84 20 [.ref 194, .int (nI k), .int (nI f), .int (nI n), .int (nI (zil s k f n i)), .int (nI i)] [] (zmh h0 s) Q := by
  have hB := zMIb hI
  intro m
  induction m with
  | zero =>
    intro i hi
    have hz := zil_le s k f n i
    have h11 : s 11 (255 * k + i) < 256 := Nat.lt_succ_of_le (hI 11 (255 * k + i))
    refine wx_iload kc84_20 rfl rfl ?_
    refine wx_iload_n kc84_22 rfl rfl ?_
    refine wn_icmp_ge kc84_23 (by omega) (by omega) (fun hq23 => ?_) (fun hq23 => ?_)
    · skip
      have hend : zil s k f n n = zil s k f n i := by
        rcases Nat.lt_or_ge i n with hlt | hge
        · have h0 : zil s k f n i = 0 := by omega
          have := zil_0 (n - i) i h0
          rw [show i + (n - i) = n by omega] at this
          omega
        · rw [show i = n by omega]
      rw [← hend]
      have hfit : zm_fit .boolean (.int (nI (zil s k f n n))) = true := by
        have := zil_le s k f n n
        rcases (show zil s k f n n = 0 ∨ zil s k f n n = 1 by omega) with e | e <;> rw [e] <;> decide
      refine wx_iload kc84_73 rfl rfl ?_
      refine wx_ireturn kc84_75 rfl hfit ?_
      exact hq
    · skip
      exact absurd hq23 (by omega)
  | succ m ih =>
    intro i hi
    have hz := zil_le s k f n i
    have h11 : s 11 (255 * k + i) < 256 := Nat.lt_succ_of_le (hI 11 (255 * k + i))
    refine wx_iload kc84_20 rfl rfl ?_
    refine wx_iload_n kc84_22 rfl rfl ?_
    refine wn_icmp_ge kc84_23 (by omega) (by omega) (fun hq23 => ?_) (fun hq23 => ?_)
    · skip
      have hend : zil s k f n n = zil s k f n i := by
        rcases Nat.lt_or_ge i n with hlt | hge
        · have h0 : zil s k f n i = 0 := by omega
          have := zil_0 (n - i) i h0
          rw [show i + (n - i) = n by omega] at this
          omega
        · rw [show i = n by omega]
      rw [← hend]
      have hfit : zm_fit .boolean (.int (nI (zil s k f n n))) = true := by
        have := zil_le s k f n n
        rcases (show zil s k f n n = 0 ∨ zil s k f n n = 1 by omega) with e | e <;> rw [e] <;> decide
      refine wx_iload kc84_73 rfl rfl ?_
      refine wx_ireturn kc84_75 rfl hfit ?_
      exact hq
    · skip
      refine wx_iload kc84_26 rfl rfl ?_
      refine wn_if_eq kc84_28 (by omega) (fun hq28 => ?_) (fun hq28 => ?_)
      · skip
        have hend : zil s k f n n = zil s k f n i := by
          rcases Nat.lt_or_ge i n with hlt | hge
          · have h0 : zil s k f n i = 0 := by omega
            have := zil_0 (n - i) i h0
            rw [show i + (n - i) = n by omega] at this
            omega
          · rw [show i = n by omega]
        rw [← hend]
        have hfit : zm_fit .boolean (.int (nI (zil s k f n n))) = true := by
          have := zil_le s k f n n
          rcases (show zil s k f n n = 0 ∨ zil s k f n n = 1 by omega) with e | e <;> rw [e] <;> decide
        refine wx_iload kc84_73 rfl rfl ?_
        refine wx_ireturn kc84_75 rfl hfit ?_
        exact hq
      · skip
        have hi1 : zil s k f n i = 1 := by omega
        refine wx_aload_n kc84_31 rfl rfl ?_
        refine wm_getf (.ref 205) hS kc84_32 rfl ?_
        refine wx_sipush (nI 255) kc84_35 (by decide) ?_
        refine wx_iload_n kc84_38 rfl rfl ?_
        refine wn_imul (255 * k) kc84_39 rfl ?_
        refine wx_iload kc84_40 rfl rfl ?_
        refine wn_iadd ((255 * k) + i) kc84_42 rfl ?_
        refine wm_bald 205 15300 (s 11 ((255 * k) + i)) hS kc84_43 rfl rfl rfl rfl (by omega) (fun _ => rfl) rfl ?_
        refine wx_sipush (nI 255) kc84_44 (by decide) ?_
        refine wx_iand kc84_47 ?_
        rw [zsg_and h11]
        refine wx_aload_n kc84_48 rfl rfl ?_
        refine wm_getf (.ref 206) hS kc84_49 rfl ?_
        refine wx_iload_n kc84_52 rfl rfl ?_
        refine wx_iload kc84_53 rfl rfl ?_
        refine wn_iadd (f + i) kc84_55 rfl ?_
        refine wm_iald 206 42000 (s 12 (f + i)) hS kc84_56 rfl rfl rfl rfl (by omega) (fun _ => rfl) rfl ?_
        have hb57_1 := hB 12 (f + i)
        refine wn_icmp_ne kc84_57 (hB _ _) (hB _ _) (fun hq57 => ?_) (fun hq57 => ?_)
        · skip
          refine wx_iconst (nI 0) kc84_64 (by decide) ?_
          refine wx_istore (ls' := [.ref 194, .int (nI k), .int (nI f), .int (nI n), .int (nI 0), .int (nI i)]) kc84_65 rfl rfl rfl rfl ?_
          refine wn_iinc (i + 1) (ls' := [.ref 194, .int (nI k), .int (nI f), .int (nI n), .int (nI 0), .int (nI (i + 1))]) kc84_67 rfl rfl rfl rfl rfl ?_
          refine wx_goto kc84_70 ?_
          have he : zil s k f n (i + 1) = 0 := by
            show (if zil s k f n i = 1 ∧ s 11 (255 * k + i) = s 12 (f + i) then 1 else 0) = _
            first | rw [if_pos (by omega)] | rw [if_neg (by omega)]
          have hih := ih (i + 1) (by omega)
          rw [he] at hih
          exact hih
        · skip
          refine wx_iconst (nI 1) kc84_60 (by decide) ?_
          refine wx_goto kc84_61 ?_
          refine wx_istore (ls' := [.ref 194, .int (nI k), .int (nI f), .int (nI n), .int (nI 1), .int (nI i)]) kc84_65 rfl rfl rfl rfl ?_
          refine wn_iinc (i + 1) (ls' := [.ref 194, .int (nI k), .int (nI f), .int (nI n), .int (nI 1), .int (nI (i + 1))]) kc84_67 rfl rfl rfl rfl rfl ?_
          refine wx_goto kc84_70 ?_
          have he : zil s k f n (i + 1) = 1 := by
            show (if zil s k f n i = 1 ∧ s 11 (255 * k + i) = s 12 (f + i) then 1 else 0) = _
            first | rw [if_pos (by omega)] | rw [if_neg (by omega)]
          have hih := ih (i + 1) (by omega)
          rw [he] at hih
          exact hih
theorem cM_isName {d : Nat} {h0 : zm_H} {s : Nat → Nat → Nat} {Q : Option Value → zm_H → Prop} {k f n : Nat} (hS : zMS h0) (hI : zMI s) (hk : k < 60) (hn : n ≤ 255) (hf : f + n ≤ 42000) (hq : Q (some (.int (nI (zil s k f n n)))) (zmh h0 s)) : zm_wc (d + 1) mM_isName [.ref 194, .int (nI k), .int (nI f), .int (nI n)] (zmh h0 s) Q := by
  refine zm_enter (Nat.le_of_ble_eq_true rfl) ?_
  show zm_wp _ 84 0 [.ref 194, .int (nI k), .int (nI f), .int (nI n), zm_un, zm_un] [] (zmh h0 s) Q
  have hB := zMIb hI
  refine wx_aload_n kc84_0 rfl rfl ?_
  refine wm_getf (.ref 204) hS kc84_1 rfl ?_
  refine wx_iload_n kc84_4 rfl rfl ?_
  refine wm_iald 204 60 (s 10 k) hS kc84_5 rfl rfl rfl rfl (by omega) (fun _ => rfl) rfl ?_
  have hb6_1 := hB 10 k
  refine wx_iload_n kc84_6 rfl rfl ?_
  refine wn_icmp_ne kc84_7 (hB _ _) (by omega) (fun hq7 => ?_) (fun hq7 => ?_)
  · skip
    refine wx_iconst (nI 0) kc84_14 (by decide) ?_
    refine wx_istore (ls' := [.ref 194, .int (nI k), .int (nI f), .int (nI n), .int (nI 0), zm_un]) kc84_15 rfl rfl rfl rfl ?_
    refine wx_iconst (nI 0) kc84_17 (by decide) ?_
    refine wx_istore (ls' := [.ref 194, .int (nI k), .int (nI f), .int (nI n), .int (nI 0), .int (nI 0)]) kc84_18 rfl rfl rfl rfl ?_
    have he : zil s k f n 0 = 0 := by
      show (if s 10 k = n then 1 else 0) = _
      first | rw [if_pos (by omega)] | rw [if_neg (by omega)]
    have hih := lM_isName (d := d) hS hI hk hn hf hq n 0 (by omega)
    rw [he] at hih
    exact hih
  · skip
    refine wx_iconst (nI 1) kc84_10 (by decide) ?_
    refine wx_goto kc84_11 ?_
    refine wx_istore (ls' := [.ref 194, .int (nI k), .int (nI f), .int (nI n), .int (nI 1), zm_un]) kc84_15 rfl rfl rfl rfl ?_
    refine wx_iconst (nI 0) kc84_17 (by decide) ?_
    refine wx_istore (ls' := [.ref 194, .int (nI k), .int (nI f), .int (nI n), .int (nI 1), .int (nI 0)]) kc84_18 rfl rfl rfl rfl ?_
    have he : zil s k f n 0 = 1 := by
      show (if s 10 k = n then 1 else 0) = _
      first | rw [if_pos (by omega)] | rw [if_neg (by omega)]
    have hih := lM_isName (d := d) hS hI hk hn hf hq n 0 (by omega)
    rw [he] at hih
    exact hih
def zfn (s : Nat → Nat → Nat) (g f n : Nat) : Nat → Int32
  | 0 => -1
  | k + 1 => if s 8 k = g ∧ zil s k f n n = 1 then nI k else zfn s g f n k
theorem lM_findName {d : Nat} {h0 : zm_H} {s : Nat → Nat → Nat} {Q : Option Value → zm_H → Prop} {g f n : Nat} (hS : zMS h0) (hI : zMI s) (hg : g < 2147483648) (hn : n ≤ 255) (hf : f + n ≤ 42000) (hq : Q (some (.int (zfn s g f n (s 0 10)))) (zmh h0 s)) : ∀ (m i : Nat), i + m = s 0 10 → zm_wp (d + 1) 85 6 [.ref 194, .int (nI g), .int (nI f), .int (nI n), .int (zfn s g f n i), .int (nI i)] [] (zmh h0 s) Q := by
  have hB := zMIb hI
  intro m
  induction m with
  | zero =>
    intro i hi
    have hz := zil_le s i f n n
    have hN : s 0 10 ≤ 60 := hI 0 10
    refine wx_iload kc85_6 rfl rfl ?_
    refine wx_aload_n kc85_8 rfl rfl ?_
    refine wm_getf (.int (nI (s 0 10))) hS kc85_9 rfl ?_
    have hb12_1 := hB 0 10
    refine wn_icmp_ge kc85_12 (by omega) (hB _ _) (fun hq12 => ?_) (fun hq12 => ?_)
    · skip
      refine wx_iload kc85_52 rfl rfl ?_
      refine wx_ireturn kc85_54 rfl rfl ?_
      obtain rfl : i = s 0 10 := by omega
      exact hq
    · skip
      exact absurd hq12 (by omega)
  | succ m ih =>
    intro i hi
    have hz := zil_le s i f n n
    have hN : s 0 10 ≤ 60 := hI 0 10
    refine wx_iload kc85_6 rfl rfl ?_
    refine wx_aload_n kc85_8 rfl rfl ?_
    refine wm_getf (.int (nI (s 0 10))) hS kc85_9 rfl ?_
    have hb12_1 := hB 0 10
    refine wn_icmp_ge kc85_12 (by omega) (hB _ _) (fun hq12 => ?_) (fun hq12 => ?_)
    · skip
      refine wx_iload kc85_52 rfl rfl ?_
      refine wx_ireturn kc85_54 rfl rfl ?_
      obtain rfl : i = s 0 10 := by omega
      exact hq
    · skip
      refine wx_aload_n kc85_15 rfl rfl ?_
      refine wm_getf (.ref 202) hS kc85_16 rfl ?_
      refine wx_iload kc85_19 rfl rfl ?_
      refine wm_iald 202 60 (s 8 i) hS kc85_21 rfl rfl rfl rfl (by omega) (fun _ => rfl) rfl ?_
      have hb22_2 := hB 8 i
      refine wx_iload_n kc85_22 rfl rfl ?_
      refine wn_icmp_ne kc85_23 (hB _ _) (by omega) (fun hq23 => ?_) (fun hq23 => ?_)
      · skip
        refine wx_iload kc85_42 rfl rfl ?_
        refine wx_istore (ls' := [.ref 194, .int (nI g), .int (nI f), .int (nI n), .int (zfn s g f n i), .int (nI i)]) kc85_44 rfl rfl rfl rfl ?_
        refine wn_iinc (i + 1) (ls' := [.ref 194, .int (nI g), .int (nI f), .int (nI n), .int (zfn s g f n i), .int (nI (i + 1))]) kc85_46 rfl rfl rfl rfl rfl ?_
        refine wx_goto kc85_49 ?_
        have he : zfn s g f n (i + 1) = (zfn s g f n i) := by
          show (if s 8 i = g ∧ zil s i f n n = 1 then nI i else zfn s g f n i) = _
          first | rw [if_pos (by omega)] | rw [if_neg (by omega)]
        have hih := ih (i + 1) (by omega)
        rw [he] at hih
        exact hih
      · skip
        refine wx_aload_n kc85_26 rfl rfl ?_
        refine wx_iload kc85_27 rfl rfl ?_
        refine wx_iload_n kc85_29 rfl rfl ?_
        refine wx_iload_n kc85_30 rfl rfl ?_
        refine wx_virtual kc85_31 rfl (zmh_is hS 194 8 (by decide) (by decide) rfl) rfl ?_
        refine cM_isName hS hI (by omega) hn hf ?_
        show zm_wp _ 85 34 [.ref 194, .int (nI g), .int (nI f), .int (nI n), .int (zfn s g f n i), .int (nI i)] [.int (nI (zil s i f n n))] (zmh h0 s) _
        refine wn_if_eq kc85_34 (by omega) (fun hq34 => ?_) (fun hq34 => ?_)
        · skip
          refine wx_iload kc85_42 rfl rfl ?_
          refine wx_istore (ls' := [.ref 194, .int (nI g), .int (nI f), .int (nI n), .int (zfn s g f n i), .int (nI i)]) kc85_44 rfl rfl rfl rfl ?_
          refine wn_iinc (i + 1) (ls' := [.ref 194, .int (nI g), .int (nI f), .int (nI n), .int (zfn s g f n i), .int (nI (i + 1))]) kc85_46 rfl rfl rfl rfl rfl ?_
          refine wx_goto kc85_49 ?_
          have he : zfn s g f n (i + 1) = (zfn s g f n i) := by
            show (if s 8 i = g ∧ zil s i f n n = 1 then nI i else zfn s g f n i) = _
            first | rw [if_pos (by omega)] | rw [if_neg (by omega)]
          have hih := ih (i + 1) (by omega)
          rw [he] at hih
          exact hih
        · skip
          refine wx_iload kc85_37 rfl rfl ?_
          refine wx_goto kc85_39 ?_
          refine wx_istore (ls' := [.ref 194, .int (nI g), .int (nI f), .int (nI n), .int (nI i), .int (nI i)]) kc85_44 rfl rfl rfl rfl ?_
          refine wn_iinc (i + 1) (ls' := [.ref 194, .int (nI g), .int (nI f), .int (nI n), .int (nI i), .int (nI (i + 1))]) kc85_46 rfl rfl rfl rfl rfl ?_
          refine wx_goto kc85_49 ?_
          have he : zfn s g f n (i + 1) = (nI i) := by
            show (if s 8 i = g ∧ zil s i f n n = 1 then nI i else zfn s g f n i) = _
            first | rw [if_pos (by omega)] | rw [if_neg (by omega)]
          have hih := ih (i + 1) (by omega)
          rw [he] at hih
          exact hih
theorem cM_findName {d : Nat} {h0 : zm_H} {s : Nat → Nat → Nat} {Q : Option Value → zm_H → Prop} {g f n : Nat} (hS : zMS h0) (hI : zMI s) (hg : g < 2147483648) (hn : n ≤ 255) (hf : f + n ≤ 42000) (hq : Q (some (.int (zfn s g f n (s 0 10)))) (zmh h0 s)) : zm_wc (d + 2) mM_findName [.ref 194, .int (nI g), .int (nI f), .int (nI n)] (zmh h0 s) Q := by
  refine zm_enter (Nat.le_of_ble_eq_true rfl) ?_
  show zm_wp _ 85 0 [.ref 194, .int (nI g), .int (nI f), .int (nI n), zm_un, zm_un] [] (zmh h0 s) Q
  have hB := zMIb hI
  refine wx_iconst (-1) kc85_0 (by decide) ?_
  refine wx_istore (ls' := [.ref 194, .int (nI g), .int (nI f), .int (nI n), .int (-1), zm_un]) kc85_1 rfl rfl rfl rfl ?_
  refine wx_iconst (nI 0) kc85_3 (by decide) ?_
  refine wx_istore (ls' := [.ref 194, .int (nI g), .int (nI f), .int (nI n), .int (-1), .int (nI 0)]) kc85_4 rfl rfl rfl rfl ?_
  exact lM_findName hS hI hg hn hf hq (s 0 10) 0 (by omega)
end
section
/-! bytes as lists, the parts of a path -/
def zls (f : Nat → Nat) (a b : Nat) : List Nat := (List.range (b - a)).map (fun i => f (a + i))
theorem zls_len (f : Nat → Nat) (a b : Nat) : (zls f a b).length = b - a := by simp [zls]
theorem zls_nil (f : Nat → Nat) {a b : Nat} (h : b ≤ a) : zls f a b = [] := by
  unfold zls
  rw [Nat.sub_eq_zero_of_le h]
  rfl
theorem zls_get (f : Nat → Nat) {a b i : Nat} (h : i < b - a) : (zls f a b)[i]? = some (f (a + i)) := by
  unfold zls
  rw [List.getElem?_map, List.getElem?_range h]
  rfl
theorem zls_cons (f : Nat → Nat) {a b : Nat} (h : a < b) : zls f a b = f a :: zls f (a + 1) b := by
  apply List.ext_getElem?
  intro i
  cases i with
  | zero =>
    rw [zls_get f (by omega)]
    rfl
  | succ i =>
    rw [List.getElem?_cons_succ]
    by_cases hi : i + 1 < b - a
    · rw [zls_get f hi, zls_get f (by omega)]
      congr 2
      omega
    · rw [List.getElem?_eq_none (by rw [zls_len]; omega), List.getElem?_eq_none (by rw [zls_len]; omega)]
theorem zls_app (f : Nat → Nat) {b c : Nat} : ∀ (n a : Nat), b - a = n → a ≤ b → b ≤ c → zls f a c = zls f a b ++ zls f b c
  | 0, a, h0, h1, h2 => by
    have : a = b := by omega
    subst this
    rw [zls_nil f (Nat.le_refl a)]
    rfl
  | n + 1, a, h0, h1, h2 => by
    rw [zls_cons f (show a < c by omega), zls_cons f (show a < b by omega), zls_app f n (a + 1) (by omega) (by omega) h2]
    rfl
theorem zls_congr {f g : Nat → Nat} {a b : Nat} (h : ∀ i, a ≤ i → i < b → f i = g i) : zls f a b = zls g a b := by
  unfold zls
  apply List.map_congr_left
  intro i hi
  have := List.mem_range.mp hi
  exact h _ (by omega) (by omega)
theorem zls_shift {f g : Nat → Nat} {a b n : Nat} (h : ∀ i, i < n → f (a + i) = g (b + i)) : zls f a (a + n) = zls g b (b + n) := by
  unfold zls
  rw [Nat.add_sub_cancel_left, Nat.add_sub_cancel_left]
  apply List.map_congr_left
  intro i hi
  exact h i (List.mem_range.mp hi)
theorem zls_eq {f g : Nat → Nat} {a b n m : Nat} : zls f a (a + n) = zls g b (b + m) ↔ n = m ∧ ∀ i, i < n → f (a + i) = g (b + i) := by
  constructor
  · intro h
    have hl := congrArg List.length h
    rw [zls_len, zls_len, Nat.add_sub_cancel_left, Nat.add_sub_cancel_left] at hl
    subst hl
    refine ⟨rfl, fun i hi => ?_⟩
    have : (zls f a (a + n))[i]? = (zls g b (b + n))[i]? := by rw [h]
    rw [zls_get f (by omega), zls_get g (by omega)] at this
    exact Option.some.inj this
  · rintro ⟨rfl, h⟩
    exact zls_shift h
/-- a row of bytes cut at the bytes 47 -/
def zsp : List Nat → List (List Nat)
  | [] => [[]]
  | c :: l => if c = 47 then [] :: zsp l else match zsp l with
    | [] => [[c]]
    | w :: ws => (c :: w) :: ws
def zpk (w : List Nat) : Bool := !(w == [] || w == [46])
/-- the parts of a path -/
def zpt (l : List Nat) : List (List Nat) := (zsp l).filter zpk
theorem zsp_ne : ∀ l, zsp l ≠ []
  | [] => by simp [zsp]
  | c :: l => by
    unfold zsp
    split
    · simp
    · split <;> simp
theorem zsp_word : ∀ (w r : List Nat), (∀ c ∈ w, c ≠ 47) → ∃ v vs, zsp r = v :: vs ∧ zsp (w ++ r) = (w ++ v) :: vs
  | [], r, _ => by
    cases h : zsp r with
    | nil => exact absurd h (zsp_ne r)
    | cons v vs => exact ⟨v, vs, rfl, h⟩
  | c :: w, r, hw => by
    obtain ⟨v, vs, h1, h2⟩ := zsp_word w r (fun c hc => hw c (List.mem_cons_of_mem _ hc))
    refine ⟨v, vs, h1, ?_⟩
    show (if c = 47 then _ else match zsp (w ++ r) with | [] => [[c]] | w :: ws => (c :: w) :: ws) = _
    rw [if_neg (hw c List.mem_cons_self), h2]
    rfl
theorem zpt_nil : zpt [] = [] := by decide
theorem zpt_47 (l : List Nat) : zpt (47 :: l) = zpt l := by
  unfold zpt
  have : zsp (47 :: l) = [] :: zsp l := by
    show (if 47 = 47 then [] :: zsp l else _) = _
    rw [if_pos rfl]
  rw [this]
  rfl
theorem zpt_end {w : List Nat} (hw : ∀ c ∈ w, c ≠ 47) : zpt w = if zpk w = true then [w] else [] := by
  obtain ⟨v, vs, h1, h2⟩ := zsp_word w [] hw
  have e : zsp [] = [[]] := rfl
  rw [e] at h1
  cases h1
  rw [List.append_nil] at h2
  unfold zpt
  rw [h2]
  by_cases hp : zpk w = true
  · rw [if_pos hp]
    simp [hp]
  · rw [if_neg hp]
    simp [hp]
theorem zpt_word {w r : List Nat} (hw : ∀ c ∈ w, c ≠ 47) : zpt (w ++ 47 :: r) = (if zpk w = true then [w] else []) ++ zpt r := by
  obtain ⟨v, vs, h1, h2⟩ := zsp_word w (47 :: r) hw
  have e : zsp (47 :: r) = [] :: zsp r := by
    show (if 47 = 47 then [] :: zsp r else _) = _
    rw [if_pos rfl]
  rw [e] at h1
  cases h1
  rw [List.append_nil] at h2
  unfold zpt
  rw [h2]
  by_cases hp : zpk w = true
  · rw [if_pos hp]
    simp [hp]
  · rw [if_neg hp]
    simp [hp]
/-- a path put ahead of another one -/
theorem zpt_app : ∀ (a b : List Nat), zpt (a ++ 47 :: b) = zpt a ++ zpt b := by
  intro a
  have key : ∀ (n : Nat) (a b : List Nat), a.length ≤ n → zpt (a ++ 47 :: b) = zpt a ++ zpt b := by
    intro n
    induction n with
    | zero =>
      intro a b h
      have : a = [] := List.eq_nil_of_length_eq_zero (by omega)
      subst this
      rw [zpt_nil]
      exact zpt_47 b
    | succ n ih =>
      intro a b h
      by_cases h47 : ∀ c ∈ a, c ≠ 47
      · rw [zpt_word h47, zpt_end h47]
      · have : ∃ w r, a = w ++ 47 :: r ∧ ∀ c ∈ w, c ≠ 47 := by
          clear ih h
          induction a with
          | nil => exact absurd (fun c hc => absurd hc List.not_mem_nil) h47
          | cons c a iha =>
            by_cases hc : c = 47
            · exact ⟨[], a, by rw [hc]; rfl, fun c hc => absurd hc List.not_mem_nil⟩
            · obtain ⟨w, r, e, hw⟩ := iha (fun hz => h47 (fun d hd => by
                rcases List.mem_cons.mp hd with rfl | hd
                · exact hc
                · exact hz d hd))
              refine ⟨c :: w, r, by rw [e]; rfl, fun d hd => ?_⟩
              rcases List.mem_cons.mp hd with rfl | hd
              · exact hc
              · exact hw d hd
        obtain ⟨w, r, rfl, hw⟩ := this
        have hl : r.length ≤ n := by
          rw [List.length_append, List.length_cons] at h
          omega
        rw [List.append_assoc, List.cons_append, zpt_word hw, zpt_word hw, ih r b hl, List.append_assoc]
  exact fun b => key a.length a b (Nat.le_refl _)
theorem zpt_le : ∀ (l : List Nat), (zpt l).length ≤ l.length := by
  intro l
  have key : ∀ l, (zsp l).length ≤ l.length + 1 ∧ (zpt l).length ≤ l.length := by
    intro l
    induction l with
    | nil => exact ⟨by decide, by decide⟩
    | cons c l ih =>
      by_cases hc : c = 47
      · subst hc
        rw [zpt_47]
        refine ⟨?_, by rw [List.length_cons]; omega⟩
        have : zsp (47 :: l) = [] :: zsp l := by
          show (if 47 = 47 then [] :: zsp l else _) = _
          rw [if_pos rfl]
        rw [this, List.length_cons, List.length_cons]
        omega
      · obtain ⟨v, vs, h1, h2⟩ := zsp_word [c] l (fun d hd => by
          rw [List.mem_singleton] at hd
          rw [hd]; exact hc)
        have h2 : zsp (c :: l) = (c :: v) :: vs := h2
        rw [h1, List.length_cons] at ih
        refine ⟨by rw [h2, List.length_cons, List.length_cons]; omega, ?_⟩
        unfold zpt at ih ⊢
        rw [h2]
        rw [h1] at ih
        rw [List.length_cons]
        have : ((v :: vs).filter zpk).length ≥ (vs.filter zpk).length := by
          rw [List.filter_cons]
          split
          · rw [List.length_cons]; omega
          · exact Nat.le_refl _
        rw [List.filter_cons]
        split
        · rw [List.length_cons]
          omega
        · omega
  exact (key l).2
/-- three ways to read on in a path that lies in f from a to b -/
theorem zpt_skip (f : Nat → Nat) {a b : Nat} (h : a < b) (h47 : f a = 47) : zpt (zls f a b) = zpt (zls f (a + 1) b) := by
  rw [zls_cons f h, h47, zpt_47]
theorem zls_no {f : Nat → Nat} {a c : Nat} (hn : ∀ i, a ≤ i → i < c → f i ≠ 47) : ∀ x ∈ zls f a c, x ≠ 47 := by
  intro x hx
  unfold zls at hx
  obtain ⟨i, hi, rfl⟩ := List.mem_map.mp hx
  have := List.mem_range.mp hi
  exact hn _ (by omega) (by omega)
theorem zpt_take (f : Nat → Nat) {a b c : Nat} (h1 : a ≤ c) (h2 : c ≤ b) (hn : ∀ i, a ≤ i → i < c → f i ≠ 47) (he : c = b ∨ f c = 47) : zpt (zls f a b) = (if zpk (zls f a c) = true then [zls f a c] else []) ++ zpt (zls f c b) := by
  rcases Nat.lt_or_ge c b with hlt | hge
  · have h47 : f c = 47 := by
      rcases he with he | he
      · omega
      · exact he
    rw [zls_app f (b := c) (c := b) (c - a) a rfl h1 h2, zls_cons f hlt, h47, zpt_word (zls_no hn), zpt_47]
  · have : c = b := by omega
    subst this
    rw [zls_nil f (Nat.le_refl c), zpt_nil, List.append_nil, zpt_end (zls_no hn)]
end
section
theorem lM_hm1 {d : Nat} {h0 : zm_H} {s : Nat → Nat → Nat} {Q : Option Value → zm_H → Prop} {a : Nat} (hS : zMS h0) (hI : zMI s) (ha : a ≤ 42000) (hc : ∀ c, a ≤ c → c ≤ 42000 → (∀ i, a ≤ i → i < c → s 12 i ≠ 47) → (c = 42000 ∨ s 12 c = 47) → zm_wp (d + 0) 89 36 [.ref 194, .int (nI c), .int (nI a)] [] (zmh h0 s) Q) : ∀ (m k : Nat), k + m = 42000 → a ≤ k → (∀ i, a ≤ i → i < k → s 12 i ≠ 47) → zm_wp (d + 0) 89 13 [.ref 194, .int (nI k), .int (nI a)] [] (zmh h0 s) Q := by
  have hB := zMIb hI
  intro m
  induction m with
  | zero =>
    intro k hk hak hno
    refine wx_iload_n kc89_13 rfl rfl ?_
    refine wx_ldc (nI 42000) kc89_14 (by decide) ?_
    refine wn_icmp_ge kc89_16 (by omega) (by decide) (fun hq16 => ?_) (fun hq16 => ?_)
    · skip
      exact hc k hak (by omega) hno (by omega)
    · skip
      exact absurd hq16 (by omega)
  | succ m ih =>
    intro k hk hak hno
    refine wx_iload_n kc89_13 rfl rfl ?_
    refine wx_ldc (nI 42000) kc89_14 (by decide) ?_
    refine wn_icmp_ge kc89_16 (by omega) (by decide) (fun hq16 => ?_) (fun hq16 => ?_)
    · skip
      exact hc k hak (by omega) hno (by omega)
    · skip
      refine wx_aload_n kc89_19 rfl rfl ?_
      refine wm_getf (.ref 206) hS kc89_20 rfl ?_
      refine wx_iload_n kc89_23 rfl rfl ?_
      refine wm_iald 206 42000 (s 12 k) hS kc89_24 rfl rfl rfl rfl (by omega) (fun _ => rfl) rfl ?_
      have hb25_1 := hB 12 k
      refine wx_bipush (nI 47) kc89_25 (by decide) ?_
      refine wn_icmp_eq kc89_27 (hB _ _) (by decide) (fun hq27 => ?_) (fun hq27 => ?_)
      · skip
        exact hc k hak (by omega) hno (by omega)
      · skip
        refine wn_iinc (k + 1) (ls' := [.ref 194, .int (nI (k + 1)), .int (nI a)]) kc89_30 rfl rfl rfl rfl rfl ?_
        refine wx_goto kc89_33 ?_
        exact ih (k + 1) (by omega) (by omega) (fun i h1 h2 => by
          rcases Nat.lt_or_ge i k with h3 | h3
          · exact hno i h1 h3
          · rw [show i = k by omega]; exact hq27)
def zhm (s : Nat → Nat → Nat) (k : Nat) : Nat := if zpt (zls (s 12) k 42000) = [] then 0 else 1
theorem zhm_skip {s : Nat → Nat → Nat} {a c : Nat} (h1 : a ≤ c) (h2 : c ≤ 42000) (hn : ∀ i, a ≤ i → i < c → s 12 i ≠ 47) (he : c = 42000 ∨ s 12 c = 47) (hp : zpk (zls (s 12) a c) = false) : zhm s a = zhm s (c + 1) := by
  have e : zpt (zls (s 12) a 42000) = zpt (zls (s 12) c 42000) := by
    rw [zpt_take (s 12) h1 h2 hn he, hp]
    rfl
  unfold zhm
  rw [e]
  rcases Nat.lt_or_ge c 42000 with h | h
  · rw [zpt_skip (s 12) h (by omega)]
  · rw [zls_nil (s 12) h, zls_nil (s 12) (show 42000 ≤ c + 1 by omega)]
theorem zhm_yes {s : Nat → Nat → Nat} {a c : Nat} (h1 : a ≤ c) (h2 : c ≤ 42000) (hn : ∀ i, a ≤ i → i < c → s 12 i ≠ 47) (he : c = 42000 ∨ s 12 c = 47) (hp : zpk (zls (s 12) a c) = true) : zhm s a = 1 := by
  unfold zhm
  rw [zpt_take (s 12) h1 h2 hn he, if_pos hp]
  rfl
theorem zhm_end {s : Nat → Nat → Nat} {k : Nat} (h : 42000 ≤ k) : zhm s k = 0 := by
  unfold zhm
  rw [zls_nil (s 12) h, zpt_nil]
  rfl
theorem zhm_le (s : Nat → Nat → Nat) (k : Nat) : zhm s k ≤ 1 := by unfold zhm; split <;> omega
theorem zpk_0 {f : Nat → Nat} {a : Nat} : zpk (zls f a a) = false := by rw [zls_nil f (Nat.le_refl a)]; rfl
theorem zpk_1 {f : Nat → Nat} {a : Nat} : zpk (zls f a (a + 1)) = !(f a == 46) := by
  rw [zls_cons f (by omega), zls_nil f (Nat.le_refl _)]
  unfold zpk
  by_cases h : f a = 46
  · rw [h]; rfl
  · have : (f a == 46) = false := by simpa using h
    rw [this]
    simp [h]
theorem zpk_2 {f : Nat → Nat} {a c : Nat} (h : a + 1 < c) : zpk (zls f a c) = true := by
  rw [zls_cons f (by omega), zls_cons f (by omega)]
  unfold zpk
  simp
theorem lM_hm2 {d : Nat} {h0 : zm_H} {s : Nat → Nat → Nat} {Q : Option Value → zm_H → Prop} (hS : zMS h0) (hI : zMI s) (hq : ∀ r, r = zhm s (s 0 16) → Q (some (.int (nI r))) (zmh h0 s)) : ∀ (n k : Nat) (w : Value), 42001 ≤ k + n → k ≤ 42001 → zhm s k = zhm s (s 0 16) → zm_wp (d + 0) 89 5 [.ref 194, .int (nI k), w] [] (zmh h0 s) Q := by
  have hB := zMIb hI
  intro n
  induction n with
  | zero =>
    intro k w hk hk2 hz
    refine wx_iload_n kc89_5 rfl rfl ?_
    refine wx_ldc (nI 42000) kc89_6 (by decide) ?_
    refine wn_icmp_ge kc89_8 (by omega) (by decide) (fun hq8 => ?_) (fun hq8 => ?_)
    · skip
      refine wx_iconst (nI 0) kc89_69 (by decide) ?_
      refine wx_ireturn kc89_70 rfl (by decide) ?_
      exact hq 0 (hz ▸ (zhm_end (by omega)).symm)
    · skip
      exact absurd hq8 (by omega)
  | succ n ih =>
    intro k w hk hk2 hz
    refine wx_iload_n kc89_5 rfl rfl ?_
    refine wx_ldc (nI 42000) kc89_6 (by decide) ?_
    refine wn_icmp_ge kc89_8 (by omega) (by decide) (fun hq8 => ?_) (fun hq8 => ?_)
    · skip
      refine wx_iconst (nI 0) kc89_69 (by decide) ?_
      refine wx_ireturn kc89_70 rfl (by decide) ?_
      exact hq 0 (hz ▸ (zhm_end (by omega)).symm)
    · skip
      refine wx_iload_n kc89_11 rfl rfl ?_
      refine wx_istore_n (ls' := [.ref 194, .int (nI k), .int (nI k)]) kc89_12 rfl rfl rfl rfl ?_
      refine lM_hm1 hS hI (by omega) ?_ (42000 - k) k (by omega) (Nat.le_refl k) (fun i h1 h2 => absurd h1 (by omega))
      intro c hc1 hc2 hno hend
      refine wx_iload_n kc89_36 rfl rfl ?_
      refine wx_iload_n kc89_37 rfl rfl ?_
      refine wn_isub (c - k) kc89_38 (by omega) ?_
      refine wx_iconst (nI 1) kc89_39 (by decide) ?_
      refine wn_icmp_gt kc89_40 (by omega) (by decide) (fun hq40 => ?_) (fun hq40 => ?_)
      · skip
        refine wx_iconst (nI 1) kc89_61 (by decide) ?_
        refine wx_ireturn kc89_62 rfl (by decide) ?_
        refine hq 1 (hz ▸ (zhm_yes hc1 hc2 hno hend ?_).symm)
        first | exact zpk_2 (by omega) | (rw [show c = k + 1 by omega, zpk_1]; simpa using hq58)
      · skip
        refine wx_iload_n kc89_43 rfl rfl ?_
        refine wx_iload_n kc89_44 rfl rfl ?_
        refine wn_isub (c - k) kc89_45 (by omega) ?_
        refine wx_iconst (nI 1) kc89_46 (by decide) ?_
        refine wn_icmp_ne kc89_47 (by omega) (by decide) (fun hq47 => ?_) (fun hq47 => ?_)
        · skip
          refine wn_iinc (c + 1) (ls' := [.ref 194, .int (nI (c + 1)), .int (nI k)]) kc89_63 rfl rfl rfl rfl rfl ?_
          refine wx_goto kc89_66 ?_
          refine ih (c + 1) _ (by omega) (by omega) ((zhm_skip hc1 hc2 hno hend ?_).symm.trans hz)
          first | (rw [show c = k + 1 by omega, zpk_1, hq58]; rfl) | (rw [show c = k by omega]; exact zpk_0)
        · skip
          refine wx_aload_n kc89_50 rfl rfl ?_
          refine wm_getf (.ref 206) hS kc89_51 rfl ?_
          refine wx_iload_n kc89_54 rfl rfl ?_
          refine wm_iald 206 42000 (s 12 k) hS kc89_55 rfl rfl rfl rfl (by omega) (fun _ => rfl) rfl ?_
          have hb56_1 := hB 12 k
          refine wx_bipush (nI 46) kc89_56 (by decide) ?_
          refine wn_icmp_eq kc89_58 (hB _ _) (by decide) (fun hq58 => ?_) (fun hq58 => ?_)
          · skip
            refine wn_iinc (c + 1) (ls' := [.ref 194, .int (nI (c + 1)), .int (nI k)]) kc89_63 rfl rfl rfl rfl rfl ?_
            refine wx_goto kc89_66 ?_
            refine ih (c + 1) _ (by omega) (by omega) ((zhm_skip hc1 hc2 hno hend ?_).symm.trans hz)
            first | (rw [show c = k + 1 by omega, zpk_1, hq58]; rfl) | (rw [show c = k by omega]; exact zpk_0)
          · skip
            refine wx_iconst (nI 1) kc89_61 (by decide) ?_
            refine wx_ireturn kc89_62 rfl (by decide) ?_
            refine hq 1 (hz ▸ (zhm_yes hc1 hc2 hno hend ?_).symm)
            first | exact zpk_2 (by omega) | (rw [show c = k + 1 by omega, zpk_1]; simpa using hq58)
theorem cM_hasMore {d : Nat} {h0 : zm_H} {s : Nat → Nat → Nat} {Q : Option Value → zm_H → Prop}  (hS : zMS h0) (hI : zMI s) (hq : Q (some (.int (nI (zhm s (s 0 16))))) (zmh h0 s)) : zm_wc (d + 1) mM_hasMore [.ref 194] (zmh h0 s) Q := by
  refine zm_enter (Nat.le_of_ble_eq_true rfl) ?_
  show zm_wp _ 89 0 [.ref 194, zm_un, zm_un] [] (zmh h0 s) Q
  have hB := zMIb hI
  have ha : s 0 16 ≤ 42000 := hI 0 16
  refine wx_aload_n kc89_0 rfl rfl ?_
  refine wm_getf (.int (nI (s 0 16))) hS kc89_1 rfl ?_
  have hb4_1 := hB 0 16
  refine wx_istore_n (ls' := [.ref 194, .int (nI (s 0 16)), zm_un]) kc89_4 rfl rfl rfl rfl ?_
  exact lM_hm2 hS hI (fun r hr => hr ▸ hq) 42001 (s 0 16) _ (by omega) (by omega) rfl
end
section
/-- two states of the reference that differ in a walk's own numbers alone -/
def zZF (s t : Nat → Nat → Nat) : Prop := ∀ a j, a ≠ 12 → ¬ (a = 0 ∧ 16 ≤ j) → t a j = s a j
theorem zZF_rf (s : Nat → Nat → Nat) : zZF s s := fun _ _ _ _ => rfl
theorem zZF_up {s t : Nat → Nat → Nat} (h : zZF s t) {j v : Nat} (hj : 16 ≤ j) : zZF s (zup t 0 j v) := by
  intro a i h1 h2
  rw [zup_ne _ _ (by omega)]
  exact h a i h1 h2
theorem zZF_p {s t : Nat → Nat → Nat} (h : zZF s t) {j v : Nat} : zZF s (zup t 12 j v) := by
  intro a i h1 h2
  rw [zup_ne _ _ (by omega)]
  exact h a i h1 h2
theorem zZF_w {s t : Nat → Nat → Nat} (h : zZF s t) {lo n : Nat} {g : Nat → Nat} : zZF s (zwr t 12 lo n g) := by
  intro a i h1 h2
  rw [zwr_na _ _ h1]
  exact h a i h1 h2
/-- a link's target -/
def ztg (s : Nat → Nat → Nat) (g : Nat) : List Nat := zls (s 7) (1000 * g) (1000 * g + s 6 g)

theorem lM_splice {d : Nat} {h0 : zm_H} {s : Nat → Nat → Nat} {Q : Option Value → zm_H → Prop} {g : Nat} (hS : zMS h0) (hI : zMI s) (hg : g ≤ 40) (hat : s 6 g + 1 ≤ s 0 16) (hq : zm_wp (d + 0) 91 81 [.ref 194, .int (nI g), .int (nI (s 6 g))] [] (zmh h0 (zwr (zup (zup (zup s 0 16 (s 0 16 - 1)) 12 (s 0 16 - 1) 47) 0 16 (s 0 16 - 1 - s 6 g)) 12 (s 0 16 - 1 - s 6 g) (s 6 g) (fun i => s 7 (1000 * g + i)))) Q) : ∀ (n i : Nat), i + n = s 6 g → zm_wp (d + 0) 91 38 [.ref 194, .int (nI g), .int (nI i)] [] (zmh h0 (zwr (zup (zup (zup s 0 16 (s 0 16 - 1)) 12 (s 0 16 - 1) 47) 0 16 (s 0 16 - 1 - s 6 g)) 12 (s 0 16 - 1 - s 6 g) i (fun i => s 7 (1000 * g + i)))) Q := by
  have hB := zMIb hI
  intro n
  induction n with
  | zero =>
    intro i hi
    have h7 : s 7 (1000 * g + i) < 256 := Nat.lt_succ_of_le (hI 7 (1000 * g + i))
    have h6 : s 6 g ≤ 1000 := hI 6 g
    have h16 : s 0 16 ≤ 42000 := hI 0 16
    refine wx_iload_n kc91_38 rfl rfl ?_
    refine wx_aload_n kc91_39 rfl rfl ?_
    refine wm_getf (.ref 200) hS kc91_40 rfl ?_
    refine wx_iload_n kc91_43 rfl rfl ?_
    refine wm_iald 200 41 (s 6 g) hS kc91_44 rfl rfl rfl rfl (by omega) (fun _ => rfl) rfl ?_
    have hb45_1 := hB 6 g
    refine wn_icmp_ge kc91_45 (by omega) (hB _ _) (fun hq45 => ?_) (fun hq45 => ?_)
    · skip
      obtain rfl : i = s 6 g := by omega
      exact hq
    · skip
      exact absurd hq45 (by omega)
  | succ n ih =>
    intro i hi
    have h7 : s 7 (1000 * g + i) < 256 := Nat.lt_succ_of_le (hI 7 (1000 * g + i))
    have h6 : s 6 g ≤ 1000 := hI 6 g
    have h16 : s 0 16 ≤ 42000 := hI 0 16
    refine wx_iload_n kc91_38 rfl rfl ?_
    refine wx_aload_n kc91_39 rfl rfl ?_
    refine wm_getf (.ref 200) hS kc91_40 rfl ?_
    refine wx_iload_n kc91_43 rfl rfl ?_
    refine wm_iald 200 41 (s 6 g) hS kc91_44 rfl rfl rfl rfl (by omega) (fun _ => rfl) rfl ?_
    have hb45_1 := hB 6 g
    refine wn_icmp_ge kc91_45 (by omega) (hB _ _) (fun hq45 => ?_) (fun hq45 => ?_)
    · skip
      exact absurd hq45 (by omega)
    · skip
      refine wx_aload_n kc91_48 rfl rfl ?_
      refine wm_getf (.ref 206) hS kc91_49 rfl ?_
      refine wx_aload_n kc91_52 rfl rfl ?_
      refine wm_getf (.int (nI (s 0 16 - 1 - s 6 g))) hS kc91_53 rfl ?_
      refine wx_iload_n kc91_56 rfl rfl ?_
      refine wn_iadd ((s 0 16 - 1 - s 6 g) + i) kc91_57 rfl ?_
      refine wx_aload_n kc91_58 rfl rfl ?_
      refine wm_getf (.ref 201) hS kc91_59 rfl ?_
      refine wx_sipush (nI 1000) kc91_62 (by decide) ?_
      refine wx_iload_n kc91_65 rfl rfl ?_
      refine wn_imul (1000 * g) kc91_66 rfl ?_
      refine wx_iload_n kc91_67 rfl rfl ?_
      refine wn_iadd ((1000 * g) + i) kc91_68 rfl ?_
      refine wm_bald 201 41000 (s 7 ((1000 * g) + i)) hS kc91_69 rfl rfl rfl rfl (by omega) (fun _ => rfl) rfl ?_
      refine wx_sipush (nI 255) kc91_70 (by decide) ?_
      refine wx_iand kc91_73 ?_
      rw [zsg_and h7]
      refine wm_iast (v := (s 7 ((1000 * g) + i))) 206 42000 hS kc91_74 rfl rfl rfl rfl (by omega) rfl ?_
      refine wn_iinc (i + 1) (ls' := [.ref 194, .int (nI g), .int (nI (i + 1))]) kc91_75 rfl rfl rfl rfl rfl ?_
      refine wx_goto kc91_78 ?_
      show zm_wp _ 91 38 [.ref 194, .int (nI g), .int (nI (i + 1))] [] (zmh h0 (zup (zwr (zup (zup (zup s 0 16 (s 0 16 - 1)) 12 (s 0 16 - 1) 47) 0 16 (s 0 16 - 1 - s 6 g)) 12 (s 0 16 - 1 - s 6 g) i (fun i => s 7 (1000 * g + i))) 12 ((s 0 16 - 1 - s 6 g) + i) (s 7 ((1000 * g) + i)))) _
      have e1 := zwr_s (zup (zup (zup s 0 16 (s 0 16 - 1)) 12 (s 0 16 - 1) 47) 0 16 (s 0 16 - 1 - s 6 g)) 12 (s 0 16 - 1 - s 6 g) i (fun i => s 7 (1000 * g + i))
      rw [e1]
      exact ih (i + 1) (by omega)
/-- the numbers behind splice(g) -/
def zZS (s t : Nat → Nat → Nat) (g : Nat) : Prop := zZF s t ∧ zMI t ∧ t 0 16 = s 0 16 - 1 - s 6 g ∧ zls (t 12) (t 0 16) 42000 = ztg s g ++ 47 :: zls (s 12) (s 0 16) 42000 ∧ t 0 20 = (if (ztg s g).head? = some 47 ∨ s 6 g = 0 then 1 else s 0 17) ∧ t 0 21 = 1
theorem zZS_mk {s : Nat → Nat → Nat} (hI : zMI s) {g v : Nat} (hg : g ≤ 40) (hat : s 6 g + 1 ≤ s 0 16) (hv : v = (if (ztg s g).head? = some 47 ∨ s 6 g = 0 then 1 else s 0 17)) : zZS s (zup (zup (zwr (zup (zup (zup s 0 16 (s 0 16 - 1)) 12 (s 0 16 - 1) 47) 0 16 (s 0 16 - 1 - s 6 g)) 12 (s 0 16 - 1 - s 6 g) (s 6 g) (fun i => s 7 (1000 * g + i))) 0 20 v) 0 21 1) g := by
  have h6 : s 6 g ≤ 1000 := hI 6 g
  have h16 : s 0 16 ≤ 42000 := hI 0 16
  have h17 : s 0 17 ≤ 40 := hI 0 17
  refine ⟨zZF_up (zZF_up (zZF_w (zZF_up (zZF_p (zZF_up (zZF_rf s) (by decide))) (by decide))) (by decide)) (by decide), ?_, rfl, ?_, hv, rfl⟩
  · refine zMI_up (zMI_up (zMI_wr (zMI_up (zMI_up (zMI_up hI (show _ ≤ 42000 by omega)) (show 47 ≤ 255 by decide)) (show _ ≤ 42000 by omega)) (fun i _ => show s 7 (1000 * g + i) ≤ 255 from hI 7 (1000 * g + i))) (show v ≤ 40 by rw [hv]; split <;> omega)) (show 1 ≤ 1 by decide)
  · show zls _ (s 0 16 - 1 - s 6 g) 42000 = _
    rw [zls_app _ (b := s 0 16 - 1) (c := 42000) _ _ rfl (by omega) (by omega)]
    congr 1
    · unfold ztg
      have e2 : s 0 16 - 1 = (s 0 16 - 1 - s 6 g) + s 6 g := by omega
      have : ∀ i, i < s 6 g → (zup (zup (zwr (zup (zup (zup s 0 16 (s 0 16 - 1)) 12 (s 0 16 - 1) 47) 0 16 (s 0 16 - 1 - s 6 g)) 12 (s 0 16 - 1 - s 6 g) (s 6 g) (fun i => s 7 (1000 * g + i))) 0 20 v) 0 21 1) 12 ((s 0 16 - 1 - s 6 g) + i) = s 7 (1000 * g + i) := by
        intro i hi
        show (zwr (zup (zup (zup s 0 16 (s 0 16 - 1)) 12 (s 0 16 - 1) 47) 0 16 (s 0 16 - 1 - s 6 g)) 12 (s 0 16 - 1 - s 6 g) (s 6 g) (fun i => s 7 (1000 * g + i))) 12 _ = _
        rw [zwr_in _ _ (by omega) (by omega), Nat.add_sub_cancel_left]
      have e3 := zls_shift (f := (zup (zup (zwr (zup (zup (zup s 0 16 (s 0 16 - 1)) 12 (s 0 16 - 1) 47) 0 16 (s 0 16 - 1 - s 6 g)) 12 (s 0 16 - 1 - s 6 g) (s 6 g) (fun i => s 7 (1000 * g + i))) 0 20 v) 0 21 1) 12) (g := s 7) (a := s 0 16 - 1 - s 6 g) (b := 1000 * g) (n := s 6 g) this
      rw [← e2] at e3
      exact e3
    · rw [zls_cons _ (show s 0 16 - 1 < 42000 by omega)]
      congr 1
      · show (zwr (zup (zup (zup s 0 16 (s 0 16 - 1)) 12 (s 0 16 - 1) 47) 0 16 (s 0 16 - 1 - s 6 g)) 12 (s 0 16 - 1 - s 6 g) (s 6 g) (fun i => s 7 (1000 * g + i))) 12 _ = _
        rw [zwr_out _ _ (by omega)]
        show zup (zup s 0 16 (s 0 16 - 1)) 12 (s 0 16 - 1) 47 12 (s 0 16 - 1) = 47
        rw [zup_same]
      · rw [show s 0 16 - 1 + 1 = s 0 16 by omega]
        apply zls_congr
        intro i h1 h2
        show (zwr (zup (zup (zup s 0 16 (s 0 16 - 1)) 12 (s 0 16 - 1) 47) 0 16 (s 0 16 - 1 - s 6 g)) 12 (s 0 16 - 1 - s 6 g) (s 6 g) (fun i => s 7 (1000 * g + i))) 12 _ = _
        rw [zwr_out _ _ (by omega)]
        show zup (zup s 0 16 (s 0 16 - 1)) 12 (s 0 16 - 1) 47 12 i = s 12 i
        rw [zup_nj _ _ (by omega)]
        rfl

theorem cM_splice {d : Nat} {h0 : zm_H} {s : Nat → Nat → Nat} {Q : Option Value → zm_H → Prop} {g : Nat} (hS : zMS h0) (hI : zMI s) (hg : g ≤ 40) (hat : s 6 g + 1 ≤ s 0 16) (hq : ∀ t, zZS s t g → Q none (zmh h0 t)) : zm_wc (d + 1) mM_splice [.ref 194, .int (nI g)] (zmh h0 s) Q := by
  refine zm_enter (Nat.le_of_ble_eq_true rfl) ?_
  show zm_wp _ 91 0 [.ref 194, .int (nI g), zm_un] [] (zmh h0 s) Q
  have hB := zMIb hI
  have h6 : s 6 g ≤ 1000 := hI 6 g
  have h16 : s 0 16 ≤ 42000 := hI 0 16
  refine wx_aload_n kc91_0 rfl rfl ?_
  refine wx_dup kc91_1 rfl ?_
  refine wm_getf (.int (nI (s 0 16))) hS kc91_2 rfl ?_
  have hb5_1 := hB 0 16
  refine wx_iconst (nI 1) kc91_5 (by decide) ?_
  refine wn_isub ((s 0 16) - 1) kc91_6 (by omega) ?_
  refine wm_putf (v := ((s 0 16) - 1)) hS kc91_7 rfl rfl ?_
  refine wx_aload_n kc91_10 rfl rfl ?_
  refine wm_getf (.ref 206) hS kc91_11 rfl ?_
  refine wx_aload_n kc91_14 rfl rfl ?_
  refine wm_getf (.int (nI ((s 0 16) - 1))) hS kc91_15 rfl ?_
  refine wx_bipush (nI 47) kc91_18 (by decide) ?_
  refine wm_iast (v := 47) 206 42000 hS kc91_20 rfl rfl rfl rfl (by omega) rfl ?_
  refine wx_aload_n kc91_21 rfl rfl ?_
  refine wx_dup kc91_22 rfl ?_
  refine wm_getf (.int (nI ((s 0 16) - 1))) hS kc91_23 rfl ?_
  refine wx_aload_n kc91_26 rfl rfl ?_
  refine wm_getf (.ref 200) hS kc91_27 rfl ?_
  refine wx_iload_n kc91_30 rfl rfl ?_
  refine wm_iald 200 41 (s 6 g) hS kc91_31 rfl rfl rfl rfl (by omega) (fun _ => rfl) rfl ?_
  have hb32_2 := hB 6 g
  refine wn_isub (((s 0 16) - 1) - (s 6 g)) kc91_32 (by omega) ?_
  refine wm_putf (v := (((s 0 16) - 1) - (s 6 g))) hS kc91_33 rfl rfl ?_
  refine wx_iconst (nI 0) kc91_36 (by decide) ?_
  refine wx_istore_n (ls' := [.ref 194, .int (nI g), .int (nI 0)]) kc91_37 rfl rfl rfl rfl ?_
  show zm_wp _ 91 38 [.ref 194, .int (nI g), .int (nI 0)] [] (zmh h0 (zup (zup (zup s 0 16 ((s 0 16) - 1)) 12 ((s 0 16) - 1) 47) 0 16 (((s 0 16) - 1) - (s 6 g)))) _
  rw [← zwr_0 (zup (zup (zup s 0 16 (s 0 16 - 1)) 12 (s 0 16 - 1) 47) 0 16 (s 0 16 - 1 - s 6 g)) 12 (s 0 16 - 1 - s 6 g) (fun i => s 7 (1000 * g + i))]
  refine lM_splice hS hI hg hat ?_ (s 6 g) 0 (by omega)
  have hhd : (zwr (zup (zup (zup s 0 16 (s 0 16 - 1)) 12 (s 0 16 - 1) 47) 0 16 (s 0 16 - 1 - s 6 g)) 12 (s 0 16 - 1 - s 6 g) (s 6 g) (fun i => s 7 (1000 * g + i))) 12 (s 0 16 - 1 - s 6 g) = 47 ↔ ((ztg s g).head? = some 47 ∨ s 6 g = 0) := by
    unfold ztg
    rcases Nat.eq_zero_or_pos (s 6 g) with h0' | h0'
    · rw [zwr_out _ _ (by omega)]
      show zup (zup s 0 16 (s 0 16 - 1)) 12 (s 0 16 - 1) 47 12 _ = 47 ↔ _
      rw [h0', Nat.sub_zero, zup_same]
      simp
    · rw [zwr_in _ _ (Nat.le_refl _) (by omega), Nat.sub_self, zls_cons _ (by omega)]
      show s 7 (1000 * g + 0) = 47 ↔ _
      simp
      omega
  have hB2 := zMIb ((zMI_wr (zMI_up (zMI_up (zMI_up hI (show s 0 16 - 1 ≤ zbd 0 16 from (show _ ≤ 42000 by omega))) (show 47 ≤ zbd 12 (s 0 16 - 1) from (by decide : 47 ≤ 255))) (show s 0 16 - 1 - s 6 g ≤ zbd 0 16 from (show _ ≤ 42000 by omega))) (fun i (_ : i < s 6 g) => show s 7 (1000 * g + i) ≤ zbd 12 (s 0 16 - 1 - s 6 g + i) from hI 7 (1000 * g + i))))
  refine wx_aload_n kc91_81 rfl rfl ?_
  refine wx_aload_n kc91_82 rfl rfl ?_
  refine wm_getf (.ref 206) hS kc91_83 rfl ?_
  refine wx_aload_n kc91_86 rfl rfl ?_
  refine wm_getf (.int (nI (s 0 16 - 1 - s 6 g))) hS kc91_87 rfl ?_
  refine wm_iald 206 42000 ((zwr (zup (zup (zup s 0 16 (s 0 16 - 1)) 12 (s 0 16 - 1) 47) 0 16 (s 0 16 - 1 - s 6 g)) 12 (s 0 16 - 1 - s 6 g) (s 6 g) (fun i => s 7 (1000 * g + i))) 12 (s 0 16 - 1 - s 6 g)) hS kc91_90 rfl rfl rfl rfl (by omega) (fun _ => rfl) rfl ?_
  refine wx_bipush (nI 47) kc91_91 (by decide) ?_
  refine wn_icmp_ne kc91_93 (hB2 _ _) (by decide) (fun hq93 => ?_) (fun hq93 => ?_)
  · skip
    refine wx_aload_n kc91_100 rfl rfl ?_
    refine wm_getf (.int (nI (s 0 17))) hS kc91_101 rfl ?_
    have hb104_3 := hB 0 17
    refine wm_putf (v := s 0 17) hS kc91_104 rfl rfl ?_
    refine wx_aload_n kc91_107 rfl rfl ?_
    refine wx_iconst (nI 1) kc91_108 (by decide) ?_
    refine wm_putf (v := 1) hS kc91_109 rfl rfl ?_
    refine wx_return kc91_112 rfl ?_
    refine hq _ (zZS_mk hI hg hat ?_)
    first | (rw [if_pos (hhd.mp hq93)]) | (rw [if_neg (fun z => hq93 (hhd.mpr z))])
  · skip
    refine wx_iconst (nI 1) kc91_96 (by decide) ?_
    refine wx_goto kc91_97 ?_
    refine wm_putf (v := 1) hS kc91_104 rfl rfl ?_
    refine wx_aload_n kc91_107 rfl rfl ?_
    refine wx_iconst (nI 1) kc91_108 (by decide) ?_
    refine wm_putf (v := 1) hS kc91_109 rfl rfl ?_
    refine wx_return kc91_112 rfl ?_
    refine hq _ (zZS_mk hI hg hat ?_)
    first | (rw [if_pos (hhd.mp hq93)]) | (rw [if_neg (fun z => hq93 (hhd.mpr z))])
end
section
/-- the walk, over the parts: K kinds, G the folder above, L a name in a folder, T targets -/
def zwk (K G : Nat → Nat) (L : Nat → List Nat → Option Nat) (T : Nat → List Nat) (fo : Bool) : Nat → Nat → Nat → List (List Nat) → Nat → List Nat → Nat → Int32 × Nat × Nat × List Nat × Nat
  | 0, cur, _, _, f, q, u => (0, cur, f, q, u)
  | _ + 1, cur, _, [], f, q, u => (0, cur, f, q, u)
  | n + 1, cur, lk, w :: ps, f, q, u =>
    if 255 < w.length then (-9, cur, f, q, u)
    else if K cur ≠ 2 then (-4, cur, f, q, u)
    else if w = [46, 46] then zwk K G L T fo n (G cur) lk ps f w 1
    else match L cur w with
      | none => (if ps = [] then 0 else -2, 0, cur, w, 0)
      | some g => if K g = 3 ∧ (ps ≠ [] ∨ fo = true) then (if lk = 40 then (-8, g, cur, w, 0) else zwk K G L T fo n (if (T g).head? = some 47 then 1 else cur) (lk + 1) (zpt (T g) ++ ps) cur w 1)
        else zwk K G L T fo n g lk ps cur w 0
section
variable {K G : Nat → Nat} {L : Nat → List Nat → Option Nat} {T : Nat → List Nat} {fo : Bool} {n cur lk f u g : Nat} {w q : List Nat} {ps : List (List Nat)}
theorem zwk_nil : zwk K G L T fo (n + 1) cur lk [] f q u = (0, cur, f, q, u) := rfl
theorem zwk_long (h : 255 < w.length) : zwk K G L T fo (n + 1) cur lk (w :: ps) f q u = (-9, cur, f, q, u) := by
  simp only [zwk]; rw [if_pos h]
theorem zwk_nf (h1 : ¬ 255 < w.length) (h2 : K cur ≠ 2) : zwk K G L T fo (n + 1) cur lk (w :: ps) f q u = (-4, cur, f, q, u) := by
  simp only [zwk]; rw [if_neg h1, if_pos h2]
theorem zwk_up (h1 : ¬ 255 < w.length) (h2 : K cur = 2) (h3 : w = [46, 46]) : zwk K G L T fo (n + 1) cur lk (w :: ps) f q u = zwk K G L T fo n (G cur) lk ps f w 1 := by
  simp only [zwk]; rw [if_neg h1, if_neg (fun z => z h2), if_pos h3]
theorem zwk_no (h1 : ¬ 255 < w.length) (h2 : K cur = 2) (h3 : w ≠ [46, 46]) (h4 : L cur w = none) : zwk K G L T fo (n + 1) cur lk (w :: ps) f q u = (if ps = [] then 0 else -2, 0, cur, w, 0) := by
  simp only [zwk]; rw [if_neg h1, if_neg (fun z => z h2), if_neg h3, h4]
theorem zwk_loop (h1 : ¬ 255 < w.length) (h2 : K cur = 2) (h3 : w ≠ [46, 46]) (h4 : L cur w = some g) (h5 : K g = 3 ∧ (ps ≠ [] ∨ fo = true)) (h6 : lk = 40) : zwk K G L T fo (n + 1) cur lk (w :: ps) f q u = (-8, g, cur, w, 0) := by
  simp only [zwk]; rw [if_neg h1, if_neg (fun z => z h2), if_neg h3, h4]
  simp only []
  rw [if_pos h5, if_pos h6]
theorem zwk_link (h1 : ¬ 255 < w.length) (h2 : K cur = 2) (h3 : w ≠ [46, 46]) (h4 : L cur w = some g) (h5 : K g = 3 ∧ (ps ≠ [] ∨ fo = true)) (h6 : lk ≠ 40) : zwk K G L T fo (n + 1) cur lk (w :: ps) f q u = zwk K G L T fo n (if (T g).head? = some 47 then 1 else cur) (lk + 1) (zpt (T g) ++ ps) cur w 1 := by
  simp only [zwk]; rw [if_neg h1, if_neg (fun z => z h2), if_neg h3, h4]
  simp only []
  rw [if_pos h5, if_neg h6]
theorem zwk_go (h1 : ¬ 255 < w.length) (h2 : K cur = 2) (h3 : w ≠ [46, 46]) (h4 : L cur w = some g) (h5 : ¬ (K g = 3 ∧ (ps ≠ [] ∨ fo = true))) : zwk K G L T fo (n + 1) cur lk (w :: ps) f q u = zwk K G L T fo n g lk ps cur w 0 := by
  simp only [zwk]; rw [if_neg h1, if_neg (fun z => z h2), if_neg h3, h4]
  simp only []
  rw [if_neg h5]
end
/-- the name k, and which name of a folder f has these bytes -/
def znm (s : Nat → Nat → Nat) (k : Nat) : List Nat := zls (s 11) (255 * k) (255 * k + s 10 k)
def zlkn (s : Nat → Nat → Nat) (f : Nat) (w : List Nat) : Nat → Option Nat
  | 0 => none
  | k + 1 => if s 8 k = f ∧ znm s k = w then some k else zlkn s f w k
theorem zlkn_lt {s : Nat → Nat → Nat} {f : Nat} {w : List Nat} : ∀ {m k : Nat}, zlkn s f w m = some k → k < m ∧ s 8 k = f ∧ znm s k = w
  | 0, _, h => by cases h
  | m + 1, k, h => by
    unfold zlkn at h
    split at h
    · next hc => cases h; exact ⟨Nat.lt_succ_self _, hc⟩
    · have := zlkn_lt h
      exact ⟨by omega, this.2⟩
theorem zil_iff (s : Nat → Nat → Nat) (k f n : Nat) : ∀ i, zil s k f n i = 1 ↔ s 10 k = n ∧ ∀ j, j < i → s 11 (255 * k + j) = s 12 (f + j)
  | 0 => by
    unfold zil
    constructor
    · intro h
      split at h
      · next e => exact ⟨e, fun j hj => absurd hj (by omega)⟩
      · cases h
    · intro h
      rw [if_pos h.1]
  | i + 1 => by
    have ih := zil_iff s k f n i
    unfold zil
    constructor
    · intro h
      split at h
      · next e =>
        obtain ⟨h1, h2⟩ := ih.mp e.1
        refine ⟨h1, fun j hj => ?_⟩
        rcases Nat.lt_or_ge j i with hl | hl
        · exact h2 j hl
        · rw [show j = i by omega]; exact e.2
      · cases h
    · intro h
      rw [if_pos ⟨ih.mpr ⟨h.1, fun j hj => h.2 j (by omega)⟩, h.2 i (by omega)⟩]
theorem zil_nm {s t : Nat → Nat → Nat} (hF : zZF s t) (k f n : Nat) : zil t k f n n = 1 ↔ znm s k = zls (t 12) f (f + n) := by
  rw [zil_iff]
  unfold znm
  have e : zls (s 11) (255 * k) (255 * k + s 10 k) = zls (t 11) (255 * k) (255 * k + t 10 k) := by
    rw [hF 10 k (by decide) (by omega)]
    exact zls_congr (fun i _ _ => (hF 11 i (by decide) (by omega)).symm)
  rw [e, zls_eq]
  constructor
  · rintro ⟨h1, h2⟩
    exact ⟨h1, fun i hi => h2 i (by omega)⟩
  · rintro ⟨h1, h2⟩
    exact ⟨h1, fun i hi => h2 i (by omega)⟩
theorem zfn_lk {s t : Nat → Nat → Nat} (hF : zZF s t) (g f n : Nat) : ∀ m, zfn t g f n m = match zlkn s g (zls (t 12) f (f + n)) m with | none => -1 | some k => nI k
  | 0 => rfl
  | m + 1 => by
    have ih := zfn_lk hF g f n m
    show (if t 8 m = g ∧ zil t m f n n = 1 then nI m else zfn t g f n m) = _
    have e1 : t 8 m = s 8 m := hF 8 m (by decide) (by omega)
    by_cases hc : s 8 m = g ∧ znm s m = zls (t 12) f (f + n)
    · rw [if_pos ⟨e1.trans hc.1, (zil_nm hF m f n).mpr hc.2⟩]
      unfold zlkn
      rw [if_pos hc]
    · rw [if_neg (fun z => hc ⟨e1.symm.trans z.1, (zil_nm hF m f n).mp z.2⟩), ih]
      conv => rhs; unfold zlkn
      rw [if_neg hc]
/-- the walk over the reference's numbers -/
def zwm (s : Nat → Nat → Nat) (fo : Bool) : Nat → Nat → Nat → List (List Nat) → Nat → List Nat → Nat → Int32 × Nat × Nat × List Nat × Nat := zwk (s 3) (fun f => zmpa s f (s 0 10)) (fun f w => (zlkn s f w (s 0 10)).map (s 9)) (ztg s) fo
theorem zmpa_F {s t : Nat → Nat → Nat} (hF : zZF s t) (f : Nat) : ∀ n, zmpa t f n = zmpa s f n
  | 0 => rfl
  | n + 1 => by
    unfold zmpa
    rw [hF 9 n (by decide) (by omega), hF 8 n (by decide) (by omega), zmpa_F hF f n]
/-- what a walk leaves behind -/
def zZW (s t : Nat → Nat → Nat) (o : Int32 × Nat × Nat × List Nat × Nat) : Prop := zZF s t ∧ zMI t ∧ (o.1 = 0 → t 0 20 = o.2.1 ∧ t 0 21 = o.2.2.2.2 ∧ (o.2.2.2.2 = 0 → t 0 17 = o.2.2.1 ∧ t 0 19 = o.2.2.2.1.length ∧ t 0 18 + t 0 19 ≤ 42000 ∧ zls (t 12) (t 0 18) (t 0 18 + t 0 19) = o.2.2.2.1))
def zAc (t : Nat → Nat → Nat) (ps : List (List Nat)) (f : Nat) (q : List Nat) (u : Nat) : Prop := t 0 21 = u ∧ (ps = [] → u = 0 → t 0 17 = f ∧ t 0 19 = q.length ∧ t 0 18 + t 0 19 ≤ 42000 ∧ zls (t 12) (t 0 18) (t 0 18 + t 0 19) = q)
theorem zup_id {s : Nat → Nat → Nat} {a j v : Nat} (h : s a j = v) : zup s a j v = s := by
  funext b i
  by_cases hb : b = a ∧ i = j
  · obtain ⟨rfl, rfl⟩ := hb
    rw [zup_same, h]
  · rw [zup_ne _ _ hb]

theorem lM_wk1 {d : Nat} {h0 : zm_H} {t : Nat → Nat → Nat} {Q : Option Value → zm_H → Prop} {a : Nat} {v1 v2 v3 v4 v5 v6 : Value} (hS : zMS h0) (hI : zMI t) (ha : a ≤ 42000) (hc : ∀ c, a ≤ c → c ≤ 42000 → (∀ i, a ≤ i → i < c → t 12 i ≠ 47) → (c = 42000 ∨ t 12 c = 47) → zm_wp (d + 2) 90 135 [.ref 194, v1, v2, v3, v4, v5, v6] [] (zmh h0 (zup (zup t 0 18 a) 0 16 c)) Q) : ∀ (m k : Nat), k + m = 42000 → a ≤ k → (∀ i, a ≤ i → i < k → t 12 i ≠ 47) → zm_wp (d + 2) 90 99 [.ref 194, v1, v2, v3, v4, v5, v6] [] (zmh h0 (zup (zup t 0 18 a) 0 16 k)) Q := by
  have hB := zMIb hI
  intro m
  induction m with
  | zero =>
    intro k hk hak hno
    refine wx_aload_n kc90_99 rfl rfl ?_
    refine wm_getf (.int (nI k)) hS kc90_100 rfl ?_
    refine wx_ldc (nI 42000) kc90_103 (by decide) ?_
    refine wn_icmp_ge kc90_105 (by omega) (by decide) (fun hq105 => ?_) (fun hq105 => ?_)
    · skip
      exact hc k hak (by omega) hno (by omega)
    · skip
      exact absurd hq105 (by omega)
  | succ m ih =>
    intro k hk hak hno
    refine wx_aload_n kc90_99 rfl rfl ?_
    refine wm_getf (.int (nI k)) hS kc90_100 rfl ?_
    refine wx_ldc (nI 42000) kc90_103 (by decide) ?_
    refine wn_icmp_ge kc90_105 (by omega) (by decide) (fun hq105 => ?_) (fun hq105 => ?_)
    · skip
      exact hc k hak (by omega) hno (by omega)
    · skip
      refine wx_aload_n kc90_108 rfl rfl ?_
      refine wm_getf (.ref 206) hS kc90_109 rfl ?_
      refine wx_aload_n kc90_112 rfl rfl ?_
      refine wm_getf (.int (nI k)) hS kc90_113 rfl ?_
      refine wm_iald 206 42000 (t 12 k) hS kc90_116 rfl rfl rfl rfl (by omega) (fun _ => rfl) rfl ?_
      have hb117_1 := hB 12 k
      refine wx_bipush (nI 47) kc90_117 (by decide) ?_
      refine wn_icmp_eq kc90_119 (hB _ _) (by decide) (fun hq119 => ?_) (fun hq119 => ?_)
      · skip
        exact hc k hak (by omega) hno (by omega)
      · skip
        refine wx_aload_n kc90_122 rfl rfl ?_
        refine wx_dup kc90_123 rfl ?_
        refine wm_getf (.int (nI k)) hS kc90_124 rfl ?_
        refine wx_iconst (nI 1) kc90_127 (by decide) ?_
        refine wn_iadd (k + 1) kc90_128 rfl ?_
        refine wm_putf (v := (k + 1)) hS kc90_129 rfl rfl ?_
        refine wx_goto kc90_132 ?_
        show zm_wp _ 90 99 [.ref 194, v1, v2, v3, v4, v5, v6] [] (zmh h0 (zup (zup (zup t 0 18 a) 0 16 k) 0 16 (k + 1))) _
        rw [zup_zup]
        exact ih (k + 1) (by omega) (by omega) (fun i h1 h2 => by
          rcases Nat.lt_or_ge i k with h3 | h3
          · exact hno i h1 h3
          · rw [show i = k by omega]; exact hq119)
end
