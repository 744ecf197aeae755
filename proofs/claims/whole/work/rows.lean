section
/-- a private method of a class that the tables say can be made, by its rows of tables_1 -/
def lw_okq (q : MethodName × Nat) : Prop := (q.1.cls ≠ "java/lang/invoke/MethodHandle" ∧ q.1.cls ≠ "java/lang/invoke/VarHandle") ∧ Cond.instantiable q.1.cls q.2 ∈ tables_1 ∧ Cond.privateMethod q.1 ∈ tables_1 ∧ Cond.instanceMethod q.1 ∈ tables_1
theorem lw_p0 : lw_okq (⟨"NameTree", "readName", "()I"⟩, 6) := ⟨⟨by decide +kernel, by decide +kernel⟩, List.mem_of_getElem? (i := 13) (by decide +kernel), List.mem_of_getElem? (i := 267) (by decide +kernel), List.mem_of_getElem? (i := 268) (by decide +kernel)⟩
theorem lw_p1 : lw_okq (⟨"NameTree$Tape", "zeroFrom", "(II)I"⟩, 2) := ⟨⟨by decide +kernel, by decide +kernel⟩, List.mem_of_getElem? (i := 21) (by decide +kernel), List.mem_of_getElem? (i := 279) (by decide +kernel), List.mem_of_getElem? (i := 280) (by decide +kernel)⟩
theorem lw_p2 : lw_okq (⟨"NameTree$Walk", "begin", "()V"⟩, 11) := ⟨⟨by decide +kernel, by decide +kernel⟩, List.mem_of_getElem? (i := 143) (by decide +kernel), List.mem_of_getElem? (i := 291) (by decide +kernel), List.mem_of_getElem? (i := 292) (by decide +kernel)⟩
theorem lw_p3 : lw_okq (⟨"NameTree$Walk", "push", "([BII)V"⟩, 11) := ⟨⟨by decide +kernel, by decide +kernel⟩, List.mem_of_getElem? (i := 143) (by decide +kernel), List.mem_of_getElem? (i := 295) (by decide +kernel), List.mem_of_getElem? (i := 296) (by decide +kernel)⟩
theorem lw_p4 : lw_okq (⟨"NameTree$Walk", "hasPart", "()Z"⟩, 11) := ⟨⟨by decide +kernel, by decide +kernel⟩, List.mem_of_getElem? (i := 143) (by decide +kernel), List.mem_of_getElem? (i := 300) (by decide +kernel), List.mem_of_getElem? (i := 301) (by decide +kernel)⟩
theorem lw_p5 : lw_okq (⟨"NameTree$Walk", "topSpan", "()LNameTree$Span;"⟩, 11) := ⟨⟨by decide +kernel, by decide +kernel⟩, List.mem_of_getElem? (i := 143) (by decide +kernel), List.mem_of_getElem? (i := 304) (by decide +kernel), List.mem_of_getElem? (i := 305) (by decide +kernel)⟩
theorem lw_p6 : lw_okq (⟨"NameTree$Span", "holds", "(II)Z"⟩, 3) := ⟨⟨by decide +kernel, by decide +kernel⟩, List.mem_of_getElem? (i := 150) (by decide +kernel), List.mem_of_getElem? (i := 312) (by decide +kernel), List.mem_of_getElem? (i := 313) (by decide +kernel)⟩
theorem lw_p7 : lw_okq (⟨"NameTree$Walk", "takePart", "()V"⟩, 11) := ⟨⟨by decide +kernel, by decide +kernel⟩, List.mem_of_getElem? (i := 143) (by decide +kernel), List.mem_of_getElem? (i := 316) (by decide +kernel), List.mem_of_getElem? (i := 317) (by decide +kernel)⟩
theorem lw_p8 : lw_okq (⟨"NameTree$Walk", "step", "(ZZ)I"⟩, 11) := ⟨⟨by decide +kernel, by decide +kernel⟩, List.mem_of_getElem? (i := 143) (by decide +kernel), List.mem_of_getElem? (i := 324) (by decide +kernel), List.mem_of_getElem? (i := 325) (by decide +kernel)⟩
theorem lw_p9 : lw_okq (⟨"NameTree$Walk", "isUp", "()Z"⟩, 11) := ⟨⟨by decide +kernel, by decide +kernel⟩, List.mem_of_getElem? (i := 143) (by decide +kernel), List.mem_of_getElem? (i := 328) (by decide +kernel), List.mem_of_getElem? (i := 329) (by decide +kernel)⟩
theorem lw_p10 : lw_okq (⟨"NameTree$Walk", "goThrough", "(LNameTree$TreeFile;)I"⟩, 11) := ⟨⟨by decide +kernel, by decide +kernel⟩, List.mem_of_getElem? (i := 143) (by decide +kernel), List.mem_of_getElem? (i := 340) (by decide +kernel), List.mem_of_getElem? (i := 341) (by decide +kernel)⟩
theorem lw_p11 : lw_okq (⟨"NameTree", "isFullFor", "(LNameTree$TreeFile;I)Z"⟩, 6) := ⟨⟨by decide +kernel, by decide +kernel⟩, List.mem_of_getElem? (i := 13) (by decide +kernel), List.mem_of_getElem? (i := 352) (by decide +kernel), List.mem_of_getElem? (i := 353) (by decide +kernel)⟩
theorem lw_p12 : lw_okq (⟨"NameTree", "isTooMuch", "(LNameTree$TreeFile;I)Z"⟩, 6) := ⟨⟨by decide +kernel, by decide +kernel⟩, List.mem_of_getElem? (i := 13) (by decide +kernel), List.mem_of_getElem? (i := 356) (by decide +kernel), List.mem_of_getElem? (i := 357) (by decide +kernel)⟩
theorem lw_p13 : lw_okq (⟨"NameTree", "readTwoPaths", "(Z)I"⟩, 6) := ⟨⟨by decide +kernel, by decide +kernel⟩, List.mem_of_getElem? (i := 13) (by decide +kernel), List.mem_of_getElem? (i := 390) (by decide +kernel), List.mem_of_getElem? (i := 391) (by decide +kernel)⟩
theorem lw_p14 : lw_okq (⟨"NameTree", "takeAway", "(LNameTree$NameRow;)V"⟩, 6) := ⟨⟨by decide +kernel, by decide +kernel⟩, List.mem_of_getElem? (i := 13) (by decide +kernel), List.mem_of_getElem? (i := 413) (by decide +kernel), List.mem_of_getElem? (i := 414) (by decide +kernel)⟩
theorem lw_p15 : lw_okq (⟨"NameTree", "refusalOfMove", "()I"⟩, 6) := ⟨⟨by decide +kernel, by decide +kernel⟩, List.mem_of_getElem? (i := 13) (by decide +kernel), List.mem_of_getElem? (i := 440) (by decide +kernel), List.mem_of_getElem? (i := 441) (by decide +kernel)⟩
def lw_privs_1 : List (MethodName × Nat) := [(⟨"NameTree", "readName", "()I"⟩, 6), (⟨"NameTree$Tape", "zeroFrom", "(II)I"⟩, 2), (⟨"NameTree$Walk", "begin", "()V"⟩, 11), (⟨"NameTree$Walk", "push", "([BII)V"⟩, 11), (⟨"NameTree$Walk", "hasPart", "()Z"⟩, 11), (⟨"NameTree$Walk", "topSpan", "()LNameTree$Span;"⟩, 11), (⟨"NameTree$Span", "holds", "(II)Z"⟩, 3), (⟨"NameTree$Walk", "takePart", "()V"⟩, 11), (⟨"NameTree$Walk", "step", "(ZZ)I"⟩, 11), (⟨"NameTree$Walk", "isUp", "()Z"⟩, 11), (⟨"NameTree$Walk", "goThrough", "(LNameTree$TreeFile;)I"⟩, 11), (⟨"NameTree", "isFullFor", "(LNameTree$TreeFile;I)Z"⟩, 6), (⟨"NameTree", "isTooMuch", "(LNameTree$TreeFile;I)Z"⟩, 6), (⟨"NameTree", "readTwoPaths", "(Z)I"⟩, 6), (⟨"NameTree", "takeAway", "(LNameTree$NameRow;)V"⟩, 6), (⟨"NameTree", "refusalOfMove", "()I"⟩, 6)]
theorem lw_r1 : ∀ q ∈ lw_privs_1, lw_okq q := List.forall_mem_cons.mpr ⟨lw_p0, List.forall_mem_cons.mpr ⟨lw_p1, List.forall_mem_cons.mpr ⟨lw_p2, List.forall_mem_cons.mpr ⟨lw_p3, List.forall_mem_cons.mpr ⟨lw_p4, List.forall_mem_cons.mpr ⟨lw_p5, List.forall_mem_cons.mpr ⟨lw_p6, List.forall_mem_cons.mpr ⟨lw_p7, List.forall_mem_cons.mpr ⟨lw_p8, List.forall_mem_cons.mpr ⟨lw_p9, List.forall_mem_cons.mpr ⟨lw_p10, List.forall_mem_cons.mpr ⟨lw_p11, List.forall_mem_cons.mpr ⟨lw_p12, List.forall_mem_cons.mpr ⟨lw_p13, List.forall_mem_cons.mpr ⟨lw_p14, List.forall_mem_cons.mpr ⟨lw_p15, fun _ h => absurd h List.not_mem_nil⟩⟩⟩⟩⟩⟩⟩⟩⟩⟩⟩⟩⟩⟩⟩⟩
theorem lw_p16 : lw_okq (⟨"NameTree", "readPath", "(Z)I"⟩, 6) := ⟨⟨by decide +kernel, by decide +kernel⟩, List.mem_of_getElem? (i := 13) (by decide +kernel), List.mem_of_getElem? (i := 451) (by decide +kernel), List.mem_of_getElem? (i := 452) (by decide +kernel)⟩
theorem lw_p17 : lw_okq (⟨"NameTreeModel", "allTake", "()I"⟩, 22) := ⟨⟨by decide +kernel, by decide +kernel⟩, List.mem_of_getElem? (i := 493) (by decide +kernel), List.mem_of_getElem? (i := 582) (by decide +kernel), List.mem_of_getElem? (i := 583) (by decide +kernel)⟩
theorem lw_p18 : lw_okq (⟨"NameTreeModel", "takes", "(I)I"⟩, 22) := ⟨⟨by decide +kernel, by decide +kernel⟩, List.mem_of_getElem? (i := 493) (by decide +kernel), List.mem_of_getElem? (i := 586) (by decide +kernel), List.mem_of_getElem? (i := 587) (by decide +kernel)⟩
theorem lw_p19 : lw_okq (⟨"NameTreeModel", "take", "()I"⟩, 22) := ⟨⟨by decide +kernel, by decide +kernel⟩, List.mem_of_getElem? (i := 493) (by decide +kernel), List.mem_of_getElem? (i := 597) (by decide +kernel), List.mem_of_getElem? (i := 598) (by decide +kernel)⟩
theorem lw_p20 : lw_okq (⟨"NameTreeModel", "walkToName", "(II)I"⟩, 22) := ⟨⟨by decide +kernel, by decide +kernel⟩, List.mem_of_getElem? (i := 493) (by decide +kernel), List.mem_of_getElem? (i := 601) (by decide +kernel), List.mem_of_getElem? (i := 602) (by decide +kernel)⟩
theorem lw_p21 : lw_okq (⟨"NameTreeModel", "walk", "(IIZ)I"⟩, 22) := ⟨⟨by decide +kernel, by decide +kernel⟩, List.mem_of_getElem? (i := 493) (by decide +kernel), List.mem_of_getElem? (i := 605) (by decide +kernel), List.mem_of_getElem? (i := 606) (by decide +kernel)⟩
theorem lw_p22 : lw_okq (⟨"NameTreeModel", "hasMore", "()Z"⟩, 22) := ⟨⟨by decide +kernel, by decide +kernel⟩, List.mem_of_getElem? (i := 493) (by decide +kernel), List.mem_of_getElem? (i := 609) (by decide +kernel), List.mem_of_getElem? (i := 610) (by decide +kernel)⟩
theorem lw_p23 : lw_okq (⟨"NameTreeModel", "parent", "(I)I"⟩, 22) := ⟨⟨by decide +kernel, by decide +kernel⟩, List.mem_of_getElem? (i := 493) (by decide +kernel), List.mem_of_getElem? (i := 613) (by decide +kernel), List.mem_of_getElem? (i := 614) (by decide +kernel)⟩
theorem lw_p24 : lw_okq (⟨"NameTreeModel", "findName", "(III)I"⟩, 22) := ⟨⟨by decide +kernel, by decide +kernel⟩, List.mem_of_getElem? (i := 493) (by decide +kernel), List.mem_of_getElem? (i := 617) (by decide +kernel), List.mem_of_getElem? (i := 618) (by decide +kernel)⟩
theorem lw_p25 : lw_okq (⟨"NameTreeModel", "isName", "(III)Z"⟩, 22) := ⟨⟨by decide +kernel, by decide +kernel⟩, List.mem_of_getElem? (i := 493) (by decide +kernel), List.mem_of_getElem? (i := 621) (by decide +kernel), List.mem_of_getElem? (i := 622) (by decide +kernel)⟩
theorem lw_p26 : lw_okq (⟨"NameTreeModel", "splice", "(I)V"⟩, 22) := ⟨⟨by decide +kernel, by decide +kernel⟩, List.mem_of_getElem? (i := 493) (by decide +kernel), List.mem_of_getElem? (i := 625) (by decide +kernel), List.mem_of_getElem? (i := 626) (by decide +kernel)⟩
theorem lw_p27 : lw_okq (⟨"NameTreeModel", "newFile", "(II)I"⟩, 22) := ⟨⟨by decide +kernel, by decide +kernel⟩, List.mem_of_getElem? (i := 493) (by decide +kernel), List.mem_of_getElem? (i := 629) (by decide +kernel), List.mem_of_getElem? (i := 630) (by decide +kernel)⟩
theorem lw_p28 : lw_okq (⟨"NameTreeModel", "namesIn", "(I)I"⟩, 22) := ⟨⟨by decide +kernel, by decide +kernel⟩, List.mem_of_getElem? (i := 493) (by decide +kernel), List.mem_of_getElem? (i := 633) (by decide +kernel), List.mem_of_getElem? (i := 634) (by decide +kernel)⟩
theorem lw_p29 : lw_okq (⟨"NameTreeModel", "growth", "(II)I"⟩, 22) := ⟨⟨by decide +kernel, by decide +kernel⟩, List.mem_of_getElem? (i := 493) (by decide +kernel), List.mem_of_getElem? (i := 637) (by decide +kernel), List.mem_of_getElem? (i := 638) (by decide +kernel)⟩
theorem lw_p30 : lw_okq (⟨"NameTreeModel", "addName", "(I)V"⟩, 22) := ⟨⟨by decide +kernel, by decide +kernel⟩, List.mem_of_getElem? (i := 493) (by decide +kernel), List.mem_of_getElem? (i := 641) (by decide +kernel), List.mem_of_getElem? (i := 642) (by decide +kernel)⟩
theorem lw_p31 : lw_okq (⟨"NameTreeModel", "removeName", "(I)V"⟩, 22) := ⟨⟨by decide +kernel, by decide +kernel⟩, List.mem_of_getElem? (i := 493) (by decide +kernel), List.mem_of_getElem? (i := 657) (by decide +kernel), List.mem_of_getElem? (i := 658) (by decide +kernel)⟩
def lw_privs_2 : List (MethodName × Nat) := [(⟨"NameTree", "readPath", "(Z)I"⟩, 6), (⟨"NameTreeModel", "allTake", "()I"⟩, 22), (⟨"NameTreeModel", "takes", "(I)I"⟩, 22), (⟨"NameTreeModel", "take", "()I"⟩, 22), (⟨"NameTreeModel", "walkToName", "(II)I"⟩, 22), (⟨"NameTreeModel", "walk", "(IIZ)I"⟩, 22), (⟨"NameTreeModel", "hasMore", "()Z"⟩, 22), (⟨"NameTreeModel", "parent", "(I)I"⟩, 22), (⟨"NameTreeModel", "findName", "(III)I"⟩, 22), (⟨"NameTreeModel", "isName", "(III)Z"⟩, 22), (⟨"NameTreeModel", "splice", "(I)V"⟩, 22), (⟨"NameTreeModel", "newFile", "(II)I"⟩, 22), (⟨"NameTreeModel", "namesIn", "(I)I"⟩, 22), (⟨"NameTreeModel", "growth", "(II)I"⟩, 22), (⟨"NameTreeModel", "addName", "(I)V"⟩, 22), (⟨"NameTreeModel", "removeName", "(I)V"⟩, 22)]
theorem lw_r2 : ∀ q ∈ lw_privs_2, lw_okq q := List.forall_mem_cons.mpr ⟨lw_p16, List.forall_mem_cons.mpr ⟨lw_p17, List.forall_mem_cons.mpr ⟨lw_p18, List.forall_mem_cons.mpr ⟨lw_p19, List.forall_mem_cons.mpr ⟨lw_p20, List.forall_mem_cons.mpr ⟨lw_p21, List.forall_mem_cons.mpr ⟨lw_p22, List.forall_mem_cons.mpr ⟨lw_p23, List.forall_mem_cons.mpr ⟨lw_p24, List.forall_mem_cons.mpr ⟨lw_p25, List.forall_mem_cons.mpr ⟨lw_p26, List.forall_mem_cons.mpr ⟨lw_p27, List.forall_mem_cons.mpr ⟨lw_p28, List.forall_mem_cons.mpr ⟨lw_p29, List.forall_mem_cons.mpr ⟨lw_p30, List.forall_mem_cons.mpr ⟨lw_p31, fun _ h => absurd h List.not_mem_nil⟩⟩⟩⟩⟩⟩⟩⟩⟩⟩⟩⟩⟩⟩⟩⟩
theorem lw_p32 : lw_okq (⟨"NameTreeModel", "namesOf", "(I)I"⟩, 22) := ⟨⟨by decide +kernel, by decide +kernel⟩, List.mem_of_getElem? (i := 493) (by decide +kernel), List.mem_of_getElem? (i := 661) (by decide +kernel), List.mem_of_getElem? (i := 662) (by decide +kernel)⟩
theorem lw_p33 : lw_okq (⟨"NameTreeModel", "isWithin", "(II)Z"⟩, 22) := ⟨⟨by decide +kernel, by decide +kernel⟩, List.mem_of_getElem? (i := 493) (by decide +kernel), List.mem_of_getElem? (i := 673) (by decide +kernel), List.mem_of_getElem? (i := 674) (by decide +kernel)⟩
theorem lw_p34 : lw_okq (⟨"NameTreeModel", "isFile", "(I)Z"⟩, 22) := ⟨⟨by decide +kernel, by decide +kernel⟩, List.mem_of_getElem? (i := 493) (by decide +kernel), List.mem_of_getElem? (i := 689) (by decide +kernel), List.mem_of_getElem? (i := 690) (by decide +kernel)⟩
theorem lw_p35 : lw_okq (⟨"NameTreeModel", "foldersIn", "(I)I"⟩, 22) := ⟨⟨by decide +kernel, by decide +kernel⟩, List.mem_of_getElem? (i := 493) (by decide +kernel), List.mem_of_getElem? (i := 697) (by decide +kernel), List.mem_of_getElem? (i := 698) (by decide +kernel)⟩
theorem lw_p36 : lw_okq (⟨"NameTreeModel", "fileCount", "()I"⟩, 22) := ⟨⟨by decide +kernel, by decide +kernel⟩, List.mem_of_getElem? (i := 493) (by decide +kernel), List.mem_of_getElem? (i := 709) (by decide +kernel), List.mem_of_getElem? (i := 710) (by decide +kernel)⟩
def lw_privs_3 : List (MethodName × Nat) := [(⟨"NameTreeModel", "namesOf", "(I)I"⟩, 22), (⟨"NameTreeModel", "isWithin", "(II)Z"⟩, 22), (⟨"NameTreeModel", "isFile", "(I)Z"⟩, 22), (⟨"NameTreeModel", "foldersIn", "(I)I"⟩, 22), (⟨"NameTreeModel", "fileCount", "()I"⟩, 22)]
theorem lw_r3 : ∀ q ∈ lw_privs_3, lw_okq q := List.forall_mem_cons.mpr ⟨lw_p32, List.forall_mem_cons.mpr ⟨lw_p33, List.forall_mem_cons.mpr ⟨lw_p34, List.forall_mem_cons.mpr ⟨lw_p35, List.forall_mem_cons.mpr ⟨lw_p36, fun _ h => absurd h List.not_mem_nil⟩⟩⟩⟩⟩
def lw_privs : List (MethodName × Nat) := lw_privs_1 ++ (lw_privs_2 ++ (lw_privs_3))
def lw_tbl : List Cond := k2_sels lw_privs ++ tables_1
theorem lw_privs_ok : ∀ q ∈ lw_privs, lw_okq q := by
  show ∀ q ∈ lw_privs_1 ++ (lw_privs_2 ++ (lw_privs_3)), lw_okq q
  exact List.forall_mem_append.mpr ⟨lw_r1, List.forall_mem_append.mpr ⟨lw_r2, lw_r3⟩⟩
end
section
/-! printed by program: the numbers of this commit -/
abbrev m_law : Nat := 0
abbrev mL_init : Nat := 1
abbrev mL_at : Nat := 2
abbrev mL_absent : Nat := 3
abbrev mL_present : Nat := 4
abbrev mL_taken : Nat := 5
abbrev mL_foldersIn : Nat := 6
abbrev mR_init : Nat := 7
abbrev mR_setBytes : Nat := 8
abbrev mR_is : Nat := 9
abbrev mQ_init : Nat := 10
abbrev mQ_lookUp : Nat := 11
abbrev mQ_give : Nat := 12
abbrev mQ_drop : Nat := 13
abbrev mQ_forget : Nat := 14
abbrev mS_init : Nat := 15
abbrev mS_goToPart : Nat := 16
abbrev mS_passPart : Nat := 17
abbrev mS_holds : Nat := 18
abbrev mT_init : Nat := 19
abbrev mT_hasSpaceFor : Nat := 20
abbrev mT_append : Nat := 21
abbrev mT_useUp : Nat := 22
abbrev mT_hasZero : Nat := 23
abbrev mT_onlyZero : Nat := 24
abbrev mT_zeroFrom : Nat := 25
abbrev mF_init : Nat := 26
abbrev mF_begin : Nat := 27
abbrev mF_setTarget : Nat := 28
abbrev mF_byteOfTarget : Nat := 29
abbrev mF_takes : Nat := 30
abbrev mF_growthByOneName : Nat := 31
abbrev mF_size : Nat := 32
abbrev mF_goIfUnused : Nat := 33
abbrev mW_init : Nat := 34
abbrev mW_goToName : Nat := 35
abbrev mW_go : Nat := 36
abbrev mW_begin : Nat := 37
abbrev mW_push : Nat := 38
abbrev mW_hasPart : Nat := 39
abbrev mW_topSpan : Nat := 40
abbrev mW_takePart : Nat := 41
abbrev mW_step : Nat := 42
abbrev mW_goThrough : Nat := 43
abbrev mW_isUp : Nat := 44
abbrev mN_init : Nat := 45
abbrev mN_type : Nat := 46
abbrev mN_fill : Nat := 47
abbrev mN_room : Nat := 48
abbrev mN_make : Nat := 49
abbrev mN_link : Nat := 50
abbrev mN_symlink : Nat := 51
abbrev mN_remove : Nat := 52
abbrev mN_removeFolder : Nat := 53
abbrev mN_rename : Nat := 54
abbrev mN_find : Nat := 55
abbrev mN_hold : Nat := 56
abbrev mN_release : Nat := 57
abbrev mN_about : Nat := 58
abbrev mN_targetByte : Nat := 59
abbrev mN_count : Nat := 60
abbrev mN_readPath : Nat := 61
abbrev mN_readName : Nat := 62
abbrev mN_readTwoPaths : Nat := 63
abbrev mN_isFullFor : Nat := 64
abbrev mN_isTooMuch : Nat := 65
abbrev mN_refusalOfMove : Nat := 66
abbrev mN_refusalOfReplacing : Nat := 67
abbrev mN_isWithin : Nat := 68
abbrev mN_takeAway : Nat := 69
abbrev mN_roomOfTarget : Nat := 70
abbrev mN_roomOfFolder : Nat := 71
abbrev mN_copyBytes : Nat := 72
abbrev mM_init : Nat := 73
abbrev mM_type : Nat := 74
abbrev mM_fill : Nat := 75
abbrev mM_take : Nat := 76
abbrev mM_folderTakes : Nat := 77
abbrev mM_takes : Nat := 78
abbrev mM_allTake : Nat := 79
abbrev mM_fileCount : Nat := 80
abbrev mM_namesOf : Nat := 81
abbrev mM_namesIn : Nat := 82
abbrev mM_parent : Nat := 83
abbrev mM_isName : Nat := 84
abbrev mM_findName : Nat := 85
abbrev mM_growth : Nat := 86
abbrev mM_addName : Nat := 87
abbrev mM_removeName : Nat := 88
abbrev mM_hasMore : Nat := 89
abbrev mM_walk : Nat := 90
abbrev mM_splice : Nat := 91
abbrev mM_walkToName : Nat := 92
abbrev mM_room : Nat := 93
abbrev mM_newFile : Nat := 94
abbrev mM_make : Nat := 95
abbrev mM_link : Nat := 96
abbrev mM_symlink : Nat := 97
abbrev mM_remove : Nat := 98
abbrev mM_removeFolder : Nat := 99
abbrev mM_isWithin : Nat := 100
abbrev mM_rename : Nat := 101
abbrev mM_find : Nat := 102
abbrev mM_hold : Nat := 103
abbrev mM_isFile : Nat := 104
abbrev mM_release : Nat := 105
abbrev mM_foldersIn : Nat := 106
abbrev mM_about : Nat := 107
abbrev mM_targetByte : Nat := 108
abbrev mM_count : Nat := 109
def ztC0 : String := "NameTree$FileTable"
def ztF0 : u_T := fun k => match k with
  | 0 => ("NameTree$FileTable", "all", "[LNameTree$TreeFile;", true)
  | _ => ("NameTree$FileTable", "root", "LNameTree$TreeFile;", true)
def ztY0 : Nat → FieldType := fun k => match k with
  | 0 => .array (.object "NameTree$TreeFile")
  | _ => .object "NameTree$TreeFile"
def ztC1 : String := "NameTree$NameRow"
def ztF1 : u_T := fun k => match k with
  | 0 => ("NameTree$NameRow", "folder", "LNameTree$TreeFile;", false)
  | 1 => ("NameTree$NameRow", "file", "LNameTree$TreeFile;", false)
  | 2 => ("NameTree$NameRow", "bytes", "[B", false)
  | _ => ("NameTree$NameRow", "length", "I", false)
def ztY1 : Nat → FieldType := fun k => match k with
  | 0 => .object "NameTree$TreeFile"
  | 1 => .object "NameTree$TreeFile"
  | 2 => .array (.byte)
  | _ => .int
def ztC2 : String := "NameTree$NameTable"
def ztF2 : u_T := fun k => match k with
  | 0 => ("NameTree$NameTable", "rows", "[LNameTree$NameRow;", true)
  | _ => ("NameTree$NameTable", "used", "I", false)
def ztY2 : Nat → FieldType := fun k => match k with
  | 0 => .array (.object "NameTree$NameRow")
  | _ => .int
def ztC3 : String := "NameTree$Span"
def ztF3 : u_T := fun k => match k with
  | 0 => ("NameTree$Span", "bytes", "[B", false)
  | 1 => ("NameTree$Span", "at", "I", false)
  | _ => ("NameTree$Span", "end", "I", false)
def ztY3 : Nat → FieldType := fun k => match k with
  | 0 => .array (.byte)
  | 1 => .int
  | _ => .int
def ztC4 : String := "NameTree$Tape"
def ztF4 : u_T := fun k => match k with
  | 0 => ("NameTree$Tape", "bytes", "[B", true)
  | _ => ("NameTree$Tape", "length", "I", false)
def ztY4 : Nat → FieldType := fun k => match k with
  | 0 => .array (.byte)
  | _ => .int
def ztC5 : String := "NameTree$TreeFile"
def ztF5 : u_T := fun k => match k with
  | 0 => ("NameTree$TreeFile", "number", "I", true)
  | 1 => ("NameTree$TreeFile", "kind", "I", false)
  | 2 => ("NameTree$TreeFile", "names", "I", false)
  | 3 => ("NameTree$TreeFile", "held", "I", false)
  | 4 => ("NameTree$TreeFile", "inside", "I", false)
  | 5 => ("NameTree$TreeFile", "mostInside", "I", false)
  | 6 => ("NameTree$TreeFile", "parent", "LNameTree$TreeFile;", false)
  | 7 => ("NameTree$TreeFile", "target", "[B", false)
  | _ => ("NameTree$TreeFile", "targetLength", "I", false)
def ztY5 : Nat → FieldType := fun k => match k with
  | 0 => .int
  | 1 => .int
  | 2 => .int
  | 3 => .int
  | 4 => .int
  | 5 => .int
  | 6 => .object "NameTree$TreeFile"
  | 7 => .array (.byte)
  | _ => .int
def ztC6 : String := "NameTree$Walk"
def ztF6 : u_T := fun k => match k with
  | 0 => ("NameTree$Walk", "root", "LNameTree$TreeFile;", true)
  | 1 => ("NameTree$Walk", "names", "LNameTree$NameTable;", true)
  | 2 => ("NameTree$Walk", "spans", "[LNameTree$Span;", true)
  | 3 => ("NameTree$Walk", "depth", "I", false)
  | 4 => ("NameTree$Walk", "links", "I", false)
  | 5 => ("NameTree$Walk", "partBytes", "[B", false)
  | 6 => ("NameTree$Walk", "partFrom", "I", false)
  | 7 => ("NameTree$Walk", "partLength", "I", false)
  | 8 => ("NameTree$Walk", "folder", "LNameTree$TreeFile;", false)
  | 9 => ("NameTree$Walk", "name", "LNameTree$NameRow;", false)
  | _ => ("NameTree$Walk", "here", "LNameTree$TreeFile;", false)
def ztY6 : Nat → FieldType := fun k => match k with
  | 0 => .object "NameTree$TreeFile"
  | 1 => .object "NameTree$NameTable"
  | 2 => .array (.object "NameTree$Span")
  | 3 => .int
  | 4 => .int
  | 5 => .array (.byte)
  | 6 => .int
  | 7 => .int
  | 8 => .object "NameTree$TreeFile"
  | 9 => .object "NameTree$NameRow"
  | _ => .object "NameTree$TreeFile"
def ztC7 : String := "NameTree"
def ztF7 : u_T := fun k => match k with
  | 0 => ("NameTree", "tape", "LNameTree$Tape;", true)
  | 1 => ("NameTree", "files", "LNameTree$FileTable;", true)
  | 2 => ("NameTree", "names", "LNameTree$NameTable;", true)
  | 3 => ("NameTree", "first", "LNameTree$Walk;", true)
  | 4 => ("NameTree", "second", "LNameTree$Walk;", true)
  | _ => ("NameTree", "roomInAll", "I", false)
def ztY7 : Nat → FieldType := fun k => match k with
  | 0 => .object "NameTree$Tape"
  | 1 => .object "NameTree$FileTable"
  | 2 => .object "NameTree$NameTable"
  | 3 => .object "NameTree$Walk"
  | 4 => .object "NameTree$Walk"
  | _ => .int
def ztC8 : String := "NameTreeModel"
def ztF8 : u_T := fun k => match k with
  | 0 => ("NameTreeModel", "room", "I", false)
  | 1 => ("NameTreeModel", "taped", "I", false)
  | 2 => ("NameTreeModel", "tape", "[I", true)
  | 3 => ("NameTreeModel", "given", "I", false)
  | 4 => ("NameTreeModel", "in", "[I", true)
  | 5 => ("NameTreeModel", "kinds", "[I", true)
  | 6 => ("NameTreeModel", "greatest", "[I", true)
  | 7 => ("NameTreeModel", "held", "[I", true)
  | 8 => ("NameTreeModel", "sizes", "[I", true)
  | 9 => ("NameTreeModel", "targets", "[B", true)
  | 10 => ("NameTreeModel", "names", "I", false)
  | 11 => ("NameTreeModel", "folders", "[I", true)
  | 12 => ("NameTreeModel", "files", "[I", true)
  | 13 => ("NameTreeModel", "lengths", "[I", true)
  | 14 => ("NameTreeModel", "bytes", "[B", true)
  | 15 => ("NameTreeModel", "path", "[I", true)
  | 16 => ("NameTreeModel", "at", "I", false)
  | 17 => ("NameTreeModel", "folder", "I", false)
  | 18 => ("NameTreeModel", "begin", "I", false)
  | 19 => ("NameTreeModel", "length", "I", false)
  | 20 => ("NameTreeModel", "file", "I", false)
  | _ => ("NameTreeModel", "unnamed", "Z", false)
def ztY8 : Nat → FieldType := fun k => match k with
  | 0 => .int
  | 1 => .int
  | 2 => .array (.int)
  | 3 => .int
  | 4 => .array (.int)
  | 5 => .array (.int)
  | 6 => .array (.int)
  | 7 => .array (.int)
  | 8 => .array (.int)
  | 9 => .array (.byte)
  | 10 => .int
  | 11 => .array (.int)
  | 12 => .array (.int)
  | 13 => .array (.int)
  | 14 => .array (.byte)
  | 15 => .array (.int)
  | 16 => .int
  | 17 => .int
  | 18 => .int
  | 19 => .int
  | 20 => .int
  | _ => .boolean
def zt_cl : List vw_C := [(ztC0, ztF0, 2), (ztC1, ztF1, 4), (ztC2, ztF2, 2), (ztC3, ztF3, 3), (ztC4, ztF4, 2), (ztC5, ztF5, 9), (ztC6, ztF6, 11), (ztC7, ztF7, 6), (ztC8, ztF8, 22)]
def zt_ty : Nat → Nat → FieldType := fun c => match c with
  | 0 => ztY0
  | 1 => ztY1
  | 2 => ztY2
  | 3 => ztY3
  | 4 => ztY4
  | 5 => ztY5
  | 6 => ztY6
  | 7 => ztY7
  | _ => ztY8
def zt_df (c k : Nat) : Value := defaultValue (zt_ty c k)
def zt_at : Nat → Option FieldType := fun t => match t with
  | 100 => some .byte
  | 101 => some .int
  | 201 => some (.object "NameTree$NameRow")
  | 203 => some (.object "NameTree$Span")
  | 205 => some (.object "NameTree$TreeFile")
  | _ => none
def zt_ao : List String := ["NameTree$NameRow", "NameTree$Span", "NameTree$TreeFile"]
def zt_nm_l : List (MethodName) := [⟨"NameTreeLaw", "law", "([I)Z"⟩,
  ⟨"NameTree$FileTable", "<init>", "()V"⟩,
  ⟨"NameTree$FileTable", "at", "(I)LNameTree$TreeFile;"⟩,
  ⟨"NameTree$FileTable", "absent", "()LNameTree$TreeFile;"⟩,
  ⟨"NameTree$FileTable", "present", "()I"⟩,
  ⟨"NameTree$FileTable", "taken", "()I"⟩,
  ⟨"NameTree$FileTable", "foldersIn", "(LNameTree$TreeFile;)I"⟩,
  ⟨"NameTree$NameRow", "<init>", "()V"⟩,
  ⟨"NameTree$NameRow", "setBytes", "([BII)V"⟩,
  ⟨"NameTree$NameRow", "is", "([BII)Z"⟩,
  ⟨"NameTree$NameTable", "<init>", "()V"⟩,
  ⟨"NameTree$NameTable", "lookUp", "(LNameTree$TreeFile;[BII)LNameTree$NameRow;"⟩,
  ⟨"NameTree$NameTable", "give", "(LNameTree$TreeFile;LNameTree$Walk;)V"⟩,
  ⟨"NameTree$NameTable", "drop", "(LNameTree$NameRow;)V"⟩,
  ⟨"NameTree$NameTable", "forget", "(LNameTree$NameRow;)V"⟩,
  ⟨"NameTree$Span", "<init>", "()V"⟩,
  ⟨"NameTree$Span", "goToPart", "()Z"⟩,
  ⟨"NameTree$Span", "passPart", "()I"⟩,
  ⟨"NameTree$Span", "holds", "(II)Z"⟩,
  ⟨"NameTree$Tape", "<init>", "()V"⟩,
  ⟨"NameTree$Tape", "hasSpaceFor", "(I)Z"⟩,
  ⟨"NameTree$Tape", "append", "(B)V"⟩,
  ⟨"NameTree$Tape", "useUp", "()I"⟩,
  ⟨"NameTree$Tape", "hasZero", "(I)Z"⟩,
  ⟨"NameTree$Tape", "onlyZero", "(I)I"⟩,
  ⟨"NameTree$Tape", "zeroFrom", "(II)I"⟩,
  ⟨"NameTree$TreeFile", "<init>", "(I)V"⟩,
  ⟨"NameTree$TreeFile", "begin", "(I)V"⟩,
  ⟨"NameTree$TreeFile", "setTarget", "([BII)V"⟩,
  ⟨"NameTree$TreeFile", "byteOfTarget", "(I)I"⟩,
  ⟨"NameTree$TreeFile", "takes", "()I"⟩,
  ⟨"NameTree$TreeFile", "growthByOneName", "()I"⟩,
  ⟨"NameTree$TreeFile", "size", "()I"⟩,
  ⟨"NameTree$TreeFile", "goIfUnused", "()V"⟩,
  ⟨"NameTree$Walk", "<init>", "(LNameTree$TreeFile;LNameTree$NameTable;)V"⟩,
  ⟨"NameTree$Walk", "goToName", "([BII)I"⟩,
  ⟨"NameTree$Walk", "go", "([BIIZ)I"⟩,
  ⟨"NameTree$Walk", "begin", "()V"⟩,
  ⟨"NameTree$Walk", "push", "([BII)V"⟩,
  ⟨"NameTree$Walk", "hasPart", "()Z"⟩,
  ⟨"NameTree$Walk", "topSpan", "()LNameTree$Span;"⟩,
  ⟨"NameTree$Walk", "takePart", "()V"⟩,
  ⟨"NameTree$Walk", "step", "(ZZ)I"⟩,
  ⟨"NameTree$Walk", "goThrough", "(LNameTree$TreeFile;)I"⟩,
  ⟨"NameTree$Walk", "isUp", "()Z"⟩,
  ⟨"NameTree", "<init>", "()V"⟩,
  ⟨"NameTree", "type", "(JI)I"⟩,
  ⟨"NameTree", "fill", "(II)I"⟩,
  ⟨"NameTree", "room", "(I)I"⟩,
  ⟨"NameTree", "make", "(I)I"⟩,
  ⟨"NameTree", "link", "()I"⟩,
  ⟨"NameTree", "symlink", "()I"⟩,
  ⟨"NameTree", "remove", "()I"⟩,
  ⟨"NameTree", "removeFolder", "()I"⟩,
  ⟨"NameTree", "rename", "()I"⟩,
  ⟨"NameTree", "find", "(Z)I"⟩,
  ⟨"NameTree", "hold", "()I"⟩,
  ⟨"NameTree", "release", "(I)I"⟩,
  ⟨"NameTree", "about", "(II)I"⟩,
  ⟨"NameTree", "targetByte", "(II)I"⟩,
  ⟨"NameTree", "count", "(I)I"⟩,
  ⟨"NameTree", "readPath", "(Z)I"⟩,
  ⟨"NameTree", "readName", "()I"⟩,
  ⟨"NameTree", "readTwoPaths", "(Z)I"⟩,
  ⟨"NameTree", "isFullFor", "(LNameTree$TreeFile;I)Z"⟩,
  ⟨"NameTree", "isTooMuch", "(LNameTree$TreeFile;I)Z"⟩,
  ⟨"NameTree", "refusalOfMove", "()I"⟩,
  ⟨"NameTree", "refusalOfReplacing", "(LNameTree$TreeFile;LNameTree$TreeFile;)I"⟩,
  ⟨"NameTree", "isWithin", "(LNameTree$TreeFile;LNameTree$TreeFile;)Z"⟩,
  ⟨"NameTree", "takeAway", "(LNameTree$NameRow;)V"⟩,
  ⟨"NameTree", "roomOfTarget", "(I)I"⟩,
  ⟨"NameTree", "roomOfFolder", "(I)I"⟩,
  ⟨"NameTree", "copyBytes", "([BII[B)I"⟩,
  ⟨"NameTreeModel", "<init>", "()V"⟩,
  ⟨"NameTreeModel", "type", "(JI)I"⟩,
  ⟨"NameTreeModel", "fill", "(II)I"⟩,
  ⟨"NameTreeModel", "take", "()I"⟩,
  ⟨"NameTreeModel", "folderTakes", "(I)I"⟩,
  ⟨"NameTreeModel", "takes", "(I)I"⟩,
  ⟨"NameTreeModel", "allTake", "()I"⟩,
  ⟨"NameTreeModel", "fileCount", "()I"⟩,
  ⟨"NameTreeModel", "namesOf", "(I)I"⟩,
  ⟨"NameTreeModel", "namesIn", "(I)I"⟩,
  ⟨"NameTreeModel", "parent", "(I)I"⟩,
  ⟨"NameTreeModel", "isName", "(III)Z"⟩,
  ⟨"NameTreeModel", "findName", "(III)I"⟩,
  ⟨"NameTreeModel", "growth", "(II)I"⟩,
  ⟨"NameTreeModel", "addName", "(I)V"⟩,
  ⟨"NameTreeModel", "removeName", "(I)V"⟩,
  ⟨"NameTreeModel", "hasMore", "()Z"⟩,
  ⟨"NameTreeModel", "walk", "(IIZ)I"⟩,
  ⟨"NameTreeModel", "splice", "(I)V"⟩,
  ⟨"NameTreeModel", "walkToName", "(II)I"⟩,
  ⟨"NameTreeModel", "room", "(I)I"⟩,
  ⟨"NameTreeModel", "newFile", "(II)I"⟩,
  ⟨"NameTreeModel", "make", "(I)I"⟩,
  ⟨"NameTreeModel", "link", "()I"⟩,
  ⟨"NameTreeModel", "symlink", "()I"⟩,
  ⟨"NameTreeModel", "remove", "()I"⟩,
  ⟨"NameTreeModel", "removeFolder", "()I"⟩,
  ⟨"NameTreeModel", "isWithin", "(II)Z"⟩,
  ⟨"NameTreeModel", "rename", "()I"⟩,
  ⟨"NameTreeModel", "find", "(Z)I"⟩,
  ⟨"NameTreeModel", "hold", "()I"⟩,
  ⟨"NameTreeModel", "isFile", "(I)Z"⟩,
  ⟨"NameTreeModel", "release", "(I)I"⟩,
  ⟨"NameTreeModel", "foldersIn", "(I)I"⟩,
  ⟨"NameTreeModel", "about", "(II)I"⟩,
  ⟨"NameTreeModel", "targetByte", "(II)I"⟩,
  ⟨"NameTreeModel", "count", "(I)I"⟩]
def zt_nm (M : Nat) : MethodName := zt_nm_l.getD M (⟨"NameTree", "", ""⟩)
def zt_by_l : List (ByteArray) := [code,
  prog_2_method_1_code,
  prog_2_method_2_code,
  prog_2_method_3_code,
  prog_2_method_4_code,
  prog_2_method_5_code,
  prog_2_method_6_code,
  prog_3_method_1_code,
  prog_3_method_2_code,
  prog_3_method_3_code,
  prog_4_method_1_code,
  prog_4_method_2_code,
  prog_4_method_3_code,
  prog_4_method_4_code,
  prog_4_method_5_code,
  prog_5_method_1_code,
  prog_5_method_2_code,
  prog_5_method_3_code,
  prog_5_method_4_code,
  prog_6_method_1_code,
  prog_6_method_2_code,
  prog_6_method_3_code,
  prog_6_method_4_code,
  prog_6_method_5_code,
  prog_6_method_6_code,
  prog_6_method_7_code,
  prog_7_method_1_code,
  prog_7_method_2_code,
  prog_7_method_3_code,
  prog_7_method_4_code,
  prog_7_method_5_code,
  prog_7_method_6_code,
  prog_7_method_7_code,
  prog_7_method_8_code,
  prog_8_method_1_code,
  prog_8_method_2_code,
  prog_8_method_3_code,
  prog_8_method_4_code,
  prog_8_method_5_code,
  prog_8_method_6_code,
  prog_8_method_7_code,
  prog_8_method_8_code,
  prog_8_method_9_code,
  prog_8_method_10_code,
  prog_8_method_11_code,
  prog_1_method_1_code,
  prog_1_method_2_code,
  prog_1_method_3_code,
  prog_1_method_4_code,
  prog_1_method_5_code,
  prog_1_method_6_code,
  prog_1_method_7_code,
  prog_1_method_8_code,
  prog_1_method_9_code,
  prog_1_method_10_code,
  prog_1_method_11_code,
  prog_1_method_12_code,
  prog_1_method_13_code,
  prog_1_method_14_code,
  prog_1_method_15_code,
  prog_1_method_16_code,
  prog_1_method_17_code,
  prog_1_method_18_code,
  prog_1_method_19_code,
  prog_1_method_20_code,
  prog_1_method_21_code,
  prog_1_method_22_code,
  prog_1_method_23_code,
  prog_1_method_24_code,
  prog_1_method_25_code,
  prog_1_method_26_code,
  prog_1_method_27_code,
  prog_1_method_28_code,
  prog_10_method_1_code,
  prog_10_method_2_code,
  prog_10_method_3_code,
  prog_10_method_4_code,
  prog_10_method_5_code,
  prog_10_method_6_code,
  prog_10_method_7_code,
  prog_10_method_8_code,
  prog_10_method_9_code,
  prog_10_method_10_code,
  prog_10_method_11_code,
  prog_10_method_12_code,
  prog_10_method_13_code,
  prog_10_method_14_code,
  prog_10_method_15_code,
  prog_10_method_16_code,
  prog_10_method_17_code,
  prog_10_method_18_code,
  prog_10_method_19_code,
  prog_10_method_20_code,
  prog_10_method_21_code,
  prog_10_method_22_code,
  prog_10_method_23_code,
  prog_10_method_24_code,
  prog_10_method_25_code,
  prog_10_method_26_code,
  prog_10_method_27_code,
  prog_10_method_28_code,
  prog_10_method_29_code,
  prog_10_method_30_code,
  prog_10_method_31_code,
  prog_10_method_32_code,
  prog_10_method_33_code,
  prog_10_method_34_code,
  prog_10_method_35_code,
  prog_10_method_36_code,
  prog_10_method_37_code]
def zt_by (M : Nat) : ByteArray := zt_by_l.getD M (code)
def zt_ml_l : List (Nat) := [4,
  2,
  3,
  5,
  6,
  6,
  7,
  1,
  4,
  5,
  2,
  7,
  5,
  4,
  1,
  1,
  2,
  1,
  3,
  1,
  2,
  2,
  2,
  2,
  3,
  4,
  2,
  2,
  4,
  2,
  1,
  1,
  1,
  1,
  4,
  5,
  7,
  1,
  5,
  2,
  1,
  2,
  4,
  2,
  1,
  1,
  5,
  4,
  3,
  4,
  3,
  6,
  3,
  3,
  4,
  3,
  3,
  4,
  4,
  4,
  2,
  3,
  2,
  5,
  3,
  4,
  2,
  2,
  4,
  3,
  1,
  1,
  5,
  1,
  5,
  4,
  4,
  1,
  2,
  3,
  3,
  4,
  4,
  4,
  6,
  6,
  3,
  3,
  4,
  3,
  7,
  3,
  4,
  2,
  4,
  4,
  4,
  6,
  3,
  3,
  4,
  9,
  4,
  3,
  2,
  3,
  4,
  4,
  3,
  2]
def zt_ml (M : Nat) : Nat := zt_ml_l.getD M (0)
def zt_rt_l : List (Option FieldType) := [some .boolean,
  none,
  some (.object "NameTree$TreeFile"),
  some (.object "NameTree$TreeFile"),
  some (.int),
  some (.int),
  some (.int),
  none,
  none,
  some (.boolean),
  none,
  some (.object "NameTree$NameRow"),
  none,
  none,
  none,
  none,
  some (.boolean),
  some (.int),
  some (.boolean),
  none,
  some (.boolean),
  none,
  some (.int),
  some (.boolean),
  some (.int),
  some (.int),
  none,
  none,
  none,
  some (.int),
  some (.int),
  some (.int),
  some (.int),
  none,
  none,
  some (.int),
  some (.int),
  none,
  none,
  some (.boolean),
  some (.object "NameTree$Span"),
  none,
  some (.int),
  some (.int),
  some (.boolean),
  none,
  some (.int),
  some (.int),
  some (.int),
  some (.int),
  some (.int),
  some (.int),
  some (.int),
  some (.int),
  some (.int),
  some (.int),
  some (.int),
  some (.int),
  some (.int),
  some (.int),
  some (.int),
  some (.int),
  some (.int),
  some (.int),
  some (.boolean),
  some (.boolean),
  some (.int),
  some (.int),
  some (.boolean),
  none,
  some (.int),
  some (.int),
  some (.int),
  none,
  some (.int),
  some (.int),
  some (.int),
  some (.int),
  some (.int),
  some (.int),
  some (.int),
  some (.int),
  some (.int),
  some (.int),
  some (.boolean),
  some (.int),
  some (.int),
  none,
  none,
  some (.boolean),
  some (.int),
  none,
  some (.int),
  some (.int),
  some (.int),
  some (.int),
  some (.int),
  some (.int),
  some (.int),
  some (.int),
  some (.boolean),
  some (.int),
  some (.int),
  some (.int),
  some (.boolean),
  some (.int),
  some (.int),
  some (.int),
  some (.int),
  some (.int)]
def zt_rt (M : Nat) : Option FieldType := zt_rt_l.getD M (none)
def zt_mc_l : List (Nat) := [99,
  0,
  0,
  0,
  0,
  0,
  0,
  1,
  1,
  1,
  2,
  2,
  2,
  2,
  2,
  3,
  3,
  3,
  3,
  4,
  4,
  4,
  4,
  4,
  4,
  4,
  5,
  5,
  5,
  5,
  5,
  5,
  5,
  5,
  6,
  6,
  6,
  6,
  6,
  6,
  6,
  6,
  6,
  6,
  6,
  7,
  7,
  7,
  7,
  7,
  7,
  7,
  7,
  7,
  7,
  7,
  7,
  7,
  7,
  7,
  7,
  7,
  7,
  7,
  7,
  7,
  7,
  7,
  7,
  7,
  7,
  7,
  7,
  8,
  8,
  8,
  8,
  8,
  8,
  8,
  8,
  8,
  8,
  8,
  8,
  8,
  8,
  8,
  8,
  8,
  8,
  8,
  8,
  8,
  8,
  8,
  8,
  8,
  8,
  8,
  8,
  8,
  8,
  8,
  8,
  8,
  8,
  8,
  8,
  8]
def zt_mc (M : Nat) : Nat := zt_mc_l.getD M (99)
def zt_fr_l : List (Nat) := [7,
  2,
  0,
  0,
  0,
  2,
  0,
  1,
  2,
  0,
  2,
  1,
  3,
  1,
  0,
  1,
  1,
  1,
  0,
  1,
  0,
  0,
  0,
  1,
  1,
  0,
  1,
  0,
  2,
  0,
  1,
  1,
  0,
  1,
  2,
  4,
  3,
  0,
  0,
  2,
  0,
  2,
  2,
  1,
  0,
  3,
  1,
  1,
  3,
  6,
  6,
  5,
  6,
  6,
  6,
  5,
  5,
  2,
  2,
  1,
  3,
  4,
  5,
  5,
  4,
  3,
  4,
  0,
  0,
  2,
  0,
  0,
  1,
  1,
  0,
  0,
  0,
  0,
  1,
  2,
  0,
  0,
  0,
  0,
  0,
  1,
  1,
  1,
  1,
  0,
  2,
  0,
  3,
  3,
  3,
  4,
  4,
  4,
  4,
  4,
  1,
  4,
  3,
  3,
  0,
  1,
  0,
  2,
  1,
  3]
def zt_fr (M : Nat) : Nat := zt_fr_l.getD M (0)
def zt_lc_l : List (Nat) := [170,
  41,
  0,
  0,
  0,
  40,
  0,
  20,
  50,
  0,
  40,
  24,
  73,
  20,
  0,
  20,
  22,
  22,
  0,
  20,
  0,
  0,
  0,
  23,
  23,
  0,
  20,
  0,
  50,
  0,
  20,
  21,
  0,
  21,
  40,
  99,
  73,
  0,
  0,
  43,
  0,
  42,
  50,
  24,
  0,
  63,
  21,
  21,
  65,
  144,
  147,
  123,
  144,
  144,
  147,
  121,
  121,
  41,
  40,
  22,
  65,
  99,
  123,
  123,
  88,
  65,
  88,
  0,
  0,
  43,
  0,
  0,
  26,
  20,
  0,
  0,
  0,
  0,
  20,
  41,
  0,
  0,
  0,
  0,
  0,
  25,
  20,
  23,
  23,
  0,
  50,
  0,
  76,
  63,
  63,
  99,
  99,
  99,
  99,
  99,
  23,
  99,
  76,
  76,
  0,
  23,
  0,
  41,
  21,
  63]
def zt_lc (M : Nat) : Nat := zt_lc_l.getD M (0)
def zt_own (M : Nat) : String := (zt_nm M).cls
def zt_ws : List Jvm.Cond := lw_tbl.filter goodWord
def zt_nm2 : List (String × Nat × MethodName × String) := [("NameTree$NameRow", 15, ⟨"NameTree", "copyBytes", "([BII[B)I"⟩, "NameTree"), ("NameTree$NameTable", 17, ⟨"NameTree$NameRow", "<init>", "()V"⟩, "NameTree"), ("NameTree$TreeFile", 41, ⟨"NameTree", "copyBytes", "([BII[B)I"⟩, "NameTree"), ("NameTree$TreeFile", 45, ⟨"NameTree", "roomOfFolder", "(I)I"⟩, "NameTree"), ("NameTree$TreeFile", 49, ⟨"NameTree", "roomOfTarget", "(I)I"⟩, "NameTree"), ("NameTree$Walk", 25, ⟨"NameTree$Span", "<init>", "()V"⟩, "NameTree"), ("NameTree", 9, ⟨"NameTree$Tape", "<init>", "()V"⟩, "NameTree")]
/-- an instruction, its next pc, two numbers that its operands were resolved to, a switch or a constant -/
abbrev zm_E : Type := Instr × Nat × Nat × Nat × List (Int × Nat)
def zm_lku : List (Nat × zm_E) → Nat → Option zm_E
  | [], _ => none
  | q :: l, pc => bif Nat.beq q.1 pc then some q.2 else zm_lku l pc
def zc0 : List (Nat × zm_E) := [(0, .new 7, 3, 7, 6, []),
  (3, .dup, 4, 0, 0, []),
  (4, .invokespecial 9, 7, 45, 0, []),
  (7, .astore_n 1, 8, 0, 0, []),
  (8, .new 10, 11, 8, 22, []),
  (11, .dup, 12, 0, 0, []),
  (12, .invokespecial 12, 15, 73, 0, []),
  (15, .astore_n 2, 16, 0, 0, []),
  (16, .iconst 0, 17, 0, 0, []),
  (17, .istore_n 3, 18, 0, 0, []),
  (18, .iload_n 3, 19, 0, 0, []),
  (19, .aload_n 0, 20, 0, 0, []),
  (20, .arraylength, 21, 0, 0, []),
  (21, .iconst 4, 22, 0, 0, []),
  (22, .isub, 23, 0, 0, []),
  (23, .if_icmp .gt 462, 26, 485, 0, []),
  (26, .aload_n 0, 27, 0, 0, []),
  (27, .iload_n 3, 28, 0, 0, []),
  (28, .iaload, 29, 0, 0, []),
  (29, .bipush 15, 31, 0, 0, []),
  (31, .iand, 32, 0, 0, []),
  (32, .tableswitch 447 0 14 #[76, 139, 172, 195, 218, 231, 244, 257, 270, 283, 322, 335, 358, 391, 424], 108, 479, 0, [(0, 108), (1, 171), (2, 204), (3, 227), (4, 250), (5, 263), (6, 276), (7, 289), (8, 302), (9, 315), (10, 354), (11, 367), (12, 390), (13, 423), (14, 456)]),
  (108, .aload_n 1, 109, 0, 0, []),
  (109, .aload_n 0, 110, 0, 0, []),
  (110, .iload_n 3, 111, 0, 0, []),
  (111, .iconst 1, 112, 0, 0, []),
  (112, .iadd, 113, 0, 0, []),
  (113, .iaload, 114, 0, 0, []),
  (114, .i2l, 115, 0, 0, []),
  (115, .bipush 32, 117, 0, 0, []),
  (117, .lshl, 118, 0, 0, []),
  (118, .aload_n 0, 119, 0, 0, []),
  (119, .iload_n 3, 120, 0, 0, []),
  (120, .iconst 2, 121, 0, 0, []),
  (121, .iadd, 122, 0, 0, []),
  (122, .iaload, 123, 0, 0, []),
  (123, .i2l, 124, 0, 0, []),
  (124, .ldc2_w 13, 127, 0, 0, [(4294967295, 0)]),
  (127, .land, 128, 0, 0, []),
  (128, .lor, 129, 0, 0, []),
  (129, .aload_n 0, 130, 0, 0, []),
  (130, .iload_n 3, 131, 0, 0, []),
  (131, .iconst 3, 132, 0, 0, []),
  (132, .iadd, 133, 0, 0, []),
  (133, .iaload, 134, 0, 0, []),
  (134, .invokevirtual 15, 137, 46, 2, []),
  (137, .aload_n 2, 138, 0, 0, []),
  (138, .aload_n 0, 139, 0, 0, []),
  (139, .iload_n 3, 140, 0, 0, []),
  (140, .iconst 1, 141, 0, 0, []),
  (141, .iadd, 142, 0, 0, []),
  (142, .iaload, 143, 0, 0, []),
  (143, .i2l, 144, 0, 0, []),
  (144, .bipush 32, 146, 0, 0, []),
  (146, .lshl, 147, 0, 0, []),
  (147, .aload_n 0, 148, 0, 0, []),
  (148, .iload_n 3, 149, 0, 0, []),
  (149, .iconst 2, 150, 0, 0, []),
  (150, .iadd, 151, 0, 0, []),
  (151, .iaload, 152, 0, 0, []),
  (152, .i2l, 153, 0, 0, []),
  (153, .ldc2_w 13, 156, 0, 0, [(4294967295, 0)]),
  (156, .land, 157, 0, 0, []),
  (157, .lor, 158, 0, 0, []),
  (158, .aload_n 0, 159, 0, 0, []),
  (159, .iload_n 3, 160, 0, 0, []),
  (160, .iconst 3, 161, 0, 0, []),
  (161, .iadd, 162, 0, 0, []),
  (162, .iaload, 163, 0, 0, []),
  (163, .invokevirtual 19, 166, 74, 2, []),
  (166, .if_icmp .eq 313, 169, 479, 0, []),
  (169, .iconst 0, 170, 0, 0, []),
  (170, .ireturn, 171, 0, 0, []),
  (171, .aload_n 1, 172, 0, 0, []),
  (172, .aload_n 0, 173, 0, 0, []),
  (173, .iload_n 3, 174, 0, 0, []),
  (174, .iconst 1, 175, 0, 0, []),
  (175, .iadd, 176, 0, 0, []),
  (176, .iaload, 177, 0, 0, []),
  (177, .aload_n 0, 178, 0, 0, []),
  (178, .iload_n 3, 179, 0, 0, []),
  (179, .iconst 2, 180, 0, 0, []),
  (180, .iadd, 181, 0, 0, []),
  (181, .iaload, 182, 0, 0, []),
  (182, .invokevirtual 20, 185, 47, 2, []),
  (185, .aload_n 2, 186, 0, 0, []),
  (186, .aload_n 0, 187, 0, 0, []),
  (187, .iload_n 3, 188, 0, 0, []),
  (188, .iconst 1, 189, 0, 0, []),
  (189, .iadd, 190, 0, 0, []),
  (190, .iaload, 191, 0, 0, []),
  (191, .aload_n 0, 192, 0, 0, []),
  (192, .iload_n 3, 193, 0, 0, []),
  (193, .iconst 2, 194, 0, 0, []),
  (194, .iadd, 195, 0, 0, []),
  (195, .iaload, 196, 0, 0, []),
  (196, .invokevirtual 24, 199, 75, 2, []),
  (199, .if_icmp .eq 280, 202, 479, 0, []),
  (202, .iconst 0, 203, 0, 0, []),
  (203, .ireturn, 204, 0, 0, []),
  (204, .aload_n 1, 205, 0, 0, []),
  (205, .aload_n 0, 206, 0, 0, []),
  (206, .iload_n 3, 207, 0, 0, []),
  (207, .iconst 1, 208, 0, 0, []),
  (208, .iadd, 209, 0, 0, []),
  (209, .iaload, 210, 0, 0, []),
  (210, .invokevirtual 25, 213, 48, 1, []),
  (213, .aload_n 2, 214, 0, 0, []),
  (214, .aload_n 0, 215, 0, 0, []),
  (215, .iload_n 3, 216, 0, 0, []),
  (216, .iconst 1, 217, 0, 0, []),
  (217, .iadd, 218, 0, 0, []),
  (218, .iaload, 219, 0, 0, []),
  (219, .invokevirtual 29, 222, 93, 1, []),
  (222, .if_icmp .eq 257, 225, 479, 0, []),
  (225, .iconst 0, 226, 0, 0, []),
  (226, .ireturn, 227, 0, 0, []),
  (227, .aload_n 1, 228, 0, 0, []),
  (228, .aload_n 0, 229, 0, 0, []),
  (229, .iload_n 3, 230, 0, 0, []),
  (230, .iconst 1, 231, 0, 0, []),
  (231, .iadd, 232, 0, 0, []),
  (232, .iaload, 233, 0, 0, []),
  (233, .invokevirtual 30, 236, 49, 1, []),
  (236, .aload_n 2, 237, 0, 0, []),
  (237, .aload_n 0, 238, 0, 0, []),
  (238, .iload_n 3, 239, 0, 0, []),
  (239, .iconst 1, 240, 0, 0, []),
  (240, .iadd, 241, 0, 0, []),
  (241, .iaload, 242, 0, 0, []),
  (242, .invokevirtual 33, 245, 95, 1, []),
  (245, .if_icmp .eq 234, 248, 479, 0, []),
  (248, .iconst 0, 249, 0, 0, []),
  (249, .ireturn, 250, 0, 0, []),
  (250, .aload_n 1, 251, 0, 0, []),
  (251, .invokevirtual 34, 254, 50, 0, []),
  (254, .aload_n 2, 255, 0, 0, []),
  (255, .invokevirtual 38, 258, 96, 0, []),
  (258, .if_icmp .eq 221, 261, 479, 0, []),
  (261, .iconst 0, 262, 0, 0, []),
  (262, .ireturn, 263, 0, 0, []),
  (263, .aload_n 1, 264, 0, 0, []),
  (264, .invokevirtual 39, 267, 51, 0, []),
  (267, .aload_n 2, 268, 0, 0, []),
  (268, .invokevirtual 42, 271, 97, 0, []),
  (271, .if_icmp .eq 208, 274, 479, 0, []),
  (274, .iconst 0, 275, 0, 0, []),
  (275, .ireturn, 276, 0, 0, []),
  (276, .aload_n 1, 277, 0, 0, []),
  (277, .invokevirtual 43, 280, 52, 0, []),
  (280, .aload_n 2, 281, 0, 0, []),
  (281, .invokevirtual 46, 284, 98, 0, []),
  (284, .if_icmp .eq 195, 287, 479, 0, []),
  (287, .iconst 0, 288, 0, 0, []),
  (288, .ireturn, 289, 0, 0, []),
  (289, .aload_n 1, 290, 0, 0, []),
  (290, .invokevirtual 47, 293, 53, 0, []),
  (293, .aload_n 2, 294, 0, 0, []),
  (294, .invokevirtual 50, 297, 99, 0, []),
  (297, .if_icmp .eq 182, 300, 479, 0, []),
  (300, .iconst 0, 301, 0, 0, []),
  (301, .ireturn, 302, 0, 0, []),
  (302, .aload_n 1, 303, 0, 0, []),
  (303, .invokevirtual 51, 306, 54, 0, []),
  (306, .aload_n 2, 307, 0, 0, []),
  (307, .invokevirtual 54, 310, 101, 0, []),
  (310, .if_icmp .eq 169, 313, 479, 0, []),
  (313, .iconst 0, 314, 0, 0, []),
  (314, .ireturn, 315, 0, 0, []),
  (315, .aload_n 1, 316, 0, 0, []),
  (316, .aload_n 0, 317, 0, 0, []),
  (317, .iload_n 3, 318, 0, 0, []),
  (318, .iconst 1, 319, 0, 0, []),
  (319, .iadd, 320, 0, 0, []),
  (320, .iaload, 321, 0, 0, []),
  (321, .ifCond .eq 7, 324, 328, 0, []),
  (324, .iconst 1, 325, 0, 0, []),
  (325, .goto 4, 328, 329, 0, []),
  (328, .iconst 0, 329, 0, 0, []),
  (329, .invokevirtual 55, 332, 55, 1, []),
  (332, .aload_n 2, 333, 0, 0, []),
  (333, .aload_n 0, 334, 0, 0, []),
  (334, .iload_n 3, 335, 0, 0, []),
  (335, .iconst 1, 336, 0, 0, []),
  (336, .iadd, 337, 0, 0, []),
  (337, .iaload, 338, 0, 0, []),
  (338, .ifCond .eq 7, 341, 345, 0, []),
  (341, .iconst 1, 342, 0, 0, []),
  (342, .goto 4, 345, 346, 0, []),
  (345, .iconst 0, 346, 0, 0, []),
  (346, .invokevirtual 59, 349, 102, 1, []),
  (349, .if_icmp .eq 130, 352, 479, 0, []),
  (352, .iconst 0, 353, 0, 0, []),
  (353, .ireturn, 354, 0, 0, []),
  (354, .aload_n 1, 355, 0, 0, []),
  (355, .invokevirtual 60, 358, 56, 0, []),
  (358, .aload_n 2, 359, 0, 0, []),
  (359, .invokevirtual 63, 362, 103, 0, []),
  (362, .if_icmp .eq 117, 365, 479, 0, []),
  (365, .iconst 0, 366, 0, 0, []),
  (366, .ireturn, 367, 0, 0, []),
  (367, .aload_n 1, 368, 0, 0, []),
  (368, .aload_n 0, 369, 0, 0, []),
  (369, .iload_n 3, 370, 0, 0, []),
  (370, .iconst 1, 371, 0, 0, []),
  (371, .iadd, 372, 0, 0, []),
  (372, .iaload, 373, 0, 0, []),
  (373, .invokevirtual 64, 376, 57, 1, []),
  (376, .aload_n 2, 377, 0, 0, []),
  (377, .aload_n 0, 378, 0, 0, []),
  (378, .iload_n 3, 379, 0, 0, []),
  (379, .iconst 1, 380, 0, 0, []),
  (380, .iadd, 381, 0, 0, []),
  (381, .iaload, 382, 0, 0, []),
  (382, .invokevirtual 67, 385, 105, 1, []),
  (385, .if_icmp .eq 94, 388, 479, 0, []),
  (388, .iconst 0, 389, 0, 0, []),
  (389, .ireturn, 390, 0, 0, []),
  (390, .aload_n 1, 391, 0, 0, []),
  (391, .aload_n 0, 392, 0, 0, []),
  (392, .iload_n 3, 393, 0, 0, []),
  (393, .iconst 1, 394, 0, 0, []),
  (394, .iadd, 395, 0, 0, []),
  (395, .iaload, 396, 0, 0, []),
  (396, .aload_n 0, 397, 0, 0, []),
  (397, .iload_n 3, 398, 0, 0, []),
  (398, .iconst 2, 399, 0, 0, []),
  (399, .iadd, 400, 0, 0, []),
  (400, .iaload, 401, 0, 0, []),
  (401, .invokevirtual 68, 404, 58, 2, []),
  (404, .aload_n 2, 405, 0, 0, []),
  (405, .aload_n 0, 406, 0, 0, []),
  (406, .iload_n 3, 407, 0, 0, []),
  (407, .iconst 1, 408, 0, 0, []),
  (408, .iadd, 409, 0, 0, []),
  (409, .iaload, 410, 0, 0, []),
  (410, .aload_n 0, 411, 0, 0, []),
  (411, .iload_n 3, 412, 0, 0, []),
  (412, .iconst 2, 413, 0, 0, []),
  (413, .iadd, 414, 0, 0, []),
  (414, .iaload, 415, 0, 0, []),
  (415, .invokevirtual 71, 418, 107, 2, []),
  (418, .if_icmp .eq 61, 421, 479, 0, []),
  (421, .iconst 0, 422, 0, 0, []),
  (422, .ireturn, 423, 0, 0, []),
  (423, .aload_n 1, 424, 0, 0, []),
  (424, .aload_n 0, 425, 0, 0, []),
  (425, .iload_n 3, 426, 0, 0, []),
  (426, .iconst 1, 427, 0, 0, []),
  (427, .iadd, 428, 0, 0, []),
  (428, .iaload, 429, 0, 0, []),
  (429, .aload_n 0, 430, 0, 0, []),
  (430, .iload_n 3, 431, 0, 0, []),
  (431, .iconst 2, 432, 0, 0, []),
  (432, .iadd, 433, 0, 0, []),
  (433, .iaload, 434, 0, 0, []),
  (434, .invokevirtual 72, 437, 59, 2, []),
  (437, .aload_n 2, 438, 0, 0, []),
  (438, .aload_n 0, 439, 0, 0, []),
  (439, .iload_n 3, 440, 0, 0, []),
  (440, .iconst 1, 441, 0, 0, []),
  (441, .iadd, 442, 0, 0, []),
  (442, .iaload, 443, 0, 0, []),
  (443, .aload_n 0, 444, 0, 0, []),
  (444, .iload_n 3, 445, 0, 0, []),
  (445, .iconst 2, 446, 0, 0, []),
  (446, .iadd, 447, 0, 0, []),
  (447, .iaload, 448, 0, 0, []),
  (448, .invokevirtual 75, 451, 108, 2, []),
  (451, .if_icmp .eq 28, 454, 479, 0, []),
  (454, .iconst 0, 455, 0, 0, []),
  (455, .ireturn, 456, 0, 0, []),
  (456, .aload_n 1, 457, 0, 0, []),
  (457, .aload_n 0, 458, 0, 0, []),
  (458, .iload_n 3, 459, 0, 0, []),
  (459, .iconst 1, 460, 0, 0, []),
  (460, .iadd, 461, 0, 0, []),
  (461, .iaload, 462, 0, 0, []),
  (462, .invokevirtual 76, 465, 60, 1, []),
  (465, .aload_n 2, 466, 0, 0, []),
  (466, .aload_n 0, 467, 0, 0, []),
  (467, .iload_n 3, 468, 0, 0, []),
  (468, .iconst 1, 469, 0, 0, []),
  (469, .iadd, 470, 0, 0, []),
  (470, .iaload, 471, 0, 0, []),
  (471, .invokevirtual 79, 474, 109, 1, []),
  (474, .if_icmp .eq 5, 477, 479, 0, []),
  (477, .iconst 0, 478, 0, 0, []),
  (478, .ireturn, 479, 0, 0, []),
  (479, .iinc 3 4, 482, 0, 0, []),
  (482, .goto (-464), 485, 18, 0, []),
  (485, .iconst 1, 486, 0, 0, []),
  (486, .ireturn, 487, 0, 0, [])]
def zc1 : List (Nat × zm_E) := [(0, .aload_n 0, 1, 0, 0, []),
  (1, .invokespecial 3, 4, 1000, 0, []),
  (4, .aload_n 0, 5, 0, 0, []),
  (5, .bipush 40, 7, 0, 0, []),
  (7, .anewarray 9, 10, 205, 0, []),
  (10, .putfield 11, 13, 0, 0, []),
  (13, .aload_n 0, 14, 0, 0, []),
  (14, .new 9, 17, 5, 9, []),
  (17, .dup, 18, 0, 0, []),
  (18, .iconst 1, 19, 0, 0, []),
  (19, .invokespecial 17, 22, 26, 1, []),
  (22, .putfield 20, 25, 0, 1, []),
  (25, .aload_n 0, 26, 0, 0, []),
  (26, .getfield 20, 29, 0, 1, []),
  (29, .iconst 2, 30, 0, 0, []),
  (30, .invokevirtual 24, 33, 27, 1, []),
  (33, .aload_n 0, 34, 0, 0, []),
  (34, .getfield 20, 37, 0, 1, []),
  (37, .aload_n 0, 38, 0, 0, []),
  (38, .getfield 20, 41, 0, 1, []),
  (41, .putfield 27, 44, 5, 6, []),
  (44, .aload_n 0, 45, 0, 0, []),
  (45, .getfield 11, 48, 0, 0, []),
  (48, .iconst 0, 49, 0, 0, []),
  (49, .aload_n 0, 50, 0, 0, []),
  (50, .getfield 20, 53, 0, 1, []),
  (53, .aastore, 54, 0, 0, []),
  (54, .iconst 1, 55, 0, 0, []),
  (55, .istore_n 1, 56, 0, 0, []),
  (56, .iload_n 1, 57, 0, 0, []),
  (57, .aload_n 0, 58, 0, 0, []),
  (58, .getfield 11, 61, 0, 0, []),
  (61, .arraylength, 62, 0, 0, []),
  (62, .if_icmp .ge 25, 65, 87, 0, []),
  (65, .aload_n 0, 66, 0, 0, []),
  (66, .getfield 11, 69, 0, 0, []),
  (69, .iload_n 1, 70, 0, 0, []),
  (70, .new 9, 73, 5, 9, []),
  (73, .dup, 74, 0, 0, []),
  (74, .iload_n 1, 75, 0, 0, []),
  (75, .iconst 1, 76, 0, 0, []),
  (76, .iadd, 77, 0, 0, []),
  (77, .invokespecial 17, 80, 26, 1, []),
  (80, .aastore, 81, 0, 0, []),
  (81, .iinc 1 1, 84, 0, 0, []),
  (84, .goto (-28), 87, 56, 0, []),
  (87, .return_, 88, 0, 0, [])]
def zc2 : List (Nat × zm_E) := [(0, .iload_n 1, 1, 0, 0, []),
  (1, .iconst 1, 2, 0, 0, []),
  (2, .if_icmp .lt 12, 5, 14, 0, []),
  (5, .iload_n 1, 6, 0, 0, []),
  (6, .aload_n 0, 7, 0, 0, []),
  (7, .getfield 11, 10, 0, 0, []),
  (10, .arraylength, 11, 0, 0, []),
  (11, .if_icmp .le 5, 14, 16, 0, []),
  (14, .aconst_null, 15, 0, 0, []),
  (15, .areturn, 16, 0, 0, []),
  (16, .aload_n 0, 17, 0, 0, []),
  (17, .getfield 11, 20, 0, 0, []),
  (20, .iload_n 1, 21, 0, 0, []),
  (21, .iconst 1, 22, 0, 0, []),
  (22, .isub, 23, 0, 0, []),
  (23, .aaload, 24, 0, 0, []),
  (24, .astore_n 2, 25, 0, 0, []),
  (25, .aload_n 2, 26, 0, 0, []),
  (26, .ifnull 10, 29, 36, 0, []),
  (29, .aload_n 2, 30, 0, 0, []),
  (30, .getfield 30, 33, 5, 1, []),
  (33, .ifCond .ne 7, 36, 40, 0, []),
  (36, .aconst_null, 37, 0, 0, []),
  (37, .goto 4, 40, 41, 0, []),
  (40, .aload_n 2, 41, 0, 0, []),
  (41, .areturn, 42, 0, 0, [])]
def zc3 : List (Nat × zm_E) := [(0, .aload_n 0, 1, 0, 0, []),
  (1, .getfield 11, 4, 0, 0, []),
  (4, .astore_n 1, 5, 0, 0, []),
  (5, .aload_n 1, 6, 0, 0, []),
  (6, .arraylength, 7, 0, 0, []),
  (7, .istore_n 2, 8, 0, 0, []),
  (8, .iconst 0, 9, 0, 0, []),
  (9, .istore_n 3, 10, 0, 0, []),
  (10, .iload_n 3, 11, 0, 0, []),
  (11, .iload_n 2, 12, 0, 0, []),
  (12, .if_icmp .ge 30, 15, 42, 0, []),
  (15, .aload_n 1, 16, 0, 0, []),
  (16, .iload_n 3, 17, 0, 0, []),
  (17, .aaload, 18, 0, 0, []),
  (18, .astore 4, 20, 0, 0, []),
  (20, .aload 4, 22, 0, 0, []),
  (22, .ifnull 14, 25, 36, 0, []),
  (25, .aload 4, 27, 0, 0, []),
  (27, .getfield 30, 30, 5, 1, []),
  (30, .ifCond .ne 6, 33, 36, 0, []),
  (33, .aload 4, 35, 0, 0, []),
  (35, .areturn, 36, 0, 0, []),
  (36, .iinc 3 1, 39, 0, 0, []),
  (39, .goto (-29), 42, 10, 0, []),
  (42, .aconst_null, 43, 0, 0, []),
  (43, .areturn, 44, 0, 0, [])]
def zc4 : List (Nat × zm_E) := [(0, .iconst 0, 1, 0, 0, []),
  (1, .istore_n 1, 2, 0, 0, []),
  (2, .aload_n 0, 3, 0, 0, []),
  (3, .getfield 11, 6, 0, 0, []),
  (6, .astore_n 2, 7, 0, 0, []),
  (7, .aload_n 2, 8, 0, 0, []),
  (8, .arraylength, 9, 0, 0, []),
  (9, .istore_n 3, 10, 0, 0, []),
  (10, .iconst 0, 11, 0, 0, []),
  (11, .istore 4, 13, 0, 0, []),
  (13, .iload 4, 15, 0, 0, []),
  (15, .iload_n 3, 16, 0, 0, []),
  (16, .if_icmp .ge 31, 19, 47, 0, []),
  (19, .aload_n 2, 20, 0, 0, []),
  (20, .iload 4, 22, 0, 0, []),
  (22, .aaload, 23, 0, 0, []),
  (23, .astore 5, 25, 0, 0, []),
  (25, .aload 5, 27, 0, 0, []),
  (27, .ifnull 14, 30, 41, 0, []),
  (30, .aload 5, 32, 0, 0, []),
  (32, .getfield 30, 35, 5, 1, []),
  (35, .ifCond .eq 6, 38, 41, 0, []),
  (38, .iinc 1 1, 41, 0, 0, []),
  (41, .iinc 4 1, 44, 0, 0, []),
  (44, .goto (-31), 47, 13, 0, []),
  (47, .iload_n 1, 48, 0, 0, []),
  (48, .ireturn, 49, 0, 0, [])]
def zc5 : List (Nat × zm_E) := [(0, .iconst 0, 1, 0, 0, []),
  (1, .istore_n 1, 2, 0, 0, []),
  (2, .aload_n 0, 3, 0, 0, []),
  (3, .getfield 11, 6, 0, 0, []),
  (6, .astore_n 2, 7, 0, 0, []),
  (7, .aload_n 2, 8, 0, 0, []),
  (8, .arraylength, 9, 0, 0, []),
  (9, .istore_n 3, 10, 0, 0, []),
  (10, .iconst 0, 11, 0, 0, []),
  (11, .istore 4, 13, 0, 0, []),
  (13, .iload 4, 15, 0, 0, []),
  (15, .iload_n 3, 16, 0, 0, []),
  (16, .if_icmp .ge 28, 19, 44, 0, []),
  (19, .aload_n 2, 20, 0, 0, []),
  (20, .iload 4, 22, 0, 0, []),
  (22, .aaload, 23, 0, 0, []),
  (23, .astore 5, 25, 0, 0, []),
  (25, .aload 5, 27, 0, 0, []),
  (27, .ifnull 11, 30, 38, 0, []),
  (30, .iload_n 1, 31, 0, 0, []),
  (31, .aload 5, 33, 0, 0, []),
  (33, .invokevirtual 34, 36, 30, 0, []),
  (36, .iadd, 37, 0, 0, []),
  (37, .istore_n 1, 38, 0, 0, []),
  (38, .iinc 4 1, 41, 0, 0, []),
  (41, .goto (-28), 44, 13, 0, []),
  (44, .iload_n 1, 45, 0, 0, []),
  (45, .ireturn, 46, 0, 0, [])]
def zc6 : List (Nat × zm_E) := [(0, .iconst 0, 1, 0, 0, []),
  (1, .istore_n 2, 2, 0, 0, []),
  (2, .aload_n 0, 3, 0, 0, []),
  (3, .getfield 11, 6, 0, 0, []),
  (6, .astore_n 3, 7, 0, 0, []),
  (7, .aload_n 3, 8, 0, 0, []),
  (8, .arraylength, 9, 0, 0, []),
  (9, .istore 4, 11, 0, 0, []),
  (11, .iconst 0, 12, 0, 0, []),
  (12, .istore 5, 14, 0, 0, []),
  (14, .iload 5, 16, 0, 0, []),
  (16, .iload 4, 18, 0, 0, []),
  (18, .if_icmp .ge 41, 21, 59, 0, []),
  (21, .aload_n 3, 22, 0, 0, []),
  (22, .iload 5, 24, 0, 0, []),
  (24, .aaload, 25, 0, 0, []),
  (25, .astore 6, 27, 0, 0, []),
  (27, .aload 6, 29, 0, 0, []),
  (29, .ifnull 24, 32, 53, 0, []),
  (32, .aload 6, 34, 0, 0, []),
  (34, .aload_n 0, 35, 0, 0, []),
  (35, .getfield 20, 38, 0, 1, []),
  (38, .if_acmp .eq 15, 41, 53, 0, []),
  (41, .aload 6, 43, 0, 0, []),
  (43, .getfield 27, 46, 5, 6, []),
  (46, .aload_n 1, 47, 0, 0, []),
  (47, .if_acmp .ne 6, 50, 53, 0, []),
  (50, .iinc 2 1, 53, 0, 0, []),
  (53, .iinc 5 1, 56, 0, 0, []),
  (56, .goto (-42), 59, 14, 0, []),
  (59, .iload_n 2, 60, 0, 0, []),
  (60, .ireturn, 61, 0, 0, [])]
def zc7 : List (Nat × zm_E) := [(0, .aload_n 0, 1, 0, 0, []),
  (1, .invokespecial 3, 4, 1000, 0, []),
  (4, .return_, 5, 0, 0, [])]
def zc8 : List (Nat × zm_E) := [(0, .aload_n 0, 1, 0, 0, []),
  (1, .getfield 9, 4, 1, 2, []),
  (4, .ifnonnull 12, 7, 16, 0, []),
  (7, .aload_n 0, 8, 0, 0, []),
  (8, .sipush 255, 11, 0, 0, []),
  (11, .newarray .byte, 13, 100, 0, []),
  (13, .putfield 9, 16, 1, 2, []),
  (16, .aload_n 0, 17, 0, 0, []),
  (17, .aload_n 1, 18, 0, 0, []),
  (18, .iload_n 2, 19, 0, 0, []),
  (19, .iload_n 3, 20, 0, 0, []),
  (20, .aload_n 0, 21, 0, 0, []),
  (21, .getfield 9, 24, 1, 2, []),
  (24, .invokestatic 15, 27, 72, 4, []),
  (27, .putfield 19, 30, 1, 3, []),
  (30, .return_, 31, 0, 0, [])]
def zc9 : List (Nat × zm_E) := [(0, .aload_n 0, 1, 0, 0, []),
  (1, .getfield 9, 4, 1, 2, []),
  (4, .ifnull 36, 7, 40, 0, []),
  (7, .aload_n 1, 8, 0, 0, []),
  (8, .ifnull 32, 11, 40, 0, []),
  (11, .iload_n 3, 12, 0, 0, []),
  (12, .aload_n 0, 13, 0, 0, []),
  (13, .getfield 19, 16, 1, 3, []),
  (16, .if_icmp .ne 24, 19, 40, 0, []),
  (19, .iload_n 3, 20, 0, 0, []),
  (20, .aload_n 0, 21, 0, 0, []),
  (21, .getfield 9, 24, 1, 2, []),
  (24, .arraylength, 25, 0, 0, []),
  (25, .if_icmp .gt 15, 28, 40, 0, []),
  (28, .iload_n 2, 29, 0, 0, []),
  (29, .ifCond .lt 11, 32, 40, 0, []),
  (32, .iload_n 3, 33, 0, 0, []),
  (33, .aload_n 1, 34, 0, 0, []),
  (34, .arraylength, 35, 0, 0, []),
  (35, .iload_n 2, 36, 0, 0, []),
  (36, .isub, 37, 0, 0, []),
  (37, .if_icmp .le 5, 40, 42, 0, []),
  (40, .iconst 0, 41, 0, 0, []),
  (41, .ireturn, 42, 0, 0, []),
  (42, .iconst 0, 43, 0, 0, []),
  (43, .istore 4, 45, 0, 0, []),
  (45, .iload 4, 47, 0, 0, []),
  (47, .iload_n 3, 48, 0, 0, []),
  (48, .if_icmp .ge 27, 51, 75, 0, []),
  (51, .aload_n 0, 52, 0, 0, []),
  (52, .getfield 9, 55, 1, 2, []),
  (55, .iload 4, 57, 0, 0, []),
  (57, .baload, 58, 0, 0, []),
  (58, .aload_n 1, 59, 0, 0, []),
  (59, .iload_n 2, 60, 0, 0, []),
  (60, .iload 4, 62, 0, 0, []),
  (62, .iadd, 63, 0, 0, []),
  (63, .baload, 64, 0, 0, []),
  (64, .if_icmp .eq 5, 67, 69, 0, []),
  (67, .iconst 0, 68, 0, 0, []),
  (68, .ireturn, 69, 0, 0, []),
  (69, .iinc 4 1, 72, 0, 0, []),
  (72, .goto (-27), 75, 45, 0, []),
  (75, .iconst 1, 76, 0, 0, []),
  (76, .ireturn, 77, 0, 0, [])]
def zc10 : List (Nat × zm_E) := [(0, .aload_n 0, 1, 0, 0, []),
  (1, .invokespecial 3, 4, 1000, 0, []),
  (4, .aload_n 0, 5, 0, 0, []),
  (5, .bipush 60, 7, 0, 0, []),
  (7, .anewarray 9, 10, 201, 0, []),
  (10, .putfield 11, 13, 2, 0, []),
  (13, .iconst 0, 14, 0, 0, []),
  (14, .istore_n 1, 15, 0, 0, []),
  (15, .iload_n 1, 16, 0, 0, []),
  (16, .aload_n 0, 17, 0, 0, []),
  (17, .getfield 11, 20, 2, 0, []),
  (20, .arraylength, 21, 0, 0, []),
  (21, .if_icmp .ge 22, 24, 43, 0, []),
  (24, .aload_n 0, 25, 0, 0, []),
  (25, .getfield 11, 28, 2, 0, []),
  (28, .iload_n 1, 29, 0, 0, []),
  (29, .new 9, 32, 1, 4, []),
  (32, .dup, 33, 0, 0, []),
  (33, .invokespecial 17, 36, 7, 0, []),
  (36, .aastore, 37, 0, 0, []),
  (37, .iinc 1 1, 40, 0, 0, []),
  (40, .goto (-25), 43, 15, 0, []),
  (43, .return_, 44, 0, 0, [])]
def zc11 : List (Nat × zm_E) := [(0, .iconst 0, 1, 0, 0, []),
  (1, .istore 5, 3, 0, 0, []),
  (3, .iload 5, 5, 0, 0, []),
  (5, .aload_n 0, 6, 0, 0, []),
  (6, .getfield 18, 9, 2, 1, []),
  (9, .if_icmp .ge 57, 12, 66, 0, []),
  (12, .iload 5, 14, 0, 0, []),
  (14, .aload_n 0, 15, 0, 0, []),
  (15, .getfield 11, 18, 2, 0, []),
  (18, .arraylength, 19, 0, 0, []),
  (19, .if_icmp .ge 47, 22, 66, 0, []),
  (22, .aload_n 0, 23, 0, 0, []),
  (23, .getfield 11, 26, 2, 0, []),
  (26, .iload 5, 28, 0, 0, []),
  (28, .aaload, 29, 0, 0, []),
  (29, .astore 6, 31, 0, 0, []),
  (31, .aload 6, 33, 0, 0, []),
  (33, .ifnull 27, 36, 60, 0, []),
  (36, .aload 6, 38, 0, 0, []),
  (38, .getfield 22, 41, 1, 0, []),
  (41, .aload_n 1, 42, 0, 0, []),
  (42, .if_acmp .ne 18, 45, 60, 0, []),
  (45, .aload 6, 47, 0, 0, []),
  (47, .aload_n 2, 48, 0, 0, []),
  (48, .iload_n 3, 49, 0, 0, []),
  (49, .iload 4, 51, 0, 0, []),
  (51, .invokevirtual 26, 54, 9, 3, []),
  (54, .ifCond .eq 6, 57, 60, 0, []),
  (57, .aload 6, 59, 0, 0, []),
  (59, .areturn, 60, 0, 0, []),
  (60, .iinc 5 1, 63, 0, 0, []),
  (63, .goto (-60), 66, 3, 0, []),
  (66, .aconst_null, 67, 0, 0, []),
  (67, .areturn, 68, 0, 0, [])]
def zc12 : List (Nat × zm_E) := [(0, .aload_n 0, 1, 0, 0, []),
  (1, .getfield 18, 4, 2, 1, []),
  (4, .ifCond .lt 15, 7, 19, 0, []),
  (7, .aload_n 0, 8, 0, 0, []),
  (8, .getfield 18, 11, 2, 1, []),
  (11, .aload_n 0, 12, 0, 0, []),
  (12, .getfield 11, 15, 2, 0, []),
  (15, .arraylength, 16, 0, 0, []),
  (16, .if_icmp .lt 4, 19, 20, 0, []),
  (19, .return_, 20, 0, 0, []),
  (20, .aload_n 0, 21, 0, 0, []),
  (21, .getfield 11, 24, 2, 0, []),
  (24, .aload_n 0, 25, 0, 0, []),
  (25, .getfield 18, 28, 2, 1, []),
  (28, .aaload, 29, 0, 0, []),
  (29, .astore_n 3, 30, 0, 0, []),
  (30, .aload_n 2, 31, 0, 0, []),
  (31, .getfield 30, 34, 6, 8, []),
  (34, .astore 4, 36, 0, 0, []),
  (36, .aload_n 3, 37, 0, 0, []),
  (37, .ifnull 8, 40, 45, 0, []),
  (40, .aload 4, 42, 0, 0, []),
  (42, .ifnonnull 4, 45, 46, 0, []),
  (45, .return_, 46, 0, 0, []),
  (46, .aload_n 0, 47, 0, 0, []),
  (47, .dup, 48, 0, 0, []),
  (48, .getfield 18, 51, 2, 1, []),
  (51, .iconst 1, 52, 0, 0, []),
  (52, .iadd, 53, 0, 0, []),
  (53, .putfield 18, 56, 2, 1, []),
  (56, .aload_n 3, 57, 0, 0, []),
  (57, .aload_n 2, 58, 0, 0, []),
  (58, .getfield 33, 61, 6, 5, []),
  (61, .aload_n 2, 62, 0, 0, []),
  (62, .getfield 37, 65, 6, 6, []),
  (65, .aload_n 2, 66, 0, 0, []),
  (66, .getfield 40, 69, 6, 7, []),
  (69, .invokevirtual 43, 72, 8, 3, []),
  (72, .aload_n 3, 73, 0, 0, []),
  (73, .aload 4, 75, 0, 0, []),
  (75, .putfield 22, 78, 1, 0, []),
  (78, .aload_n 3, 79, 0, 0, []),
  (79, .aload_n 1, 80, 0, 0, []),
  (80, .putfield 47, 83, 1, 1, []),
  (83, .aload 4, 85, 0, 0, []),
  (85, .dup, 86, 0, 0, []),
  (86, .getfield 50, 89, 5, 4, []),
  (89, .iconst 1, 90, 0, 0, []),
  (90, .iadd, 91, 0, 0, []),
  (91, .putfield 50, 94, 5, 4, []),
  (94, .aload 4, 96, 0, 0, []),
  (96, .aload 4, 98, 0, 0, []),
  (98, .getfield 55, 101, 5, 5, []),
  (101, .aload 4, 103, 0, 0, []),
  (103, .getfield 50, 106, 5, 4, []),
  (106, .invokestatic 58, 109, 1001, 0, []),
  (109, .putfield 55, 112, 5, 5, []),
  (112, .aload_n 1, 113, 0, 0, []),
  (113, .dup, 114, 0, 0, []),
  (114, .getfield 64, 117, 5, 2, []),
  (117, .iconst 1, 118, 0, 0, []),
  (118, .iadd, 119, 0, 0, []),
  (119, .putfield 64, 122, 5, 2, []),
  (122, .aload_n 1, 123, 0, 0, []),
  (123, .getfield 67, 126, 5, 1, []),
  (126, .iconst 2, 127, 0, 0, []),
  (127, .if_icmp .ne 9, 130, 136, 0, []),
  (130, .aload_n 1, 131, 0, 0, []),
  (131, .aload 4, 133, 0, 0, []),
  (133, .putfield 70, 136, 5, 6, []),
  (136, .return_, 137, 0, 0, [])]
def zc13 : List (Nat × zm_E) := [(0, .aload_n 0, 1, 0, 0, []),
  (1, .getfield 18, 4, 2, 1, []),
  (4, .iconst 1, 5, 0, 0, []),
  (5, .isub, 6, 0, 0, []),
  (6, .istore_n 2, 7, 0, 0, []),
  (7, .iconst 0, 8, 0, 0, []),
  (8, .istore_n 3, 9, 0, 0, []),
  (9, .iload_n 3, 10, 0, 0, []),
  (10, .iload_n 2, 11, 0, 0, []),
  (11, .if_icmp .gt 57, 14, 68, 0, []),
  (14, .iload_n 2, 15, 0, 0, []),
  (15, .aload_n 0, 16, 0, 0, []),
  (16, .getfield 11, 19, 2, 0, []),
  (19, .arraylength, 20, 0, 0, []),
  (20, .if_icmp .ge 48, 23, 68, 0, []),
  (23, .aload_n 0, 24, 0, 0, []),
  (24, .getfield 11, 27, 2, 0, []),
  (27, .iload_n 3, 28, 0, 0, []),
  (28, .aaload, 29, 0, 0, []),
  (29, .aload_n 1, 30, 0, 0, []),
  (30, .if_acmp .ne 32, 33, 62, 0, []),
  (33, .aload_n 0, 34, 0, 0, []),
  (34, .getfield 11, 37, 2, 0, []),
  (37, .iload_n 3, 38, 0, 0, []),
  (38, .aload_n 0, 39, 0, 0, []),
  (39, .getfield 11, 42, 2, 0, []),
  (42, .iload_n 2, 43, 0, 0, []),
  (43, .aaload, 44, 0, 0, []),
  (44, .aastore, 45, 0, 0, []),
  (45, .aload_n 0, 46, 0, 0, []),
  (46, .getfield 11, 49, 2, 0, []),
  (49, .iload_n 2, 50, 0, 0, []),
  (50, .aload_n 1, 51, 0, 0, []),
  (51, .aastore, 52, 0, 0, []),
  (52, .aload_n 0, 53, 0, 0, []),
  (53, .iload_n 2, 54, 0, 0, []),
  (54, .putfield 18, 57, 2, 1, []),
  (57, .aload_n 1, 58, 0, 0, []),
  (58, .invokestatic 73, 61, 14, 1, []),
  (61, .return_, 62, 0, 0, []),
  (62, .iinc 3 1, 65, 0, 0, []),
  (65, .goto (-56), 68, 9, 0, []),
  (68, .return_, 69, 0, 0, [])]
def zc14 : List (Nat × zm_E) := [(0, .aload_n 0, 1, 0, 0, []),
  (1, .ifnonnull 4, 4, 5, 0, []),
  (4, .return_, 5, 0, 0, []),
  (5, .aload_n 0, 6, 0, 0, []),
  (6, .getfield 22, 9, 1, 0, []),
  (9, .ifnull 16, 12, 25, 0, []),
  (12, .aload_n 0, 13, 0, 0, []),
  (13, .getfield 22, 16, 1, 0, []),
  (16, .dup, 17, 0, 0, []),
  (17, .getfield 50, 20, 5, 4, []),
  (20, .iconst 1, 21, 0, 0, []),
  (21, .isub, 22, 0, 0, []),
  (22, .putfield 50, 25, 5, 4, []),
  (25, .aload_n 0, 26, 0, 0, []),
  (26, .getfield 47, 29, 1, 1, []),
  (29, .ifnull 16, 32, 45, 0, []),
  (32, .aload_n 0, 33, 0, 0, []),
  (33, .getfield 47, 36, 1, 1, []),
  (36, .dup, 37, 0, 0, []),
  (37, .getfield 64, 40, 5, 2, []),
  (40, .iconst 1, 41, 0, 0, []),
  (41, .isub, 42, 0, 0, []),
  (42, .putfield 64, 45, 5, 2, []),
  (45, .aload_n 0, 46, 0, 0, []),
  (46, .aconst_null, 47, 0, 0, []),
  (47, .putfield 22, 50, 1, 0, []),
  (50, .aload_n 0, 51, 0, 0, []),
  (51, .aconst_null, 52, 0, 0, []),
  (52, .putfield 47, 55, 1, 1, []),
  (55, .return_, 56, 0, 0, [])]
def zc15 : List (Nat × zm_E) := [(0, .aload_n 0, 1, 0, 0, []),
  (1, .invokespecial 3, 4, 1000, 0, []),
  (4, .return_, 5, 0, 0, [])]
def zc16 : List (Nat × zm_E) := [(0, .aload_n 0, 1, 0, 0, []),
  (1, .getfield 9, 4, 3, 1, []),
  (4, .aload_n 0, 5, 0, 0, []),
  (5, .getfield 15, 8, 3, 2, []),
  (8, .if_icmp .ge 82, 11, 90, 0, []),
  (11, .aload_n 0, 12, 0, 0, []),
  (12, .aload_n 0, 13, 0, 0, []),
  (13, .getfield 9, 16, 3, 1, []),
  (16, .bipush 47, 18, 0, 0, []),
  (18, .invokevirtual 18, 21, 18, 2, []),
  (21, .ifCond .ne 44, 24, 65, 0, []),
  (24, .aload_n 0, 25, 0, 0, []),
  (25, .aload_n 0, 26, 0, 0, []),
  (26, .getfield 9, 29, 3, 1, []),
  (29, .bipush 46, 31, 0, 0, []),
  (31, .invokevirtual 18, 34, 18, 2, []),
  (34, .ifCond .eq 35, 37, 69, 0, []),
  (37, .aload_n 0, 38, 0, 0, []),
  (38, .getfield 9, 41, 3, 1, []),
  (41, .iconst 1, 42, 0, 0, []),
  (42, .iadd, 43, 0, 0, []),
  (43, .aload_n 0, 44, 0, 0, []),
  (44, .getfield 15, 47, 3, 2, []),
  (47, .if_icmp .ge 18, 50, 65, 0, []),
  (50, .aload_n 0, 51, 0, 0, []),
  (51, .aload_n 0, 52, 0, 0, []),
  (52, .getfield 9, 55, 3, 1, []),
  (55, .iconst 1, 56, 0, 0, []),
  (56, .iadd, 57, 0, 0, []),
  (57, .bipush 47, 59, 0, 0, []),
  (59, .invokevirtual 18, 62, 18, 2, []),
  (62, .ifCond .eq 7, 65, 69, 0, []),
  (65, .iconst 1, 66, 0, 0, []),
  (66, .goto 4, 69, 70, 0, []),
  (69, .iconst 0, 70, 0, 0, []),
  (70, .istore_n 1, 71, 0, 0, []),
  (71, .iload_n 1, 72, 0, 0, []),
  (72, .ifCond .ne 5, 75, 77, 0, []),
  (75, .iconst 1, 76, 0, 0, []),
  (76, .ireturn, 77, 0, 0, []),
  (77, .aload_n 0, 78, 0, 0, []),
  (78, .dup, 79, 0, 0, []),
  (79, .getfield 9, 82, 3, 1, []),
  (82, .iconst 1, 83, 0, 0, []),
  (83, .iadd, 84, 0, 0, []),
  (84, .putfield 9, 87, 3, 1, []),
  (87, .goto (-87), 90, 0, 0, []),
  (90, .iconst 0, 91, 0, 0, []),
  (91, .ireturn, 92, 0, 0, [])]
def zc17 : List (Nat × zm_E) := [(0, .aload_n 0, 1, 0, 0, []),
  (1, .getfield 9, 4, 3, 1, []),
  (4, .aload_n 0, 5, 0, 0, []),
  (5, .getfield 15, 8, 3, 2, []),
  (8, .if_icmp .ge 29, 11, 37, 0, []),
  (11, .aload_n 0, 12, 0, 0, []),
  (12, .aload_n 0, 13, 0, 0, []),
  (13, .getfield 9, 16, 3, 1, []),
  (16, .bipush 47, 18, 0, 0, []),
  (18, .invokevirtual 18, 21, 18, 2, []),
  (21, .ifCond .ne 16, 24, 37, 0, []),
  (24, .aload_n 0, 25, 0, 0, []),
  (25, .dup, 26, 0, 0, []),
  (26, .getfield 9, 29, 3, 1, []),
  (29, .iconst 1, 30, 0, 0, []),
  (30, .iadd, 31, 0, 0, []),
  (31, .putfield 9, 34, 3, 1, []),
  (34, .goto (-34), 37, 0, 0, []),
  (37, .aload_n 0, 38, 0, 0, []),
  (38, .getfield 9, 41, 3, 1, []),
  (41, .ireturn, 42, 0, 0, [])]
def zc18 : List (Nat × zm_E) := [(0, .aload_n 0, 1, 0, 0, []),
  (1, .getfield 22, 4, 3, 0, []),
  (4, .ifnull 30, 7, 34, 0, []),
  (7, .iload_n 1, 8, 0, 0, []),
  (8, .ifCond .lt 26, 11, 34, 0, []),
  (11, .iload_n 1, 12, 0, 0, []),
  (12, .aload_n 0, 13, 0, 0, []),
  (13, .getfield 22, 16, 3, 0, []),
  (16, .arraylength, 17, 0, 0, []),
  (17, .if_icmp .ge 17, 20, 34, 0, []),
  (20, .aload_n 0, 21, 0, 0, []),
  (21, .getfield 22, 24, 3, 0, []),
  (24, .iload_n 1, 25, 0, 0, []),
  (25, .baload, 26, 0, 0, []),
  (26, .iload_n 2, 27, 0, 0, []),
  (27, .if_icmp .ne 7, 30, 34, 0, []),
  (30, .iconst 1, 31, 0, 0, []),
  (31, .goto 4, 34, 35, 0, []),
  (34, .iconst 0, 35, 0, 0, []),
  (35, .ireturn, 36, 0, 0, [])]
def zc19 : List (Nat × zm_E) := [(0, .aload_n 0, 1, 0, 0, []),
  (1, .invokespecial 3, 4, 1000, 0, []),
  (4, .aload_n 0, 5, 0, 0, []),
  (5, .sipush 1200, 8, 0, 0, []),
  (8, .newarray .byte, 10, 100, 0, []),
  (10, .putfield 9, 13, 4, 0, []),
  (13, .return_, 14, 0, 0, [])]
def zc20 : List (Nat × zm_E) := [(0, .iload_n 1, 1, 0, 0, []),
  (1, .sipush 1200, 4, 0, 0, []),
  (4, .aload_n 0, 5, 0, 0, []),
  (5, .getfield 15, 8, 4, 1, []),
  (8, .isub, 9, 0, 0, []),
  (9, .if_icmp .gt 7, 12, 16, 0, []),
  (12, .iconst 1, 13, 0, 0, []),
  (13, .goto 4, 16, 17, 0, []),
  (16, .iconst 0, 17, 0, 0, []),
  (17, .ireturn, 18, 0, 0, [])]
def zc21 : List (Nat × zm_E) := [(0, .aload_n 0, 1, 0, 0, []),
  (1, .getfield 15, 4, 4, 1, []),
  (4, .ifCond .lt 35, 7, 39, 0, []),
  (7, .aload_n 0, 8, 0, 0, []),
  (8, .getfield 15, 11, 4, 1, []),
  (11, .aload_n 0, 12, 0, 0, []),
  (12, .getfield 9, 15, 4, 0, []),
  (15, .arraylength, 16, 0, 0, []),
  (16, .if_icmp .ge 23, 19, 39, 0, []),
  (19, .aload_n 0, 20, 0, 0, []),
  (20, .getfield 9, 23, 4, 0, []),
  (23, .aload_n 0, 24, 0, 0, []),
  (24, .getfield 15, 27, 4, 1, []),
  (27, .iload_n 1, 28, 0, 0, []),
  (28, .bastore, 29, 0, 0, []),
  (29, .aload_n 0, 30, 0, 0, []),
  (30, .dup, 31, 0, 0, []),
  (31, .getfield 15, 34, 4, 1, []),
  (34, .iconst 1, 35, 0, 0, []),
  (35, .iadd, 36, 0, 0, []),
  (36, .putfield 15, 39, 4, 1, []),
  (39, .return_, 40, 0, 0, [])]
def zc22 : List (Nat × zm_E) := [(0, .aload_n 0, 1, 0, 0, []),
  (1, .getfield 15, 4, 4, 1, []),
  (4, .istore_n 1, 5, 0, 0, []),
  (5, .aload_n 0, 6, 0, 0, []),
  (6, .iconst 0, 7, 0, 0, []),
  (7, .putfield 15, 10, 4, 1, []),
  (10, .iload_n 1, 11, 0, 0, []),
  (11, .ireturn, 12, 0, 0, [])]
def zc23 : List (Nat × zm_E) := [(0, .aload_n 0, 1, 0, 0, []),
  (1, .iconst 0, 2, 0, 0, []),
  (2, .iload_n 1, 3, 0, 0, []),
  (3, .invokevirtual 19, 6, 25, 2, []),
  (6, .ifCond .lt 7, 9, 13, 0, []),
  (9, .iconst 1, 10, 0, 0, []),
  (10, .goto 4, 13, 14, 0, []),
  (13, .iconst 0, 14, 0, 0, []),
  (14, .ireturn, 15, 0, 0, [])]
def zc24 : List (Nat × zm_E) := [(0, .aload_n 0, 1, 0, 0, []),
  (1, .iconst 0, 2, 0, 0, []),
  (2, .iload_n 1, 3, 0, 0, []),
  (3, .invokevirtual 19, 6, 25, 2, []),
  (6, .istore_n 2, 7, 0, 0, []),
  (7, .iload_n 2, 8, 0, 0, []),
  (8, .ifCond .lt 18, 11, 26, 0, []),
  (11, .aload_n 0, 12, 0, 0, []),
  (12, .iload_n 2, 13, 0, 0, []),
  (13, .iconst 1, 14, 0, 0, []),
  (14, .iadd, 15, 0, 0, []),
  (15, .iload_n 1, 16, 0, 0, []),
  (16, .invokevirtual 19, 19, 25, 2, []),
  (19, .ifCond .ge 7, 22, 26, 0, []),
  (22, .iload_n 2, 23, 0, 0, []),
  (23, .goto 4, 26, 27, 0, []),
  (26, .iconst (-1), 27, 0, 0, []),
  (27, .ireturn, 28, 0, 0, [])]
def zc25 : List (Nat × zm_E) := [(0, .iload_n 1, 1, 0, 0, []),
  (1, .istore_n 3, 2, 0, 0, []),
  (2, .iload_n 3, 3, 0, 0, []),
  (3, .ifCond .lt 34, 6, 37, 0, []),
  (6, .iload_n 3, 7, 0, 0, []),
  (7, .iload_n 2, 8, 0, 0, []),
  (8, .if_icmp .ge 29, 11, 37, 0, []),
  (11, .iload_n 3, 12, 0, 0, []),
  (12, .aload_n 0, 13, 0, 0, []),
  (13, .getfield 9, 16, 4, 0, []),
  (16, .arraylength, 17, 0, 0, []),
  (17, .if_icmp .ge 20, 20, 37, 0, []),
  (20, .aload_n 0, 21, 0, 0, []),
  (21, .getfield 9, 24, 4, 0, []),
  (24, .iload_n 3, 25, 0, 0, []),
  (25, .baload, 26, 0, 0, []),
  (26, .ifCond .ne 5, 29, 31, 0, []),
  (29, .iload_n 3, 30, 0, 0, []),
  (30, .ireturn, 31, 0, 0, []),
  (31, .iinc 3 1, 34, 0, 0, []),
  (34, .goto (-32), 37, 2, 0, []),
  (37, .iconst (-1), 38, 0, 0, []),
  (38, .ireturn, 39, 0, 0, [])]
def zc26 : List (Nat × zm_E) := [(0, .aload_n 0, 1, 0, 0, []),
  (1, .invokespecial 3, 4, 1000, 0, []),
  (4, .aload_n 0, 5, 0, 0, []),
  (5, .iload_n 1, 6, 0, 0, []),
  (6, .putfield 9, 9, 5, 0, []),
  (9, .return_, 10, 0, 0, [])]
def zc27 : List (Nat × zm_E) := [(0, .aload_n 0, 1, 0, 0, []),
  (1, .iload_n 1, 2, 0, 0, []),
  (2, .putfield 15, 5, 5, 1, []),
  (5, .aload_n 0, 6, 0, 0, []),
  (6, .iconst 0, 7, 0, 0, []),
  (7, .putfield 18, 10, 5, 2, []),
  (10, .aload_n 0, 11, 0, 0, []),
  (11, .iconst 0, 12, 0, 0, []),
  (12, .putfield 21, 15, 5, 3, []),
  (15, .aload_n 0, 16, 0, 0, []),
  (16, .iconst 0, 17, 0, 0, []),
  (17, .putfield 24, 20, 5, 4, []),
  (20, .aload_n 0, 21, 0, 0, []),
  (21, .iconst 0, 22, 0, 0, []),
  (22, .putfield 27, 25, 5, 5, []),
  (25, .aload_n 0, 26, 0, 0, []),
  (26, .aconst_null, 27, 0, 0, []),
  (27, .putfield 30, 30, 5, 6, []),
  (30, .aload_n 0, 31, 0, 0, []),
  (31, .iconst 0, 32, 0, 0, []),
  (32, .putfield 34, 35, 5, 8, []),
  (35, .return_, 36, 0, 0, [])]
def zc28 : List (Nat × zm_E) := [(0, .aload_n 0, 1, 0, 0, []),
  (1, .getfield 37, 4, 5, 7, []),
  (4, .ifnonnull 12, 7, 16, 0, []),
  (7, .aload_n 0, 8, 0, 0, []),
  (8, .sipush 1000, 11, 0, 0, []),
  (11, .newarray .byte, 13, 100, 0, []),
  (13, .putfield 37, 16, 5, 7, []),
  (16, .aload_n 0, 17, 0, 0, []),
  (17, .aload_n 1, 18, 0, 0, []),
  (18, .iload_n 2, 19, 0, 0, []),
  (19, .iload_n 3, 20, 0, 0, []),
  (20, .aload_n 0, 21, 0, 0, []),
  (21, .getfield 37, 24, 5, 7, []),
  (24, .invokestatic 41, 27, 72, 4, []),
  (27, .putfield 34, 30, 5, 8, []),
  (30, .return_, 31, 0, 0, [])]
def zc29 : List (Nat × zm_E) := [(0, .aload_n 0, 1, 0, 0, []),
  (1, .getfield 15, 4, 5, 1, []),
  (4, .iconst 3, 5, 0, 0, []),
  (5, .if_icmp .ne 31, 8, 36, 0, []),
  (8, .aload_n 0, 9, 0, 0, []),
  (9, .getfield 37, 12, 5, 7, []),
  (12, .ifnull 24, 15, 36, 0, []),
  (15, .iload_n 1, 16, 0, 0, []),
  (16, .ifCond .lt 20, 19, 36, 0, []),
  (19, .iload_n 1, 20, 0, 0, []),
  (20, .aload_n 0, 21, 0, 0, []),
  (21, .getfield 34, 24, 5, 8, []),
  (24, .if_icmp .ge 12, 27, 36, 0, []),
  (27, .iload_n 1, 28, 0, 0, []),
  (28, .aload_n 0, 29, 0, 0, []),
  (29, .getfield 37, 32, 5, 7, []),
  (32, .arraylength, 33, 0, 0, []),
  (33, .if_icmp .lt 5, 36, 38, 0, []),
  (36, .iconst (-1), 37, 0, 0, []),
  (37, .ireturn, 38, 0, 0, []),
  (38, .aload_n 0, 39, 0, 0, []),
  (39, .getfield 37, 42, 5, 7, []),
  (42, .iload_n 1, 43, 0, 0, []),
  (43, .baload, 44, 0, 0, []),
  (44, .sipush 255, 47, 0, 0, []),
  (47, .iand, 48, 0, 0, []),
  (48, .ireturn, 49, 0, 0, [])]
def zc30 : List (Nat × zm_E) := [(0, .aload_n 0, 1, 0, 0, []),
  (1, .getfield 15, 4, 5, 1, []),
  (4, .tableswitch 46 1 3 #[28, 30, 38], 32, 50, 0, [(1, 32), (2, 34), (3, 42)]),
  (32, .iconst 1, 33, 0, 0, []),
  (33, .ireturn, 34, 0, 0, []),
  (34, .aload_n 0, 35, 0, 0, []),
  (35, .getfield 27, 38, 5, 5, []),
  (38, .invokestatic 45, 41, 71, 1, []),
  (41, .ireturn, 42, 0, 0, []),
  (42, .aload_n 0, 43, 0, 0, []),
  (43, .getfield 34, 46, 5, 8, []),
  (46, .invokestatic 49, 49, 70, 1, []),
  (49, .ireturn, 50, 0, 0, []),
  (50, .iconst 0, 51, 0, 0, []),
  (51, .ireturn, 52, 0, 0, [])]
def zc31 : List (Nat × zm_E) := [(0, .aload_n 0, 1, 0, 0, []),
  (1, .getfield 27, 4, 5, 5, []),
  (4, .aload_n 0, 5, 0, 0, []),
  (5, .getfield 24, 8, 5, 4, []),
  (8, .iconst 1, 9, 0, 0, []),
  (9, .iadd, 10, 0, 0, []),
  (10, .invokestatic 52, 13, 1001, 0, []),
  (13, .invokestatic 45, 16, 71, 1, []),
  (16, .aload_n 0, 17, 0, 0, []),
  (17, .getfield 27, 20, 5, 5, []),
  (20, .invokestatic 45, 23, 71, 1, []),
  (23, .isub, 24, 0, 0, []),
  (24, .ireturn, 25, 0, 0, [])]
def zc32 : List (Nat × zm_E) := [(0, .aload_n 0, 1, 0, 0, []),
  (1, .getfield 15, 4, 5, 1, []),
  (4, .tableswitch 43 1 3 #[28, 33, 38], 32, 47, 0, [(1, 32), (2, 37), (3, 42)]),
  (32, .aload_n 0, 33, 0, 0, []),
  (33, .getfield 21, 36, 5, 3, []),
  (36, .ireturn, 37, 0, 0, []),
  (37, .aload_n 0, 38, 0, 0, []),
  (38, .getfield 24, 41, 5, 4, []),
  (41, .ireturn, 42, 0, 0, []),
  (42, .aload_n 0, 43, 0, 0, []),
  (43, .getfield 34, 46, 5, 8, []),
  (46, .ireturn, 47, 0, 0, []),
  (47, .iconst 0, 48, 0, 0, []),
  (48, .ireturn, 49, 0, 0, [])]
def zc33 : List (Nat × zm_E) := [(0, .aload_n 0, 1, 0, 0, []),
  (1, .getfield 18, 4, 5, 2, []),
  (4, .ifCond .ne 15, 7, 19, 0, []),
  (7, .aload_n 0, 8, 0, 0, []),
  (8, .getfield 21, 11, 5, 3, []),
  (11, .ifCond .ne 8, 14, 19, 0, []),
  (14, .aload_n 0, 15, 0, 0, []),
  (15, .iconst 0, 16, 0, 0, []),
  (16, .invokevirtual 58, 19, 27, 1, []),
  (19, .return_, 20, 0, 0, [])]
def zc34 : List (Nat × zm_E) := [(0, .aload_n 0, 1, 0, 0, []),
  (1, .invokespecial 3, 4, 1000, 0, []),
  (4, .aload_n 0, 5, 0, 0, []),
  (5, .bipush 41, 7, 0, 0, []),
  (7, .anewarray 9, 10, 203, 0, []),
  (10, .putfield 11, 13, 6, 2, []),
  (13, .aload_n 0, 14, 0, 0, []),
  (14, .aload_n 1, 15, 0, 0, []),
  (15, .putfield 17, 18, 6, 0, []),
  (18, .aload_n 0, 19, 0, 0, []),
  (19, .aload_n 2, 20, 0, 0, []),
  (20, .putfield 21, 23, 6, 1, []),
  (23, .iconst 0, 24, 0, 0, []),
  (24, .istore_n 3, 25, 0, 0, []),
  (25, .iload_n 3, 26, 0, 0, []),
  (26, .aload_n 0, 27, 0, 0, []),
  (27, .getfield 11, 30, 6, 2, []),
  (30, .arraylength, 31, 0, 0, []),
  (31, .if_icmp .ge 22, 34, 53, 0, []),
  (34, .aload_n 0, 35, 0, 0, []),
  (35, .getfield 11, 38, 6, 2, []),
  (38, .iload_n 3, 39, 0, 0, []),
  (39, .new 9, 42, 3, 3, []),
  (42, .dup, 43, 0, 0, []),
  (43, .invokespecial 25, 46, 15, 0, []),
  (46, .aastore, 47, 0, 0, []),
  (47, .iinc 3 1, 50, 0, 0, []),
  (50, .goto (-25), 53, 25, 0, []),
  (53, .return_, 54, 0, 0, [])]
def zc35 : List (Nat × zm_E) := [(0, .aload_n 0, 1, 0, 0, []),
  (1, .aload_n 1, 2, 0, 0, []),
  (2, .iload_n 2, 3, 0, 0, []),
  (3, .iload_n 3, 4, 0, 0, []),
  (4, .iconst 0, 5, 0, 0, []),
  (5, .invokevirtual 26, 8, 36, 4, []),
  (8, .istore 4, 10, 0, 0, []),
  (10, .iload 4, 12, 0, 0, []),
  (12, .ifCond .eq 6, 15, 18, 0, []),
  (15, .iload 4, 17, 0, 0, []),
  (17, .ireturn, 18, 0, 0, []),
  (18, .aload_n 0, 19, 0, 0, []),
  (19, .getfield 30, 22, 6, 7, []),
  (22, .ifCond .eq 10, 25, 32, 0, []),
  (25, .aload_n 0, 26, 0, 0, []),
  (26, .invokevirtual 34, 29, 44, 0, []),
  (29, .ifCond .eq 7, 32, 36, 0, []),
  (32, .iconst (-1), 33, 0, 0, []),
  (33, .goto 4, 36, 37, 0, []),
  (36, .iconst 0, 37, 0, 0, []),
  (37, .ireturn, 38, 0, 0, [])]
def zc36 : List (Nat × zm_E) := [(0, .aload_n 0, 1, 0, 0, []),
  (1, .invokevirtual 38, 4, 37, 0, []),
  (4, .aload_n 0, 5, 0, 0, []),
  (5, .aload_n 1, 6, 0, 0, []),
  (6, .iload_n 2, 7, 0, 0, []),
  (7, .iload_n 3, 8, 0, 0, []),
  (8, .invokevirtual 41, 11, 38, 3, []),
  (11, .iconst 0, 12, 0, 0, []),
  (12, .istore 5, 14, 0, 0, []),
  (14, .iload 5, 16, 0, 0, []),
  (16, .ldc 45, 18, 0, 0, [(1000000, 0)]),
  (18, .if_icmp .ge 48, 21, 66, 0, []),
  (21, .aload_n 0, 22, 0, 0, []),
  (22, .invokevirtual 46, 25, 39, 0, []),
  (25, .ifCond .eq 41, 28, 66, 0, []),
  (28, .aload_n 0, 29, 0, 0, []),
  (29, .invokevirtual 49, 32, 41, 0, []),
  (32, .aload_n 0, 33, 0, 0, []),
  (33, .aload_n 0, 34, 0, 0, []),
  (34, .invokevirtual 46, 37, 39, 0, []),
  (37, .ifCond .ne 7, 40, 44, 0, []),
  (40, .iconst 1, 41, 0, 0, []),
  (41, .goto 4, 44, 45, 0, []),
  (44, .iconst 0, 45, 0, 0, []),
  (45, .iload 4, 47, 0, 0, []),
  (47, .invokevirtual 52, 50, 42, 2, []),
  (50, .istore 6, 52, 0, 0, []),
  (52, .iload 6, 54, 0, 0, []),
  (54, .ifCond .eq 6, 57, 60, 0, []),
  (57, .iload 6, 59, 0, 0, []),
  (59, .ireturn, 60, 0, 0, []),
  (60, .iinc 5 1, 63, 0, 0, []),
  (63, .goto (-49), 66, 14, 0, []),
  (66, .iconst 0, 67, 0, 0, []),
  (67, .ireturn, 68, 0, 0, [])]
def zc37 : List (Nat × zm_E) := [(0, .aload_n 0, 1, 0, 0, []),
  (1, .iconst 0, 2, 0, 0, []),
  (2, .putfield 56, 5, 6, 3, []),
  (5, .aload_n 0, 6, 0, 0, []),
  (6, .iconst 0, 7, 0, 0, []),
  (7, .putfield 59, 10, 6, 4, []),
  (10, .aload_n 0, 11, 0, 0, []),
  (11, .aconst_null, 12, 0, 0, []),
  (12, .putfield 62, 15, 6, 5, []),
  (15, .aload_n 0, 16, 0, 0, []),
  (16, .iconst 0, 17, 0, 0, []),
  (17, .putfield 66, 20, 6, 6, []),
  (20, .aload_n 0, 21, 0, 0, []),
  (21, .iconst 0, 22, 0, 0, []),
  (22, .putfield 30, 25, 6, 7, []),
  (25, .aload_n 0, 26, 0, 0, []),
  (26, .aload_n 0, 27, 0, 0, []),
  (27, .getfield 17, 30, 6, 0, []),
  (30, .putfield 69, 33, 6, 8, []),
  (33, .aload_n 0, 34, 0, 0, []),
  (34, .aconst_null, 35, 0, 0, []),
  (35, .putfield 72, 38, 6, 9, []),
  (38, .aload_n 0, 39, 0, 0, []),
  (39, .aload_n 0, 40, 0, 0, []),
  (40, .getfield 17, 43, 6, 0, []),
  (43, .putfield 76, 46, 6, 10, []),
  (46, .return_, 47, 0, 0, [])]
def zc38 : List (Nat × zm_E) := [(0, .aload_n 0, 1, 0, 0, []),
  (1, .getfield 56, 4, 6, 3, []),
  (4, .ifCond .lt 27, 7, 31, 0, []),
  (7, .aload_n 0, 8, 0, 0, []),
  (8, .getfield 56, 11, 6, 3, []),
  (11, .aload_n 0, 12, 0, 0, []),
  (12, .getfield 11, 15, 6, 2, []),
  (15, .arraylength, 16, 0, 0, []),
  (16, .if_icmp .ge 15, 19, 31, 0, []),
  (19, .aload_n 0, 20, 0, 0, []),
  (20, .getfield 11, 23, 6, 2, []),
  (23, .aload_n 0, 24, 0, 0, []),
  (24, .getfield 56, 27, 6, 3, []),
  (27, .aaload, 28, 0, 0, []),
  (28, .ifnonnull 4, 31, 32, 0, []),
  (31, .return_, 32, 0, 0, []),
  (32, .aload_n 0, 33, 0, 0, []),
  (33, .getfield 11, 36, 6, 2, []),
  (36, .aload_n 0, 37, 0, 0, []),
  (37, .getfield 56, 40, 6, 3, []),
  (40, .aaload, 41, 0, 0, []),
  (41, .astore 4, 43, 0, 0, []),
  (43, .aload 4, 45, 0, 0, []),
  (45, .aload_n 1, 46, 0, 0, []),
  (46, .putfield 79, 49, 3, 0, []),
  (49, .aload 4, 51, 0, 0, []),
  (51, .iload_n 2, 52, 0, 0, []),
  (52, .putfield 82, 55, 3, 1, []),
  (55, .aload 4, 57, 0, 0, []),
  (57, .iload_n 3, 58, 0, 0, []),
  (58, .putfield 85, 61, 3, 2, []),
  (61, .aload_n 0, 62, 0, 0, []),
  (62, .dup, 63, 0, 0, []),
  (63, .getfield 56, 66, 6, 3, []),
  (66, .iconst 1, 67, 0, 0, []),
  (67, .iadd, 68, 0, 0, []),
  (68, .putfield 56, 71, 6, 3, []),
  (71, .return_, 72, 0, 0, [])]
def zc39 : List (Nat × zm_E) := [(0, .aload_n 0, 1, 0, 0, []),
  (1, .getfield 56, 4, 6, 3, []),
  (4, .ifCond .le 34, 7, 38, 0, []),
  (7, .aload_n 0, 8, 0, 0, []),
  (8, .invokevirtual 88, 11, 40, 0, []),
  (11, .astore_n 1, 12, 0, 0, []),
  (12, .aload_n 1, 13, 0, 0, []),
  (13, .ifnull 12, 16, 25, 0, []),
  (16, .aload_n 1, 17, 0, 0, []),
  (17, .invokevirtual 92, 20, 16, 0, []),
  (20, .ifCond .eq 5, 23, 25, 0, []),
  (23, .iconst 1, 24, 0, 0, []),
  (24, .ireturn, 25, 0, 0, []),
  (25, .aload_n 0, 26, 0, 0, []),
  (26, .dup, 27, 0, 0, []),
  (27, .getfield 56, 30, 6, 3, []),
  (30, .iconst 1, 31, 0, 0, []),
  (31, .isub, 32, 0, 0, []),
  (32, .putfield 56, 35, 6, 3, []),
  (35, .goto (-35), 38, 0, 0, []),
  (38, .iconst 0, 39, 0, 0, []),
  (39, .ireturn, 40, 0, 0, [])]
def zc40 : List (Nat × zm_E) := [(0, .aload_n 0, 1, 0, 0, []),
  (1, .getfield 56, 4, 6, 3, []),
  (4, .ifCond .le 29, 7, 33, 0, []),
  (7, .aload_n 0, 8, 0, 0, []),
  (8, .getfield 56, 11, 6, 3, []),
  (11, .aload_n 0, 12, 0, 0, []),
  (12, .getfield 11, 15, 6, 2, []),
  (15, .arraylength, 16, 0, 0, []),
  (16, .if_icmp .gt 17, 19, 33, 0, []),
  (19, .aload_n 0, 20, 0, 0, []),
  (20, .getfield 11, 23, 6, 2, []),
  (23, .aload_n 0, 24, 0, 0, []),
  (24, .getfield 56, 27, 6, 3, []),
  (27, .iconst 1, 28, 0, 0, []),
  (28, .isub, 29, 0, 0, []),
  (29, .aaload, 30, 0, 0, []),
  (30, .goto 4, 33, 34, 0, []),
  (33, .aconst_null, 34, 0, 0, []),
  (34, .areturn, 35, 0, 0, [])]
def zc41 : List (Nat × zm_E) := [(0, .aload_n 0, 1, 0, 0, []),
  (1, .invokevirtual 88, 4, 40, 0, []),
  (4, .astore_n 1, 5, 0, 0, []),
  (5, .aload_n 1, 6, 0, 0, []),
  (6, .ifnull 32, 9, 38, 0, []),
  (9, .aload_n 0, 10, 0, 0, []),
  (10, .aload_n 1, 11, 0, 0, []),
  (11, .getfield 79, 14, 3, 0, []),
  (14, .putfield 62, 17, 6, 5, []),
  (17, .aload_n 0, 18, 0, 0, []),
  (18, .aload_n 1, 19, 0, 0, []),
  (19, .getfield 82, 22, 3, 1, []),
  (22, .putfield 66, 25, 6, 6, []),
  (25, .aload_n 0, 26, 0, 0, []),
  (26, .aload_n 1, 27, 0, 0, []),
  (27, .invokevirtual 95, 30, 17, 0, []),
  (30, .aload_n 0, 31, 0, 0, []),
  (31, .getfield 66, 34, 6, 6, []),
  (34, .isub, 35, 0, 0, []),
  (35, .putfield 30, 38, 6, 7, []),
  (38, .return_, 39, 0, 0, [])]
def zc42 : List (Nat × zm_E) := [(0, .aload_n 0, 1, 0, 0, []),
  (1, .getfield 30, 4, 6, 7, []),
  (4, .sipush 255, 7, 0, 0, []),
  (7, .if_icmp .le 6, 10, 13, 0, []),
  (10, .bipush (-9), 12, 0, 0, []),
  (12, .ireturn, 13, 0, 0, []),
  (13, .aload_n 0, 14, 0, 0, []),
  (14, .getfield 76, 17, 6, 10, []),
  (17, .ifnull 14, 20, 31, 0, []),
  (20, .aload_n 0, 21, 0, 0, []),
  (21, .getfield 76, 24, 6, 10, []),
  (24, .getfield 99, 27, 5, 1, []),
  (27, .iconst 2, 28, 0, 0, []),
  (28, .if_icmp .eq 6, 31, 34, 0, []),
  (31, .bipush (-4), 33, 0, 0, []),
  (33, .ireturn, 34, 0, 0, []),
  (34, .aload_n 0, 35, 0, 0, []),
  (35, .aload_n 0, 36, 0, 0, []),
  (36, .getfield 76, 39, 6, 10, []),
  (39, .putfield 69, 42, 6, 8, []),
  (42, .aload_n 0, 43, 0, 0, []),
  (43, .invokevirtual 34, 46, 44, 0, []),
  (46, .ifCond .eq 21, 49, 67, 0, []),
  (49, .aload_n 0, 50, 0, 0, []),
  (50, .aconst_null, 51, 0, 0, []),
  (51, .putfield 72, 54, 6, 9, []),
  (54, .aload_n 0, 55, 0, 0, []),
  (55, .aload_n 0, 56, 0, 0, []),
  (56, .getfield 69, 59, 6, 8, []),
  (59, .getfield 104, 62, 5, 6, []),
  (62, .putfield 76, 65, 6, 10, []),
  (65, .iconst 0, 66, 0, 0, []),
  (66, .ireturn, 67, 0, 0, []),
  (67, .aload_n 0, 68, 0, 0, []),
  (68, .aload_n 0, 69, 0, 0, []),
  (69, .getfield 21, 72, 6, 1, []),
  (72, .aload_n 0, 73, 0, 0, []),
  (73, .getfield 69, 76, 6, 8, []),
  (76, .aload_n 0, 77, 0, 0, []),
  (77, .getfield 62, 80, 6, 5, []),
  (80, .aload_n 0, 81, 0, 0, []),
  (81, .getfield 66, 84, 6, 6, []),
  (84, .aload_n 0, 85, 0, 0, []),
  (85, .getfield 30, 88, 6, 7, []),
  (88, .invokevirtual 107, 91, 11, 4, []),
  (91, .putfield 72, 94, 6, 9, []),
  (94, .aload_n 0, 95, 0, 0, []),
  (95, .getfield 72, 98, 6, 9, []),
  (98, .ifnonnull 19, 101, 117, 0, []),
  (101, .aload_n 0, 102, 0, 0, []),
  (102, .aconst_null, 103, 0, 0, []),
  (103, .putfield 76, 106, 6, 10, []),
  (106, .iload_n 1, 107, 0, 0, []),
  (107, .ifCond .eq 7, 110, 114, 0, []),
  (110, .iconst 0, 111, 0, 0, []),
  (111, .goto 5, 114, 116, 0, []),
  (114, .bipush (-2), 116, 0, 0, []),
  (116, .ireturn, 117, 0, 0, []),
  (117, .aload_n 0, 118, 0, 0, []),
  (118, .aload_n 0, 119, 0, 0, []),
  (119, .getfield 72, 122, 6, 9, []),
  (122, .getfield 113, 125, 1, 1, []),
  (125, .putfield 76, 128, 6, 10, []),
  (128, .aload_n 0, 129, 0, 0, []),
  (129, .getfield 76, 132, 6, 10, []),
  (132, .ifnull 26, 135, 158, 0, []),
  (135, .aload_n 0, 136, 0, 0, []),
  (136, .getfield 76, 139, 6, 10, []),
  (139, .getfield 99, 142, 5, 1, []),
  (142, .iconst 3, 143, 0, 0, []),
  (143, .if_icmp .ne 15, 146, 158, 0, []),
  (146, .iload_n 2, 147, 0, 0, []),
  (147, .ifCond .ne 7, 150, 154, 0, []),
  (150, .iload_n 1, 151, 0, 0, []),
  (151, .ifCond .ne 7, 154, 158, 0, []),
  (154, .iconst 1, 155, 0, 0, []),
  (155, .goto 4, 158, 159, 0, []),
  (158, .iconst 0, 159, 0, 0, []),
  (159, .istore_n 3, 160, 0, 0, []),
  (160, .iload_n 3, 161, 0, 0, []),
  (161, .ifCond .eq 14, 164, 175, 0, []),
  (164, .aload_n 0, 165, 0, 0, []),
  (165, .aload_n 0, 166, 0, 0, []),
  (166, .getfield 76, 169, 6, 10, []),
  (169, .invokevirtual 118, 172, 43, 1, []),
  (172, .goto 4, 175, 176, 0, []),
  (175, .iconst 0, 176, 0, 0, []),
  (176, .ireturn, 177, 0, 0, [])]
def zc43 : List (Nat × zm_E) := [(0, .aload_n 0, 1, 0, 0, []),
  (1, .getfield 59, 4, 6, 4, []),
  (4, .bipush 40, 6, 0, 0, []),
  (6, .if_icmp .lt 6, 9, 12, 0, []),
  (9, .bipush (-8), 11, 0, 0, []),
  (11, .ireturn, 12, 0, 0, []),
  (12, .aload_n 0, 13, 0, 0, []),
  (13, .dup, 14, 0, 0, []),
  (14, .getfield 59, 17, 6, 4, []),
  (17, .iconst 1, 18, 0, 0, []),
  (18, .iadd, 19, 0, 0, []),
  (19, .putfield 59, 22, 6, 4, []),
  (22, .aload_n 0, 23, 0, 0, []),
  (23, .aload_n 1, 24, 0, 0, []),
  (24, .getfield 122, 27, 5, 7, []),
  (27, .iconst 0, 28, 0, 0, []),
  (28, .aload_n 1, 29, 0, 0, []),
  (29, .getfield 125, 32, 5, 8, []),
  (32, .invokevirtual 41, 35, 38, 3, []),
  (35, .aload_n 0, 36, 0, 0, []),
  (36, .aload_n 1, 37, 0, 0, []),
  (37, .iconst 0, 38, 0, 0, []),
  (38, .invokevirtual 128, 41, 29, 1, []),
  (41, .bipush 47, 43, 0, 0, []),
  (43, .if_icmp .ne 10, 46, 53, 0, []),
  (46, .aload_n 0, 47, 0, 0, []),
  (47, .getfield 17, 50, 6, 0, []),
  (50, .goto 7, 53, 57, 0, []),
  (53, .aload_n 0, 54, 0, 0, []),
  (54, .getfield 69, 57, 6, 8, []),
  (57, .putfield 76, 60, 6, 10, []),
  (60, .iconst 0, 61, 0, 0, []),
  (61, .ireturn, 62, 0, 0, [])]
def zc44 : List (Nat × zm_E) := [(0, .aload_n 0, 1, 0, 0, []),
  (1, .getfield 30, 4, 6, 7, []),
  (4, .iconst 2, 5, 0, 0, []),
  (5, .if_icmp .ne 65, 8, 70, 0, []),
  (8, .aload_n 0, 9, 0, 0, []),
  (9, .getfield 62, 12, 6, 5, []),
  (12, .ifnull 58, 15, 70, 0, []),
  (15, .aload_n 0, 16, 0, 0, []),
  (16, .getfield 66, 19, 6, 6, []),
  (19, .ifCond .lt 51, 22, 70, 0, []),
  (22, .aload_n 0, 23, 0, 0, []),
  (23, .getfield 66, 26, 6, 6, []),
  (26, .aload_n 0, 27, 0, 0, []),
  (27, .getfield 62, 30, 6, 5, []),
  (30, .arraylength, 31, 0, 0, []),
  (31, .iconst 1, 32, 0, 0, []),
  (32, .isub, 33, 0, 0, []),
  (33, .if_icmp .ge 37, 36, 70, 0, []),
  (36, .aload_n 0, 37, 0, 0, []),
  (37, .getfield 62, 40, 6, 5, []),
  (40, .aload_n 0, 41, 0, 0, []),
  (41, .getfield 66, 44, 6, 6, []),
  (44, .baload, 45, 0, 0, []),
  (45, .bipush 46, 47, 0, 0, []),
  (47, .if_icmp .ne 23, 50, 70, 0, []),
  (50, .aload_n 0, 51, 0, 0, []),
  (51, .getfield 62, 54, 6, 5, []),
  (54, .aload_n 0, 55, 0, 0, []),
  (55, .getfield 66, 58, 6, 6, []),
  (58, .iconst 1, 59, 0, 0, []),
  (59, .iadd, 60, 0, 0, []),
  (60, .baload, 61, 0, 0, []),
  (61, .bipush 46, 63, 0, 0, []),
  (63, .if_icmp .ne 7, 66, 70, 0, []),
  (66, .iconst 1, 67, 0, 0, []),
  (67, .goto 4, 70, 71, 0, []),
  (70, .iconst 0, 71, 0, 0, []),
  (71, .ireturn, 72, 0, 0, [])]
def zc45 : List (Nat × zm_E) := [(0, .aload_n 0, 1, 0, 0, []),
  (1, .invokespecial 1, 4, 1000, 0, []),
  (4, .aload_n 0, 5, 0, 0, []),
  (5, .new 7, 8, 4, 2, []),
  (8, .dup, 9, 0, 0, []),
  (9, .invokespecial 9, 12, 19, 0, []),
  (12, .putfield 10, 15, 7, 0, []),
  (15, .aload_n 0, 16, 0, 0, []),
  (16, .new 16, 19, 0, 2, []),
  (19, .dup, 20, 0, 0, []),
  (20, .invokespecial 18, 23, 1, 0, []),
  (23, .putfield 19, 26, 7, 1, []),
  (26, .aload_n 0, 27, 0, 0, []),
  (27, .new 23, 30, 2, 2, []),
  (30, .dup, 31, 0, 0, []),
  (31, .invokespecial 25, 34, 10, 0, []),
  (34, .putfield 26, 37, 7, 2, []),
  (37, .aload_n 0, 38, 0, 0, []),
  (38, .new 30, 41, 6, 11, []),
  (41, .dup, 42, 0, 0, []),
  (42, .aload_n 0, 43, 0, 0, []),
  (43, .getfield 19, 46, 7, 1, []),
  (46, .getfield 32, 49, 0, 1, []),
  (49, .aload_n 0, 50, 0, 0, []),
  (50, .getfield 26, 53, 7, 2, []),
  (53, .invokespecial 36, 56, 34, 2, []),
  (56, .putfield 39, 59, 7, 3, []),
  (59, .aload_n 0, 60, 0, 0, []),
  (60, .new 30, 63, 6, 11, []),
  (63, .dup, 64, 0, 0, []),
  (64, .aload_n 0, 65, 0, 0, []),
  (65, .getfield 19, 68, 7, 1, []),
  (68, .getfield 32, 71, 0, 1, []),
  (71, .aload_n 0, 72, 0, 0, []),
  (72, .getfield 26, 75, 7, 2, []),
  (75, .invokespecial 36, 78, 34, 2, []),
  (78, .putfield 43, 81, 7, 4, []),
  (81, .aload_n 0, 82, 0, 0, []),
  (82, .bipush 40, 84, 0, 0, []),
  (84, .putfield 46, 87, 7, 5, []),
  (87, .return_, 88, 0, 0, [])]
def zc46 : List (Nat × zm_E) := [(0, .iload_n 3, 1, 0, 0, []),
  (1, .iconst 1, 2, 0, 0, []),
  (2, .if_icmp .lt 20, 5, 22, 0, []),
  (5, .iload_n 3, 6, 0, 0, []),
  (6, .bipush 8, 8, 0, 0, []),
  (8, .if_icmp .gt 14, 11, 22, 0, []),
  (11, .aload_n 0, 12, 0, 0, []),
  (12, .getfield 10, 15, 7, 0, []),
  (15, .iload_n 3, 16, 0, 0, []),
  (16, .invokevirtual 50, 19, 20, 1, []),
  (19, .ifCond .ne 5, 22, 24, 0, []),
  (22, .iconst (-1), 23, 0, 0, []),
  (23, .ireturn, 24, 0, 0, []),
  (24, .iload_n 3, 25, 0, 0, []),
  (25, .iconst 1, 26, 0, 0, []),
  (26, .isub, 27, 0, 0, []),
  (27, .istore 4, 29, 0, 0, []),
  (29, .iload 4, 31, 0, 0, []),
  (31, .ifCond .lt 25, 34, 56, 0, []),
  (34, .aload_n 0, 35, 0, 0, []),
  (35, .getfield 10, 38, 7, 0, []),
  (38, .lload_n 1, 39, 0, 0, []),
  (39, .bipush 8, 41, 0, 0, []),
  (41, .iload 4, 43, 0, 0, []),
  (43, .imul, 44, 0, 0, []),
  (44, .lushr, 45, 0, 0, []),
  (45, .l2i, 46, 0, 0, []),
  (46, .i2b, 47, 0, 0, []),
  (47, .invokevirtual 54, 50, 21, 1, []),
  (50, .iinc 4 (-1), 53, 0, 0, []),
  (53, .goto (-24), 56, 29, 0, []),
  (56, .aload_n 0, 57, 0, 0, []),
  (57, .getfield 10, 60, 7, 0, []),
  (60, .getfield 58, 63, 4, 1, []),
  (63, .ireturn, 64, 0, 0, [])]
def zc47 : List (Nat × zm_E) := [(0, .iload_n 1, 1, 0, 0, []),
  (1, .ifCond .lt 33, 4, 34, 0, []),
  (4, .iload_n 1, 5, 0, 0, []),
  (5, .sipush 255, 8, 0, 0, []),
  (8, .if_icmp .gt 26, 11, 34, 0, []),
  (11, .iload_n 2, 12, 0, 0, []),
  (12, .iconst 1, 13, 0, 0, []),
  (13, .if_icmp .lt 21, 16, 34, 0, []),
  (16, .iload_n 2, 17, 0, 0, []),
  (17, .sipush 1200, 20, 0, 0, []),
  (20, .if_icmp .gt 14, 23, 34, 0, []),
  (23, .aload_n 0, 24, 0, 0, []),
  (24, .getfield 10, 27, 7, 0, []),
  (27, .iload_n 2, 28, 0, 0, []),
  (28, .invokevirtual 50, 31, 20, 1, []),
  (31, .ifCond .ne 5, 34, 36, 0, []),
  (34, .iconst (-1), 35, 0, 0, []),
  (35, .ireturn, 36, 0, 0, []),
  (36, .iconst 0, 37, 0, 0, []),
  (37, .istore_n 3, 38, 0, 0, []),
  (38, .iload_n 3, 39, 0, 0, []),
  (39, .iload_n 2, 40, 0, 0, []),
  (40, .if_icmp .ge 18, 43, 58, 0, []),
  (43, .aload_n 0, 44, 0, 0, []),
  (44, .getfield 10, 47, 7, 0, []),
  (47, .iload_n 1, 48, 0, 0, []),
  (48, .i2b, 49, 0, 0, []),
  (49, .invokevirtual 54, 52, 21, 1, []),
  (52, .iinc 3 1, 55, 0, 0, []),
  (55, .goto (-17), 58, 38, 0, []),
  (58, .aload_n 0, 59, 0, 0, []),
  (59, .getfield 10, 62, 7, 0, []),
  (62, .getfield 58, 65, 4, 1, []),
  (65, .ireturn, 66, 0, 0, [])]
def zc48 : List (Nat × zm_E) := [(0, .aload_n 0, 1, 0, 0, []),
  (1, .getfield 19, 4, 7, 1, []),
  (4, .invokevirtual 61, 7, 5, 0, []),
  (7, .istore_n 2, 8, 0, 0, []),
  (8, .iload_n 1, 9, 0, 0, []),
  (9, .sipush 200, 12, 0, 0, []),
  (12, .if_icmp .gt 8, 15, 20, 0, []),
  (15, .iload_n 1, 16, 0, 0, []),
  (16, .iload_n 2, 17, 0, 0, []),
  (17, .if_icmp .ge 5, 20, 22, 0, []),
  (20, .iconst (-1), 21, 0, 0, []),
  (21, .ireturn, 22, 0, 0, []),
  (22, .aload_n 0, 23, 0, 0, []),
  (23, .iload_n 1, 24, 0, 0, []),
  (24, .putfield 46, 27, 7, 5, []),
  (27, .iload_n 1, 28, 0, 0, []),
  (28, .iload_n 2, 29, 0, 0, []),
  (29, .isub, 30, 0, 0, []),
  (30, .ireturn, 31, 0, 0, [])]
def zc49 : List (Nat × zm_E) := [(0, .aload_n 0, 1, 0, 0, []),
  (1, .invokevirtual 65, 4, 62, 0, []),
  (4, .istore_n 2, 5, 0, 0, []),
  (5, .iload_n 1, 6, 0, 0, []),
  (6, .iconst 1, 7, 0, 0, []),
  (7, .if_icmp .eq 10, 10, 17, 0, []),
  (10, .iload_n 1, 11, 0, 0, []),
  (11, .iconst 2, 12, 0, 0, []),
  (12, .if_icmp .eq 5, 15, 17, 0, []),
  (15, .iconst (-1), 16, 0, 0, []),
  (16, .ireturn, 17, 0, 0, []),
  (17, .iload_n 2, 18, 0, 0, []),
  (18, .ifCond .eq 5, 21, 23, 0, []),
  (21, .iload_n 2, 22, 0, 0, []),
  (22, .ireturn, 23, 0, 0, []),
  (23, .aload_n 0, 24, 0, 0, []),
  (24, .getfield 39, 27, 7, 3, []),
  (27, .getfield 68, 30, 6, 10, []),
  (30, .ifnull 6, 33, 36, 0, []),
  (33, .bipush (-3), 35, 0, 0, []),
  (35, .ireturn, 36, 0, 0, []),
  (36, .aload_n 0, 37, 0, 0, []),
  (37, .getfield 19, 40, 7, 1, []),
  (40, .invokevirtual 71, 43, 3, 0, []),
  (43, .astore_n 3, 44, 0, 0, []),
  (44, .aload_n 3, 45, 0, 0, []),
  (45, .ifnull 18, 48, 63, 0, []),
  (48, .aload_n 0, 49, 0, 0, []),
  (49, .aload_n 0, 50, 0, 0, []),
  (50, .getfield 39, 53, 7, 3, []),
  (53, .getfield 75, 56, 6, 8, []),
  (56, .iconst 1, 57, 0, 0, []),
  (57, .invokevirtual 78, 60, 64, 2, []),
  (60, .ifCond .eq 6, 63, 66, 0, []),
  (63, .bipush (-7), 65, 0, 0, []),
  (65, .ireturn, 66, 0, 0, []),
  (66, .aload_n 3, 67, 0, 0, []),
  (67, .iload_n 1, 68, 0, 0, []),
  (68, .invokevirtual 82, 71, 27, 1, []),
  (71, .aload_n 0, 72, 0, 0, []),
  (72, .getfield 26, 75, 7, 2, []),
  (75, .aload_n 3, 76, 0, 0, []),
  (76, .aload_n 0, 77, 0, 0, []),
  (77, .getfield 39, 80, 7, 3, []),
  (80, .invokevirtual 88, 83, 12, 2, []),
  (83, .aload_n 3, 84, 0, 0, []),
  (84, .getfield 92, 87, 5, 0, []),
  (87, .ireturn, 88, 0, 0, [])]
def zc50 : List (Nat × zm_E) := [(0, .aload_n 0, 1, 0, 0, []),
  (1, .iconst 0, 2, 0, 0, []),
  (2, .invokevirtual 95, 5, 63, 1, []),
  (5, .istore_n 1, 6, 0, 0, []),
  (6, .iload_n 1, 7, 0, 0, []),
  (7, .ifCond .eq 5, 10, 12, 0, []),
  (10, .iload_n 1, 11, 0, 0, []),
  (11, .ireturn, 12, 0, 0, []),
  (12, .aload_n 0, 13, 0, 0, []),
  (13, .getfield 39, 16, 7, 3, []),
  (16, .getfield 68, 19, 6, 10, []),
  (19, .astore_n 2, 20, 0, 0, []),
  (20, .aload_n 2, 21, 0, 0, []),
  (21, .ifnonnull 6, 24, 27, 0, []),
  (24, .bipush (-2), 26, 0, 0, []),
  (26, .ireturn, 27, 0, 0, []),
  (27, .aload_n 2, 28, 0, 0, []),
  (28, .getfield 99, 31, 5, 1, []),
  (31, .iconst 2, 32, 0, 0, []),
  (32, .if_icmp .ne 6, 35, 38, 0, []),
  (35, .bipush (-5), 37, 0, 0, []),
  (37, .ireturn, 38, 0, 0, []),
  (38, .aload_n 0, 39, 0, 0, []),
  (39, .getfield 43, 42, 7, 4, []),
  (42, .getfield 68, 45, 6, 10, []),
  (45, .ifnull 6, 48, 51, 0, []),
  (48, .bipush (-3), 50, 0, 0, []),
  (50, .ireturn, 51, 0, 0, []),
  (51, .aload_n 0, 52, 0, 0, []),
  (52, .aload_n 0, 53, 0, 0, []),
  (53, .getfield 43, 56, 7, 4, []),
  (56, .getfield 75, 59, 6, 8, []),
  (59, .iconst 0, 60, 0, 0, []),
  (60, .invokevirtual 78, 63, 64, 2, []),
  (63, .ifCond .eq 6, 66, 69, 0, []),
  (66, .bipush (-7), 68, 0, 0, []),
  (68, .ireturn, 69, 0, 0, []),
  (69, .aload_n 0, 70, 0, 0, []),
  (70, .getfield 26, 73, 7, 2, []),
  (73, .aload_n 2, 74, 0, 0, []),
  (74, .aload_n 0, 75, 0, 0, []),
  (75, .getfield 43, 78, 7, 4, []),
  (78, .invokevirtual 88, 81, 12, 2, []),
  (81, .aload_n 2, 82, 0, 0, []),
  (82, .getfield 92, 85, 5, 0, []),
  (85, .ireturn, 86, 0, 0, [])]
def zc51 : List (Nat × zm_E) := [(0, .aload_n 0, 1, 0, 0, []),
  (1, .getfield 10, 4, 7, 0, []),
  (4, .invokevirtual 102, 7, 22, 0, []),
  (7, .istore_n 1, 8, 0, 0, []),
  (8, .aload_n 0, 9, 0, 0, []),
  (9, .getfield 10, 12, 7, 0, []),
  (12, .iload_n 1, 13, 0, 0, []),
  (13, .invokevirtual 105, 16, 24, 1, []),
  (16, .istore_n 2, 17, 0, 0, []),
  (17, .iload_n 1, 18, 0, 0, []),
  (18, .iload_n 2, 19, 0, 0, []),
  (19, .isub, 20, 0, 0, []),
  (20, .iconst 1, 21, 0, 0, []),
  (21, .isub, 22, 0, 0, []),
  (22, .istore_n 3, 23, 0, 0, []),
  (23, .iload_n 2, 24, 0, 0, []),
  (24, .ifCond .lt 15, 27, 39, 0, []),
  (27, .iload_n 3, 28, 0, 0, []),
  (28, .iconst 1, 29, 0, 0, []),
  (29, .if_icmp .lt 10, 32, 39, 0, []),
  (32, .iload_n 3, 33, 0, 0, []),
  (33, .sipush 1000, 36, 0, 0, []),
  (36, .if_icmp .le 5, 39, 41, 0, []),
  (39, .iconst (-1), 40, 0, 0, []),
  (40, .ireturn, 41, 0, 0, []),
  (41, .aload_n 0, 42, 0, 0, []),
  (42, .getfield 39, 45, 7, 3, []),
  (45, .aload_n 0, 46, 0, 0, []),
  (46, .getfield 10, 49, 7, 0, []),
  (49, .getfield 109, 52, 4, 0, []),
  (52, .iconst 0, 53, 0, 0, []),
  (53, .iload_n 2, 54, 0, 0, []),
  (54, .invokevirtual 113, 57, 35, 3, []),
  (57, .istore 4, 59, 0, 0, []),
  (59, .iload 4, 61, 0, 0, []),
  (61, .ifCond .eq 6, 64, 67, 0, []),
  (64, .iload 4, 66, 0, 0, []),
  (66, .ireturn, 67, 0, 0, []),
  (67, .aload_n 0, 68, 0, 0, []),
  (68, .getfield 39, 71, 7, 3, []),
  (71, .getfield 68, 74, 6, 10, []),
  (74, .ifnull 6, 77, 80, 0, []),
  (77, .bipush (-3), 79, 0, 0, []),
  (79, .ireturn, 80, 0, 0, []),
  (80, .aload_n 0, 81, 0, 0, []),
  (81, .getfield 19, 84, 7, 1, []),
  (84, .invokevirtual 71, 87, 3, 0, []),
  (87, .astore 5, 89, 0, 0, []),
  (89, .aload 5, 91, 0, 0, []),
  (91, .ifnull 21, 94, 112, 0, []),
  (94, .aload_n 0, 95, 0, 0, []),
  (95, .aload_n 0, 96, 0, 0, []),
  (96, .getfield 39, 99, 7, 3, []),
  (99, .getfield 75, 102, 6, 8, []),
  (102, .iload_n 3, 103, 0, 0, []),
  (103, .invokestatic 117, 106, 70, 1, []),
  (106, .invokevirtual 78, 109, 64, 2, []),
  (109, .ifCond .eq 6, 112, 115, 0, []),
  (112, .bipush (-7), 114, 0, 0, []),
  (114, .ireturn, 115, 0, 0, []),
  (115, .aload 5, 117, 0, 0, []),
  (117, .iconst 3, 118, 0, 0, []),
  (118, .invokevirtual 82, 121, 27, 1, []),
  (121, .aload 5, 123, 0, 0, []),
  (123, .aload_n 0, 124, 0, 0, []),
  (124, .getfield 10, 127, 7, 0, []),
  (127, .getfield 109, 130, 4, 0, []),
  (130, .iload_n 2, 131, 0, 0, []),
  (131, .iconst 1, 132, 0, 0, []),
  (132, .iadd, 133, 0, 0, []),
  (133, .iload_n 3, 134, 0, 0, []),
  (134, .invokevirtual 120, 137, 28, 3, []),
  (137, .aload_n 0, 138, 0, 0, []),
  (138, .getfield 26, 141, 7, 2, []),
  (141, .aload 5, 143, 0, 0, []),
  (143, .aload_n 0, 144, 0, 0, []),
  (144, .getfield 39, 147, 7, 3, []),
  (147, .invokevirtual 88, 150, 12, 2, []),
  (150, .aload 5, 152, 0, 0, []),
  (152, .getfield 92, 155, 5, 0, []),
  (155, .ireturn, 156, 0, 0, [])]
def zc52 : List (Nat × zm_E) := [(0, .aload_n 0, 1, 0, 0, []),
  (1, .invokevirtual 65, 4, 62, 0, []),
  (4, .istore_n 1, 5, 0, 0, []),
  (5, .iload_n 1, 6, 0, 0, []),
  (6, .ifCond .eq 5, 9, 11, 0, []),
  (9, .iload_n 1, 10, 0, 0, []),
  (10, .ireturn, 11, 0, 0, []),
  (11, .aload_n 0, 12, 0, 0, []),
  (12, .getfield 39, 15, 7, 3, []),
  (15, .getfield 68, 18, 6, 10, []),
  (18, .astore_n 2, 19, 0, 0, []),
  (19, .aload_n 2, 20, 0, 0, []),
  (20, .ifnonnull 6, 23, 26, 0, []),
  (23, .bipush (-2), 25, 0, 0, []),
  (25, .ireturn, 26, 0, 0, []),
  (26, .aload_n 2, 27, 0, 0, []),
  (27, .getfield 99, 30, 5, 1, []),
  (30, .iconst 2, 31, 0, 0, []),
  (31, .if_icmp .ne 6, 34, 37, 0, []),
  (34, .bipush (-5), 36, 0, 0, []),
  (36, .ireturn, 37, 0, 0, []),
  (37, .aload_n 0, 38, 0, 0, []),
  (38, .aload_n 0, 39, 0, 0, []),
  (39, .getfield 39, 42, 7, 3, []),
  (42, .getfield 124, 45, 6, 9, []),
  (45, .invokevirtual 128, 48, 69, 1, []),
  (48, .aload_n 2, 49, 0, 0, []),
  (49, .getfield 92, 52, 5, 0, []),
  (52, .ireturn, 53, 0, 0, [])]
def zc53 : List (Nat × zm_E) := [(0, .aload_n 0, 1, 0, 0, []),
  (1, .invokevirtual 65, 4, 62, 0, []),
  (4, .istore_n 1, 5, 0, 0, []),
  (5, .iload_n 1, 6, 0, 0, []),
  (6, .ifCond .eq 5, 9, 11, 0, []),
  (9, .iload_n 1, 10, 0, 0, []),
  (10, .ireturn, 11, 0, 0, []),
  (11, .aload_n 0, 12, 0, 0, []),
  (12, .getfield 39, 15, 7, 3, []),
  (15, .getfield 68, 18, 6, 10, []),
  (18, .astore_n 2, 19, 0, 0, []),
  (19, .aload_n 2, 20, 0, 0, []),
  (20, .ifnonnull 6, 23, 26, 0, []),
  (23, .bipush (-2), 25, 0, 0, []),
  (25, .ireturn, 26, 0, 0, []),
  (26, .aload_n 2, 27, 0, 0, []),
  (27, .getfield 99, 30, 5, 1, []),
  (30, .iconst 2, 31, 0, 0, []),
  (31, .if_icmp .eq 6, 34, 37, 0, []),
  (34, .bipush (-4), 36, 0, 0, []),
  (36, .ireturn, 37, 0, 0, []),
  (37, .aload_n 2, 38, 0, 0, []),
  (38, .getfield 132, 41, 5, 4, []),
  (41, .ifCond .le 6, 44, 47, 0, []),
  (44, .bipush (-6), 46, 0, 0, []),
  (46, .ireturn, 47, 0, 0, []),
  (47, .aload_n 0, 48, 0, 0, []),
  (48, .aload_n 0, 49, 0, 0, []),
  (49, .getfield 39, 52, 7, 3, []),
  (52, .getfield 124, 55, 6, 9, []),
  (55, .invokevirtual 128, 58, 69, 1, []),
  (58, .aload_n 2, 59, 0, 0, []),
  (59, .getfield 92, 62, 5, 0, []),
  (62, .ireturn, 63, 0, 0, [])]
def zc54 : List (Nat × zm_E) := [(0, .aload_n 0, 1, 0, 0, []),
  (1, .iconst 1, 2, 0, 0, []),
  (2, .invokevirtual 95, 5, 63, 1, []),
  (5, .istore_n 1, 6, 0, 0, []),
  (6, .iload_n 1, 7, 0, 0, []),
  (7, .ifCond .eq 5, 10, 12, 0, []),
  (10, .iload_n 1, 11, 0, 0, []),
  (11, .ireturn, 12, 0, 0, []),
  (12, .aload_n 0, 13, 0, 0, []),
  (13, .getfield 39, 16, 7, 3, []),
  (16, .getfield 68, 19, 6, 10, []),
  (19, .astore_n 2, 20, 0, 0, []),
  (20, .aload_n 2, 21, 0, 0, []),
  (21, .ifnonnull 6, 24, 27, 0, []),
  (24, .bipush (-2), 26, 0, 0, []),
  (26, .ireturn, 27, 0, 0, []),
  (27, .aload_n 0, 28, 0, 0, []),
  (28, .getfield 43, 31, 7, 4, []),
  (31, .getfield 68, 34, 6, 10, []),
  (34, .astore_n 3, 35, 0, 0, []),
  (35, .aload_n 3, 36, 0, 0, []),
  (36, .aload_n 2, 37, 0, 0, []),
  (37, .if_acmp .ne 8, 40, 45, 0, []),
  (40, .aload_n 2, 41, 0, 0, []),
  (41, .getfield 92, 44, 5, 0, []),
  (44, .ireturn, 45, 0, 0, []),
  (45, .aload_n 2, 46, 0, 0, []),
  (46, .getfield 99, 49, 5, 1, []),
  (49, .iconst 2, 50, 0, 0, []),
  (50, .if_icmp .ne 20, 53, 70, 0, []),
  (53, .aload_n 0, 54, 0, 0, []),
  (54, .getfield 43, 57, 7, 4, []),
  (57, .getfield 75, 60, 6, 8, []),
  (60, .aload_n 2, 61, 0, 0, []),
  (61, .invokestatic 135, 64, 68, 2, []),
  (64, .ifCond .eq 6, 67, 70, 0, []),
  (67, .bipush (-10), 69, 0, 0, []),
  (69, .ireturn, 70, 0, 0, []),
  (70, .aload_n 3, 71, 0, 0, []),
  (71, .ifnonnull 10, 74, 81, 0, []),
  (74, .aload_n 0, 75, 0, 0, []),
  (75, .invokevirtual 139, 78, 66, 0, []),
  (78, .goto 8, 81, 86, 0, []),
  (81, .aload_n 2, 82, 0, 0, []),
  (82, .aload_n 3, 83, 0, 0, []),
  (83, .invokestatic 142, 86, 67, 2, []),
  (86, .istore_n 1, 87, 0, 0, []),
  (87, .iload_n 1, 88, 0, 0, []),
  (88, .ifCond .eq 5, 91, 93, 0, []),
  (91, .iload_n 1, 92, 0, 0, []),
  (92, .ireturn, 93, 0, 0, []),
  (93, .aload_n 0, 94, 0, 0, []),
  (94, .aload_n 0, 95, 0, 0, []),
  (95, .getfield 43, 98, 7, 4, []),
  (98, .getfield 124, 101, 6, 9, []),
  (101, .invokevirtual 128, 104, 69, 1, []),
  (104, .aload_n 0, 105, 0, 0, []),
  (105, .getfield 26, 108, 7, 2, []),
  (108, .aload_n 0, 109, 0, 0, []),
  (109, .getfield 39, 112, 7, 3, []),
  (112, .getfield 124, 115, 6, 9, []),
  (115, .invokevirtual 146, 118, 13, 1, []),
  (118, .aload_n 0, 119, 0, 0, []),
  (119, .getfield 26, 122, 7, 2, []),
  (122, .aload_n 2, 123, 0, 0, []),
  (123, .aload_n 0, 124, 0, 0, []),
  (124, .getfield 43, 127, 7, 4, []),
  (127, .invokevirtual 88, 130, 12, 2, []),
  (130, .aload_n 2, 131, 0, 0, []),
  (131, .getfield 92, 134, 5, 0, []),
  (134, .ireturn, 135, 0, 0, [])]
def zc55 : List (Nat × zm_E) := [(0, .aload_n 0, 1, 0, 0, []),
  (1, .iload_n 1, 2, 0, 0, []),
  (2, .invokevirtual 149, 5, 61, 1, []),
  (5, .istore_n 2, 6, 0, 0, []),
  (6, .iload_n 2, 7, 0, 0, []),
  (7, .ifCond .eq 5, 10, 12, 0, []),
  (10, .iload_n 2, 11, 0, 0, []),
  (11, .ireturn, 12, 0, 0, []),
  (12, .aload_n 0, 13, 0, 0, []),
  (13, .getfield 39, 16, 7, 3, []),
  (16, .getfield 68, 19, 6, 10, []),
  (19, .ifnonnull 8, 22, 27, 0, []),
  (22, .bipush (-2), 24, 0, 0, []),
  (24, .goto 13, 27, 37, 0, []),
  (27, .aload_n 0, 28, 0, 0, []),
  (28, .getfield 39, 31, 7, 3, []),
  (31, .getfield 68, 34, 6, 10, []),
  (34, .getfield 92, 37, 5, 0, []),
  (37, .ireturn, 38, 0, 0, [])]
def zc56 : List (Nat × zm_E) := [(0, .aload_n 0, 1, 0, 0, []),
  (1, .iconst 1, 2, 0, 0, []),
  (2, .invokevirtual 149, 5, 61, 1, []),
  (5, .istore_n 1, 6, 0, 0, []),
  (6, .iload_n 1, 7, 0, 0, []),
  (7, .ifCond .eq 5, 10, 12, 0, []),
  (10, .iload_n 1, 11, 0, 0, []),
  (11, .ireturn, 12, 0, 0, []),
  (12, .aload_n 0, 13, 0, 0, []),
  (13, .getfield 39, 16, 7, 3, []),
  (16, .getfield 68, 19, 6, 10, []),
  (19, .astore_n 2, 20, 0, 0, []),
  (20, .aload_n 2, 21, 0, 0, []),
  (21, .ifnonnull 6, 24, 27, 0, []),
  (24, .bipush (-2), 26, 0, 0, []),
  (26, .ireturn, 27, 0, 0, []),
  (27, .aload_n 2, 28, 0, 0, []),
  (28, .getfield 99, 31, 5, 1, []),
  (31, .iconst 1, 32, 0, 0, []),
  (32, .if_icmp .ne 12, 35, 44, 0, []),
  (35, .aload_n 2, 36, 0, 0, []),
  (36, .getfield 152, 39, 5, 3, []),
  (39, .bipush 100, 41, 0, 0, []),
  (41, .if_icmp .lt 5, 44, 46, 0, []),
  (44, .iconst (-1), 45, 0, 0, []),
  (45, .ireturn, 46, 0, 0, []),
  (46, .aload_n 2, 47, 0, 0, []),
  (47, .dup, 48, 0, 0, []),
  (48, .getfield 152, 51, 5, 3, []),
  (51, .iconst 1, 52, 0, 0, []),
  (52, .iadd, 53, 0, 0, []),
  (53, .putfield 152, 56, 5, 3, []),
  (56, .aload_n 2, 57, 0, 0, []),
  (57, .getfield 92, 60, 5, 0, []),
  (60, .ireturn, 61, 0, 0, [])]
def zc57 : List (Nat × zm_E) := [(0, .aload_n 0, 1, 0, 0, []),
  (1, .getfield 19, 4, 7, 1, []),
  (4, .iload_n 1, 5, 0, 0, []),
  (5, .invokevirtual 155, 8, 2, 1, []),
  (8, .astore_n 2, 9, 0, 0, []),
  (9, .aload_n 2, 10, 0, 0, []),
  (10, .ifnull 11, 13, 21, 0, []),
  (13, .aload_n 2, 14, 0, 0, []),
  (14, .getfield 152, 17, 5, 3, []),
  (17, .iconst 1, 18, 0, 0, []),
  (18, .if_icmp .ge 5, 21, 23, 0, []),
  (21, .iconst (-1), 22, 0, 0, []),
  (22, .ireturn, 23, 0, 0, []),
  (23, .aload_n 2, 24, 0, 0, []),
  (24, .dup, 25, 0, 0, []),
  (25, .getfield 152, 28, 5, 3, []),
  (28, .iconst 1, 29, 0, 0, []),
  (29, .isub, 30, 0, 0, []),
  (30, .putfield 152, 33, 5, 3, []),
  (33, .aload_n 2, 34, 0, 0, []),
  (34, .getfield 159, 37, 5, 2, []),
  (37, .istore_n 3, 38, 0, 0, []),
  (38, .aload_n 2, 39, 0, 0, []),
  (39, .invokevirtual 161, 42, 33, 0, []),
  (42, .iload_n 3, 43, 0, 0, []),
  (43, .ireturn, 44, 0, 0, [])]
def zc58 : List (Nat × zm_E) := [(0, .aload_n 0, 1, 0, 0, []),
  (1, .getfield 19, 4, 7, 1, []),
  (4, .iload_n 1, 5, 0, 0, []),
  (5, .invokevirtual 155, 8, 2, 1, []),
  (8, .astore_n 3, 9, 0, 0, []),
  (9, .aload_n 3, 10, 0, 0, []),
  (10, .ifnonnull 5, 13, 15, 0, []),
  (13, .iconst (-1), 14, 0, 0, []),
  (14, .ireturn, 15, 0, 0, []),
  (15, .iload_n 2, 16, 0, 0, []),
  (16, .tableswitch 96 0 4 #[36, 41, 67, 72, 77], 52, 112, 0, [(0, 52), (1, 57), (2, 83), (3, 88), (4, 93)]),
  (52, .aload_n 3, 53, 0, 0, []),
  (53, .getfield 99, 56, 5, 1, []),
  (56, .ireturn, 57, 0, 0, []),
  (57, .aload_n 3, 58, 0, 0, []),
  (58, .getfield 99, 61, 5, 1, []),
  (61, .iconst 2, 62, 0, 0, []),
  (62, .if_icmp .ne 16, 65, 78, 0, []),
  (65, .iconst 2, 66, 0, 0, []),
  (66, .aload_n 0, 67, 0, 0, []),
  (67, .getfield 19, 70, 7, 1, []),
  (70, .aload_n 3, 71, 0, 0, []),
  (71, .invokevirtual 164, 74, 6, 1, []),
  (74, .iadd, 75, 0, 0, []),
  (75, .goto 7, 78, 82, 0, []),
  (78, .aload_n 3, 79, 0, 0, []),
  (79, .getfield 159, 82, 5, 2, []),
  (82, .ireturn, 83, 0, 0, []),
  (83, .aload_n 3, 84, 0, 0, []),
  (84, .invokevirtual 168, 87, 32, 0, []),
  (87, .ireturn, 88, 0, 0, []),
  (88, .aload_n 3, 89, 0, 0, []),
  (89, .invokevirtual 171, 92, 30, 0, []),
  (92, .ireturn, 93, 0, 0, []),
  (93, .aload_n 3, 94, 0, 0, []),
  (94, .getfield 174, 97, 5, 6, []),
  (97, .ifnonnull 7, 100, 104, 0, []),
  (100, .iconst 0, 101, 0, 0, []),
  (101, .goto 10, 104, 111, 0, []),
  (104, .aload_n 3, 105, 0, 0, []),
  (105, .getfield 174, 108, 5, 6, []),
  (108, .getfield 92, 111, 5, 0, []),
  (111, .ireturn, 112, 0, 0, []),
  (112, .iconst (-1), 113, 0, 0, []),
  (113, .ireturn, 114, 0, 0, [])]
def zc59 : List (Nat × zm_E) := [(0, .aload_n 0, 1, 0, 0, []),
  (1, .getfield 19, 4, 7, 1, []),
  (4, .iload_n 1, 5, 0, 0, []),
  (5, .invokevirtual 155, 8, 2, 1, []),
  (8, .astore_n 3, 9, 0, 0, []),
  (9, .aload_n 3, 10, 0, 0, []),
  (10, .ifnonnull 7, 13, 17, 0, []),
  (13, .iconst (-1), 14, 0, 0, []),
  (14, .goto 8, 17, 22, 0, []),
  (17, .aload_n 3, 18, 0, 0, []),
  (18, .iload_n 2, 19, 0, 0, []),
  (19, .invokevirtual 177, 22, 29, 1, []),
  (22, .ireturn, 23, 0, 0, [])]
def zc60 : List (Nat × zm_E) := [(0, .iload_n 1, 1, 0, 0, []),
  (1, .tableswitch 63 0 3 #[31, 39, 47, 55], 32, 64, 0, [(0, 32), (1, 40), (2, 48), (3, 56)]),
  (32, .aload_n 0, 33, 0, 0, []),
  (33, .getfield 19, 36, 7, 1, []),
  (36, .invokevirtual 180, 39, 4, 0, []),
  (39, .ireturn, 40, 0, 0, []),
  (40, .aload_n 0, 41, 0, 0, []),
  (41, .getfield 26, 44, 7, 2, []),
  (44, .getfield 183, 47, 2, 1, []),
  (47, .ireturn, 48, 0, 0, []),
  (48, .aload_n 0, 49, 0, 0, []),
  (49, .getfield 10, 52, 7, 0, []),
  (52, .getfield 58, 55, 4, 1, []),
  (55, .ireturn, 56, 0, 0, []),
  (56, .aload_n 0, 57, 0, 0, []),
  (57, .getfield 19, 60, 7, 1, []),
  (60, .invokevirtual 61, 63, 5, 0, []),
  (63, .ireturn, 64, 0, 0, []),
  (64, .iconst (-1), 65, 0, 0, []),
  (65, .ireturn, 66, 0, 0, [])]
def zc61 : List (Nat × zm_E) := [(0, .aload_n 0, 1, 0, 0, []),
  (1, .getfield 10, 4, 7, 0, []),
  (4, .invokevirtual 102, 7, 22, 0, []),
  (7, .istore_n 2, 8, 0, 0, []),
  (8, .aload_n 0, 9, 0, 0, []),
  (9, .getfield 10, 12, 7, 0, []),
  (12, .iload_n 2, 13, 0, 0, []),
  (13, .invokevirtual 186, 16, 23, 1, []),
  (16, .ifCond .eq 7, 19, 23, 0, []),
  (19, .iconst (-1), 20, 0, 0, []),
  (20, .goto 20, 23, 40, 0, []),
  (23, .aload_n 0, 24, 0, 0, []),
  (24, .getfield 39, 27, 7, 3, []),
  (27, .aload_n 0, 28, 0, 0, []),
  (28, .getfield 10, 31, 7, 0, []),
  (31, .getfield 109, 34, 4, 0, []),
  (34, .iconst 0, 35, 0, 0, []),
  (35, .iload_n 2, 36, 0, 0, []),
  (36, .iload_n 1, 37, 0, 0, []),
  (37, .invokevirtual 189, 40, 36, 4, []),
  (40, .ireturn, 41, 0, 0, [])]
def zc62 : List (Nat × zm_E) := [(0, .aload_n 0, 1, 0, 0, []),
  (1, .getfield 10, 4, 7, 0, []),
  (4, .invokevirtual 102, 7, 22, 0, []),
  (7, .istore_n 1, 8, 0, 0, []),
  (8, .aload_n 0, 9, 0, 0, []),
  (9, .getfield 10, 12, 7, 0, []),
  (12, .iload_n 1, 13, 0, 0, []),
  (13, .invokevirtual 186, 16, 23, 1, []),
  (16, .ifCond .eq 7, 19, 23, 0, []),
  (19, .iconst (-1), 20, 0, 0, []),
  (20, .goto 19, 23, 39, 0, []),
  (23, .aload_n 0, 24, 0, 0, []),
  (24, .getfield 39, 27, 7, 3, []),
  (27, .aload_n 0, 28, 0, 0, []),
  (28, .getfield 10, 31, 7, 0, []),
  (31, .getfield 109, 34, 4, 0, []),
  (34, .iconst 0, 35, 0, 0, []),
  (35, .iload_n 1, 36, 0, 0, []),
  (36, .invokevirtual 113, 39, 35, 3, []),
  (39, .ireturn, 40, 0, 0, [])]
def zc63 : List (Nat × zm_E) := [(0, .aload_n 0, 1, 0, 0, []),
  (1, .getfield 10, 4, 7, 0, []),
  (4, .invokevirtual 102, 7, 22, 0, []),
  (7, .istore_n 2, 8, 0, 0, []),
  (8, .aload_n 0, 9, 0, 0, []),
  (9, .getfield 10, 12, 7, 0, []),
  (12, .iload_n 2, 13, 0, 0, []),
  (13, .invokevirtual 105, 16, 24, 1, []),
  (16, .istore_n 3, 17, 0, 0, []),
  (17, .iload_n 3, 18, 0, 0, []),
  (18, .ifCond .ge 5, 21, 23, 0, []),
  (21, .iconst (-1), 22, 0, 0, []),
  (22, .ireturn, 23, 0, 0, []),
  (23, .iload_n 1, 24, 0, 0, []),
  (24, .ifCond .eq 22, 27, 46, 0, []),
  (27, .aload_n 0, 28, 0, 0, []),
  (28, .getfield 39, 31, 7, 3, []),
  (31, .aload_n 0, 32, 0, 0, []),
  (32, .getfield 10, 35, 7, 0, []),
  (35, .getfield 109, 38, 4, 0, []),
  (38, .iconst 0, 39, 0, 0, []),
  (39, .iload_n 3, 40, 0, 0, []),
  (40, .invokevirtual 113, 43, 35, 3, []),
  (43, .goto 20, 46, 63, 0, []),
  (46, .aload_n 0, 47, 0, 0, []),
  (47, .getfield 39, 50, 7, 3, []),
  (50, .aload_n 0, 51, 0, 0, []),
  (51, .getfield 10, 54, 7, 0, []),
  (54, .getfield 109, 57, 4, 0, []),
  (57, .iconst 0, 58, 0, 0, []),
  (58, .iload_n 3, 59, 0, 0, []),
  (59, .iconst 0, 60, 0, 0, []),
  (60, .invokevirtual 189, 63, 36, 4, []),
  (63, .istore 4, 65, 0, 0, []),
  (65, .iload 4, 67, 0, 0, []),
  (67, .ifCond .eq 8, 70, 75, 0, []),
  (70, .iload 4, 72, 0, 0, []),
  (72, .goto 21, 75, 93, 0, []),
  (75, .aload_n 0, 76, 0, 0, []),
  (76, .getfield 43, 79, 7, 4, []),
  (79, .aload_n 0, 80, 0, 0, []),
  (80, .getfield 10, 83, 7, 0, []),
  (83, .getfield 109, 86, 4, 0, []),
  (86, .iload_n 3, 87, 0, 0, []),
  (87, .iconst 1, 88, 0, 0, []),
  (88, .iadd, 89, 0, 0, []),
  (89, .iload_n 2, 90, 0, 0, []),
  (90, .invokevirtual 113, 93, 35, 3, []),
  (93, .ireturn, 94, 0, 0, [])]
def zc64 : List (Nat × zm_E) := [(0, .aload_n 0, 1, 0, 0, []),
  (1, .getfield 26, 4, 7, 2, []),
  (4, .getfield 183, 7, 2, 1, []),
  (7, .bipush 60, 9, 0, 0, []),
  (9, .if_icmp .ge 12, 12, 21, 0, []),
  (12, .aload_n 0, 13, 0, 0, []),
  (13, .aload_n 1, 14, 0, 0, []),
  (14, .iload_n 2, 15, 0, 0, []),
  (15, .invokevirtual 193, 18, 65, 2, []),
  (18, .ifCond .eq 7, 21, 25, 0, []),
  (21, .iconst 1, 22, 0, 0, []),
  (22, .goto 4, 25, 26, 0, []),
  (25, .iconst 0, 26, 0, 0, []),
  (26, .ireturn, 27, 0, 0, [])]
def zc65 : List (Nat × zm_E) := [(0, .aload_n 1, 1, 0, 0, []),
  (1, .ifnonnull 7, 4, 8, 0, []),
  (4, .iconst 0, 5, 0, 0, []),
  (5, .goto 7, 8, 12, 0, []),
  (8, .aload_n 1, 9, 0, 0, []),
  (9, .invokevirtual 196, 12, 31, 0, []),
  (12, .istore_n 3, 13, 0, 0, []),
  (13, .aload_n 0, 14, 0, 0, []),
  (14, .getfield 19, 17, 7, 1, []),
  (17, .invokevirtual 61, 20, 5, 0, []),
  (20, .iload_n 2, 21, 0, 0, []),
  (21, .iadd, 22, 0, 0, []),
  (22, .iload_n 3, 23, 0, 0, []),
  (23, .iadd, 24, 0, 0, []),
  (24, .aload_n 0, 25, 0, 0, []),
  (25, .getfield 46, 28, 7, 5, []),
  (28, .if_icmp .le 7, 31, 35, 0, []),
  (31, .iconst 1, 32, 0, 0, []),
  (32, .goto 4, 35, 36, 0, []),
  (35, .iconst 0, 36, 0, 0, []),
  (36, .ireturn, 37, 0, 0, [])]
def zc66 : List (Nat × zm_E) := [(0, .aload_n 0, 1, 0, 0, []),
  (1, .getfield 39, 4, 7, 3, []),
  (4, .getfield 75, 7, 6, 8, []),
  (7, .aload_n 0, 8, 0, 0, []),
  (8, .getfield 43, 11, 7, 4, []),
  (11, .getfield 75, 14, 6, 8, []),
  (14, .if_acmp .ne 7, 17, 21, 0, []),
  (17, .iconst 1, 18, 0, 0, []),
  (18, .goto 4, 21, 22, 0, []),
  (21, .iconst 0, 22, 0, 0, []),
  (22, .istore_n 1, 23, 0, 0, []),
  (23, .iload_n 1, 24, 0, 0, []),
  (24, .ifCond .ne 23, 27, 47, 0, []),
  (27, .aload_n 0, 28, 0, 0, []),
  (28, .aload_n 0, 29, 0, 0, []),
  (29, .getfield 43, 32, 7, 4, []),
  (32, .getfield 75, 35, 6, 8, []),
  (35, .iconst 0, 36, 0, 0, []),
  (36, .invokevirtual 193, 39, 65, 2, []),
  (39, .ifCond .eq 8, 42, 47, 0, []),
  (42, .bipush (-7), 44, 0, 0, []),
  (44, .goto 4, 47, 48, 0, []),
  (47, .iconst 0, 48, 0, 0, []),
  (48, .ireturn, 49, 0, 0, [])]
def zc67 : List (Nat × zm_E) := [(0, .aload_n 0, 1, 0, 0, []),
  (1, .getfield 99, 4, 5, 1, []),
  (4, .iconst 2, 5, 0, 0, []),
  (5, .if_icmp .ne 14, 8, 19, 0, []),
  (8, .aload_n 1, 9, 0, 0, []),
  (9, .getfield 99, 12, 5, 1, []),
  (12, .iconst 2, 13, 0, 0, []),
  (13, .if_icmp .eq 6, 16, 19, 0, []),
  (16, .bipush (-4), 18, 0, 0, []),
  (18, .ireturn, 19, 0, 0, []),
  (19, .aload_n 0, 20, 0, 0, []),
  (20, .getfield 99, 23, 5, 1, []),
  (23, .iconst 2, 24, 0, 0, []),
  (24, .if_icmp .eq 14, 27, 38, 0, []),
  (27, .aload_n 1, 28, 0, 0, []),
  (28, .getfield 99, 31, 5, 1, []),
  (31, .iconst 2, 32, 0, 0, []),
  (32, .if_icmp .ne 6, 35, 38, 0, []),
  (35, .bipush (-5), 37, 0, 0, []),
  (37, .ireturn, 38, 0, 0, []),
  (38, .aload_n 1, 39, 0, 0, []),
  (39, .getfield 132, 42, 5, 4, []),
  (42, .ifCond .le 8, 45, 50, 0, []),
  (45, .bipush (-6), 47, 0, 0, []),
  (47, .goto 4, 50, 51, 0, []),
  (50, .iconst 0, 51, 0, 0, []),
  (51, .ireturn, 52, 0, 0, [])]
def zc68 : List (Nat × zm_E) := [(0, .aload_n 0, 1, 0, 0, []),
  (1, .astore_n 2, 2, 0, 0, []),
  (2, .iconst 0, 3, 0, 0, []),
  (3, .istore_n 3, 4, 0, 0, []),
  (4, .iload_n 3, 5, 0, 0, []),
  (5, .bipush 40, 7, 0, 0, []),
  (7, .if_icmp .ge 25, 10, 32, 0, []),
  (10, .aload_n 2, 11, 0, 0, []),
  (11, .ifnull 21, 14, 32, 0, []),
  (14, .aload_n 2, 15, 0, 0, []),
  (15, .aload_n 1, 16, 0, 0, []),
  (16, .if_acmp .ne 5, 19, 21, 0, []),
  (19, .iconst 1, 20, 0, 0, []),
  (20, .ireturn, 21, 0, 0, []),
  (21, .aload_n 2, 22, 0, 0, []),
  (22, .getfield 174, 25, 5, 6, []),
  (25, .astore_n 2, 26, 0, 0, []),
  (26, .iinc 3 1, 29, 0, 0, []),
  (29, .goto (-25), 32, 4, 0, []),
  (32, .iconst 0, 33, 0, 0, []),
  (33, .ireturn, 34, 0, 0, [])]
def zc69 : List (Nat × zm_E) := [(0, .aload_n 1, 1, 0, 0, []),
  (1, .ifnonnull 4, 4, 5, 0, []),
  (4, .return_, 5, 0, 0, []),
  (5, .aload_n 1, 6, 0, 0, []),
  (6, .getfield 199, 9, 1, 1, []),
  (9, .astore_n 2, 10, 0, 0, []),
  (10, .aload_n 0, 11, 0, 0, []),
  (11, .getfield 26, 14, 7, 2, []),
  (14, .aload_n 1, 15, 0, 0, []),
  (15, .invokevirtual 146, 18, 13, 1, []),
  (18, .aload_n 2, 19, 0, 0, []),
  (19, .ifnull 7, 22, 26, 0, []),
  (22, .aload_n 2, 23, 0, 0, []),
  (23, .invokevirtual 161, 26, 33, 0, []),
  (26, .return_, 27, 0, 0, [])]
def zc70 : List (Nat × zm_E) := [(0, .iload_n 0, 1, 0, 0, []),
  (1, .bipush 59, 3, 0, 0, []),
  (3, .if_icmp .le 7, 6, 10, 0, []),
  (6, .iconst 1, 7, 0, 0, []),
  (7, .goto 4, 10, 11, 0, []),
  (10, .iconst 0, 11, 0, 0, []),
  (11, .ireturn, 12, 0, 0, [])]
def zc71 : List (Nat × zm_E) := [(0, .iload_n 0, 1, 0, 0, []),
  (1, .iconst 3, 2, 0, 0, []),
  (2, .if_icmp .le 7, 5, 9, 0, []),
  (5, .iload_n 0, 6, 0, 0, []),
  (6, .goto 4, 9, 10, 0, []),
  (9, .iconst 1, 10, 0, 0, []),
  (10, .ireturn, 11, 0, 0, [])]
def zc72 : List (Nat × zm_E) := [(0, .aload_n 0, 1, 0, 0, []),
  (1, .ifnull 21, 4, 22, 0, []),
  (4, .aload_n 3, 5, 0, 0, []),
  (5, .ifnull 17, 8, 22, 0, []),
  (8, .iload_n 1, 9, 0, 0, []),
  (9, .ifCond .lt 13, 12, 22, 0, []),
  (12, .iload_n 1, 13, 0, 0, []),
  (13, .aload_n 0, 14, 0, 0, []),
  (14, .arraylength, 15, 0, 0, []),
  (15, .if_icmp .gt 7, 18, 22, 0, []),
  (18, .iload_n 2, 19, 0, 0, []),
  (19, .ifCond .ge 5, 22, 24, 0, []),
  (22, .iconst 0, 23, 0, 0, []),
  (23, .ireturn, 24, 0, 0, []),
  (24, .iload_n 2, 25, 0, 0, []),
  (25, .aload_n 0, 26, 0, 0, []),
  (26, .arraylength, 27, 0, 0, []),
  (27, .iload_n 1, 28, 0, 0, []),
  (28, .isub, 29, 0, 0, []),
  (29, .aload_n 3, 30, 0, 0, []),
  (30, .arraylength, 31, 0, 0, []),
  (31, .invokestatic 204, 34, 1002, 0, []),
  (34, .invokestatic 204, 37, 1002, 0, []),
  (37, .istore 4, 39, 0, 0, []),
  (39, .aload_n 0, 40, 0, 0, []),
  (40, .iload_n 1, 41, 0, 0, []),
  (41, .aload_n 3, 42, 0, 0, []),
  (42, .iconst 0, 43, 0, 0, []),
  (43, .iload 4, 45, 0, 0, []),
  (45, .invokestatic 210, 48, 1003, 0, []),
  (48, .iload 4, 50, 0, 0, []),
  (50, .ireturn, 51, 0, 0, [])]
def zc73 : List (Nat × zm_E) := [(0, .aload_n 0, 1, 0, 0, []),
  (1, .invokespecial 1, 4, 1000, 0, []),
  (4, .aload_n 0, 5, 0, 0, []),
  (5, .bipush 40, 7, 0, 0, []),
  (7, .putfield 7, 10, 8, 0, []),
  (10, .aload_n 0, 11, 0, 0, []),
  (11, .sipush 1200, 14, 0, 0, []),
  (14, .newarray .int, 16, 101, 0, []),
  (16, .putfield 13, 19, 8, 2, []),
  (19, .aload_n 0, 20, 0, 0, []),
  (20, .sipush 1200, 23, 0, 0, []),
  (23, .newarray .int, 25, 101, 0, []),
  (25, .putfield 17, 28, 8, 4, []),
  (28, .aload_n 0, 29, 0, 0, []),
  (29, .bipush 41, 31, 0, 0, []),
  (31, .newarray .int, 33, 101, 0, []),
  (33, .putfield 20, 36, 8, 5, []),
  (36, .aload_n 0, 37, 0, 0, []),
  (37, .bipush 41, 39, 0, 0, []),
  (39, .newarray .int, 41, 101, 0, []),
  (41, .putfield 23, 44, 8, 6, []),
  (44, .aload_n 0, 45, 0, 0, []),
  (45, .bipush 41, 47, 0, 0, []),
  (47, .newarray .int, 49, 101, 0, []),
  (49, .putfield 26, 52, 8, 7, []),
  (52, .aload_n 0, 53, 0, 0, []),
  (53, .bipush 41, 55, 0, 0, []),
  (55, .newarray .int, 57, 101, 0, []),
  (57, .putfield 29, 60, 8, 8, []),
  (60, .aload_n 0, 61, 0, 0, []),
  (61, .ldc 32, 63, 0, 0, [(41000, 0)]),
  (63, .newarray .byte, 65, 100, 0, []),
  (65, .putfield 33, 68, 8, 9, []),
  (68, .aload_n 0, 69, 0, 0, []),
  (69, .bipush 60, 71, 0, 0, []),
  (71, .newarray .int, 73, 101, 0, []),
  (73, .putfield 37, 76, 8, 11, []),
  (76, .aload_n 0, 77, 0, 0, []),
  (77, .bipush 60, 79, 0, 0, []),
  (79, .newarray .int, 81, 101, 0, []),
  (81, .putfield 40, 84, 8, 12, []),
  (84, .aload_n 0, 85, 0, 0, []),
  (85, .bipush 60, 87, 0, 0, []),
  (87, .newarray .int, 89, 101, 0, []),
  (89, .putfield 43, 92, 8, 13, []),
  (92, .aload_n 0, 93, 0, 0, []),
  (93, .sipush 15300, 96, 0, 0, []),
  (96, .newarray .byte, 98, 100, 0, []),
  (98, .putfield 46, 101, 8, 14, []),
  (101, .aload_n 0, 102, 0, 0, []),
  (102, .ldc 49, 104, 0, 0, [(42000, 0)]),
  (104, .newarray .int, 106, 101, 0, []),
  (106, .putfield 50, 109, 8, 15, []),
  (109, .aload_n 0, 110, 0, 0, []),
  (110, .getfield 20, 113, 8, 5, []),
  (113, .iconst 1, 114, 0, 0, []),
  (114, .iconst 2, 115, 0, 0, []),
  (115, .iastore, 116, 0, 0, []),
  (116, .return_, 117, 0, 0, [])]
def zc74 : List (Nat × zm_E) := [(0, .iload_n 3, 1, 0, 0, []),
  (1, .iconst 1, 2, 0, 0, []),
  (2, .if_icmp .lt 21, 5, 23, 0, []),
  (5, .iload_n 3, 6, 0, 0, []),
  (6, .bipush 8, 8, 0, 0, []),
  (8, .if_icmp .gt 15, 11, 23, 0, []),
  (11, .aload_n 0, 12, 0, 0, []),
  (12, .getfield 53, 15, 8, 1, []),
  (15, .iload_n 3, 16, 0, 0, []),
  (16, .iadd, 17, 0, 0, []),
  (17, .sipush 1200, 20, 0, 0, []),
  (20, .if_icmp .le 5, 23, 25, 0, []),
  (23, .iconst (-1), 24, 0, 0, []),
  (24, .ireturn, 25, 0, 0, []),
  (25, .iload_n 3, 26, 0, 0, []),
  (26, .iconst 1, 27, 0, 0, []),
  (27, .isub, 28, 0, 0, []),
  (28, .istore 4, 30, 0, 0, []),
  (30, .iload 4, 32, 0, 0, []),
  (32, .ifCond .lt 40, 35, 72, 0, []),
  (35, .aload_n 0, 36, 0, 0, []),
  (36, .getfield 13, 39, 8, 2, []),
  (39, .aload_n 0, 40, 0, 0, []),
  (40, .getfield 53, 43, 8, 1, []),
  (43, .lload_n 1, 44, 0, 0, []),
  (44, .bipush 8, 46, 0, 0, []),
  (46, .iload 4, 48, 0, 0, []),
  (48, .imul, 49, 0, 0, []),
  (49, .lshr, 50, 0, 0, []),
  (50, .ldc2_w 56, 53, 0, 0, [(255, 0)]),
  (53, .land, 54, 0, 0, []),
  (54, .l2i, 55, 0, 0, []),
  (55, .iastore, 56, 0, 0, []),
  (56, .aload_n 0, 57, 0, 0, []),
  (57, .dup, 58, 0, 0, []),
  (58, .getfield 53, 61, 8, 1, []),
  (61, .iconst 1, 62, 0, 0, []),
  (62, .iadd, 63, 0, 0, []),
  (63, .putfield 53, 66, 8, 1, []),
  (66, .iinc 4 (-1), 69, 0, 0, []),
  (69, .goto (-39), 72, 30, 0, []),
  (72, .aload_n 0, 73, 0, 0, []),
  (73, .getfield 53, 76, 8, 1, []),
  (76, .ireturn, 77, 0, 0, [])]
def zc75 : List (Nat × zm_E) := [(0, .iload_n 1, 1, 0, 0, []),
  (1, .ifCond .lt 34, 4, 35, 0, []),
  (4, .iload_n 1, 5, 0, 0, []),
  (5, .sipush 255, 8, 0, 0, []),
  (8, .if_icmp .gt 27, 11, 35, 0, []),
  (11, .iload_n 2, 12, 0, 0, []),
  (12, .iconst 1, 13, 0, 0, []),
  (13, .if_icmp .lt 22, 16, 35, 0, []),
  (16, .iload_n 2, 17, 0, 0, []),
  (17, .sipush 1200, 20, 0, 0, []),
  (20, .if_icmp .gt 15, 23, 35, 0, []),
  (23, .aload_n 0, 24, 0, 0, []),
  (24, .getfield 53, 27, 8, 1, []),
  (27, .iload_n 2, 28, 0, 0, []),
  (28, .iadd, 29, 0, 0, []),
  (29, .sipush 1200, 32, 0, 0, []),
  (32, .if_icmp .le 5, 35, 37, 0, []),
  (35, .iconst (-1), 36, 0, 0, []),
  (36, .ireturn, 37, 0, 0, []),
  (37, .iconst 0, 38, 0, 0, []),
  (38, .istore_n 3, 39, 0, 0, []),
  (39, .iload_n 3, 40, 0, 0, []),
  (40, .iload_n 2, 41, 0, 0, []),
  (41, .if_icmp .ge 21, 44, 62, 0, []),
  (44, .aload_n 0, 45, 0, 0, []),
  (45, .getfield 13, 48, 8, 2, []),
  (48, .aload_n 0, 49, 0, 0, []),
  (49, .getfield 53, 52, 8, 1, []),
  (52, .iload_n 3, 53, 0, 0, []),
  (53, .iadd, 54, 0, 0, []),
  (54, .iload_n 1, 55, 0, 0, []),
  (55, .iastore, 56, 0, 0, []),
  (56, .iinc 3 1, 59, 0, 0, []),
  (59, .goto (-20), 62, 39, 0, []),
  (62, .aload_n 0, 63, 0, 0, []),
  (63, .dup, 64, 0, 0, []),
  (64, .getfield 53, 67, 8, 1, []),
  (67, .iload_n 2, 68, 0, 0, []),
  (68, .iadd, 69, 0, 0, []),
  (69, .putfield 53, 72, 8, 1, []),
  (72, .aload_n 0, 73, 0, 0, []),
  (73, .getfield 53, 76, 8, 1, []),
  (76, .ireturn, 77, 0, 0, [])]
def zc76 : List (Nat × zm_E) := [(0, .aload_n 0, 1, 0, 0, []),
  (1, .aload_n 0, 2, 0, 0, []),
  (2, .getfield 53, 5, 8, 1, []),
  (5, .putfield 58, 8, 8, 3, []),
  (8, .aload_n 0, 9, 0, 0, []),
  (9, .iconst 0, 10, 0, 0, []),
  (10, .putfield 53, 13, 8, 1, []),
  (13, .iconst (-1), 14, 0, 0, []),
  (14, .istore_n 1, 15, 0, 0, []),
  (15, .iconst 0, 16, 0, 0, []),
  (16, .istore_n 2, 17, 0, 0, []),
  (17, .iload_n 2, 18, 0, 0, []),
  (18, .aload_n 0, 19, 0, 0, []),
  (19, .getfield 58, 22, 8, 3, []),
  (22, .if_icmp .ge 42, 25, 64, 0, []),
  (25, .aload_n 0, 26, 0, 0, []),
  (26, .getfield 17, 29, 8, 4, []),
  (29, .iload_n 2, 30, 0, 0, []),
  (30, .aload_n 0, 31, 0, 0, []),
  (31, .getfield 13, 34, 8, 2, []),
  (34, .iload_n 2, 35, 0, 0, []),
  (35, .iaload, 36, 0, 0, []),
  (36, .iastore, 37, 0, 0, []),
  (37, .aload_n 0, 38, 0, 0, []),
  (38, .getfield 17, 41, 8, 4, []),
  (41, .iload_n 2, 42, 0, 0, []),
  (42, .iaload, 43, 0, 0, []),
  (43, .ifCond .ne 15, 46, 58, 0, []),
  (46, .iload_n 1, 47, 0, 0, []),
  (47, .iconst (-1), 48, 0, 0, []),
  (48, .if_icmp .ne 7, 51, 55, 0, []),
  (51, .iload_n 2, 52, 0, 0, []),
  (52, .goto 5, 55, 57, 0, []),
  (55, .bipush (-2), 57, 0, 0, []),
  (57, .istore_n 1, 58, 0, 0, []),
  (58, .iinc 2 1, 61, 0, 0, []),
  (61, .goto (-44), 64, 17, 0, []),
  (64, .iconst 0, 65, 0, 0, []),
  (65, .istore_n 2, 66, 0, 0, []),
  (66, .iconst 0, 67, 0, 0, []),
  (67, .istore_n 3, 68, 0, 0, []),
  (68, .iload_n 3, 69, 0, 0, []),
  (69, .aload_n 0, 70, 0, 0, []),
  (70, .getfield 58, 73, 8, 3, []),
  (73, .if_icmp .ge 26, 76, 99, 0, []),
  (76, .iload_n 2, 77, 0, 0, []),
  (77, .aload_n 0, 78, 0, 0, []),
  (78, .getfield 17, 81, 8, 4, []),
  (81, .iload_n 3, 82, 0, 0, []),
  (82, .iaload, 83, 0, 0, []),
  (83, .ifCond .ne 7, 86, 90, 0, []),
  (86, .iconst 1, 87, 0, 0, []),
  (87, .goto 4, 90, 91, 0, []),
  (90, .iconst 0, 91, 0, 0, []),
  (91, .iadd, 92, 0, 0, []),
  (92, .istore_n 2, 93, 0, 0, []),
  (93, .iinc 3 1, 96, 0, 0, []),
  (96, .goto (-28), 99, 68, 0, []),
  (99, .iload_n 2, 100, 0, 0, []),
  (100, .iconst 1, 101, 0, 0, []),
  (101, .if_icmp .le 8, 104, 109, 0, []),
  (104, .bipush (-2), 106, 0, 0, []),
  (106, .goto 4, 109, 110, 0, []),
  (109, .iload_n 1, 110, 0, 0, []),
  (110, .ireturn, 111, 0, 0, [])]
def zc77 : List (Nat × zm_E) := [(0, .iload_n 0, 1, 0, 0, []),
  (1, .iconst 3, 2, 0, 0, []),
  (2, .if_icmp .le 7, 5, 9, 0, []),
  (5, .iload_n 0, 6, 0, 0, []),
  (6, .goto 4, 9, 10, 0, []),
  (9, .iconst 1, 10, 0, 0, []),
  (10, .ireturn, 11, 0, 0, [])]
def zc78 : List (Nat × zm_E) := [(0, .aload_n 0, 1, 0, 0, []),
  (1, .getfield 20, 4, 8, 5, []),
  (4, .iload_n 1, 5, 0, 0, []),
  (5, .iaload, 6, 0, 0, []),
  (6, .ifCond .ne 5, 9, 11, 0, []),
  (9, .iconst 0, 10, 0, 0, []),
  (10, .ireturn, 11, 0, 0, []),
  (11, .aload_n 0, 12, 0, 0, []),
  (12, .getfield 20, 15, 8, 5, []),
  (15, .iload_n 1, 16, 0, 0, []),
  (16, .iaload, 17, 0, 0, []),
  (17, .iconst 1, 18, 0, 0, []),
  (18, .if_icmp .ne 7, 21, 25, 0, []),
  (21, .iconst 1, 22, 0, 0, []),
  (22, .goto 41, 25, 63, 0, []),
  (25, .aload_n 0, 26, 0, 0, []),
  (26, .getfield 20, 29, 8, 5, []),
  (29, .iload_n 1, 30, 0, 0, []),
  (30, .iaload, 31, 0, 0, []),
  (31, .iconst 3, 32, 0, 0, []),
  (32, .if_icmp .ne 22, 35, 54, 0, []),
  (35, .aload_n 0, 36, 0, 0, []),
  (36, .getfield 29, 39, 8, 8, []),
  (39, .iload_n 1, 40, 0, 0, []),
  (40, .iaload, 41, 0, 0, []),
  (41, .bipush 59, 43, 0, 0, []),
  (43, .if_icmp .le 7, 46, 50, 0, []),
  (46, .iconst 1, 47, 0, 0, []),
  (47, .goto 16, 50, 63, 0, []),
  (50, .iconst 0, 51, 0, 0, []),
  (51, .goto 12, 54, 63, 0, []),
  (54, .aload_n 0, 55, 0, 0, []),
  (55, .getfield 23, 58, 8, 6, []),
  (58, .iload_n 1, 59, 0, 0, []),
  (59, .iaload, 60, 0, 0, []),
  (60, .invokestatic 61, 63, 77, 1, []),
  (63, .ireturn, 64, 0, 0, [])]
def zc79 : List (Nat × zm_E) := [(0, .iconst 0, 1, 0, 0, []),
  (1, .istore_n 1, 2, 0, 0, []),
  (2, .iconst 1, 3, 0, 0, []),
  (3, .istore_n 2, 4, 0, 0, []),
  (4, .iload_n 2, 5, 0, 0, []),
  (5, .bipush 40, 7, 0, 0, []),
  (7, .if_icmp .gt 17, 10, 24, 0, []),
  (10, .iload_n 1, 11, 0, 0, []),
  (11, .aload_n 0, 12, 0, 0, []),
  (12, .iload_n 2, 13, 0, 0, []),
  (13, .invokevirtual 65, 16, 78, 1, []),
  (16, .iadd, 17, 0, 0, []),
  (17, .istore_n 1, 18, 0, 0, []),
  (18, .iinc 2 1, 21, 0, 0, []),
  (21, .goto (-17), 24, 4, 0, []),
  (24, .iload_n 1, 25, 0, 0, []),
  (25, .ireturn, 26, 0, 0, [])]
def zc80 : List (Nat × zm_E) := [(0, .iconst 0, 1, 0, 0, []),
  (1, .istore_n 1, 2, 0, 0, []),
  (2, .iconst 1, 3, 0, 0, []),
  (3, .istore_n 2, 4, 0, 0, []),
  (4, .iload_n 2, 5, 0, 0, []),
  (5, .bipush 40, 7, 0, 0, []),
  (7, .if_icmp .gt 26, 10, 33, 0, []),
  (10, .iload_n 1, 11, 0, 0, []),
  (11, .aload_n 0, 12, 0, 0, []),
  (12, .getfield 20, 15, 8, 5, []),
  (15, .iload_n 2, 16, 0, 0, []),
  (16, .iaload, 17, 0, 0, []),
  (17, .ifCond .le 7, 20, 24, 0, []),
  (20, .iconst 1, 21, 0, 0, []),
  (21, .goto 4, 24, 25, 0, []),
  (24, .iconst 0, 25, 0, 0, []),
  (25, .iadd, 26, 0, 0, []),
  (26, .istore_n 1, 27, 0, 0, []),
  (27, .iinc 2 1, 30, 0, 0, []),
  (30, .goto (-26), 33, 4, 0, []),
  (33, .iload_n 1, 34, 0, 0, []),
  (34, .ireturn, 35, 0, 0, [])]
def zc81 : List (Nat × zm_E) := [(0, .iconst 0, 1, 0, 0, []),
  (1, .istore_n 2, 2, 0, 0, []),
  (2, .iconst 0, 3, 0, 0, []),
  (3, .istore_n 3, 4, 0, 0, []),
  (4, .iload_n 3, 5, 0, 0, []),
  (5, .aload_n 0, 6, 0, 0, []),
  (6, .getfield 68, 9, 8, 10, []),
  (9, .if_icmp .ge 27, 12, 36, 0, []),
  (12, .iload_n 2, 13, 0, 0, []),
  (13, .aload_n 0, 14, 0, 0, []),
  (14, .getfield 40, 17, 8, 12, []),
  (17, .iload_n 3, 18, 0, 0, []),
  (18, .iaload, 19, 0, 0, []),
  (19, .iload_n 1, 20, 0, 0, []),
  (20, .if_icmp .ne 7, 23, 27, 0, []),
  (23, .iconst 1, 24, 0, 0, []),
  (24, .goto 4, 27, 28, 0, []),
  (27, .iconst 0, 28, 0, 0, []),
  (28, .iadd, 29, 0, 0, []),
  (29, .istore_n 2, 30, 0, 0, []),
  (30, .iinc 3 1, 33, 0, 0, []),
  (33, .goto (-29), 36, 4, 0, []),
  (36, .iload_n 2, 37, 0, 0, []),
  (37, .ireturn, 38, 0, 0, [])]
def zc82 : List (Nat × zm_E) := [(0, .iconst 0, 1, 0, 0, []),
  (1, .istore_n 2, 2, 0, 0, []),
  (2, .iconst 0, 3, 0, 0, []),
  (3, .istore_n 3, 4, 0, 0, []),
  (4, .iload_n 3, 5, 0, 0, []),
  (5, .aload_n 0, 6, 0, 0, []),
  (6, .getfield 68, 9, 8, 10, []),
  (9, .if_icmp .ge 27, 12, 36, 0, []),
  (12, .iload_n 2, 13, 0, 0, []),
  (13, .aload_n 0, 14, 0, 0, []),
  (14, .getfield 37, 17, 8, 11, []),
  (17, .iload_n 3, 18, 0, 0, []),
  (18, .iaload, 19, 0, 0, []),
  (19, .iload_n 1, 20, 0, 0, []),
  (20, .if_icmp .ne 7, 23, 27, 0, []),
  (23, .iconst 1, 24, 0, 0, []),
  (24, .goto 4, 27, 28, 0, []),
  (27, .iconst 0, 28, 0, 0, []),
  (28, .iadd, 29, 0, 0, []),
  (29, .istore_n 2, 30, 0, 0, []),
  (30, .iinc 3 1, 33, 0, 0, []),
  (33, .goto (-29), 36, 4, 0, []),
  (36, .iload_n 2, 37, 0, 0, []),
  (37, .ireturn, 38, 0, 0, [])]
def zc83 : List (Nat × zm_E) := [(0, .iconst 1, 1, 0, 0, []),
  (1, .istore_n 2, 2, 0, 0, []),
  (2, .iconst 0, 3, 0, 0, []),
  (3, .istore_n 3, 4, 0, 0, []),
  (4, .iload_n 3, 5, 0, 0, []),
  (5, .aload_n 0, 6, 0, 0, []),
  (6, .getfield 68, 9, 8, 10, []),
  (9, .if_icmp .ge 30, 12, 39, 0, []),
  (12, .aload_n 0, 13, 0, 0, []),
  (13, .getfield 40, 16, 8, 12, []),
  (16, .iload_n 3, 17, 0, 0, []),
  (17, .iaload, 18, 0, 0, []),
  (18, .iload_n 1, 19, 0, 0, []),
  (19, .if_icmp .ne 12, 22, 31, 0, []),
  (22, .aload_n 0, 23, 0, 0, []),
  (23, .getfield 37, 26, 8, 11, []),
  (26, .iload_n 3, 27, 0, 0, []),
  (27, .iaload, 28, 0, 0, []),
  (28, .goto 4, 31, 32, 0, []),
  (31, .iload_n 2, 32, 0, 0, []),
  (32, .istore_n 2, 33, 0, 0, []),
  (33, .iinc 3 1, 36, 0, 0, []),
  (36, .goto (-32), 39, 4, 0, []),
  (39, .iload_n 2, 40, 0, 0, []),
  (40, .ireturn, 41, 0, 0, [])]
def zc84 : List (Nat × zm_E) := [(0, .aload_n 0, 1, 0, 0, []),
  (1, .getfield 43, 4, 8, 13, []),
  (4, .iload_n 1, 5, 0, 0, []),
  (5, .iaload, 6, 0, 0, []),
  (6, .iload_n 3, 7, 0, 0, []),
  (7, .if_icmp .ne 7, 10, 14, 0, []),
  (10, .iconst 1, 11, 0, 0, []),
  (11, .goto 4, 14, 15, 0, []),
  (14, .iconst 0, 15, 0, 0, []),
  (15, .istore 4, 17, 0, 0, []),
  (17, .iconst 0, 18, 0, 0, []),
  (18, .istore 5, 20, 0, 0, []),
  (20, .iload 5, 22, 0, 0, []),
  (22, .iload_n 3, 23, 0, 0, []),
  (23, .if_icmp .ge 50, 26, 73, 0, []),
  (26, .iload 4, 28, 0, 0, []),
  (28, .ifCond .eq 45, 31, 73, 0, []),
  (31, .aload_n 0, 32, 0, 0, []),
  (32, .getfield 46, 35, 8, 14, []),
  (35, .sipush 255, 38, 0, 0, []),
  (38, .iload_n 1, 39, 0, 0, []),
  (39, .imul, 40, 0, 0, []),
  (40, .iload 5, 42, 0, 0, []),
  (42, .iadd, 43, 0, 0, []),
  (43, .baload, 44, 0, 0, []),
  (44, .sipush 255, 47, 0, 0, []),
  (47, .iand, 48, 0, 0, []),
  (48, .aload_n 0, 49, 0, 0, []),
  (49, .getfield 50, 52, 8, 15, []),
  (52, .iload_n 2, 53, 0, 0, []),
  (53, .iload 5, 55, 0, 0, []),
  (55, .iadd, 56, 0, 0, []),
  (56, .iaload, 57, 0, 0, []),
  (57, .if_icmp .ne 7, 60, 64, 0, []),
  (60, .iconst 1, 61, 0, 0, []),
  (61, .goto 4, 64, 65, 0, []),
  (64, .iconst 0, 65, 0, 0, []),
  (65, .istore 4, 67, 0, 0, []),
  (67, .iinc 5 1, 70, 0, 0, []),
  (70, .goto (-50), 73, 20, 0, []),
  (73, .iload 4, 75, 0, 0, []),
  (75, .ireturn, 76, 0, 0, [])]
def zc85 : List (Nat × zm_E) := [(0, .iconst (-1), 1, 0, 0, []),
  (1, .istore 4, 3, 0, 0, []),
  (3, .iconst 0, 4, 0, 0, []),
  (4, .istore 5, 6, 0, 0, []),
  (6, .iload 5, 8, 0, 0, []),
  (8, .aload_n 0, 9, 0, 0, []),
  (9, .getfield 68, 12, 8, 10, []),
  (12, .if_icmp .ge 40, 15, 52, 0, []),
  (15, .aload_n 0, 16, 0, 0, []),
  (16, .getfield 37, 19, 8, 11, []),
  (19, .iload 5, 21, 0, 0, []),
  (21, .iaload, 22, 0, 0, []),
  (22, .iload_n 1, 23, 0, 0, []),
  (23, .if_icmp .ne 19, 26, 42, 0, []),
  (26, .aload_n 0, 27, 0, 0, []),
  (27, .iload 5, 29, 0, 0, []),
  (29, .iload_n 2, 30, 0, 0, []),
  (30, .iload_n 3, 31, 0, 0, []),
  (31, .invokevirtual 71, 34, 84, 3, []),
  (34, .ifCond .eq 8, 37, 42, 0, []),
  (37, .iload 5, 39, 0, 0, []),
  (39, .goto 5, 42, 44, 0, []),
  (42, .iload 4, 44, 0, 0, []),
  (44, .istore 4, 46, 0, 0, []),
  (46, .iinc 5 1, 49, 0, 0, []),
  (49, .goto (-43), 52, 6, 0, []),
  (52, .iload 4, 54, 0, 0, []),
  (54, .ireturn, 55, 0, 0, [])]
def zc86 : List (Nat × zm_E) := [(0, .iload_n 2, 1, 0, 0, []),
  (1, .aload_n 0, 2, 0, 0, []),
  (2, .getfield 23, 5, 8, 6, []),
  (5, .iload_n 1, 6, 0, 0, []),
  (6, .iaload, 7, 0, 0, []),
  (7, .if_icmp .le 20, 10, 27, 0, []),
  (10, .iload_n 2, 11, 0, 0, []),
  (11, .invokestatic 61, 14, 77, 1, []),
  (14, .aload_n 0, 15, 0, 0, []),
  (15, .getfield 23, 18, 8, 6, []),
  (18, .iload_n 1, 19, 0, 0, []),
  (19, .iaload, 20, 0, 0, []),
  (20, .invokestatic 61, 23, 77, 1, []),
  (23, .isub, 24, 0, 0, []),
  (24, .goto 4, 27, 28, 0, []),
  (27, .iconst 0, 28, 0, 0, []),
  (28, .ireturn, 29, 0, 0, [])]
def zc87 : List (Nat × zm_E) := [(0, .aload_n 0, 1, 0, 0, []),
  (1, .getfield 37, 4, 8, 11, []),
  (4, .aload_n 0, 5, 0, 0, []),
  (5, .getfield 68, 8, 8, 10, []),
  (8, .aload_n 0, 9, 0, 0, []),
  (9, .getfield 75, 12, 8, 17, []),
  (12, .iastore, 13, 0, 0, []),
  (13, .aload_n 0, 14, 0, 0, []),
  (14, .getfield 40, 17, 8, 12, []),
  (17, .aload_n 0, 18, 0, 0, []),
  (18, .getfield 68, 21, 8, 10, []),
  (21, .iload_n 1, 22, 0, 0, []),
  (22, .iastore, 23, 0, 0, []),
  (23, .aload_n 0, 24, 0, 0, []),
  (24, .getfield 43, 27, 8, 13, []),
  (27, .aload_n 0, 28, 0, 0, []),
  (28, .getfield 68, 31, 8, 10, []),
  (31, .aload_n 0, 32, 0, 0, []),
  (32, .getfield 78, 35, 8, 19, []),
  (35, .iastore, 36, 0, 0, []),
  (36, .iconst 0, 37, 0, 0, []),
  (37, .istore_n 2, 38, 0, 0, []),
  (38, .iload_n 2, 39, 0, 0, []),
  (39, .aload_n 0, 40, 0, 0, []),
  (40, .getfield 78, 43, 8, 19, []),
  (43, .if_icmp .ge 36, 46, 79, 0, []),
  (46, .aload_n 0, 47, 0, 0, []),
  (47, .getfield 46, 50, 8, 14, []),
  (50, .sipush 255, 53, 0, 0, []),
  (53, .aload_n 0, 54, 0, 0, []),
  (54, .getfield 68, 57, 8, 10, []),
  (57, .imul, 58, 0, 0, []),
  (58, .iload_n 2, 59, 0, 0, []),
  (59, .iadd, 60, 0, 0, []),
  (60, .aload_n 0, 61, 0, 0, []),
  (61, .getfield 50, 64, 8, 15, []),
  (64, .aload_n 0, 65, 0, 0, []),
  (65, .getfield 81, 68, 8, 18, []),
  (68, .iload_n 2, 69, 0, 0, []),
  (69, .iadd, 70, 0, 0, []),
  (70, .iaload, 71, 0, 0, []),
  (71, .i2b, 72, 0, 0, []),
  (72, .bastore, 73, 0, 0, []),
  (73, .iinc 2 1, 76, 0, 0, []),
  (76, .goto (-38), 79, 38, 0, []),
  (79, .aload_n 0, 80, 0, 0, []),
  (80, .dup, 81, 0, 0, []),
  (81, .getfield 68, 84, 8, 10, []),
  (84, .iconst 1, 85, 0, 0, []),
  (85, .iadd, 86, 0, 0, []),
  (86, .putfield 68, 89, 8, 10, []),
  (89, .aload_n 0, 90, 0, 0, []),
  (90, .aload_n 0, 91, 0, 0, []),
  (91, .getfield 75, 94, 8, 17, []),
  (94, .invokevirtual 84, 97, 82, 1, []),
  (97, .istore_n 2, 98, 0, 0, []),
  (98, .aload_n 0, 99, 0, 0, []),
  (99, .getfield 23, 102, 8, 6, []),
  (102, .aload_n 0, 103, 0, 0, []),
  (103, .getfield 75, 106, 8, 17, []),
  (106, .iload_n 2, 107, 0, 0, []),
  (107, .aload_n 0, 108, 0, 0, []),
  (108, .getfield 23, 111, 8, 6, []),
  (111, .aload_n 0, 112, 0, 0, []),
  (112, .getfield 75, 115, 8, 17, []),
  (115, .iaload, 116, 0, 0, []),
  (116, .if_icmp .le 7, 119, 123, 0, []),
  (119, .iload_n 2, 120, 0, 0, []),
  (120, .goto 12, 123, 132, 0, []),
  (123, .aload_n 0, 124, 0, 0, []),
  (124, .getfield 23, 127, 8, 6, []),
  (127, .aload_n 0, 128, 0, 0, []),
  (128, .getfield 75, 131, 8, 17, []),
  (131, .iaload, 132, 0, 0, []),
  (132, .iastore, 133, 0, 0, []),
  (133, .return_, 134, 0, 0, [])]
def zc88 : List (Nat × zm_E) := [(0, .aload_n 0, 1, 0, 0, []),
  (1, .getfield 40, 4, 8, 12, []),
  (4, .iload_n 1, 5, 0, 0, []),
  (5, .iaload, 6, 0, 0, []),
  (6, .istore_n 2, 7, 0, 0, []),
  (7, .aload_n 0, 8, 0, 0, []),
  (8, .dup, 9, 0, 0, []),
  (9, .getfield 68, 12, 8, 10, []),
  (12, .iconst 1, 13, 0, 0, []),
  (13, .isub, 14, 0, 0, []),
  (14, .putfield 68, 17, 8, 10, []),
  (17, .aload_n 0, 18, 0, 0, []),
  (18, .getfield 37, 21, 8, 11, []),
  (21, .iload_n 1, 22, 0, 0, []),
  (22, .aload_n 0, 23, 0, 0, []),
  (23, .getfield 37, 26, 8, 11, []),
  (26, .aload_n 0, 27, 0, 0, []),
  (27, .getfield 68, 30, 8, 10, []),
  (30, .iaload, 31, 0, 0, []),
  (31, .iastore, 32, 0, 0, []),
  (32, .aload_n 0, 33, 0, 0, []),
  (33, .getfield 40, 36, 8, 12, []),
  (36, .iload_n 1, 37, 0, 0, []),
  (37, .aload_n 0, 38, 0, 0, []),
  (38, .getfield 40, 41, 8, 12, []),
  (41, .aload_n 0, 42, 0, 0, []),
  (42, .getfield 68, 45, 8, 10, []),
  (45, .iaload, 46, 0, 0, []),
  (46, .iastore, 47, 0, 0, []),
  (47, .aload_n 0, 48, 0, 0, []),
  (48, .getfield 43, 51, 8, 13, []),
  (51, .iload_n 1, 52, 0, 0, []),
  (52, .aload_n 0, 53, 0, 0, []),
  (53, .getfield 43, 56, 8, 13, []),
  (56, .aload_n 0, 57, 0, 0, []),
  (57, .getfield 68, 60, 8, 10, []),
  (60, .iaload, 61, 0, 0, []),
  (61, .iastore, 62, 0, 0, []),
  (62, .iconst 0, 63, 0, 0, []),
  (63, .istore_n 3, 64, 0, 0, []),
  (64, .iload_n 3, 65, 0, 0, []),
  (65, .sipush 255, 68, 0, 0, []),
  (68, .if_icmp .ge 36, 71, 104, 0, []),
  (71, .aload_n 0, 72, 0, 0, []),
  (72, .getfield 46, 75, 8, 14, []),
  (75, .sipush 255, 78, 0, 0, []),
  (78, .iload_n 1, 79, 0, 0, []),
  (79, .imul, 80, 0, 0, []),
  (80, .iload_n 3, 81, 0, 0, []),
  (81, .iadd, 82, 0, 0, []),
  (82, .aload_n 0, 83, 0, 0, []),
  (83, .getfield 46, 86, 8, 14, []),
  (86, .sipush 255, 89, 0, 0, []),
  (89, .aload_n 0, 90, 0, 0, []),
  (90, .getfield 68, 93, 8, 10, []),
  (93, .imul, 94, 0, 0, []),
  (94, .iload_n 3, 95, 0, 0, []),
  (95, .iadd, 96, 0, 0, []),
  (96, .baload, 97, 0, 0, []),
  (97, .bastore, 98, 0, 0, []),
  (98, .iinc 3 1, 101, 0, 0, []),
  (101, .goto (-37), 104, 64, 0, []),
  (104, .aload_n 0, 105, 0, 0, []),
  (105, .iload_n 2, 106, 0, 0, []),
  (106, .invokevirtual 87, 109, 81, 1, []),
  (109, .ifCond .ne 19, 112, 128, 0, []),
  (112, .aload_n 0, 113, 0, 0, []),
  (113, .getfield 26, 116, 8, 7, []),
  (116, .iload_n 2, 117, 0, 0, []),
  (117, .iaload, 118, 0, 0, []),
  (118, .ifCond .ne 10, 121, 128, 0, []),
  (121, .aload_n 0, 122, 0, 0, []),
  (122, .getfield 20, 125, 8, 5, []),
  (125, .iload_n 2, 126, 0, 0, []),
  (126, .iconst 0, 127, 0, 0, []),
  (127, .iastore, 128, 0, 0, []),
  (128, .return_, 129, 0, 0, [])]
def zc89 : List (Nat × zm_E) := [(0, .aload_n 0, 1, 0, 0, []),
  (1, .getfield 90, 4, 8, 16, []),
  (4, .istore_n 1, 5, 0, 0, []),
  (5, .iload_n 1, 6, 0, 0, []),
  (6, .ldc 49, 8, 0, 0, [(42000, 0)]),
  (8, .if_icmp .ge 61, 11, 69, 0, []),
  (11, .iload_n 1, 12, 0, 0, []),
  (12, .istore_n 2, 13, 0, 0, []),
  (13, .iload_n 1, 14, 0, 0, []),
  (14, .ldc 49, 16, 0, 0, [(42000, 0)]),
  (16, .if_icmp .ge 20, 19, 36, 0, []),
  (19, .aload_n 0, 20, 0, 0, []),
  (20, .getfield 50, 23, 8, 15, []),
  (23, .iload_n 1, 24, 0, 0, []),
  (24, .iaload, 25, 0, 0, []),
  (25, .bipush 47, 27, 0, 0, []),
  (27, .if_icmp .eq 9, 30, 36, 0, []),
  (30, .iinc 1 1, 33, 0, 0, []),
  (33, .goto (-20), 36, 13, 0, []),
  (36, .iload_n 1, 37, 0, 0, []),
  (37, .iload_n 2, 38, 0, 0, []),
  (38, .isub, 39, 0, 0, []),
  (39, .iconst 1, 40, 0, 0, []),
  (40, .if_icmp .gt 21, 43, 61, 0, []),
  (43, .iload_n 1, 44, 0, 0, []),
  (44, .iload_n 2, 45, 0, 0, []),
  (45, .isub, 46, 0, 0, []),
  (46, .iconst 1, 47, 0, 0, []),
  (47, .if_icmp .ne 16, 50, 63, 0, []),
  (50, .aload_n 0, 51, 0, 0, []),
  (51, .getfield 50, 54, 8, 15, []),
  (54, .iload_n 2, 55, 0, 0, []),
  (55, .iaload, 56, 0, 0, []),
  (56, .bipush 46, 58, 0, 0, []),
  (58, .if_icmp .eq 5, 61, 63, 0, []),
  (61, .iconst 1, 62, 0, 0, []),
  (62, .ireturn, 63, 0, 0, []),
  (63, .iinc 1 1, 66, 0, 0, []),
  (66, .goto (-61), 69, 5, 0, []),
  (69, .iconst 0, 70, 0, 0, []),
  (70, .ireturn, 71, 0, 0, [])]
def zc90 : List (Nat × zm_E) := [(0, .aload_n 0, 1, 0, 0, []),
  (1, .ldc 49, 3, 0, 0, [(42000, 0)]),
  (3, .iload_n 2, 4, 0, 0, []),
  (4, .isub, 5, 0, 0, []),
  (5, .putfield 90, 8, 8, 16, []),
  (8, .iconst 0, 9, 0, 0, []),
  (9, .istore 4, 11, 0, 0, []),
  (11, .iload 4, 13, 0, 0, []),
  (13, .iload_n 2, 14, 0, 0, []),
  (14, .if_icmp .ge 30, 17, 44, 0, []),
  (17, .aload_n 0, 18, 0, 0, []),
  (18, .getfield 50, 21, 8, 15, []),
  (21, .aload_n 0, 22, 0, 0, []),
  (22, .getfield 90, 25, 8, 16, []),
  (25, .iload 4, 27, 0, 0, []),
  (27, .iadd, 28, 0, 0, []),
  (28, .aload_n 0, 29, 0, 0, []),
  (29, .getfield 17, 32, 8, 4, []),
  (32, .iload_n 1, 33, 0, 0, []),
  (33, .iload 4, 35, 0, 0, []),
  (35, .iadd, 36, 0, 0, []),
  (36, .iaload, 37, 0, 0, []),
  (37, .iastore, 38, 0, 0, []),
  (38, .iinc 4 1, 41, 0, 0, []),
  (41, .goto (-30), 44, 11, 0, []),
  (44, .iconst 0, 45, 0, 0, []),
  (45, .istore 4, 47, 0, 0, []),
  (47, .aload_n 0, 48, 0, 0, []),
  (48, .iconst 1, 49, 0, 0, []),
  (49, .putfield 93, 52, 8, 20, []),
  (52, .aload_n 0, 53, 0, 0, []),
  (53, .iconst 1, 54, 0, 0, []),
  (54, .putfield 96, 57, 8, 21, []),
  (57, .aload_n 0, 58, 0, 0, []),
  (58, .invokevirtual 100, 61, 89, 0, []),
  (61, .ifCond .eq 333, 64, 394, 0, []),
  (64, .aload_n 0, 65, 0, 0, []),
  (65, .getfield 50, 68, 8, 15, []),
  (68, .aload_n 0, 69, 0, 0, []),
  (69, .getfield 90, 72, 8, 16, []),
  (72, .iaload, 73, 0, 0, []),
  (73, .bipush 47, 75, 0, 0, []),
  (75, .if_icmp .ne 16, 78, 91, 0, []),
  (78, .aload_n 0, 79, 0, 0, []),
  (79, .dup, 80, 0, 0, []),
  (80, .getfield 90, 83, 8, 16, []),
  (83, .iconst 1, 84, 0, 0, []),
  (84, .iadd, 85, 0, 0, []),
  (85, .putfield 90, 88, 8, 16, []),
  (88, .goto (-31), 91, 57, 0, []),
  (91, .aload_n 0, 92, 0, 0, []),
  (92, .aload_n 0, 93, 0, 0, []),
  (93, .getfield 90, 96, 8, 16, []),
  (96, .putfield 81, 99, 8, 18, []),
  (99, .aload_n 0, 100, 0, 0, []),
  (100, .getfield 90, 103, 8, 16, []),
  (103, .ldc 49, 105, 0, 0, [(42000, 0)]),
  (105, .if_icmp .ge 30, 108, 135, 0, []),
  (108, .aload_n 0, 109, 0, 0, []),
  (109, .getfield 50, 112, 8, 15, []),
  (112, .aload_n 0, 113, 0, 0, []),
  (113, .getfield 90, 116, 8, 16, []),
  (116, .iaload, 117, 0, 0, []),
  (117, .bipush 47, 119, 0, 0, []),
  (119, .if_icmp .eq 16, 122, 135, 0, []),
  (122, .aload_n 0, 123, 0, 0, []),
  (123, .dup, 124, 0, 0, []),
  (124, .getfield 90, 127, 8, 16, []),
  (127, .iconst 1, 128, 0, 0, []),
  (128, .iadd, 129, 0, 0, []),
  (129, .putfield 90, 132, 8, 16, []),
  (132, .goto (-33), 135, 99, 0, []),
  (135, .aload_n 0, 136, 0, 0, []),
  (136, .aload_n 0, 137, 0, 0, []),
  (137, .getfield 90, 140, 8, 16, []),
  (140, .aload_n 0, 141, 0, 0, []),
  (141, .getfield 81, 144, 8, 18, []),
  (144, .isub, 145, 0, 0, []),
  (145, .putfield 78, 148, 8, 19, []),
  (148, .aload_n 0, 149, 0, 0, []),
  (149, .getfield 78, 152, 8, 19, []),
  (152, .iconst 1, 153, 0, 0, []),
  (153, .if_icmp .ne 20, 156, 173, 0, []),
  (156, .aload_n 0, 157, 0, 0, []),
  (157, .getfield 50, 160, 8, 15, []),
  (160, .aload_n 0, 161, 0, 0, []),
  (161, .getfield 81, 164, 8, 18, []),
  (164, .iaload, 165, 0, 0, []),
  (165, .bipush 46, 167, 0, 0, []),
  (167, .if_icmp .ne 6, 170, 173, 0, []),
  (170, .goto (-113), 173, 57, 0, []),
  (173, .aload_n 0, 174, 0, 0, []),
  (174, .getfield 78, 177, 8, 19, []),
  (177, .sipush 255, 180, 0, 0, []),
  (180, .if_icmp .le 6, 183, 186, 0, []),
  (183, .bipush (-9), 185, 0, 0, []),
  (185, .ireturn, 186, 0, 0, []),
  (186, .aload_n 0, 187, 0, 0, []),
  (187, .getfield 20, 190, 8, 5, []),
  (190, .aload_n 0, 191, 0, 0, []),
  (191, .getfield 93, 194, 8, 20, []),
  (194, .iaload, 195, 0, 0, []),
  (195, .iconst 2, 196, 0, 0, []),
  (196, .if_icmp .eq 6, 199, 202, 0, []),
  (199, .bipush (-4), 201, 0, 0, []),
  (201, .ireturn, 202, 0, 0, []),
  (202, .aload_n 0, 203, 0, 0, []),
  (203, .invokevirtual 100, 206, 89, 0, []),
  (206, .ifCond .ne 7, 209, 213, 0, []),
  (209, .iconst 1, 210, 0, 0, []),
  (210, .goto 4, 213, 214, 0, []),
  (213, .iconst 0, 214, 0, 0, []),
  (214, .istore 5, 216, 0, 0, []),
  (216, .aload_n 0, 217, 0, 0, []),
  (217, .aload_n 0, 218, 0, 0, []),
  (218, .getfield 78, 221, 8, 19, []),
  (221, .iconst 2, 222, 0, 0, []),
  (222, .if_icmp .ne 37, 225, 259, 0, []),
  (225, .aload_n 0, 226, 0, 0, []),
  (226, .getfield 50, 229, 8, 15, []),
  (229, .aload_n 0, 230, 0, 0, []),
  (230, .getfield 81, 233, 8, 18, []),
  (233, .iaload, 234, 0, 0, []),
  (234, .bipush 46, 236, 0, 0, []),
  (236, .if_icmp .ne 23, 239, 259, 0, []),
  (239, .aload_n 0, 240, 0, 0, []),
  (240, .getfield 50, 243, 8, 15, []),
  (243, .aload_n 0, 244, 0, 0, []),
  (244, .getfield 81, 247, 8, 18, []),
  (247, .iconst 1, 248, 0, 0, []),
  (248, .iadd, 249, 0, 0, []),
  (249, .iaload, 250, 0, 0, []),
  (250, .bipush 46, 252, 0, 0, []),
  (252, .if_icmp .ne 7, 255, 259, 0, []),
  (255, .iconst 1, 256, 0, 0, []),
  (256, .goto 4, 259, 260, 0, []),
  (259, .iconst 0, 260, 0, 0, []),
  (260, .putfield 96, 263, 8, 21, []),
  (263, .aload_n 0, 264, 0, 0, []),
  (264, .getfield 96, 267, 8, 21, []),
  (267, .ifCond .eq 18, 270, 285, 0, []),
  (270, .aload_n 0, 271, 0, 0, []),
  (271, .aload_n 0, 272, 0, 0, []),
  (272, .aload_n 0, 273, 0, 0, []),
  (273, .getfield 93, 276, 8, 20, []),
  (276, .invokevirtual 104, 279, 83, 1, []),
  (279, .putfield 93, 282, 8, 20, []),
  (282, .goto (-225), 285, 57, 0, []),
  (285, .aload_n 0, 286, 0, 0, []),
  (286, .aload_n 0, 287, 0, 0, []),
  (287, .getfield 93, 290, 8, 20, []),
  (290, .putfield 75, 293, 8, 17, []),
  (293, .aload_n 0, 294, 0, 0, []),
  (294, .aload_n 0, 295, 0, 0, []),
  (295, .getfield 75, 298, 8, 17, []),
  (298, .aload_n 0, 299, 0, 0, []),
  (299, .getfield 81, 302, 8, 18, []),
  (302, .aload_n 0, 303, 0, 0, []),
  (303, .getfield 78, 306, 8, 19, []),
  (306, .invokevirtual 107, 309, 85, 3, []),
  (309, .istore 6, 311, 0, 0, []),
  (311, .aload_n 0, 312, 0, 0, []),
  (312, .iload 6, 314, 0, 0, []),
  (314, .ifCond .ge 7, 317, 321, 0, []),
  (317, .iconst 0, 318, 0, 0, []),
  (318, .goto 10, 321, 328, 0, []),
  (321, .aload_n 0, 322, 0, 0, []),
  (322, .getfield 40, 325, 8, 12, []),
  (325, .iload 6, 327, 0, 0, []),
  (327, .iaload, 328, 0, 0, []),
  (328, .putfield 93, 331, 8, 20, []),
  (331, .iload 6, 333, 0, 0, []),
  (333, .ifCond .ge 15, 336, 348, 0, []),
  (336, .iload 5, 338, 0, 0, []),
  (338, .ifCond .eq 7, 341, 345, 0, []),
  (341, .iconst 0, 342, 0, 0, []),
  (342, .goto 5, 345, 347, 0, []),
  (345, .bipush (-2), 347, 0, 0, []),
  (347, .ireturn, 348, 0, 0, []),
  (348, .aload_n 0, 349, 0, 0, []),
  (349, .getfield 20, 352, 8, 5, []),
  (352, .aload_n 0, 353, 0, 0, []),
  (353, .getfield 93, 356, 8, 20, []),
  (356, .iaload, 357, 0, 0, []),
  (357, .iconst 3, 358, 0, 0, []),
  (358, .if_icmp .ne 33, 361, 391, 0, []),
  (361, .iload 5, 363, 0, 0, []),
  (363, .ifCond .eq 7, 366, 370, 0, []),
  (366, .iload_n 3, 367, 0, 0, []),
  (367, .ifCond .eq 24, 370, 391, 0, []),
  (370, .iload 4, 372, 0, 0, []),
  (372, .bipush 40, 374, 0, 0, []),
  (374, .if_icmp .ne 6, 377, 380, 0, []),
  (377, .bipush (-8), 379, 0, 0, []),
  (379, .ireturn, 380, 0, 0, []),
  (380, .iinc 4 1, 383, 0, 0, []),
  (383, .aload_n 0, 384, 0, 0, []),
  (384, .aload_n 0, 385, 0, 0, []),
  (385, .getfield 93, 388, 8, 20, []),
  (388, .invokevirtual 111, 391, 91, 1, []),
  (391, .goto (-334), 394, 57, 0, []),
  (394, .iconst 0, 395, 0, 0, []),
  (395, .ireturn, 396, 0, 0, [])]
def zc91 : List (Nat × zm_E) := [(0, .aload_n 0, 1, 0, 0, []),
  (1, .dup, 2, 0, 0, []),
  (2, .getfield 90, 5, 8, 16, []),
  (5, .iconst 1, 6, 0, 0, []),
  (6, .isub, 7, 0, 0, []),
  (7, .putfield 90, 10, 8, 16, []),
  (10, .aload_n 0, 11, 0, 0, []),
  (11, .getfield 50, 14, 8, 15, []),
  (14, .aload_n 0, 15, 0, 0, []),
  (15, .getfield 90, 18, 8, 16, []),
  (18, .bipush 47, 20, 0, 0, []),
  (20, .iastore, 21, 0, 0, []),
  (21, .aload_n 0, 22, 0, 0, []),
  (22, .dup, 23, 0, 0, []),
  (23, .getfield 90, 26, 8, 16, []),
  (26, .aload_n 0, 27, 0, 0, []),
  (27, .getfield 29, 30, 8, 8, []),
  (30, .iload_n 1, 31, 0, 0, []),
  (31, .iaload, 32, 0, 0, []),
  (32, .isub, 33, 0, 0, []),
  (33, .putfield 90, 36, 8, 16, []),
  (36, .iconst 0, 37, 0, 0, []),
  (37, .istore_n 2, 38, 0, 0, []),
  (38, .iload_n 2, 39, 0, 0, []),
  (39, .aload_n 0, 40, 0, 0, []),
  (40, .getfield 29, 43, 8, 8, []),
  (43, .iload_n 1, 44, 0, 0, []),
  (44, .iaload, 45, 0, 0, []),
  (45, .if_icmp .ge 36, 48, 81, 0, []),
  (48, .aload_n 0, 49, 0, 0, []),
  (49, .getfield 50, 52, 8, 15, []),
  (52, .aload_n 0, 53, 0, 0, []),
  (53, .getfield 90, 56, 8, 16, []),
  (56, .iload_n 2, 57, 0, 0, []),
  (57, .iadd, 58, 0, 0, []),
  (58, .aload_n 0, 59, 0, 0, []),
  (59, .getfield 33, 62, 8, 9, []),
  (62, .sipush 1000, 65, 0, 0, []),
  (65, .iload_n 1, 66, 0, 0, []),
  (66, .imul, 67, 0, 0, []),
  (67, .iload_n 2, 68, 0, 0, []),
  (68, .iadd, 69, 0, 0, []),
  (69, .baload, 70, 0, 0, []),
  (70, .sipush 255, 73, 0, 0, []),
  (73, .iand, 74, 0, 0, []),
  (74, .iastore, 75, 0, 0, []),
  (75, .iinc 2 1, 78, 0, 0, []),
  (78, .goto (-40), 81, 38, 0, []),
  (81, .aload_n 0, 82, 0, 0, []),
  (82, .aload_n 0, 83, 0, 0, []),
  (83, .getfield 50, 86, 8, 15, []),
  (86, .aload_n 0, 87, 0, 0, []),
  (87, .getfield 90, 90, 8, 16, []),
  (90, .iaload, 91, 0, 0, []),
  (91, .bipush 47, 93, 0, 0, []),
  (93, .if_icmp .ne 7, 96, 100, 0, []),
  (96, .iconst 1, 97, 0, 0, []),
  (97, .goto 7, 100, 104, 0, []),
  (100, .aload_n 0, 101, 0, 0, []),
  (101, .getfield 75, 104, 8, 17, []),
  (104, .putfield 93, 107, 8, 20, []),
  (107, .aload_n 0, 108, 0, 0, []),
  (108, .iconst 1, 109, 0, 0, []),
  (109, .putfield 96, 112, 8, 21, []),
  (112, .return_, 113, 0, 0, [])]
def zc92 : List (Nat × zm_E) := [(0, .aload_n 0, 1, 0, 0, []),
  (1, .iload_n 1, 2, 0, 0, []),
  (2, .iload_n 2, 3, 0, 0, []),
  (3, .iconst 0, 4, 0, 0, []),
  (4, .invokevirtual 115, 7, 90, 3, []),
  (7, .istore_n 3, 8, 0, 0, []),
  (8, .iload_n 3, 9, 0, 0, []),
  (9, .ifCond .ge 7, 12, 16, 0, []),
  (12, .iload_n 3, 13, 0, 0, []),
  (13, .goto 15, 16, 28, 0, []),
  (16, .aload_n 0, 17, 0, 0, []),
  (17, .getfield 96, 20, 8, 21, []),
  (20, .ifCond .eq 7, 23, 27, 0, []),
  (23, .iconst (-1), 24, 0, 0, []),
  (24, .goto 4, 27, 28, 0, []),
  (27, .iconst 0, 28, 0, 0, []),
  (28, .ireturn, 29, 0, 0, [])]
def zc93 : List (Nat × zm_E) := [(0, .iload_n 1, 1, 0, 0, []),
  (1, .sipush 200, 4, 0, 0, []),
  (4, .if_icmp .gt 11, 7, 15, 0, []),
  (7, .iload_n 1, 8, 0, 0, []),
  (8, .aload_n 0, 9, 0, 0, []),
  (9, .invokevirtual 119, 12, 79, 0, []),
  (12, .if_icmp .ge 5, 15, 17, 0, []),
  (15, .iconst (-1), 16, 0, 0, []),
  (16, .ireturn, 17, 0, 0, []),
  (17, .aload_n 0, 18, 0, 0, []),
  (18, .iload_n 1, 19, 0, 0, []),
  (19, .putfield 7, 22, 8, 0, []),
  (22, .aload_n 0, 23, 0, 0, []),
  (23, .getfield 7, 26, 8, 0, []),
  (26, .aload_n 0, 27, 0, 0, []),
  (27, .invokevirtual 119, 30, 79, 0, []),
  (30, .isub, 31, 0, 0, []),
  (31, .ireturn, 32, 0, 0, [])]
def zc94 : List (Nat × zm_E) := [(0, .iconst 2, 1, 0, 0, []),
  (1, .istore_n 3, 2, 0, 0, []),
  (2, .iload_n 3, 3, 0, 0, []),
  (3, .bipush 40, 5, 0, 0, []),
  (5, .if_icmp .gt 18, 8, 23, 0, []),
  (8, .aload_n 0, 9, 0, 0, []),
  (9, .getfield 20, 12, 8, 5, []),
  (12, .iload_n 3, 13, 0, 0, []),
  (13, .iaload, 14, 0, 0, []),
  (14, .ifCond .le 9, 17, 23, 0, []),
  (17, .iinc 3 1, 20, 0, 0, []),
  (20, .goto (-18), 23, 2, 0, []),
  (23, .iload_n 3, 24, 0, 0, []),
  (24, .bipush 40, 26, 0, 0, []),
  (26, .if_icmp .gt 44, 29, 70, 0, []),
  (29, .aload_n 0, 30, 0, 0, []),
  (30, .getfield 68, 33, 8, 10, []),
  (33, .bipush 60, 35, 0, 0, []),
  (35, .if_icmp .eq 35, 38, 70, 0, []),
  (38, .aload_n 0, 39, 0, 0, []),
  (39, .invokevirtual 119, 42, 79, 0, []),
  (42, .iload_n 2, 43, 0, 0, []),
  (43, .iadd, 44, 0, 0, []),
  (44, .aload_n 0, 45, 0, 0, []),
  (45, .aload_n 0, 46, 0, 0, []),
  (46, .getfield 75, 49, 8, 17, []),
  (49, .aload_n 0, 50, 0, 0, []),
  (50, .aload_n 0, 51, 0, 0, []),
  (51, .getfield 75, 54, 8, 17, []),
  (54, .invokevirtual 84, 57, 82, 1, []),
  (57, .iconst 1, 58, 0, 0, []),
  (58, .iadd, 59, 0, 0, []),
  (59, .invokevirtual 123, 62, 86, 2, []),
  (62, .iadd, 63, 0, 0, []),
  (63, .aload_n 0, 64, 0, 0, []),
  (64, .getfield 7, 67, 8, 0, []),
  (67, .if_icmp .le 6, 70, 73, 0, []),
  (70, .bipush (-7), 72, 0, 0, []),
  (72, .ireturn, 73, 0, 0, []),
  (73, .aload_n 0, 74, 0, 0, []),
  (74, .getfield 20, 77, 8, 5, []),
  (77, .iload_n 3, 78, 0, 0, []),
  (78, .iload_n 1, 79, 0, 0, []),
  (79, .iastore, 80, 0, 0, []),
  (80, .aload_n 0, 81, 0, 0, []),
  (81, .getfield 23, 84, 8, 6, []),
  (84, .iload_n 3, 85, 0, 0, []),
  (85, .iconst 0, 86, 0, 0, []),
  (86, .iastore, 87, 0, 0, []),
  (87, .aload_n 0, 88, 0, 0, []),
  (88, .getfield 26, 91, 8, 7, []),
  (91, .iload_n 3, 92, 0, 0, []),
  (92, .iconst 0, 93, 0, 0, []),
  (93, .iastore, 94, 0, 0, []),
  (94, .aload_n 0, 95, 0, 0, []),
  (95, .iload_n 3, 96, 0, 0, []),
  (96, .invokevirtual 127, 99, 87, 1, []),
  (99, .iload_n 3, 100, 0, 0, []),
  (100, .ireturn, 101, 0, 0, [])]
def zc95 : List (Nat × zm_E) := [(0, .aload_n 0, 1, 0, 0, []),
  (1, .invokevirtual 130, 4, 76, 0, []),
  (4, .istore_n 2, 5, 0, 0, []),
  (5, .iload_n 1, 6, 0, 0, []),
  (6, .iconst 1, 7, 0, 0, []),
  (7, .if_icmp .eq 8, 10, 15, 0, []),
  (10, .iload_n 1, 11, 0, 0, []),
  (11, .iconst 2, 12, 0, 0, []),
  (12, .if_icmp .ne 8, 15, 20, 0, []),
  (15, .iload_n 2, 16, 0, 0, []),
  (16, .iconst (-1), 17, 0, 0, []),
  (17, .if_icmp .eq 5, 20, 22, 0, []),
  (20, .iconst (-1), 21, 0, 0, []),
  (21, .ireturn, 22, 0, 0, []),
  (22, .aload_n 0, 23, 0, 0, []),
  (23, .iconst 0, 24, 0, 0, []),
  (24, .aload_n 0, 25, 0, 0, []),
  (25, .getfield 58, 28, 8, 3, []),
  (28, .invokevirtual 133, 31, 92, 2, []),
  (31, .istore_n 3, 32, 0, 0, []),
  (32, .iload_n 3, 33, 0, 0, []),
  (33, .ifCond .ge 5, 36, 38, 0, []),
  (36, .iload_n 3, 37, 0, 0, []),
  (37, .ireturn, 38, 0, 0, []),
  (38, .aload_n 0, 39, 0, 0, []),
  (39, .getfield 93, 42, 8, 20, []),
  (42, .ifCond .le 8, 45, 50, 0, []),
  (45, .bipush (-3), 47, 0, 0, []),
  (47, .goto 9, 50, 56, 0, []),
  (50, .aload_n 0, 51, 0, 0, []),
  (51, .iload_n 1, 52, 0, 0, []),
  (52, .iconst 1, 53, 0, 0, []),
  (53, .invokevirtual 136, 56, 94, 2, []),
  (56, .ireturn, 57, 0, 0, [])]
def zc96 : List (Nat × zm_E) := [(0, .aload_n 0, 1, 0, 0, []),
  (1, .invokevirtual 130, 4, 76, 0, []),
  (4, .istore_n 1, 5, 0, 0, []),
  (5, .iload_n 1, 6, 0, 0, []),
  (6, .ifCond .ge 5, 9, 11, 0, []),
  (9, .iconst (-1), 10, 0, 0, []),
  (10, .ireturn, 11, 0, 0, []),
  (11, .aload_n 0, 12, 0, 0, []),
  (12, .iconst 0, 13, 0, 0, []),
  (13, .iload_n 1, 14, 0, 0, []),
  (14, .iconst 0, 15, 0, 0, []),
  (15, .invokevirtual 115, 18, 90, 3, []),
  (18, .istore_n 2, 19, 0, 0, []),
  (19, .iload_n 2, 20, 0, 0, []),
  (20, .ifCond .ge 5, 23, 25, 0, []),
  (23, .iload_n 2, 24, 0, 0, []),
  (24, .ireturn, 25, 0, 0, []),
  (25, .aload_n 0, 26, 0, 0, []),
  (26, .getfield 93, 29, 8, 20, []),
  (29, .istore_n 3, 30, 0, 0, []),
  (30, .aload_n 0, 31, 0, 0, []),
  (31, .iload_n 1, 32, 0, 0, []),
  (32, .iconst 1, 33, 0, 0, []),
  (33, .iadd, 34, 0, 0, []),
  (34, .aload_n 0, 35, 0, 0, []),
  (35, .getfield 58, 38, 8, 3, []),
  (38, .iload_n 1, 39, 0, 0, []),
  (39, .isub, 40, 0, 0, []),
  (40, .iconst 1, 41, 0, 0, []),
  (41, .isub, 42, 0, 0, []),
  (42, .invokevirtual 133, 45, 92, 2, []),
  (45, .istore_n 2, 46, 0, 0, []),
  (46, .iload_n 2, 47, 0, 0, []),
  (47, .ifCond .ge 5, 50, 52, 0, []),
  (50, .iload_n 2, 51, 0, 0, []),
  (51, .ireturn, 52, 0, 0, []),
  (52, .iload_n 3, 53, 0, 0, []),
  (53, .ifCond .ne 6, 56, 59, 0, []),
  (56, .bipush (-2), 58, 0, 0, []),
  (58, .ireturn, 59, 0, 0, []),
  (59, .aload_n 0, 60, 0, 0, []),
  (60, .getfield 20, 63, 8, 5, []),
  (63, .iload_n 3, 64, 0, 0, []),
  (64, .iaload, 65, 0, 0, []),
  (65, .iconst 2, 66, 0, 0, []),
  (66, .if_icmp .ne 6, 69, 72, 0, []),
  (69, .bipush (-5), 71, 0, 0, []),
  (71, .ireturn, 72, 0, 0, []),
  (72, .aload_n 0, 73, 0, 0, []),
  (73, .getfield 93, 76, 8, 20, []),
  (76, .ifCond .le 6, 79, 82, 0, []),
  (79, .bipush (-3), 81, 0, 0, []),
  (81, .ireturn, 82, 0, 0, []),
  (82, .aload_n 0, 83, 0, 0, []),
  (83, .getfield 68, 86, 8, 10, []),
  (86, .bipush 60, 88, 0, 0, []),
  (88, .if_icmp .eq 33, 91, 121, 0, []),
  (91, .aload_n 0, 92, 0, 0, []),
  (92, .invokevirtual 119, 95, 79, 0, []),
  (95, .aload_n 0, 96, 0, 0, []),
  (96, .aload_n 0, 97, 0, 0, []),
  (97, .getfield 75, 100, 8, 17, []),
  (100, .aload_n 0, 101, 0, 0, []),
  (101, .aload_n 0, 102, 0, 0, []),
  (102, .getfield 75, 105, 8, 17, []),
  (105, .invokevirtual 84, 108, 82, 1, []),
  (108, .iconst 1, 109, 0, 0, []),
  (109, .iadd, 110, 0, 0, []),
  (110, .invokevirtual 123, 113, 86, 2, []),
  (113, .iadd, 114, 0, 0, []),
  (114, .aload_n 0, 115, 0, 0, []),
  (115, .getfield 7, 118, 8, 0, []),
  (118, .if_icmp .le 6, 121, 124, 0, []),
  (121, .bipush (-7), 123, 0, 0, []),
  (123, .ireturn, 124, 0, 0, []),
  (124, .aload_n 0, 125, 0, 0, []),
  (125, .iload_n 3, 126, 0, 0, []),
  (126, .invokevirtual 127, 129, 87, 1, []),
  (129, .iload_n 3, 130, 0, 0, []),
  (130, .ireturn, 131, 0, 0, [])]
def zc97 : List (Nat × zm_E) := [(0, .aload_n 0, 1, 0, 0, []),
  (1, .invokevirtual 130, 4, 76, 0, []),
  (4, .istore_n 1, 5, 0, 0, []),
  (5, .aload_n 0, 6, 0, 0, []),
  (6, .getfield 58, 9, 8, 3, []),
  (9, .iload_n 1, 10, 0, 0, []),
  (10, .isub, 11, 0, 0, []),
  (11, .iconst 1, 12, 0, 0, []),
  (12, .isub, 13, 0, 0, []),
  (13, .istore_n 2, 14, 0, 0, []),
  (14, .iload_n 1, 15, 0, 0, []),
  (15, .ifCond .lt 15, 18, 30, 0, []),
  (18, .iload_n 2, 19, 0, 0, []),
  (19, .iconst 1, 20, 0, 0, []),
  (20, .if_icmp .lt 10, 23, 30, 0, []),
  (23, .iload_n 2, 24, 0, 0, []),
  (24, .sipush 1000, 27, 0, 0, []),
  (27, .if_icmp .le 5, 30, 32, 0, []),
  (30, .iconst (-1), 31, 0, 0, []),
  (31, .ireturn, 32, 0, 0, []),
  (32, .aload_n 0, 33, 0, 0, []),
  (33, .iconst 0, 34, 0, 0, []),
  (34, .iload_n 1, 35, 0, 0, []),
  (35, .invokevirtual 133, 38, 92, 2, []),
  (38, .istore_n 3, 39, 0, 0, []),
  (39, .iload_n 3, 40, 0, 0, []),
  (40, .ifCond .ge 5, 43, 45, 0, []),
  (43, .iload_n 3, 44, 0, 0, []),
  (44, .ireturn, 45, 0, 0, []),
  (45, .aload_n 0, 46, 0, 0, []),
  (46, .getfield 93, 49, 8, 20, []),
  (49, .ifCond .le 6, 52, 55, 0, []),
  (52, .bipush (-3), 54, 0, 0, []),
  (54, .ireturn, 55, 0, 0, []),
  (55, .aload_n 0, 56, 0, 0, []),
  (56, .iconst 3, 57, 0, 0, []),
  (57, .iload_n 2, 58, 0, 0, []),
  (58, .bipush 59, 60, 0, 0, []),
  (60, .if_icmp .le 7, 63, 67, 0, []),
  (63, .iconst 1, 64, 0, 0, []),
  (64, .goto 4, 67, 68, 0, []),
  (67, .iconst 0, 68, 0, 0, []),
  (68, .invokevirtual 136, 71, 94, 2, []),
  (71, .istore 4, 73, 0, 0, []),
  (73, .iload 4, 75, 0, 0, []),
  (75, .ifCond .ge 6, 78, 81, 0, []),
  (78, .iload 4, 80, 0, 0, []),
  (80, .ireturn, 81, 0, 0, []),
  (81, .aload_n 0, 82, 0, 0, []),
  (82, .getfield 29, 85, 8, 8, []),
  (85, .iload 4, 87, 0, 0, []),
  (87, .iload_n 2, 88, 0, 0, []),
  (88, .iastore, 89, 0, 0, []),
  (89, .iconst 0, 90, 0, 0, []),
  (90, .istore 5, 92, 0, 0, []),
  (92, .iload 5, 94, 0, 0, []),
  (94, .iload_n 2, 95, 0, 0, []),
  (95, .if_icmp .ge 35, 98, 130, 0, []),
  (98, .aload_n 0, 99, 0, 0, []),
  (99, .getfield 33, 102, 8, 9, []),
  (102, .sipush 1000, 105, 0, 0, []),
  (105, .iload 4, 107, 0, 0, []),
  (107, .imul, 108, 0, 0, []),
  (108, .iload 5, 110, 0, 0, []),
  (110, .iadd, 111, 0, 0, []),
  (111, .aload_n 0, 112, 0, 0, []),
  (112, .getfield 17, 115, 8, 4, []),
  (115, .iload_n 1, 116, 0, 0, []),
  (116, .iconst 1, 117, 0, 0, []),
  (117, .iadd, 118, 0, 0, []),
  (118, .iload 5, 120, 0, 0, []),
  (120, .iadd, 121, 0, 0, []),
  (121, .iaload, 122, 0, 0, []),
  (122, .i2b, 123, 0, 0, []),
  (123, .bastore, 124, 0, 0, []),
  (124, .iinc 5 1, 127, 0, 0, []),
  (127, .goto (-35), 130, 92, 0, []),
  (130, .iload 4, 132, 0, 0, []),
  (132, .ireturn, 133, 0, 0, [])]
def zc98 : List (Nat × zm_E) := [(0, .aload_n 0, 1, 0, 0, []),
  (1, .invokevirtual 130, 4, 76, 0, []),
  (4, .istore_n 1, 5, 0, 0, []),
  (5, .iload_n 1, 6, 0, 0, []),
  (6, .iconst (-1), 7, 0, 0, []),
  (7, .if_icmp .eq 5, 10, 12, 0, []),
  (10, .iconst (-1), 11, 0, 0, []),
  (11, .ireturn, 12, 0, 0, []),
  (12, .aload_n 0, 13, 0, 0, []),
  (13, .iconst 0, 14, 0, 0, []),
  (14, .aload_n 0, 15, 0, 0, []),
  (15, .getfield 58, 18, 8, 3, []),
  (18, .invokevirtual 133, 21, 92, 2, []),
  (21, .istore_n 2, 22, 0, 0, []),
  (22, .iload_n 2, 23, 0, 0, []),
  (23, .ifCond .ge 5, 26, 28, 0, []),
  (26, .iload_n 2, 27, 0, 0, []),
  (27, .ireturn, 28, 0, 0, []),
  (28, .aload_n 0, 29, 0, 0, []),
  (29, .getfield 93, 32, 8, 20, []),
  (32, .ifCond .ne 6, 35, 38, 0, []),
  (35, .bipush (-2), 37, 0, 0, []),
  (37, .ireturn, 38, 0, 0, []),
  (38, .aload_n 0, 39, 0, 0, []),
  (39, .getfield 20, 42, 8, 5, []),
  (42, .aload_n 0, 43, 0, 0, []),
  (43, .getfield 93, 46, 8, 20, []),
  (46, .iaload, 47, 0, 0, []),
  (47, .iconst 2, 48, 0, 0, []),
  (48, .if_icmp .ne 6, 51, 54, 0, []),
  (51, .bipush (-5), 53, 0, 0, []),
  (53, .ireturn, 54, 0, 0, []),
  (54, .aload_n 0, 55, 0, 0, []),
  (55, .aload_n 0, 56, 0, 0, []),
  (56, .aload_n 0, 57, 0, 0, []),
  (57, .getfield 75, 60, 8, 17, []),
  (60, .aload_n 0, 61, 0, 0, []),
  (61, .getfield 81, 64, 8, 18, []),
  (64, .aload_n 0, 65, 0, 0, []),
  (65, .getfield 78, 68, 8, 19, []),
  (68, .invokevirtual 107, 71, 85, 3, []),
  (71, .invokevirtual 139, 74, 88, 1, []),
  (74, .aload_n 0, 75, 0, 0, []),
  (75, .getfield 93, 78, 8, 20, []),
  (78, .ireturn, 79, 0, 0, [])]
def zc99 : List (Nat × zm_E) := [(0, .aload_n 0, 1, 0, 0, []),
  (1, .invokevirtual 130, 4, 76, 0, []),
  (4, .istore_n 1, 5, 0, 0, []),
  (5, .iload_n 1, 6, 0, 0, []),
  (6, .iconst (-1), 7, 0, 0, []),
  (7, .if_icmp .eq 5, 10, 12, 0, []),
  (10, .iconst (-1), 11, 0, 0, []),
  (11, .ireturn, 12, 0, 0, []),
  (12, .aload_n 0, 13, 0, 0, []),
  (13, .iconst 0, 14, 0, 0, []),
  (14, .aload_n 0, 15, 0, 0, []),
  (15, .getfield 58, 18, 8, 3, []),
  (18, .invokevirtual 133, 21, 92, 2, []),
  (21, .istore_n 2, 22, 0, 0, []),
  (22, .iload_n 2, 23, 0, 0, []),
  (23, .ifCond .ge 5, 26, 28, 0, []),
  (26, .iload_n 2, 27, 0, 0, []),
  (27, .ireturn, 28, 0, 0, []),
  (28, .aload_n 0, 29, 0, 0, []),
  (29, .getfield 93, 32, 8, 20, []),
  (32, .ifCond .ne 6, 35, 38, 0, []),
  (35, .bipush (-2), 37, 0, 0, []),
  (37, .ireturn, 38, 0, 0, []),
  (38, .aload_n 0, 39, 0, 0, []),
  (39, .getfield 20, 42, 8, 5, []),
  (42, .aload_n 0, 43, 0, 0, []),
  (43, .getfield 93, 46, 8, 20, []),
  (46, .iaload, 47, 0, 0, []),
  (47, .iconst 2, 48, 0, 0, []),
  (48, .if_icmp .eq 6, 51, 54, 0, []),
  (51, .bipush (-4), 53, 0, 0, []),
  (53, .ireturn, 54, 0, 0, []),
  (54, .aload_n 0, 55, 0, 0, []),
  (55, .aload_n 0, 56, 0, 0, []),
  (56, .getfield 93, 59, 8, 20, []),
  (59, .invokevirtual 84, 62, 82, 1, []),
  (62, .ifCond .le 6, 65, 68, 0, []),
  (65, .bipush (-6), 67, 0, 0, []),
  (67, .ireturn, 68, 0, 0, []),
  (68, .aload_n 0, 69, 0, 0, []),
  (69, .aload_n 0, 70, 0, 0, []),
  (70, .aload_n 0, 71, 0, 0, []),
  (71, .getfield 75, 74, 8, 17, []),
  (74, .aload_n 0, 75, 0, 0, []),
  (75, .getfield 81, 78, 8, 18, []),
  (78, .aload_n 0, 79, 0, 0, []),
  (79, .getfield 78, 82, 8, 19, []),
  (82, .invokevirtual 107, 85, 85, 3, []),
  (85, .invokevirtual 139, 88, 88, 1, []),
  (88, .aload_n 0, 89, 0, 0, []),
  (89, .getfield 93, 92, 8, 20, []),
  (92, .ireturn, 93, 0, 0, [])]
def zc100 : List (Nat × zm_E) := [(0, .iload_n 1, 1, 0, 0, []),
  (1, .istore_n 3, 2, 0, 0, []),
  (2, .iload_n 3, 3, 0, 0, []),
  (3, .iload_n 2, 4, 0, 0, []),
  (4, .if_icmp .eq 17, 7, 21, 0, []),
  (7, .iload_n 3, 8, 0, 0, []),
  (8, .iconst 1, 9, 0, 0, []),
  (9, .if_icmp .eq 12, 12, 21, 0, []),
  (12, .aload_n 0, 13, 0, 0, []),
  (13, .iload_n 3, 14, 0, 0, []),
  (14, .invokevirtual 104, 17, 83, 1, []),
  (17, .istore_n 3, 18, 0, 0, []),
  (18, .goto (-16), 21, 2, 0, []),
  (21, .iload_n 3, 22, 0, 0, []),
  (22, .iload_n 2, 23, 0, 0, []),
  (23, .if_icmp .ne 7, 26, 30, 0, []),
  (26, .iconst 1, 27, 0, 0, []),
  (27, .goto 4, 30, 31, 0, []),
  (30, .iconst 0, 31, 0, 0, []),
  (31, .ireturn, 32, 0, 0, [])]
def zc101 : List (Nat × zm_E) := [(0, .aload_n 0, 1, 0, 0, []),
  (1, .invokevirtual 130, 4, 76, 0, []),
  (4, .istore_n 1, 5, 0, 0, []),
  (5, .iload_n 1, 6, 0, 0, []),
  (6, .ifCond .ge 5, 9, 11, 0, []),
  (9, .iconst (-1), 10, 0, 0, []),
  (10, .ireturn, 11, 0, 0, []),
  (11, .aload_n 0, 12, 0, 0, []),
  (12, .iconst 0, 13, 0, 0, []),
  (13, .iload_n 1, 14, 0, 0, []),
  (14, .invokevirtual 133, 17, 92, 2, []),
  (17, .istore_n 2, 18, 0, 0, []),
  (18, .iload_n 2, 19, 0, 0, []),
  (19, .ifCond .ge 5, 22, 24, 0, []),
  (22, .iload_n 2, 23, 0, 0, []),
  (23, .ireturn, 24, 0, 0, []),
  (24, .aload_n 0, 25, 0, 0, []),
  (25, .getfield 93, 28, 8, 20, []),
  (28, .istore_n 3, 29, 0, 0, []),
  (29, .iload_n 3, 30, 0, 0, []),
  (30, .ifCond .ne 7, 33, 37, 0, []),
  (33, .iconst (-1), 34, 0, 0, []),
  (34, .goto 19, 37, 53, 0, []),
  (37, .aload_n 0, 38, 0, 0, []),
  (38, .aload_n 0, 39, 0, 0, []),
  (39, .getfield 75, 42, 8, 17, []),
  (42, .aload_n 0, 43, 0, 0, []),
  (43, .getfield 81, 46, 8, 18, []),
  (46, .aload_n 0, 47, 0, 0, []),
  (47, .getfield 78, 50, 8, 19, []),
  (50, .invokevirtual 107, 53, 85, 3, []),
  (53, .istore 4, 55, 0, 0, []),
  (55, .aload_n 0, 56, 0, 0, []),
  (56, .iload_n 1, 57, 0, 0, []),
  (57, .iconst 1, 58, 0, 0, []),
  (58, .iadd, 59, 0, 0, []),
  (59, .aload_n 0, 60, 0, 0, []),
  (60, .getfield 58, 63, 8, 3, []),
  (63, .iload_n 1, 64, 0, 0, []),
  (64, .isub, 65, 0, 0, []),
  (65, .iconst 1, 66, 0, 0, []),
  (66, .isub, 67, 0, 0, []),
  (67, .invokevirtual 133, 70, 92, 2, []),
  (70, .istore_n 2, 71, 0, 0, []),
  (71, .iload_n 2, 72, 0, 0, []),
  (72, .ifCond .ge 5, 75, 77, 0, []),
  (75, .iload_n 2, 76, 0, 0, []),
  (76, .ireturn, 77, 0, 0, []),
  (77, .iload_n 3, 78, 0, 0, []),
  (78, .ifCond .ne 6, 81, 84, 0, []),
  (81, .bipush (-2), 83, 0, 0, []),
  (83, .ireturn, 84, 0, 0, []),
  (84, .aload_n 0, 85, 0, 0, []),
  (85, .getfield 93, 88, 8, 20, []),
  (88, .iload_n 3, 89, 0, 0, []),
  (89, .if_icmp .ne 5, 92, 94, 0, []),
  (92, .iload_n 3, 93, 0, 0, []),
  (93, .ireturn, 94, 0, 0, []),
  (94, .aload_n 0, 95, 0, 0, []),
  (95, .getfield 20, 98, 8, 5, []),
  (98, .iload_n 3, 99, 0, 0, []),
  (99, .iaload, 100, 0, 0, []),
  (100, .iconst 2, 101, 0, 0, []),
  (101, .if_icmp .ne 7, 104, 108, 0, []),
  (104, .iconst 1, 105, 0, 0, []),
  (105, .goto 4, 108, 109, 0, []),
  (108, .iconst 0, 109, 0, 0, []),
  (109, .istore 5, 111, 0, 0, []),
  (111, .iload 5, 113, 0, 0, []),
  (113, .ifCond .eq 18, 116, 131, 0, []),
  (116, .aload_n 0, 117, 0, 0, []),
  (117, .aload_n 0, 118, 0, 0, []),
  (118, .getfield 75, 121, 8, 17, []),
  (121, .iload_n 3, 122, 0, 0, []),
  (122, .invokevirtual 142, 125, 100, 2, []),
  (125, .ifCond .eq 6, 128, 131, 0, []),
  (128, .bipush (-10), 130, 0, 0, []),
  (130, .ireturn, 131, 0, 0, []),
  (131, .aload_n 0, 132, 0, 0, []),
  (132, .getfield 93, 135, 8, 20, []),
  (135, .ifCond .le 20, 138, 155, 0, []),
  (138, .aload_n 0, 139, 0, 0, []),
  (139, .getfield 20, 142, 8, 5, []),
  (142, .aload_n 0, 143, 0, 0, []),
  (143, .getfield 93, 146, 8, 20, []),
  (146, .iaload, 147, 0, 0, []),
  (147, .iconst 2, 148, 0, 0, []),
  (148, .if_icmp .ne 7, 151, 155, 0, []),
  (151, .iconst 1, 152, 0, 0, []),
  (152, .goto 4, 155, 156, 0, []),
  (155, .iconst 0, 156, 0, 0, []),
  (156, .istore 6, 158, 0, 0, []),
  (158, .aload_n 0, 159, 0, 0, []),
  (159, .getfield 93, 162, 8, 20, []),
  (162, .ifCond .le 16, 165, 178, 0, []),
  (165, .iload 5, 167, 0, 0, []),
  (167, .ifCond .eq 11, 170, 178, 0, []),
  (170, .iload 6, 172, 0, 0, []),
  (172, .ifCond .ne 6, 175, 178, 0, []),
  (175, .bipush (-4), 177, 0, 0, []),
  (177, .ireturn, 178, 0, 0, []),
  (178, .iload 6, 180, 0, 0, []),
  (180, .ifCond .eq 11, 183, 191, 0, []),
  (183, .iload 5, 185, 0, 0, []),
  (185, .ifCond .ne 6, 188, 191, 0, []),
  (188, .bipush (-5), 190, 0, 0, []),
  (190, .ireturn, 191, 0, 0, []),
  (191, .iload 6, 193, 0, 0, []),
  (193, .ifCond .eq 17, 196, 210, 0, []),
  (196, .aload_n 0, 197, 0, 0, []),
  (197, .aload_n 0, 198, 0, 0, []),
  (198, .getfield 93, 201, 8, 20, []),
  (201, .invokevirtual 84, 204, 82, 1, []),
  (204, .ifCond .le 6, 207, 210, 0, []),
  (207, .bipush (-6), 209, 0, 0, []),
  (209, .ireturn, 210, 0, 0, []),
  (210, .aload_n 0, 211, 0, 0, []),
  (211, .getfield 93, 214, 8, 20, []),
  (214, .ifCond .le 31, 217, 245, 0, []),
  (217, .aload_n 0, 218, 0, 0, []),
  (218, .aload_n 0, 219, 0, 0, []),
  (219, .getfield 93, 222, 8, 20, []),
  (222, .invokevirtual 87, 225, 81, 1, []),
  (225, .iconst 1, 226, 0, 0, []),
  (226, .if_icmp .ne 19, 229, 245, 0, []),
  (229, .aload_n 0, 230, 0, 0, []),
  (230, .getfield 26, 233, 8, 7, []),
  (233, .aload_n 0, 234, 0, 0, []),
  (234, .getfield 93, 237, 8, 20, []),
  (237, .iaload, 238, 0, 0, []),
  (238, .ifCond .ne 7, 241, 245, 0, []),
  (241, .iconst 1, 242, 0, 0, []),
  (242, .goto 4, 245, 246, 0, []),
  (245, .iconst 0, 246, 0, 0, []),
  (246, .istore 7, 248, 0, 0, []),
  (248, .aload_n 0, 249, 0, 0, []),
  (249, .aload_n 0, 250, 0, 0, []),
  (250, .getfield 75, 253, 8, 17, []),
  (253, .invokevirtual 84, 256, 82, 1, []),
  (256, .iconst 1, 257, 0, 0, []),
  (257, .iadd, 258, 0, 0, []),
  (258, .aload_n 0, 259, 0, 0, []),
  (259, .getfield 37, 262, 8, 11, []),
  (262, .iload 4, 264, 0, 0, []),
  (264, .iaload, 265, 0, 0, []),
  (265, .aload_n 0, 266, 0, 0, []),
  (266, .getfield 75, 269, 8, 17, []),
  (269, .if_icmp .ne 7, 272, 276, 0, []),
  (272, .iconst 1, 273, 0, 0, []),
  (273, .goto 4, 276, 277, 0, []),
  (276, .iconst 0, 277, 0, 0, []),
  (277, .isub, 278, 0, 0, []),
  (278, .aload_n 0, 279, 0, 0, []),
  (279, .getfield 93, 282, 8, 20, []),
  (282, .ifCond .le 7, 285, 289, 0, []),
  (285, .iconst 1, 286, 0, 0, []),
  (286, .goto 4, 289, 290, 0, []),
  (289, .iconst 0, 290, 0, 0, []),
  (290, .isub, 291, 0, 0, []),
  (291, .istore 8, 293, 0, 0, []),
  (293, .aload_n 0, 294, 0, 0, []),
  (294, .invokevirtual 119, 297, 79, 0, []),
  (297, .iload 7, 299, 0, 0, []),
  (299, .ifCond .eq 14, 302, 313, 0, []),
  (302, .aload_n 0, 303, 0, 0, []),
  (303, .aload_n 0, 304, 0, 0, []),
  (304, .getfield 93, 307, 8, 20, []),
  (307, .invokevirtual 65, 310, 78, 1, []),
  (310, .goto 4, 313, 314, 0, []),
  (313, .iconst 0, 314, 0, 0, []),
  (314, .isub, 315, 0, 0, []),
  (315, .aload_n 0, 316, 0, 0, []),
  (316, .aload_n 0, 317, 0, 0, []),
  (317, .getfield 75, 320, 8, 17, []),
  (320, .iload 8, 322, 0, 0, []),
  (322, .invokevirtual 123, 325, 86, 2, []),
  (325, .iadd, 326, 0, 0, []),
  (326, .aload_n 0, 327, 0, 0, []),
  (327, .getfield 7, 330, 8, 0, []),
  (330, .if_icmp .le 6, 333, 336, 0, []),
  (333, .bipush (-7), 335, 0, 0, []),
  (335, .ireturn, 336, 0, 0, []),
  (336, .aload_n 0, 337, 0, 0, []),
  (337, .getfield 26, 340, 8, 7, []),
  (340, .iload_n 3, 341, 0, 0, []),
  (341, .dup2, 342, 0, 0, []),
  (342, .iaload, 343, 0, 0, []),
  (343, .iconst 1, 344, 0, 0, []),
  (344, .iadd, 345, 0, 0, []),
  (345, .iastore, 346, 0, 0, []),
  (346, .aload_n 0, 347, 0, 0, []),
  (347, .iload 4, 349, 0, 0, []),
  (349, .invokevirtual 139, 352, 88, 1, []),
  (352, .aload_n 0, 353, 0, 0, []),
  (353, .getfield 93, 356, 8, 20, []),
  (356, .ifCond .le 23, 359, 379, 0, []),
  (359, .aload_n 0, 360, 0, 0, []),
  (360, .aload_n 0, 361, 0, 0, []),
  (361, .aload_n 0, 362, 0, 0, []),
  (362, .getfield 75, 365, 8, 17, []),
  (365, .aload_n 0, 366, 0, 0, []),
  (366, .getfield 81, 369, 8, 18, []),
  (369, .aload_n 0, 370, 0, 0, []),
  (370, .getfield 78, 373, 8, 19, []),
  (373, .invokevirtual 107, 376, 85, 3, []),
  (376, .invokevirtual 139, 379, 88, 1, []),
  (379, .aload_n 0, 380, 0, 0, []),
  (380, .getfield 26, 383, 8, 7, []),
  (383, .iload_n 3, 384, 0, 0, []),
  (384, .dup2, 385, 0, 0, []),
  (385, .iaload, 386, 0, 0, []),
  (386, .iconst 1, 387, 0, 0, []),
  (387, .isub, 388, 0, 0, []),
  (388, .iastore, 389, 0, 0, []),
  (389, .aload_n 0, 390, 0, 0, []),
  (390, .iload_n 3, 391, 0, 0, []),
  (391, .invokevirtual 127, 394, 87, 1, []),
  (394, .iload_n 3, 395, 0, 0, []),
  (395, .ireturn, 396, 0, 0, [])]
def zc102 : List (Nat × zm_E) := [(0, .aload_n 0, 1, 0, 0, []),
  (1, .invokevirtual 130, 4, 76, 0, []),
  (4, .istore_n 2, 5, 0, 0, []),
  (5, .iload_n 2, 6, 0, 0, []),
  (6, .iconst (-1), 7, 0, 0, []),
  (7, .if_icmp .eq 5, 10, 12, 0, []),
  (10, .iconst (-1), 11, 0, 0, []),
  (11, .ireturn, 12, 0, 0, []),
  (12, .aload_n 0, 13, 0, 0, []),
  (13, .iconst 0, 14, 0, 0, []),
  (14, .aload_n 0, 15, 0, 0, []),
  (15, .getfield 58, 18, 8, 3, []),
  (18, .iload_n 1, 19, 0, 0, []),
  (19, .invokevirtual 115, 22, 90, 3, []),
  (22, .istore_n 3, 23, 0, 0, []),
  (23, .iload_n 3, 24, 0, 0, []),
  (24, .ifCond .ge 7, 27, 31, 0, []),
  (27, .iload_n 3, 28, 0, 0, []),
  (28, .goto 19, 31, 47, 0, []),
  (31, .aload_n 0, 32, 0, 0, []),
  (32, .getfield 93, 35, 8, 20, []),
  (35, .ifCond .ne 8, 38, 43, 0, []),
  (38, .bipush (-2), 40, 0, 0, []),
  (40, .goto 7, 43, 47, 0, []),
  (43, .aload_n 0, 44, 0, 0, []),
  (44, .getfield 93, 47, 8, 20, []),
  (47, .ireturn, 48, 0, 0, [])]
def zc103 : List (Nat × zm_E) := [(0, .aload_n 0, 1, 0, 0, []),
  (1, .invokevirtual 130, 4, 76, 0, []),
  (4, .istore_n 1, 5, 0, 0, []),
  (5, .iload_n 1, 6, 0, 0, []),
  (6, .iconst (-1), 7, 0, 0, []),
  (7, .if_icmp .eq 5, 10, 12, 0, []),
  (10, .iconst (-1), 11, 0, 0, []),
  (11, .ireturn, 12, 0, 0, []),
  (12, .aload_n 0, 13, 0, 0, []),
  (13, .iconst 0, 14, 0, 0, []),
  (14, .aload_n 0, 15, 0, 0, []),
  (15, .getfield 58, 18, 8, 3, []),
  (18, .iconst 1, 19, 0, 0, []),
  (19, .invokevirtual 115, 22, 90, 3, []),
  (22, .istore_n 2, 23, 0, 0, []),
  (23, .iload_n 2, 24, 0, 0, []),
  (24, .ifCond .ge 5, 27, 29, 0, []),
  (27, .iload_n 2, 28, 0, 0, []),
  (28, .ireturn, 29, 0, 0, []),
  (29, .aload_n 0, 30, 0, 0, []),
  (30, .getfield 93, 33, 8, 20, []),
  (33, .ifCond .ne 6, 36, 39, 0, []),
  (36, .bipush (-2), 38, 0, 0, []),
  (38, .ireturn, 39, 0, 0, []),
  (39, .aload_n 0, 40, 0, 0, []),
  (40, .getfield 20, 43, 8, 5, []),
  (43, .aload_n 0, 44, 0, 0, []),
  (44, .getfield 93, 47, 8, 20, []),
  (47, .iaload, 48, 0, 0, []),
  (48, .iconst 1, 49, 0, 0, []),
  (49, .if_icmp .ne 17, 52, 66, 0, []),
  (52, .aload_n 0, 53, 0, 0, []),
  (53, .getfield 26, 56, 8, 7, []),
  (56, .aload_n 0, 57, 0, 0, []),
  (57, .getfield 93, 60, 8, 20, []),
  (60, .iaload, 61, 0, 0, []),
  (61, .bipush 100, 63, 0, 0, []),
  (63, .if_icmp .ne 5, 66, 68, 0, []),
  (66, .iconst (-1), 67, 0, 0, []),
  (67, .ireturn, 68, 0, 0, []),
  (68, .aload_n 0, 69, 0, 0, []),
  (69, .getfield 26, 72, 8, 7, []),
  (72, .aload_n 0, 73, 0, 0, []),
  (73, .getfield 93, 76, 8, 20, []),
  (76, .dup2, 77, 0, 0, []),
  (77, .iaload, 78, 0, 0, []),
  (78, .iconst 1, 79, 0, 0, []),
  (79, .iadd, 80, 0, 0, []),
  (80, .iastore, 81, 0, 0, []),
  (81, .aload_n 0, 82, 0, 0, []),
  (82, .getfield 93, 85, 8, 20, []),
  (85, .ireturn, 86, 0, 0, [])]
def zc104 : List (Nat × zm_E) := [(0, .iload_n 1, 1, 0, 0, []),
  (1, .iconst 1, 2, 0, 0, []),
  (2, .if_icmp .lt 22, 5, 24, 0, []),
  (5, .iload_n 1, 6, 0, 0, []),
  (6, .bipush 40, 8, 0, 0, []),
  (8, .if_icmp .gt 16, 11, 24, 0, []),
  (11, .aload_n 0, 12, 0, 0, []),
  (12, .getfield 20, 15, 8, 5, []),
  (15, .iload_n 1, 16, 0, 0, []),
  (16, .iaload, 17, 0, 0, []),
  (17, .ifCond .le 7, 20, 24, 0, []),
  (20, .iconst 1, 21, 0, 0, []),
  (21, .goto 4, 24, 25, 0, []),
  (24, .iconst 0, 25, 0, 0, []),
  (25, .ireturn, 26, 0, 0, [])]
def zc105 : List (Nat × zm_E) := [(0, .aload_n 0, 1, 0, 0, []),
  (1, .iload_n 1, 2, 0, 0, []),
  (2, .invokevirtual 146, 5, 104, 1, []),
  (5, .ifCond .eq 12, 8, 17, 0, []),
  (8, .aload_n 0, 9, 0, 0, []),
  (9, .getfield 26, 12, 8, 7, []),
  (12, .iload_n 1, 13, 0, 0, []),
  (13, .iaload, 14, 0, 0, []),
  (14, .ifCond .ne 5, 17, 19, 0, []),
  (17, .iconst (-1), 18, 0, 0, []),
  (18, .ireturn, 19, 0, 0, []),
  (19, .aload_n 0, 20, 0, 0, []),
  (20, .getfield 26, 23, 8, 7, []),
  (23, .iload_n 1, 24, 0, 0, []),
  (24, .dup2, 25, 0, 0, []),
  (25, .iaload, 26, 0, 0, []),
  (26, .iconst 1, 27, 0, 0, []),
  (27, .isub, 28, 0, 0, []),
  (28, .iastore, 29, 0, 0, []),
  (29, .aload_n 0, 30, 0, 0, []),
  (30, .iload_n 1, 31, 0, 0, []),
  (31, .invokevirtual 87, 34, 81, 1, []),
  (34, .istore_n 2, 35, 0, 0, []),
  (35, .iload_n 2, 36, 0, 0, []),
  (36, .ifCond .ne 19, 39, 55, 0, []),
  (39, .aload_n 0, 40, 0, 0, []),
  (40, .getfield 26, 43, 8, 7, []),
  (43, .iload_n 1, 44, 0, 0, []),
  (44, .iaload, 45, 0, 0, []),
  (45, .ifCond .ne 10, 48, 55, 0, []),
  (48, .aload_n 0, 49, 0, 0, []),
  (49, .getfield 20, 52, 8, 5, []),
  (52, .iload_n 1, 53, 0, 0, []),
  (53, .iconst 0, 54, 0, 0, []),
  (54, .iastore, 55, 0, 0, []),
  (55, .iload_n 2, 56, 0, 0, []),
  (56, .ireturn, 57, 0, 0, [])]
def zc106 : List (Nat × zm_E) := [(0, .iconst 0, 1, 0, 0, []),
  (1, .istore_n 2, 2, 0, 0, []),
  (2, .iconst 0, 3, 0, 0, []),
  (3, .istore_n 3, 4, 0, 0, []),
  (4, .iload_n 3, 5, 0, 0, []),
  (5, .aload_n 0, 6, 0, 0, []),
  (6, .getfield 68, 9, 8, 10, []),
  (9, .if_icmp .ge 42, 12, 51, 0, []),
  (12, .iload_n 2, 13, 0, 0, []),
  (13, .aload_n 0, 14, 0, 0, []),
  (14, .getfield 37, 17, 8, 11, []),
  (17, .iload_n 3, 18, 0, 0, []),
  (18, .iaload, 19, 0, 0, []),
  (19, .iload_n 1, 20, 0, 0, []),
  (20, .if_icmp .ne 22, 23, 42, 0, []),
  (23, .aload_n 0, 24, 0, 0, []),
  (24, .getfield 20, 27, 8, 5, []),
  (27, .aload_n 0, 28, 0, 0, []),
  (28, .getfield 40, 31, 8, 12, []),
  (31, .iload_n 3, 32, 0, 0, []),
  (32, .iaload, 33, 0, 0, []),
  (33, .iaload, 34, 0, 0, []),
  (34, .iconst 2, 35, 0, 0, []),
  (35, .if_icmp .ne 7, 38, 42, 0, []),
  (38, .iconst 1, 39, 0, 0, []),
  (39, .goto 4, 42, 43, 0, []),
  (42, .iconst 0, 43, 0, 0, []),
  (43, .iadd, 44, 0, 0, []),
  (44, .istore_n 2, 45, 0, 0, []),
  (45, .iinc 3 1, 48, 0, 0, []),
  (48, .goto (-44), 51, 4, 0, []),
  (51, .iload_n 2, 52, 0, 0, []),
  (52, .ireturn, 53, 0, 0, [])]
def zc107 : List (Nat × zm_E) := [(0, .aload_n 0, 1, 0, 0, []),
  (1, .iload_n 1, 2, 0, 0, []),
  (2, .invokevirtual 146, 5, 104, 1, []),
  (5, .ifCond .eq 12, 8, 17, 0, []),
  (8, .iload_n 2, 9, 0, 0, []),
  (9, .ifCond .lt 8, 12, 17, 0, []),
  (12, .iload_n 2, 13, 0, 0, []),
  (13, .iconst 4, 14, 0, 0, []),
  (14, .if_icmp .le 5, 17, 19, 0, []),
  (17, .iconst (-1), 18, 0, 0, []),
  (18, .ireturn, 19, 0, 0, []),
  (19, .aload_n 0, 20, 0, 0, []),
  (20, .getfield 20, 23, 8, 5, []),
  (23, .iload_n 1, 24, 0, 0, []),
  (24, .iaload, 25, 0, 0, []),
  (25, .iconst 2, 26, 0, 0, []),
  (26, .if_icmp .ne 7, 29, 33, 0, []),
  (29, .iconst 1, 30, 0, 0, []),
  (30, .goto 4, 33, 34, 0, []),
  (33, .iconst 0, 34, 0, 0, []),
  (34, .istore_n 3, 35, 0, 0, []),
  (35, .iload_n 2, 36, 0, 0, []),
  (36, .tableswitch 103 0 3 #[32, 39, 59, 97], 68, 139, 0, [(0, 68), (1, 75), (2, 95), (3, 133)]),
  (68, .aload_n 0, 69, 0, 0, []),
  (69, .getfield 20, 72, 8, 5, []),
  (72, .iload_n 1, 73, 0, 0, []),
  (73, .iaload, 74, 0, 0, []),
  (74, .ireturn, 75, 0, 0, []),
  (75, .iload_n 3, 76, 0, 0, []),
  (76, .ifCond .eq 13, 79, 89, 0, []),
  (79, .iconst 2, 80, 0, 0, []),
  (80, .aload_n 0, 81, 0, 0, []),
  (81, .iload_n 1, 82, 0, 0, []),
  (82, .invokevirtual 150, 85, 106, 1, []),
  (85, .iadd, 86, 0, 0, []),
  (86, .goto 8, 89, 94, 0, []),
  (89, .aload_n 0, 90, 0, 0, []),
  (90, .iload_n 1, 91, 0, 0, []),
  (91, .invokevirtual 87, 94, 81, 1, []),
  (94, .ireturn, 95, 0, 0, []),
  (95, .iload_n 3, 96, 0, 0, []),
  (96, .ifCond .eq 11, 99, 107, 0, []),
  (99, .aload_n 0, 100, 0, 0, []),
  (100, .iload_n 1, 101, 0, 0, []),
  (101, .invokevirtual 84, 104, 82, 1, []),
  (104, .goto 28, 107, 132, 0, []),
  (107, .aload_n 0, 108, 0, 0, []),
  (108, .getfield 20, 111, 8, 5, []),
  (111, .iload_n 1, 112, 0, 0, []),
  (112, .iaload, 113, 0, 0, []),
  (113, .iconst 3, 114, 0, 0, []),
  (114, .if_icmp .ne 12, 117, 126, 0, []),
  (117, .aload_n 0, 118, 0, 0, []),
  (118, .getfield 29, 121, 8, 8, []),
  (121, .iload_n 1, 122, 0, 0, []),
  (122, .iaload, 123, 0, 0, []),
  (123, .goto 9, 126, 132, 0, []),
  (126, .aload_n 0, 127, 0, 0, []),
  (127, .getfield 26, 130, 8, 7, []),
  (130, .iload_n 1, 131, 0, 0, []),
  (131, .iaload, 132, 0, 0, []),
  (132, .ireturn, 133, 0, 0, []),
  (133, .aload_n 0, 134, 0, 0, []),
  (134, .iload_n 1, 135, 0, 0, []),
  (135, .invokevirtual 65, 138, 78, 1, []),
  (138, .ireturn, 139, 0, 0, []),
  (139, .iload_n 3, 140, 0, 0, []),
  (140, .ifCond .eq 11, 143, 151, 0, []),
  (143, .aload_n 0, 144, 0, 0, []),
  (144, .iload_n 1, 145, 0, 0, []),
  (145, .invokevirtual 104, 148, 83, 1, []),
  (148, .goto 4, 151, 152, 0, []),
  (151, .iconst 0, 152, 0, 0, []),
  (152, .ireturn, 153, 0, 0, [])]
def zc108 : List (Nat × zm_E) := [(0, .aload_n 0, 1, 0, 0, []),
  (1, .iload_n 1, 2, 0, 0, []),
  (2, .invokevirtual 146, 5, 104, 1, []),
  (5, .ifCond .eq 27, 8, 32, 0, []),
  (8, .aload_n 0, 9, 0, 0, []),
  (9, .getfield 20, 12, 8, 5, []),
  (12, .iload_n 1, 13, 0, 0, []),
  (13, .iaload, 14, 0, 0, []),
  (14, .iconst 3, 15, 0, 0, []),
  (15, .if_icmp .ne 17, 18, 32, 0, []),
  (18, .iload_n 2, 19, 0, 0, []),
  (19, .ifCond .lt 13, 22, 32, 0, []),
  (22, .iload_n 2, 23, 0, 0, []),
  (23, .aload_n 0, 24, 0, 0, []),
  (24, .getfield 29, 27, 8, 8, []),
  (27, .iload_n 1, 28, 0, 0, []),
  (28, .iaload, 29, 0, 0, []),
  (29, .if_icmp .lt 7, 32, 36, 0, []),
  (32, .iconst (-1), 33, 0, 0, []),
  (33, .goto 19, 36, 52, 0, []),
  (36, .aload_n 0, 37, 0, 0, []),
  (37, .getfield 33, 40, 8, 9, []),
  (40, .sipush 1000, 43, 0, 0, []),
  (43, .iload_n 1, 44, 0, 0, []),
  (44, .imul, 45, 0, 0, []),
  (45, .iload_n 2, 46, 0, 0, []),
  (46, .iadd, 47, 0, 0, []),
  (47, .baload, 48, 0, 0, []),
  (48, .sipush 255, 51, 0, 0, []),
  (51, .iand, 52, 0, 0, []),
  (52, .ireturn, 53, 0, 0, [])]
def zc109 : List (Nat × zm_E) := [(0, .iload_n 1, 1, 0, 0, []),
  (1, .ifCond .ne 10, 4, 11, 0, []),
  (4, .aload_n 0, 5, 0, 0, []),
  (5, .invokevirtual 153, 8, 80, 0, []),
  (8, .goto 40, 11, 48, 0, []),
  (11, .iload_n 1, 12, 0, 0, []),
  (12, .iconst 1, 13, 0, 0, []),
  (13, .if_icmp .ne 10, 16, 23, 0, []),
  (16, .aload_n 0, 17, 0, 0, []),
  (17, .getfield 68, 20, 8, 10, []),
  (20, .goto 28, 23, 48, 0, []),
  (23, .iload_n 1, 24, 0, 0, []),
  (24, .iconst 2, 25, 0, 0, []),
  (25, .if_icmp .ne 10, 28, 35, 0, []),
  (28, .aload_n 0, 29, 0, 0, []),
  (29, .getfield 53, 32, 8, 1, []),
  (32, .goto 16, 35, 48, 0, []),
  (35, .iload_n 1, 36, 0, 0, []),
  (36, .iconst 3, 37, 0, 0, []),
  (37, .if_icmp .ne 10, 40, 47, 0, []),
  (40, .aload_n 0, 41, 0, 0, []),
  (41, .invokevirtual 119, 44, 79, 0, []),
  (44, .goto 4, 47, 48, 0, []),
  (47, .iconst (-1), 48, 0, 0, []),
  (48, .ireturn, 49, 0, 0, [])]
def zt_cod_l : List (List (Nat × zm_E)) := [zc0,
  zc1,
  zc2,
  zc3,
  zc4,
  zc5,
  zc6,
  zc7,
  zc8,
  zc9,
  zc10,
  zc11,
  zc12,
  zc13,
  zc14,
  zc15,
  zc16,
  zc17,
  zc18,
  zc19,
  zc20,
  zc21,
  zc22,
  zc23,
  zc24,
  zc25,
  zc26,
  zc27,
  zc28,
  zc29,
  zc30,
  zc31,
  zc32,
  zc33,
  zc34,
  zc35,
  zc36,
  zc37,
  zc38,
  zc39,
  zc40,
  zc41,
  zc42,
  zc43,
  zc44,
  zc45,
  zc46,
  zc47,
  zc48,
  zc49,
  zc50,
  zc51,
  zc52,
  zc53,
  zc54,
  zc55,
  zc56,
  zc57,
  zc58,
  zc59,
  zc60,
  zc61,
  zc62,
  zc63,
  zc64,
  zc65,
  zc66,
  zc67,
  zc68,
  zc69,
  zc70,
  zc71,
  zc72,
  zc73,
  zc74,
  zc75,
  zc76,
  zc77,
  zc78,
  zc79,
  zc80,
  zc81,
  zc82,
  zc83,
  zc84,
  zc85,
  zc86,
  zc87,
  zc88,
  zc89,
  zc90,
  zc91,
  zc92,
  zc93,
  zc94,
  zc95,
  zc96,
  zc97,
  zc98,
  zc99,
  zc100,
  zc101,
  zc102,
  zc103,
  zc104,
  zc105,
  zc106,
  zc107,
  zc108,
  zc109]
def zt_cod (M : Nat) : List (Nat × zm_E) := zt_cod_l.getD M ([])
def zt_code (M pc : Nat) : Option zm_E := zm_lku (zt_cod M) pc
end
section
/-! THE SMALL MACHINE: the heap by abstract addresses (0: the law's script), a step an instruction, method calls by their numbers -/
/-- cells made, slots made, (tag, length) of a cell, contents -/
abbrev zm_H : Type := Nat × Nat × (Nat → Nat × Nat) × (Nat → Nat → Value)
def zm_nx (h : zm_H) : Nat := h.1
def zm_sl (h : zm_H) : Nat := h.2.1
def zm_tg (h : zm_H) (a : Nat) : Nat := (h.2.2.1 a).1
def zm_ln (h : zm_H) (a : Nat) : Nat := (h.2.2.1 a).2
def zm_at (h : zm_H) (a i : Nat) : Value := h.2.2.2 a i
def zm_put (h : zm_H) (a i : Nat) (v : Value) : zm_H := (h.1, h.2.1, h.2.2.1, fun b j => if b = a ∧ j = i then v else h.2.2.2 b j)
def zm_mk (h : zm_H) (t n : Nat) (f : Nat → Value) : zm_H := (h.1 + 1, h.2.1 + n, fun b => if b = h.1 then (t, n) else h.2.2.1 b, fun b j => if b = h.1 then f j else h.2.2.2 b j)
def zm_cp (h : zm_H) (s sp d dp n : Nat) : zm_H := (h.1, h.2.1, h.2.2.1, fun b j => if b = d ∧ dp ≤ j ∧ j < dp + n then h.2.2.2 s (sp + (j - dp)) else h.2.2.2 b j)
/-- a cell of that tag that may be written -/
def zm_is (h : zm_H) (a t : Nat) : Prop := 0 < a ∧ a < zm_nx h ∧ zm_tg h a = t
/-- a place that holds nothing -/
def zm_un : Value := .float 0
/-- what a field of that type takes -/
def zm_fit : FieldType → Value → Bool
  | .int, .int _ => true
  | .long, .long _ => true
  | .object _, .null => true
  | .object _, .ref _ => true
  | .array _, .null => true
  | .array _, .ref _ => true
  | .boolean, .int v => v == 0 || v == 1
  | .byte, .int v => v.toInt8.toInt32 == v && fits .byte (.int v)
  | _, _ => false
def zm_isK : Nat → Value → Bool
  | 0, .int _ => true
  | 1, .long _ => true
  | 2, .ref _ => true
  | 2, .null => true
  | _, _ => false
def zm_c1 : Value → Bool
  | .long _ => false
  | .double _ => false
  | _ => true
def zm_nl (ls : List Value) : Nat → Bool
  | 0 => true
  | j + 1 => match ls[j]? with
    | some v => zm_c1 v
    | none => true
def zm_ld (k : Nat) (ls : List Value) (j : Nat) (K : Value → Prop) : Prop := match ls[j]? with
  | some v => zm_isK k v = true ∧ K v
  | none => False
def zm_sto (k : Nat) (ls st : List Value) (j : Nat) (K : List Value → List Value → Prop) : Prop := match st with
  | v :: t => zm_isK k v = true ∧ j < ls.length ∧ zm_nl ls j = true ∧ K (ls.set j v) t
  | [] => False
def zm_stoL (ls st : List Value) (j : Nat) (K : List Value → List Value → Prop) : Prop := match st with
  | v :: t => zm_isK 1 v = true ∧ j + 1 < ls.length ∧ zm_nl ls j = true ∧ K ((ls.set j v).set (j + 1) zm_un) t
  | [] => False
def zm_s1 (st : List Value) (f : Int32 → Value) (K : List Value → Prop) : Prop := match st with
  | .int x :: t => K (f x :: t)
  | _ => False
def zm_s2 (st : List Value) (f : Int32 → Int32 → Value) (K : List Value → Prop) : Prop := match st with
  | .int y :: .int x :: t => K (f x y :: t)
  | _ => False
def zm_l1 (st : List Value) (f : Int64 → Value) (K : List Value → Prop) : Prop := match st with
  | .long x :: t => K (f x :: t)
  | _ => False
def zm_l2 (st : List Value) (f : Int64 → Int64 → Value) (K : List Value → Prop) : Prop := match st with
  | .long y :: .long x :: t => K (f x y :: t)
  | _ => False
def zm_lsh (st : List Value) (f : Int64 → Int32 → Value) (K : List Value → Prop) : Prop := match st with
  | .int y :: .long x :: t => K (f x y :: t)
  | _ => False
def zm_cd : Jvm.ClassFile.Cond → Int32 → Int32 → Prop
  | .eq, x, y => x = y
  | .ne, x, y => ¬ x = y
  | .lt, x, y => x < y
  | .ge, x, y => y ≤ x
  | .gt, x, y => y < x
  | .le, x, y => x ≤ y
/-- the default of an array's places, by its tag -/
def zm_df (t : Nat) : Value := if t = 102 then .long 0 else if t < 200 then .int 0 else .null
/-- tags of arrays of references -/
def zm_ro (t : Nat) : Bool := match zt_at t with
  | some (.object _) => true
  | _ => false
/-- where a switch goes -/
def zm_sw (d : Nat) : List (Int × Nat) → Int → Nat
  | [], _ => d
  | (k, t) :: l, x => if k = x then t else zm_sw d l x
/-- an array's place read -/
def zm_rd (st : List Value) (h : zm_H) (T : Nat → Bool) (K : List Value → Prop) : Prop := match st with
  | .int i :: .ref a :: t => a < zm_nx h ∧ T (zm_tg h a) = true ∧ vp_in i (zm_ln h a) ∧ K (zm_at h a i.toNatClampNeg :: t)
  | _ => False
/-- an array's place written with an int -/
def zm_wr (st : List Value) (h : zm_H) (tag : Nat) (f : Int32 → Int32) (K : List Value → zm_H → Prop) : Prop := match st with
  | .int v :: .int i :: .ref a :: t => zm_is h a tag ∧ vp_in i (zm_ln h a) ∧ K t (zm_put h a i.toNatClampNeg (.int (f v)))
  | _ => False
/-- arguments and rest: n values off the stack -/
def zm_ar (n : Nat) (st : List Value) : List Value := (st.take n).reverse
section
variable (C : Nat → List Value → zm_H → Option Value → zm_H → Prop) (k : Nat → List Value → List Value → zm_H → Prop) (np x y : Nat) (sw : List (Int × Nat)) (ls st : List Value) (h : zm_H)
/-- a call of the method x with n values off the stack -/
def zm_cl (n : Nat) : Prop := n ≤ st.length ∧ (st.drop n).length ≤ 4 ∧ ∃ r1 h1, C x (zm_ar n st) h r1 h1 ∧ k np ls (r1.toList ++ st.drop n) h1
/-- Math.max, Math.min, System.arraycopy of bytes, by their numbers -/
def zm_in : Prop := match x, st with
  | 1001, .int b :: .int a :: t => t.length ≤ 4 ∧ k np ls (.int (if a < b then b else a) :: t) h
  | 1002, .int b :: .int a :: t => t.length ≤ 4 ∧ k np ls (.int (if b < a then b else a) :: t) h
  | 1003, .int n :: .int dp :: .ref d :: .int sp :: .ref a :: t => t.length ≤ 4 ∧ zm_is h a 100 ∧ zm_is h d 100 ∧ ¬ sp < 0 ∧ ¬ dp < 0 ∧ ¬ n < 0 ∧ sp.toNatClampNeg + n.toNatClampNeg ≤ zm_ln h a ∧ dp.toNatClampNeg + n.toNatClampNeg ≤ zm_ln h d ∧ (∀ i, i < n.toNatClampNeg → zm_fit .byte (zm_at h a (sp.toNatClampNeg + i)) = true) ∧ k np ls t (zm_cp h a sp.toNatClampNeg d dp.toNatClampNeg n.toNatClampNeg)
  | _, _ => False
def zm_ex (ret : Option FieldType) (r : Option Value) (h' : zm_H) (i : Instr) : Prop := match i with
  | .iconst v => k np ls (.int (Int32.ofInt v) :: st) h
  | .bipush v => k np ls (.int (Int8.ofInt v).toInt32 :: st) h
  | .sipush v => k np ls (.int (Int16.ofInt v).toInt32 :: st) h
  | .ldc _ => match sw with
    | [(v, _)] => k np ls (.int (Int32.ofInt v) :: st) h
    | _ => False
  | .ldc2_w _ => match sw with
    | [(v, _)] => k np ls (.long (Int64.ofInt v) :: st) h
    | _ => False
  | .lconst n => k np ls (.long (Int64.ofNat n) :: st) h
  | .aconst_null => k np ls (.null :: st) h
  | .iload j => zm_ld 0 ls j (fun v => k np ls (v :: st) h)
  | .iload_n j => zm_ld 0 ls j (fun v => k np ls (v :: st) h)
  | .lload j => zm_ld 1 ls j (fun v => k np ls (v :: st) h)
  | .lload_n j => zm_ld 1 ls j (fun v => k np ls (v :: st) h)
  | .aload j => zm_ld 2 ls j (fun v => k np ls (v :: st) h)
  | .aload_n j => zm_ld 2 ls j (fun v => k np ls (v :: st) h)
  | .istore j => zm_sto 0 ls st j (fun ls' t => k np ls' t h)
  | .istore_n j => zm_sto 0 ls st j (fun ls' t => k np ls' t h)
  | .astore j => zm_sto 2 ls st j (fun ls' t => k np ls' t h)
  | .astore_n j => zm_sto 2 ls st j (fun ls' t => k np ls' t h)
  | .lstore j => zm_stoL ls st j (fun ls' t => k np ls' t h)
  | .lstore_n j => zm_stoL ls st j (fun ls' t => k np ls' t h)
  | .iinc j n => zm_ld 0 ls j (fun v => match v with
    | .int z => j < ls.length ∧ zm_nl ls j = true ∧ k np (ls.set j (.int (z + Int32.ofInt n))) st h
    | _ => False)
  | .iadd => zm_s2 st (fun a b => .int (a + b)) (fun t => k np ls t h)
  | .isub => zm_s2 st (fun a b => .int (a - b)) (fun t => k np ls t h)
  | .imul => zm_s2 st (fun a b => .int (a * b)) (fun t => k np ls t h)
  | .iand => zm_s2 st (fun a b => .int (a &&& b)) (fun t => k np ls t h)
  | .ior => zm_s2 st (fun a b => .int (a ||| b)) (fun t => k np ls t h)
  | .ixor => zm_s2 st (fun a b => .int (a ^^^ b)) (fun t => k np ls t h)
  | .land => zm_l2 st (fun a b => .long (a &&& b)) (fun t => k np ls t h)
  | .lor => zm_l2 st (fun a b => .long (a ||| b)) (fun t => k np ls t h)
  | .lushr => zm_lsh st (fun a b => .long (a.toUInt64 >>> (b.toInt64.toUInt64 &&& Int64.toUInt64 63)).toInt64) (fun t => k np ls t h)
  | .lshl => zm_lsh st (fun a b => .long (a <<< (b.toInt64 &&& 63))) (fun t => k np ls t h)
  | .lshr => zm_lsh st (fun a b => .long (a >>> (b.toInt64 &&& 63))) (fun t => k np ls t h)
  | .l2i => zm_l1 st (fun a => .int a.toInt32) (fun t => k np ls t h)
  | .i2l => zm_s1 st (fun a => .long a.toInt64) (fun t => k np ls t h)
  | .i2b => zm_s1 st (fun a => .int a.toInt8.toInt32) (fun t => k np ls t h)
  | .dup => match st with
    | v :: t => zm_c1 v = true ∧ k np ls (v :: v :: t) h
    | _ => False
  | .pop => match st with
    | v :: t => zm_c1 v = true ∧ k np ls t h
    | _ => False
  | .dup_x1 => match st with
    | v :: w :: t => zm_c1 v = true ∧ zm_c1 w = true ∧ k np ls (v :: w :: v :: t) h
    | _ => False
  | .dup2 => match st with
    | v :: w :: t => zm_c1 v = true ∧ zm_c1 w = true ∧ k np ls (v :: w :: v :: w :: t) h
    | _ => False
  | .ifCond cd _ => match st with
    | .int a :: t => (zm_cd cd a 0 → k x ls t h) ∧ (¬ zm_cd cd a 0 → k np ls t h)
    | _ => False
  | .if_icmp cd _ => match st with
    | .int b :: .int a :: t => (zm_cd cd a b → k x ls t h) ∧ (¬ zm_cd cd a b → k np ls t h)
    | _ => False
  | .if_acmp .eq _ => match st with
    | b :: a :: t => zm_isK 2 a = true ∧ zm_isK 2 b = true ∧ (a = b → k x ls t h) ∧ (¬ a = b → k np ls t h)
    | _ => False
  | .if_acmp .ne _ => match st with
    | b :: a :: t => zm_isK 2 a = true ∧ zm_isK 2 b = true ∧ (¬ a = b → k x ls t h) ∧ (a = b → k np ls t h)
    | _ => False
  | .ifnull _ => match st with
    | .null :: t => k x ls t h
    | .ref _ :: t => k np ls t h
    | _ => False
  | .ifnonnull _ => match st with
    | .null :: t => k np ls t h
    | .ref _ :: t => k x ls t h
    | _ => False
  | .goto _ => k x ls st h
  | .tableswitch .. => match st with
    | .int a :: t => k (zm_sw x sw a.toInt) ls t h
    | _ => False
  | .getfield _ => match st with
    | .ref a :: t => zm_is h a x ∧ k np ls (zm_at h a y :: t) h
    | _ => False
  | .putfield _ => match st with
    | v :: .ref a :: t => zm_is h a x ∧ zm_fit (zt_ty x y) v = true ∧ k np ls t (zm_put h a y v)
    | _ => False
  | .new _ => k np ls (.ref (zm_nx h) :: st) (zm_mk h x y (zt_df x))
  | .newarray _ => match st with
    | .int n :: t => ¬ n < 0 ∧ n.toNatClampNeg ≤ 60000000 ∧ k np ls (.ref (zm_nx h) :: t) (zm_mk h x n.toNatClampNeg (fun _ => zm_df x))
    | _ => False
  | .anewarray _ => match st with
    | .int n :: t => ¬ n < 0 ∧ n.toNatClampNeg ≤ 60000000 ∧ k np ls (.ref (zm_nx h) :: t) (zm_mk h x n.toNatClampNeg (fun _ => zm_df x))
    | _ => False
  | .arraylength => match st with
    | .ref a :: t => a < zm_nx h ∧ (zt_at (zm_tg h a)).isSome = true ∧ k np ls (.int (Int32.ofNat (zm_ln h a)) :: t) h
    | _ => False
  | .iaload => zm_rd st h (fun t => t == 101) (fun t => k np ls t h)
  | .baload => zm_rd st h (fun t => t == 100) (fun t => k np ls t h)
  | .aaload => zm_rd st h zm_ro (fun t => k np ls t h)
  | .iastore => zm_wr st h 101 id (fun t h1 => k np ls t h1)
  | .bastore => zm_wr st h 100 (fun v => v.toInt8.toInt32) (fun t h1 => k np ls t h1)
  | .aastore => match st with
    | .null :: .int i :: .ref a :: t => zm_ro (zm_tg h a) = true ∧ zm_is h a (zm_tg h a) ∧ vp_in i (zm_ln h a) ∧ k np ls t (zm_put h a i.toNatClampNeg .null)
    | .ref b :: .int i :: .ref a :: t => zm_ro (zm_tg h a) = true ∧ zm_is h a (zm_tg h a) ∧ zm_is h b (zm_tg h a - 200) ∧ vp_in i (zm_ln h a) ∧ k np ls t (zm_put h a i.toNatClampNeg (.ref b))
    | _ => False
  | .invokestatic _ => if 1000 < x then zm_in k np x ls st h else zm_cl C k np x ls st h y
  | .invokevirtual _ => (∃ a, st[y]? = some (.ref a) ∧ zm_is h a (zt_mc x)) ∧ zm_cl C k np x ls st h (y + 1)
  | .invokespecial _ => if x = 1000 then (match st with
      | .ref _ :: t => t.length ≤ 4 ∧ k np ls t h
      | _ => False)
    else (∃ a, st[y]? = some (.ref a)) ∧ zm_cl C k np x ls st h (y + 1)
  | .ireturn => match st with
    | [.int v] => r = some (.int v) ∧ h' = h ∧ ∃ ty, ret = some ty ∧ zm_fit ty (.int v) = true
    | _ => False
  | .areturn => match st with
    | [v] => r = some v ∧ h' = h ∧ zm_isK 2 v = true ∧ ∃ ty, ret = some ty ∧ zm_fit ty v = true
    | _ => False
  | .return_ => st = [] ∧ r = none ∧ h' = h ∧ ret = none
  | _ => False
end
/-- n instructions of method M, from pc on, end with r and h' -/
def zm_rn (C : Nat → List Value → zm_H → Option Value → zm_H → Prop) (M : Nat) (r : Option Value) (h' : zm_H) : Nat → Nat → List Value → List Value → zm_H → Prop
  | 0 => fun _ _ _ _ => False
  | n + 1 => fun pc ls st h => ∃ E : zm_E, zt_code M pc = some E ∧ zm_ex C (zm_rn C M r h' n) E.2.1 E.2.2.1 E.2.2.2.1 E.2.2.2.2 ls st h (zt_rt M) r h' E.1
/-- the places with which a method begins -/
def zm_fl (args : List Value) : List Value := args.flatMap fun v => if zm_c1 v = true then [v] else [v, zm_un]
def zm_lo (args : List Value) (n : Nat) : List Value := zm_fl args ++ List.replicate (n - (zm_fl args).length) zm_un
/-- method M, called with these values, ends with r and h' (calls at most d deep) -/
def zm_ca : Nat → Nat → List Value → zm_H → Option Value → zm_H → Prop
  | 0 => fun _ _ _ _ _ => False
  | d + 1 => fun M args h r h' => (zm_fl args).length ≤ zt_ml M ∧ ∃ n, zm_rn (zm_ca d) M r h' n 0 (zm_lo args (zt_ml M)) [] h
end
section
/-! what the small machine's steps give, taken apart -/
section
variable {P : Prop}
theorem zm_ld_el {k : Nat} {ls : List Value} {j : Nat} {K : Value → Prop} (h : zm_ld k ls j K) (f : ∀ v, ls[j]? = some v → zm_isK k v = true → K v → P) : P := by
  unfold zm_ld at h
  split at h
  · next v e => exact f v e h.1 h.2
  · exact h.elim
theorem zm_sto_el {k : Nat} {ls st : List Value} {j : Nat} {K : List Value → List Value → Prop} (h : zm_sto k ls st j K) (f : ∀ v t, st = v :: t → zm_isK k v = true → j < ls.length → zm_nl ls j = true → K (ls.set j v) t → P) : P := by
  unfold zm_sto at h
  split at h
  · next v t => exact f v t rfl h.1 h.2.1 h.2.2.1 h.2.2.2
  · exact h.elim
theorem zm_stoL_el {ls st : List Value} {j : Nat} {K : List Value → List Value → Prop} (h : zm_stoL ls st j K) (f : ∀ v t, st = v :: t → zm_isK 1 v = true → j + 1 < ls.length → zm_nl ls j = true → K ((ls.set j v).set (j + 1) zm_un) t → P) : P := by
  unfold zm_stoL at h
  split at h
  · next v t => exact f v t rfl h.1 h.2.1 h.2.2.1 h.2.2.2
  · exact h.elim
theorem zm_s1_el {st : List Value} {g : Int32 → Value} {K : List Value → Prop} (h : zm_s1 st g K) (f : ∀ x t, st = .int x :: t → K (g x :: t) → P) : P := by
  unfold zm_s1 at h
  split at h
  · next x t => exact f x t rfl h
  · exact h.elim
theorem zm_s2_el {st : List Value} {g : Int32 → Int32 → Value} {K : List Value → Prop} (h : zm_s2 st g K) (f : ∀ x y t, st = .int y :: .int x :: t → K (g x y :: t) → P) : P := by
  unfold zm_s2 at h
  split at h
  · next y x t => exact f x y t rfl h
  · exact h.elim
theorem zm_l1_el {st : List Value} {g : Int64 → Value} {K : List Value → Prop} (h : zm_l1 st g K) (f : ∀ x t, st = .long x :: t → K (g x :: t) → P) : P := by
  unfold zm_l1 at h
  split at h
  · next x t => exact f x t rfl h
  · exact h.elim
theorem zm_l2_el {st : List Value} {g : Int64 → Int64 → Value} {K : List Value → Prop} (h : zm_l2 st g K) (f : ∀ x y t, st = .long y :: .long x :: t → K (g x y :: t) → P) : P := by
  unfold zm_l2 at h
  split at h
  · next y x t => exact f x y t rfl h
  · exact h.elim
theorem zm_lsh_el {st : List Value} {g : Int64 → Int32 → Value} {K : List Value → Prop} (h : zm_lsh st g K) (f : ∀ x y t, st = .int y :: .long x :: t → K (g x y :: t) → P) : P := by
  unfold zm_lsh at h
  split at h
  · next y x t => exact f x y t rfl h
  · exact h.elim
theorem zm_rd_el {st : List Value} {h : zm_H} {T : Nat → Bool} {K : List Value → Prop} (hh : zm_rd st h T K) (f : ∀ i a t, st = .int i :: .ref a :: t → a < zm_nx h → T (zm_tg h a) = true → vp_in i (zm_ln h a) → K (zm_at h a i.toNatClampNeg :: t) → P) : P := by
  unfold zm_rd at hh
  split at hh
  · next i a t => exact f i a t rfl hh.1 hh.2.1 hh.2.2.1 hh.2.2.2
  · exact hh.elim
theorem zm_wr_el {st : List Value} {h : zm_H} {T : Nat} {g : Int32 → Int32} {K : List Value → zm_H → Prop} (hh : zm_wr st h T g K) (f : ∀ v i a t, st = .int v :: .int i :: .ref a :: t → zm_is h a T → vp_in i (zm_ln h a) → K t (zm_put h a i.toNatClampNeg (.int (g v))) → P) : P := by
  unfold zm_wr at hh
  split at hh
  · next v i a t => exact f v i a t rfl hh.1 hh.2.1 hh.2.2
  · exact hh.elim
end
theorem zm_isK0 {v : Value} (h : zm_isK 0 v = true) : ∃ x, v = .int x := by
  cases v <;> first | exact ⟨_, rfl⟩ | (simp [zm_isK] at h)
theorem zm_isK1 {v : Value} (h : zm_isK 1 v = true) : ∃ x, v = .long x := by
  cases v <;> first | exact ⟨_, rfl⟩ | (simp [zm_isK] at h)
theorem zm_isK2 {v : Value} (h : zm_isK 2 v = true) : v = .null ∨ ∃ a, v = .ref a := by
  cases v <;> first | exact Or.inl rfl | exact Or.inr ⟨_, rfl⟩ | (simp [zm_isK] at h)
theorem zm_fit_ok {ty : FieldType} {v : Value} (h : zm_fit ty v = true) : narrow ty v = v ∧ fits ty v = true := by
  cases ty <;> cases v <;> simp only [zm_fit, Bool.or_eq_true, beq_iff_eq, Bool.and_eq_true] at h <;> first | exact ⟨rfl, rfl⟩ | (rcases h with rfl | rfl <;> exact ⟨by decide, by decide⟩) | exact ⟨by rw [narrow_byte, h.1], h.2⟩ | (exact absurd h (by decide))
section
variable {C : Nat → List Value → zm_H → Option Value → zm_H → Prop} {k : Nat → List Value → List Value → zm_H → Prop} {np x y : Nat} {sw : List (Int × Nat)} {ls st : List Value} {h h' : zm_H} {ret : Option FieldType} {r : Option Value}
/-- nothing that was made goes -/
theorem zm_ex_mono (hC : ∀ M a h r h1, C M a h r h1 → zm_nx h ≤ zm_nx h1 ∧ zm_sl h ≤ zm_sl h1) (hk : ∀ pc ls st h, k pc ls st h → zm_nx h ≤ zm_nx h' ∧ zm_sl h ≤ zm_sl h') {i : Instr} (hx : zm_ex C k np x y sw ls st h ret r h' i) : zm_nx h ≤ zm_nx h' ∧ zm_sl h ≤ zm_sl h' := by
  have hcl : ∀ n, zm_cl C k np x ls st h n → zm_nx h ≤ zm_nx h' ∧ zm_sl h ≤ zm_sl h' := by
    intro n hn
    obtain ⟨-, -, r1, h1, c1, k1⟩ := hn
    have a1 := hC _ _ _ _ _ c1
    have a2 := hk _ _ _ _ k1
    exact ⟨Nat.le_trans a1.1 a2.1, Nat.le_trans a1.2 a2.2⟩
  have hmk : ∀ t n f (h2 : zm_nx (zm_mk h t n f) ≤ zm_nx h' ∧ zm_sl (zm_mk h t n f) ≤ zm_sl h'), zm_nx h ≤ zm_nx h' ∧ zm_sl h ≤ zm_sl h' := by
    intro t n f h2
    have e1 : zm_nx (zm_mk h t n f) = zm_nx h + 1 := rfl
    have e2 : zm_sl (zm_mk h t n f) = zm_sl h + n := rfl
    omega
  cases i with
  | iconst v | bipush v | sipush v | lconst v | aconst_null | goto o => exact hk _ _ _ _ hx
  | ldc v | ldc2_w v =>
    simp only [zm_ex] at hx
    split at hx
    · exact hk _ _ _ _ hx
    · exact hx.elim
  | iload j | iload_n j | lload j | lload_n j | aload j | aload_n j => exact zm_ld_el hx (fun v _ _ q => hk _ _ _ _ q)
  | istore j | istore_n j | astore j | astore_n j =>
    simp only [zm_ex] at hx
    exact zm_sto_el hx (fun v t _ _ _ _ q => hk _ _ _ _ q)
  | lstore j | lstore_n j =>
    simp only [zm_ex] at hx
    exact zm_stoL_el hx (fun v t _ _ _ _ q => hk _ _ _ _ q)
  | iinc j n =>
    refine zm_ld_el hx (fun v _ _ q => ?_)
    split at q
    · exact hk _ _ _ _ q.2.2
    · exact q.elim
  | iadd | isub | imul | iand | ior | ixor =>
    simp only [zm_ex] at hx
    exact zm_s2_el hx (fun _ _ _ _ q => hk _ _ _ _ q)
  | land | lor =>
    simp only [zm_ex] at hx
    exact zm_l2_el hx (fun _ _ _ _ q => hk _ _ _ _ q)
  | lushr | lshl | lshr =>
    simp only [zm_ex] at hx
    exact zm_lsh_el hx (fun _ _ _ _ q => hk _ _ _ _ q)
  | l2i =>
    simp only [zm_ex] at hx
    exact zm_l1_el hx (fun _ _ _ q => hk _ _ _ _ q)
  | i2l | i2b =>
    simp only [zm_ex] at hx
    exact zm_s1_el hx (fun _ _ _ q => hk _ _ _ _ q)
  | dup | pop =>
    simp only [zm_ex] at hx
    split at hx
    · exact hk _ _ _ _ hx.2
    · exact hx.elim
  | dup_x1 | dup2 =>
    simp only [zm_ex] at hx
    split at hx
    · exact hk _ _ _ _ hx.2.2
    · exact hx.elim
  | ifCond cd o | if_icmp cd o =>
    simp only [zm_ex] at hx
    split at hx
    · next a => exact (Classical.em _).elim (fun q => hk _ _ _ _ (hx.1 q)) (fun q => hk _ _ _ _ (hx.2 q))
    · exact hx.elim
  | if_acmp cd o =>
    cases cd <;> simp only [zm_ex] at hx <;> split at hx
    · exact (Classical.em _).elim (fun q => hk _ _ _ _ (hx.2.2.1 q)) (fun q => hk _ _ _ _ (hx.2.2.2 q))
    · exact hx.elim
    · exact (Classical.em _).elim (fun q => hk _ _ _ _ (hx.2.2.2 q)) (fun q => hk _ _ _ _ (hx.2.2.1 q))
    · exact hx.elim
  | ifnull o | ifnonnull o =>
    simp only [zm_ex] at hx
    split at hx
    · exact hk _ _ _ _ hx
    · exact hk _ _ _ _ hx
    · exact hx.elim
  | tableswitch =>
    simp only [zm_ex] at hx
    split at hx
    · exact hk _ _ _ _ hx
    · exact hx.elim
  | getfield o =>
    simp only [zm_ex] at hx
    split at hx
    · exact hk _ _ _ _ hx.2
    · exact hx.elim
  | putfield o =>
    simp only [zm_ex] at hx
    split at hx
    · have z := hk _ _ _ _ hx.2.2
      exact z
    · exact hx.elim
  | new o => exact hmk _ _ _ (hk _ _ _ _ hx)
  | newarray o | anewarray o =>
    simp only [zm_ex] at hx
    split at hx
    · exact hmk _ _ _ (hk _ _ _ _ hx.2.2)
    · exact hx.elim
  | arraylength =>
    simp only [zm_ex] at hx
    split at hx
    · exact hk _ _ _ _ hx.2.2
    · exact hx.elim
  | iaload | baload | aaload =>
    simp only [zm_ex] at hx
    exact zm_rd_el hx (fun _ _ _ _ _ _ _ q => hk _ _ _ _ q)
  | iastore | bastore =>
    simp only [zm_ex] at hx
    refine zm_wr_el hx (fun _ _ _ _ _ _ _ q => ?_)
    have z := hk _ _ _ _ q
    exact z
  | aastore =>
    simp only [zm_ex] at hx
    split at hx
    · have z := hk _ _ _ _ hx.2.2.2
      exact z
    · have z := hk _ _ _ _ hx.2.2.2.2
      exact z
    · exact hx.elim
  | invokestatic o =>
    simp only [zm_ex] at hx
    split at hx
    · unfold zm_in at hx
      split at hx
      · exact hk _ _ _ _ hx.2
      · exact hk _ _ _ _ hx.2
      · have z := hk _ _ _ _ hx.2.2.2.2.2.2.2.2.2
        exact z
      · exact hx.elim
    · exact hcl _ hx
  | invokevirtual o =>
    exact hcl _ hx.2
  | invokespecial o =>
    simp only [zm_ex] at hx
    split at hx
    · split at hx
      · exact hk _ _ _ _ hx.2
      · exact hx.elim
    · exact hcl _ hx.2
  | ireturn =>
    simp only [zm_ex] at hx
    split at hx
    · obtain ⟨-, e, -⟩ := hx
      rw [e]; exact ⟨Nat.le_refl _, Nat.le_refl _⟩
    · exact hx.elim
  | areturn =>
    simp only [zm_ex] at hx
    split at hx
    · obtain ⟨-, e, -⟩ := hx
      rw [e]; exact ⟨Nat.le_refl _, Nat.le_refl _⟩
    · exact hx.elim
  | return_ =>
    obtain ⟨-, -, e, -⟩ := hx
    rw [e]; exact ⟨Nat.le_refl _, Nat.le_refl _⟩
  | _ => exact False.elim hx
end
theorem zm_rn_mono {C : Nat → List Value → zm_H → Option Value → zm_H → Prop} {M : Nat} {r : Option Value} {h' : zm_H} (hC : ∀ M a h r h1, C M a h r h1 → zm_nx h ≤ zm_nx h1 ∧ zm_sl h ≤ zm_sl h1) : ∀ (n pc : Nat) (ls st : List Value) (h : zm_H), zm_rn C M r h' n pc ls st h → zm_nx h ≤ zm_nx h' ∧ zm_sl h ≤ zm_sl h'
  | 0, _, _, _, _, hr => False.elim hr
  | n + 1, _, _, _, _, hr => by
    obtain ⟨E, -, hx⟩ := hr
    exact zm_ex_mono hC (fun pc ls st h q => zm_rn_mono hC n pc ls st h q) hx
theorem zm_ca_mono : ∀ (d M : Nat) (a : List Value) (h : zm_H) (r : Option Value) (h1 : zm_H), zm_ca d M a h r h1 → zm_nx h ≤ zm_nx h1 ∧ zm_sl h ≤ zm_sl h1
  | 0, _, _, _, _, _, hr => False.elim hr
  | d + 1, _, _, _, _, _, hr => by
    obtain ⟨-, n, hn⟩ := hr
    exact zm_rn_mono (fun M a h r h1 q => zm_ca_mono d M a h r h1 q) n _ _ _ _ hn
end
section
/-! the small machine's heap in the machine's heap -/
/-- ids of the numbered kinds, their slots, ids of the arrays' kinds by tags, the script's cell, the cell ahead of the first new one -/
abbrev zm_G : Type := (Nat → ClassId) × (Nat → Nat → Nat) × (Nat → ClassId) × Nat × Nat
def zm_ad (G : zm_G) (a : Nat) : Nat := if a = 0 then G.2.2.2.1 else G.2.2.2.2 + a
def zm_cv (G : zm_G) : Value → Value
  | .ref a => .ref (zm_ad G a)
  | v => v
def zm_A (G : zm_G) : Nat → Prop := fun q => G.2.2.2.2 < q
/-- a cell -/
def zm_ce (G : zm_G) (h : zm_H) (H : Heap) (a : Nat) : Prop :=
  (zm_tg h a < 100 → ∃ q, zt_cl[zm_tg h a]? = some q ∧ t_OB (zm_ad G a) (G.1 (zm_tg h a)) q.2.2 (G.2.1 (zm_tg h a)) H (fun k => zm_cv G (zm_at h a k))) ∧
  (100 ≤ zm_tg h a → H[zm_ad G a]? = some (arrV (G.2.2.1 (zm_tg h a)) (zm_ln h a) (fun j => zm_cv G (zm_at h a j))))
def zm_sc (G : zm_G) (s : State) (h : zm_H) (H : Heap) : Prop := ∃ scr : Cell, H[G.2.2.2.1]? = some scr ∧ s.isArrayOf scr .int ∧ scr.vm ≠ .unknown ∧ scr.slots.size = zm_ln h 0 ∧ ∀ j : Nat, j < zm_ln h 0 → scr.slots[j]? = some (zm_cv G (zm_at h 0 j))
/-- the whole heap -/
def zm_wl (G : zm_G) (s : State) (h : zm_H) (H : Heap) : Prop :=
  H.size = G.2.2.2.2 + zm_nx h ∧ 1 ≤ zm_nx h ∧ G.2.2.2.1 ≤ G.2.2.2.2 ∧ zm_tg h 0 = 101 ∧ zm_sc G s h H ∧ ∀ a, 0 < a → a < zm_nx h → zm_ce G h H a
/-- what is known of the tables -/
def zm_K (G : zm_G) (U : State) : Prop :=
  (∀ (c : Nat) (q : vw_C), zt_cl[c]? = some q → u_Kn U q.1 q.2.1 q.2.2 (G.1 c) (G.2.1 c)) ∧ (∀ (t : Nat) (ty : FieldType), zt_at t = some ty → ArrOfT U (G.2.2.1 t) ty ∧ va_RA U (G.2.2.1 t) ty) ∧
  (∀ C ∈ zt_ao, va_AO C U) ∧ (∀ q ∈ zt_nm2, va_Nw (.methodLinkNest q.1 q.2.1 q.2.2.1 q.2.2.2) U)
theorem zm_K.moved {G : zm_G} {u U : State} (hW : u.WarmedH U.vm) (h : zm_K G u) : zm_K G U :=
  ⟨fun c q hq => u_Kn_moved hW.alike (h.1 c q hq), fun t ty ht => ⟨arrOfT_moved hW.alike (h.2.1 t ty ht).1, (h.2.1 t ty ht).2.moved hW.alike⟩, fun C hC => (h.2.2.1 C hC).moved hW.alike, fun q hq => (h.2.2.2 q hq).warmM hW⟩
theorem zm_K.same {G : zm_G} {u U : State} (hv : u.vm = U.vm) (h : zm_K G u) : zm_K G U := by
  have al : u.vm.Alike U.vm := by rw [hv]; exact Vm.Alike.refl _
  exact ⟨fun c q hq => u_Kn_moved al (h.1 c q hq), fun t ty ht => ⟨arrOfT_moved al (h.2.1 t ty ht).1, (h.2.1 t ty ht).2.moved al⟩, fun C hC => (h.2.2.1 C hC).moved al, fun q hq => (h.2.2.2 q hq).same rfl hv⟩
theorem zm_wl.moved {G : zm_G} {u U : State} {h : zm_H} {H : Heap} (al : u.vm.Alike U.vm) (hw : zm_wl G u h H) : zm_wl G U h H := by
  obtain ⟨a, b, c, d, ⟨scr, e1, e2, e3⟩, f⟩ := hw
  exact ⟨a, b, c, d, ⟨scr, e1, State.isArrayOf_alike al e2, e3⟩, f⟩
theorem zm_ad_pos {G : zm_G} {a : Nat} (ha : 0 < a) : zm_ad G a = G.2.2.2.2 + a := by
  unfold zm_ad
  rw [if_neg (by omega)]
theorem zm_A_ad {G : zm_G} {a : Nat} (ha : 0 < a) : zm_A G (zm_ad G a) := by
  rw [zm_ad_pos ha]
  show G.2.2.2.2 < _
  omega
theorem zm_ce.kept {G : zm_G} {h h2 : zm_H} {H H' : Heap} {a : Nat} (hc : zm_ce G h H a) (ht : zm_tg h2 a = zm_tg h a) (hn : zm_ln h2 a = zm_ln h a) (hat : ∀ j, zm_at h2 a j = zm_at h a j) (hq : H'[zm_ad G a]? = H[zm_ad G a]?) : zm_ce G h2 H' a := by
  refine ⟨fun hl => ?_, fun hl => ?_⟩
  · rw [ht] at hl ⊢
    obtain ⟨q, h1, h2'⟩ := hc.1 hl
    exact ⟨q, h1, (h2'.kept hq).to (fun k _ => by rw [hat])⟩
  · rw [ht] at hl ⊢
    rw [hq, hc.2 hl, hn]
    congr 2
    funext j
    rw [hat]
/-- one cell's contents have changed -/
theorem zm_wl_upd {G : zm_G} {s : State} {h h2 : zm_H} {H H' : Heap} {a : Nat} (hw : zm_wl G s h H) (ha : 0 < a) (hn : zm_nx h2 = zm_nx h) (ht : ∀ b, zm_tg h2 b = zm_tg h b) (hl : ∀ b, zm_ln h2 b = zm_ln h b) (hat : ∀ b j, b ≠ a → zm_at h2 b j = zm_at h b j) (z : H'.size = H.size) (oq : ∀ q, q ≠ zm_ad G a → H'[q]? = H[q]?) (hce : zm_ce G h2 H' a) : zm_wl G s h2 H' := by
  obtain ⟨w1, w2, w3, w4, ⟨scr, e1, e2, e3, e4, e5⟩, w6⟩ := hw
  have hne : G.2.2.2.1 ≠ zm_ad G a := by rw [zm_ad_pos ha]; omega
  refine ⟨by rw [z, hn]; exact w1, by rw [hn]; exact w2, w3, by rw [ht]; exact w4, ⟨scr, by rw [oq _ hne]; exact e1, e2, e3, by rw [hl]; exact e4, fun j hj => ?_⟩, fun b hb hb2 => ?_⟩
  · rw [hl] at hj
    rw [hat 0 j (by omega)]
    exact e5 j hj
  · by_cases hba : b = a
    · rw [hba]; exact hce
    · refine (w6 b hb (by rw [← hn]; exact hb2)).kept (ht b) (hl b) (fun j => hat b j hba) (oq _ ?_)
      rw [zm_ad_pos ha, zm_ad_pos hb]
      omega
/-- a new cell -/
theorem zm_wl_mk {G : zm_G} {s : State} {h : zm_H} {H H' : Heap} {t n : Nat} {f : Nat → Value} (hw : zm_wl G s h H) (z : H'.size = H.size + 1) (oq : ∀ q, q < H.size → H'[q]? = H[q]?) (hce : zm_ce G (zm_mk h t n f) H' (zm_nx h)) : zm_wl G s (zm_mk h t n f) H' := by
  obtain ⟨w1, w2, w3, w4, ⟨scr, e1, e2, e3, e4, e5⟩, w6⟩ := hw
  have hnx : zm_nx (zm_mk h t n f) = zm_nx h + 1 := rfl
  have old : ∀ b, b ≠ zm_nx h → zm_tg (zm_mk h t n f) b = zm_tg h b ∧ zm_ln (zm_mk h t n f) b = zm_ln h b ∧ ∀ j, zm_at (zm_mk h t n f) b j = zm_at h b j := by
    intro b hb
    have hb' : ¬ b = h.1 := hb
    simp [zm_tg, zm_ln, zm_at, zm_mk, hb']
  obtain ⟨o1, o2, o3⟩ := old 0 (by omega)
  refine ⟨by rw [z, hnx, w1]; omega, by rw [hnx]; omega, w3, by rw [o1]; exact w4, ⟨scr, by rw [oq _ (by omega)]; exact e1, e2, e3, by rw [o2]; exact e4, fun j hj => ?_⟩, fun b hb hb2 => ?_⟩
  · rw [o2] at hj
    rw [o3]
    exact e5 j hj
  · by_cases hba : b = zm_nx h
    · rw [hba]; exact hce
    · obtain ⟨p1, p2, p3⟩ := old b hba
      refine (w6 b hb (by omega)).kept p1 p2 p3 (oq _ ?_)
      rw [zm_ad_pos hb]
      omega

def zm_nf : Value → Bool
  | .float _ => false
  | _ => true
def zm_ll (G : zm_G) (ls : List Value) : List (Nat × Value) := (List.range ls.length).filterMap fun j => (ls[j]?).bind fun v => if zm_nf v = true then some (j, zm_cv G v) else none
theorem zm_ll_mem {G : zm_G} {ls : List Value} {q : Nat × Value} : q ∈ zm_ll G ls ↔ ∃ v, ls[q.1]? = some v ∧ zm_nf v = true ∧ q.2 = zm_cv G v := by
  unfold zm_ll
  constructor
  · intro hq
    obtain ⟨j, -, hj⟩ := List.mem_filterMap.mp hq
    obtain ⟨v, hv, hv2⟩ := Option.bind_eq_some_iff.mp hj
    split at hv2
    · next hf => cases hv2; exact ⟨v, hv, hf, rfl⟩
    · cases hv2
  · rintro ⟨v, hv, hf, e⟩
    refine List.mem_filterMap.mpr ⟨q.1, List.mem_range.mpr ((List.getElem?_eq_some_iff.mp hv).1), ?_⟩
    rw [hv, Option.bind_some, if_pos hf, ← e]
def zm_lr (G : zm_G) (n : Nat) (ls : List Value) (lsA : Array Slot) : Prop := ls.length = n ∧ lv_has lsA n (zm_ll G ls)
theorem zm_lr_at {G : zm_G} {n j : Nat} {ls : List Value} {lsA : Array Slot} {v : Value} (h : zm_lr G n ls lsA) (hv : ls[j]? = some v) (hf : zm_nf v = true) : lsA[j]? = some (.val (zm_cv G v)) :=
  h.2.2.2 (j, zm_cv G v) (zm_ll_mem.mpr ⟨v, hv, hf, rfl⟩)
theorem zm_cat {G : zm_G} {v : Value} (h : zm_c1 v = true) : (zm_cv G v).category = 1 := by
  cases v <;> first | rfl | (simp [zm_c1] at h)
theorem zm_lr_st1 {G : zm_G} {n j : Nat} {ls : List Value} {ls' : Array Slot} {v : Value} (hl : ls.length = n) (hn : zm_nl ls j = true) (h' : lv_has ls' n ((j, zm_cv G v) :: (zm_ll G ls).filter (fun q => !(q.1 == j) && !(q.1 + 1 == j && q.2.category == 2)))) : zm_lr G n (ls.set j v) ls' := by
  refine ⟨by rw [List.length_set]; exact hl, h'.1, h'.2.1, fun q hq => h'.2.2 q ?_⟩
  obtain ⟨w, hw, hf, e⟩ := zm_ll_mem.mp hq
  by_cases hqj : q.1 = j
  · rw [hqj] at hw
    have hlt : j < ls.length := by
      have := (List.getElem?_eq_some_iff.mp hw).1
      rwa [List.length_set] at this
    rw [List.getElem?_set_self hlt] at hw
    cases hw
    have : q = (j, zm_cv G v) := Prod.ext hqj e
    rw [this]
    exact List.mem_cons_self
  · rw [List.getElem?_set_ne (Ne.symm hqj)] at hw
    refine List.mem_cons_of_mem _ (List.mem_filter.mpr ⟨zm_ll_mem.mpr ⟨w, hw, hf, e⟩, ?_⟩)
    have h2 : ¬ (q.1 + 1 = j ∧ q.2.category = 2) := by
      rintro ⟨a1, a2⟩
      subst a1
      have hn : (match ls[q.1]? with | some v => zm_c1 v | none => true) = true := hn
      rw [hw] at hn
      rw [e, zm_cat hn] at a2
      exact absurd a2 (by decide)
    simp only [Bool.and_eq_true, Bool.not_eq_true', beq_eq_false_iff_ne, ne_eq, Bool.and_eq_false_iff]
    refine ⟨hqj, ?_⟩
    by_cases a1 : q.1 + 1 = j
    · exact Or.inr (fun a2 => h2 ⟨a1, a2⟩)
    · exact Or.inl a1
theorem zm_lr_st2 {G : zm_G} {n j : Nat} {ls : List Value} {ls' : Array Slot} {v : Value} (hl : ls.length = n) (hn : zm_nl ls j = true) (h' : lv_has ls' n ((j, zm_cv G v) :: (zm_ll G ls).filter (fun q => !(q.1 == j) && (!(q.1 == j + 1) && !(q.1 + 1 == j && q.2.category == 2))))) : zm_lr G n ((ls.set j v).set (j + 1) zm_un) ls' := by
  refine ⟨by rw [List.length_set, List.length_set]; exact hl, h'.1, h'.2.1, fun q hq => h'.2.2 q ?_⟩
  obtain ⟨w, hw, hf, e⟩ := zm_ll_mem.mp hq
  by_cases hq1 : q.1 = j + 1
  · rw [hq1] at hw
    have hlt : j + 1 < (ls.set j v).length := by
      have := (List.getElem?_eq_some_iff.mp hw).1
      rwa [List.length_set] at this
    rw [List.getElem?_set_self hlt] at hw
    cases hw
    exact absurd hf (by decide)
  · rw [List.getElem?_set_ne (Ne.symm hq1)] at hw
    by_cases hqj : q.1 = j
    · rw [hqj] at hw
      have hlt : j < ls.length := by
        have := (List.getElem?_eq_some_iff.mp hw).1
        rwa [List.length_set] at this
      rw [List.getElem?_set_self hlt] at hw
      cases hw
      have : q = (j, zm_cv G v) := Prod.ext hqj e
      rw [this]
      exact List.mem_cons_self
    · rw [List.getElem?_set_ne (Ne.symm hqj)] at hw
      refine List.mem_cons_of_mem _ (List.mem_filter.mpr ⟨zm_ll_mem.mpr ⟨w, hw, hf, e⟩, ?_⟩)
      have h2 : ¬ (q.1 + 1 = j ∧ q.2.category = 2) := by
        rintro ⟨a1, a2⟩
        subst a1
        have hn : (match ls[q.1]? with | some v => zm_c1 v | none => true) = true := hn
        rw [hw] at hn
        rw [e, zm_cat hn] at a2
        exact absurd a2 (by decide)
      simp only [Bool.and_eq_true, Bool.not_eq_true', beq_eq_false_iff_ne, ne_eq, Bool.and_eq_false_iff]
      refine ⟨hqj, hq1, ?_⟩
      by_cases a1 : q.1 + 1 = j
      · exact Or.inr (fun a2 => h2 ⟨a1, a2⟩)
      · exact Or.inl a1
end
section
theorem zm_c1_cat {G : zm_G} {v : Value} : ¬ zm_c1 v = true → (zm_cv G v).category = 2 := by
  intro h
  cases v <;> first | rfl | (exact absurd rfl h)
theorem zm_fl_mem {G : zm_G} : ∀ (args : List Value) (i j : Nat) (v : Value), (zm_fl args)[j]? = some v → zm_nf v = true → (i + j, zm_cv G v) ∈ lv_args i (args.map (zm_cv G))
  | [], _, _, _, h, _ => by simp [zm_fl] at h
  | a :: l, i, j, v, h, hf => by
    have e : zm_fl (a :: l) = (if zm_c1 a = true then [a] else [a, zm_un]) ++ zm_fl l := rfl
    rw [e] at h
    show _ ∈ (i, zm_cv G a) :: lv_args (if (zm_cv G a).category = 2 then i + 2 else i + 1) (l.map (zm_cv G))
    by_cases hc : zm_c1 a = true
    · rw [if_pos hc] at h
      rw [if_neg (by rw [zm_cat hc]; decide)]
      cases j with
      | zero => cases h; exact List.mem_cons_self
      | succ j =>
        have h' : (zm_fl l)[j]? = some v := h
        have := zm_fl_mem (G := G) l (i + 1) j v h' hf
        rw [show i + 1 + j = i + (j + 1) by omega] at this
        exact List.mem_cons_of_mem _ this
    · rw [if_neg hc] at h
      rw [if_pos (zm_c1_cat hc)]
      cases j with
      | zero => cases h; exact List.mem_cons_self
      | succ j =>
        cases j with
        | zero => cases h; exact absurd hf (by decide)
        | succ j =>
          have h' : (zm_fl l)[j]? = some v := h
          have := zm_fl_mem (G := G) l (i + 2) j v h' hf
          rw [show i + 2 + j = i + (j + 1 + 1) by omega] at this
          exact List.mem_cons_of_mem _ this
theorem zm_fl_len {G : zm_G} : ∀ args : List Value, (lg_sl (args.map (zm_cv G))).length = (zm_fl args).length
  | [] => rfl
  | a :: l => by
    have e : zm_fl (a :: l) = (if zm_c1 a = true then [a] else [a, zm_un]) ++ zm_fl l := rfl
    have e2 : lg_sl ((a :: l).map (zm_cv G)) = (if (zm_cv G a).category = 2 then [Slot.val (zm_cv G a), Slot.second] else [Slot.val (zm_cv G a)]) ++ lg_sl (l.map (zm_cv G)) := rfl
    rw [e, e2, List.length_append, List.length_append, zm_fl_len l]
    by_cases hc : zm_c1 a = true
    · rw [if_pos hc, if_neg (by rw [zm_cat (G := G) hc]; decide)]; rfl
    · rw [if_neg hc, if_pos (zm_c1_cat hc)]; rfl
theorem zm_lr_entry {G : zm_G} {args : List Value} {n : Nat} (h : (zm_fl args).length ≤ n) : zm_lr G n (zm_lo args n) ((lg_sl (args.map (zm_cv G)) ++ List.replicate (n - (lg_sl (args.map (zm_cv G))).length) Slot.unset).toArray) := by
  have hb := lv_entry (args.map (zm_cv G)) (n := n) (by rw [zm_fl_len]; exact h)
  refine ⟨?_, hb.1, hb.2.1, fun q hq => hb.2.2 q ?_⟩
  · show (zm_fl args ++ List.replicate (n - (zm_fl args).length) zm_un).length = n
    rw [List.length_append, List.length_replicate]
    omega
  · obtain ⟨v, hv, hf, e⟩ := zm_ll_mem.mp hq
    have hv' : (zm_fl args ++ List.replicate (n - (zm_fl args).length) zm_un)[q.1]? = some v := hv
    by_cases hl : q.1 < (zm_fl args).length
    · rw [List.getElem?_append_left hl] at hv'
      have := zm_fl_mem (G := G) args 0 q.1 v hv' hf
      rw [Nat.zero_add, ← e] at this
      exact this
    · rw [List.getElem?_append_right (by omega)] at hv'
      have := List.mem_of_getElem? hv'
      rw [List.mem_replicate] at this
      rw [this.2] at hf
      exact absurd hf (by decide)
/-! a method's bytes, as the small machine has them, are what the machine runs -/
def zm_len : Instr → Nat
  | .bipush _ | .ldc _ | .iload _ | .lload _ | .aload _ | .istore _ | .lstore _ | .astore _ | .newarray _ => 2
  | .sipush _ | .ldc2_w _ | .iinc _ _ | .ifCond _ _ | .if_icmp _ _ | .if_acmp _ _ | .ifnull _ | .ifnonnull _ | .goto _ | .getfield _ | .putfield _ | .new _ | .anewarray _ | .invokestatic _ | .invokevirtual _ | .invokespecial _ => 3
  | _ => 1
/-- a field's entry -/
def zm_rf (own : String) (idx x y : Nat) : Prop := ∃ q : vw_C, zt_cl[x]? = some q ∧ y < q.2.2 ∧ Jvm.Cond.fieldLink own idx (q.2.1 y).1 (q.2.1 y).2.1 (q.2.1 y).2.2.1 ∈ zt_ws
/-- a field's entry that is written -/
def zm_rp (own nm : String) (idx x y : Nat) : Prop := ∃ q : vw_C, zt_cl[x]? = some q ∧ y < q.2.2 ∧ Jvm.Cond.fieldLink own idx (q.2.1 y).1 (q.2.1 y).2.1 (q.2.1 y).2.2.1 ∈ zt_ws ∧ ((q.2.1 y).2.2.2 = false ∨ ((q.2.1 y).2.2.2 = true ∧ nm = "<init>" ∧ (q.2.1 y).1 = own))
theorem zm_rp_any {own nm : String} {idx x y : Nat} (h : zm_rp own "" idx x y) : zm_rp own nm idx x y := by
  obtain ⟨q, h1, h2, h3, h4 | ⟨-, h4, -⟩⟩ := h
  · exact ⟨q, h1, h2, h3, Or.inl h4⟩
  · exact absurd h4 (by decide)
def zm_rnw (own : String) (idx x y : Nat) : Prop := ∃ q : vw_C, zt_cl[x]? = some q ∧ q.2.2 = y ∧ Jvm.Cond.classLink own idx q.1 ∈ zt_ws ∧ Jvm.Cond.instantiable q.1 y ∈ zt_ws ∧ Jvm.Cond.initialized q.1 ∈ zt_ws
def zm_ran (own : String) (idx x : Nat) : Prop := 200 ≤ x ∧ ∃ C, zt_at x = some (.object C) ∧ C ∈ zt_ao ∧ Jvm.Cond.classLink own idx C ∈ zt_ws
def zm_robj (own : String) (idx : Nat) : Prop := Jvm.Cond.methodLink own idx Lib.objectInit ∈ zt_ws ∧ Jvm.Cond.instanceMethod Lib.objectInit ∈ zt_ws ∧ Jvm.Cond.code Lib.objectInit ⟨#[0xb1]⟩ 1 none ∈ zt_ws
def zm_rmax (own : String) (idx : Nat) : Prop := Jvm.Cond.methodLink own idx Lib.Math.max.name ∈ zt_ws ∧ Jvm.Cond.static Lib.Math.max.name ∈ zt_ws ∧ Jvm.Cond.initialized "java/lang/Math" ∈ zt_ws ∧ Jvm.Cond.code Lib.Math.max.name Lib.Math.max.code 2 (some .int) ∈ zt_ws
def zm_rmin (own : String) (idx : Nat) : Prop := Jvm.Cond.methodLink own idx Lib.Math.min.name ∈ zt_ws ∧ Jvm.Cond.static Lib.Math.min.name ∈ zt_ws ∧ Jvm.Cond.initialized "java/lang/Math" ∈ zt_ws ∧ Jvm.Cond.code Lib.Math.min.name Lib.Math.min.code 2 (some .int) ∈ zt_ws
def zm_rcopy (own : String) (idx : Nat) : Prop := Jvm.Cond.methodLink own idx arraycopyName ∈ zt_ws ∧ Jvm.Cond.native arraycopyName ∈ zt_ws ∧ Jvm.Cond.static arraycopyName ∈ zt_ws ∧ Jvm.Cond.initialized "java/lang/System" ∈ zt_ws
/-- a callee's words -/
def zm_cd0 (x y : Nat) : Prop := Jvm.Cond.code (zt_nm x) (zt_by x) (zt_ml x) (zt_rt x) ∈ zt_ws ∧ Jvm.Cond.initialized (zt_nm x).cls ∈ zt_ws ∧ (zt_nm x).cls = zt_own x ∧ ((zt_nm x).cls ≠ "java/lang/invoke/MethodHandle" ∧ (zt_nm x).cls ≠ "java/lang/invoke/VarHandle") ∧ (parseMethodDescriptor (zt_nm x).desc).map (fun d => d.parameters.length) = some y
def zm_lk (own : String) (idx x : Nat) : Prop := Jvm.Cond.methodLink own idx (zt_nm x) ∈ zt_ws ∨ ∃ host, (own, idx, zt_nm x, host) ∈ zt_nm2
def zm_rst (own : String) (idx x y : Nat) : Prop := x < 1000 ∧ zm_cd0 x y ∧ zm_lk own idx x ∧ Jvm.Cond.static (zt_nm x) ∈ zt_ws
def zm_rvi (own : String) (idx x y : Nat) : Prop := x < 1000 ∧ zm_cd0 x y ∧ zm_lk own idx x ∧ Jvm.Cond.instanceMethod (zt_nm x) ∈ zt_ws ∧ Jvm.Cond.selects (zt_own x) (zt_nm x) (zt_nm x) ∈ zt_ws ∧ ∃ q : vw_C, zt_cl[zt_mc x]? = some q ∧ q.1 = zt_own x
def zm_rsp (own : String) (idx x y : Nat) : Prop := x < 1000 ∧ zm_cd0 x y ∧ zm_lk own idx x ∧ Jvm.Cond.instanceMethod (zt_nm x) ∈ zt_ws ∧ (zt_nm x).name = "<init>" ∧ zt_rt x = none
def zm_rs (M pc : Nat) (i : Instr) (x y : Nat) (sw : List (Int × Nat)) : Prop := match i with
  | .ldc idx => ∃ v n, sw = [(v, n)] ∧ Jvm.Cond.constant (zt_own M) idx (Int32.ofInt v) ∈ zt_ws
  | .ldc2_w idx => ∃ v n, sw = [(v, n)] ∧ Jvm.Cond.constantLong (zt_own M) idx (Int64.ofInt v) ∈ zt_ws
  | .ifCond _ o | .if_icmp _ o | .if_acmp _ o | .ifnull o | .ifnonnull o | .goto o => (pc : Int) + o = (x : Int)
  | .tableswitch d lo hi offs => (pc : Int) + d = (x : Int) ∧ ∀ z : Int, ((z < lo ∨ hi < z) → zm_sw x sw z = x) ∧ (¬ z < lo → ¬ hi < z → ∃ o, offs[(z - lo).toNat]? = some o ∧ (pc : Int) + o = (zm_sw x sw z : Int))
  | .getfield idx => zm_rf (zt_own M) idx x y
  | .putfield idx => zm_rp (zt_own M) (zt_nm M).name idx x y
  | .new idx => zm_rnw (zt_own M) idx x y ∧ ∀ j, j < y → defaultValue (zt_ty x j) = zt_df x j
  | .newarray t => 100 ≤ x ∧ x < 200 ∧ zt_at x = some (newarray.typeOf t) ∧ Jvm.Cond.arrayClass (newarray.typeOf t) ∈ zt_ws ∧ defaultValue (newarray.typeOf t) = zm_df x ∧ componentBytes (newarray.typeOf t) ≤ 8
  | .anewarray idx => zm_ran (zt_own M) idx x
  | .invokestatic idx => (x = 1001 ∧ zm_rmax (zt_own M) idx ∧ 1 ≤ zt_fr M ∧ 21 ≤ zt_lc M) ∨ (x = 1002 ∧ zm_rmin (zt_own M) idx ∧ 1 ≤ zt_fr M ∧ 21 ≤ zt_lc M) ∨ (x = 1003 ∧ zm_rcopy (zt_own M) idx ∧ 1 ≤ zt_fr M ∧ 26 ≤ zt_lc M) ∨
      (zm_rst (zt_own M) idx x y ∧ zt_fr x + 1 ≤ zt_fr M ∧ 8 + (zt_ml x + 11) + zt_lc x ≤ zt_lc M)
  | .invokevirtual idx => zm_rvi (zt_own M) idx x y ∧ zt_fr x + 1 ≤ zt_fr M ∧ 8 + (zt_ml x + 11) + zt_lc x ≤ zt_lc M
  | .invokespecial idx => (x = 1000 ∧ zm_robj (zt_own M) idx ∧ 1 ≤ zt_fr M ∧ 20 ≤ zt_lc M) ∨ (zm_rsp (zt_own M) idx x y ∧ zt_fr x + 1 ≤ zt_fr M ∧ 8 + (zt_ml x + 11) + zt_lc x ≤ zt_lc M)
  | _ => True
def zm_mksw (pc : Nat) : Int → List Int → List (Int × Nat)
  | _, [] => []
  | lo, o :: os => (lo, ((pc : Int) + o).toNat) :: zm_mksw pc (lo + 1) os
theorem zm_mksw_out {pc d : Nat} : ∀ (os : List Int) (lo z : Int), (z < lo ∨ lo + os.length ≤ z) → zm_sw d (zm_mksw pc lo os) z = d
  | [], _, _, _ => rfl
  | o :: os, lo, z, h => by
    rw [List.length_cons] at h
    show (if lo = z then _ else zm_sw d (zm_mksw pc (lo + 1) os) z) = d
    rw [if_neg (by omega)]
    exact zm_mksw_out os (lo + 1) z (by omega)
theorem zm_mksw_in {pc d : Nat} : ∀ (os : List Int) (lo z : Int), lo ≤ z → z < lo + os.length → ∃ o, os[(z - lo).toNat]? = some o ∧ zm_sw d (zm_mksw pc lo os) z = ((pc : Int) + o).toNat
  | [], lo, z, h1, h2 => by simp at h2; omega
  | o :: os, lo, z, h1, h2 => by
    rw [List.length_cons] at h2
    by_cases e : lo = z
    · subst e
      refine ⟨o, by simp, ?_⟩
      show (if lo = lo then _ else _) = _
      rw [if_pos rfl]
    · obtain ⟨o', q1, q2⟩ := zm_mksw_in (pc := pc) (d := d) os (lo + 1) z (by omega) (by omega)
      refine ⟨o', ?_, ?_⟩
      · have : (z - lo).toNat = (z - (lo + 1)).toNat + 1 := by omega
        rw [this]
        exact q1
      · show (if lo = z then _ else zm_sw d (zm_mksw pc (lo + 1) os) z) = _
        rw [if_neg e]
        exact q2
theorem zm_tsw {M pc x y : Nat} {sw : List (Int × Nat)} {d lo hi : Int} {offs : Array Int} (h1 : (pc : Int) + d = (x : Int)) (h2 : sw = zm_mksw pc lo offs.toList) (h3 : hi - lo + 1 = (offs.toList.length : Int)) (h4 : offs.toList.all (fun o => decide (0 ≤ (pc : Int) + o)) = true) : zm_rs M pc (.tableswitch d lo hi offs) x y sw := by
  refine ⟨h1, fun z => ⟨fun h => ?_, fun a b => ?_⟩⟩
  · rw [h2]
    exact zm_mksw_out _ _ _ (by omega)
  · obtain ⟨o, q1, q2⟩ := zm_mksw_in (pc := pc) (d := x) offs.toList lo z (by omega) (by omega)
    refine ⟨o, by rw [← Array.getElem?_toList]; exact q1, ?_⟩
    have hp := List.all_eq_true.mp h4 o (List.mem_of_getElem? q1)
    simp only [decide_eq_true_eq] at hp
    rw [h2, q2]
    omega
def zm_swi : Instr → Bool
  | .tableswitch .. => true
  | _ => false
def zm_ok (M pc : Nat) (E : zm_E) : Prop := (∃ len, decode (zt_by M) pc = .ok (E.1, len) ∧ (zm_swi E.1 = false → len = zm_len E.1 ∧ E.2.1 = pc + zm_len E.1)) ∧ zm_rs M pc E.1 E.2.2.1 E.2.2.2.1 E.2.2.2.2
def zm_chk (b : ByteArray) (q : Nat × zm_E) : Bool := match decode b q.1 with
  | .ok (i, len) => decide (i = q.2.1) && (zm_swi q.2.1 || (Nat.beq len (zm_len q.2.1) && Nat.beq q.2.2.1 (q.1 + zm_len q.2.1)))
  | .error _ => false
theorem zm_chk_ok {b : ByteArray} {q : Nat × zm_E} (h : zm_chk b q = true) : ∃ len, decode b q.1 = .ok (q.2.1, len) ∧ (zm_swi q.2.1 = false → len = zm_len q.2.1 ∧ q.2.2.1 = q.1 + zm_len q.2.1) := by
  unfold zm_chk at h
  split at h
  · next i len e =>
    simp only [Bool.and_eq_true, decide_eq_true_eq, Bool.or_eq_true] at h
    obtain ⟨h1, h2⟩ := h
    subst h1
    refine ⟨len, e, fun hs => ?_⟩
    rcases h2 with h2 | h2
    · rw [h2] at hs; cases hs
    · exact ⟨Nat.eq_of_beq_eq_true h2.1, Nat.eq_of_beq_eq_true h2.2⟩
  · cases h
theorem zm_ac {α : Type} {P : α → Prop} {a : α} {l : List α} (h : P a) (t : ∀ q ∈ l, P q) : ∀ q ∈ a :: l, P q := List.forall_mem_cons.mpr ⟨h, t⟩
theorem zm_an {α : Type} {P : α → Prop} : ∀ q ∈ ([] : List α), P q := fun _ h => absurd h List.not_mem_nil
theorem zm_lku_mem : ∀ (l : List (Nat × zm_E)) (pc : Nat) (E : zm_E), zm_lku l pc = some E → (pc, E) ∈ l
  | [], _, _, h => by cases h
  | q :: l, pc, E, h => by
    unfold zm_lku at h
    cases hb : Nat.beq q.1 pc with
    | true =>
      rw [hb] at h
      have e := Nat.eq_of_beq_eq_true hb
      cases h
      rw [← e]
      exact List.mem_cons_self
    | false =>
      rw [hb] at h
      exact List.mem_cons_of_mem _ (zm_lku_mem l pc E h)
theorem zm_okl {M pc : Nat} {E : zm_E} {l : List (Nat × zm_E)} {b : ByteArray} (hb : zt_by M = b) (h : zm_lku l pc = some E) (h1 : l.all (zm_chk b) = true) (h2 : ∀ q ∈ l, zm_rs M q.1 q.2.1 q.2.2.2.1 q.2.2.2.2.1 q.2.2.2.2.2) : zm_ok M pc E := by
  have hm : (pc, E) ∈ l := zm_lku_mem l pc E h
  have h3 : zm_chk b (pc, E) = true := List.all_eq_true.mp h1 (pc, E) hm
  have h4 := zm_chk_ok h3
  have h5 := h2 (pc, E) hm
  unfold zm_ok
  rw [hb]
  exact And.intro h4 h5
theorem zm_jp {a b : Int} (h : a = b) : a = b := h
end
section
theorem zt_m0 {w : Jvm.Cond} (i : Nat) (h : (k2_sels lw_privs)[i]? = some w) (g : goodWord w = true) : w ∈ zt_ws := List.mem_filter.mpr ⟨List.mem_append_left _ (List.mem_of_getElem? h), g⟩
theorem zt_m1 {w : Jvm.Cond} (i : Nat) (h : tables_1_1[i]? = some w) (g : goodWord w = true) : w ∈ zt_ws := List.mem_filter.mpr ⟨List.mem_append_right _ (List.mem_append_left _ (List.mem_of_getElem? h)), g⟩
theorem zt_m2 {w : Jvm.Cond} (i : Nat) (h : tables_1_2[i]? = some w) (g : goodWord w = true) : w ∈ zt_ws := List.mem_filter.mpr ⟨List.mem_append_right _ (List.mem_append_right _ (List.mem_append_left _ (List.mem_of_getElem? h))), g⟩
theorem zt_m3 {w : Jvm.Cond} (i : Nat) (h : tables_1_3[i]? = some w) (g : goodWord w = true) : w ∈ zt_ws := List.mem_filter.mpr ⟨List.mem_append_right _ (List.mem_append_right _ (List.mem_append_right _ (List.mem_of_getElem? h))), g⟩
theorem zu_0 : ∀ w ∈ u_ws ztC0 ztF0 2, w ∈ zt_ws := by
  intro w hw
  obtain ⟨k, hk, rfl⟩ := List.mem_map.mp hw
  have hk := List.mem_range.mp hk
  rcases (show k = 0 ∨ k = 1 by omega) with rfl | rfl
  · exact (zt_m1 101 rfl rfl)
  · exact (zt_m1 103 rfl rfl)
theorem zy_0 : ∀ k, k < 2 → parseFieldDescriptor (ztF0 k).2.2.1 = some (zt_ty 0 k) := by decide +kernel
theorem zn_0 : ∀ a, a < 2 → ∀ b, b < 2 → a ≠ b → (ztF0 a).2.1 ≠ (ztF0 b).2.1 := by decide +kernel
theorem zu_1 : ∀ w ∈ u_ws ztC1 ztF1 4, w ∈ zt_ws := by
  intro w hw
  obtain ⟨k, hk, rfl⟩ := List.mem_map.mp hw
  have hk := List.mem_range.mp hk
  rcases (show k = 0 ∨ k = 1 ∨ k = 2 ∨ k = 3 by omega) with rfl | rfl | rfl | rfl
  · exact (zt_m1 125 rfl rfl)
  · exact (zt_m1 127 rfl rfl)
  · exact (zt_m1 129 rfl rfl)
  · exact (zt_m1 131 rfl rfl)
theorem zy_1 : ∀ k, k < 4 → parseFieldDescriptor (ztF1 k).2.2.1 = some (zt_ty 1 k) := by decide +kernel
theorem zn_1 : ∀ a, a < 4 → ∀ b, b < 4 → a ≠ b → (ztF1 a).2.1 ≠ (ztF1 b).2.1 := by decide +kernel
theorem zu_2 : ∀ w ∈ u_ws ztC2 ztF2 2, w ∈ zt_ws := by
  intro w hw
  obtain ⟨k, hk, rfl⟩ := List.mem_map.mp hw
  have hk := List.mem_range.mp hk
  rcases (show k = 0 ∨ k = 1 by omega) with rfl | rfl
  · exact (zt_m1 137 rfl rfl)
  · exact (zt_m1 139 rfl rfl)
theorem zy_2 : ∀ k, k < 2 → parseFieldDescriptor (ztF2 k).2.2.1 = some (zt_ty 2 k) := by decide +kernel
theorem zn_2 : ∀ a, a < 2 → ∀ b, b < 2 → a ≠ b → (ztF2 a).2.1 ≠ (ztF2 b).2.1 := by decide +kernel
theorem zu_3 : ∀ w ∈ u_ws ztC3 ztF3 3, w ∈ zt_ws := by
  intro w hw
  obtain ⟨k, hk, rfl⟩ := List.mem_map.mp hw
  have hk := List.mem_range.mp hk
  rcases (show k = 0 ∨ k = 1 ∨ k = 2 by omega) with rfl | rfl | rfl
  · exact (zt_m1 161 rfl rfl)
  · exact (zt_m1 163 rfl rfl)
  · exact (zt_m1 165 rfl rfl)
theorem zy_3 : ∀ k, k < 3 → parseFieldDescriptor (ztF3 k).2.2.1 = some (zt_ty 3 k) := by decide +kernel
theorem zn_3 : ∀ a, a < 3 → ∀ b, b < 3 → a ≠ b → (ztF3 a).2.1 ≠ (ztF3 b).2.1 := by decide +kernel
theorem zu_4 : ∀ w ∈ u_ws ztC4 ztF4 2, w ∈ zt_ws := by
  intro w hw
  obtain ⟨k, hk, rfl⟩ := List.mem_map.mp hw
  have hk := List.mem_range.mp hk
  rcases (show k = 0 ∨ k = 1 by omega) with rfl | rfl
  · exact (zt_m1 30 rfl rfl)
  · exact (zt_m1 32 rfl rfl)
theorem zy_4 : ∀ k, k < 2 → parseFieldDescriptor (ztF4 k).2.2.1 = some (zt_ty 4 k) := by decide +kernel
theorem zn_4 : ∀ a, a < 2 → ∀ b, b < 2 → a ≠ b → (ztF4 a).2.1 ≠ (ztF4 b).2.1 := by decide +kernel
theorem zu_5 : ∀ w ∈ u_ws ztC5 ztF5 9, w ∈ zt_ws := by
  intro w hw
  obtain ⟨k, hk, rfl⟩ := List.mem_map.mp hw
  have hk := List.mem_range.mp hk
  rcases (show k = 0 ∨ k = 1 ∨ k = 2 ∨ k = 3 ∨ k = 4 ∨ k = 5 ∨ k = 6 ∨ k = 7 ∨ k = 8 by omega) with rfl | rfl | rfl | rfl | rfl | rfl | rfl | rfl | rfl
  · exact (zt_m1 75 rfl rfl)
  · exact (zt_m1 77 rfl rfl)
  · exact (zt_m1 79 rfl rfl)
  · exact (zt_m1 81 rfl rfl)
  · exact (zt_m1 83 rfl rfl)
  · exact (zt_m1 85 rfl rfl)
  · exact (zt_m1 87 rfl rfl)
  · exact (zt_m1 89 rfl rfl)
  · exact (zt_m1 91 rfl rfl)
theorem zy_5 : ∀ k, k < 9 → parseFieldDescriptor (ztF5 k).2.2.1 = some (zt_ty 5 k) := by decide +kernel
theorem zn_5 : ∀ a, a < 9 → ∀ b, b < 9 → a ≠ b → (ztF5 a).2.1 ≠ (ztF5 b).2.1 := by decide +kernel
theorem zu_6 : ∀ w ∈ u_ws ztC6 ztF6 11, w ∈ zt_ws := by
  intro w hw
  obtain ⟨k, hk, rfl⟩ := List.mem_map.mp hw
  have hk := List.mem_range.mp hk
  rcases (show k = 0 ∨ k = 1 ∨ k = 2 ∨ k = 3 ∨ k = 4 ∨ k = 5 ∨ k = 6 ∨ k = 7 ∨ k = 8 ∨ k = 9 ∨ k = 10 by omega) with rfl | rfl | rfl | rfl | rfl | rfl | rfl | rfl | rfl | rfl | rfl
  · exact (zt_m1 186 rfl rfl)
  · exact (zt_m1 188 rfl rfl)
  · exact (zt_m1 190 rfl rfl)
  · exact (zt_m1 192 rfl rfl)
  · exact (zt_m1 194 rfl rfl)
  · exact (zt_m1 196 rfl rfl)
  · exact (zt_m1 198 rfl rfl)
  · exact (zt_m1 200 rfl rfl)
  · exact (zt_m1 202 rfl rfl)
  · exact (zt_m1 204 rfl rfl)
  · exact (zt_m1 206 rfl rfl)
theorem zy_6 : ∀ k, k < 11 → parseFieldDescriptor (ztF6 k).2.2.1 = some (zt_ty 6 k) := by decide +kernel
theorem zn_6 : ∀ a, a < 11 → ∀ b, b < 11 → a ≠ b → (ztF6 a).2.1 ≠ (ztF6 b).2.1 := by decide +kernel
theorem zu_7 : ∀ w ∈ u_ws ztC7 ztF7 6, w ∈ zt_ws := by
  intro w hw
  obtain ⟨k, hk, rfl⟩ := List.mem_map.mp hw
  have hk := List.mem_range.mp hk
  rcases (show k = 0 ∨ k = 1 ∨ k = 2 ∨ k = 3 ∨ k = 4 ∨ k = 5 by omega) with rfl | rfl | rfl | rfl | rfl | rfl
  · exact (zt_m1 215 rfl rfl)
  · exact (zt_m1 217 rfl rfl)
  · exact (zt_m1 219 rfl rfl)
  · exact (zt_m1 221 rfl rfl)
  · exact (zt_m1 223 rfl rfl)
  · exact (zt_m1 225 rfl rfl)
theorem zy_7 : ∀ k, k < 6 → parseFieldDescriptor (ztF7 k).2.2.1 = some (zt_ty 7 k) := by decide +kernel
theorem zn_7 : ∀ a, a < 6 → ∀ b, b < 6 → a ≠ b → (ztF7 a).2.1 ≠ (ztF7 b).2.1 := by decide +kernel
theorem zu_8 : ∀ w ∈ u_ws ztC8 ztF8 22, w ∈ zt_ws := by
  intro w hw
  obtain ⟨k, hk, rfl⟩ := List.mem_map.mp hw
  have hk := List.mem_range.mp hk
  rcases (show k = 0 ∨ k = 1 ∨ k = 2 ∨ k = 3 ∨ k = 4 ∨ k = 5 ∨ k = 6 ∨ k = 7 ∨ k = 8 ∨ k = 9 ∨ k = 10 ∨ k = 11 ∨ k = 12 ∨ k = 13 ∨ k = 14 ∨ k = 15 ∨ k = 16 ∨ k = 17 ∨ k = 18 ∨ k = 19 ∨ k = 20 ∨ k = 21 by omega) with rfl | rfl | rfl | rfl | rfl | rfl | rfl | rfl | rfl | rfl | rfl | rfl | rfl | rfl | rfl | rfl | rfl | rfl | rfl | rfl | rfl | rfl
  · exact (zt_m3 42 rfl rfl)
  · exact (zt_m3 44 rfl rfl)
  · exact (zt_m3 46 rfl rfl)
  · exact (zt_m3 48 rfl rfl)
  · exact (zt_m3 50 rfl rfl)
  · exact (zt_m3 52 rfl rfl)
  · exact (zt_m3 54 rfl rfl)
  · exact (zt_m3 56 rfl rfl)
  · exact (zt_m3 58 rfl rfl)
  · exact (zt_m3 60 rfl rfl)
  · exact (zt_m3 62 rfl rfl)
  · exact (zt_m3 64 rfl rfl)
  · exact (zt_m3 66 rfl rfl)
  · exact (zt_m3 68 rfl rfl)
  · exact (zt_m3 70 rfl rfl)
  · exact (zt_m3 72 rfl rfl)
  · exact (zt_m3 74 rfl rfl)
  · exact (zt_m3 76 rfl rfl)
  · exact (zt_m3 78 rfl rfl)
  · exact (zt_m3 80 rfl rfl)
  · exact (zt_m3 82 rfl rfl)
  · exact (zt_m3 84 rfl rfl)
theorem zy_8 : ∀ k, k < 22 → parseFieldDescriptor (ztF8 k).2.2.1 = some (zt_ty 8 k) := by decide +kernel
theorem zn_8 : ∀ a, a < 22 → ∀ b, b < 22 → a ≠ b → (ztF8 a).2.1 ≠ (ztF8 b).2.1 := by decide +kernel
theorem zt_cls_ok : ∀ (x : Nat) (q : vw_C), zt_cl[x]? = some q → x < 100 ∧ (∀ w ∈ u_ws q.1 q.2.1 q.2.2, w ∈ zt_ws) ∧ (∀ k, k < q.2.2 → parseFieldDescriptor (q.2.1 k).2.2.1 = some (zt_ty x k)) ∧ (∀ a, a < q.2.2 → ∀ b, b < q.2.2 → a ≠ b → (q.2.1 a).2.1 ≠ (q.2.1 b).2.1) := by
  intro x q hq
  match x, hq with
  | 0, hq => cases hq; exact ⟨by decide, zu_0, zy_0, zn_0⟩
  | 1, hq => cases hq; exact ⟨by decide, zu_1, zy_1, zn_1⟩
  | 2, hq => cases hq; exact ⟨by decide, zu_2, zy_2, zn_2⟩
  | 3, hq => cases hq; exact ⟨by decide, zu_3, zy_3, zn_3⟩
  | 4, hq => cases hq; exact ⟨by decide, zu_4, zy_4, zn_4⟩
  | 5, hq => cases hq; exact ⟨by decide, zu_5, zy_5, zn_5⟩
  | 6, hq => cases hq; exact ⟨by decide, zu_6, zy_6, zn_6⟩
  | 7, hq => cases hq; exact ⟨by decide, zu_7, zy_7, zn_7⟩
  | 8, hq => cases hq; exact ⟨by decide, zu_8, zy_8, zn_8⟩
  | n + 9, hq => simp [zt_cl] at hq
theorem zt_at_101 : zt_at 101 = some .int := rfl
theorem zt_at_b : zt_at 100 = some .byte := rfl
theorem zt_at_in : ∀ (t : Nat) (ty : FieldType), zt_at t = some ty → t = 100 ∨ t = 101 ∨ t = 201 ∨ t = 203 ∨ t = 205 := by
  intro t ty h
  unfold zt_at at h
  split at h <;> first | omega | (cases h)
theorem zt_at_100 : ∀ (t : Nat) (ty : FieldType), zt_at t = some ty → 100 ≤ t := by
  intro t ty h
  have := zt_at_in t ty h
  omega
theorem zt_ro_ok : ∀ (t : Nat) (C : String), zt_at t = some (.object C) → ∃ q : vw_C, zt_cl[t - 200]? = some q ∧ q.1 = C := by
  intro t C h
  rcases zt_at_in t _ h with rfl | rfl | rfl | rfl | rfl
  · cases h
  · cases h
  · cases h; exact ⟨_, rfl, rfl⟩
  · cases h; exact ⟨_, rfl, rfl⟩
  · cases h; exact ⟨_, rfl, rfl⟩
theorem zk_new_NameTreeLaw_7 : zm_rnw "NameTreeLaw" 7 7 6 := ⟨_, rfl, rfl, (zt_m1 12 rfl rfl), (zt_m1 13 rfl rfl), (zt_m1 1 rfl rfl)⟩
theorem zd_45 : zm_cd0 45 0 := ⟨(zt_m1 16 rfl rfl), (zt_m1 1 rfl rfl), rfl, ⟨by decide, by decide⟩, by decide +kernel⟩
theorem zk_spec_NameTreeLaw_9 : zm_rsp "NameTreeLaw" 9 45 0 := ⟨by decide, zd_45, Or.inl (zt_m1 14 rfl rfl), (zt_m1 15 rfl rfl), rfl, rfl⟩
theorem zk_new_NameTreeLaw_10 : zm_rnw "NameTreeLaw" 10 8 22 := ⟨_, rfl, rfl, (zt_m3 12 rfl rfl), (zt_m3 13 rfl rfl), (zt_m1 9 rfl rfl)⟩
theorem zd_73 : zm_cd0 73 0 := ⟨(zt_m3 16 rfl rfl), (zt_m1 9 rfl rfl), rfl, ⟨by decide, by decide⟩, by decide +kernel⟩
theorem zk_spec_NameTreeLaw_12 : zm_rsp "NameTreeLaw" 12 73 0 := ⟨by decide, zd_73, Or.inl (zt_m3 14 rfl rfl), (zt_m3 15 rfl rfl), rfl, rfl⟩
theorem zk_ldc2_NameTreeLaw_13 : Jvm.Cond.constantLong "NameTreeLaw" 13 (Int64.ofInt 4294967295) ∈ zt_ws := (zt_m3 232 rfl rfl)
theorem zd_46 : zm_cd0 46 2 := ⟨(zt_m1 231 rfl rfl), (zt_m1 1 rfl rfl), rfl, ⟨by decide, by decide⟩, by decide +kernel⟩
theorem zk_virt_NameTreeLaw_15 : zm_rvi "NameTreeLaw" 15 46 2 := ⟨by decide, zd_46, Or.inl (zt_m1 228 rfl rfl), (zt_m1 229 rfl rfl), (zt_m1 230 rfl rfl), _, rfl, rfl⟩
theorem zd_74 : zm_cd0 74 2 := ⟨(zt_m3 91 rfl rfl), (zt_m1 9 rfl rfl), rfl, ⟨by decide, by decide⟩, by decide +kernel⟩
theorem zk_virt_NameTreeLaw_19 : zm_rvi "NameTreeLaw" 19 74 2 := ⟨by decide, zd_74, Or.inl (zt_m3 88 rfl rfl), (zt_m3 89 rfl rfl), (zt_m3 90 rfl rfl), _, rfl, rfl⟩
theorem zd_47 : zm_cd0 47 2 := ⟨(zt_m2 3 rfl rfl), (zt_m1 1 rfl rfl), rfl, ⟨by decide, by decide⟩, by decide +kernel⟩
theorem zk_virt_NameTreeLaw_20 : zm_rvi "NameTreeLaw" 20 47 2 := ⟨by decide, zd_47, Or.inl (zt_m2 0 rfl rfl), (zt_m2 1 rfl rfl), (zt_m2 2 rfl rfl), _, rfl, rfl⟩
theorem zd_75 : zm_cd0 75 2 := ⟨(zt_m3 96 rfl rfl), (zt_m1 9 rfl rfl), rfl, ⟨by decide, by decide⟩, by decide +kernel⟩
theorem zk_virt_NameTreeLaw_24 : zm_rvi "NameTreeLaw" 24 75 2 := ⟨by decide, zd_75, Or.inl (zt_m3 93 rfl rfl), (zt_m3 94 rfl rfl), (zt_m3 95 rfl rfl), _, rfl, rfl⟩
theorem zd_48 : zm_cd0 48 1 := ⟨(zt_m2 7 rfl rfl), (zt_m1 1 rfl rfl), rfl, ⟨by decide, by decide⟩, by decide +kernel⟩
theorem zk_virt_NameTreeLaw_25 : zm_rvi "NameTreeLaw" 25 48 1 := ⟨by decide, zd_48, Or.inl (zt_m2 4 rfl rfl), (zt_m2 5 rfl rfl), (zt_m2 6 rfl rfl), _, rfl, rfl⟩
theorem zd_93 : zm_cd0 93 1 := ⟨(zt_m3 100 rfl rfl), (zt_m1 9 rfl rfl), rfl, ⟨by decide, by decide⟩, by decide +kernel⟩
theorem zk_virt_NameTreeLaw_29 : zm_rvi "NameTreeLaw" 29 93 1 := ⟨by decide, zd_93, Or.inl (zt_m3 97 rfl rfl), (zt_m3 98 rfl rfl), (zt_m3 99 rfl rfl), _, rfl, rfl⟩
theorem zd_49 : zm_cd0 49 1 := ⟨(zt_m2 25 rfl rfl), (zt_m1 1 rfl rfl), rfl, ⟨by decide, by decide⟩, by decide +kernel⟩
theorem zk_virt_NameTreeLaw_30 : zm_rvi "NameTreeLaw" 30 49 1 := ⟨by decide, zd_49, Or.inl (zt_m2 22 rfl rfl), (zt_m2 23 rfl rfl), (zt_m2 24 rfl rfl), _, rfl, rfl⟩
theorem zd_95 : zm_cd0 95 1 := ⟨(zt_m3 115 rfl rfl), (zt_m1 9 rfl rfl), rfl, ⟨by decide, by decide⟩, by decide +kernel⟩
theorem zk_virt_NameTreeLaw_33 : zm_rvi "NameTreeLaw" 33 95 1 := ⟨by decide, zd_95, Or.inl (zt_m3 112 rfl rfl), (zt_m3 113 rfl rfl), (zt_m3 114 rfl rfl), _, rfl, rfl⟩
theorem zd_50 : zm_cd0 50 0 := ⟨(zt_m2 148 rfl rfl), (zt_m1 1 rfl rfl), rfl, ⟨by decide, by decide⟩, by decide +kernel⟩
theorem zk_virt_NameTreeLaw_34 : zm_rvi "NameTreeLaw" 34 50 0 := ⟨by decide, zd_50, Or.inl (zt_m2 145 rfl rfl), (zt_m2 146 rfl rfl), (zt_m2 147 rfl rfl), _, rfl, rfl⟩
theorem zd_96 : zm_cd0 96 0 := ⟨(zt_m3 167 rfl rfl), (zt_m1 9 rfl rfl), rfl, ⟨by decide, by decide⟩, by decide +kernel⟩
theorem zk_virt_NameTreeLaw_38 : zm_rvi "NameTreeLaw" 38 96 0 := ⟨by decide, zd_96, Or.inl (zt_m3 164 rfl rfl), (zt_m3 165 rfl rfl), (zt_m3 166 rfl rfl), _, rfl, rfl⟩
theorem zd_51 : zm_cd0 51 0 := ⟨(zt_m2 161 rfl rfl), (zt_m1 1 rfl rfl), rfl, ⟨by decide, by decide⟩, by decide +kernel⟩
theorem zk_virt_NameTreeLaw_39 : zm_rvi "NameTreeLaw" 39 51 0 := ⟨by decide, zd_51, Or.inl (zt_m2 158 rfl rfl), (zt_m2 159 rfl rfl), (zt_m2 160 rfl rfl), _, rfl, rfl⟩
theorem zd_97 : zm_cd0 97 0 := ⟨(zt_m3 171 rfl rfl), (zt_m1 9 rfl rfl), rfl, ⟨by decide, by decide⟩, by decide +kernel⟩
theorem zk_virt_NameTreeLaw_42 : zm_rvi "NameTreeLaw" 42 97 0 := ⟨by decide, zd_97, Or.inl (zt_m3 168 rfl rfl), (zt_m3 169 rfl rfl), (zt_m3 170 rfl rfl), _, rfl, rfl⟩
theorem zd_52 : zm_cd0 52 0 := ⟨(zt_m2 171 rfl rfl), (zt_m1 1 rfl rfl), rfl, ⟨by decide, by decide⟩, by decide +kernel⟩
theorem zk_virt_NameTreeLaw_43 : zm_rvi "NameTreeLaw" 43 52 0 := ⟨by decide, zd_52, Or.inl (zt_m2 168 rfl rfl), (zt_m2 169 rfl rfl), (zt_m2 170 rfl rfl), _, rfl, rfl⟩
theorem zd_98 : zm_cd0 98 0 := ⟨(zt_m3 175 rfl rfl), (zt_m1 9 rfl rfl), rfl, ⟨by decide, by decide⟩, by decide +kernel⟩
theorem zk_virt_NameTreeLaw_46 : zm_rvi "NameTreeLaw" 46 98 0 := ⟨by decide, zd_98, Or.inl (zt_m3 172 rfl rfl), (zt_m3 173 rfl rfl), (zt_m3 174 rfl rfl), _, rfl, rfl⟩
theorem zd_53 : zm_cd0 53 0 := ⟨(zt_m2 191 rfl rfl), (zt_m1 1 rfl rfl), rfl, ⟨by decide, by decide⟩, by decide +kernel⟩
theorem zk_virt_NameTreeLaw_47 : zm_rvi "NameTreeLaw" 47 53 0 := ⟨by decide, zd_53, Or.inl (zt_m2 188 rfl rfl), (zt_m2 189 rfl rfl), (zt_m2 190 rfl rfl), _, rfl, rfl⟩
theorem zd_99 : zm_cd0 99 0 := ⟨(zt_m3 187 rfl rfl), (zt_m1 9 rfl rfl), rfl, ⟨by decide, by decide⟩, by decide +kernel⟩
theorem zk_virt_NameTreeLaw_50 : zm_rvi "NameTreeLaw" 50 99 0 := ⟨by decide, zd_99, Or.inl (zt_m3 184 rfl rfl), (zt_m3 185 rfl rfl), (zt_m3 186 rfl rfl), _, rfl, rfl⟩
theorem zd_54 : zm_cd0 54 0 := ⟨(zt_m2 195 rfl rfl), (zt_m1 1 rfl rfl), rfl, ⟨by decide, by decide⟩, by decide +kernel⟩
theorem zk_virt_NameTreeLaw_51 : zm_rvi "NameTreeLaw" 51 54 0 := ⟨by decide, zd_54, Or.inl (zt_m2 192 rfl rfl), (zt_m2 193 rfl rfl), (zt_m2 194 rfl rfl), _, rfl, rfl⟩
theorem zd_101 : zm_cd0 101 0 := ⟨(zt_m3 191 rfl rfl), (zt_m1 9 rfl rfl), rfl, ⟨by decide, by decide⟩, by decide +kernel⟩
theorem zk_virt_NameTreeLaw_54 : zm_rvi "NameTreeLaw" 54 101 0 := ⟨by decide, zd_101, Or.inl (zt_m3 188 rfl rfl), (zt_m3 189 rfl rfl), (zt_m3 190 rfl rfl), _, rfl, rfl⟩
theorem zd_55 : zm_cd0 55 1 := ⟨(zt_m2 209 rfl rfl), (zt_m1 1 rfl rfl), rfl, ⟨by decide, by decide⟩, by decide +kernel⟩
theorem zk_virt_NameTreeLaw_55 : zm_rvi "NameTreeLaw" 55 55 1 := ⟨by decide, zd_55, Or.inl (zt_m2 206 rfl rfl), (zt_m2 207 rfl rfl), (zt_m2 208 rfl rfl), _, rfl, rfl⟩
theorem zd_102 : zm_cd0 102 1 := ⟨(zt_m3 199 rfl rfl), (zt_m1 9 rfl rfl), rfl, ⟨by decide, by decide⟩, by decide +kernel⟩
theorem zk_virt_NameTreeLaw_59 : zm_rvi "NameTreeLaw" 59 102 1 := ⟨by decide, zd_102, Or.inl (zt_m3 196 rfl rfl), (zt_m3 197 rfl rfl), (zt_m3 198 rfl rfl), _, rfl, rfl⟩
theorem zd_56 : zm_cd0 56 0 := ⟨(zt_m2 217 rfl rfl), (zt_m1 1 rfl rfl), rfl, ⟨by decide, by decide⟩, by decide +kernel⟩
theorem zk_virt_NameTreeLaw_60 : zm_rvi "NameTreeLaw" 60 56 0 := ⟨by decide, zd_56, Or.inl (zt_m2 214 rfl rfl), (zt_m2 215 rfl rfl), (zt_m2 216 rfl rfl), _, rfl, rfl⟩
theorem zd_103 : zm_cd0 103 0 := ⟨(zt_m3 203 rfl rfl), (zt_m1 9 rfl rfl), rfl, ⟨by decide, by decide⟩, by decide +kernel⟩
theorem zk_virt_NameTreeLaw_63 : zm_rvi "NameTreeLaw" 63 103 0 := ⟨by decide, zd_103, Or.inl (zt_m3 200 rfl rfl), (zt_m3 201 rfl rfl), (zt_m3 202 rfl rfl), _, rfl, rfl⟩
theorem zd_57 : zm_cd0 57 1 := ⟨(zt_m2 221 rfl rfl), (zt_m1 1 rfl rfl), rfl, ⟨by decide, by decide⟩, by decide +kernel⟩
theorem zk_virt_NameTreeLaw_64 : zm_rvi "NameTreeLaw" 64 57 1 := ⟨by decide, zd_57, Or.inl (zt_m2 218 rfl rfl), (zt_m2 219 rfl rfl), (zt_m2 220 rfl rfl), _, rfl, rfl⟩
theorem zd_105 : zm_cd0 105 1 := ⟨(zt_m3 207 rfl rfl), (zt_m1 9 rfl rfl), rfl, ⟨by decide, by decide⟩, by decide +kernel⟩
theorem zk_virt_NameTreeLaw_67 : zm_rvi "NameTreeLaw" 67 105 1 := ⟨by decide, zd_105, Or.inl (zt_m3 204 rfl rfl), (zt_m3 205 rfl rfl), (zt_m3 206 rfl rfl), _, rfl, rfl⟩
theorem zd_58 : zm_cd0 58 2 := ⟨(zt_m2 229 rfl rfl), (zt_m1 1 rfl rfl), rfl, ⟨by decide, by decide⟩, by decide +kernel⟩
theorem zk_virt_NameTreeLaw_68 : zm_rvi "NameTreeLaw" 68 58 2 := ⟨by decide, zd_58, Or.inl (zt_m2 226 rfl rfl), (zt_m2 227 rfl rfl), (zt_m2 228 rfl rfl), _, rfl, rfl⟩
theorem zd_107 : zm_cd0 107 2 := ⟨(zt_m3 215 rfl rfl), (zt_m1 9 rfl rfl), rfl, ⟨by decide, by decide⟩, by decide +kernel⟩
theorem zk_virt_NameTreeLaw_71 : zm_rvi "NameTreeLaw" 71 107 2 := ⟨by decide, zd_107, Or.inl (zt_m3 212 rfl rfl), (zt_m3 213 rfl rfl), (zt_m3 214 rfl rfl), _, rfl, rfl⟩
theorem zd_59 : zm_cd0 59 2 := ⟨(zt_m3 2 rfl rfl), (zt_m1 1 rfl rfl), rfl, ⟨by decide, by decide⟩, by decide +kernel⟩
theorem zk_virt_NameTreeLaw_72 : zm_rvi "NameTreeLaw" 72 59 2 := ⟨by decide, zd_59, Or.inl (zt_m2 239 rfl rfl), (zt_m3 0 rfl rfl), (zt_m3 1 rfl rfl), _, rfl, rfl⟩
theorem zd_108 : zm_cd0 108 2 := ⟨(zt_m3 223 rfl rfl), (zt_m1 9 rfl rfl), rfl, ⟨by decide, by decide⟩, by decide +kernel⟩
theorem zk_virt_NameTreeLaw_75 : zm_rvi "NameTreeLaw" 75 108 2 := ⟨by decide, zd_108, Or.inl (zt_m3 220 rfl rfl), (zt_m3 221 rfl rfl), (zt_m3 222 rfl rfl), _, rfl, rfl⟩
theorem zd_60 : zm_cd0 60 1 := ⟨(zt_m3 7 rfl rfl), (zt_m1 1 rfl rfl), rfl, ⟨by decide, by decide⟩, by decide +kernel⟩
theorem zk_virt_NameTreeLaw_76 : zm_rvi "NameTreeLaw" 76 60 1 := ⟨by decide, zd_60, Or.inl (zt_m3 4 rfl rfl), (zt_m3 5 rfl rfl), (zt_m3 6 rfl rfl), _, rfl, rfl⟩
theorem zd_109 : zm_cd0 109 1 := ⟨(zt_m3 227 rfl rfl), (zt_m1 9 rfl rfl), rfl, ⟨by decide, by decide⟩, by decide +kernel⟩
theorem zk_virt_NameTreeLaw_79 : zm_rvi "NameTreeLaw" 79 109 1 := ⟨by decide, zd_109, Or.inl (zt_m3 224 rfl rfl), (zt_m3 225 rfl rfl), (zt_m3 226 rfl rfl), _, rfl, rfl⟩
theorem zk_obj_NameTree_FileTable_3 : zm_robj "NameTree$FileTable" 3 := ⟨(zt_m1 41 rfl rfl), (zt_m1 18 rfl rfl), (zt_m1 19 rfl rfl)⟩
theorem zk_anew_NameTree_FileTable_9 : zm_ran "NameTree$FileTable" 9 205 := ⟨by decide, _, rfl, by decide, (zt_m1 42 rfl rfl)⟩
theorem zk_putF_NameTree_FileTable_11 : zm_rp "NameTree$FileTable" "<init>" 11 0 0 := ⟨_, rfl, by decide, (zt_m1 98 rfl rfl), Or.inr ⟨rfl, rfl, rfl⟩⟩
theorem zk_new_NameTree_FileTable_9 : zm_rnw "NameTree$FileTable" 9 5 9 := ⟨_, rfl, rfl, (zt_m1 42 rfl rfl), (zt_m1 44 rfl rfl), (zt_m1 4 rfl rfl)⟩
theorem zd_26 : zm_cd0 26 1 := ⟨(zt_m1 47 rfl rfl), (zt_m1 4 rfl rfl), rfl, ⟨by decide, by decide⟩, by decide +kernel⟩
theorem zk_spec_NameTree_FileTable_17 : zm_rsp "NameTree$FileTable" 17 26 1 := ⟨by decide, zd_26, Or.inl (zt_m1 45 rfl rfl), (zt_m1 46 rfl rfl), rfl, rfl⟩
theorem zk_putF_NameTree_FileTable_20 : zm_rp "NameTree$FileTable" "<init>" 20 0 1 := ⟨_, rfl, by decide, (zt_m1 99 rfl rfl), Or.inr ⟨rfl, rfl, rfl⟩⟩
theorem zk_get_NameTree_FileTable_20 : zm_rf "NameTree$FileTable" 20 0 1 := ⟨_, rfl, by decide, (zt_m1 99 rfl rfl)⟩
theorem zd_27 : zm_cd0 27 1 := ⟨(zt_m1 97 rfl rfl), (zt_m1 4 rfl rfl), rfl, ⟨by decide, by decide⟩, by decide +kernel⟩
theorem zk_virt_NameTree_FileTable_24 : zm_rvi "NameTree$FileTable" 24 27 1 := ⟨by decide, zd_27, Or.inl (zt_m1 94 rfl rfl), (zt_m1 95 rfl rfl), (zt_m1 96 rfl rfl), _, rfl, rfl⟩
theorem zk_put_NameTree_FileTable_27 : zm_rp "NameTree$FileTable" "" 27 5 6 := ⟨_, rfl, by decide, (zt_m1 66 rfl rfl), Or.inl rfl⟩
theorem zk_get_NameTree_FileTable_11 : zm_rf "NameTree$FileTable" 11 0 0 := ⟨_, rfl, by decide, (zt_m1 98 rfl rfl)⟩
theorem zk_get_NameTree_FileTable_30 : zm_rf "NameTree$FileTable" 30 5 1 := ⟨_, rfl, by decide, (zt_m1 52 rfl rfl)⟩
theorem zd_30 : zm_cd0 30 0 := ⟨(zt_m2 15 rfl rfl), (zt_m1 4 rfl rfl), rfl, ⟨by decide, by decide⟩, by decide +kernel⟩
theorem zk_virt_NameTree_FileTable_34 : zm_rvi "NameTree$FileTable" 34 30 0 := ⟨by decide, zd_30, Or.inl (zt_m2 12 rfl rfl), (zt_m2 13 rfl rfl), (zt_m2 14 rfl rfl), _, rfl, rfl⟩
theorem zk_get_NameTree_FileTable_27 : zm_rf "NameTree$FileTable" 27 5 6 := ⟨_, rfl, by decide, (zt_m1 66 rfl rfl)⟩
theorem zk_obj_NameTree_NameRow_3 : zm_robj "NameTree$NameRow" 3 := ⟨(zt_m1 118 rfl rfl), (zt_m1 18 rfl rfl), (zt_m1 19 rfl rfl)⟩
theorem zk_get_NameTree_NameRow_9 : zm_rf "NameTree$NameRow" 9 1 2 := ⟨_, rfl, by decide, (zt_m1 123 rfl rfl)⟩
theorem zk_put_NameTree_NameRow_9 : zm_rp "NameTree$NameRow" "" 9 1 2 := ⟨_, rfl, by decide, (zt_m1 123 rfl rfl), Or.inl rfl⟩
theorem zd_72 : zm_cd0 72 4 := ⟨(zt_m2 137 rfl rfl), (zt_m1 1 rfl rfl), rfl, ⟨by decide, by decide⟩, by decide +kernel⟩
theorem zk_stat_NameTree_NameRow_15 : zm_rst "NameTree$NameRow" 15 72 4 := ⟨by decide, zd_72, Or.inr ⟨_, List.mem_of_getElem? (i := 0) rfl⟩, (zt_m2 136 rfl rfl)⟩
theorem zk_put_NameTree_NameRow_19 : zm_rp "NameTree$NameRow" "" 19 1 3 := ⟨_, rfl, by decide, (zt_m1 124 rfl rfl), Or.inl rfl⟩
theorem zk_get_NameTree_NameRow_19 : zm_rf "NameTree$NameRow" 19 1 3 := ⟨_, rfl, by decide, (zt_m1 124 rfl rfl)⟩
theorem zk_obj_NameTree_NameTable_3 : zm_robj "NameTree$NameTable" 3 := ⟨(zt_m1 111 rfl rfl), (zt_m1 18 rfl rfl), (zt_m1 19 rfl rfl)⟩
theorem zk_anew_NameTree_NameTable_9 : zm_ran "NameTree$NameTable" 9 201 := ⟨by decide, _, rfl, by decide, (zt_m1 112 rfl rfl)⟩
theorem zk_putF_NameTree_NameTable_11 : zm_rp "NameTree$NameTable" "<init>" 11 2 0 := ⟨_, rfl, by decide, (zt_m1 134 rfl rfl), Or.inr ⟨rfl, rfl, rfl⟩⟩
theorem zk_get_NameTree_NameTable_11 : zm_rf "NameTree$NameTable" 11 2 0 := ⟨_, rfl, by decide, (zt_m1 134 rfl rfl)⟩
theorem zk_new_NameTree_NameTable_9 : zm_rnw "NameTree$NameTable" 9 1 4 := ⟨_, rfl, rfl, (zt_m1 112 rfl rfl), (zt_m1 114 rfl rfl), (zt_m1 6 rfl rfl)⟩
theorem zd_7 : zm_cd0 7 0 := ⟨(zt_m1 117 rfl rfl), (zt_m1 6 rfl rfl), rfl, ⟨by decide, by decide⟩, by decide +kernel⟩
theorem zk_spec_NameTree_NameTable_17 : zm_rsp "NameTree$NameTable" 17 7 0 := ⟨by decide, zd_7, Or.inr ⟨_, List.mem_of_getElem? (i := 1) rfl⟩, (zt_m1 116 rfl rfl), rfl, rfl⟩
theorem zk_get_NameTree_NameTable_18 : zm_rf "NameTree$NameTable" 18 2 1 := ⟨_, rfl, by decide, (zt_m1 135 rfl rfl)⟩
theorem zk_get_NameTree_NameTable_22 : zm_rf "NameTree$NameTable" 22 1 0 := ⟨_, rfl, by decide, (zt_m1 119 rfl rfl)⟩
theorem zd_9 : zm_cd0 9 3 := ⟨(zt_m2 98 rfl rfl), (zt_m1 6 rfl rfl), rfl, ⟨by decide, by decide⟩, by decide +kernel⟩
theorem zk_virt_NameTree_NameTable_26 : zm_rvi "NameTree$NameTable" 26 9 3 := ⟨by decide, zd_9, Or.inl (zt_m2 95 rfl rfl), (zt_m2 96 rfl rfl), (zt_m2 97 rfl rfl), _, rfl, rfl⟩
theorem zk_get_NameTree_NameTable_30 : zm_rf "NameTree$NameTable" 30 6 8 := ⟨_, rfl, by decide, (zt_m1 179 rfl rfl)⟩
theorem zk_put_NameTree_NameTable_18 : zm_rp "NameTree$NameTable" "" 18 2 1 := ⟨_, rfl, by decide, (zt_m1 135 rfl rfl), Or.inl rfl⟩
theorem zk_get_NameTree_NameTable_33 : zm_rf "NameTree$NameTable" 33 6 5 := ⟨_, rfl, by decide, (zt_m1 173 rfl rfl)⟩
theorem zk_get_NameTree_NameTable_37 : zm_rf "NameTree$NameTable" 37 6 6 := ⟨_, rfl, by decide, (zt_m1 175 rfl rfl)⟩
theorem zk_get_NameTree_NameTable_40 : zm_rf "NameTree$NameTable" 40 6 7 := ⟨_, rfl, by decide, (zt_m1 178 rfl rfl)⟩
theorem zd_8 : zm_cd0 8 3 := ⟨(zt_m2 134 rfl rfl), (zt_m1 6 rfl rfl), rfl, ⟨by decide, by decide⟩, by decide +kernel⟩
theorem zk_virt_NameTree_NameTable_43 : zm_rvi "NameTree$NameTable" 43 8 3 := ⟨by decide, zd_8, Or.inl (zt_m2 131 rfl rfl), (zt_m2 132 rfl rfl), (zt_m2 133 rfl rfl), _, rfl, rfl⟩
theorem zk_put_NameTree_NameTable_22 : zm_rp "NameTree$NameTable" "" 22 1 0 := ⟨_, rfl, by decide, (zt_m1 119 rfl rfl), Or.inl rfl⟩
theorem zk_put_NameTree_NameTable_47 : zm_rp "NameTree$NameTable" "" 47 1 1 := ⟨_, rfl, by decide, (zt_m1 120 rfl rfl), Or.inl rfl⟩
theorem zk_get_NameTree_NameTable_50 : zm_rf "NameTree$NameTable" 50 5 4 := ⟨_, rfl, by decide, (zt_m1 62 rfl rfl)⟩
theorem zk_put_NameTree_NameTable_50 : zm_rp "NameTree$NameTable" "" 50 5 4 := ⟨_, rfl, by decide, (zt_m1 62 rfl rfl), Or.inl rfl⟩
theorem zk_get_NameTree_NameTable_55 : zm_rf "NameTree$NameTable" 55 5 5 := ⟨_, rfl, by decide, (zt_m1 65 rfl rfl)⟩
theorem zk_max_NameTree_NameTable_58 : zm_rmax "NameTree$NameTable" 58 := ⟨(zt_m2 144 rfl rfl), (zt_m2 124 rfl rfl), (zt_m1 10 rfl rfl), (zt_m2 125 rfl rfl)⟩
theorem zk_put_NameTree_NameTable_55 : zm_rp "NameTree$NameTable" "" 55 5 5 := ⟨_, rfl, by decide, (zt_m1 65 rfl rfl), Or.inl rfl⟩
theorem zk_get_NameTree_NameTable_64 : zm_rf "NameTree$NameTable" 64 5 2 := ⟨_, rfl, by decide, (zt_m1 57 rfl rfl)⟩
theorem zk_put_NameTree_NameTable_64 : zm_rp "NameTree$NameTable" "" 64 5 2 := ⟨_, rfl, by decide, (zt_m1 57 rfl rfl), Or.inl rfl⟩
theorem zk_get_NameTree_NameTable_67 : zm_rf "NameTree$NameTable" 67 5 1 := ⟨_, rfl, by decide, (zt_m1 53 rfl rfl)⟩
theorem zk_put_NameTree_NameTable_70 : zm_rp "NameTree$NameTable" "" 70 5 6 := ⟨_, rfl, by decide, (zt_m1 68 rfl rfl), Or.inl rfl⟩
theorem zd_14 : zm_cd0 14 1 := ⟨(zt_m2 182 rfl rfl), (zt_m1 5 rfl rfl), rfl, ⟨by decide, by decide⟩, by decide +kernel⟩
theorem zk_stat_NameTree_NameTable_73 : zm_rst "NameTree$NameTable" 73 14 1 := ⟨by decide, zd_14, Or.inl (zt_m2 180 rfl rfl), (zt_m2 181 rfl rfl)⟩
theorem zk_get_NameTree_NameTable_47 : zm_rf "NameTree$NameTable" 47 1 1 := ⟨_, rfl, by decide, (zt_m1 120 rfl rfl)⟩
theorem zk_obj_NameTree_Span_3 : zm_robj "NameTree$Span" 3 := ⟨(zt_m1 154 rfl rfl), (zt_m1 18 rfl rfl), (zt_m1 19 rfl rfl)⟩
theorem zk_get_NameTree_Span_9 : zm_rf "NameTree$Span" 9 3 1 := ⟨_, rfl, by decide, (zt_m1 157 rfl rfl)⟩
theorem zk_get_NameTree_Span_15 : zm_rf "NameTree$Span" 15 3 2 := ⟨_, rfl, by decide, (zt_m1 159 rfl rfl)⟩
theorem zd_18 : zm_cd0 18 2 := ⟨(zt_m2 74 rfl rfl), (zt_m1 8 rfl rfl), rfl, ⟨by decide, by decide⟩, by decide +kernel⟩
theorem zk_virt_NameTree_Span_18 : zm_rvi "NameTree$Span" 18 18 2 := ⟨by decide, zd_18, Or.inl (zt_m2 71 rfl rfl), (zt_m2 73 rfl rfl), (zt_m0 6 rfl rfl), _, rfl, rfl⟩
theorem zk_put_NameTree_Span_9 : zm_rp "NameTree$Span" "" 9 3 1 := ⟨_, rfl, by decide, (zt_m1 157 rfl rfl), Or.inl rfl⟩
theorem zk_get_NameTree_Span_22 : zm_rf "NameTree$Span" 22 3 0 := ⟨_, rfl, by decide, (zt_m1 155 rfl rfl)⟩
theorem zk_obj_NameTree_Tape_3 : zm_robj "NameTree$Tape" 3 := ⟨(zt_m1 25 rfl rfl), (zt_m1 18 rfl rfl), (zt_m1 19 rfl rfl)⟩
theorem zk_putF_NameTree_Tape_9 : zm_rp "NameTree$Tape" "<init>" 9 4 0 := ⟨_, rfl, by decide, (zt_m1 26 rfl rfl), Or.inr ⟨rfl, rfl, rfl⟩⟩
theorem zk_get_NameTree_Tape_15 : zm_rf "NameTree$Tape" 15 4 1 := ⟨_, rfl, by decide, (zt_m1 28 rfl rfl)⟩
theorem zk_get_NameTree_Tape_9 : zm_rf "NameTree$Tape" 9 4 0 := ⟨_, rfl, by decide, (zt_m1 26 rfl rfl)⟩
theorem zk_put_NameTree_Tape_15 : zm_rp "NameTree$Tape" "" 15 4 1 := ⟨_, rfl, by decide, (zt_m1 28 rfl rfl), Or.inl rfl⟩
theorem zd_25 : zm_cd0 25 2 := ⟨(zt_m2 41 rfl rfl), (zt_m1 2 rfl rfl), rfl, ⟨by decide, by decide⟩, by decide +kernel⟩
theorem zk_virt_NameTree_Tape_19 : zm_rvi "NameTree$Tape" 19 25 2 := ⟨by decide, zd_25, Or.inl (zt_m2 38 rfl rfl), (zt_m2 40 rfl rfl), (zt_m0 1 rfl rfl), _, rfl, rfl⟩
theorem zk_obj_NameTree_TreeFile_3 : zm_robj "NameTree$TreeFile" 3 := ⟨(zt_m1 48 rfl rfl), (zt_m1 18 rfl rfl), (zt_m1 19 rfl rfl)⟩
theorem zk_putF_NameTree_TreeFile_9 : zm_rp "NameTree$TreeFile" "<init>" 9 5 0 := ⟨_, rfl, by decide, (zt_m1 49 rfl rfl), Or.inr ⟨rfl, rfl, rfl⟩⟩
theorem zk_put_NameTree_TreeFile_15 : zm_rp "NameTree$TreeFile" "" 15 5 1 := ⟨_, rfl, by decide, (zt_m1 51 rfl rfl), Or.inl rfl⟩
theorem zk_put_NameTree_TreeFile_18 : zm_rp "NameTree$TreeFile" "" 18 5 2 := ⟨_, rfl, by decide, (zt_m1 56 rfl rfl), Or.inl rfl⟩
theorem zk_put_NameTree_TreeFile_21 : zm_rp "NameTree$TreeFile" "" 21 5 3 := ⟨_, rfl, by decide, (zt_m1 59 rfl rfl), Or.inl rfl⟩
theorem zk_put_NameTree_TreeFile_24 : zm_rp "NameTree$TreeFile" "" 24 5 4 := ⟨_, rfl, by decide, (zt_m1 61 rfl rfl), Or.inl rfl⟩
theorem zk_put_NameTree_TreeFile_27 : zm_rp "NameTree$TreeFile" "" 27 5 5 := ⟨_, rfl, by decide, (zt_m1 64 rfl rfl), Or.inl rfl⟩
theorem zk_put_NameTree_TreeFile_30 : zm_rp "NameTree$TreeFile" "" 30 5 6 := ⟨_, rfl, by decide, (zt_m1 67 rfl rfl), Or.inl rfl⟩
theorem zk_put_NameTree_TreeFile_34 : zm_rp "NameTree$TreeFile" "" 34 5 8 := ⟨_, rfl, by decide, (zt_m1 73 rfl rfl), Or.inl rfl⟩
theorem zk_get_NameTree_TreeFile_37 : zm_rf "NameTree$TreeFile" 37 5 7 := ⟨_, rfl, by decide, (zt_m1 71 rfl rfl)⟩
theorem zk_put_NameTree_TreeFile_37 : zm_rp "NameTree$TreeFile" "" 37 5 7 := ⟨_, rfl, by decide, (zt_m1 71 rfl rfl), Or.inl rfl⟩
theorem zk_stat_NameTree_TreeFile_41 : zm_rst "NameTree$TreeFile" 41 72 4 := ⟨by decide, zd_72, Or.inr ⟨_, List.mem_of_getElem? (i := 2) rfl⟩, (zt_m2 136 rfl rfl)⟩
theorem zk_get_NameTree_TreeFile_15 : zm_rf "NameTree$TreeFile" 15 5 1 := ⟨_, rfl, by decide, (zt_m1 51 rfl rfl)⟩
theorem zk_get_NameTree_TreeFile_34 : zm_rf "NameTree$TreeFile" 34 5 8 := ⟨_, rfl, by decide, (zt_m1 73 rfl rfl)⟩
theorem zk_get_NameTree_TreeFile_27 : zm_rf "NameTree$TreeFile" 27 5 5 := ⟨_, rfl, by decide, (zt_m1 64 rfl rfl)⟩
theorem zd_71 : zm_cd0 71 1 := ⟨(zt_m2 18 rfl rfl), (zt_m1 1 rfl rfl), rfl, ⟨by decide, by decide⟩, by decide +kernel⟩
theorem zk_stat_NameTree_TreeFile_45 : zm_rst "NameTree$TreeFile" 45 71 1 := ⟨by decide, zd_71, Or.inr ⟨_, List.mem_of_getElem? (i := 3) rfl⟩, (zt_m2 17 rfl rfl)⟩
theorem zd_70 : zm_cd0 70 1 := ⟨(zt_m2 21 rfl rfl), (zt_m1 1 rfl rfl), rfl, ⟨by decide, by decide⟩, by decide +kernel⟩
theorem zk_stat_NameTree_TreeFile_49 : zm_rst "NameTree$TreeFile" 49 70 1 := ⟨by decide, zd_70, Or.inr ⟨_, List.mem_of_getElem? (i := 4) rfl⟩, (zt_m2 20 rfl rfl)⟩
theorem zk_get_NameTree_TreeFile_24 : zm_rf "NameTree$TreeFile" 24 5 4 := ⟨_, rfl, by decide, (zt_m1 61 rfl rfl)⟩
theorem zk_max_NameTree_TreeFile_52 : zm_rmax "NameTree$TreeFile" 52 := ⟨(zt_m2 123 rfl rfl), (zt_m2 124 rfl rfl), (zt_m1 10 rfl rfl), (zt_m2 125 rfl rfl)⟩
theorem zk_get_NameTree_TreeFile_21 : zm_rf "NameTree$TreeFile" 21 5 3 := ⟨_, rfl, by decide, (zt_m1 59 rfl rfl)⟩
theorem zk_get_NameTree_TreeFile_18 : zm_rf "NameTree$TreeFile" 18 5 2 := ⟨_, rfl, by decide, (zt_m1 56 rfl rfl)⟩
theorem zk_virt_NameTree_TreeFile_58 : zm_rvi "NameTree$TreeFile" 58 27 1 := ⟨by decide, zd_27, Or.inl (zt_m2 187 rfl rfl), (zt_m1 95 rfl rfl), (zt_m1 96 rfl rfl), _, rfl, rfl⟩
theorem zk_obj_NameTree_Walk_3 : zm_robj "NameTree$Walk" 3 := ⟨(zt_m1 147 rfl rfl), (zt_m1 18 rfl rfl), (zt_m1 19 rfl rfl)⟩
theorem zk_anew_NameTree_Walk_9 : zm_ran "NameTree$Walk" 9 203 := ⟨by decide, _, rfl, by decide, (zt_m1 148 rfl rfl)⟩
theorem zk_putF_NameTree_Walk_11 : zm_rp "NameTree$Walk" "<init>" 11 6 2 := ⟨_, rfl, by decide, (zt_m1 170 rfl rfl), Or.inr ⟨rfl, rfl, rfl⟩⟩
theorem zk_putF_NameTree_Walk_17 : zm_rp "NameTree$Walk" "<init>" 17 6 0 := ⟨_, rfl, by decide, (zt_m1 168 rfl rfl), Or.inr ⟨rfl, rfl, rfl⟩⟩
theorem zk_putF_NameTree_Walk_21 : zm_rp "NameTree$Walk" "<init>" 21 6 1 := ⟨_, rfl, by decide, (zt_m1 169 rfl rfl), Or.inr ⟨rfl, rfl, rfl⟩⟩
theorem zk_get_NameTree_Walk_11 : zm_rf "NameTree$Walk" 11 6 2 := ⟨_, rfl, by decide, (zt_m1 170 rfl rfl)⟩
theorem zk_new_NameTree_Walk_9 : zm_rnw "NameTree$Walk" 9 3 3 := ⟨_, rfl, rfl, (zt_m1 148 rfl rfl), (zt_m1 150 rfl rfl), (zt_m1 8 rfl rfl)⟩
theorem zd_15 : zm_cd0 15 0 := ⟨(zt_m1 153 rfl rfl), (zt_m1 8 rfl rfl), rfl, ⟨by decide, by decide⟩, by decide +kernel⟩
theorem zk_spec_NameTree_Walk_25 : zm_rsp "NameTree$Walk" 25 15 0 := ⟨by decide, zd_15, Or.inr ⟨_, List.mem_of_getElem? (i := 5) rfl⟩, (zt_m1 152 rfl rfl), rfl, rfl⟩
theorem zd_36 : zm_cd0 36 4 := ⟨(zt_m2 49 rfl rfl), (zt_m1 7 rfl rfl), rfl, ⟨by decide, by decide⟩, by decide +kernel⟩
theorem zk_virt_NameTree_Walk_26 : zm_rvi "NameTree$Walk" 26 36 4 := ⟨by decide, zd_36, Or.inl (zt_m2 46 rfl rfl), (zt_m2 47 rfl rfl), (zt_m2 48 rfl rfl), _, rfl, rfl⟩
theorem zk_get_NameTree_Walk_30 : zm_rf "NameTree$Walk" 30 6 7 := ⟨_, rfl, by decide, (zt_m1 177 rfl rfl)⟩
theorem zd_44 : zm_cd0 44 0 := ⟨(zt_m2 90 rfl rfl), (zt_m1 7 rfl rfl), rfl, ⟨by decide, by decide⟩, by decide +kernel⟩
theorem zk_virt_NameTree_Walk_34 : zm_rvi "NameTree$Walk" 34 44 0 := ⟨by decide, zd_44, Or.inl (zt_m2 87 rfl rfl), (zt_m2 89 rfl rfl), (zt_m0 9 rfl rfl), _, rfl, rfl⟩
theorem zd_37 : zm_cd0 37 0 := ⟨(zt_m2 53 rfl rfl), (zt_m1 7 rfl rfl), rfl, ⟨by decide, by decide⟩, by decide +kernel⟩
theorem zk_virt_NameTree_Walk_38 : zm_rvi "NameTree$Walk" 38 37 0 := ⟨by decide, zd_37, Or.inl (zt_m2 50 rfl rfl), (zt_m2 52 rfl rfl), (zt_m0 2 rfl rfl), _, rfl, rfl⟩
theorem zd_38 : zm_cd0 38 3 := ⟨(zt_m2 57 rfl rfl), (zt_m1 7 rfl rfl), rfl, ⟨by decide, by decide⟩, by decide +kernel⟩
theorem zk_virt_NameTree_Walk_41 : zm_rvi "NameTree$Walk" 41 38 3 := ⟨by decide, zd_38, Or.inl (zt_m2 54 rfl rfl), (zt_m2 56 rfl rfl), (zt_m0 3 rfl rfl), _, rfl, rfl⟩
theorem zk_ldc_NameTree_Walk_45 : Jvm.Cond.constant "NameTree$Walk" 45 (Int32.ofInt 1000000) ∈ zt_ws := (zt_m2 58 rfl rfl)
theorem zd_39 : zm_cd0 39 0 := ⟨(zt_m2 62 rfl rfl), (zt_m1 7 rfl rfl), rfl, ⟨by decide, by decide⟩, by decide +kernel⟩
theorem zk_virt_NameTree_Walk_46 : zm_rvi "NameTree$Walk" 46 39 0 := ⟨by decide, zd_39, Or.inl (zt_m2 59 rfl rfl), (zt_m2 61 rfl rfl), (zt_m0 4 rfl rfl), _, rfl, rfl⟩
theorem zd_41 : zm_cd0 41 0 := ⟨(zt_m2 78 rfl rfl), (zt_m1 7 rfl rfl), rfl, ⟨by decide, by decide⟩, by decide +kernel⟩
theorem zk_virt_NameTree_Walk_49 : zm_rvi "NameTree$Walk" 49 41 0 := ⟨by decide, zd_41, Or.inl (zt_m2 75 rfl rfl), (zt_m2 77 rfl rfl), (zt_m0 7 rfl rfl), _, rfl, rfl⟩
theorem zd_42 : zm_cd0 42 2 := ⟨(zt_m2 86 rfl rfl), (zt_m1 7 rfl rfl), rfl, ⟨by decide, by decide⟩, by decide +kernel⟩
theorem zk_virt_NameTree_Walk_52 : zm_rvi "NameTree$Walk" 52 42 2 := ⟨by decide, zd_42, Or.inl (zt_m2 83 rfl rfl), (zt_m2 85 rfl rfl), (zt_m0 8 rfl rfl), _, rfl, rfl⟩
theorem zk_put_NameTree_Walk_56 : zm_rp "NameTree$Walk" "" 56 6 3 := ⟨_, rfl, by decide, (zt_m1 171 rfl rfl), Or.inl rfl⟩
theorem zk_put_NameTree_Walk_59 : zm_rp "NameTree$Walk" "" 59 6 4 := ⟨_, rfl, by decide, (zt_m1 172 rfl rfl), Or.inl rfl⟩
theorem zk_put_NameTree_Walk_62 : zm_rp "NameTree$Walk" "" 62 6 5 := ⟨_, rfl, by decide, (zt_m1 174 rfl rfl), Or.inl rfl⟩
theorem zk_put_NameTree_Walk_66 : zm_rp "NameTree$Walk" "" 66 6 6 := ⟨_, rfl, by decide, (zt_m1 176 rfl rfl), Or.inl rfl⟩
theorem zk_put_NameTree_Walk_30 : zm_rp "NameTree$Walk" "" 30 6 7 := ⟨_, rfl, by decide, (zt_m1 177 rfl rfl), Or.inl rfl⟩
theorem zk_get_NameTree_Walk_17 : zm_rf "NameTree$Walk" 17 6 0 := ⟨_, rfl, by decide, (zt_m1 168 rfl rfl)⟩
theorem zk_put_NameTree_Walk_69 : zm_rp "NameTree$Walk" "" 69 6 8 := ⟨_, rfl, by decide, (zt_m1 180 rfl rfl), Or.inl rfl⟩
theorem zk_put_NameTree_Walk_72 : zm_rp "NameTree$Walk" "" 72 6 9 := ⟨_, rfl, by decide, (zt_m1 182 rfl rfl), Or.inl rfl⟩
theorem zk_put_NameTree_Walk_76 : zm_rp "NameTree$Walk" "" 76 6 10 := ⟨_, rfl, by decide, (zt_m1 184 rfl rfl), Or.inl rfl⟩
theorem zk_get_NameTree_Walk_56 : zm_rf "NameTree$Walk" 56 6 3 := ⟨_, rfl, by decide, (zt_m1 171 rfl rfl)⟩
theorem zk_put_NameTree_Walk_79 : zm_rp "NameTree$Walk" "" 79 3 0 := ⟨_, rfl, by decide, (zt_m1 156 rfl rfl), Or.inl rfl⟩
theorem zk_put_NameTree_Walk_82 : zm_rp "NameTree$Walk" "" 82 3 1 := ⟨_, rfl, by decide, (zt_m1 158 rfl rfl), Or.inl rfl⟩
theorem zk_put_NameTree_Walk_85 : zm_rp "NameTree$Walk" "" 85 3 2 := ⟨_, rfl, by decide, (zt_m1 160 rfl rfl), Or.inl rfl⟩
theorem zd_40 : zm_cd0 40 0 := ⟨(zt_m2 66 rfl rfl), (zt_m1 7 rfl rfl), rfl, ⟨by decide, by decide⟩, by decide +kernel⟩
theorem zk_virt_NameTree_Walk_88 : zm_rvi "NameTree$Walk" 88 40 0 := ⟨by decide, zd_40, Or.inl (zt_m2 63 rfl rfl), (zt_m2 65 rfl rfl), (zt_m0 5 rfl rfl), _, rfl, rfl⟩
theorem zd_16 : zm_cd0 16 0 := ⟨(zt_m2 70 rfl rfl), (zt_m1 8 rfl rfl), rfl, ⟨by decide, by decide⟩, by decide +kernel⟩
theorem zk_virt_NameTree_Walk_92 : zm_rvi "NameTree$Walk" 92 16 0 := ⟨by decide, zd_16, Or.inl (zt_m2 67 rfl rfl), (zt_m2 68 rfl rfl), (zt_m2 69 rfl rfl), _, rfl, rfl⟩
theorem zk_get_NameTree_Walk_79 : zm_rf "NameTree$Walk" 79 3 0 := ⟨_, rfl, by decide, (zt_m1 156 rfl rfl)⟩
theorem zk_get_NameTree_Walk_82 : zm_rf "NameTree$Walk" 82 3 1 := ⟨_, rfl, by decide, (zt_m1 158 rfl rfl)⟩
theorem zd_17 : zm_cd0 17 0 := ⟨(zt_m2 82 rfl rfl), (zt_m1 8 rfl rfl), rfl, ⟨by decide, by decide⟩, by decide +kernel⟩
theorem zk_virt_NameTree_Walk_95 : zm_rvi "NameTree$Walk" 95 17 0 := ⟨by decide, zd_17, Or.inl (zt_m2 79 rfl rfl), (zt_m2 80 rfl rfl), (zt_m2 81 rfl rfl), _, rfl, rfl⟩
theorem zk_get_NameTree_Walk_66 : zm_rf "NameTree$Walk" 66 6 6 := ⟨_, rfl, by decide, (zt_m1 176 rfl rfl)⟩
theorem zk_get_NameTree_Walk_76 : zm_rf "NameTree$Walk" 76 6 10 := ⟨_, rfl, by decide, (zt_m1 184 rfl rfl)⟩
theorem zk_get_NameTree_Walk_99 : zm_rf "NameTree$Walk" 99 5 1 := ⟨_, rfl, by decide, (zt_m1 55 rfl rfl)⟩
theorem zk_get_NameTree_Walk_69 : zm_rf "NameTree$Walk" 69 6 8 := ⟨_, rfl, by decide, (zt_m1 180 rfl rfl)⟩
theorem zk_get_NameTree_Walk_104 : zm_rf "NameTree$Walk" 104 5 6 := ⟨_, rfl, by decide, (zt_m1 69 rfl rfl)⟩
theorem zk_get_NameTree_Walk_21 : zm_rf "NameTree$Walk" 21 6 1 := ⟨_, rfl, by decide, (zt_m1 169 rfl rfl)⟩
theorem zk_get_NameTree_Walk_62 : zm_rf "NameTree$Walk" 62 6 5 := ⟨_, rfl, by decide, (zt_m1 174 rfl rfl)⟩
theorem zd_11 : zm_cd0 11 4 := ⟨(zt_m2 94 rfl rfl), (zt_m1 5 rfl rfl), rfl, ⟨by decide, by decide⟩, by decide +kernel⟩
theorem zk_virt_NameTree_Walk_107 : zm_rvi "NameTree$Walk" 107 11 4 := ⟨by decide, zd_11, Or.inl (zt_m2 91 rfl rfl), (zt_m2 92 rfl rfl), (zt_m2 93 rfl rfl), _, rfl, rfl⟩
theorem zk_get_NameTree_Walk_72 : zm_rf "NameTree$Walk" 72 6 9 := ⟨_, rfl, by decide, (zt_m1 182 rfl rfl)⟩
theorem zk_get_NameTree_Walk_113 : zm_rf "NameTree$Walk" 113 1 1 := ⟨_, rfl, by decide, (zt_m1 121 rfl rfl)⟩
theorem zd_43 : zm_cd0 43 1 := ⟨(zt_m2 102 rfl rfl), (zt_m1 7 rfl rfl), rfl, ⟨by decide, by decide⟩, by decide +kernel⟩
theorem zk_virt_NameTree_Walk_118 : zm_rvi "NameTree$Walk" 118 43 1 := ⟨by decide, zd_43, Or.inl (zt_m2 99 rfl rfl), (zt_m2 101 rfl rfl), (zt_m0 10 rfl rfl), _, rfl, rfl⟩
theorem zk_get_NameTree_Walk_59 : zm_rf "NameTree$Walk" 59 6 4 := ⟨_, rfl, by decide, (zt_m1 172 rfl rfl)⟩
theorem zk_get_NameTree_Walk_122 : zm_rf "NameTree$Walk" 122 5 7 := ⟨_, rfl, by decide, (zt_m1 72 rfl rfl)⟩
theorem zk_get_NameTree_Walk_125 : zm_rf "NameTree$Walk" 125 5 8 := ⟨_, rfl, by decide, (zt_m1 74 rfl rfl)⟩
theorem zd_29 : zm_cd0 29 1 := ⟨(zt_m2 106 rfl rfl), (zt_m1 4 rfl rfl), rfl, ⟨by decide, by decide⟩, by decide +kernel⟩
theorem zk_virt_NameTree_Walk_128 : zm_rvi "NameTree$Walk" 128 29 1 := ⟨by decide, zd_29, Or.inl (zt_m2 103 rfl rfl), (zt_m2 104 rfl rfl), (zt_m2 105 rfl rfl), _, rfl, rfl⟩
theorem zk_obj_NameTree_1 : zm_robj "NameTree" 1 := ⟨(zt_m1 17 rfl rfl), (zt_m1 18 rfl rfl), (zt_m1 19 rfl rfl)⟩
theorem zk_new_NameTree_7 : zm_rnw "NameTree" 7 4 2 := ⟨_, rfl, rfl, (zt_m1 20 rfl rfl), (zt_m1 21 rfl rfl), (zt_m1 2 rfl rfl)⟩
theorem zd_19 : zm_cd0 19 0 := ⟨(zt_m1 24 rfl rfl), (zt_m1 2 rfl rfl), rfl, ⟨by decide, by decide⟩, by decide +kernel⟩
theorem zk_spec_NameTree_9 : zm_rsp "NameTree" 9 19 0 := ⟨by decide, zd_19, Or.inr ⟨_, List.mem_of_getElem? (i := 6) rfl⟩, (zt_m1 23 rfl rfl), rfl, rfl⟩
theorem zk_putF_NameTree_10 : zm_rp "NameTree" "<init>" 10 7 0 := ⟨_, rfl, by decide, (zt_m1 209 rfl rfl), Or.inr ⟨rfl, rfl, rfl⟩⟩
theorem zk_new_NameTree_16 : zm_rnw "NameTree" 16 0 2 := ⟨_, rfl, rfl, (zt_m1 36 rfl rfl), (zt_m1 37 rfl rfl), (zt_m1 3 rfl rfl)⟩
theorem zd_1 : zm_cd0 1 0 := ⟨(zt_m1 40 rfl rfl), (zt_m1 3 rfl rfl), rfl, ⟨by decide, by decide⟩, by decide +kernel⟩
theorem zk_spec_NameTree_18 : zm_rsp "NameTree" 18 1 0 := ⟨by decide, zd_1, Or.inl (zt_m1 38 rfl rfl), (zt_m1 39 rfl rfl), rfl, rfl⟩
theorem zk_putF_NameTree_19 : zm_rp "NameTree" "<init>" 19 7 1 := ⟨_, rfl, by decide, (zt_m1 210 rfl rfl), Or.inr ⟨rfl, rfl, rfl⟩⟩
theorem zk_new_NameTree_23 : zm_rnw "NameTree" 23 2 2 := ⟨_, rfl, rfl, (zt_m1 106 rfl rfl), (zt_m1 107 rfl rfl), (zt_m1 5 rfl rfl)⟩
theorem zd_10 : zm_cd0 10 0 := ⟨(zt_m1 110 rfl rfl), (zt_m1 5 rfl rfl), rfl, ⟨by decide, by decide⟩, by decide +kernel⟩
theorem zk_spec_NameTree_25 : zm_rsp "NameTree" 25 10 0 := ⟨by decide, zd_10, Or.inl (zt_m1 108 rfl rfl), (zt_m1 109 rfl rfl), rfl, rfl⟩
theorem zk_putF_NameTree_26 : zm_rp "NameTree" "<init>" 26 7 2 := ⟨_, rfl, by decide, (zt_m1 211 rfl rfl), Or.inr ⟨rfl, rfl, rfl⟩⟩
theorem zk_new_NameTree_30 : zm_rnw "NameTree" 30 6 11 := ⟨_, rfl, rfl, (zt_m1 142 rfl rfl), (zt_m1 143 rfl rfl), (zt_m1 7 rfl rfl)⟩
theorem zk_get_NameTree_19 : zm_rf "NameTree" 19 7 1 := ⟨_, rfl, by decide, (zt_m1 210 rfl rfl)⟩
theorem zk_get_NameTree_32 : zm_rf "NameTree" 32 0 1 := ⟨_, rfl, by decide, (zt_m1 100 rfl rfl)⟩
theorem zk_get_NameTree_26 : zm_rf "NameTree" 26 7 2 := ⟨_, rfl, by decide, (zt_m1 211 rfl rfl)⟩
theorem zd_34 : zm_cd0 34 2 := ⟨(zt_m1 146 rfl rfl), (zt_m1 7 rfl rfl), rfl, ⟨by decide, by decide⟩, by decide +kernel⟩
theorem zk_spec_NameTree_36 : zm_rsp "NameTree" 36 34 2 := ⟨by decide, zd_34, Or.inl (zt_m1 144 rfl rfl), (zt_m1 145 rfl rfl), rfl, rfl⟩
theorem zk_putF_NameTree_39 : zm_rp "NameTree" "<init>" 39 7 3 := ⟨_, rfl, by decide, (zt_m1 212 rfl rfl), Or.inr ⟨rfl, rfl, rfl⟩⟩
theorem zk_putF_NameTree_43 : zm_rp "NameTree" "<init>" 43 7 4 := ⟨_, rfl, by decide, (zt_m1 213 rfl rfl), Or.inr ⟨rfl, rfl, rfl⟩⟩
theorem zk_put_NameTree_46 : zm_rp "NameTree" "" 46 7 5 := ⟨_, rfl, by decide, (zt_m1 214 rfl rfl), Or.inl rfl⟩
theorem zk_get_NameTree_10 : zm_rf "NameTree" 10 7 0 := ⟨_, rfl, by decide, (zt_m1 209 rfl rfl)⟩
theorem zd_20 : zm_cd0 20 1 := ⟨(zt_m1 235 rfl rfl), (zt_m1 2 rfl rfl), rfl, ⟨by decide, by decide⟩, by decide +kernel⟩
theorem zk_virt_NameTree_50 : zm_rvi "NameTree" 50 20 1 := ⟨by decide, zd_20, Or.inl (zt_m1 232 rfl rfl), (zt_m1 233 rfl rfl), (zt_m1 234 rfl rfl), _, rfl, rfl⟩
theorem zd_21 : zm_cd0 21 1 := ⟨(zt_m1 239 rfl rfl), (zt_m1 2 rfl rfl), rfl, ⟨by decide, by decide⟩, by decide +kernel⟩
theorem zk_virt_NameTree_54 : zm_rvi "NameTree" 54 21 1 := ⟨by decide, zd_21, Or.inl (zt_m1 236 rfl rfl), (zt_m1 237 rfl rfl), (zt_m1 238 rfl rfl), _, rfl, rfl⟩
theorem zk_get_NameTree_58 : zm_rf "NameTree" 58 4 1 := ⟨_, rfl, by decide, (zt_m1 29 rfl rfl)⟩
theorem zd_5 : zm_cd0 5 0 := ⟨(zt_m2 11 rfl rfl), (zt_m1 3 rfl rfl), rfl, ⟨by decide, by decide⟩, by decide +kernel⟩
theorem zk_virt_NameTree_61 : zm_rvi "NameTree" 61 5 0 := ⟨by decide, zd_5, Or.inl (zt_m2 8 rfl rfl), (zt_m2 9 rfl rfl), (zt_m2 10 rfl rfl), _, rfl, rfl⟩
theorem zd_62 : zm_cd0 62 0 := ⟨(zt_m2 29 rfl rfl), (zt_m1 1 rfl rfl), rfl, ⟨by decide, by decide⟩, by decide +kernel⟩
theorem zk_virt_NameTree_65 : zm_rvi "NameTree" 65 62 0 := ⟨by decide, zd_62, Or.inl (zt_m2 26 rfl rfl), (zt_m2 28 rfl rfl), (zt_m0 0 rfl rfl), _, rfl, rfl⟩
theorem zk_get_NameTree_39 : zm_rf "NameTree" 39 7 3 := ⟨_, rfl, by decide, (zt_m1 212 rfl rfl)⟩
theorem zk_get_NameTree_68 : zm_rf "NameTree" 68 6 10 := ⟨_, rfl, by decide, (zt_m1 185 rfl rfl)⟩
theorem zd_3 : zm_cd0 3 0 := ⟨(zt_m2 110 rfl rfl), (zt_m1 3 rfl rfl), rfl, ⟨by decide, by decide⟩, by decide +kernel⟩
theorem zk_virt_NameTree_71 : zm_rvi "NameTree" 71 3 0 := ⟨by decide, zd_3, Or.inl (zt_m2 107 rfl rfl), (zt_m2 108 rfl rfl), (zt_m2 109 rfl rfl), _, rfl, rfl⟩
theorem zk_get_NameTree_75 : zm_rf "NameTree" 75 6 8 := ⟨_, rfl, by decide, (zt_m1 181 rfl rfl)⟩
theorem zd_64 : zm_cd0 64 2 := ⟨(zt_m2 114 rfl rfl), (zt_m1 1 rfl rfl), rfl, ⟨by decide, by decide⟩, by decide +kernel⟩
theorem zk_virt_NameTree_78 : zm_rvi "NameTree" 78 64 2 := ⟨by decide, zd_64, Or.inl (zt_m2 111 rfl rfl), (zt_m2 113 rfl rfl), (zt_m0 11 rfl rfl), _, rfl, rfl⟩
theorem zk_virt_NameTree_82 : zm_rvi "NameTree" 82 27 1 := ⟨by decide, zd_27, Or.inl (zt_m2 126 rfl rfl), (zt_m1 95 rfl rfl), (zt_m1 96 rfl rfl), _, rfl, rfl⟩
theorem zd_12 : zm_cd0 12 2 := ⟨(zt_m2 130 rfl rfl), (zt_m1 5 rfl rfl), rfl, ⟨by decide, by decide⟩, by decide +kernel⟩
theorem zk_virt_NameTree_88 : zm_rvi "NameTree" 88 12 2 := ⟨by decide, zd_12, Or.inl (zt_m2 127 rfl rfl), (zt_m2 128 rfl rfl), (zt_m2 129 rfl rfl), _, rfl, rfl⟩
theorem zk_get_NameTree_92 : zm_rf "NameTree" 92 5 0 := ⟨_, rfl, by decide, (zt_m1 50 rfl rfl)⟩
theorem zd_63 : zm_cd0 63 1 := ⟨(zt_m2 152 rfl rfl), (zt_m1 1 rfl rfl), rfl, ⟨by decide, by decide⟩, by decide +kernel⟩
theorem zk_virt_NameTree_95 : zm_rvi "NameTree" 95 63 1 := ⟨by decide, zd_63, Or.inl (zt_m2 149 rfl rfl), (zt_m2 151 rfl rfl), (zt_m0 13 rfl rfl), _, rfl, rfl⟩
theorem zk_get_NameTree_99 : zm_rf "NameTree" 99 5 1 := ⟨_, rfl, by decide, (zt_m1 54 rfl rfl)⟩
theorem zk_get_NameTree_43 : zm_rf "NameTree" 43 7 4 := ⟨_, rfl, by decide, (zt_m1 213 rfl rfl)⟩
theorem zd_22 : zm_cd0 22 0 := ⟨(zt_m2 33 rfl rfl), (zt_m1 2 rfl rfl), rfl, ⟨by decide, by decide⟩, by decide +kernel⟩
theorem zk_virt_NameTree_102 : zm_rvi "NameTree" 102 22 0 := ⟨by decide, zd_22, Or.inl (zt_m2 30 rfl rfl), (zt_m2 31 rfl rfl), (zt_m2 32 rfl rfl), _, rfl, rfl⟩
theorem zd_24 : zm_cd0 24 1 := ⟨(zt_m2 156 rfl rfl), (zt_m1 2 rfl rfl), rfl, ⟨by decide, by decide⟩, by decide +kernel⟩
theorem zk_virt_NameTree_105 : zm_rvi "NameTree" 105 24 1 := ⟨by decide, zd_24, Or.inl (zt_m2 153 rfl rfl), (zt_m2 154 rfl rfl), (zt_m2 155 rfl rfl), _, rfl, rfl⟩
theorem zk_get_NameTree_109 : zm_rf "NameTree" 109 4 0 := ⟨_, rfl, by decide, (zt_m1 27 rfl rfl)⟩
theorem zd_35 : zm_cd0 35 3 := ⟨(zt_m2 45 rfl rfl), (zt_m1 7 rfl rfl), rfl, ⟨by decide, by decide⟩, by decide +kernel⟩
theorem zk_virt_NameTree_113 : zm_rvi "NameTree" 113 35 3 := ⟨by decide, zd_35, Or.inl (zt_m2 42 rfl rfl), (zt_m2 43 rfl rfl), (zt_m2 44 rfl rfl), _, rfl, rfl⟩
theorem zk_stat_NameTree_117 : zm_rst "NameTree" 117 70 1 := ⟨by decide, zd_70, Or.inl (zt_m2 162 rfl rfl), (zt_m2 20 rfl rfl)⟩
theorem zd_28 : zm_cd0 28 3 := ⟨(zt_m2 166 rfl rfl), (zt_m1 4 rfl rfl), rfl, ⟨by decide, by decide⟩, by decide +kernel⟩
theorem zk_virt_NameTree_120 : zm_rvi "NameTree" 120 28 3 := ⟨by decide, zd_28, Or.inl (zt_m2 163 rfl rfl), (zt_m2 164 rfl rfl), (zt_m2 165 rfl rfl), _, rfl, rfl⟩
theorem zk_get_NameTree_124 : zm_rf "NameTree" 124 6 9 := ⟨_, rfl, by decide, (zt_m1 183 rfl rfl)⟩
theorem zd_69 : zm_cd0 69 1 := ⟨(zt_m2 175 rfl rfl), (zt_m1 1 rfl rfl), rfl, ⟨by decide, by decide⟩, by decide +kernel⟩
theorem zk_virt_NameTree_128 : zm_rvi "NameTree" 128 69 1 := ⟨by decide, zd_69, Or.inl (zt_m2 172 rfl rfl), (zt_m2 174 rfl rfl), (zt_m0 14 rfl rfl), _, rfl, rfl⟩
theorem zk_get_NameTree_132 : zm_rf "NameTree" 132 5 4 := ⟨_, rfl, by decide, (zt_m1 63 rfl rfl)⟩
theorem zd_68 : zm_cd0 68 2 := ⟨(zt_m2 198 rfl rfl), (zt_m1 1 rfl rfl), rfl, ⟨by decide, by decide⟩, by decide +kernel⟩
theorem zk_stat_NameTree_135 : zm_rst "NameTree" 135 68 2 := ⟨by decide, zd_68, Or.inl (zt_m2 196 rfl rfl), (zt_m2 197 rfl rfl)⟩
theorem zd_66 : zm_cd0 66 0 := ⟨(zt_m2 202 rfl rfl), (zt_m1 1 rfl rfl), rfl, ⟨by decide, by decide⟩, by decide +kernel⟩
theorem zk_virt_NameTree_139 : zm_rvi "NameTree" 139 66 0 := ⟨by decide, zd_66, Or.inl (zt_m2 199 rfl rfl), (zt_m2 201 rfl rfl), (zt_m0 15 rfl rfl), _, rfl, rfl⟩
theorem zd_67 : zm_cd0 67 2 := ⟨(zt_m2 205 rfl rfl), (zt_m1 1 rfl rfl), rfl, ⟨by decide, by decide⟩, by decide +kernel⟩
theorem zk_stat_NameTree_142 : zm_rst "NameTree" 142 67 2 := ⟨by decide, zd_67, Or.inl (zt_m2 203 rfl rfl), (zt_m2 204 rfl rfl)⟩
theorem zd_13 : zm_cd0 13 1 := ⟨(zt_m2 179 rfl rfl), (zt_m1 5 rfl rfl), rfl, ⟨by decide, by decide⟩, by decide +kernel⟩
theorem zk_virt_NameTree_146 : zm_rvi "NameTree" 146 13 1 := ⟨by decide, zd_13, Or.inl (zt_m2 176 rfl rfl), (zt_m2 177 rfl rfl), (zt_m2 178 rfl rfl), _, rfl, rfl⟩
theorem zd_61 : zm_cd0 61 1 := ⟨(zt_m2 213 rfl rfl), (zt_m1 1 rfl rfl), rfl, ⟨by decide, by decide⟩, by decide +kernel⟩
theorem zk_virt_NameTree_149 : zm_rvi "NameTree" 149 61 1 := ⟨by decide, zd_61, Or.inl (zt_m2 210 rfl rfl), (zt_m2 212 rfl rfl), (zt_m0 16 rfl rfl), _, rfl, rfl⟩
theorem zk_get_NameTree_152 : zm_rf "NameTree" 152 5 3 := ⟨_, rfl, by decide, (zt_m1 60 rfl rfl)⟩
theorem zk_put_NameTree_152 : zm_rp "NameTree" "" 152 5 3 := ⟨_, rfl, by decide, (zt_m1 60 rfl rfl), Or.inl rfl⟩
theorem zd_2 : zm_cd0 2 1 := ⟨(zt_m2 225 rfl rfl), (zt_m1 3 rfl rfl), rfl, ⟨by decide, by decide⟩, by decide +kernel⟩
theorem zk_virt_NameTree_155 : zm_rvi "NameTree" 155 2 1 := ⟨by decide, zd_2, Or.inl (zt_m2 222 rfl rfl), (zt_m2 223 rfl rfl), (zt_m2 224 rfl rfl), _, rfl, rfl⟩
theorem zk_get_NameTree_159 : zm_rf "NameTree" 159 5 2 := ⟨_, rfl, by decide, (zt_m1 58 rfl rfl)⟩
theorem zd_33 : zm_cd0 33 0 := ⟨(zt_m2 186 rfl rfl), (zt_m1 4 rfl rfl), rfl, ⟨by decide, by decide⟩, by decide +kernel⟩
theorem zk_virt_NameTree_161 : zm_rvi "NameTree" 161 33 0 := ⟨by decide, zd_33, Or.inl (zt_m2 183 rfl rfl), (zt_m2 184 rfl rfl), (zt_m2 185 rfl rfl), _, rfl, rfl⟩
theorem zd_6 : zm_cd0 6 1 := ⟨(zt_m2 233 rfl rfl), (zt_m1 3 rfl rfl), rfl, ⟨by decide, by decide⟩, by decide +kernel⟩
theorem zk_virt_NameTree_164 : zm_rvi "NameTree" 164 6 1 := ⟨by decide, zd_6, Or.inl (zt_m2 230 rfl rfl), (zt_m2 231 rfl rfl), (zt_m2 232 rfl rfl), _, rfl, rfl⟩
theorem zd_32 : zm_cd0 32 0 := ⟨(zt_m2 237 rfl rfl), (zt_m1 4 rfl rfl), rfl, ⟨by decide, by decide⟩, by decide +kernel⟩
theorem zk_virt_NameTree_168 : zm_rvi "NameTree" 168 32 0 := ⟨by decide, zd_32, Or.inl (zt_m2 234 rfl rfl), (zt_m2 235 rfl rfl), (zt_m2 236 rfl rfl), _, rfl, rfl⟩
theorem zk_virt_NameTree_171 : zm_rvi "NameTree" 171 30 0 := ⟨by decide, zd_30, Or.inl (zt_m2 238 rfl rfl), (zt_m2 13 rfl rfl), (zt_m2 14 rfl rfl), _, rfl, rfl⟩
theorem zk_get_NameTree_174 : zm_rf "NameTree" 174 5 6 := ⟨_, rfl, by decide, (zt_m1 70 rfl rfl)⟩
theorem zk_virt_NameTree_177 : zm_rvi "NameTree" 177 29 1 := ⟨by decide, zd_29, Or.inl (zt_m3 3 rfl rfl), (zt_m2 104 rfl rfl), (zt_m2 105 rfl rfl), _, rfl, rfl⟩
theorem zd_4 : zm_cd0 4 0 := ⟨(zt_m3 11 rfl rfl), (zt_m1 3 rfl rfl), rfl, ⟨by decide, by decide⟩, by decide +kernel⟩
theorem zk_virt_NameTree_180 : zm_rvi "NameTree" 180 4 0 := ⟨by decide, zd_4, Or.inl (zt_m3 8 rfl rfl), (zt_m3 9 rfl rfl), (zt_m3 10 rfl rfl), _, rfl, rfl⟩
theorem zk_get_NameTree_183 : zm_rf "NameTree" 183 2 1 := ⟨_, rfl, by decide, (zt_m1 136 rfl rfl)⟩
theorem zd_23 : zm_cd0 23 1 := ⟨(zt_m2 37 rfl rfl), (zt_m1 2 rfl rfl), rfl, ⟨by decide, by decide⟩, by decide +kernel⟩
theorem zk_virt_NameTree_186 : zm_rvi "NameTree" 186 23 1 := ⟨by decide, zd_23, Or.inl (zt_m2 34 rfl rfl), (zt_m2 35 rfl rfl), (zt_m2 36 rfl rfl), _, rfl, rfl⟩
theorem zk_virt_NameTree_189 : zm_rvi "NameTree" 189 36 4 := ⟨by decide, zd_36, Or.inl (zt_m2 157 rfl rfl), (zt_m2 47 rfl rfl), (zt_m2 48 rfl rfl), _, rfl, rfl⟩
theorem zd_65 : zm_cd0 65 2 := ⟨(zt_m2 118 rfl rfl), (zt_m1 1 rfl rfl), rfl, ⟨by decide, by decide⟩, by decide +kernel⟩
theorem zk_virt_NameTree_193 : zm_rvi "NameTree" 193 65 2 := ⟨by decide, zd_65, Or.inl (zt_m2 115 rfl rfl), (zt_m2 117 rfl rfl), (zt_m0 12 rfl rfl), _, rfl, rfl⟩
theorem zd_31 : zm_cd0 31 0 := ⟨(zt_m2 122 rfl rfl), (zt_m1 4 rfl rfl), rfl, ⟨by decide, by decide⟩, by decide +kernel⟩
theorem zk_virt_NameTree_196 : zm_rvi "NameTree" 196 31 0 := ⟨by decide, zd_31, Or.inl (zt_m2 119 rfl rfl), (zt_m2 120 rfl rfl), (zt_m2 121 rfl rfl), _, rfl, rfl⟩
theorem zk_get_NameTree_46 : zm_rf "NameTree" 46 7 5 := ⟨_, rfl, by decide, (zt_m1 214 rfl rfl)⟩
theorem zk_get_NameTree_199 : zm_rf "NameTree" 199 1 1 := ⟨_, rfl, by decide, (zt_m1 122 rfl rfl)⟩
theorem zk_min_NameTree_204 : zm_rmin "NameTree" 204 := ⟨(zt_m2 138 rfl rfl), (zt_m2 139 rfl rfl), (zt_m1 10 rfl rfl), (zt_m2 140 rfl rfl)⟩
theorem zk_copy_NameTree_210 : zm_rcopy "NameTree" 210 := ⟨(zt_m2 141 rfl rfl), (zt_m2 143 rfl rfl), (zt_m2 142 rfl rfl), (zt_m1 11 rfl rfl)⟩
theorem zk_obj_NameTreeModel_1 : zm_robj "NameTreeModel" 1 := ⟨(zt_m3 17 rfl rfl), (zt_m1 18 rfl rfl), (zt_m1 19 rfl rfl)⟩
theorem zk_put_NameTreeModel_7 : zm_rp "NameTreeModel" "" 7 8 0 := ⟨_, rfl, by decide, (zt_m3 20 rfl rfl), Or.inl rfl⟩
theorem zk_putF_NameTreeModel_13 : zm_rp "NameTreeModel" "<init>" 13 8 2 := ⟨_, rfl, by decide, (zt_m3 22 rfl rfl), Or.inr ⟨rfl, rfl, rfl⟩⟩
theorem zk_putF_NameTreeModel_17 : zm_rp "NameTreeModel" "<init>" 17 8 4 := ⟨_, rfl, by decide, (zt_m3 24 rfl rfl), Or.inr ⟨rfl, rfl, rfl⟩⟩
theorem zk_putF_NameTreeModel_20 : zm_rp "NameTreeModel" "<init>" 20 8 5 := ⟨_, rfl, by decide, (zt_m3 25 rfl rfl), Or.inr ⟨rfl, rfl, rfl⟩⟩
theorem zk_putF_NameTreeModel_23 : zm_rp "NameTreeModel" "<init>" 23 8 6 := ⟨_, rfl, by decide, (zt_m3 26 rfl rfl), Or.inr ⟨rfl, rfl, rfl⟩⟩
theorem zk_putF_NameTreeModel_26 : zm_rp "NameTreeModel" "<init>" 26 8 7 := ⟨_, rfl, by decide, (zt_m3 27 rfl rfl), Or.inr ⟨rfl, rfl, rfl⟩⟩
theorem zk_putF_NameTreeModel_29 : zm_rp "NameTreeModel" "<init>" 29 8 8 := ⟨_, rfl, by decide, (zt_m3 28 rfl rfl), Or.inr ⟨rfl, rfl, rfl⟩⟩
theorem zk_ldc_NameTreeModel_32 : Jvm.Cond.constant "NameTreeModel" 32 (Int32.ofInt 41000) ∈ zt_ws := (zt_m3 18 rfl rfl)
theorem zk_putF_NameTreeModel_33 : zm_rp "NameTreeModel" "<init>" 33 8 9 := ⟨_, rfl, by decide, (zt_m3 29 rfl rfl), Or.inr ⟨rfl, rfl, rfl⟩⟩
theorem zk_putF_NameTreeModel_37 : zm_rp "NameTreeModel" "<init>" 37 8 11 := ⟨_, rfl, by decide, (zt_m3 31 rfl rfl), Or.inr ⟨rfl, rfl, rfl⟩⟩
theorem zk_putF_NameTreeModel_40 : zm_rp "NameTreeModel" "<init>" 40 8 12 := ⟨_, rfl, by decide, (zt_m3 32 rfl rfl), Or.inr ⟨rfl, rfl, rfl⟩⟩
theorem zk_putF_NameTreeModel_43 : zm_rp "NameTreeModel" "<init>" 43 8 13 := ⟨_, rfl, by decide, (zt_m3 33 rfl rfl), Or.inr ⟨rfl, rfl, rfl⟩⟩
theorem zk_putF_NameTreeModel_46 : zm_rp "NameTreeModel" "<init>" 46 8 14 := ⟨_, rfl, by decide, (zt_m3 34 rfl rfl), Or.inr ⟨rfl, rfl, rfl⟩⟩
theorem zk_ldc_NameTreeModel_49 : Jvm.Cond.constant "NameTreeModel" 49 (Int32.ofInt 42000) ∈ zt_ws := (zt_m3 19 rfl rfl)
theorem zk_putF_NameTreeModel_50 : zm_rp "NameTreeModel" "<init>" 50 8 15 := ⟨_, rfl, by decide, (zt_m3 35 rfl rfl), Or.inr ⟨rfl, rfl, rfl⟩⟩
theorem zk_get_NameTreeModel_20 : zm_rf "NameTreeModel" 20 8 5 := ⟨_, rfl, by decide, (zt_m3 25 rfl rfl)⟩
theorem zk_get_NameTreeModel_53 : zm_rf "NameTreeModel" 53 8 1 := ⟨_, rfl, by decide, (zt_m3 21 rfl rfl)⟩
theorem zk_get_NameTreeModel_13 : zm_rf "NameTreeModel" 13 8 2 := ⟨_, rfl, by decide, (zt_m3 22 rfl rfl)⟩
theorem zk_ldc2_NameTreeModel_56 : Jvm.Cond.constantLong "NameTreeModel" 56 (Int64.ofInt 255) ∈ zt_ws := (zt_m3 92 rfl rfl)
theorem zk_put_NameTreeModel_53 : zm_rp "NameTreeModel" "" 53 8 1 := ⟨_, rfl, by decide, (zt_m3 21 rfl rfl), Or.inl rfl⟩
theorem zk_put_NameTreeModel_58 : zm_rp "NameTreeModel" "" 58 8 3 := ⟨_, rfl, by decide, (zt_m3 23 rfl rfl), Or.inl rfl⟩
theorem zk_get_NameTreeModel_58 : zm_rf "NameTreeModel" 58 8 3 := ⟨_, rfl, by decide, (zt_m3 23 rfl rfl)⟩
theorem zk_get_NameTreeModel_17 : zm_rf "NameTreeModel" 17 8 4 := ⟨_, rfl, by decide, (zt_m3 24 rfl rfl)⟩
theorem zk_get_NameTreeModel_29 : zm_rf "NameTreeModel" 29 8 8 := ⟨_, rfl, by decide, (zt_m3 28 rfl rfl)⟩
theorem zk_get_NameTreeModel_23 : zm_rf "NameTreeModel" 23 8 6 := ⟨_, rfl, by decide, (zt_m3 26 rfl rfl)⟩
theorem zd_77 : zm_cd0 77 1 := ⟨(zt_m3 111 rfl rfl), (zt_m1 9 rfl rfl), rfl, ⟨by decide, by decide⟩, by decide +kernel⟩
theorem zk_stat_NameTreeModel_61 : zm_rst "NameTreeModel" 61 77 1 := ⟨by decide, zd_77, Or.inl (zt_m3 109 rfl rfl), (zt_m3 110 rfl rfl)⟩
theorem zd_78 : zm_cd0 78 1 := ⟨(zt_m3 108 rfl rfl), (zt_m1 9 rfl rfl), rfl, ⟨by decide, by decide⟩, by decide +kernel⟩
theorem zk_virt_NameTreeModel_65 : zm_rvi "NameTreeModel" 65 78 1 := ⟨by decide, zd_78, Or.inl (zt_m3 105 rfl rfl), (zt_m3 107 rfl rfl), (zt_m0 18 rfl rfl), _, rfl, rfl⟩
theorem zk_get_NameTreeModel_68 : zm_rf "NameTreeModel" 68 8 10 := ⟨_, rfl, by decide, (zt_m3 30 rfl rfl)⟩
theorem zk_get_NameTreeModel_40 : zm_rf "NameTreeModel" 40 8 12 := ⟨_, rfl, by decide, (zt_m3 32 rfl rfl)⟩
theorem zk_get_NameTreeModel_37 : zm_rf "NameTreeModel" 37 8 11 := ⟨_, rfl, by decide, (zt_m3 31 rfl rfl)⟩
theorem zk_get_NameTreeModel_43 : zm_rf "NameTreeModel" 43 8 13 := ⟨_, rfl, by decide, (zt_m3 33 rfl rfl)⟩
theorem zk_get_NameTreeModel_46 : zm_rf "NameTreeModel" 46 8 14 := ⟨_, rfl, by decide, (zt_m3 34 rfl rfl)⟩
theorem zk_get_NameTreeModel_50 : zm_rf "NameTreeModel" 50 8 15 := ⟨_, rfl, by decide, (zt_m3 35 rfl rfl)⟩
theorem zd_84 : zm_cd0 84 3 := ⟨(zt_m3 143 rfl rfl), (zt_m1 9 rfl rfl), rfl, ⟨by decide, by decide⟩, by decide +kernel⟩
theorem zk_virt_NameTreeModel_71 : zm_rvi "NameTreeModel" 71 84 3 := ⟨by decide, zd_84, Or.inl (zt_m3 140 rfl rfl), (zt_m3 142 rfl rfl), (zt_m0 25 rfl rfl), _, rfl, rfl⟩
theorem zk_get_NameTreeModel_75 : zm_rf "NameTreeModel" 75 8 17 := ⟨_, rfl, by decide, (zt_m3 37 rfl rfl)⟩
theorem zk_get_NameTreeModel_78 : zm_rf "NameTreeModel" 78 8 19 := ⟨_, rfl, by decide, (zt_m3 39 rfl rfl)⟩
theorem zk_get_NameTreeModel_81 : zm_rf "NameTreeModel" 81 8 18 := ⟨_, rfl, by decide, (zt_m3 38 rfl rfl)⟩
theorem zk_put_NameTreeModel_68 : zm_rp "NameTreeModel" "" 68 8 10 := ⟨_, rfl, by decide, (zt_m3 30 rfl rfl), Or.inl rfl⟩
theorem zd_82 : zm_cd0 82 1 := ⟨(zt_m3 155 rfl rfl), (zt_m1 9 rfl rfl), rfl, ⟨by decide, by decide⟩, by decide +kernel⟩
theorem zk_virt_NameTreeModel_84 : zm_rvi "NameTreeModel" 84 82 1 := ⟨by decide, zd_82, Or.inl (zt_m3 152 rfl rfl), (zt_m3 154 rfl rfl), (zt_m0 28 rfl rfl), _, rfl, rfl⟩
theorem zd_81 : zm_cd0 81 1 := ⟨(zt_m3 183 rfl rfl), (zt_m1 9 rfl rfl), rfl, ⟨by decide, by decide⟩, by decide +kernel⟩
theorem zk_virt_NameTreeModel_87 : zm_rvi "NameTreeModel" 87 81 1 := ⟨by decide, zd_81, Or.inl (zt_m3 180 rfl rfl), (zt_m3 182 rfl rfl), (zt_m0 32 rfl rfl), _, rfl, rfl⟩
theorem zk_get_NameTreeModel_26 : zm_rf "NameTreeModel" 26 8 7 := ⟨_, rfl, by decide, (zt_m3 27 rfl rfl)⟩
theorem zk_get_NameTreeModel_90 : zm_rf "NameTreeModel" 90 8 16 := ⟨_, rfl, by decide, (zt_m3 36 rfl rfl)⟩
theorem zk_put_NameTreeModel_90 : zm_rp "NameTreeModel" "" 90 8 16 := ⟨_, rfl, by decide, (zt_m3 36 rfl rfl), Or.inl rfl⟩
theorem zk_put_NameTreeModel_93 : zm_rp "NameTreeModel" "" 93 8 20 := ⟨_, rfl, by decide, (zt_m3 40 rfl rfl), Or.inl rfl⟩
theorem zk_put_NameTreeModel_96 : zm_rp "NameTreeModel" "" 96 8 21 := ⟨_, rfl, by decide, (zt_m3 41 rfl rfl), Or.inl rfl⟩
theorem zd_89 : zm_cd0 89 0 := ⟨(zt_m3 131 rfl rfl), (zt_m1 9 rfl rfl), rfl, ⟨by decide, by decide⟩, by decide +kernel⟩
theorem zk_virt_NameTreeModel_100 : zm_rvi "NameTreeModel" 100 89 0 := ⟨by decide, zd_89, Or.inl (zt_m3 128 rfl rfl), (zt_m3 130 rfl rfl), (zt_m0 22 rfl rfl), _, rfl, rfl⟩
theorem zk_put_NameTreeModel_81 : zm_rp "NameTreeModel" "" 81 8 18 := ⟨_, rfl, by decide, (zt_m3 38 rfl rfl), Or.inl rfl⟩
theorem zk_put_NameTreeModel_78 : zm_rp "NameTreeModel" "" 78 8 19 := ⟨_, rfl, by decide, (zt_m3 39 rfl rfl), Or.inl rfl⟩
theorem zk_get_NameTreeModel_93 : zm_rf "NameTreeModel" 93 8 20 := ⟨_, rfl, by decide, (zt_m3 40 rfl rfl)⟩
theorem zk_get_NameTreeModel_96 : zm_rf "NameTreeModel" 96 8 21 := ⟨_, rfl, by decide, (zt_m3 41 rfl rfl)⟩
theorem zd_83 : zm_cd0 83 1 := ⟨(zt_m3 135 rfl rfl), (zt_m1 9 rfl rfl), rfl, ⟨by decide, by decide⟩, by decide +kernel⟩
theorem zk_virt_NameTreeModel_104 : zm_rvi "NameTreeModel" 104 83 1 := ⟨by decide, zd_83, Or.inl (zt_m3 132 rfl rfl), (zt_m3 134 rfl rfl), (zt_m0 23 rfl rfl), _, rfl, rfl⟩
theorem zk_put_NameTreeModel_75 : zm_rp "NameTreeModel" "" 75 8 17 := ⟨_, rfl, by decide, (zt_m3 37 rfl rfl), Or.inl rfl⟩
theorem zd_85 : zm_cd0 85 3 := ⟨(zt_m3 139 rfl rfl), (zt_m1 9 rfl rfl), rfl, ⟨by decide, by decide⟩, by decide +kernel⟩
theorem zk_virt_NameTreeModel_107 : zm_rvi "NameTreeModel" 107 85 3 := ⟨by decide, zd_85, Or.inl (zt_m3 136 rfl rfl), (zt_m3 138 rfl rfl), (zt_m0 24 rfl rfl), _, rfl, rfl⟩
theorem zd_91 : zm_cd0 91 1 := ⟨(zt_m3 147 rfl rfl), (zt_m1 9 rfl rfl), rfl, ⟨by decide, by decide⟩, by decide +kernel⟩
theorem zk_virt_NameTreeModel_111 : zm_rvi "NameTreeModel" 111 91 1 := ⟨by decide, zd_91, Or.inl (zt_m3 144 rfl rfl), (zt_m3 146 rfl rfl), (zt_m0 26 rfl rfl), _, rfl, rfl⟩
theorem zk_get_NameTreeModel_33 : zm_rf "NameTreeModel" 33 8 9 := ⟨_, rfl, by decide, (zt_m3 29 rfl rfl)⟩
theorem zd_90 : zm_cd0 90 3 := ⟨(zt_m3 127 rfl rfl), (zt_m1 9 rfl rfl), rfl, ⟨by decide, by decide⟩, by decide +kernel⟩
theorem zk_virt_NameTreeModel_115 : zm_rvi "NameTreeModel" 115 90 3 := ⟨by decide, zd_90, Or.inl (zt_m3 124 rfl rfl), (zt_m3 126 rfl rfl), (zt_m0 21 rfl rfl), _, rfl, rfl⟩
theorem zd_79 : zm_cd0 79 0 := ⟨(zt_m3 104 rfl rfl), (zt_m1 9 rfl rfl), rfl, ⟨by decide, by decide⟩, by decide +kernel⟩
theorem zk_virt_NameTreeModel_119 : zm_rvi "NameTreeModel" 119 79 0 := ⟨by decide, zd_79, Or.inl (zt_m3 101 rfl rfl), (zt_m3 103 rfl rfl), (zt_m0 17 rfl rfl), _, rfl, rfl⟩
theorem zk_get_NameTreeModel_7 : zm_rf "NameTreeModel" 7 8 0 := ⟨_, rfl, by decide, (zt_m3 20 rfl rfl)⟩
theorem zd_86 : zm_cd0 86 2 := ⟨(zt_m3 159 rfl rfl), (zt_m1 9 rfl rfl), rfl, ⟨by decide, by decide⟩, by decide +kernel⟩
theorem zk_virt_NameTreeModel_123 : zm_rvi "NameTreeModel" 123 86 2 := ⟨by decide, zd_86, Or.inl (zt_m3 156 rfl rfl), (zt_m3 158 rfl rfl), (zt_m0 29 rfl rfl), _, rfl, rfl⟩
theorem zd_87 : zm_cd0 87 1 := ⟨(zt_m3 163 rfl rfl), (zt_m1 9 rfl rfl), rfl, ⟨by decide, by decide⟩, by decide +kernel⟩
theorem zk_virt_NameTreeModel_127 : zm_rvi "NameTreeModel" 127 87 1 := ⟨by decide, zd_87, Or.inl (zt_m3 160 rfl rfl), (zt_m3 162 rfl rfl), (zt_m0 30 rfl rfl), _, rfl, rfl⟩
theorem zd_76 : zm_cd0 76 0 := ⟨(zt_m3 119 rfl rfl), (zt_m1 9 rfl rfl), rfl, ⟨by decide, by decide⟩, by decide +kernel⟩
theorem zk_virt_NameTreeModel_130 : zm_rvi "NameTreeModel" 130 76 0 := ⟨by decide, zd_76, Or.inl (zt_m3 116 rfl rfl), (zt_m3 118 rfl rfl), (zt_m0 19 rfl rfl), _, rfl, rfl⟩
theorem zd_92 : zm_cd0 92 2 := ⟨(zt_m3 123 rfl rfl), (zt_m1 9 rfl rfl), rfl, ⟨by decide, by decide⟩, by decide +kernel⟩
theorem zk_virt_NameTreeModel_133 : zm_rvi "NameTreeModel" 133 92 2 := ⟨by decide, zd_92, Or.inl (zt_m3 120 rfl rfl), (zt_m3 122 rfl rfl), (zt_m0 20 rfl rfl), _, rfl, rfl⟩
theorem zd_94 : zm_cd0 94 2 := ⟨(zt_m3 151 rfl rfl), (zt_m1 9 rfl rfl), rfl, ⟨by decide, by decide⟩, by decide +kernel⟩
theorem zk_virt_NameTreeModel_136 : zm_rvi "NameTreeModel" 136 94 2 := ⟨by decide, zd_94, Or.inl (zt_m3 148 rfl rfl), (zt_m3 150 rfl rfl), (zt_m0 27 rfl rfl), _, rfl, rfl⟩
theorem zd_88 : zm_cd0 88 1 := ⟨(zt_m3 179 rfl rfl), (zt_m1 9 rfl rfl), rfl, ⟨by decide, by decide⟩, by decide +kernel⟩
theorem zk_virt_NameTreeModel_139 : zm_rvi "NameTreeModel" 139 88 1 := ⟨by decide, zd_88, Or.inl (zt_m3 176 rfl rfl), (zt_m3 178 rfl rfl), (zt_m0 31 rfl rfl), _, rfl, rfl⟩
theorem zd_100 : zm_cd0 100 2 := ⟨(zt_m3 195 rfl rfl), (zt_m1 9 rfl rfl), rfl, ⟨by decide, by decide⟩, by decide +kernel⟩
theorem zk_virt_NameTreeModel_142 : zm_rvi "NameTreeModel" 142 100 2 := ⟨by decide, zd_100, Or.inl (zt_m3 192 rfl rfl), (zt_m3 194 rfl rfl), (zt_m0 33 rfl rfl), _, rfl, rfl⟩
theorem zd_104 : zm_cd0 104 1 := ⟨(zt_m3 211 rfl rfl), (zt_m1 9 rfl rfl), rfl, ⟨by decide, by decide⟩, by decide +kernel⟩
theorem zk_virt_NameTreeModel_146 : zm_rvi "NameTreeModel" 146 104 1 := ⟨by decide, zd_104, Or.inl (zt_m3 208 rfl rfl), (zt_m3 210 rfl rfl), (zt_m0 34 rfl rfl), _, rfl, rfl⟩
theorem zd_106 : zm_cd0 106 1 := ⟨(zt_m3 219 rfl rfl), (zt_m1 9 rfl rfl), rfl, ⟨by decide, by decide⟩, by decide +kernel⟩
theorem zk_virt_NameTreeModel_150 : zm_rvi "NameTreeModel" 150 106 1 := ⟨by decide, zd_106, Or.inl (zt_m3 216 rfl rfl), (zt_m3 218 rfl rfl), (zt_m0 35 rfl rfl), _, rfl, rfl⟩
theorem zd_80 : zm_cd0 80 0 := ⟨(zt_m3 231 rfl rfl), (zt_m1 9 rfl rfl), rfl, ⟨by decide, by decide⟩, by decide +kernel⟩
theorem zk_virt_NameTreeModel_153 : zm_rvi "NameTreeModel" 153 80 0 := ⟨by decide, zd_80, Or.inl (zt_m3 228 rfl rfl), (zt_m3 230 rfl rfl), (zt_m0 36 rfl rfl), _, rfl, rfl⟩
end
section
set_option maxRecDepth 100000 in
theorem ze_0 : zc0.all (zm_chk (zt_by 0)) = true := by decide +kernel
set_option maxRecDepth 100000 in
theorem ze_1 : zc1.all (zm_chk (zt_by 1)) = true := by decide +kernel
set_option maxRecDepth 100000 in
theorem ze_2 : zc2.all (zm_chk (zt_by 2)) = true := by decide +kernel
set_option maxRecDepth 100000 in
theorem ze_3 : zc3.all (zm_chk (zt_by 3)) = true := by decide +kernel
set_option maxRecDepth 100000 in
theorem ze_4 : zc4.all (zm_chk (zt_by 4)) = true := by decide +kernel
set_option maxRecDepth 100000 in
theorem ze_5 : zc5.all (zm_chk (zt_by 5)) = true := by decide +kernel
set_option maxRecDepth 100000 in
theorem ze_6 : zc6.all (zm_chk (zt_by 6)) = true := by decide +kernel
set_option maxRecDepth 100000 in
theorem ze_7 : zc7.all (zm_chk (zt_by 7)) = true := by decide +kernel
set_option maxRecDepth 100000 in
theorem ze_8 : zc8.all (zm_chk (zt_by 8)) = true := by decide +kernel
set_option maxRecDepth 100000 in
theorem ze_9 : zc9.all (zm_chk (zt_by 9)) = true := by decide +kernel
set_option maxRecDepth 100000 in
theorem ze_10 : zc10.all (zm_chk (zt_by 10)) = true := by decide +kernel
set_option maxRecDepth 100000 in
theorem ze_11 : zc11.all (zm_chk (zt_by 11)) = true := by decide +kernel
set_option maxRecDepth 100000 in
theorem ze_12 : zc12.all (zm_chk (zt_by 12)) = true := by decide +kernel
set_option maxRecDepth 100000 in
theorem ze_13 : zc13.all (zm_chk (zt_by 13)) = true := by decide +kernel
set_option maxRecDepth 100000 in
theorem ze_14 : zc14.all (zm_chk (zt_by 14)) = true := by decide +kernel
set_option maxRecDepth 100000 in
theorem ze_15 : zc15.all (zm_chk (zt_by 15)) = true := by decide +kernel
set_option maxRecDepth 100000 in
theorem ze_16 : zc16.all (zm_chk (zt_by 16)) = true := by decide +kernel
set_option maxRecDepth 100000 in
theorem ze_17 : zc17.all (zm_chk (zt_by 17)) = true := by decide +kernel
set_option maxRecDepth 100000 in
theorem ze_18 : zc18.all (zm_chk (zt_by 18)) = true := by decide +kernel
set_option maxRecDepth 100000 in
theorem ze_19 : zc19.all (zm_chk (zt_by 19)) = true := by decide +kernel
set_option maxRecDepth 100000 in
theorem ze_20 : zc20.all (zm_chk (zt_by 20)) = true := by decide +kernel
set_option maxRecDepth 100000 in
theorem ze_21 : zc21.all (zm_chk (zt_by 21)) = true := by decide +kernel
set_option maxRecDepth 100000 in
theorem ze_22 : zc22.all (zm_chk (zt_by 22)) = true := by decide +kernel
set_option maxRecDepth 100000 in
theorem ze_23 : zc23.all (zm_chk (zt_by 23)) = true := by decide +kernel
set_option maxRecDepth 100000 in
theorem ze_24 : zc24.all (zm_chk (zt_by 24)) = true := by decide +kernel
set_option maxRecDepth 100000 in
theorem ze_25 : zc25.all (zm_chk (zt_by 25)) = true := by decide +kernel
set_option maxRecDepth 100000 in
theorem ze_26 : zc26.all (zm_chk (zt_by 26)) = true := by decide +kernel
set_option maxRecDepth 100000 in
theorem ze_27 : zc27.all (zm_chk (zt_by 27)) = true := by decide +kernel
set_option maxRecDepth 100000 in
theorem ze_28 : zc28.all (zm_chk (zt_by 28)) = true := by decide +kernel
set_option maxRecDepth 100000 in
theorem ze_29 : zc29.all (zm_chk (zt_by 29)) = true := by decide +kernel
set_option maxRecDepth 100000 in
theorem ze_30 : zc30.all (zm_chk (zt_by 30)) = true := by decide +kernel
set_option maxRecDepth 100000 in
theorem ze_31 : zc31.all (zm_chk (zt_by 31)) = true := by decide +kernel
set_option maxRecDepth 100000 in
theorem ze_32 : zc32.all (zm_chk (zt_by 32)) = true := by decide +kernel
set_option maxRecDepth 100000 in
theorem ze_33 : zc33.all (zm_chk (zt_by 33)) = true := by decide +kernel
set_option maxRecDepth 100000 in
theorem ze_34 : zc34.all (zm_chk (zt_by 34)) = true := by decide +kernel
set_option maxRecDepth 100000 in
theorem ze_35 : zc35.all (zm_chk (zt_by 35)) = true := by decide +kernel
set_option maxRecDepth 100000 in
theorem ze_36 : zc36.all (zm_chk (zt_by 36)) = true := by decide +kernel
set_option maxRecDepth 100000 in
theorem ze_37 : zc37.all (zm_chk (zt_by 37)) = true := by decide +kernel
set_option maxRecDepth 100000 in
theorem ze_38 : zc38.all (zm_chk (zt_by 38)) = true := by decide +kernel
set_option maxRecDepth 100000 in
theorem ze_39 : zc39.all (zm_chk (zt_by 39)) = true := by decide +kernel
set_option maxRecDepth 100000 in
theorem ze_40 : zc40.all (zm_chk (zt_by 40)) = true := by decide +kernel
set_option maxRecDepth 100000 in
theorem ze_41 : zc41.all (zm_chk (zt_by 41)) = true := by decide +kernel
set_option maxRecDepth 100000 in
theorem ze_42 : zc42.all (zm_chk (zt_by 42)) = true := by decide +kernel
set_option maxRecDepth 100000 in
theorem ze_43 : zc43.all (zm_chk (zt_by 43)) = true := by decide +kernel
set_option maxRecDepth 100000 in
theorem ze_44 : zc44.all (zm_chk (zt_by 44)) = true := by decide +kernel
set_option maxRecDepth 100000 in
theorem ze_45 : zc45.all (zm_chk (zt_by 45)) = true := by decide +kernel
set_option maxRecDepth 100000 in
theorem ze_46 : zc46.all (zm_chk (zt_by 46)) = true := by decide +kernel
set_option maxRecDepth 100000 in
theorem ze_47 : zc47.all (zm_chk (zt_by 47)) = true := by decide +kernel
set_option maxRecDepth 100000 in
theorem ze_48 : zc48.all (zm_chk (zt_by 48)) = true := by decide +kernel
set_option maxRecDepth 100000 in
theorem ze_49 : zc49.all (zm_chk (zt_by 49)) = true := by decide +kernel
set_option maxRecDepth 100000 in
theorem ze_50 : zc50.all (zm_chk (zt_by 50)) = true := by decide +kernel
set_option maxRecDepth 100000 in
theorem ze_51 : zc51.all (zm_chk (zt_by 51)) = true := by decide +kernel
set_option maxRecDepth 100000 in
theorem ze_52 : zc52.all (zm_chk (zt_by 52)) = true := by decide +kernel
set_option maxRecDepth 100000 in
theorem ze_53 : zc53.all (zm_chk (zt_by 53)) = true := by decide +kernel
set_option maxRecDepth 100000 in
theorem ze_54 : zc54.all (zm_chk (zt_by 54)) = true := by decide +kernel
set_option maxRecDepth 100000 in
theorem ze_55 : zc55.all (zm_chk (zt_by 55)) = true := by decide +kernel
set_option maxRecDepth 100000 in
theorem ze_56 : zc56.all (zm_chk (zt_by 56)) = true := by decide +kernel
set_option maxRecDepth 100000 in
theorem ze_57 : zc57.all (zm_chk (zt_by 57)) = true := by decide +kernel
set_option maxRecDepth 100000 in
theorem ze_58 : zc58.all (zm_chk (zt_by 58)) = true := by decide +kernel
set_option maxRecDepth 100000 in
theorem ze_59 : zc59.all (zm_chk (zt_by 59)) = true := by decide +kernel
set_option maxRecDepth 100000 in
theorem ze_60 : zc60.all (zm_chk (zt_by 60)) = true := by decide +kernel
set_option maxRecDepth 100000 in
theorem ze_61 : zc61.all (zm_chk (zt_by 61)) = true := by decide +kernel
set_option maxRecDepth 100000 in
theorem ze_62 : zc62.all (zm_chk (zt_by 62)) = true := by decide +kernel
set_option maxRecDepth 100000 in
theorem ze_63 : zc63.all (zm_chk (zt_by 63)) = true := by decide +kernel
set_option maxRecDepth 100000 in
theorem ze_64 : zc64.all (zm_chk (zt_by 64)) = true := by decide +kernel
set_option maxRecDepth 100000 in
theorem ze_65 : zc65.all (zm_chk (zt_by 65)) = true := by decide +kernel
set_option maxRecDepth 100000 in
theorem ze_66 : zc66.all (zm_chk (zt_by 66)) = true := by decide +kernel
set_option maxRecDepth 100000 in
theorem ze_67 : zc67.all (zm_chk (zt_by 67)) = true := by decide +kernel
set_option maxRecDepth 100000 in
theorem ze_68 : zc68.all (zm_chk (zt_by 68)) = true := by decide +kernel
set_option maxRecDepth 100000 in
theorem ze_69 : zc69.all (zm_chk (zt_by 69)) = true := by decide +kernel
set_option maxRecDepth 100000 in
theorem ze_70 : zc70.all (zm_chk (zt_by 70)) = true := by decide +kernel
set_option maxRecDepth 100000 in
theorem ze_71 : zc71.all (zm_chk (zt_by 71)) = true := by decide +kernel
set_option maxRecDepth 100000 in
theorem ze_72 : zc72.all (zm_chk (zt_by 72)) = true := by decide +kernel
set_option maxRecDepth 100000 in
theorem ze_73 : zc73.all (zm_chk (zt_by 73)) = true := by decide +kernel
set_option maxRecDepth 100000 in
theorem ze_74 : zc74.all (zm_chk (zt_by 74)) = true := by decide +kernel
set_option maxRecDepth 100000 in
theorem ze_75 : zc75.all (zm_chk (zt_by 75)) = true := by decide +kernel
set_option maxRecDepth 100000 in
theorem ze_76 : zc76.all (zm_chk (zt_by 76)) = true := by decide +kernel
set_option maxRecDepth 100000 in
theorem ze_77 : zc77.all (zm_chk (zt_by 77)) = true := by decide +kernel
set_option maxRecDepth 100000 in
theorem ze_78 : zc78.all (zm_chk (zt_by 78)) = true := by decide +kernel
set_option maxRecDepth 100000 in
theorem ze_79 : zc79.all (zm_chk (zt_by 79)) = true := by decide +kernel
set_option maxRecDepth 100000 in
theorem ze_80 : zc80.all (zm_chk (zt_by 80)) = true := by decide +kernel
set_option maxRecDepth 100000 in
theorem ze_81 : zc81.all (zm_chk (zt_by 81)) = true := by decide +kernel
set_option maxRecDepth 100000 in
theorem ze_82 : zc82.all (zm_chk (zt_by 82)) = true := by decide +kernel
set_option maxRecDepth 100000 in
theorem ze_83 : zc83.all (zm_chk (zt_by 83)) = true := by decide +kernel
set_option maxRecDepth 100000 in
theorem ze_84 : zc84.all (zm_chk (zt_by 84)) = true := by decide +kernel
set_option maxRecDepth 100000 in
theorem ze_85 : zc85.all (zm_chk (zt_by 85)) = true := by decide +kernel
set_option maxRecDepth 100000 in
theorem ze_86 : zc86.all (zm_chk (zt_by 86)) = true := by decide +kernel
set_option maxRecDepth 100000 in
theorem ze_87 : zc87.all (zm_chk (zt_by 87)) = true := by decide +kernel
set_option maxRecDepth 100000 in
theorem ze_88 : zc88.all (zm_chk (zt_by 88)) = true := by decide +kernel
set_option maxRecDepth 100000 in
theorem ze_89 : zc89.all (zm_chk (zt_by 89)) = true := by decide +kernel
set_option maxRecDepth 100000 in
theorem ze_90 : zc90.all (zm_chk (zt_by 90)) = true := by decide +kernel
set_option maxRecDepth 100000 in
theorem ze_91 : zc91.all (zm_chk (zt_by 91)) = true := by decide +kernel
set_option maxRecDepth 100000 in
theorem ze_92 : zc92.all (zm_chk (zt_by 92)) = true := by decide +kernel
set_option maxRecDepth 100000 in
theorem ze_93 : zc93.all (zm_chk (zt_by 93)) = true := by decide +kernel
set_option maxRecDepth 100000 in
theorem ze_94 : zc94.all (zm_chk (zt_by 94)) = true := by decide +kernel
set_option maxRecDepth 100000 in
theorem ze_95 : zc95.all (zm_chk (zt_by 95)) = true := by decide +kernel
set_option maxRecDepth 100000 in
theorem ze_96 : zc96.all (zm_chk (zt_by 96)) = true := by decide +kernel
set_option maxRecDepth 100000 in
theorem ze_97 : zc97.all (zm_chk (zt_by 97)) = true := by decide +kernel
set_option maxRecDepth 100000 in
theorem ze_98 : zc98.all (zm_chk (zt_by 98)) = true := by decide +kernel
set_option maxRecDepth 100000 in
theorem ze_99 : zc99.all (zm_chk (zt_by 99)) = true := by decide +kernel
set_option maxRecDepth 100000 in
theorem ze_100 : zc100.all (zm_chk (zt_by 100)) = true := by decide +kernel
set_option maxRecDepth 100000 in
theorem ze_101 : zc101.all (zm_chk (zt_by 101)) = true := by decide +kernel
set_option maxRecDepth 100000 in
theorem ze_102 : zc102.all (zm_chk (zt_by 102)) = true := by decide +kernel
set_option maxRecDepth 100000 in
theorem ze_103 : zc103.all (zm_chk (zt_by 103)) = true := by decide +kernel
set_option maxRecDepth 100000 in
theorem ze_104 : zc104.all (zm_chk (zt_by 104)) = true := by decide +kernel
set_option maxRecDepth 100000 in
theorem ze_105 : zc105.all (zm_chk (zt_by 105)) = true := by decide +kernel
set_option maxRecDepth 100000 in
theorem ze_106 : zc106.all (zm_chk (zt_by 106)) = true := by decide +kernel
set_option maxRecDepth 100000 in
theorem ze_107 : zc107.all (zm_chk (zt_by 107)) = true := by decide +kernel
set_option maxRecDepth 100000 in
theorem ze_108 : zc108.all (zm_chk (zt_by 108)) = true := by decide +kernel
set_option maxRecDepth 100000 in
theorem ze_109 : zc109.all (zm_chk (zt_by 109)) = true := by decide +kernel
end
section
set_option maxRecDepth 100000 in
set_option maxHeartbeats 4000000 in
theorem zs_0 : ∀ q ∈ zc0, zm_rs 0 q.1 q.2.1 q.2.2.2.1 q.2.2.2.2.1 q.2.2.2.2.2 :=
  zm_ac ⟨zk_new_NameTreeLaw_7, fun _ _ => rfl⟩ <|
  zm_ac trivial <|
  zm_ac (Or.inr ⟨zk_spec_NameTreeLaw_9, by decide, by decide⟩) <|
  zm_ac trivial <|
  zm_ac ⟨zk_new_NameTreeLaw_10, fun _ _ => rfl⟩ <|
  zm_ac trivial <|
  zm_ac (Or.inr ⟨zk_spec_NameTreeLaw_12, by decide, by decide⟩) <|
  zm_ac trivial <|
  zm_ac trivial <|
  zm_ac trivial <|
  zm_ac trivial <|
  zm_ac trivial <|
  zm_ac trivial <|
  zm_ac trivial <|
  zm_ac trivial <|
  zm_ac (zm_jp rfl) <|
  zm_ac trivial <|
  zm_ac trivial <|
  zm_ac trivial <|
  zm_ac trivial <|
  zm_ac trivial <|
  zm_ac (zm_tsw (by decide) (by decide) (by decide) (by decide)) <|
  zm_ac trivial <|
  zm_ac trivial <|
  zm_ac trivial <|
  zm_ac trivial <|
  zm_ac trivial <|
  zm_ac trivial <|
  zm_ac trivial <|
  zm_ac trivial <|
  zm_ac trivial <|
  zm_ac trivial <|
  zm_ac trivial <|
  zm_ac trivial <|
  zm_ac trivial <|
  zm_ac trivial <|
  zm_ac trivial <|
  zm_ac ⟨_, _, rfl, zk_ldc2_NameTreeLaw_13⟩ <|
  zm_ac trivial <|
  zm_ac trivial <|
  zm_ac trivial <|
  zm_ac trivial <|
  zm_ac trivial <|
  zm_ac trivial <|
  zm_ac trivial <|
  zm_ac ⟨zk_virt_NameTreeLaw_15, by decide, by decide⟩ <|
  zm_ac trivial <|
  zm_ac trivial <|
  zm_ac trivial <|
  zm_ac trivial <|
  zm_ac trivial <|
  zm_ac trivial <|
  zm_ac trivial <|
  zm_ac trivial <|
  zm_ac trivial <|
  zm_ac trivial <|
  zm_ac trivial <|
  zm_ac trivial <|
  zm_ac trivial <|
  zm_ac trivial <|
  zm_ac trivial <|
  zm_ac ⟨_, _, rfl, zk_ldc2_NameTreeLaw_13⟩ <|
  zm_ac trivial <|
  zm_ac trivial <|
  zm_ac trivial <|
  zm_ac trivial <|
  zm_ac trivial <|
  zm_ac trivial <|
  zm_ac trivial <|
  zm_ac ⟨zk_virt_NameTreeLaw_19, by decide, by decide⟩ <|
  zm_ac (zm_jp rfl) <|
  zm_ac trivial <|
  zm_ac trivial <|
  zm_ac trivial <|
  zm_ac trivial <|
  zm_ac trivial <|
  zm_ac trivial <|
  zm_ac trivial <|
  zm_ac trivial <|
  zm_ac trivial <|
  zm_ac trivial <|
  zm_ac trivial <|
  zm_ac trivial <|
  zm_ac trivial <|
  zm_ac ⟨zk_virt_NameTreeLaw_20, by decide, by decide⟩ <|
  zm_ac trivial <|
  zm_ac trivial <|
  zm_ac trivial <|
  zm_ac trivial <|
  zm_ac trivial <|
  zm_ac trivial <|
  zm_ac trivial <|
  zm_ac trivial <|
  zm_ac trivial <|
  zm_ac trivial <|
  zm_ac trivial <|
  zm_ac ⟨zk_virt_NameTreeLaw_24, by decide, by decide⟩ <|
  zm_ac (zm_jp rfl) <|
  zm_ac trivial <|
  zm_ac trivial <|
  zm_ac trivial <|
  zm_ac trivial <|
  zm_ac trivial <|
  zm_ac trivial <|
  zm_ac trivial <|
  zm_ac trivial <|
  zm_ac ⟨zk_virt_NameTreeLaw_25, by decide, by decide⟩ <|
  zm_ac trivial <|
  zm_ac trivial <|
  zm_ac trivial <|
  zm_ac trivial <|
  zm_ac trivial <|
  zm_ac trivial <|
  zm_ac ⟨zk_virt_NameTreeLaw_29, by decide, by decide⟩ <|
  zm_ac (zm_jp rfl) <|
  zm_ac trivial <|
  zm_ac trivial <|
  zm_ac trivial <|
  zm_ac trivial <|
  zm_ac trivial <|
  zm_ac trivial <|
  zm_ac trivial <|
  zm_ac trivial <|
  zm_ac ⟨zk_virt_NameTreeLaw_30, by decide, by decide⟩ <|
  zm_ac trivial <|
  zm_ac trivial <|
  zm_ac trivial <|
  zm_ac trivial <|
  zm_ac trivial <|
  zm_ac trivial <|
  zm_ac ⟨zk_virt_NameTreeLaw_33, by decide, by decide⟩ <|
  zm_ac (zm_jp rfl) <|
  zm_ac trivial <|
  zm_ac trivial <|
  zm_ac trivial <|
  zm_ac ⟨zk_virt_NameTreeLaw_34, by decide, by decide⟩ <|
  zm_ac trivial <|
  zm_ac ⟨zk_virt_NameTreeLaw_38, by decide, by decide⟩ <|
  zm_ac (zm_jp rfl) <|
  zm_ac trivial <|
  zm_ac trivial <|
  zm_ac trivial <|
  zm_ac ⟨zk_virt_NameTreeLaw_39, by decide, by decide⟩ <|
  zm_ac trivial <|
  zm_ac ⟨zk_virt_NameTreeLaw_42, by decide, by decide⟩ <|
  zm_ac (zm_jp rfl) <|
  zm_ac trivial <|
  zm_ac trivial <|
  zm_ac trivial <|
  zm_ac ⟨zk_virt_NameTreeLaw_43, by decide, by decide⟩ <|
  zm_ac trivial <|
  zm_ac ⟨zk_virt_NameTreeLaw_46, by decide, by decide⟩ <|
  zm_ac (zm_jp rfl) <|
  zm_ac trivial <|
  zm_ac trivial <|
  zm_ac trivial <|
  zm_ac ⟨zk_virt_NameTreeLaw_47, by decide, by decide⟩ <|
  zm_ac trivial <|
  zm_ac ⟨zk_virt_NameTreeLaw_50, by decide, by decide⟩ <|
  zm_ac (zm_jp rfl) <|
  zm_ac trivial <|
  zm_ac trivial <|
  zm_ac trivial <|
  zm_ac ⟨zk_virt_NameTreeLaw_51, by decide, by decide⟩ <|
  zm_ac trivial <|
  zm_ac ⟨zk_virt_NameTreeLaw_54, by decide, by decide⟩ <|
  zm_ac (zm_jp rfl) <|
  zm_ac trivial <|
  zm_ac trivial <|
  zm_ac trivial <|
  zm_ac trivial <|
  zm_ac trivial <|
  zm_ac trivial <|
  zm_ac trivial <|
  zm_ac trivial <|
  zm_ac (zm_jp rfl) <|
  zm_ac trivial <|
  zm_ac (zm_jp rfl) <|
  zm_ac trivial <|
  zm_ac ⟨zk_virt_NameTreeLaw_55, by decide, by decide⟩ <|
  zm_ac trivial <|
  zm_ac trivial <|
  zm_ac trivial <|
  zm_ac trivial <|
  zm_ac trivial <|
  zm_ac trivial <|
  zm_ac (zm_jp rfl) <|
  zm_ac trivial <|
  zm_ac (zm_jp rfl) <|
  zm_ac trivial <|
  zm_ac ⟨zk_virt_NameTreeLaw_59, by decide, by decide⟩ <|
  zm_ac (zm_jp rfl) <|
  zm_ac trivial <|
  zm_ac trivial <|
  zm_ac trivial <|
  zm_ac ⟨zk_virt_NameTreeLaw_60, by decide, by decide⟩ <|
  zm_ac trivial <|
  zm_ac ⟨zk_virt_NameTreeLaw_63, by decide, by decide⟩ <|
  zm_ac (zm_jp rfl) <|
  zm_ac trivial <|
  zm_ac trivial <|
  zm_ac trivial <|
  zm_ac trivial <|
  zm_ac trivial <|
  zm_ac trivial <|
  zm_ac trivial <|
  zm_ac trivial <|
  zm_ac ⟨zk_virt_NameTreeLaw_64, by decide, by decide⟩ <|
  zm_ac trivial <|
  zm_ac trivial <|
  zm_ac trivial <|
  zm_ac trivial <|
  zm_ac trivial <|
  zm_ac trivial <|
  zm_ac ⟨zk_virt_NameTreeLaw_67, by decide, by decide⟩ <|
  zm_ac (zm_jp rfl) <|
  zm_ac trivial <|
  zm_ac trivial <|
  zm_ac trivial <|
  zm_ac trivial <|
  zm_ac trivial <|
  zm_ac trivial <|
  zm_ac trivial <|
  zm_ac trivial <|
  zm_ac trivial <|
  zm_ac trivial <|
  zm_ac trivial <|
  zm_ac trivial <|
  zm_ac trivial <|
  zm_ac ⟨zk_virt_NameTreeLaw_68, by decide, by decide⟩ <|
  zm_ac trivial <|
  zm_ac trivial <|
  zm_ac trivial <|
  zm_ac trivial <|
  zm_ac trivial <|
  zm_ac trivial <|
  zm_ac trivial <|
  zm_ac trivial <|
  zm_ac trivial <|
  zm_ac trivial <|
  zm_ac trivial <|
  zm_ac ⟨zk_virt_NameTreeLaw_71, by decide, by decide⟩ <|
  zm_ac (zm_jp rfl) <|
  zm_ac trivial <|
  zm_ac trivial <|
  zm_ac trivial <|
  zm_ac trivial <|
  zm_ac trivial <|
  zm_ac trivial <|
  zm_ac trivial <|
  zm_ac trivial <|
  zm_ac trivial <|
  zm_ac trivial <|
  zm_ac trivial <|
  zm_ac trivial <|
  zm_ac trivial <|
  zm_ac ⟨zk_virt_NameTreeLaw_72, by decide, by decide⟩ <|
  zm_ac trivial <|
  zm_ac trivial <|
  zm_ac trivial <|
  zm_ac trivial <|
  zm_ac trivial <|
  zm_ac trivial <|
  zm_ac trivial <|
  zm_ac trivial <|
  zm_ac trivial <|
  zm_ac trivial <|
  zm_ac trivial <|
  zm_ac ⟨zk_virt_NameTreeLaw_75, by decide, by decide⟩ <|
  zm_ac (zm_jp rfl) <|
  zm_ac trivial <|
  zm_ac trivial <|
  zm_ac trivial <|
  zm_ac trivial <|
  zm_ac trivial <|
  zm_ac trivial <|
  zm_ac trivial <|
  zm_ac trivial <|
  zm_ac ⟨zk_virt_NameTreeLaw_76, by decide, by decide⟩ <|
  zm_ac trivial <|
  zm_ac trivial <|
  zm_ac trivial <|
  zm_ac trivial <|
  zm_ac trivial <|
  zm_ac trivial <|
  zm_ac ⟨zk_virt_NameTreeLaw_79, by decide, by decide⟩ <|
  zm_ac (zm_jp rfl) <|
  zm_ac trivial <|
  zm_ac trivial <|
  zm_ac trivial <|
  zm_ac (zm_jp rfl) <|
  zm_ac trivial <|
  zm_ac trivial <|
  zm_an
set_option maxRecDepth 100000 in
set_option maxHeartbeats 4000000 in
theorem zs_1 : ∀ q ∈ zc1, zm_rs 1 q.1 q.2.1 q.2.2.2.1 q.2.2.2.2.1 q.2.2.2.2.2 :=
  zm_ac trivial <|
  zm_ac (Or.inl ⟨rfl, zk_obj_NameTree_FileTable_3, by decide, by decide⟩) <|
  zm_ac trivial <|
  zm_ac trivial <|
  zm_ac zk_anew_NameTree_FileTable_9 <|
  zm_ac zk_putF_NameTree_FileTable_11 <|
  zm_ac trivial <|
  zm_ac ⟨zk_new_NameTree_FileTable_9, fun _ _ => rfl⟩ <|
  zm_ac trivial <|
  zm_ac trivial <|
  zm_ac (Or.inr ⟨zk_spec_NameTree_FileTable_17, by decide, by decide⟩) <|
  zm_ac zk_putF_NameTree_FileTable_20 <|
  zm_ac trivial <|
  zm_ac zk_get_NameTree_FileTable_20 <|
  zm_ac trivial <|
  zm_ac ⟨zk_virt_NameTree_FileTable_24, by decide, by decide⟩ <|
  zm_ac trivial <|
  zm_ac zk_get_NameTree_FileTable_20 <|
  zm_ac trivial <|
  zm_ac zk_get_NameTree_FileTable_20 <|
  zm_ac (zm_rp_any zk_put_NameTree_FileTable_27) <|
  zm_ac trivial <|
  zm_ac zk_get_NameTree_FileTable_11 <|
  zm_ac trivial <|
  zm_ac trivial <|
  zm_ac zk_get_NameTree_FileTable_20 <|
  zm_ac trivial <|
  zm_ac trivial <|
  zm_ac trivial <|
  zm_ac trivial <|
  zm_ac trivial <|
  zm_ac zk_get_NameTree_FileTable_11 <|
  zm_ac trivial <|
  zm_ac (zm_jp rfl) <|
  zm_ac trivial <|
  zm_ac zk_get_NameTree_FileTable_11 <|
  zm_ac trivial <|
  zm_ac ⟨zk_new_NameTree_FileTable_9, fun _ _ => rfl⟩ <|
  zm_ac trivial <|
  zm_ac trivial <|
  zm_ac trivial <|
  zm_ac trivial <|
  zm_ac (Or.inr ⟨zk_spec_NameTree_FileTable_17, by decide, by decide⟩) <|
  zm_ac trivial <|
  zm_ac trivial <|
  zm_ac (zm_jp rfl) <|
  zm_ac trivial <|
  zm_an
set_option maxRecDepth 100000 in
set_option maxHeartbeats 4000000 in
theorem zs_2 : ∀ q ∈ zc2, zm_rs 2 q.1 q.2.1 q.2.2.2.1 q.2.2.2.2.1 q.2.2.2.2.2 :=
  zm_ac trivial <|
  zm_ac trivial <|
  zm_ac (zm_jp rfl) <|
  zm_ac trivial <|
  zm_ac trivial <|
  zm_ac zk_get_NameTree_FileTable_11 <|
  zm_ac trivial <|
  zm_ac (zm_jp rfl) <|
  zm_ac trivial <|
  zm_ac trivial <|
  zm_ac trivial <|
  zm_ac zk_get_NameTree_FileTable_11 <|
  zm_ac trivial <|
  zm_ac trivial <|
  zm_ac trivial <|
  zm_ac trivial <|
  zm_ac trivial <|
  zm_ac trivial <|
  zm_ac (zm_jp rfl) <|
  zm_ac trivial <|
  zm_ac zk_get_NameTree_FileTable_30 <|
  zm_ac (zm_jp rfl) <|
  zm_ac trivial <|
  zm_ac (zm_jp rfl) <|
  zm_ac trivial <|
  zm_ac trivial <|
  zm_an
set_option maxRecDepth 100000 in
set_option maxHeartbeats 4000000 in
theorem zs_3 : ∀ q ∈ zc3, zm_rs 3 q.1 q.2.1 q.2.2.2.1 q.2.2.2.2.1 q.2.2.2.2.2 :=
  zm_ac trivial <|
  zm_ac zk_get_NameTree_FileTable_11 <|
  zm_ac trivial <|
  zm_ac trivial <|
  zm_ac trivial <|
  zm_ac trivial <|
  zm_ac trivial <|
  zm_ac trivial <|
  zm_ac trivial <|
  zm_ac trivial <|
  zm_ac (zm_jp rfl) <|
  zm_ac trivial <|
  zm_ac trivial <|
  zm_ac trivial <|
  zm_ac trivial <|
  zm_ac trivial <|
  zm_ac (zm_jp rfl) <|
  zm_ac trivial <|
  zm_ac zk_get_NameTree_FileTable_30 <|
  zm_ac (zm_jp rfl) <|
  zm_ac trivial <|
  zm_ac trivial <|
  zm_ac trivial <|
  zm_ac (zm_jp rfl) <|
  zm_ac trivial <|
  zm_ac trivial <|
  zm_an
set_option maxRecDepth 100000 in
set_option maxHeartbeats 4000000 in
theorem zs_4 : ∀ q ∈ zc4, zm_rs 4 q.1 q.2.1 q.2.2.2.1 q.2.2.2.2.1 q.2.2.2.2.2 :=
  zm_ac trivial <|
  zm_ac trivial <|
  zm_ac trivial <|
  zm_ac zk_get_NameTree_FileTable_11 <|
  zm_ac trivial <|
  zm_ac trivial <|
  zm_ac trivial <|
  zm_ac trivial <|
  zm_ac trivial <|
  zm_ac trivial <|
  zm_ac trivial <|
  zm_ac trivial <|
  zm_ac (zm_jp rfl) <|
  zm_ac trivial <|
  zm_ac trivial <|
  zm_ac trivial <|
  zm_ac trivial <|
  zm_ac trivial <|
  zm_ac (zm_jp rfl) <|
  zm_ac trivial <|
  zm_ac zk_get_NameTree_FileTable_30 <|
  zm_ac (zm_jp rfl) <|
  zm_ac trivial <|
  zm_ac trivial <|
  zm_ac (zm_jp rfl) <|
  zm_ac trivial <|
  zm_ac trivial <|
  zm_an
set_option maxRecDepth 100000 in
set_option maxHeartbeats 4000000 in
theorem zs_5 : ∀ q ∈ zc5, zm_rs 5 q.1 q.2.1 q.2.2.2.1 q.2.2.2.2.1 q.2.2.2.2.2 :=
  zm_ac trivial <|
  zm_ac trivial <|
  zm_ac trivial <|
  zm_ac zk_get_NameTree_FileTable_11 <|
  zm_ac trivial <|
  zm_ac trivial <|
  zm_ac trivial <|
  zm_ac trivial <|
  zm_ac trivial <|
  zm_ac trivial <|
  zm_ac trivial <|
  zm_ac trivial <|
  zm_ac (zm_jp rfl) <|
  zm_ac trivial <|
  zm_ac trivial <|
  zm_ac trivial <|
  zm_ac trivial <|
  zm_ac trivial <|
  zm_ac (zm_jp rfl) <|
  zm_ac trivial <|
  zm_ac trivial <|
  zm_ac ⟨zk_virt_NameTree_FileTable_34, by decide, by decide⟩ <|
  zm_ac trivial <|
  zm_ac trivial <|
  zm_ac trivial <|
  zm_ac (zm_jp rfl) <|
  zm_ac trivial <|
  zm_ac trivial <|
  zm_an
set_option maxRecDepth 100000 in
set_option maxHeartbeats 4000000 in
theorem zs_6 : ∀ q ∈ zc6, zm_rs 6 q.1 q.2.1 q.2.2.2.1 q.2.2.2.2.1 q.2.2.2.2.2 :=
  zm_ac trivial <|
  zm_ac trivial <|
  zm_ac trivial <|
  zm_ac zk_get_NameTree_FileTable_11 <|
  zm_ac trivial <|
  zm_ac trivial <|
  zm_ac trivial <|
  zm_ac trivial <|
  zm_ac trivial <|
  zm_ac trivial <|
  zm_ac trivial <|
  zm_ac trivial <|
  zm_ac (zm_jp rfl) <|
  zm_ac trivial <|
  zm_ac trivial <|
  zm_ac trivial <|
  zm_ac trivial <|
  zm_ac trivial <|
  zm_ac (zm_jp rfl) <|
  zm_ac trivial <|
  zm_ac trivial <|
  zm_ac zk_get_NameTree_FileTable_20 <|
  zm_ac (zm_jp rfl) <|
  zm_ac trivial <|
  zm_ac zk_get_NameTree_FileTable_27 <|
  zm_ac trivial <|
  zm_ac (zm_jp rfl) <|
  zm_ac trivial <|
  zm_ac trivial <|
  zm_ac (zm_jp rfl) <|
  zm_ac trivial <|
  zm_ac trivial <|
  zm_an
set_option maxRecDepth 100000 in
set_option maxHeartbeats 4000000 in
theorem zs_7 : ∀ q ∈ zc7, zm_rs 7 q.1 q.2.1 q.2.2.2.1 q.2.2.2.2.1 q.2.2.2.2.2 :=
  zm_ac trivial <|
  zm_ac (Or.inl ⟨rfl, zk_obj_NameTree_NameRow_3, by decide, by decide⟩) <|
  zm_ac trivial <|
  zm_an
set_option maxRecDepth 100000 in
set_option maxHeartbeats 4000000 in
theorem zs_8 : ∀ q ∈ zc8, zm_rs 8 q.1 q.2.1 q.2.2.2.1 q.2.2.2.2.1 q.2.2.2.2.2 :=
  zm_ac trivial <|
  zm_ac zk_get_NameTree_NameRow_9 <|
  zm_ac (zm_jp rfl) <|
  zm_ac trivial <|
  zm_ac trivial <|
  zm_ac ⟨by decide, by decide, rfl, (zt_m1 35 rfl rfl), rfl, by decide⟩ <|
  zm_ac (zm_rp_any zk_put_NameTree_NameRow_9) <|
  zm_ac trivial <|
  zm_ac trivial <|
  zm_ac trivial <|
  zm_ac trivial <|
  zm_ac trivial <|
  zm_ac zk_get_NameTree_NameRow_9 <|
  zm_ac (Or.inr (Or.inr (Or.inr ⟨zk_stat_NameTree_NameRow_15, by decide, by decide⟩))) <|
  zm_ac (zm_rp_any zk_put_NameTree_NameRow_19) <|
  zm_ac trivial <|
  zm_an
set_option maxRecDepth 100000 in
set_option maxHeartbeats 4000000 in
theorem zs_9 : ∀ q ∈ zc9, zm_rs 9 q.1 q.2.1 q.2.2.2.1 q.2.2.2.2.1 q.2.2.2.2.2 :=
  zm_ac trivial <|
  zm_ac zk_get_NameTree_NameRow_9 <|
  zm_ac (zm_jp rfl) <|
  zm_ac trivial <|
  zm_ac (zm_jp rfl) <|
  zm_ac trivial <|
  zm_ac trivial <|
  zm_ac zk_get_NameTree_NameRow_19 <|
  zm_ac (zm_jp rfl) <|
  zm_ac trivial <|
  zm_ac trivial <|
  zm_ac zk_get_NameTree_NameRow_9 <|
  zm_ac trivial <|
  zm_ac (zm_jp rfl) <|
  zm_ac trivial <|
  zm_ac (zm_jp rfl) <|
  zm_ac trivial <|
  zm_ac trivial <|
  zm_ac trivial <|
  zm_ac trivial <|
  zm_ac trivial <|
  zm_ac (zm_jp rfl) <|
  zm_ac trivial <|
  zm_ac trivial <|
  zm_ac trivial <|
  zm_ac trivial <|
  zm_ac trivial <|
  zm_ac trivial <|
  zm_ac (zm_jp rfl) <|
  zm_ac trivial <|
  zm_ac zk_get_NameTree_NameRow_9 <|
  zm_ac trivial <|
  zm_ac trivial <|
  zm_ac trivial <|
  zm_ac trivial <|
  zm_ac trivial <|
  zm_ac trivial <|
  zm_ac trivial <|
  zm_ac (zm_jp rfl) <|
  zm_ac trivial <|
  zm_ac trivial <|
  zm_ac trivial <|
  zm_ac (zm_jp rfl) <|
  zm_ac trivial <|
  zm_ac trivial <|
  zm_an
set_option maxRecDepth 100000 in
set_option maxHeartbeats 4000000 in
theorem zs_10 : ∀ q ∈ zc10, zm_rs 10 q.1 q.2.1 q.2.2.2.1 q.2.2.2.2.1 q.2.2.2.2.2 :=
  zm_ac trivial <|
  zm_ac (Or.inl ⟨rfl, zk_obj_NameTree_NameTable_3, by decide, by decide⟩) <|
  zm_ac trivial <|
  zm_ac trivial <|
  zm_ac zk_anew_NameTree_NameTable_9 <|
  zm_ac zk_putF_NameTree_NameTable_11 <|
  zm_ac trivial <|
  zm_ac trivial <|
  zm_ac trivial <|
  zm_ac trivial <|
  zm_ac zk_get_NameTree_NameTable_11 <|
  zm_ac trivial <|
  zm_ac (zm_jp rfl) <|
  zm_ac trivial <|
  zm_ac zk_get_NameTree_NameTable_11 <|
  zm_ac trivial <|
  zm_ac ⟨zk_new_NameTree_NameTable_9, fun _ _ => rfl⟩ <|
  zm_ac trivial <|
  zm_ac (Or.inr ⟨zk_spec_NameTree_NameTable_17, by decide, by decide⟩) <|
  zm_ac trivial <|
  zm_ac trivial <|
  zm_ac (zm_jp rfl) <|
  zm_ac trivial <|
  zm_an
set_option maxRecDepth 100000 in
set_option maxHeartbeats 4000000 in
theorem zs_11 : ∀ q ∈ zc11, zm_rs 11 q.1 q.2.1 q.2.2.2.1 q.2.2.2.2.1 q.2.2.2.2.2 :=
  zm_ac trivial <|
  zm_ac trivial <|
  zm_ac trivial <|
  zm_ac trivial <|
  zm_ac zk_get_NameTree_NameTable_18 <|
  zm_ac (zm_jp rfl) <|
  zm_ac trivial <|
  zm_ac trivial <|
  zm_ac zk_get_NameTree_NameTable_11 <|
  zm_ac trivial <|
  zm_ac (zm_jp rfl) <|
  zm_ac trivial <|
  zm_ac zk_get_NameTree_NameTable_11 <|
  zm_ac trivial <|
  zm_ac trivial <|
  zm_ac trivial <|
  zm_ac trivial <|
  zm_ac (zm_jp rfl) <|
  zm_ac trivial <|
  zm_ac zk_get_NameTree_NameTable_22 <|
  zm_ac trivial <|
  zm_ac (zm_jp rfl) <|
  zm_ac trivial <|
  zm_ac trivial <|
  zm_ac trivial <|
  zm_ac trivial <|
  zm_ac ⟨zk_virt_NameTree_NameTable_26, by decide, by decide⟩ <|
  zm_ac (zm_jp rfl) <|
  zm_ac trivial <|
  zm_ac trivial <|
  zm_ac trivial <|
  zm_ac (zm_jp rfl) <|
  zm_ac trivial <|
  zm_ac trivial <|
  zm_an
set_option maxRecDepth 100000 in
set_option maxHeartbeats 4000000 in
theorem zs_12 : ∀ q ∈ zc12, zm_rs 12 q.1 q.2.1 q.2.2.2.1 q.2.2.2.2.1 q.2.2.2.2.2 :=
  zm_ac trivial <|
  zm_ac zk_get_NameTree_NameTable_18 <|
  zm_ac (zm_jp rfl) <|
  zm_ac trivial <|
  zm_ac zk_get_NameTree_NameTable_18 <|
  zm_ac trivial <|
  zm_ac zk_get_NameTree_NameTable_11 <|
  zm_ac trivial <|
  zm_ac (zm_jp rfl) <|
  zm_ac trivial <|
  zm_ac trivial <|
  zm_ac zk_get_NameTree_NameTable_11 <|
  zm_ac trivial <|
  zm_ac zk_get_NameTree_NameTable_18 <|
  zm_ac trivial <|
  zm_ac trivial <|
  zm_ac trivial <|
  zm_ac zk_get_NameTree_NameTable_30 <|
  zm_ac trivial <|
  zm_ac trivial <|
  zm_ac (zm_jp rfl) <|
  zm_ac trivial <|
  zm_ac (zm_jp rfl) <|
  zm_ac trivial <|
  zm_ac trivial <|
  zm_ac trivial <|
  zm_ac zk_get_NameTree_NameTable_18 <|
  zm_ac trivial <|
  zm_ac trivial <|
  zm_ac (zm_rp_any zk_put_NameTree_NameTable_18) <|
  zm_ac trivial <|
  zm_ac trivial <|
  zm_ac zk_get_NameTree_NameTable_33 <|
  zm_ac trivial <|
  zm_ac zk_get_NameTree_NameTable_37 <|
  zm_ac trivial <|
  zm_ac zk_get_NameTree_NameTable_40 <|
  zm_ac ⟨zk_virt_NameTree_NameTable_43, by decide, by decide⟩ <|
  zm_ac trivial <|
  zm_ac trivial <|
  zm_ac (zm_rp_any zk_put_NameTree_NameTable_22) <|
  zm_ac trivial <|
  zm_ac trivial <|
  zm_ac (zm_rp_any zk_put_NameTree_NameTable_47) <|
  zm_ac trivial <|
  zm_ac trivial <|
  zm_ac zk_get_NameTree_NameTable_50 <|
  zm_ac trivial <|
  zm_ac trivial <|
  zm_ac (zm_rp_any zk_put_NameTree_NameTable_50) <|
  zm_ac trivial <|
  zm_ac trivial <|
  zm_ac zk_get_NameTree_NameTable_55 <|
  zm_ac trivial <|
  zm_ac zk_get_NameTree_NameTable_50 <|
  zm_ac (Or.inl ⟨rfl, zk_max_NameTree_NameTable_58, by decide, by decide⟩) <|
  zm_ac (zm_rp_any zk_put_NameTree_NameTable_55) <|
  zm_ac trivial <|
  zm_ac trivial <|
  zm_ac zk_get_NameTree_NameTable_64 <|
  zm_ac trivial <|
  zm_ac trivial <|
  zm_ac (zm_rp_any zk_put_NameTree_NameTable_64) <|
  zm_ac trivial <|
  zm_ac zk_get_NameTree_NameTable_67 <|
  zm_ac trivial <|
  zm_ac (zm_jp rfl) <|
  zm_ac trivial <|
  zm_ac trivial <|
  zm_ac (zm_rp_any zk_put_NameTree_NameTable_70) <|
  zm_ac trivial <|
  zm_an
set_option maxRecDepth 100000 in
set_option maxHeartbeats 4000000 in
theorem zs_13 : ∀ q ∈ zc13, zm_rs 13 q.1 q.2.1 q.2.2.2.1 q.2.2.2.2.1 q.2.2.2.2.2 :=
  zm_ac trivial <|
  zm_ac zk_get_NameTree_NameTable_18 <|
  zm_ac trivial <|
  zm_ac trivial <|
  zm_ac trivial <|
  zm_ac trivial <|
  zm_ac trivial <|
  zm_ac trivial <|
  zm_ac trivial <|
  zm_ac (zm_jp rfl) <|
  zm_ac trivial <|
  zm_ac trivial <|
  zm_ac zk_get_NameTree_NameTable_11 <|
  zm_ac trivial <|
  zm_ac (zm_jp rfl) <|
  zm_ac trivial <|
  zm_ac zk_get_NameTree_NameTable_11 <|
  zm_ac trivial <|
  zm_ac trivial <|
  zm_ac trivial <|
  zm_ac (zm_jp rfl) <|
  zm_ac trivial <|
  zm_ac zk_get_NameTree_NameTable_11 <|
  zm_ac trivial <|
  zm_ac trivial <|
  zm_ac zk_get_NameTree_NameTable_11 <|
  zm_ac trivial <|
  zm_ac trivial <|
  zm_ac trivial <|
  zm_ac trivial <|
  zm_ac zk_get_NameTree_NameTable_11 <|
  zm_ac trivial <|
  zm_ac trivial <|
  zm_ac trivial <|
  zm_ac trivial <|
  zm_ac trivial <|
  zm_ac (zm_rp_any zk_put_NameTree_NameTable_18) <|
  zm_ac trivial <|
  zm_ac (Or.inr (Or.inr (Or.inr ⟨zk_stat_NameTree_NameTable_73, by decide, by decide⟩))) <|
  zm_ac trivial <|
  zm_ac trivial <|
  zm_ac (zm_jp rfl) <|
  zm_ac trivial <|
  zm_an
set_option maxRecDepth 100000 in
set_option maxHeartbeats 4000000 in
theorem zs_14 : ∀ q ∈ zc14, zm_rs 14 q.1 q.2.1 q.2.2.2.1 q.2.2.2.2.1 q.2.2.2.2.2 :=
  zm_ac trivial <|
  zm_ac (zm_jp rfl) <|
  zm_ac trivial <|
  zm_ac trivial <|
  zm_ac zk_get_NameTree_NameTable_22 <|
  zm_ac (zm_jp rfl) <|
  zm_ac trivial <|
  zm_ac zk_get_NameTree_NameTable_22 <|
  zm_ac trivial <|
  zm_ac zk_get_NameTree_NameTable_50 <|
  zm_ac trivial <|
  zm_ac trivial <|
  zm_ac (zm_rp_any zk_put_NameTree_NameTable_50) <|
  zm_ac trivial <|
  zm_ac zk_get_NameTree_NameTable_47 <|
  zm_ac (zm_jp rfl) <|
  zm_ac trivial <|
  zm_ac zk_get_NameTree_NameTable_47 <|
  zm_ac trivial <|
  zm_ac zk_get_NameTree_NameTable_64 <|
  zm_ac trivial <|
  zm_ac trivial <|
  zm_ac (zm_rp_any zk_put_NameTree_NameTable_64) <|
  zm_ac trivial <|
  zm_ac trivial <|
  zm_ac (zm_rp_any zk_put_NameTree_NameTable_22) <|
  zm_ac trivial <|
  zm_ac trivial <|
  zm_ac (zm_rp_any zk_put_NameTree_NameTable_47) <|
  zm_ac trivial <|
  zm_an
set_option maxRecDepth 100000 in
set_option maxHeartbeats 4000000 in
theorem zs_15 : ∀ q ∈ zc15, zm_rs 15 q.1 q.2.1 q.2.2.2.1 q.2.2.2.2.1 q.2.2.2.2.2 :=
  zm_ac trivial <|
  zm_ac (Or.inl ⟨rfl, zk_obj_NameTree_Span_3, by decide, by decide⟩) <|
  zm_ac trivial <|
  zm_an
set_option maxRecDepth 100000 in
set_option maxHeartbeats 4000000 in
theorem zs_16 : ∀ q ∈ zc16, zm_rs 16 q.1 q.2.1 q.2.2.2.1 q.2.2.2.2.1 q.2.2.2.2.2 :=
  zm_ac trivial <|
  zm_ac zk_get_NameTree_Span_9 <|
  zm_ac trivial <|
  zm_ac zk_get_NameTree_Span_15 <|
  zm_ac (zm_jp rfl) <|
  zm_ac trivial <|
  zm_ac trivial <|
  zm_ac zk_get_NameTree_Span_9 <|
  zm_ac trivial <|
  zm_ac ⟨zk_virt_NameTree_Span_18, by decide, by decide⟩ <|
  zm_ac (zm_jp rfl) <|
  zm_ac trivial <|
  zm_ac trivial <|
  zm_ac zk_get_NameTree_Span_9 <|
  zm_ac trivial <|
  zm_ac ⟨zk_virt_NameTree_Span_18, by decide, by decide⟩ <|
  zm_ac (zm_jp rfl) <|
  zm_ac trivial <|
  zm_ac zk_get_NameTree_Span_9 <|
  zm_ac trivial <|
  zm_ac trivial <|
  zm_ac trivial <|
  zm_ac zk_get_NameTree_Span_15 <|
  zm_ac (zm_jp rfl) <|
  zm_ac trivial <|
  zm_ac trivial <|
  zm_ac zk_get_NameTree_Span_9 <|
  zm_ac trivial <|
  zm_ac trivial <|
  zm_ac trivial <|
  zm_ac ⟨zk_virt_NameTree_Span_18, by decide, by decide⟩ <|
  zm_ac (zm_jp rfl) <|
  zm_ac trivial <|
  zm_ac (zm_jp rfl) <|
  zm_ac trivial <|
  zm_ac trivial <|
  zm_ac trivial <|
  zm_ac (zm_jp rfl) <|
  zm_ac trivial <|
  zm_ac trivial <|
  zm_ac trivial <|
  zm_ac trivial <|
  zm_ac zk_get_NameTree_Span_9 <|
  zm_ac trivial <|
  zm_ac trivial <|
  zm_ac (zm_rp_any zk_put_NameTree_Span_9) <|
  zm_ac (zm_jp rfl) <|
  zm_ac trivial <|
  zm_ac trivial <|
  zm_an
set_option maxRecDepth 100000 in
set_option maxHeartbeats 4000000 in
theorem zs_17 : ∀ q ∈ zc17, zm_rs 17 q.1 q.2.1 q.2.2.2.1 q.2.2.2.2.1 q.2.2.2.2.2 :=
  zm_ac trivial <|
  zm_ac zk_get_NameTree_Span_9 <|
  zm_ac trivial <|
  zm_ac zk_get_NameTree_Span_15 <|
  zm_ac (zm_jp rfl) <|
  zm_ac trivial <|
  zm_ac trivial <|
  zm_ac zk_get_NameTree_Span_9 <|
  zm_ac trivial <|
  zm_ac ⟨zk_virt_NameTree_Span_18, by decide, by decide⟩ <|
  zm_ac (zm_jp rfl) <|
  zm_ac trivial <|
  zm_ac trivial <|
  zm_ac zk_get_NameTree_Span_9 <|
  zm_ac trivial <|
  zm_ac trivial <|
  zm_ac (zm_rp_any zk_put_NameTree_Span_9) <|
  zm_ac (zm_jp rfl) <|
  zm_ac trivial <|
  zm_ac zk_get_NameTree_Span_9 <|
  zm_ac trivial <|
  zm_an
set_option maxRecDepth 100000 in
set_option maxHeartbeats 4000000 in
theorem zs_18 : ∀ q ∈ zc18, zm_rs 18 q.1 q.2.1 q.2.2.2.1 q.2.2.2.2.1 q.2.2.2.2.2 :=
  zm_ac trivial <|
  zm_ac zk_get_NameTree_Span_22 <|
  zm_ac (zm_jp rfl) <|
  zm_ac trivial <|
  zm_ac (zm_jp rfl) <|
  zm_ac trivial <|
  zm_ac trivial <|
  zm_ac zk_get_NameTree_Span_22 <|
  zm_ac trivial <|
  zm_ac (zm_jp rfl) <|
  zm_ac trivial <|
  zm_ac zk_get_NameTree_Span_22 <|
  zm_ac trivial <|
  zm_ac trivial <|
  zm_ac trivial <|
  zm_ac (zm_jp rfl) <|
  zm_ac trivial <|
  zm_ac (zm_jp rfl) <|
  zm_ac trivial <|
  zm_ac trivial <|
  zm_an
set_option maxRecDepth 100000 in
set_option maxHeartbeats 4000000 in
theorem zs_19 : ∀ q ∈ zc19, zm_rs 19 q.1 q.2.1 q.2.2.2.1 q.2.2.2.2.1 q.2.2.2.2.2 :=
  zm_ac trivial <|
  zm_ac (Or.inl ⟨rfl, zk_obj_NameTree_Tape_3, by decide, by decide⟩) <|
  zm_ac trivial <|
  zm_ac trivial <|
  zm_ac ⟨by decide, by decide, rfl, (zt_m1 35 rfl rfl), rfl, by decide⟩ <|
  zm_ac zk_putF_NameTree_Tape_9 <|
  zm_ac trivial <|
  zm_an
set_option maxRecDepth 100000 in
set_option maxHeartbeats 4000000 in
theorem zs_20 : ∀ q ∈ zc20, zm_rs 20 q.1 q.2.1 q.2.2.2.1 q.2.2.2.2.1 q.2.2.2.2.2 :=
  zm_ac trivial <|
  zm_ac trivial <|
  zm_ac trivial <|
  zm_ac zk_get_NameTree_Tape_15 <|
  zm_ac trivial <|
  zm_ac (zm_jp rfl) <|
  zm_ac trivial <|
  zm_ac (zm_jp rfl) <|
  zm_ac trivial <|
  zm_ac trivial <|
  zm_an
set_option maxRecDepth 100000 in
set_option maxHeartbeats 4000000 in
theorem zs_21 : ∀ q ∈ zc21, zm_rs 21 q.1 q.2.1 q.2.2.2.1 q.2.2.2.2.1 q.2.2.2.2.2 :=
  zm_ac trivial <|
  zm_ac zk_get_NameTree_Tape_15 <|
  zm_ac (zm_jp rfl) <|
  zm_ac trivial <|
  zm_ac zk_get_NameTree_Tape_15 <|
  zm_ac trivial <|
  zm_ac zk_get_NameTree_Tape_9 <|
  zm_ac trivial <|
  zm_ac (zm_jp rfl) <|
  zm_ac trivial <|
  zm_ac zk_get_NameTree_Tape_9 <|
  zm_ac trivial <|
  zm_ac zk_get_NameTree_Tape_15 <|
  zm_ac trivial <|
  zm_ac trivial <|
  zm_ac trivial <|
  zm_ac trivial <|
  zm_ac zk_get_NameTree_Tape_15 <|
  zm_ac trivial <|
  zm_ac trivial <|
  zm_ac (zm_rp_any zk_put_NameTree_Tape_15) <|
  zm_ac trivial <|
  zm_an
set_option maxRecDepth 100000 in
set_option maxHeartbeats 4000000 in
theorem zs_22 : ∀ q ∈ zc22, zm_rs 22 q.1 q.2.1 q.2.2.2.1 q.2.2.2.2.1 q.2.2.2.2.2 :=
  zm_ac trivial <|
  zm_ac zk_get_NameTree_Tape_15 <|
  zm_ac trivial <|
  zm_ac trivial <|
  zm_ac trivial <|
  zm_ac (zm_rp_any zk_put_NameTree_Tape_15) <|
  zm_ac trivial <|
  zm_ac trivial <|
  zm_an
set_option maxRecDepth 100000 in
set_option maxHeartbeats 4000000 in
theorem zs_23 : ∀ q ∈ zc23, zm_rs 23 q.1 q.2.1 q.2.2.2.1 q.2.2.2.2.1 q.2.2.2.2.2 :=
  zm_ac trivial <|
  zm_ac trivial <|
  zm_ac trivial <|
  zm_ac ⟨zk_virt_NameTree_Tape_19, by decide, by decide⟩ <|
  zm_ac (zm_jp rfl) <|
  zm_ac trivial <|
  zm_ac (zm_jp rfl) <|
  zm_ac trivial <|
  zm_ac trivial <|
  zm_an
set_option maxRecDepth 100000 in
set_option maxHeartbeats 4000000 in
theorem zs_24 : ∀ q ∈ zc24, zm_rs 24 q.1 q.2.1 q.2.2.2.1 q.2.2.2.2.1 q.2.2.2.2.2 :=
  zm_ac trivial <|
  zm_ac trivial <|
  zm_ac trivial <|
  zm_ac ⟨zk_virt_NameTree_Tape_19, by decide, by decide⟩ <|
  zm_ac trivial <|
  zm_ac trivial <|
  zm_ac (zm_jp rfl) <|
  zm_ac trivial <|
  zm_ac trivial <|
  zm_ac trivial <|
  zm_ac trivial <|
  zm_ac trivial <|
  zm_ac ⟨zk_virt_NameTree_Tape_19, by decide, by decide⟩ <|
  zm_ac (zm_jp rfl) <|
  zm_ac trivial <|
  zm_ac (zm_jp rfl) <|
  zm_ac trivial <|
  zm_ac trivial <|
  zm_an
set_option maxRecDepth 100000 in
set_option maxHeartbeats 4000000 in
theorem zs_25 : ∀ q ∈ zc25, zm_rs 25 q.1 q.2.1 q.2.2.2.1 q.2.2.2.2.1 q.2.2.2.2.2 :=
  zm_ac trivial <|
  zm_ac trivial <|
  zm_ac trivial <|
  zm_ac (zm_jp rfl) <|
  zm_ac trivial <|
  zm_ac trivial <|
  zm_ac (zm_jp rfl) <|
  zm_ac trivial <|
  zm_ac trivial <|
  zm_ac zk_get_NameTree_Tape_9 <|
  zm_ac trivial <|
  zm_ac (zm_jp rfl) <|
  zm_ac trivial <|
  zm_ac zk_get_NameTree_Tape_9 <|
  zm_ac trivial <|
  zm_ac trivial <|
  zm_ac (zm_jp rfl) <|
  zm_ac trivial <|
  zm_ac trivial <|
  zm_ac trivial <|
  zm_ac (zm_jp rfl) <|
  zm_ac trivial <|
  zm_ac trivial <|
  zm_an
set_option maxRecDepth 100000 in
set_option maxHeartbeats 4000000 in
theorem zs_26 : ∀ q ∈ zc26, zm_rs 26 q.1 q.2.1 q.2.2.2.1 q.2.2.2.2.1 q.2.2.2.2.2 :=
  zm_ac trivial <|
  zm_ac (Or.inl ⟨rfl, zk_obj_NameTree_TreeFile_3, by decide, by decide⟩) <|
  zm_ac trivial <|
  zm_ac trivial <|
  zm_ac zk_putF_NameTree_TreeFile_9 <|
  zm_ac trivial <|
  zm_an
set_option maxRecDepth 100000 in
set_option maxHeartbeats 4000000 in
theorem zs_27 : ∀ q ∈ zc27, zm_rs 27 q.1 q.2.1 q.2.2.2.1 q.2.2.2.2.1 q.2.2.2.2.2 :=
  zm_ac trivial <|
  zm_ac trivial <|
  zm_ac (zm_rp_any zk_put_NameTree_TreeFile_15) <|
  zm_ac trivial <|
  zm_ac trivial <|
  zm_ac (zm_rp_any zk_put_NameTree_TreeFile_18) <|
  zm_ac trivial <|
  zm_ac trivial <|
  zm_ac (zm_rp_any zk_put_NameTree_TreeFile_21) <|
  zm_ac trivial <|
  zm_ac trivial <|
  zm_ac (zm_rp_any zk_put_NameTree_TreeFile_24) <|
  zm_ac trivial <|
  zm_ac trivial <|
  zm_ac (zm_rp_any zk_put_NameTree_TreeFile_27) <|
  zm_ac trivial <|
  zm_ac trivial <|
  zm_ac (zm_rp_any zk_put_NameTree_TreeFile_30) <|
  zm_ac trivial <|
  zm_ac trivial <|
  zm_ac (zm_rp_any zk_put_NameTree_TreeFile_34) <|
  zm_ac trivial <|
  zm_an
set_option maxRecDepth 100000 in
set_option maxHeartbeats 4000000 in
theorem zs_28 : ∀ q ∈ zc28, zm_rs 28 q.1 q.2.1 q.2.2.2.1 q.2.2.2.2.1 q.2.2.2.2.2 :=
  zm_ac trivial <|
  zm_ac zk_get_NameTree_TreeFile_37 <|
  zm_ac (zm_jp rfl) <|
  zm_ac trivial <|
  zm_ac trivial <|
  zm_ac ⟨by decide, by decide, rfl, (zt_m1 35 rfl rfl), rfl, by decide⟩ <|
  zm_ac (zm_rp_any zk_put_NameTree_TreeFile_37) <|
  zm_ac trivial <|
  zm_ac trivial <|
  zm_ac trivial <|
  zm_ac trivial <|
  zm_ac trivial <|
  zm_ac zk_get_NameTree_TreeFile_37 <|
  zm_ac (Or.inr (Or.inr (Or.inr ⟨zk_stat_NameTree_TreeFile_41, by decide, by decide⟩))) <|
  zm_ac (zm_rp_any zk_put_NameTree_TreeFile_34) <|
  zm_ac trivial <|
  zm_an
set_option maxRecDepth 100000 in
set_option maxHeartbeats 4000000 in
theorem zs_29 : ∀ q ∈ zc29, zm_rs 29 q.1 q.2.1 q.2.2.2.1 q.2.2.2.2.1 q.2.2.2.2.2 :=
  zm_ac trivial <|
  zm_ac zk_get_NameTree_TreeFile_15 <|
  zm_ac trivial <|
  zm_ac (zm_jp rfl) <|
  zm_ac trivial <|
  zm_ac zk_get_NameTree_TreeFile_37 <|
  zm_ac (zm_jp rfl) <|
  zm_ac trivial <|
  zm_ac (zm_jp rfl) <|
  zm_ac trivial <|
  zm_ac trivial <|
  zm_ac zk_get_NameTree_TreeFile_34 <|
  zm_ac (zm_jp rfl) <|
  zm_ac trivial <|
  zm_ac trivial <|
  zm_ac zk_get_NameTree_TreeFile_37 <|
  zm_ac trivial <|
  zm_ac (zm_jp rfl) <|
  zm_ac trivial <|
  zm_ac trivial <|
  zm_ac trivial <|
  zm_ac zk_get_NameTree_TreeFile_37 <|
  zm_ac trivial <|
  zm_ac trivial <|
  zm_ac trivial <|
  zm_ac trivial <|
  zm_ac trivial <|
  zm_an
set_option maxRecDepth 100000 in
set_option maxHeartbeats 4000000 in
theorem zs_30 : ∀ q ∈ zc30, zm_rs 30 q.1 q.2.1 q.2.2.2.1 q.2.2.2.2.1 q.2.2.2.2.2 :=
  zm_ac trivial <|
  zm_ac zk_get_NameTree_TreeFile_15 <|
  zm_ac (zm_tsw (by decide) (by decide) (by decide) (by decide)) <|
  zm_ac trivial <|
  zm_ac trivial <|
  zm_ac trivial <|
  zm_ac zk_get_NameTree_TreeFile_27 <|
  zm_ac (Or.inr (Or.inr (Or.inr ⟨zk_stat_NameTree_TreeFile_45, by decide, by decide⟩))) <|
  zm_ac trivial <|
  zm_ac trivial <|
  zm_ac zk_get_NameTree_TreeFile_34 <|
  zm_ac (Or.inr (Or.inr (Or.inr ⟨zk_stat_NameTree_TreeFile_49, by decide, by decide⟩))) <|
  zm_ac trivial <|
  zm_ac trivial <|
  zm_ac trivial <|
  zm_an
set_option maxRecDepth 100000 in
set_option maxHeartbeats 4000000 in
theorem zs_31 : ∀ q ∈ zc31, zm_rs 31 q.1 q.2.1 q.2.2.2.1 q.2.2.2.2.1 q.2.2.2.2.2 :=
  zm_ac trivial <|
  zm_ac zk_get_NameTree_TreeFile_27 <|
  zm_ac trivial <|
  zm_ac zk_get_NameTree_TreeFile_24 <|
  zm_ac trivial <|
  zm_ac trivial <|
  zm_ac (Or.inl ⟨rfl, zk_max_NameTree_TreeFile_52, by decide, by decide⟩) <|
  zm_ac (Or.inr (Or.inr (Or.inr ⟨zk_stat_NameTree_TreeFile_45, by decide, by decide⟩))) <|
  zm_ac trivial <|
  zm_ac zk_get_NameTree_TreeFile_27 <|
  zm_ac (Or.inr (Or.inr (Or.inr ⟨zk_stat_NameTree_TreeFile_45, by decide, by decide⟩))) <|
  zm_ac trivial <|
  zm_ac trivial <|
  zm_an
set_option maxRecDepth 100000 in
set_option maxHeartbeats 4000000 in
theorem zs_32 : ∀ q ∈ zc32, zm_rs 32 q.1 q.2.1 q.2.2.2.1 q.2.2.2.2.1 q.2.2.2.2.2 :=
  zm_ac trivial <|
  zm_ac zk_get_NameTree_TreeFile_15 <|
  zm_ac (zm_tsw (by decide) (by decide) (by decide) (by decide)) <|
  zm_ac trivial <|
  zm_ac zk_get_NameTree_TreeFile_21 <|
  zm_ac trivial <|
  zm_ac trivial <|
  zm_ac zk_get_NameTree_TreeFile_24 <|
  zm_ac trivial <|
  zm_ac trivial <|
  zm_ac zk_get_NameTree_TreeFile_34 <|
  zm_ac trivial <|
  zm_ac trivial <|
  zm_ac trivial <|
  zm_an
set_option maxRecDepth 100000 in
set_option maxHeartbeats 4000000 in
theorem zs_33 : ∀ q ∈ zc33, zm_rs 33 q.1 q.2.1 q.2.2.2.1 q.2.2.2.2.1 q.2.2.2.2.2 :=
  zm_ac trivial <|
  zm_ac zk_get_NameTree_TreeFile_18 <|
  zm_ac (zm_jp rfl) <|
  zm_ac trivial <|
  zm_ac zk_get_NameTree_TreeFile_21 <|
  zm_ac (zm_jp rfl) <|
  zm_ac trivial <|
  zm_ac trivial <|
  zm_ac ⟨zk_virt_NameTree_TreeFile_58, by decide, by decide⟩ <|
  zm_ac trivial <|
  zm_an
set_option maxRecDepth 100000 in
set_option maxHeartbeats 4000000 in
theorem zs_34 : ∀ q ∈ zc34, zm_rs 34 q.1 q.2.1 q.2.2.2.1 q.2.2.2.2.1 q.2.2.2.2.2 :=
  zm_ac trivial <|
  zm_ac (Or.inl ⟨rfl, zk_obj_NameTree_Walk_3, by decide, by decide⟩) <|
  zm_ac trivial <|
  zm_ac trivial <|
  zm_ac zk_anew_NameTree_Walk_9 <|
  zm_ac zk_putF_NameTree_Walk_11 <|
  zm_ac trivial <|
  zm_ac trivial <|
  zm_ac zk_putF_NameTree_Walk_17 <|
  zm_ac trivial <|
  zm_ac trivial <|
  zm_ac zk_putF_NameTree_Walk_21 <|
  zm_ac trivial <|
  zm_ac trivial <|
  zm_ac trivial <|
  zm_ac trivial <|
  zm_ac zk_get_NameTree_Walk_11 <|
  zm_ac trivial <|
  zm_ac (zm_jp rfl) <|
  zm_ac trivial <|
  zm_ac zk_get_NameTree_Walk_11 <|
  zm_ac trivial <|
  zm_ac ⟨zk_new_NameTree_Walk_9, fun _ _ => rfl⟩ <|
  zm_ac trivial <|
  zm_ac (Or.inr ⟨zk_spec_NameTree_Walk_25, by decide, by decide⟩) <|
  zm_ac trivial <|
  zm_ac trivial <|
  zm_ac (zm_jp rfl) <|
  zm_ac trivial <|
  zm_an
set_option maxRecDepth 100000 in
set_option maxHeartbeats 4000000 in
theorem zs_35 : ∀ q ∈ zc35, zm_rs 35 q.1 q.2.1 q.2.2.2.1 q.2.2.2.2.1 q.2.2.2.2.2 :=
  zm_ac trivial <|
  zm_ac trivial <|
  zm_ac trivial <|
  zm_ac trivial <|
  zm_ac trivial <|
  zm_ac ⟨zk_virt_NameTree_Walk_26, by decide, by decide⟩ <|
  zm_ac trivial <|
  zm_ac trivial <|
  zm_ac (zm_jp rfl) <|
  zm_ac trivial <|
  zm_ac trivial <|
  zm_ac trivial <|
  zm_ac zk_get_NameTree_Walk_30 <|
  zm_ac (zm_jp rfl) <|
  zm_ac trivial <|
  zm_ac ⟨zk_virt_NameTree_Walk_34, by decide, by decide⟩ <|
  zm_ac (zm_jp rfl) <|
  zm_ac trivial <|
  zm_ac (zm_jp rfl) <|
  zm_ac trivial <|
  zm_ac trivial <|
  zm_an
set_option maxRecDepth 100000 in
set_option maxHeartbeats 4000000 in
theorem zs_36 : ∀ q ∈ zc36, zm_rs 36 q.1 q.2.1 q.2.2.2.1 q.2.2.2.2.1 q.2.2.2.2.2 :=
  zm_ac trivial <|
  zm_ac ⟨zk_virt_NameTree_Walk_38, by decide, by decide⟩ <|
  zm_ac trivial <|
  zm_ac trivial <|
  zm_ac trivial <|
  zm_ac trivial <|
  zm_ac ⟨zk_virt_NameTree_Walk_41, by decide, by decide⟩ <|
  zm_ac trivial <|
  zm_ac trivial <|
  zm_ac trivial <|
  zm_ac ⟨_, _, rfl, zk_ldc_NameTree_Walk_45⟩ <|
  zm_ac (zm_jp rfl) <|
  zm_ac trivial <|
  zm_ac ⟨zk_virt_NameTree_Walk_46, by decide, by decide⟩ <|
  zm_ac (zm_jp rfl) <|
  zm_ac trivial <|
  zm_ac ⟨zk_virt_NameTree_Walk_49, by decide, by decide⟩ <|
  zm_ac trivial <|
  zm_ac trivial <|
  zm_ac ⟨zk_virt_NameTree_Walk_46, by decide, by decide⟩ <|
  zm_ac (zm_jp rfl) <|
  zm_ac trivial <|
  zm_ac (zm_jp rfl) <|
  zm_ac trivial <|
  zm_ac trivial <|
  zm_ac ⟨zk_virt_NameTree_Walk_52, by decide, by decide⟩ <|
  zm_ac trivial <|
  zm_ac trivial <|
  zm_ac (zm_jp rfl) <|
  zm_ac trivial <|
  zm_ac trivial <|
  zm_ac trivial <|
  zm_ac (zm_jp rfl) <|
  zm_ac trivial <|
  zm_ac trivial <|
  zm_an
set_option maxRecDepth 100000 in
set_option maxHeartbeats 4000000 in
theorem zs_37 : ∀ q ∈ zc37, zm_rs 37 q.1 q.2.1 q.2.2.2.1 q.2.2.2.2.1 q.2.2.2.2.2 :=
  zm_ac trivial <|
  zm_ac trivial <|
  zm_ac (zm_rp_any zk_put_NameTree_Walk_56) <|
  zm_ac trivial <|
  zm_ac trivial <|
  zm_ac (zm_rp_any zk_put_NameTree_Walk_59) <|
  zm_ac trivial <|
  zm_ac trivial <|
  zm_ac (zm_rp_any zk_put_NameTree_Walk_62) <|
  zm_ac trivial <|
  zm_ac trivial <|
  zm_ac (zm_rp_any zk_put_NameTree_Walk_66) <|
  zm_ac trivial <|
  zm_ac trivial <|
  zm_ac (zm_rp_any zk_put_NameTree_Walk_30) <|
  zm_ac trivial <|
  zm_ac trivial <|
  zm_ac zk_get_NameTree_Walk_17 <|
  zm_ac (zm_rp_any zk_put_NameTree_Walk_69) <|
  zm_ac trivial <|
  zm_ac trivial <|
  zm_ac (zm_rp_any zk_put_NameTree_Walk_72) <|
  zm_ac trivial <|
  zm_ac trivial <|
  zm_ac zk_get_NameTree_Walk_17 <|
  zm_ac (zm_rp_any zk_put_NameTree_Walk_76) <|
  zm_ac trivial <|
  zm_an
set_option maxRecDepth 100000 in
set_option maxHeartbeats 4000000 in
theorem zs_38 : ∀ q ∈ zc38, zm_rs 38 q.1 q.2.1 q.2.2.2.1 q.2.2.2.2.1 q.2.2.2.2.2 :=
  zm_ac trivial <|
  zm_ac zk_get_NameTree_Walk_56 <|
  zm_ac (zm_jp rfl) <|
  zm_ac trivial <|
  zm_ac zk_get_NameTree_Walk_56 <|
  zm_ac trivial <|
  zm_ac zk_get_NameTree_Walk_11 <|
  zm_ac trivial <|
  zm_ac (zm_jp rfl) <|
  zm_ac trivial <|
  zm_ac zk_get_NameTree_Walk_11 <|
  zm_ac trivial <|
  zm_ac zk_get_NameTree_Walk_56 <|
  zm_ac trivial <|
  zm_ac (zm_jp rfl) <|
  zm_ac trivial <|
  zm_ac trivial <|
  zm_ac zk_get_NameTree_Walk_11 <|
  zm_ac trivial <|
  zm_ac zk_get_NameTree_Walk_56 <|
  zm_ac trivial <|
  zm_ac trivial <|
  zm_ac trivial <|
  zm_ac trivial <|
  zm_ac (zm_rp_any zk_put_NameTree_Walk_79) <|
  zm_ac trivial <|
  zm_ac trivial <|
  zm_ac (zm_rp_any zk_put_NameTree_Walk_82) <|
  zm_ac trivial <|
  zm_ac trivial <|
  zm_ac (zm_rp_any zk_put_NameTree_Walk_85) <|
  zm_ac trivial <|
  zm_ac trivial <|
  zm_ac zk_get_NameTree_Walk_56 <|
  zm_ac trivial <|
  zm_ac trivial <|
  zm_ac (zm_rp_any zk_put_NameTree_Walk_56) <|
  zm_ac trivial <|
  zm_an
set_option maxRecDepth 100000 in
set_option maxHeartbeats 4000000 in
theorem zs_39 : ∀ q ∈ zc39, zm_rs 39 q.1 q.2.1 q.2.2.2.1 q.2.2.2.2.1 q.2.2.2.2.2 :=
  zm_ac trivial <|
  zm_ac zk_get_NameTree_Walk_56 <|
  zm_ac (zm_jp rfl) <|
  zm_ac trivial <|
  zm_ac ⟨zk_virt_NameTree_Walk_88, by decide, by decide⟩ <|
  zm_ac trivial <|
  zm_ac trivial <|
  zm_ac (zm_jp rfl) <|
  zm_ac trivial <|
  zm_ac ⟨zk_virt_NameTree_Walk_92, by decide, by decide⟩ <|
  zm_ac (zm_jp rfl) <|
  zm_ac trivial <|
  zm_ac trivial <|
  zm_ac trivial <|
  zm_ac trivial <|
  zm_ac zk_get_NameTree_Walk_56 <|
  zm_ac trivial <|
  zm_ac trivial <|
  zm_ac (zm_rp_any zk_put_NameTree_Walk_56) <|
  zm_ac (zm_jp rfl) <|
  zm_ac trivial <|
  zm_ac trivial <|
  zm_an
set_option maxRecDepth 100000 in
set_option maxHeartbeats 4000000 in
theorem zs_40 : ∀ q ∈ zc40, zm_rs 40 q.1 q.2.1 q.2.2.2.1 q.2.2.2.2.1 q.2.2.2.2.2 :=
  zm_ac trivial <|
  zm_ac zk_get_NameTree_Walk_56 <|
  zm_ac (zm_jp rfl) <|
  zm_ac trivial <|
  zm_ac zk_get_NameTree_Walk_56 <|
  zm_ac trivial <|
  zm_ac zk_get_NameTree_Walk_11 <|
  zm_ac trivial <|
  zm_ac (zm_jp rfl) <|
  zm_ac trivial <|
  zm_ac zk_get_NameTree_Walk_11 <|
  zm_ac trivial <|
  zm_ac zk_get_NameTree_Walk_56 <|
  zm_ac trivial <|
  zm_ac trivial <|
  zm_ac trivial <|
  zm_ac (zm_jp rfl) <|
  zm_ac trivial <|
  zm_ac trivial <|
  zm_an
set_option maxRecDepth 100000 in
set_option maxHeartbeats 4000000 in
theorem zs_41 : ∀ q ∈ zc41, zm_rs 41 q.1 q.2.1 q.2.2.2.1 q.2.2.2.2.1 q.2.2.2.2.2 :=
  zm_ac trivial <|
  zm_ac ⟨zk_virt_NameTree_Walk_88, by decide, by decide⟩ <|
  zm_ac trivial <|
  zm_ac trivial <|
  zm_ac (zm_jp rfl) <|
  zm_ac trivial <|
  zm_ac trivial <|
  zm_ac zk_get_NameTree_Walk_79 <|
  zm_ac (zm_rp_any zk_put_NameTree_Walk_62) <|
  zm_ac trivial <|
  zm_ac trivial <|
  zm_ac zk_get_NameTree_Walk_82 <|
  zm_ac (zm_rp_any zk_put_NameTree_Walk_66) <|
  zm_ac trivial <|
  zm_ac trivial <|
  zm_ac ⟨zk_virt_NameTree_Walk_95, by decide, by decide⟩ <|
  zm_ac trivial <|
  zm_ac zk_get_NameTree_Walk_66 <|
  zm_ac trivial <|
  zm_ac (zm_rp_any zk_put_NameTree_Walk_30) <|
  zm_ac trivial <|
  zm_an
set_option maxRecDepth 100000 in
set_option maxHeartbeats 4000000 in
theorem zs_42 : ∀ q ∈ zc42, zm_rs 42 q.1 q.2.1 q.2.2.2.1 q.2.2.2.2.1 q.2.2.2.2.2 :=
  zm_ac trivial <|
  zm_ac zk_get_NameTree_Walk_30 <|
  zm_ac trivial <|
  zm_ac (zm_jp rfl) <|
  zm_ac trivial <|
  zm_ac trivial <|
  zm_ac trivial <|
  zm_ac zk_get_NameTree_Walk_76 <|
  zm_ac (zm_jp rfl) <|
  zm_ac trivial <|
  zm_ac zk_get_NameTree_Walk_76 <|
  zm_ac zk_get_NameTree_Walk_99 <|
  zm_ac trivial <|
  zm_ac (zm_jp rfl) <|
  zm_ac trivial <|
  zm_ac trivial <|
  zm_ac trivial <|
  zm_ac trivial <|
  zm_ac zk_get_NameTree_Walk_76 <|
  zm_ac (zm_rp_any zk_put_NameTree_Walk_69) <|
  zm_ac trivial <|
  zm_ac ⟨zk_virt_NameTree_Walk_34, by decide, by decide⟩ <|
  zm_ac (zm_jp rfl) <|
  zm_ac trivial <|
  zm_ac trivial <|
  zm_ac (zm_rp_any zk_put_NameTree_Walk_72) <|
  zm_ac trivial <|
  zm_ac trivial <|
  zm_ac zk_get_NameTree_Walk_69 <|
  zm_ac zk_get_NameTree_Walk_104 <|
  zm_ac (zm_rp_any zk_put_NameTree_Walk_76) <|
  zm_ac trivial <|
  zm_ac trivial <|
  zm_ac trivial <|
  zm_ac trivial <|
  zm_ac zk_get_NameTree_Walk_21 <|
  zm_ac trivial <|
  zm_ac zk_get_NameTree_Walk_69 <|
  zm_ac trivial <|
  zm_ac zk_get_NameTree_Walk_62 <|
  zm_ac trivial <|
  zm_ac zk_get_NameTree_Walk_66 <|
  zm_ac trivial <|
  zm_ac zk_get_NameTree_Walk_30 <|
  zm_ac ⟨zk_virt_NameTree_Walk_107, by decide, by decide⟩ <|
  zm_ac (zm_rp_any zk_put_NameTree_Walk_72) <|
  zm_ac trivial <|
  zm_ac zk_get_NameTree_Walk_72 <|
  zm_ac (zm_jp rfl) <|
  zm_ac trivial <|
  zm_ac trivial <|
  zm_ac (zm_rp_any zk_put_NameTree_Walk_76) <|
  zm_ac trivial <|
  zm_ac (zm_jp rfl) <|
  zm_ac trivial <|
  zm_ac (zm_jp rfl) <|
  zm_ac trivial <|
  zm_ac trivial <|
  zm_ac trivial <|
  zm_ac trivial <|
  zm_ac zk_get_NameTree_Walk_72 <|
  zm_ac zk_get_NameTree_Walk_113 <|
  zm_ac (zm_rp_any zk_put_NameTree_Walk_76) <|
  zm_ac trivial <|
  zm_ac zk_get_NameTree_Walk_76 <|
  zm_ac (zm_jp rfl) <|
  zm_ac trivial <|
  zm_ac zk_get_NameTree_Walk_76 <|
  zm_ac zk_get_NameTree_Walk_99 <|
  zm_ac trivial <|
  zm_ac (zm_jp rfl) <|
  zm_ac trivial <|
  zm_ac (zm_jp rfl) <|
  zm_ac trivial <|
  zm_ac (zm_jp rfl) <|
  zm_ac trivial <|
  zm_ac (zm_jp rfl) <|
  zm_ac trivial <|
  zm_ac trivial <|
  zm_ac trivial <|
  zm_ac (zm_jp rfl) <|
  zm_ac trivial <|
  zm_ac trivial <|
  zm_ac zk_get_NameTree_Walk_76 <|
  zm_ac ⟨zk_virt_NameTree_Walk_118, by decide, by decide⟩ <|
  zm_ac (zm_jp rfl) <|
  zm_ac trivial <|
  zm_ac trivial <|
  zm_an
set_option maxRecDepth 100000 in
set_option maxHeartbeats 4000000 in
theorem zs_43 : ∀ q ∈ zc43, zm_rs 43 q.1 q.2.1 q.2.2.2.1 q.2.2.2.2.1 q.2.2.2.2.2 :=
  zm_ac trivial <|
  zm_ac zk_get_NameTree_Walk_59 <|
  zm_ac trivial <|
  zm_ac (zm_jp rfl) <|
  zm_ac trivial <|
  zm_ac trivial <|
  zm_ac trivial <|
  zm_ac trivial <|
  zm_ac zk_get_NameTree_Walk_59 <|
  zm_ac trivial <|
  zm_ac trivial <|
  zm_ac (zm_rp_any zk_put_NameTree_Walk_59) <|
  zm_ac trivial <|
  zm_ac trivial <|
  zm_ac zk_get_NameTree_Walk_122 <|
  zm_ac trivial <|
  zm_ac trivial <|
  zm_ac zk_get_NameTree_Walk_125 <|
  zm_ac ⟨zk_virt_NameTree_Walk_41, by decide, by decide⟩ <|
  zm_ac trivial <|
  zm_ac trivial <|
  zm_ac trivial <|
  zm_ac ⟨zk_virt_NameTree_Walk_128, by decide, by decide⟩ <|
  zm_ac trivial <|
  zm_ac (zm_jp rfl) <|
  zm_ac trivial <|
  zm_ac zk_get_NameTree_Walk_17 <|
  zm_ac (zm_jp rfl) <|
  zm_ac trivial <|
  zm_ac zk_get_NameTree_Walk_69 <|
  zm_ac (zm_rp_any zk_put_NameTree_Walk_76) <|
  zm_ac trivial <|
  zm_ac trivial <|
  zm_an
set_option maxRecDepth 100000 in
set_option maxHeartbeats 4000000 in
theorem zs_44 : ∀ q ∈ zc44, zm_rs 44 q.1 q.2.1 q.2.2.2.1 q.2.2.2.2.1 q.2.2.2.2.2 :=
  zm_ac trivial <|
  zm_ac zk_get_NameTree_Walk_30 <|
  zm_ac trivial <|
  zm_ac (zm_jp rfl) <|
  zm_ac trivial <|
  zm_ac zk_get_NameTree_Walk_62 <|
  zm_ac (zm_jp rfl) <|
  zm_ac trivial <|
  zm_ac zk_get_NameTree_Walk_66 <|
  zm_ac (zm_jp rfl) <|
  zm_ac trivial <|
  zm_ac zk_get_NameTree_Walk_66 <|
  zm_ac trivial <|
  zm_ac zk_get_NameTree_Walk_62 <|
  zm_ac trivial <|
  zm_ac trivial <|
  zm_ac trivial <|
  zm_ac (zm_jp rfl) <|
  zm_ac trivial <|
  zm_ac zk_get_NameTree_Walk_62 <|
  zm_ac trivial <|
  zm_ac zk_get_NameTree_Walk_66 <|
  zm_ac trivial <|
  zm_ac trivial <|
  zm_ac (zm_jp rfl) <|
  zm_ac trivial <|
  zm_ac zk_get_NameTree_Walk_62 <|
  zm_ac trivial <|
  zm_ac zk_get_NameTree_Walk_66 <|
  zm_ac trivial <|
  zm_ac trivial <|
  zm_ac trivial <|
  zm_ac trivial <|
  zm_ac (zm_jp rfl) <|
  zm_ac trivial <|
  zm_ac (zm_jp rfl) <|
  zm_ac trivial <|
  zm_ac trivial <|
  zm_an
set_option maxRecDepth 100000 in
set_option maxHeartbeats 4000000 in
theorem zs_45 : ∀ q ∈ zc45, zm_rs 45 q.1 q.2.1 q.2.2.2.1 q.2.2.2.2.1 q.2.2.2.2.2 :=
  zm_ac trivial <|
  zm_ac (Or.inl ⟨rfl, zk_obj_NameTree_1, by decide, by decide⟩) <|
  zm_ac trivial <|
  zm_ac ⟨zk_new_NameTree_7, fun _ _ => rfl⟩ <|
  zm_ac trivial <|
  zm_ac (Or.inr ⟨zk_spec_NameTree_9, by decide, by decide⟩) <|
  zm_ac zk_putF_NameTree_10 <|
  zm_ac trivial <|
  zm_ac ⟨zk_new_NameTree_16, fun _ _ => rfl⟩ <|
  zm_ac trivial <|
  zm_ac (Or.inr ⟨zk_spec_NameTree_18, by decide, by decide⟩) <|
  zm_ac zk_putF_NameTree_19 <|
  zm_ac trivial <|
  zm_ac ⟨zk_new_NameTree_23, fun _ _ => rfl⟩ <|
  zm_ac trivial <|
  zm_ac (Or.inr ⟨zk_spec_NameTree_25, by decide, by decide⟩) <|
  zm_ac zk_putF_NameTree_26 <|
  zm_ac trivial <|
  zm_ac ⟨zk_new_NameTree_30, fun _ _ => rfl⟩ <|
  zm_ac trivial <|
  zm_ac trivial <|
  zm_ac zk_get_NameTree_19 <|
  zm_ac zk_get_NameTree_32 <|
  zm_ac trivial <|
  zm_ac zk_get_NameTree_26 <|
  zm_ac (Or.inr ⟨zk_spec_NameTree_36, by decide, by decide⟩) <|
  zm_ac zk_putF_NameTree_39 <|
  zm_ac trivial <|
  zm_ac ⟨zk_new_NameTree_30, fun _ _ => rfl⟩ <|
  zm_ac trivial <|
  zm_ac trivial <|
  zm_ac zk_get_NameTree_19 <|
  zm_ac zk_get_NameTree_32 <|
  zm_ac trivial <|
  zm_ac zk_get_NameTree_26 <|
  zm_ac (Or.inr ⟨zk_spec_NameTree_36, by decide, by decide⟩) <|
  zm_ac zk_putF_NameTree_43 <|
  zm_ac trivial <|
  zm_ac trivial <|
  zm_ac (zm_rp_any zk_put_NameTree_46) <|
  zm_ac trivial <|
  zm_an
set_option maxRecDepth 100000 in
set_option maxHeartbeats 4000000 in
theorem zs_46 : ∀ q ∈ zc46, zm_rs 46 q.1 q.2.1 q.2.2.2.1 q.2.2.2.2.1 q.2.2.2.2.2 :=
  zm_ac trivial <|
  zm_ac trivial <|
  zm_ac (zm_jp rfl) <|
  zm_ac trivial <|
  zm_ac trivial <|
  zm_ac (zm_jp rfl) <|
  zm_ac trivial <|
  zm_ac zk_get_NameTree_10 <|
  zm_ac trivial <|
  zm_ac ⟨zk_virt_NameTree_50, by decide, by decide⟩ <|
  zm_ac (zm_jp rfl) <|
  zm_ac trivial <|
  zm_ac trivial <|
  zm_ac trivial <|
  zm_ac trivial <|
  zm_ac trivial <|
  zm_ac trivial <|
  zm_ac trivial <|
  zm_ac (zm_jp rfl) <|
  zm_ac trivial <|
  zm_ac zk_get_NameTree_10 <|
  zm_ac trivial <|
  zm_ac trivial <|
  zm_ac trivial <|
  zm_ac trivial <|
  zm_ac trivial <|
  zm_ac trivial <|
  zm_ac trivial <|
  zm_ac ⟨zk_virt_NameTree_54, by decide, by decide⟩ <|
  zm_ac trivial <|
  zm_ac (zm_jp rfl) <|
  zm_ac trivial <|
  zm_ac zk_get_NameTree_10 <|
  zm_ac zk_get_NameTree_58 <|
  zm_ac trivial <|
  zm_an
set_option maxRecDepth 100000 in
set_option maxHeartbeats 4000000 in
theorem zs_47 : ∀ q ∈ zc47, zm_rs 47 q.1 q.2.1 q.2.2.2.1 q.2.2.2.2.1 q.2.2.2.2.2 :=
  zm_ac trivial <|
  zm_ac (zm_jp rfl) <|
  zm_ac trivial <|
  zm_ac trivial <|
  zm_ac (zm_jp rfl) <|
  zm_ac trivial <|
  zm_ac trivial <|
  zm_ac (zm_jp rfl) <|
  zm_ac trivial <|
  zm_ac trivial <|
  zm_ac (zm_jp rfl) <|
  zm_ac trivial <|
  zm_ac zk_get_NameTree_10 <|
  zm_ac trivial <|
  zm_ac ⟨zk_virt_NameTree_50, by decide, by decide⟩ <|
  zm_ac (zm_jp rfl) <|
  zm_ac trivial <|
  zm_ac trivial <|
  zm_ac trivial <|
  zm_ac trivial <|
  zm_ac trivial <|
  zm_ac trivial <|
  zm_ac (zm_jp rfl) <|
  zm_ac trivial <|
  zm_ac zk_get_NameTree_10 <|
  zm_ac trivial <|
  zm_ac trivial <|
  zm_ac ⟨zk_virt_NameTree_54, by decide, by decide⟩ <|
  zm_ac trivial <|
  zm_ac (zm_jp rfl) <|
  zm_ac trivial <|
  zm_ac zk_get_NameTree_10 <|
  zm_ac zk_get_NameTree_58 <|
  zm_ac trivial <|
  zm_an
set_option maxRecDepth 100000 in
set_option maxHeartbeats 4000000 in
theorem zs_48 : ∀ q ∈ zc48, zm_rs 48 q.1 q.2.1 q.2.2.2.1 q.2.2.2.2.1 q.2.2.2.2.2 :=
  zm_ac trivial <|
  zm_ac zk_get_NameTree_19 <|
  zm_ac ⟨zk_virt_NameTree_61, by decide, by decide⟩ <|
  zm_ac trivial <|
  zm_ac trivial <|
  zm_ac trivial <|
  zm_ac (zm_jp rfl) <|
  zm_ac trivial <|
  zm_ac trivial <|
  zm_ac (zm_jp rfl) <|
  zm_ac trivial <|
  zm_ac trivial <|
  zm_ac trivial <|
  zm_ac trivial <|
  zm_ac (zm_rp_any zk_put_NameTree_46) <|
  zm_ac trivial <|
  zm_ac trivial <|
  zm_ac trivial <|
  zm_ac trivial <|
  zm_an
set_option maxRecDepth 100000 in
set_option maxHeartbeats 4000000 in
theorem zs_49 : ∀ q ∈ zc49, zm_rs 49 q.1 q.2.1 q.2.2.2.1 q.2.2.2.2.1 q.2.2.2.2.2 :=
  zm_ac trivial <|
  zm_ac ⟨zk_virt_NameTree_65, by decide, by decide⟩ <|
  zm_ac trivial <|
  zm_ac trivial <|
  zm_ac trivial <|
  zm_ac (zm_jp rfl) <|
  zm_ac trivial <|
  zm_ac trivial <|
  zm_ac (zm_jp rfl) <|
  zm_ac trivial <|
  zm_ac trivial <|
  zm_ac trivial <|
  zm_ac (zm_jp rfl) <|
  zm_ac trivial <|
  zm_ac trivial <|
  zm_ac trivial <|
  zm_ac zk_get_NameTree_39 <|
  zm_ac zk_get_NameTree_68 <|
  zm_ac (zm_jp rfl) <|
  zm_ac trivial <|
  zm_ac trivial <|
  zm_ac trivial <|
  zm_ac zk_get_NameTree_19 <|
  zm_ac ⟨zk_virt_NameTree_71, by decide, by decide⟩ <|
  zm_ac trivial <|
  zm_ac trivial <|
  zm_ac (zm_jp rfl) <|
  zm_ac trivial <|
  zm_ac trivial <|
  zm_ac zk_get_NameTree_39 <|
  zm_ac zk_get_NameTree_75 <|
  zm_ac trivial <|
  zm_ac ⟨zk_virt_NameTree_78, by decide, by decide⟩ <|
  zm_ac (zm_jp rfl) <|
  zm_ac trivial <|
  zm_ac trivial <|
  zm_ac trivial <|
  zm_ac trivial <|
  zm_ac ⟨zk_virt_NameTree_82, by decide, by decide⟩ <|
  zm_ac trivial <|
  zm_ac zk_get_NameTree_26 <|
  zm_ac trivial <|
  zm_ac trivial <|
  zm_ac zk_get_NameTree_39 <|
  zm_ac ⟨zk_virt_NameTree_88, by decide, by decide⟩ <|
  zm_ac trivial <|
  zm_ac zk_get_NameTree_92 <|
  zm_ac trivial <|
  zm_an
set_option maxRecDepth 100000 in
set_option maxHeartbeats 4000000 in
theorem zs_50 : ∀ q ∈ zc50, zm_rs 50 q.1 q.2.1 q.2.2.2.1 q.2.2.2.2.1 q.2.2.2.2.2 :=
  zm_ac trivial <|
  zm_ac trivial <|
  zm_ac ⟨zk_virt_NameTree_95, by decide, by decide⟩ <|
  zm_ac trivial <|
  zm_ac trivial <|
  zm_ac (zm_jp rfl) <|
  zm_ac trivial <|
  zm_ac trivial <|
  zm_ac trivial <|
  zm_ac zk_get_NameTree_39 <|
  zm_ac zk_get_NameTree_68 <|
  zm_ac trivial <|
  zm_ac trivial <|
  zm_ac (zm_jp rfl) <|
  zm_ac trivial <|
  zm_ac trivial <|
  zm_ac trivial <|
  zm_ac zk_get_NameTree_99 <|
  zm_ac trivial <|
  zm_ac (zm_jp rfl) <|
  zm_ac trivial <|
  zm_ac trivial <|
  zm_ac trivial <|
  zm_ac zk_get_NameTree_43 <|
  zm_ac zk_get_NameTree_68 <|
  zm_ac (zm_jp rfl) <|
  zm_ac trivial <|
  zm_ac trivial <|
  zm_ac trivial <|
  zm_ac trivial <|
  zm_ac zk_get_NameTree_43 <|
  zm_ac zk_get_NameTree_75 <|
  zm_ac trivial <|
  zm_ac ⟨zk_virt_NameTree_78, by decide, by decide⟩ <|
  zm_ac (zm_jp rfl) <|
  zm_ac trivial <|
  zm_ac trivial <|
  zm_ac trivial <|
  zm_ac zk_get_NameTree_26 <|
  zm_ac trivial <|
  zm_ac trivial <|
  zm_ac zk_get_NameTree_43 <|
  zm_ac ⟨zk_virt_NameTree_88, by decide, by decide⟩ <|
  zm_ac trivial <|
  zm_ac zk_get_NameTree_92 <|
  zm_ac trivial <|
  zm_an
set_option maxRecDepth 100000 in
set_option maxHeartbeats 4000000 in
theorem zs_51 : ∀ q ∈ zc51, zm_rs 51 q.1 q.2.1 q.2.2.2.1 q.2.2.2.2.1 q.2.2.2.2.2 :=
  zm_ac trivial <|
  zm_ac zk_get_NameTree_10 <|
  zm_ac ⟨zk_virt_NameTree_102, by decide, by decide⟩ <|
  zm_ac trivial <|
  zm_ac trivial <|
  zm_ac zk_get_NameTree_10 <|
  zm_ac trivial <|
  zm_ac ⟨zk_virt_NameTree_105, by decide, by decide⟩ <|
  zm_ac trivial <|
  zm_ac trivial <|
  zm_ac trivial <|
  zm_ac trivial <|
  zm_ac trivial <|
  zm_ac trivial <|
  zm_ac trivial <|
  zm_ac trivial <|
  zm_ac (zm_jp rfl) <|
  zm_ac trivial <|
  zm_ac trivial <|
  zm_ac (zm_jp rfl) <|
  zm_ac trivial <|
  zm_ac trivial <|
  zm_ac (zm_jp rfl) <|
  zm_ac trivial <|
  zm_ac trivial <|
  zm_ac trivial <|
  zm_ac zk_get_NameTree_39 <|
  zm_ac trivial <|
  zm_ac zk_get_NameTree_10 <|
  zm_ac zk_get_NameTree_109 <|
  zm_ac trivial <|
  zm_ac trivial <|
  zm_ac ⟨zk_virt_NameTree_113, by decide, by decide⟩ <|
  zm_ac trivial <|
  zm_ac trivial <|
  zm_ac (zm_jp rfl) <|
  zm_ac trivial <|
  zm_ac trivial <|
  zm_ac trivial <|
  zm_ac zk_get_NameTree_39 <|
  zm_ac zk_get_NameTree_68 <|
  zm_ac (zm_jp rfl) <|
  zm_ac trivial <|
  zm_ac trivial <|
  zm_ac trivial <|
  zm_ac zk_get_NameTree_19 <|
  zm_ac ⟨zk_virt_NameTree_71, by decide, by decide⟩ <|
  zm_ac trivial <|
  zm_ac trivial <|
  zm_ac (zm_jp rfl) <|
  zm_ac trivial <|
  zm_ac trivial <|
  zm_ac zk_get_NameTree_39 <|
  zm_ac zk_get_NameTree_75 <|
  zm_ac trivial <|
  zm_ac (Or.inr (Or.inr (Or.inr ⟨zk_stat_NameTree_117, by decide, by decide⟩))) <|
  zm_ac ⟨zk_virt_NameTree_78, by decide, by decide⟩ <|
  zm_ac (zm_jp rfl) <|
  zm_ac trivial <|
  zm_ac trivial <|
  zm_ac trivial <|
  zm_ac trivial <|
  zm_ac ⟨zk_virt_NameTree_82, by decide, by decide⟩ <|
  zm_ac trivial <|
  zm_ac trivial <|
  zm_ac zk_get_NameTree_10 <|
  zm_ac zk_get_NameTree_109 <|
  zm_ac trivial <|
  zm_ac trivial <|
  zm_ac trivial <|
  zm_ac trivial <|
  zm_ac ⟨zk_virt_NameTree_120, by decide, by decide⟩ <|
  zm_ac trivial <|
  zm_ac zk_get_NameTree_26 <|
  zm_ac trivial <|
  zm_ac trivial <|
  zm_ac zk_get_NameTree_39 <|
  zm_ac ⟨zk_virt_NameTree_88, by decide, by decide⟩ <|
  zm_ac trivial <|
  zm_ac zk_get_NameTree_92 <|
  zm_ac trivial <|
  zm_an
set_option maxRecDepth 100000 in
set_option maxHeartbeats 4000000 in
theorem zs_52 : ∀ q ∈ zc52, zm_rs 52 q.1 q.2.1 q.2.2.2.1 q.2.2.2.2.1 q.2.2.2.2.2 :=
  zm_ac trivial <|
  zm_ac ⟨zk_virt_NameTree_65, by decide, by decide⟩ <|
  zm_ac trivial <|
  zm_ac trivial <|
  zm_ac (zm_jp rfl) <|
  zm_ac trivial <|
  zm_ac trivial <|
  zm_ac trivial <|
  zm_ac zk_get_NameTree_39 <|
  zm_ac zk_get_NameTree_68 <|
  zm_ac trivial <|
  zm_ac trivial <|
  zm_ac (zm_jp rfl) <|
  zm_ac trivial <|
  zm_ac trivial <|
  zm_ac trivial <|
  zm_ac zk_get_NameTree_99 <|
  zm_ac trivial <|
  zm_ac (zm_jp rfl) <|
  zm_ac trivial <|
  zm_ac trivial <|
  zm_ac trivial <|
  zm_ac trivial <|
  zm_ac zk_get_NameTree_39 <|
  zm_ac zk_get_NameTree_124 <|
  zm_ac ⟨zk_virt_NameTree_128, by decide, by decide⟩ <|
  zm_ac trivial <|
  zm_ac zk_get_NameTree_92 <|
  zm_ac trivial <|
  zm_an
set_option maxRecDepth 100000 in
set_option maxHeartbeats 4000000 in
theorem zs_53 : ∀ q ∈ zc53, zm_rs 53 q.1 q.2.1 q.2.2.2.1 q.2.2.2.2.1 q.2.2.2.2.2 :=
  zm_ac trivial <|
  zm_ac ⟨zk_virt_NameTree_65, by decide, by decide⟩ <|
  zm_ac trivial <|
  zm_ac trivial <|
  zm_ac (zm_jp rfl) <|
  zm_ac trivial <|
  zm_ac trivial <|
  zm_ac trivial <|
  zm_ac zk_get_NameTree_39 <|
  zm_ac zk_get_NameTree_68 <|
  zm_ac trivial <|
  zm_ac trivial <|
  zm_ac (zm_jp rfl) <|
  zm_ac trivial <|
  zm_ac trivial <|
  zm_ac trivial <|
  zm_ac zk_get_NameTree_99 <|
  zm_ac trivial <|
  zm_ac (zm_jp rfl) <|
  zm_ac trivial <|
  zm_ac trivial <|
  zm_ac trivial <|
  zm_ac zk_get_NameTree_132 <|
  zm_ac (zm_jp rfl) <|
  zm_ac trivial <|
  zm_ac trivial <|
  zm_ac trivial <|
  zm_ac trivial <|
  zm_ac zk_get_NameTree_39 <|
  zm_ac zk_get_NameTree_124 <|
  zm_ac ⟨zk_virt_NameTree_128, by decide, by decide⟩ <|
  zm_ac trivial <|
  zm_ac zk_get_NameTree_92 <|
  zm_ac trivial <|
  zm_an
set_option maxRecDepth 100000 in
set_option maxHeartbeats 4000000 in
theorem zs_54 : ∀ q ∈ zc54, zm_rs 54 q.1 q.2.1 q.2.2.2.1 q.2.2.2.2.1 q.2.2.2.2.2 :=
  zm_ac trivial <|
  zm_ac trivial <|
  zm_ac ⟨zk_virt_NameTree_95, by decide, by decide⟩ <|
  zm_ac trivial <|
  zm_ac trivial <|
  zm_ac (zm_jp rfl) <|
  zm_ac trivial <|
  zm_ac trivial <|
  zm_ac trivial <|
  zm_ac zk_get_NameTree_39 <|
  zm_ac zk_get_NameTree_68 <|
  zm_ac trivial <|
  zm_ac trivial <|
  zm_ac (zm_jp rfl) <|
  zm_ac trivial <|
  zm_ac trivial <|
  zm_ac trivial <|
  zm_ac zk_get_NameTree_43 <|
  zm_ac zk_get_NameTree_68 <|
  zm_ac trivial <|
  zm_ac trivial <|
  zm_ac trivial <|
  zm_ac (zm_jp rfl) <|
  zm_ac trivial <|
  zm_ac zk_get_NameTree_92 <|
  zm_ac trivial <|
  zm_ac trivial <|
  zm_ac zk_get_NameTree_99 <|
  zm_ac trivial <|
  zm_ac (zm_jp rfl) <|
  zm_ac trivial <|
  zm_ac zk_get_NameTree_43 <|
  zm_ac zk_get_NameTree_75 <|
  zm_ac trivial <|
  zm_ac (Or.inr (Or.inr (Or.inr ⟨zk_stat_NameTree_135, by decide, by decide⟩))) <|
  zm_ac (zm_jp rfl) <|
  zm_ac trivial <|
  zm_ac trivial <|
  zm_ac trivial <|
  zm_ac (zm_jp rfl) <|
  zm_ac trivial <|
  zm_ac ⟨zk_virt_NameTree_139, by decide, by decide⟩ <|
  zm_ac (zm_jp rfl) <|
  zm_ac trivial <|
  zm_ac trivial <|
  zm_ac (Or.inr (Or.inr (Or.inr ⟨zk_stat_NameTree_142, by decide, by decide⟩))) <|
  zm_ac trivial <|
  zm_ac trivial <|
  zm_ac (zm_jp rfl) <|
  zm_ac trivial <|
  zm_ac trivial <|
  zm_ac trivial <|
  zm_ac trivial <|
  zm_ac zk_get_NameTree_43 <|
  zm_ac zk_get_NameTree_124 <|
  zm_ac ⟨zk_virt_NameTree_128, by decide, by decide⟩ <|
  zm_ac trivial <|
  zm_ac zk_get_NameTree_26 <|
  zm_ac trivial <|
  zm_ac zk_get_NameTree_39 <|
  zm_ac zk_get_NameTree_124 <|
  zm_ac ⟨zk_virt_NameTree_146, by decide, by decide⟩ <|
  zm_ac trivial <|
  zm_ac zk_get_NameTree_26 <|
  zm_ac trivial <|
  zm_ac trivial <|
  zm_ac zk_get_NameTree_43 <|
  zm_ac ⟨zk_virt_NameTree_88, by decide, by decide⟩ <|
  zm_ac trivial <|
  zm_ac zk_get_NameTree_92 <|
  zm_ac trivial <|
  zm_an
set_option maxRecDepth 100000 in
set_option maxHeartbeats 4000000 in
theorem zs_55 : ∀ q ∈ zc55, zm_rs 55 q.1 q.2.1 q.2.2.2.1 q.2.2.2.2.1 q.2.2.2.2.2 :=
  zm_ac trivial <|
  zm_ac trivial <|
  zm_ac ⟨zk_virt_NameTree_149, by decide, by decide⟩ <|
  zm_ac trivial <|
  zm_ac trivial <|
  zm_ac (zm_jp rfl) <|
  zm_ac trivial <|
  zm_ac trivial <|
  zm_ac trivial <|
  zm_ac zk_get_NameTree_39 <|
  zm_ac zk_get_NameTree_68 <|
  zm_ac (zm_jp rfl) <|
  zm_ac trivial <|
  zm_ac (zm_jp rfl) <|
  zm_ac trivial <|
  zm_ac zk_get_NameTree_39 <|
  zm_ac zk_get_NameTree_68 <|
  zm_ac zk_get_NameTree_92 <|
  zm_ac trivial <|
  zm_an
set_option maxRecDepth 100000 in
set_option maxHeartbeats 4000000 in
theorem zs_56 : ∀ q ∈ zc56, zm_rs 56 q.1 q.2.1 q.2.2.2.1 q.2.2.2.2.1 q.2.2.2.2.2 :=
  zm_ac trivial <|
  zm_ac trivial <|
  zm_ac ⟨zk_virt_NameTree_149, by decide, by decide⟩ <|
  zm_ac trivial <|
  zm_ac trivial <|
  zm_ac (zm_jp rfl) <|
  zm_ac trivial <|
  zm_ac trivial <|
  zm_ac trivial <|
  zm_ac zk_get_NameTree_39 <|
  zm_ac zk_get_NameTree_68 <|
  zm_ac trivial <|
  zm_ac trivial <|
  zm_ac (zm_jp rfl) <|
  zm_ac trivial <|
  zm_ac trivial <|
  zm_ac trivial <|
  zm_ac zk_get_NameTree_99 <|
  zm_ac trivial <|
  zm_ac (zm_jp rfl) <|
  zm_ac trivial <|
  zm_ac zk_get_NameTree_152 <|
  zm_ac trivial <|
  zm_ac (zm_jp rfl) <|
  zm_ac trivial <|
  zm_ac trivial <|
  zm_ac trivial <|
  zm_ac trivial <|
  zm_ac zk_get_NameTree_152 <|
  zm_ac trivial <|
  zm_ac trivial <|
  zm_ac (zm_rp_any zk_put_NameTree_152) <|
  zm_ac trivial <|
  zm_ac zk_get_NameTree_92 <|
  zm_ac trivial <|
  zm_an
set_option maxRecDepth 100000 in
set_option maxHeartbeats 4000000 in
theorem zs_57 : ∀ q ∈ zc57, zm_rs 57 q.1 q.2.1 q.2.2.2.1 q.2.2.2.2.1 q.2.2.2.2.2 :=
  zm_ac trivial <|
  zm_ac zk_get_NameTree_19 <|
  zm_ac trivial <|
  zm_ac ⟨zk_virt_NameTree_155, by decide, by decide⟩ <|
  zm_ac trivial <|
  zm_ac trivial <|
  zm_ac (zm_jp rfl) <|
  zm_ac trivial <|
  zm_ac zk_get_NameTree_152 <|
  zm_ac trivial <|
  zm_ac (zm_jp rfl) <|
  zm_ac trivial <|
  zm_ac trivial <|
  zm_ac trivial <|
  zm_ac trivial <|
  zm_ac zk_get_NameTree_152 <|
  zm_ac trivial <|
  zm_ac trivial <|
  zm_ac (zm_rp_any zk_put_NameTree_152) <|
  zm_ac trivial <|
  zm_ac zk_get_NameTree_159 <|
  zm_ac trivial <|
  zm_ac trivial <|
  zm_ac ⟨zk_virt_NameTree_161, by decide, by decide⟩ <|
  zm_ac trivial <|
  zm_ac trivial <|
  zm_an
set_option maxRecDepth 100000 in
set_option maxHeartbeats 4000000 in
theorem zs_58 : ∀ q ∈ zc58, zm_rs 58 q.1 q.2.1 q.2.2.2.1 q.2.2.2.2.1 q.2.2.2.2.2 :=
  zm_ac trivial <|
  zm_ac zk_get_NameTree_19 <|
  zm_ac trivial <|
  zm_ac ⟨zk_virt_NameTree_155, by decide, by decide⟩ <|
  zm_ac trivial <|
  zm_ac trivial <|
  zm_ac (zm_jp rfl) <|
  zm_ac trivial <|
  zm_ac trivial <|
  zm_ac trivial <|
  zm_ac (zm_tsw (by decide) (by decide) (by decide) (by decide)) <|
  zm_ac trivial <|
  zm_ac zk_get_NameTree_99 <|
  zm_ac trivial <|
  zm_ac trivial <|
  zm_ac zk_get_NameTree_99 <|
  zm_ac trivial <|
  zm_ac (zm_jp rfl) <|
  zm_ac trivial <|
  zm_ac trivial <|
  zm_ac zk_get_NameTree_19 <|
  zm_ac trivial <|
  zm_ac ⟨zk_virt_NameTree_164, by decide, by decide⟩ <|
  zm_ac trivial <|
  zm_ac (zm_jp rfl) <|
  zm_ac trivial <|
  zm_ac zk_get_NameTree_159 <|
  zm_ac trivial <|
  zm_ac trivial <|
  zm_ac ⟨zk_virt_NameTree_168, by decide, by decide⟩ <|
  zm_ac trivial <|
  zm_ac trivial <|
  zm_ac ⟨zk_virt_NameTree_171, by decide, by decide⟩ <|
  zm_ac trivial <|
  zm_ac trivial <|
  zm_ac zk_get_NameTree_174 <|
  zm_ac (zm_jp rfl) <|
  zm_ac trivial <|
  zm_ac (zm_jp rfl) <|
  zm_ac trivial <|
  zm_ac zk_get_NameTree_174 <|
  zm_ac zk_get_NameTree_92 <|
  zm_ac trivial <|
  zm_ac trivial <|
  zm_ac trivial <|
  zm_an
set_option maxRecDepth 100000 in
set_option maxHeartbeats 4000000 in
theorem zs_59 : ∀ q ∈ zc59, zm_rs 59 q.1 q.2.1 q.2.2.2.1 q.2.2.2.2.1 q.2.2.2.2.2 :=
  zm_ac trivial <|
  zm_ac zk_get_NameTree_19 <|
  zm_ac trivial <|
  zm_ac ⟨zk_virt_NameTree_155, by decide, by decide⟩ <|
  zm_ac trivial <|
  zm_ac trivial <|
  zm_ac (zm_jp rfl) <|
  zm_ac trivial <|
  zm_ac (zm_jp rfl) <|
  zm_ac trivial <|
  zm_ac trivial <|
  zm_ac ⟨zk_virt_NameTree_177, by decide, by decide⟩ <|
  zm_ac trivial <|
  zm_an
set_option maxRecDepth 100000 in
set_option maxHeartbeats 4000000 in
theorem zs_60 : ∀ q ∈ zc60, zm_rs 60 q.1 q.2.1 q.2.2.2.1 q.2.2.2.2.1 q.2.2.2.2.2 :=
  zm_ac trivial <|
  zm_ac (zm_tsw (by decide) (by decide) (by decide) (by decide)) <|
  zm_ac trivial <|
  zm_ac zk_get_NameTree_19 <|
  zm_ac ⟨zk_virt_NameTree_180, by decide, by decide⟩ <|
  zm_ac trivial <|
  zm_ac trivial <|
  zm_ac zk_get_NameTree_26 <|
  zm_ac zk_get_NameTree_183 <|
  zm_ac trivial <|
  zm_ac trivial <|
  zm_ac zk_get_NameTree_10 <|
  zm_ac zk_get_NameTree_58 <|
  zm_ac trivial <|
  zm_ac trivial <|
  zm_ac zk_get_NameTree_19 <|
  zm_ac ⟨zk_virt_NameTree_61, by decide, by decide⟩ <|
  zm_ac trivial <|
  zm_ac trivial <|
  zm_ac trivial <|
  zm_an
set_option maxRecDepth 100000 in
set_option maxHeartbeats 4000000 in
theorem zs_61 : ∀ q ∈ zc61, zm_rs 61 q.1 q.2.1 q.2.2.2.1 q.2.2.2.2.1 q.2.2.2.2.2 :=
  zm_ac trivial <|
  zm_ac zk_get_NameTree_10 <|
  zm_ac ⟨zk_virt_NameTree_102, by decide, by decide⟩ <|
  zm_ac trivial <|
  zm_ac trivial <|
  zm_ac zk_get_NameTree_10 <|
  zm_ac trivial <|
  zm_ac ⟨zk_virt_NameTree_186, by decide, by decide⟩ <|
  zm_ac (zm_jp rfl) <|
  zm_ac trivial <|
  zm_ac (zm_jp rfl) <|
  zm_ac trivial <|
  zm_ac zk_get_NameTree_39 <|
  zm_ac trivial <|
  zm_ac zk_get_NameTree_10 <|
  zm_ac zk_get_NameTree_109 <|
  zm_ac trivial <|
  zm_ac trivial <|
  zm_ac trivial <|
  zm_ac ⟨zk_virt_NameTree_189, by decide, by decide⟩ <|
  zm_ac trivial <|
  zm_an
set_option maxRecDepth 100000 in
set_option maxHeartbeats 4000000 in
theorem zs_62 : ∀ q ∈ zc62, zm_rs 62 q.1 q.2.1 q.2.2.2.1 q.2.2.2.2.1 q.2.2.2.2.2 :=
  zm_ac trivial <|
  zm_ac zk_get_NameTree_10 <|
  zm_ac ⟨zk_virt_NameTree_102, by decide, by decide⟩ <|
  zm_ac trivial <|
  zm_ac trivial <|
  zm_ac zk_get_NameTree_10 <|
  zm_ac trivial <|
  zm_ac ⟨zk_virt_NameTree_186, by decide, by decide⟩ <|
  zm_ac (zm_jp rfl) <|
  zm_ac trivial <|
  zm_ac (zm_jp rfl) <|
  zm_ac trivial <|
  zm_ac zk_get_NameTree_39 <|
  zm_ac trivial <|
  zm_ac zk_get_NameTree_10 <|
  zm_ac zk_get_NameTree_109 <|
  zm_ac trivial <|
  zm_ac trivial <|
  zm_ac ⟨zk_virt_NameTree_113, by decide, by decide⟩ <|
  zm_ac trivial <|
  zm_an
set_option maxRecDepth 100000 in
set_option maxHeartbeats 4000000 in
theorem zs_63 : ∀ q ∈ zc63, zm_rs 63 q.1 q.2.1 q.2.2.2.1 q.2.2.2.2.1 q.2.2.2.2.2 :=
  zm_ac trivial <|
  zm_ac zk_get_NameTree_10 <|
  zm_ac ⟨zk_virt_NameTree_102, by decide, by decide⟩ <|
  zm_ac trivial <|
  zm_ac trivial <|
  zm_ac zk_get_NameTree_10 <|
  zm_ac trivial <|
  zm_ac ⟨zk_virt_NameTree_105, by decide, by decide⟩ <|
  zm_ac trivial <|
  zm_ac trivial <|
  zm_ac (zm_jp rfl) <|
  zm_ac trivial <|
  zm_ac trivial <|
  zm_ac trivial <|
  zm_ac (zm_jp rfl) <|
  zm_ac trivial <|
  zm_ac zk_get_NameTree_39 <|
  zm_ac trivial <|
  zm_ac zk_get_NameTree_10 <|
  zm_ac zk_get_NameTree_109 <|
  zm_ac trivial <|
  zm_ac trivial <|
  zm_ac ⟨zk_virt_NameTree_113, by decide, by decide⟩ <|
  zm_ac (zm_jp rfl) <|
  zm_ac trivial <|
  zm_ac zk_get_NameTree_39 <|
  zm_ac trivial <|
  zm_ac zk_get_NameTree_10 <|
  zm_ac zk_get_NameTree_109 <|
  zm_ac trivial <|
  zm_ac trivial <|
  zm_ac trivial <|
  zm_ac ⟨zk_virt_NameTree_189, by decide, by decide⟩ <|
  zm_ac trivial <|
  zm_ac trivial <|
  zm_ac (zm_jp rfl) <|
  zm_ac trivial <|
  zm_ac (zm_jp rfl) <|
  zm_ac trivial <|
  zm_ac zk_get_NameTree_43 <|
  zm_ac trivial <|
  zm_ac zk_get_NameTree_10 <|
  zm_ac zk_get_NameTree_109 <|
  zm_ac trivial <|
  zm_ac trivial <|
  zm_ac trivial <|
  zm_ac trivial <|
  zm_ac ⟨zk_virt_NameTree_113, by decide, by decide⟩ <|
  zm_ac trivial <|
  zm_an
set_option maxRecDepth 100000 in
set_option maxHeartbeats 4000000 in
theorem zs_64 : ∀ q ∈ zc64, zm_rs 64 q.1 q.2.1 q.2.2.2.1 q.2.2.2.2.1 q.2.2.2.2.2 :=
  zm_ac trivial <|
  zm_ac zk_get_NameTree_26 <|
  zm_ac zk_get_NameTree_183 <|
  zm_ac trivial <|
  zm_ac (zm_jp rfl) <|
  zm_ac trivial <|
  zm_ac trivial <|
  zm_ac trivial <|
  zm_ac ⟨zk_virt_NameTree_193, by decide, by decide⟩ <|
  zm_ac (zm_jp rfl) <|
  zm_ac trivial <|
  zm_ac (zm_jp rfl) <|
  zm_ac trivial <|
  zm_ac trivial <|
  zm_an
set_option maxRecDepth 100000 in
set_option maxHeartbeats 4000000 in
theorem zs_65 : ∀ q ∈ zc65, zm_rs 65 q.1 q.2.1 q.2.2.2.1 q.2.2.2.2.1 q.2.2.2.2.2 :=
  zm_ac trivial <|
  zm_ac (zm_jp rfl) <|
  zm_ac trivial <|
  zm_ac (zm_jp rfl) <|
  zm_ac trivial <|
  zm_ac ⟨zk_virt_NameTree_196, by decide, by decide⟩ <|
  zm_ac trivial <|
  zm_ac trivial <|
  zm_ac zk_get_NameTree_19 <|
  zm_ac ⟨zk_virt_NameTree_61, by decide, by decide⟩ <|
  zm_ac trivial <|
  zm_ac trivial <|
  zm_ac trivial <|
  zm_ac trivial <|
  zm_ac trivial <|
  zm_ac zk_get_NameTree_46 <|
  zm_ac (zm_jp rfl) <|
  zm_ac trivial <|
  zm_ac (zm_jp rfl) <|
  zm_ac trivial <|
  zm_ac trivial <|
  zm_an
set_option maxRecDepth 100000 in
set_option maxHeartbeats 4000000 in
theorem zs_66 : ∀ q ∈ zc66, zm_rs 66 q.1 q.2.1 q.2.2.2.1 q.2.2.2.2.1 q.2.2.2.2.2 :=
  zm_ac trivial <|
  zm_ac zk_get_NameTree_39 <|
  zm_ac zk_get_NameTree_75 <|
  zm_ac trivial <|
  zm_ac zk_get_NameTree_43 <|
  zm_ac zk_get_NameTree_75 <|
  zm_ac (zm_jp rfl) <|
  zm_ac trivial <|
  zm_ac (zm_jp rfl) <|
  zm_ac trivial <|
  zm_ac trivial <|
  zm_ac trivial <|
  zm_ac (zm_jp rfl) <|
  zm_ac trivial <|
  zm_ac trivial <|
  zm_ac zk_get_NameTree_43 <|
  zm_ac zk_get_NameTree_75 <|
  zm_ac trivial <|
  zm_ac ⟨zk_virt_NameTree_193, by decide, by decide⟩ <|
  zm_ac (zm_jp rfl) <|
  zm_ac trivial <|
  zm_ac (zm_jp rfl) <|
  zm_ac trivial <|
  zm_ac trivial <|
  zm_an
set_option maxRecDepth 100000 in
set_option maxHeartbeats 4000000 in
theorem zs_67 : ∀ q ∈ zc67, zm_rs 67 q.1 q.2.1 q.2.2.2.1 q.2.2.2.2.1 q.2.2.2.2.2 :=
  zm_ac trivial <|
  zm_ac zk_get_NameTree_99 <|
  zm_ac trivial <|
  zm_ac (zm_jp rfl) <|
  zm_ac trivial <|
  zm_ac zk_get_NameTree_99 <|
  zm_ac trivial <|
  zm_ac (zm_jp rfl) <|
  zm_ac trivial <|
  zm_ac trivial <|
  zm_ac trivial <|
  zm_ac zk_get_NameTree_99 <|
  zm_ac trivial <|
  zm_ac (zm_jp rfl) <|
  zm_ac trivial <|
  zm_ac zk_get_NameTree_99 <|
  zm_ac trivial <|
  zm_ac (zm_jp rfl) <|
  zm_ac trivial <|
  zm_ac trivial <|
  zm_ac trivial <|
  zm_ac zk_get_NameTree_132 <|
  zm_ac (zm_jp rfl) <|
  zm_ac trivial <|
  zm_ac (zm_jp rfl) <|
  zm_ac trivial <|
  zm_ac trivial <|
  zm_an
set_option maxRecDepth 100000 in
set_option maxHeartbeats 4000000 in
theorem zs_68 : ∀ q ∈ zc68, zm_rs 68 q.1 q.2.1 q.2.2.2.1 q.2.2.2.2.1 q.2.2.2.2.2 :=
  zm_ac trivial <|
  zm_ac trivial <|
  zm_ac trivial <|
  zm_ac trivial <|
  zm_ac trivial <|
  zm_ac trivial <|
  zm_ac (zm_jp rfl) <|
  zm_ac trivial <|
  zm_ac (zm_jp rfl) <|
  zm_ac trivial <|
  zm_ac trivial <|
  zm_ac (zm_jp rfl) <|
  zm_ac trivial <|
  zm_ac trivial <|
  zm_ac trivial <|
  zm_ac zk_get_NameTree_174 <|
  zm_ac trivial <|
  zm_ac trivial <|
  zm_ac (zm_jp rfl) <|
  zm_ac trivial <|
  zm_ac trivial <|
  zm_an
set_option maxRecDepth 100000 in
set_option maxHeartbeats 4000000 in
theorem zs_69 : ∀ q ∈ zc69, zm_rs 69 q.1 q.2.1 q.2.2.2.1 q.2.2.2.2.1 q.2.2.2.2.2 :=
  zm_ac trivial <|
  zm_ac (zm_jp rfl) <|
  zm_ac trivial <|
  zm_ac trivial <|
  zm_ac zk_get_NameTree_199 <|
  zm_ac trivial <|
  zm_ac trivial <|
  zm_ac zk_get_NameTree_26 <|
  zm_ac trivial <|
  zm_ac ⟨zk_virt_NameTree_146, by decide, by decide⟩ <|
  zm_ac trivial <|
  zm_ac (zm_jp rfl) <|
  zm_ac trivial <|
  zm_ac ⟨zk_virt_NameTree_161, by decide, by decide⟩ <|
  zm_ac trivial <|
  zm_an
set_option maxRecDepth 100000 in
set_option maxHeartbeats 4000000 in
theorem zs_70 : ∀ q ∈ zc70, zm_rs 70 q.1 q.2.1 q.2.2.2.1 q.2.2.2.2.1 q.2.2.2.2.2 :=
  zm_ac trivial <|
  zm_ac trivial <|
  zm_ac (zm_jp rfl) <|
  zm_ac trivial <|
  zm_ac (zm_jp rfl) <|
  zm_ac trivial <|
  zm_ac trivial <|
  zm_an
set_option maxRecDepth 100000 in
set_option maxHeartbeats 4000000 in
theorem zs_71 : ∀ q ∈ zc71, zm_rs 71 q.1 q.2.1 q.2.2.2.1 q.2.2.2.2.1 q.2.2.2.2.2 :=
  zm_ac trivial <|
  zm_ac trivial <|
  zm_ac (zm_jp rfl) <|
  zm_ac trivial <|
  zm_ac (zm_jp rfl) <|
  zm_ac trivial <|
  zm_ac trivial <|
  zm_an
set_option maxRecDepth 100000 in
set_option maxHeartbeats 4000000 in
theorem zs_72 : ∀ q ∈ zc72, zm_rs 72 q.1 q.2.1 q.2.2.2.1 q.2.2.2.2.1 q.2.2.2.2.2 :=
  zm_ac trivial <|
  zm_ac (zm_jp rfl) <|
  zm_ac trivial <|
  zm_ac (zm_jp rfl) <|
  zm_ac trivial <|
  zm_ac (zm_jp rfl) <|
  zm_ac trivial <|
  zm_ac trivial <|
  zm_ac trivial <|
  zm_ac (zm_jp rfl) <|
  zm_ac trivial <|
  zm_ac (zm_jp rfl) <|
  zm_ac trivial <|
  zm_ac trivial <|
  zm_ac trivial <|
  zm_ac trivial <|
  zm_ac trivial <|
  zm_ac trivial <|
  zm_ac trivial <|
  zm_ac trivial <|
  zm_ac trivial <|
  zm_ac (Or.inr (Or.inl ⟨rfl, zk_min_NameTree_204, by decide, by decide⟩)) <|
  zm_ac (Or.inr (Or.inl ⟨rfl, zk_min_NameTree_204, by decide, by decide⟩)) <|
  zm_ac trivial <|
  zm_ac trivial <|
  zm_ac trivial <|
  zm_ac trivial <|
  zm_ac trivial <|
  zm_ac trivial <|
  zm_ac (Or.inr (Or.inr (Or.inl ⟨rfl, zk_copy_NameTree_210, by decide, by decide⟩))) <|
  zm_ac trivial <|
  zm_ac trivial <|
  zm_an
set_option maxRecDepth 100000 in
set_option maxHeartbeats 4000000 in
theorem zs_73 : ∀ q ∈ zc73, zm_rs 73 q.1 q.2.1 q.2.2.2.1 q.2.2.2.2.1 q.2.2.2.2.2 :=
  zm_ac trivial <|
  zm_ac (Or.inl ⟨rfl, zk_obj_NameTreeModel_1, by decide, by decide⟩) <|
  zm_ac trivial <|
  zm_ac trivial <|
  zm_ac (zm_rp_any zk_put_NameTreeModel_7) <|
  zm_ac trivial <|
  zm_ac trivial <|
  zm_ac ⟨by decide, by decide, rfl, (zt_m3 87 rfl rfl), rfl, by decide⟩ <|
  zm_ac zk_putF_NameTreeModel_13 <|
  zm_ac trivial <|
  zm_ac trivial <|
  zm_ac ⟨by decide, by decide, rfl, (zt_m3 87 rfl rfl), rfl, by decide⟩ <|
  zm_ac zk_putF_NameTreeModel_17 <|
  zm_ac trivial <|
  zm_ac trivial <|
  zm_ac ⟨by decide, by decide, rfl, (zt_m3 87 rfl rfl), rfl, by decide⟩ <|
  zm_ac zk_putF_NameTreeModel_20 <|
  zm_ac trivial <|
  zm_ac trivial <|
  zm_ac ⟨by decide, by decide, rfl, (zt_m3 87 rfl rfl), rfl, by decide⟩ <|
  zm_ac zk_putF_NameTreeModel_23 <|
  zm_ac trivial <|
  zm_ac trivial <|
  zm_ac ⟨by decide, by decide, rfl, (zt_m3 87 rfl rfl), rfl, by decide⟩ <|
  zm_ac zk_putF_NameTreeModel_26 <|
  zm_ac trivial <|
  zm_ac trivial <|
  zm_ac ⟨by decide, by decide, rfl, (zt_m3 87 rfl rfl), rfl, by decide⟩ <|
  zm_ac zk_putF_NameTreeModel_29 <|
  zm_ac trivial <|
  zm_ac ⟨_, _, rfl, zk_ldc_NameTreeModel_32⟩ <|
  zm_ac ⟨by decide, by decide, rfl, (zt_m1 35 rfl rfl), rfl, by decide⟩ <|
  zm_ac zk_putF_NameTreeModel_33 <|
  zm_ac trivial <|
  zm_ac trivial <|
  zm_ac ⟨by decide, by decide, rfl, (zt_m3 87 rfl rfl), rfl, by decide⟩ <|
  zm_ac zk_putF_NameTreeModel_37 <|
  zm_ac trivial <|
  zm_ac trivial <|
  zm_ac ⟨by decide, by decide, rfl, (zt_m3 87 rfl rfl), rfl, by decide⟩ <|
  zm_ac zk_putF_NameTreeModel_40 <|
  zm_ac trivial <|
  zm_ac trivial <|
  zm_ac ⟨by decide, by decide, rfl, (zt_m3 87 rfl rfl), rfl, by decide⟩ <|
  zm_ac zk_putF_NameTreeModel_43 <|
  zm_ac trivial <|
  zm_ac trivial <|
  zm_ac ⟨by decide, by decide, rfl, (zt_m1 35 rfl rfl), rfl, by decide⟩ <|
  zm_ac zk_putF_NameTreeModel_46 <|
  zm_ac trivial <|
  zm_ac ⟨_, _, rfl, zk_ldc_NameTreeModel_49⟩ <|
  zm_ac ⟨by decide, by decide, rfl, (zt_m3 87 rfl rfl), rfl, by decide⟩ <|
  zm_ac zk_putF_NameTreeModel_50 <|
  zm_ac trivial <|
  zm_ac zk_get_NameTreeModel_20 <|
  zm_ac trivial <|
  zm_ac trivial <|
  zm_ac trivial <|
  zm_ac trivial <|
  zm_an
set_option maxRecDepth 100000 in
set_option maxHeartbeats 4000000 in
theorem zs_74 : ∀ q ∈ zc74, zm_rs 74 q.1 q.2.1 q.2.2.2.1 q.2.2.2.2.1 q.2.2.2.2.2 :=
  zm_ac trivial <|
  zm_ac trivial <|
  zm_ac (zm_jp rfl) <|
  zm_ac trivial <|
  zm_ac trivial <|
  zm_ac (zm_jp rfl) <|
  zm_ac trivial <|
  zm_ac zk_get_NameTreeModel_53 <|
  zm_ac trivial <|
  zm_ac trivial <|
  zm_ac trivial <|
  zm_ac (zm_jp rfl) <|
  zm_ac trivial <|
  zm_ac trivial <|
  zm_ac trivial <|
  zm_ac trivial <|
  zm_ac trivial <|
  zm_ac trivial <|
  zm_ac trivial <|
  zm_ac (zm_jp rfl) <|
  zm_ac trivial <|
  zm_ac zk_get_NameTreeModel_13 <|
  zm_ac trivial <|
  zm_ac zk_get_NameTreeModel_53 <|
  zm_ac trivial <|
  zm_ac trivial <|
  zm_ac trivial <|
  zm_ac trivial <|
  zm_ac trivial <|
  zm_ac ⟨_, _, rfl, zk_ldc2_NameTreeModel_56⟩ <|
  zm_ac trivial <|
  zm_ac trivial <|
  zm_ac trivial <|
  zm_ac trivial <|
  zm_ac trivial <|
  zm_ac zk_get_NameTreeModel_53 <|
  zm_ac trivial <|
  zm_ac trivial <|
  zm_ac (zm_rp_any zk_put_NameTreeModel_53) <|
  zm_ac trivial <|
  zm_ac (zm_jp rfl) <|
  zm_ac trivial <|
  zm_ac zk_get_NameTreeModel_53 <|
  zm_ac trivial <|
  zm_an
set_option maxRecDepth 100000 in
set_option maxHeartbeats 4000000 in
theorem zs_75 : ∀ q ∈ zc75, zm_rs 75 q.1 q.2.1 q.2.2.2.1 q.2.2.2.2.1 q.2.2.2.2.2 :=
  zm_ac trivial <|
  zm_ac (zm_jp rfl) <|
  zm_ac trivial <|
  zm_ac trivial <|
  zm_ac (zm_jp rfl) <|
  zm_ac trivial <|
  zm_ac trivial <|
  zm_ac (zm_jp rfl) <|
  zm_ac trivial <|
  zm_ac trivial <|
  zm_ac (zm_jp rfl) <|
  zm_ac trivial <|
  zm_ac zk_get_NameTreeModel_53 <|
  zm_ac trivial <|
  zm_ac trivial <|
  zm_ac trivial <|
  zm_ac (zm_jp rfl) <|
  zm_ac trivial <|
  zm_ac trivial <|
  zm_ac trivial <|
  zm_ac trivial <|
  zm_ac trivial <|
  zm_ac trivial <|
  zm_ac (zm_jp rfl) <|
  zm_ac trivial <|
  zm_ac zk_get_NameTreeModel_13 <|
  zm_ac trivial <|
  zm_ac zk_get_NameTreeModel_53 <|
  zm_ac trivial <|
  zm_ac trivial <|
  zm_ac trivial <|
  zm_ac trivial <|
  zm_ac trivial <|
  zm_ac (zm_jp rfl) <|
  zm_ac trivial <|
  zm_ac trivial <|
  zm_ac zk_get_NameTreeModel_53 <|
  zm_ac trivial <|
  zm_ac trivial <|
  zm_ac (zm_rp_any zk_put_NameTreeModel_53) <|
  zm_ac trivial <|
  zm_ac zk_get_NameTreeModel_53 <|
  zm_ac trivial <|
  zm_an
set_option maxRecDepth 100000 in
set_option maxHeartbeats 4000000 in
theorem zs_76 : ∀ q ∈ zc76, zm_rs 76 q.1 q.2.1 q.2.2.2.1 q.2.2.2.2.1 q.2.2.2.2.2 :=
  zm_ac trivial <|
  zm_ac trivial <|
  zm_ac zk_get_NameTreeModel_53 <|
  zm_ac (zm_rp_any zk_put_NameTreeModel_58) <|
  zm_ac trivial <|
  zm_ac trivial <|
  zm_ac (zm_rp_any zk_put_NameTreeModel_53) <|
  zm_ac trivial <|
  zm_ac trivial <|
  zm_ac trivial <|
  zm_ac trivial <|
  zm_ac trivial <|
  zm_ac trivial <|
  zm_ac zk_get_NameTreeModel_58 <|
  zm_ac (zm_jp rfl) <|
  zm_ac trivial <|
  zm_ac zk_get_NameTreeModel_17 <|
  zm_ac trivial <|
  zm_ac trivial <|
  zm_ac zk_get_NameTreeModel_13 <|
  zm_ac trivial <|
  zm_ac trivial <|
  zm_ac trivial <|
  zm_ac trivial <|
  zm_ac zk_get_NameTreeModel_17 <|
  zm_ac trivial <|
  zm_ac trivial <|
  zm_ac (zm_jp rfl) <|
  zm_ac trivial <|
  zm_ac trivial <|
  zm_ac (zm_jp rfl) <|
  zm_ac trivial <|
  zm_ac (zm_jp rfl) <|
  zm_ac trivial <|
  zm_ac trivial <|
  zm_ac trivial <|
  zm_ac (zm_jp rfl) <|
  zm_ac trivial <|
  zm_ac trivial <|
  zm_ac trivial <|
  zm_ac trivial <|
  zm_ac trivial <|
  zm_ac trivial <|
  zm_ac zk_get_NameTreeModel_58 <|
  zm_ac (zm_jp rfl) <|
  zm_ac trivial <|
  zm_ac trivial <|
  zm_ac zk_get_NameTreeModel_17 <|
  zm_ac trivial <|
  zm_ac trivial <|
  zm_ac (zm_jp rfl) <|
  zm_ac trivial <|
  zm_ac (zm_jp rfl) <|
  zm_ac trivial <|
  zm_ac trivial <|
  zm_ac trivial <|
  zm_ac trivial <|
  zm_ac (zm_jp rfl) <|
  zm_ac trivial <|
  zm_ac trivial <|
  zm_ac (zm_jp rfl) <|
  zm_ac trivial <|
  zm_ac (zm_jp rfl) <|
  zm_ac trivial <|
  zm_ac trivial <|
  zm_an
set_option maxRecDepth 100000 in
set_option maxHeartbeats 4000000 in
theorem zs_77 : ∀ q ∈ zc77, zm_rs 77 q.1 q.2.1 q.2.2.2.1 q.2.2.2.2.1 q.2.2.2.2.2 :=
  zm_ac trivial <|
  zm_ac trivial <|
  zm_ac (zm_jp rfl) <|
  zm_ac trivial <|
  zm_ac (zm_jp rfl) <|
  zm_ac trivial <|
  zm_ac trivial <|
  zm_an
set_option maxRecDepth 100000 in
set_option maxHeartbeats 4000000 in
theorem zs_78 : ∀ q ∈ zc78, zm_rs 78 q.1 q.2.1 q.2.2.2.1 q.2.2.2.2.1 q.2.2.2.2.2 :=
  zm_ac trivial <|
  zm_ac zk_get_NameTreeModel_20 <|
  zm_ac trivial <|
  zm_ac trivial <|
  zm_ac (zm_jp rfl) <|
  zm_ac trivial <|
  zm_ac trivial <|
  zm_ac trivial <|
  zm_ac zk_get_NameTreeModel_20 <|
  zm_ac trivial <|
  zm_ac trivial <|
  zm_ac trivial <|
  zm_ac (zm_jp rfl) <|
  zm_ac trivial <|
  zm_ac (zm_jp rfl) <|
  zm_ac trivial <|
  zm_ac zk_get_NameTreeModel_20 <|
  zm_ac trivial <|
  zm_ac trivial <|
  zm_ac trivial <|
  zm_ac (zm_jp rfl) <|
  zm_ac trivial <|
  zm_ac zk_get_NameTreeModel_29 <|
  zm_ac trivial <|
  zm_ac trivial <|
  zm_ac trivial <|
  zm_ac (zm_jp rfl) <|
  zm_ac trivial <|
  zm_ac (zm_jp rfl) <|
  zm_ac trivial <|
  zm_ac (zm_jp rfl) <|
  zm_ac trivial <|
  zm_ac zk_get_NameTreeModel_23 <|
  zm_ac trivial <|
  zm_ac trivial <|
  zm_ac (Or.inr (Or.inr (Or.inr ⟨zk_stat_NameTreeModel_61, by decide, by decide⟩))) <|
  zm_ac trivial <|
  zm_an
set_option maxRecDepth 100000 in
set_option maxHeartbeats 4000000 in
theorem zs_79 : ∀ q ∈ zc79, zm_rs 79 q.1 q.2.1 q.2.2.2.1 q.2.2.2.2.1 q.2.2.2.2.2 :=
  zm_ac trivial <|
  zm_ac trivial <|
  zm_ac trivial <|
  zm_ac trivial <|
  zm_ac trivial <|
  zm_ac trivial <|
  zm_ac (zm_jp rfl) <|
  zm_ac trivial <|
  zm_ac trivial <|
  zm_ac trivial <|
  zm_ac ⟨zk_virt_NameTreeModel_65, by decide, by decide⟩ <|
  zm_ac trivial <|
  zm_ac trivial <|
  zm_ac trivial <|
  zm_ac (zm_jp rfl) <|
  zm_ac trivial <|
  zm_ac trivial <|
  zm_an
set_option maxRecDepth 100000 in
set_option maxHeartbeats 4000000 in
theorem zs_80 : ∀ q ∈ zc80, zm_rs 80 q.1 q.2.1 q.2.2.2.1 q.2.2.2.2.1 q.2.2.2.2.2 :=
  zm_ac trivial <|
  zm_ac trivial <|
  zm_ac trivial <|
  zm_ac trivial <|
  zm_ac trivial <|
  zm_ac trivial <|
  zm_ac (zm_jp rfl) <|
  zm_ac trivial <|
  zm_ac trivial <|
  zm_ac zk_get_NameTreeModel_20 <|
  zm_ac trivial <|
  zm_ac trivial <|
  zm_ac (zm_jp rfl) <|
  zm_ac trivial <|
  zm_ac (zm_jp rfl) <|
  zm_ac trivial <|
  zm_ac trivial <|
  zm_ac trivial <|
  zm_ac trivial <|
  zm_ac (zm_jp rfl) <|
  zm_ac trivial <|
  zm_ac trivial <|
  zm_an
set_option maxRecDepth 100000 in
set_option maxHeartbeats 4000000 in
theorem zs_81 : ∀ q ∈ zc81, zm_rs 81 q.1 q.2.1 q.2.2.2.1 q.2.2.2.2.1 q.2.2.2.2.2 :=
  zm_ac trivial <|
  zm_ac trivial <|
  zm_ac trivial <|
  zm_ac trivial <|
  zm_ac trivial <|
  zm_ac trivial <|
  zm_ac zk_get_NameTreeModel_68 <|
  zm_ac (zm_jp rfl) <|
  zm_ac trivial <|
  zm_ac trivial <|
  zm_ac zk_get_NameTreeModel_40 <|
  zm_ac trivial <|
  zm_ac trivial <|
  zm_ac trivial <|
  zm_ac (zm_jp rfl) <|
  zm_ac trivial <|
  zm_ac (zm_jp rfl) <|
  zm_ac trivial <|
  zm_ac trivial <|
  zm_ac trivial <|
  zm_ac trivial <|
  zm_ac (zm_jp rfl) <|
  zm_ac trivial <|
  zm_ac trivial <|
  zm_an
set_option maxRecDepth 100000 in
set_option maxHeartbeats 4000000 in
theorem zs_82 : ∀ q ∈ zc82, zm_rs 82 q.1 q.2.1 q.2.2.2.1 q.2.2.2.2.1 q.2.2.2.2.2 :=
  zm_ac trivial <|
  zm_ac trivial <|
  zm_ac trivial <|
  zm_ac trivial <|
  zm_ac trivial <|
  zm_ac trivial <|
  zm_ac zk_get_NameTreeModel_68 <|
  zm_ac (zm_jp rfl) <|
  zm_ac trivial <|
  zm_ac trivial <|
  zm_ac zk_get_NameTreeModel_37 <|
  zm_ac trivial <|
  zm_ac trivial <|
  zm_ac trivial <|
  zm_ac (zm_jp rfl) <|
  zm_ac trivial <|
  zm_ac (zm_jp rfl) <|
  zm_ac trivial <|
  zm_ac trivial <|
  zm_ac trivial <|
  zm_ac trivial <|
  zm_ac (zm_jp rfl) <|
  zm_ac trivial <|
  zm_ac trivial <|
  zm_an
set_option maxRecDepth 100000 in
set_option maxHeartbeats 4000000 in
theorem zs_83 : ∀ q ∈ zc83, zm_rs 83 q.1 q.2.1 q.2.2.2.1 q.2.2.2.2.1 q.2.2.2.2.2 :=
  zm_ac trivial <|
  zm_ac trivial <|
  zm_ac trivial <|
  zm_ac trivial <|
  zm_ac trivial <|
  zm_ac trivial <|
  zm_ac zk_get_NameTreeModel_68 <|
  zm_ac (zm_jp rfl) <|
  zm_ac trivial <|
  zm_ac zk_get_NameTreeModel_40 <|
  zm_ac trivial <|
  zm_ac trivial <|
  zm_ac trivial <|
  zm_ac (zm_jp rfl) <|
  zm_ac trivial <|
  zm_ac zk_get_NameTreeModel_37 <|
  zm_ac trivial <|
  zm_ac trivial <|
  zm_ac (zm_jp rfl) <|
  zm_ac trivial <|
  zm_ac trivial <|
  zm_ac trivial <|
  zm_ac (zm_jp rfl) <|
  zm_ac trivial <|
  zm_ac trivial <|
  zm_an
set_option maxRecDepth 100000 in
set_option maxHeartbeats 4000000 in
theorem zs_84 : ∀ q ∈ zc84, zm_rs 84 q.1 q.2.1 q.2.2.2.1 q.2.2.2.2.1 q.2.2.2.2.2 :=
  zm_ac trivial <|
  zm_ac zk_get_NameTreeModel_43 <|
  zm_ac trivial <|
  zm_ac trivial <|
  zm_ac trivial <|
  zm_ac (zm_jp rfl) <|
  zm_ac trivial <|
  zm_ac (zm_jp rfl) <|
  zm_ac trivial <|
  zm_ac trivial <|
  zm_ac trivial <|
  zm_ac trivial <|
  zm_ac trivial <|
  zm_ac trivial <|
  zm_ac (zm_jp rfl) <|
  zm_ac trivial <|
  zm_ac (zm_jp rfl) <|
  zm_ac trivial <|
  zm_ac zk_get_NameTreeModel_46 <|
  zm_ac trivial <|
  zm_ac trivial <|
  zm_ac trivial <|
  zm_ac trivial <|
  zm_ac trivial <|
  zm_ac trivial <|
  zm_ac trivial <|
  zm_ac trivial <|
  zm_ac trivial <|
  zm_ac zk_get_NameTreeModel_50 <|
  zm_ac trivial <|
  zm_ac trivial <|
  zm_ac trivial <|
  zm_ac trivial <|
  zm_ac (zm_jp rfl) <|
  zm_ac trivial <|
  zm_ac (zm_jp rfl) <|
  zm_ac trivial <|
  zm_ac trivial <|
  zm_ac trivial <|
  zm_ac (zm_jp rfl) <|
  zm_ac trivial <|
  zm_ac trivial <|
  zm_an
set_option maxRecDepth 100000 in
set_option maxHeartbeats 4000000 in
theorem zs_85 : ∀ q ∈ zc85, zm_rs 85 q.1 q.2.1 q.2.2.2.1 q.2.2.2.2.1 q.2.2.2.2.2 :=
  zm_ac trivial <|
  zm_ac trivial <|
  zm_ac trivial <|
  zm_ac trivial <|
  zm_ac trivial <|
  zm_ac trivial <|
  zm_ac zk_get_NameTreeModel_68 <|
  zm_ac (zm_jp rfl) <|
  zm_ac trivial <|
  zm_ac zk_get_NameTreeModel_37 <|
  zm_ac trivial <|
  zm_ac trivial <|
  zm_ac trivial <|
  zm_ac (zm_jp rfl) <|
  zm_ac trivial <|
  zm_ac trivial <|
  zm_ac trivial <|
  zm_ac trivial <|
  zm_ac ⟨zk_virt_NameTreeModel_71, by decide, by decide⟩ <|
  zm_ac (zm_jp rfl) <|
  zm_ac trivial <|
  zm_ac (zm_jp rfl) <|
  zm_ac trivial <|
  zm_ac trivial <|
  zm_ac trivial <|
  zm_ac (zm_jp rfl) <|
  zm_ac trivial <|
  zm_ac trivial <|
  zm_an
set_option maxRecDepth 100000 in
set_option maxHeartbeats 4000000 in
theorem zs_86 : ∀ q ∈ zc86, zm_rs 86 q.1 q.2.1 q.2.2.2.1 q.2.2.2.2.1 q.2.2.2.2.2 :=
  zm_ac trivial <|
  zm_ac trivial <|
  zm_ac zk_get_NameTreeModel_23 <|
  zm_ac trivial <|
  zm_ac trivial <|
  zm_ac (zm_jp rfl) <|
  zm_ac trivial <|
  zm_ac (Or.inr (Or.inr (Or.inr ⟨zk_stat_NameTreeModel_61, by decide, by decide⟩))) <|
  zm_ac trivial <|
  zm_ac zk_get_NameTreeModel_23 <|
  zm_ac trivial <|
  zm_ac trivial <|
  zm_ac (Or.inr (Or.inr (Or.inr ⟨zk_stat_NameTreeModel_61, by decide, by decide⟩))) <|
  zm_ac trivial <|
  zm_ac (zm_jp rfl) <|
  zm_ac trivial <|
  zm_ac trivial <|
  zm_an
set_option maxRecDepth 100000 in
set_option maxHeartbeats 4000000 in
theorem zs_87 : ∀ q ∈ zc87, zm_rs 87 q.1 q.2.1 q.2.2.2.1 q.2.2.2.2.1 q.2.2.2.2.2 :=
  zm_ac trivial <|
  zm_ac zk_get_NameTreeModel_37 <|
  zm_ac trivial <|
  zm_ac zk_get_NameTreeModel_68 <|
  zm_ac trivial <|
  zm_ac zk_get_NameTreeModel_75 <|
  zm_ac trivial <|
  zm_ac trivial <|
  zm_ac zk_get_NameTreeModel_40 <|
  zm_ac trivial <|
  zm_ac zk_get_NameTreeModel_68 <|
  zm_ac trivial <|
  zm_ac trivial <|
  zm_ac trivial <|
  zm_ac zk_get_NameTreeModel_43 <|
  zm_ac trivial <|
  zm_ac zk_get_NameTreeModel_68 <|
  zm_ac trivial <|
  zm_ac zk_get_NameTreeModel_78 <|
  zm_ac trivial <|
  zm_ac trivial <|
  zm_ac trivial <|
  zm_ac trivial <|
  zm_ac trivial <|
  zm_ac zk_get_NameTreeModel_78 <|
  zm_ac (zm_jp rfl) <|
  zm_ac trivial <|
  zm_ac zk_get_NameTreeModel_46 <|
  zm_ac trivial <|
  zm_ac trivial <|
  zm_ac zk_get_NameTreeModel_68 <|
  zm_ac trivial <|
  zm_ac trivial <|
  zm_ac trivial <|
  zm_ac trivial <|
  zm_ac zk_get_NameTreeModel_50 <|
  zm_ac trivial <|
  zm_ac zk_get_NameTreeModel_81 <|
  zm_ac trivial <|
  zm_ac trivial <|
  zm_ac trivial <|
  zm_ac trivial <|
  zm_ac trivial <|
  zm_ac trivial <|
  zm_ac (zm_jp rfl) <|
  zm_ac trivial <|
  zm_ac trivial <|
  zm_ac zk_get_NameTreeModel_68 <|
  zm_ac trivial <|
  zm_ac trivial <|
  zm_ac (zm_rp_any zk_put_NameTreeModel_68) <|
  zm_ac trivial <|
  zm_ac trivial <|
  zm_ac zk_get_NameTreeModel_75 <|
  zm_ac ⟨zk_virt_NameTreeModel_84, by decide, by decide⟩ <|
  zm_ac trivial <|
  zm_ac trivial <|
  zm_ac zk_get_NameTreeModel_23 <|
  zm_ac trivial <|
  zm_ac zk_get_NameTreeModel_75 <|
  zm_ac trivial <|
  zm_ac trivial <|
  zm_ac zk_get_NameTreeModel_23 <|
  zm_ac trivial <|
  zm_ac zk_get_NameTreeModel_75 <|
  zm_ac trivial <|
  zm_ac (zm_jp rfl) <|
  zm_ac trivial <|
  zm_ac (zm_jp rfl) <|
  zm_ac trivial <|
  zm_ac zk_get_NameTreeModel_23 <|
  zm_ac trivial <|
  zm_ac zk_get_NameTreeModel_75 <|
  zm_ac trivial <|
  zm_ac trivial <|
  zm_ac trivial <|
  zm_an
set_option maxRecDepth 100000 in
set_option maxHeartbeats 4000000 in
theorem zs_88 : ∀ q ∈ zc88, zm_rs 88 q.1 q.2.1 q.2.2.2.1 q.2.2.2.2.1 q.2.2.2.2.2 :=
  zm_ac trivial <|
  zm_ac zk_get_NameTreeModel_40 <|
  zm_ac trivial <|
  zm_ac trivial <|
  zm_ac trivial <|
  zm_ac trivial <|
  zm_ac trivial <|
  zm_ac zk_get_NameTreeModel_68 <|
  zm_ac trivial <|
  zm_ac trivial <|
  zm_ac (zm_rp_any zk_put_NameTreeModel_68) <|
  zm_ac trivial <|
  zm_ac zk_get_NameTreeModel_37 <|
  zm_ac trivial <|
  zm_ac trivial <|
  zm_ac zk_get_NameTreeModel_37 <|
  zm_ac trivial <|
  zm_ac zk_get_NameTreeModel_68 <|
  zm_ac trivial <|
  zm_ac trivial <|
  zm_ac trivial <|
  zm_ac zk_get_NameTreeModel_40 <|
  zm_ac trivial <|
  zm_ac trivial <|
  zm_ac zk_get_NameTreeModel_40 <|
  zm_ac trivial <|
  zm_ac zk_get_NameTreeModel_68 <|
  zm_ac trivial <|
  zm_ac trivial <|
  zm_ac trivial <|
  zm_ac zk_get_NameTreeModel_43 <|
  zm_ac trivial <|
  zm_ac trivial <|
  zm_ac zk_get_NameTreeModel_43 <|
  zm_ac trivial <|
  zm_ac zk_get_NameTreeModel_68 <|
  zm_ac trivial <|
  zm_ac trivial <|
  zm_ac trivial <|
  zm_ac trivial <|
  zm_ac trivial <|
  zm_ac trivial <|
  zm_ac (zm_jp rfl) <|
  zm_ac trivial <|
  zm_ac zk_get_NameTreeModel_46 <|
  zm_ac trivial <|
  zm_ac trivial <|
  zm_ac trivial <|
  zm_ac trivial <|
  zm_ac trivial <|
  zm_ac trivial <|
  zm_ac zk_get_NameTreeModel_46 <|
  zm_ac trivial <|
  zm_ac trivial <|
  zm_ac zk_get_NameTreeModel_68 <|
  zm_ac trivial <|
  zm_ac trivial <|
  zm_ac trivial <|
  zm_ac trivial <|
  zm_ac trivial <|
  zm_ac trivial <|
  zm_ac (zm_jp rfl) <|
  zm_ac trivial <|
  zm_ac trivial <|
  zm_ac ⟨zk_virt_NameTreeModel_87, by decide, by decide⟩ <|
  zm_ac (zm_jp rfl) <|
  zm_ac trivial <|
  zm_ac zk_get_NameTreeModel_26 <|
  zm_ac trivial <|
  zm_ac trivial <|
  zm_ac (zm_jp rfl) <|
  zm_ac trivial <|
  zm_ac zk_get_NameTreeModel_20 <|
  zm_ac trivial <|
  zm_ac trivial <|
  zm_ac trivial <|
  zm_ac trivial <|
  zm_an
set_option maxRecDepth 100000 in
set_option maxHeartbeats 4000000 in
theorem zs_89 : ∀ q ∈ zc89, zm_rs 89 q.1 q.2.1 q.2.2.2.1 q.2.2.2.2.1 q.2.2.2.2.2 :=
  zm_ac trivial <|
  zm_ac zk_get_NameTreeModel_90 <|
  zm_ac trivial <|
  zm_ac trivial <|
  zm_ac ⟨_, _, rfl, zk_ldc_NameTreeModel_49⟩ <|
  zm_ac (zm_jp rfl) <|
  zm_ac trivial <|
  zm_ac trivial <|
  zm_ac trivial <|
  zm_ac ⟨_, _, rfl, zk_ldc_NameTreeModel_49⟩ <|
  zm_ac (zm_jp rfl) <|
  zm_ac trivial <|
  zm_ac zk_get_NameTreeModel_50 <|
  zm_ac trivial <|
  zm_ac trivial <|
  zm_ac trivial <|
  zm_ac (zm_jp rfl) <|
  zm_ac trivial <|
  zm_ac (zm_jp rfl) <|
  zm_ac trivial <|
  zm_ac trivial <|
  zm_ac trivial <|
  zm_ac trivial <|
  zm_ac (zm_jp rfl) <|
  zm_ac trivial <|
  zm_ac trivial <|
  zm_ac trivial <|
  zm_ac trivial <|
  zm_ac (zm_jp rfl) <|
  zm_ac trivial <|
  zm_ac zk_get_NameTreeModel_50 <|
  zm_ac trivial <|
  zm_ac trivial <|
  zm_ac trivial <|
  zm_ac (zm_jp rfl) <|
  zm_ac trivial <|
  zm_ac trivial <|
  zm_ac trivial <|
  zm_ac (zm_jp rfl) <|
  zm_ac trivial <|
  zm_ac trivial <|
  zm_an
set_option maxRecDepth 100000 in
set_option maxHeartbeats 4000000 in
theorem zs_90 : ∀ q ∈ zc90, zm_rs 90 q.1 q.2.1 q.2.2.2.1 q.2.2.2.2.1 q.2.2.2.2.2 :=
  zm_ac trivial <|
  zm_ac ⟨_, _, rfl, zk_ldc_NameTreeModel_49⟩ <|
  zm_ac trivial <|
  zm_ac trivial <|
  zm_ac (zm_rp_any zk_put_NameTreeModel_90) <|
  zm_ac trivial <|
  zm_ac trivial <|
  zm_ac trivial <|
  zm_ac trivial <|
  zm_ac (zm_jp rfl) <|
  zm_ac trivial <|
  zm_ac zk_get_NameTreeModel_50 <|
  zm_ac trivial <|
  zm_ac zk_get_NameTreeModel_90 <|
  zm_ac trivial <|
  zm_ac trivial <|
  zm_ac trivial <|
  zm_ac zk_get_NameTreeModel_17 <|
  zm_ac trivial <|
  zm_ac trivial <|
  zm_ac trivial <|
  zm_ac trivial <|
  zm_ac trivial <|
  zm_ac trivial <|
  zm_ac (zm_jp rfl) <|
  zm_ac trivial <|
  zm_ac trivial <|
  zm_ac trivial <|
  zm_ac trivial <|
  zm_ac (zm_rp_any zk_put_NameTreeModel_93) <|
  zm_ac trivial <|
  zm_ac trivial <|
  zm_ac (zm_rp_any zk_put_NameTreeModel_96) <|
  zm_ac trivial <|
  zm_ac ⟨zk_virt_NameTreeModel_100, by decide, by decide⟩ <|
  zm_ac (zm_jp rfl) <|
  zm_ac trivial <|
  zm_ac zk_get_NameTreeModel_50 <|
  zm_ac trivial <|
  zm_ac zk_get_NameTreeModel_90 <|
  zm_ac trivial <|
  zm_ac trivial <|
  zm_ac (zm_jp rfl) <|
  zm_ac trivial <|
  zm_ac trivial <|
  zm_ac zk_get_NameTreeModel_90 <|
  zm_ac trivial <|
  zm_ac trivial <|
  zm_ac (zm_rp_any zk_put_NameTreeModel_90) <|
  zm_ac (zm_jp rfl) <|
  zm_ac trivial <|
  zm_ac trivial <|
  zm_ac zk_get_NameTreeModel_90 <|
  zm_ac (zm_rp_any zk_put_NameTreeModel_81) <|
  zm_ac trivial <|
  zm_ac zk_get_NameTreeModel_90 <|
  zm_ac ⟨_, _, rfl, zk_ldc_NameTreeModel_49⟩ <|
  zm_ac (zm_jp rfl) <|
  zm_ac trivial <|
  zm_ac zk_get_NameTreeModel_50 <|
  zm_ac trivial <|
  zm_ac zk_get_NameTreeModel_90 <|
  zm_ac trivial <|
  zm_ac trivial <|
  zm_ac (zm_jp rfl) <|
  zm_ac trivial <|
  zm_ac trivial <|
  zm_ac zk_get_NameTreeModel_90 <|
  zm_ac trivial <|
  zm_ac trivial <|
  zm_ac (zm_rp_any zk_put_NameTreeModel_90) <|
  zm_ac (zm_jp rfl) <|
  zm_ac trivial <|
  zm_ac trivial <|
  zm_ac zk_get_NameTreeModel_90 <|
  zm_ac trivial <|
  zm_ac zk_get_NameTreeModel_81 <|
  zm_ac trivial <|
  zm_ac (zm_rp_any zk_put_NameTreeModel_78) <|
  zm_ac trivial <|
  zm_ac zk_get_NameTreeModel_78 <|
  zm_ac trivial <|
  zm_ac (zm_jp rfl) <|
  zm_ac trivial <|
  zm_ac zk_get_NameTreeModel_50 <|
  zm_ac trivial <|
  zm_ac zk_get_NameTreeModel_81 <|
  zm_ac trivial <|
  zm_ac trivial <|
  zm_ac (zm_jp rfl) <|
  zm_ac (zm_jp rfl) <|
  zm_ac trivial <|
  zm_ac zk_get_NameTreeModel_78 <|
  zm_ac trivial <|
  zm_ac (zm_jp rfl) <|
  zm_ac trivial <|
  zm_ac trivial <|
  zm_ac trivial <|
  zm_ac zk_get_NameTreeModel_20 <|
  zm_ac trivial <|
  zm_ac zk_get_NameTreeModel_93 <|
  zm_ac trivial <|
  zm_ac trivial <|
  zm_ac (zm_jp rfl) <|
  zm_ac trivial <|
  zm_ac trivial <|
  zm_ac trivial <|
  zm_ac ⟨zk_virt_NameTreeModel_100, by decide, by decide⟩ <|
  zm_ac (zm_jp rfl) <|
  zm_ac trivial <|
  zm_ac (zm_jp rfl) <|
  zm_ac trivial <|
  zm_ac trivial <|
  zm_ac trivial <|
  zm_ac trivial <|
  zm_ac zk_get_NameTreeModel_78 <|
  zm_ac trivial <|
  zm_ac (zm_jp rfl) <|
  zm_ac trivial <|
  zm_ac zk_get_NameTreeModel_50 <|
  zm_ac trivial <|
  zm_ac zk_get_NameTreeModel_81 <|
  zm_ac trivial <|
  zm_ac trivial <|
  zm_ac (zm_jp rfl) <|
  zm_ac trivial <|
  zm_ac zk_get_NameTreeModel_50 <|
  zm_ac trivial <|
  zm_ac zk_get_NameTreeModel_81 <|
  zm_ac trivial <|
  zm_ac trivial <|
  zm_ac trivial <|
  zm_ac trivial <|
  zm_ac (zm_jp rfl) <|
  zm_ac trivial <|
  zm_ac (zm_jp rfl) <|
  zm_ac trivial <|
  zm_ac (zm_rp_any zk_put_NameTreeModel_96) <|
  zm_ac trivial <|
  zm_ac zk_get_NameTreeModel_96 <|
  zm_ac (zm_jp rfl) <|
  zm_ac trivial <|
  zm_ac trivial <|
  zm_ac trivial <|
  zm_ac zk_get_NameTreeModel_93 <|
  zm_ac ⟨zk_virt_NameTreeModel_104, by decide, by decide⟩ <|
  zm_ac (zm_rp_any zk_put_NameTreeModel_93) <|
  zm_ac (zm_jp rfl) <|
  zm_ac trivial <|
  zm_ac trivial <|
  zm_ac zk_get_NameTreeModel_93 <|
  zm_ac (zm_rp_any zk_put_NameTreeModel_75) <|
  zm_ac trivial <|
  zm_ac trivial <|
  zm_ac zk_get_NameTreeModel_75 <|
  zm_ac trivial <|
  zm_ac zk_get_NameTreeModel_81 <|
  zm_ac trivial <|
  zm_ac zk_get_NameTreeModel_78 <|
  zm_ac ⟨zk_virt_NameTreeModel_107, by decide, by decide⟩ <|
  zm_ac trivial <|
  zm_ac trivial <|
  zm_ac trivial <|
  zm_ac (zm_jp rfl) <|
  zm_ac trivial <|
  zm_ac (zm_jp rfl) <|
  zm_ac trivial <|
  zm_ac zk_get_NameTreeModel_40 <|
  zm_ac trivial <|
  zm_ac trivial <|
  zm_ac (zm_rp_any zk_put_NameTreeModel_93) <|
  zm_ac trivial <|
  zm_ac (zm_jp rfl) <|
  zm_ac trivial <|
  zm_ac (zm_jp rfl) <|
  zm_ac trivial <|
  zm_ac (zm_jp rfl) <|
  zm_ac trivial <|
  zm_ac trivial <|
  zm_ac trivial <|
  zm_ac zk_get_NameTreeModel_20 <|
  zm_ac trivial <|
  zm_ac zk_get_NameTreeModel_93 <|
  zm_ac trivial <|
  zm_ac trivial <|
  zm_ac (zm_jp rfl) <|
  zm_ac trivial <|
  zm_ac (zm_jp rfl) <|
  zm_ac trivial <|
  zm_ac (zm_jp rfl) <|
  zm_ac trivial <|
  zm_ac trivial <|
  zm_ac (zm_jp rfl) <|
  zm_ac trivial <|
  zm_ac trivial <|
  zm_ac trivial <|
  zm_ac trivial <|
  zm_ac trivial <|
  zm_ac zk_get_NameTreeModel_93 <|
  zm_ac ⟨zk_virt_NameTreeModel_111, by decide, by decide⟩ <|
  zm_ac (zm_jp rfl) <|
  zm_ac trivial <|
  zm_ac trivial <|
  zm_an
set_option maxRecDepth 100000 in
set_option maxHeartbeats 4000000 in
theorem zs_91 : ∀ q ∈ zc91, zm_rs 91 q.1 q.2.1 q.2.2.2.1 q.2.2.2.2.1 q.2.2.2.2.2 :=
  zm_ac trivial <|
  zm_ac trivial <|
  zm_ac zk_get_NameTreeModel_90 <|
  zm_ac trivial <|
  zm_ac trivial <|
  zm_ac (zm_rp_any zk_put_NameTreeModel_90) <|
  zm_ac trivial <|
  zm_ac zk_get_NameTreeModel_50 <|
  zm_ac trivial <|
  zm_ac zk_get_NameTreeModel_90 <|
  zm_ac trivial <|
  zm_ac trivial <|
  zm_ac trivial <|
  zm_ac trivial <|
  zm_ac zk_get_NameTreeModel_90 <|
  zm_ac trivial <|
  zm_ac zk_get_NameTreeModel_29 <|
  zm_ac trivial <|
  zm_ac trivial <|
  zm_ac trivial <|
  zm_ac (zm_rp_any zk_put_NameTreeModel_90) <|
  zm_ac trivial <|
  zm_ac trivial <|
  zm_ac trivial <|
  zm_ac trivial <|
  zm_ac zk_get_NameTreeModel_29 <|
  zm_ac trivial <|
  zm_ac trivial <|
  zm_ac (zm_jp rfl) <|
  zm_ac trivial <|
  zm_ac zk_get_NameTreeModel_50 <|
  zm_ac trivial <|
  zm_ac zk_get_NameTreeModel_90 <|
  zm_ac trivial <|
  zm_ac trivial <|
  zm_ac trivial <|
  zm_ac zk_get_NameTreeModel_33 <|
  zm_ac trivial <|
  zm_ac trivial <|
  zm_ac trivial <|
  zm_ac trivial <|
  zm_ac trivial <|
  zm_ac trivial <|
  zm_ac trivial <|
  zm_ac trivial <|
  zm_ac trivial <|
  zm_ac trivial <|
  zm_ac (zm_jp rfl) <|
  zm_ac trivial <|
  zm_ac trivial <|
  zm_ac zk_get_NameTreeModel_50 <|
  zm_ac trivial <|
  zm_ac zk_get_NameTreeModel_90 <|
  zm_ac trivial <|
  zm_ac trivial <|
  zm_ac (zm_jp rfl) <|
  zm_ac trivial <|
  zm_ac (zm_jp rfl) <|
  zm_ac trivial <|
  zm_ac zk_get_NameTreeModel_75 <|
  zm_ac (zm_rp_any zk_put_NameTreeModel_93) <|
  zm_ac trivial <|
  zm_ac trivial <|
  zm_ac (zm_rp_any zk_put_NameTreeModel_96) <|
  zm_ac trivial <|
  zm_an
set_option maxRecDepth 100000 in
set_option maxHeartbeats 4000000 in
theorem zs_92 : ∀ q ∈ zc92, zm_rs 92 q.1 q.2.1 q.2.2.2.1 q.2.2.2.2.1 q.2.2.2.2.2 :=
  zm_ac trivial <|
  zm_ac trivial <|
  zm_ac trivial <|
  zm_ac trivial <|
  zm_ac ⟨zk_virt_NameTreeModel_115, by decide, by decide⟩ <|
  zm_ac trivial <|
  zm_ac trivial <|
  zm_ac (zm_jp rfl) <|
  zm_ac trivial <|
  zm_ac (zm_jp rfl) <|
  zm_ac trivial <|
  zm_ac zk_get_NameTreeModel_96 <|
  zm_ac (zm_jp rfl) <|
  zm_ac trivial <|
  zm_ac (zm_jp rfl) <|
  zm_ac trivial <|
  zm_ac trivial <|
  zm_an
set_option maxRecDepth 100000 in
set_option maxHeartbeats 4000000 in
theorem zs_93 : ∀ q ∈ zc93, zm_rs 93 q.1 q.2.1 q.2.2.2.1 q.2.2.2.2.1 q.2.2.2.2.2 :=
  zm_ac trivial <|
  zm_ac trivial <|
  zm_ac (zm_jp rfl) <|
  zm_ac trivial <|
  zm_ac trivial <|
  zm_ac ⟨zk_virt_NameTreeModel_119, by decide, by decide⟩ <|
  zm_ac (zm_jp rfl) <|
  zm_ac trivial <|
  zm_ac trivial <|
  zm_ac trivial <|
  zm_ac trivial <|
  zm_ac (zm_rp_any zk_put_NameTreeModel_7) <|
  zm_ac trivial <|
  zm_ac zk_get_NameTreeModel_7 <|
  zm_ac trivial <|
  zm_ac ⟨zk_virt_NameTreeModel_119, by decide, by decide⟩ <|
  zm_ac trivial <|
  zm_ac trivial <|
  zm_an
set_option maxRecDepth 100000 in
set_option maxHeartbeats 4000000 in
theorem zs_94 : ∀ q ∈ zc94, zm_rs 94 q.1 q.2.1 q.2.2.2.1 q.2.2.2.2.1 q.2.2.2.2.2 :=
  zm_ac trivial <|
  zm_ac trivial <|
  zm_ac trivial <|
  zm_ac trivial <|
  zm_ac (zm_jp rfl) <|
  zm_ac trivial <|
  zm_ac zk_get_NameTreeModel_20 <|
  zm_ac trivial <|
  zm_ac trivial <|
  zm_ac (zm_jp rfl) <|
  zm_ac trivial <|
  zm_ac (zm_jp rfl) <|
  zm_ac trivial <|
  zm_ac trivial <|
  zm_ac (zm_jp rfl) <|
  zm_ac trivial <|
  zm_ac zk_get_NameTreeModel_68 <|
  zm_ac trivial <|
  zm_ac (zm_jp rfl) <|
  zm_ac trivial <|
  zm_ac ⟨zk_virt_NameTreeModel_119, by decide, by decide⟩ <|
  zm_ac trivial <|
  zm_ac trivial <|
  zm_ac trivial <|
  zm_ac trivial <|
  zm_ac zk_get_NameTreeModel_75 <|
  zm_ac trivial <|
  zm_ac trivial <|
  zm_ac zk_get_NameTreeModel_75 <|
  zm_ac ⟨zk_virt_NameTreeModel_84, by decide, by decide⟩ <|
  zm_ac trivial <|
  zm_ac trivial <|
  zm_ac ⟨zk_virt_NameTreeModel_123, by decide, by decide⟩ <|
  zm_ac trivial <|
  zm_ac trivial <|
  zm_ac zk_get_NameTreeModel_7 <|
  zm_ac (zm_jp rfl) <|
  zm_ac trivial <|
  zm_ac trivial <|
  zm_ac trivial <|
  zm_ac zk_get_NameTreeModel_20 <|
  zm_ac trivial <|
  zm_ac trivial <|
  zm_ac trivial <|
  zm_ac trivial <|
  zm_ac zk_get_NameTreeModel_23 <|
  zm_ac trivial <|
  zm_ac trivial <|
  zm_ac trivial <|
  zm_ac trivial <|
  zm_ac zk_get_NameTreeModel_26 <|
  zm_ac trivial <|
  zm_ac trivial <|
  zm_ac trivial <|
  zm_ac trivial <|
  zm_ac trivial <|
  zm_ac ⟨zk_virt_NameTreeModel_127, by decide, by decide⟩ <|
  zm_ac trivial <|
  zm_ac trivial <|
  zm_an
set_option maxRecDepth 100000 in
set_option maxHeartbeats 4000000 in
theorem zs_95 : ∀ q ∈ zc95, zm_rs 95 q.1 q.2.1 q.2.2.2.1 q.2.2.2.2.1 q.2.2.2.2.2 :=
  zm_ac trivial <|
  zm_ac ⟨zk_virt_NameTreeModel_130, by decide, by decide⟩ <|
  zm_ac trivial <|
  zm_ac trivial <|
  zm_ac trivial <|
  zm_ac (zm_jp rfl) <|
  zm_ac trivial <|
  zm_ac trivial <|
  zm_ac (zm_jp rfl) <|
  zm_ac trivial <|
  zm_ac trivial <|
  zm_ac (zm_jp rfl) <|
  zm_ac trivial <|
  zm_ac trivial <|
  zm_ac trivial <|
  zm_ac trivial <|
  zm_ac trivial <|
  zm_ac zk_get_NameTreeModel_58 <|
  zm_ac ⟨zk_virt_NameTreeModel_133, by decide, by decide⟩ <|
  zm_ac trivial <|
  zm_ac trivial <|
  zm_ac (zm_jp rfl) <|
  zm_ac trivial <|
  zm_ac trivial <|
  zm_ac trivial <|
  zm_ac zk_get_NameTreeModel_93 <|
  zm_ac (zm_jp rfl) <|
  zm_ac trivial <|
  zm_ac (zm_jp rfl) <|
  zm_ac trivial <|
  zm_ac trivial <|
  zm_ac trivial <|
  zm_ac ⟨zk_virt_NameTreeModel_136, by decide, by decide⟩ <|
  zm_ac trivial <|
  zm_an
set_option maxRecDepth 100000 in
set_option maxHeartbeats 4000000 in
theorem zs_96 : ∀ q ∈ zc96, zm_rs 96 q.1 q.2.1 q.2.2.2.1 q.2.2.2.2.1 q.2.2.2.2.2 :=
  zm_ac trivial <|
  zm_ac ⟨zk_virt_NameTreeModel_130, by decide, by decide⟩ <|
  zm_ac trivial <|
  zm_ac trivial <|
  zm_ac (zm_jp rfl) <|
  zm_ac trivial <|
  zm_ac trivial <|
  zm_ac trivial <|
  zm_ac trivial <|
  zm_ac trivial <|
  zm_ac trivial <|
  zm_ac ⟨zk_virt_NameTreeModel_115, by decide, by decide⟩ <|
  zm_ac trivial <|
  zm_ac trivial <|
  zm_ac (zm_jp rfl) <|
  zm_ac trivial <|
  zm_ac trivial <|
  zm_ac trivial <|
  zm_ac zk_get_NameTreeModel_93 <|
  zm_ac trivial <|
  zm_ac trivial <|
  zm_ac trivial <|
  zm_ac trivial <|
  zm_ac trivial <|
  zm_ac trivial <|
  zm_ac zk_get_NameTreeModel_58 <|
  zm_ac trivial <|
  zm_ac trivial <|
  zm_ac trivial <|
  zm_ac trivial <|
  zm_ac ⟨zk_virt_NameTreeModel_133, by decide, by decide⟩ <|
  zm_ac trivial <|
  zm_ac trivial <|
  zm_ac (zm_jp rfl) <|
  zm_ac trivial <|
  zm_ac trivial <|
  zm_ac trivial <|
  zm_ac (zm_jp rfl) <|
  zm_ac trivial <|
  zm_ac trivial <|
  zm_ac trivial <|
  zm_ac zk_get_NameTreeModel_20 <|
  zm_ac trivial <|
  zm_ac trivial <|
  zm_ac trivial <|
  zm_ac (zm_jp rfl) <|
  zm_ac trivial <|
  zm_ac trivial <|
  zm_ac trivial <|
  zm_ac zk_get_NameTreeModel_93 <|
  zm_ac (zm_jp rfl) <|
  zm_ac trivial <|
  zm_ac trivial <|
  zm_ac trivial <|
  zm_ac zk_get_NameTreeModel_68 <|
  zm_ac trivial <|
  zm_ac (zm_jp rfl) <|
  zm_ac trivial <|
  zm_ac ⟨zk_virt_NameTreeModel_119, by decide, by decide⟩ <|
  zm_ac trivial <|
  zm_ac trivial <|
  zm_ac zk_get_NameTreeModel_75 <|
  zm_ac trivial <|
  zm_ac trivial <|
  zm_ac zk_get_NameTreeModel_75 <|
  zm_ac ⟨zk_virt_NameTreeModel_84, by decide, by decide⟩ <|
  zm_ac trivial <|
  zm_ac trivial <|
  zm_ac ⟨zk_virt_NameTreeModel_123, by decide, by decide⟩ <|
  zm_ac trivial <|
  zm_ac trivial <|
  zm_ac zk_get_NameTreeModel_7 <|
  zm_ac (zm_jp rfl) <|
  zm_ac trivial <|
  zm_ac trivial <|
  zm_ac trivial <|
  zm_ac trivial <|
  zm_ac ⟨zk_virt_NameTreeModel_127, by decide, by decide⟩ <|
  zm_ac trivial <|
  zm_ac trivial <|
  zm_an
set_option maxRecDepth 100000 in
set_option maxHeartbeats 4000000 in
theorem zs_97 : ∀ q ∈ zc97, zm_rs 97 q.1 q.2.1 q.2.2.2.1 q.2.2.2.2.1 q.2.2.2.2.2 :=
  zm_ac trivial <|
  zm_ac ⟨zk_virt_NameTreeModel_130, by decide, by decide⟩ <|
  zm_ac trivial <|
  zm_ac trivial <|
  zm_ac zk_get_NameTreeModel_58 <|
  zm_ac trivial <|
  zm_ac trivial <|
  zm_ac trivial <|
  zm_ac trivial <|
  zm_ac trivial <|
  zm_ac trivial <|
  zm_ac (zm_jp rfl) <|
  zm_ac trivial <|
  zm_ac trivial <|
  zm_ac (zm_jp rfl) <|
  zm_ac trivial <|
  zm_ac trivial <|
  zm_ac (zm_jp rfl) <|
  zm_ac trivial <|
  zm_ac trivial <|
  zm_ac trivial <|
  zm_ac trivial <|
  zm_ac trivial <|
  zm_ac ⟨zk_virt_NameTreeModel_133, by decide, by decide⟩ <|
  zm_ac trivial <|
  zm_ac trivial <|
  zm_ac (zm_jp rfl) <|
  zm_ac trivial <|
  zm_ac trivial <|
  zm_ac trivial <|
  zm_ac zk_get_NameTreeModel_93 <|
  zm_ac (zm_jp rfl) <|
  zm_ac trivial <|
  zm_ac trivial <|
  zm_ac trivial <|
  zm_ac trivial <|
  zm_ac trivial <|
  zm_ac trivial <|
  zm_ac (zm_jp rfl) <|
  zm_ac trivial <|
  zm_ac (zm_jp rfl) <|
  zm_ac trivial <|
  zm_ac ⟨zk_virt_NameTreeModel_136, by decide, by decide⟩ <|
  zm_ac trivial <|
  zm_ac trivial <|
  zm_ac (zm_jp rfl) <|
  zm_ac trivial <|
  zm_ac trivial <|
  zm_ac trivial <|
  zm_ac zk_get_NameTreeModel_29 <|
  zm_ac trivial <|
  zm_ac trivial <|
  zm_ac trivial <|
  zm_ac trivial <|
  zm_ac trivial <|
  zm_ac trivial <|
  zm_ac trivial <|
  zm_ac (zm_jp rfl) <|
  zm_ac trivial <|
  zm_ac zk_get_NameTreeModel_33 <|
  zm_ac trivial <|
  zm_ac trivial <|
  zm_ac trivial <|
  zm_ac trivial <|
  zm_ac trivial <|
  zm_ac trivial <|
  zm_ac zk_get_NameTreeModel_17 <|
  zm_ac trivial <|
  zm_ac trivial <|
  zm_ac trivial <|
  zm_ac trivial <|
  zm_ac trivial <|
  zm_ac trivial <|
  zm_ac trivial <|
  zm_ac trivial <|
  zm_ac trivial <|
  zm_ac (zm_jp rfl) <|
  zm_ac trivial <|
  zm_ac trivial <|
  zm_an
set_option maxRecDepth 100000 in
set_option maxHeartbeats 4000000 in
theorem zs_98 : ∀ q ∈ zc98, zm_rs 98 q.1 q.2.1 q.2.2.2.1 q.2.2.2.2.1 q.2.2.2.2.2 :=
  zm_ac trivial <|
  zm_ac ⟨zk_virt_NameTreeModel_130, by decide, by decide⟩ <|
  zm_ac trivial <|
  zm_ac trivial <|
  zm_ac trivial <|
  zm_ac (zm_jp rfl) <|
  zm_ac trivial <|
  zm_ac trivial <|
  zm_ac trivial <|
  zm_ac trivial <|
  zm_ac trivial <|
  zm_ac zk_get_NameTreeModel_58 <|
  zm_ac ⟨zk_virt_NameTreeModel_133, by decide, by decide⟩ <|
  zm_ac trivial <|
  zm_ac trivial <|
  zm_ac (zm_jp rfl) <|
  zm_ac trivial <|
  zm_ac trivial <|
  zm_ac trivial <|
  zm_ac zk_get_NameTreeModel_93 <|
  zm_ac (zm_jp rfl) <|
  zm_ac trivial <|
  zm_ac trivial <|
  zm_ac trivial <|
  zm_ac zk_get_NameTreeModel_20 <|
  zm_ac trivial <|
  zm_ac zk_get_NameTreeModel_93 <|
  zm_ac trivial <|
  zm_ac trivial <|
  zm_ac (zm_jp rfl) <|
  zm_ac trivial <|
  zm_ac trivial <|
  zm_ac trivial <|
  zm_ac trivial <|
  zm_ac trivial <|
  zm_ac zk_get_NameTreeModel_75 <|
  zm_ac trivial <|
  zm_ac zk_get_NameTreeModel_81 <|
  zm_ac trivial <|
  zm_ac zk_get_NameTreeModel_78 <|
  zm_ac ⟨zk_virt_NameTreeModel_107, by decide, by decide⟩ <|
  zm_ac ⟨zk_virt_NameTreeModel_139, by decide, by decide⟩ <|
  zm_ac trivial <|
  zm_ac zk_get_NameTreeModel_93 <|
  zm_ac trivial <|
  zm_an
set_option maxRecDepth 100000 in
set_option maxHeartbeats 4000000 in
theorem zs_99 : ∀ q ∈ zc99, zm_rs 99 q.1 q.2.1 q.2.2.2.1 q.2.2.2.2.1 q.2.2.2.2.2 :=
  zm_ac trivial <|
  zm_ac ⟨zk_virt_NameTreeModel_130, by decide, by decide⟩ <|
  zm_ac trivial <|
  zm_ac trivial <|
  zm_ac trivial <|
  zm_ac (zm_jp rfl) <|
  zm_ac trivial <|
  zm_ac trivial <|
  zm_ac trivial <|
  zm_ac trivial <|
  zm_ac trivial <|
  zm_ac zk_get_NameTreeModel_58 <|
  zm_ac ⟨zk_virt_NameTreeModel_133, by decide, by decide⟩ <|
  zm_ac trivial <|
  zm_ac trivial <|
  zm_ac (zm_jp rfl) <|
  zm_ac trivial <|
  zm_ac trivial <|
  zm_ac trivial <|
  zm_ac zk_get_NameTreeModel_93 <|
  zm_ac (zm_jp rfl) <|
  zm_ac trivial <|
  zm_ac trivial <|
  zm_ac trivial <|
  zm_ac zk_get_NameTreeModel_20 <|
  zm_ac trivial <|
  zm_ac zk_get_NameTreeModel_93 <|
  zm_ac trivial <|
  zm_ac trivial <|
  zm_ac (zm_jp rfl) <|
  zm_ac trivial <|
  zm_ac trivial <|
  zm_ac trivial <|
  zm_ac trivial <|
  zm_ac zk_get_NameTreeModel_93 <|
  zm_ac ⟨zk_virt_NameTreeModel_84, by decide, by decide⟩ <|
  zm_ac (zm_jp rfl) <|
  zm_ac trivial <|
  zm_ac trivial <|
  zm_ac trivial <|
  zm_ac trivial <|
  zm_ac trivial <|
  zm_ac zk_get_NameTreeModel_75 <|
  zm_ac trivial <|
  zm_ac zk_get_NameTreeModel_81 <|
  zm_ac trivial <|
  zm_ac zk_get_NameTreeModel_78 <|
  zm_ac ⟨zk_virt_NameTreeModel_107, by decide, by decide⟩ <|
  zm_ac ⟨zk_virt_NameTreeModel_139, by decide, by decide⟩ <|
  zm_ac trivial <|
  zm_ac zk_get_NameTreeModel_93 <|
  zm_ac trivial <|
  zm_an
set_option maxRecDepth 100000 in
set_option maxHeartbeats 4000000 in
theorem zs_100 : ∀ q ∈ zc100, zm_rs 100 q.1 q.2.1 q.2.2.2.1 q.2.2.2.2.1 q.2.2.2.2.2 :=
  zm_ac trivial <|
  zm_ac trivial <|
  zm_ac trivial <|
  zm_ac trivial <|
  zm_ac (zm_jp rfl) <|
  zm_ac trivial <|
  zm_ac trivial <|
  zm_ac (zm_jp rfl) <|
  zm_ac trivial <|
  zm_ac trivial <|
  zm_ac ⟨zk_virt_NameTreeModel_104, by decide, by decide⟩ <|
  zm_ac trivial <|
  zm_ac (zm_jp rfl) <|
  zm_ac trivial <|
  zm_ac trivial <|
  zm_ac (zm_jp rfl) <|
  zm_ac trivial <|
  zm_ac (zm_jp rfl) <|
  zm_ac trivial <|
  zm_ac trivial <|
  zm_an
set_option maxRecDepth 100000 in
set_option maxHeartbeats 4000000 in
theorem zs_101 : ∀ q ∈ zc101, zm_rs 101 q.1 q.2.1 q.2.2.2.1 q.2.2.2.2.1 q.2.2.2.2.2 :=
  zm_ac trivial <|
  zm_ac ⟨zk_virt_NameTreeModel_130, by decide, by decide⟩ <|
  zm_ac trivial <|
  zm_ac trivial <|
  zm_ac (zm_jp rfl) <|
  zm_ac trivial <|
  zm_ac trivial <|
  zm_ac trivial <|
  zm_ac trivial <|
  zm_ac trivial <|
  zm_ac ⟨zk_virt_NameTreeModel_133, by decide, by decide⟩ <|
  zm_ac trivial <|
  zm_ac trivial <|
  zm_ac (zm_jp rfl) <|
  zm_ac trivial <|
  zm_ac trivial <|
  zm_ac trivial <|
  zm_ac zk_get_NameTreeModel_93 <|
  zm_ac trivial <|
  zm_ac trivial <|
  zm_ac (zm_jp rfl) <|
  zm_ac trivial <|
  zm_ac (zm_jp rfl) <|
  zm_ac trivial <|
  zm_ac trivial <|
  zm_ac zk_get_NameTreeModel_75 <|
  zm_ac trivial <|
  zm_ac zk_get_NameTreeModel_81 <|
  zm_ac trivial <|
  zm_ac zk_get_NameTreeModel_78 <|
  zm_ac ⟨zk_virt_NameTreeModel_107, by decide, by decide⟩ <|
  zm_ac trivial <|
  zm_ac trivial <|
  zm_ac trivial <|
  zm_ac trivial <|
  zm_ac trivial <|
  zm_ac trivial <|
  zm_ac zk_get_NameTreeModel_58 <|
  zm_ac trivial <|
  zm_ac trivial <|
  zm_ac trivial <|
  zm_ac trivial <|
  zm_ac ⟨zk_virt_NameTreeModel_133, by decide, by decide⟩ <|
  zm_ac trivial <|
  zm_ac trivial <|
  zm_ac (zm_jp rfl) <|
  zm_ac trivial <|
  zm_ac trivial <|
  zm_ac trivial <|
  zm_ac (zm_jp rfl) <|
  zm_ac trivial <|
  zm_ac trivial <|
  zm_ac trivial <|
  zm_ac zk_get_NameTreeModel_93 <|
  zm_ac trivial <|
  zm_ac (zm_jp rfl) <|
  zm_ac trivial <|
  zm_ac trivial <|
  zm_ac trivial <|
  zm_ac zk_get_NameTreeModel_20 <|
  zm_ac trivial <|
  zm_ac trivial <|
  zm_ac trivial <|
  zm_ac (zm_jp rfl) <|
  zm_ac trivial <|
  zm_ac (zm_jp rfl) <|
  zm_ac trivial <|
  zm_ac trivial <|
  zm_ac trivial <|
  zm_ac (zm_jp rfl) <|
  zm_ac trivial <|
  zm_ac trivial <|
  zm_ac zk_get_NameTreeModel_75 <|
  zm_ac trivial <|
  zm_ac ⟨zk_virt_NameTreeModel_142, by decide, by decide⟩ <|
  zm_ac (zm_jp rfl) <|
  zm_ac trivial <|
  zm_ac trivial <|
  zm_ac trivial <|
  zm_ac zk_get_NameTreeModel_93 <|
  zm_ac (zm_jp rfl) <|
  zm_ac trivial <|
  zm_ac zk_get_NameTreeModel_20 <|
  zm_ac trivial <|
  zm_ac zk_get_NameTreeModel_93 <|
  zm_ac trivial <|
  zm_ac trivial <|
  zm_ac (zm_jp rfl) <|
  zm_ac trivial <|
  zm_ac (zm_jp rfl) <|
  zm_ac trivial <|
  zm_ac trivial <|
  zm_ac trivial <|
  zm_ac zk_get_NameTreeModel_93 <|
  zm_ac (zm_jp rfl) <|
  zm_ac trivial <|
  zm_ac (zm_jp rfl) <|
  zm_ac trivial <|
  zm_ac (zm_jp rfl) <|
  zm_ac trivial <|
  zm_ac trivial <|
  zm_ac trivial <|
  zm_ac (zm_jp rfl) <|
  zm_ac trivial <|
  zm_ac (zm_jp rfl) <|
  zm_ac trivial <|
  zm_ac trivial <|
  zm_ac trivial <|
  zm_ac (zm_jp rfl) <|
  zm_ac trivial <|
  zm_ac trivial <|
  zm_ac zk_get_NameTreeModel_93 <|
  zm_ac ⟨zk_virt_NameTreeModel_84, by decide, by decide⟩ <|
  zm_ac (zm_jp rfl) <|
  zm_ac trivial <|
  zm_ac trivial <|
  zm_ac trivial <|
  zm_ac zk_get_NameTreeModel_93 <|
  zm_ac (zm_jp rfl) <|
  zm_ac trivial <|
  zm_ac trivial <|
  zm_ac zk_get_NameTreeModel_93 <|
  zm_ac ⟨zk_virt_NameTreeModel_87, by decide, by decide⟩ <|
  zm_ac trivial <|
  zm_ac (zm_jp rfl) <|
  zm_ac trivial <|
  zm_ac zk_get_NameTreeModel_26 <|
  zm_ac trivial <|
  zm_ac zk_get_NameTreeModel_93 <|
  zm_ac trivial <|
  zm_ac (zm_jp rfl) <|
  zm_ac trivial <|
  zm_ac (zm_jp rfl) <|
  zm_ac trivial <|
  zm_ac trivial <|
  zm_ac trivial <|
  zm_ac trivial <|
  zm_ac zk_get_NameTreeModel_75 <|
  zm_ac ⟨zk_virt_NameTreeModel_84, by decide, by decide⟩ <|
  zm_ac trivial <|
  zm_ac trivial <|
  zm_ac trivial <|
  zm_ac zk_get_NameTreeModel_37 <|
  zm_ac trivial <|
  zm_ac trivial <|
  zm_ac trivial <|
  zm_ac zk_get_NameTreeModel_75 <|
  zm_ac (zm_jp rfl) <|
  zm_ac trivial <|
  zm_ac (zm_jp rfl) <|
  zm_ac trivial <|
  zm_ac trivial <|
  zm_ac trivial <|
  zm_ac zk_get_NameTreeModel_93 <|
  zm_ac (zm_jp rfl) <|
  zm_ac trivial <|
  zm_ac (zm_jp rfl) <|
  zm_ac trivial <|
  zm_ac trivial <|
  zm_ac trivial <|
  zm_ac trivial <|
  zm_ac ⟨zk_virt_NameTreeModel_119, by decide, by decide⟩ <|
  zm_ac trivial <|
  zm_ac (zm_jp rfl) <|
  zm_ac trivial <|
  zm_ac trivial <|
  zm_ac zk_get_NameTreeModel_93 <|
  zm_ac ⟨zk_virt_NameTreeModel_65, by decide, by decide⟩ <|
  zm_ac (zm_jp rfl) <|
  zm_ac trivial <|
  zm_ac trivial <|
  zm_ac trivial <|
  zm_ac trivial <|
  zm_ac zk_get_NameTreeModel_75 <|
  zm_ac trivial <|
  zm_ac ⟨zk_virt_NameTreeModel_123, by decide, by decide⟩ <|
  zm_ac trivial <|
  zm_ac trivial <|
  zm_ac zk_get_NameTreeModel_7 <|
  zm_ac (zm_jp rfl) <|
  zm_ac trivial <|
  zm_ac trivial <|
  zm_ac trivial <|
  zm_ac zk_get_NameTreeModel_26 <|
  zm_ac trivial <|
  zm_ac trivial <|
  zm_ac trivial <|
  zm_ac trivial <|
  zm_ac trivial <|
  zm_ac trivial <|
  zm_ac trivial <|
  zm_ac trivial <|
  zm_ac ⟨zk_virt_NameTreeModel_139, by decide, by decide⟩ <|
  zm_ac trivial <|
  zm_ac zk_get_NameTreeModel_93 <|
  zm_ac (zm_jp rfl) <|
  zm_ac trivial <|
  zm_ac trivial <|
  zm_ac trivial <|
  zm_ac zk_get_NameTreeModel_75 <|
  zm_ac trivial <|
  zm_ac zk_get_NameTreeModel_81 <|
  zm_ac trivial <|
  zm_ac zk_get_NameTreeModel_78 <|
  zm_ac ⟨zk_virt_NameTreeModel_107, by decide, by decide⟩ <|
  zm_ac ⟨zk_virt_NameTreeModel_139, by decide, by decide⟩ <|
  zm_ac trivial <|
  zm_ac zk_get_NameTreeModel_26 <|
  zm_ac trivial <|
  zm_ac trivial <|
  zm_ac trivial <|
  zm_ac trivial <|
  zm_ac trivial <|
  zm_ac trivial <|
  zm_ac trivial <|
  zm_ac trivial <|
  zm_ac ⟨zk_virt_NameTreeModel_127, by decide, by decide⟩ <|
  zm_ac trivial <|
  zm_ac trivial <|
  zm_an
set_option maxRecDepth 100000 in
set_option maxHeartbeats 4000000 in
theorem zs_102 : ∀ q ∈ zc102, zm_rs 102 q.1 q.2.1 q.2.2.2.1 q.2.2.2.2.1 q.2.2.2.2.2 :=
  zm_ac trivial <|
  zm_ac ⟨zk_virt_NameTreeModel_130, by decide, by decide⟩ <|
  zm_ac trivial <|
  zm_ac trivial <|
  zm_ac trivial <|
  zm_ac (zm_jp rfl) <|
  zm_ac trivial <|
  zm_ac trivial <|
  zm_ac trivial <|
  zm_ac trivial <|
  zm_ac trivial <|
  zm_ac zk_get_NameTreeModel_58 <|
  zm_ac trivial <|
  zm_ac ⟨zk_virt_NameTreeModel_115, by decide, by decide⟩ <|
  zm_ac trivial <|
  zm_ac trivial <|
  zm_ac (zm_jp rfl) <|
  zm_ac trivial <|
  zm_ac (zm_jp rfl) <|
  zm_ac trivial <|
  zm_ac zk_get_NameTreeModel_93 <|
  zm_ac (zm_jp rfl) <|
  zm_ac trivial <|
  zm_ac (zm_jp rfl) <|
  zm_ac trivial <|
  zm_ac zk_get_NameTreeModel_93 <|
  zm_ac trivial <|
  zm_an
set_option maxRecDepth 100000 in
set_option maxHeartbeats 4000000 in
theorem zs_103 : ∀ q ∈ zc103, zm_rs 103 q.1 q.2.1 q.2.2.2.1 q.2.2.2.2.1 q.2.2.2.2.2 :=
  zm_ac trivial <|
  zm_ac ⟨zk_virt_NameTreeModel_130, by decide, by decide⟩ <|
  zm_ac trivial <|
  zm_ac trivial <|
  zm_ac trivial <|
  zm_ac (zm_jp rfl) <|
  zm_ac trivial <|
  zm_ac trivial <|
  zm_ac trivial <|
  zm_ac trivial <|
  zm_ac trivial <|
  zm_ac zk_get_NameTreeModel_58 <|
  zm_ac trivial <|
  zm_ac ⟨zk_virt_NameTreeModel_115, by decide, by decide⟩ <|
  zm_ac trivial <|
  zm_ac trivial <|
  zm_ac (zm_jp rfl) <|
  zm_ac trivial <|
  zm_ac trivial <|
  zm_ac trivial <|
  zm_ac zk_get_NameTreeModel_93 <|
  zm_ac (zm_jp rfl) <|
  zm_ac trivial <|
  zm_ac trivial <|
  zm_ac trivial <|
  zm_ac zk_get_NameTreeModel_20 <|
  zm_ac trivial <|
  zm_ac zk_get_NameTreeModel_93 <|
  zm_ac trivial <|
  zm_ac trivial <|
  zm_ac (zm_jp rfl) <|
  zm_ac trivial <|
  zm_ac zk_get_NameTreeModel_26 <|
  zm_ac trivial <|
  zm_ac zk_get_NameTreeModel_93 <|
  zm_ac trivial <|
  zm_ac trivial <|
  zm_ac (zm_jp rfl) <|
  zm_ac trivial <|
  zm_ac trivial <|
  zm_ac trivial <|
  zm_ac zk_get_NameTreeModel_26 <|
  zm_ac trivial <|
  zm_ac zk_get_NameTreeModel_93 <|
  zm_ac trivial <|
  zm_ac trivial <|
  zm_ac trivial <|
  zm_ac trivial <|
  zm_ac trivial <|
  zm_ac trivial <|
  zm_ac zk_get_NameTreeModel_93 <|
  zm_ac trivial <|
  zm_an
set_option maxRecDepth 100000 in
set_option maxHeartbeats 4000000 in
theorem zs_104 : ∀ q ∈ zc104, zm_rs 104 q.1 q.2.1 q.2.2.2.1 q.2.2.2.2.1 q.2.2.2.2.2 :=
  zm_ac trivial <|
  zm_ac trivial <|
  zm_ac (zm_jp rfl) <|
  zm_ac trivial <|
  zm_ac trivial <|
  zm_ac (zm_jp rfl) <|
  zm_ac trivial <|
  zm_ac zk_get_NameTreeModel_20 <|
  zm_ac trivial <|
  zm_ac trivial <|
  zm_ac (zm_jp rfl) <|
  zm_ac trivial <|
  zm_ac (zm_jp rfl) <|
  zm_ac trivial <|
  zm_ac trivial <|
  zm_an
set_option maxRecDepth 100000 in
set_option maxHeartbeats 4000000 in
theorem zs_105 : ∀ q ∈ zc105, zm_rs 105 q.1 q.2.1 q.2.2.2.1 q.2.2.2.2.1 q.2.2.2.2.2 :=
  zm_ac trivial <|
  zm_ac trivial <|
  zm_ac ⟨zk_virt_NameTreeModel_146, by decide, by decide⟩ <|
  zm_ac (zm_jp rfl) <|
  zm_ac trivial <|
  zm_ac zk_get_NameTreeModel_26 <|
  zm_ac trivial <|
  zm_ac trivial <|
  zm_ac (zm_jp rfl) <|
  zm_ac trivial <|
  zm_ac trivial <|
  zm_ac trivial <|
  zm_ac zk_get_NameTreeModel_26 <|
  zm_ac trivial <|
  zm_ac trivial <|
  zm_ac trivial <|
  zm_ac trivial <|
  zm_ac trivial <|
  zm_ac trivial <|
  zm_ac trivial <|
  zm_ac trivial <|
  zm_ac ⟨zk_virt_NameTreeModel_87, by decide, by decide⟩ <|
  zm_ac trivial <|
  zm_ac trivial <|
  zm_ac (zm_jp rfl) <|
  zm_ac trivial <|
  zm_ac zk_get_NameTreeModel_26 <|
  zm_ac trivial <|
  zm_ac trivial <|
  zm_ac (zm_jp rfl) <|
  zm_ac trivial <|
  zm_ac zk_get_NameTreeModel_20 <|
  zm_ac trivial <|
  zm_ac trivial <|
  zm_ac trivial <|
  zm_ac trivial <|
  zm_ac trivial <|
  zm_an
set_option maxRecDepth 100000 in
set_option maxHeartbeats 4000000 in
theorem zs_106 : ∀ q ∈ zc106, zm_rs 106 q.1 q.2.1 q.2.2.2.1 q.2.2.2.2.1 q.2.2.2.2.2 :=
  zm_ac trivial <|
  zm_ac trivial <|
  zm_ac trivial <|
  zm_ac trivial <|
  zm_ac trivial <|
  zm_ac trivial <|
  zm_ac zk_get_NameTreeModel_68 <|
  zm_ac (zm_jp rfl) <|
  zm_ac trivial <|
  zm_ac trivial <|
  zm_ac zk_get_NameTreeModel_37 <|
  zm_ac trivial <|
  zm_ac trivial <|
  zm_ac trivial <|
  zm_ac (zm_jp rfl) <|
  zm_ac trivial <|
  zm_ac zk_get_NameTreeModel_20 <|
  zm_ac trivial <|
  zm_ac zk_get_NameTreeModel_40 <|
  zm_ac trivial <|
  zm_ac trivial <|
  zm_ac trivial <|
  zm_ac trivial <|
  zm_ac (zm_jp rfl) <|
  zm_ac trivial <|
  zm_ac (zm_jp rfl) <|
  zm_ac trivial <|
  zm_ac trivial <|
  zm_ac trivial <|
  zm_ac trivial <|
  zm_ac (zm_jp rfl) <|
  zm_ac trivial <|
  zm_ac trivial <|
  zm_an
set_option maxRecDepth 100000 in
set_option maxHeartbeats 4000000 in
theorem zs_107 : ∀ q ∈ zc107, zm_rs 107 q.1 q.2.1 q.2.2.2.1 q.2.2.2.2.1 q.2.2.2.2.2 :=
  zm_ac trivial <|
  zm_ac trivial <|
  zm_ac ⟨zk_virt_NameTreeModel_146, by decide, by decide⟩ <|
  zm_ac (zm_jp rfl) <|
  zm_ac trivial <|
  zm_ac (zm_jp rfl) <|
  zm_ac trivial <|
  zm_ac trivial <|
  zm_ac (zm_jp rfl) <|
  zm_ac trivial <|
  zm_ac trivial <|
  zm_ac trivial <|
  zm_ac zk_get_NameTreeModel_20 <|
  zm_ac trivial <|
  zm_ac trivial <|
  zm_ac trivial <|
  zm_ac (zm_jp rfl) <|
  zm_ac trivial <|
  zm_ac (zm_jp rfl) <|
  zm_ac trivial <|
  zm_ac trivial <|
  zm_ac trivial <|
  zm_ac (zm_tsw (by decide) (by decide) (by decide) (by decide)) <|
  zm_ac trivial <|
  zm_ac zk_get_NameTreeModel_20 <|
  zm_ac trivial <|
  zm_ac trivial <|
  zm_ac trivial <|
  zm_ac trivial <|
  zm_ac (zm_jp rfl) <|
  zm_ac trivial <|
  zm_ac trivial <|
  zm_ac trivial <|
  zm_ac ⟨zk_virt_NameTreeModel_150, by decide, by decide⟩ <|
  zm_ac trivial <|
  zm_ac (zm_jp rfl) <|
  zm_ac trivial <|
  zm_ac trivial <|
  zm_ac ⟨zk_virt_NameTreeModel_87, by decide, by decide⟩ <|
  zm_ac trivial <|
  zm_ac trivial <|
  zm_ac (zm_jp rfl) <|
  zm_ac trivial <|
  zm_ac trivial <|
  zm_ac ⟨zk_virt_NameTreeModel_84, by decide, by decide⟩ <|
  zm_ac (zm_jp rfl) <|
  zm_ac trivial <|
  zm_ac zk_get_NameTreeModel_20 <|
  zm_ac trivial <|
  zm_ac trivial <|
  zm_ac trivial <|
  zm_ac (zm_jp rfl) <|
  zm_ac trivial <|
  zm_ac zk_get_NameTreeModel_29 <|
  zm_ac trivial <|
  zm_ac trivial <|
  zm_ac (zm_jp rfl) <|
  zm_ac trivial <|
  zm_ac zk_get_NameTreeModel_26 <|
  zm_ac trivial <|
  zm_ac trivial <|
  zm_ac trivial <|
  zm_ac trivial <|
  zm_ac trivial <|
  zm_ac ⟨zk_virt_NameTreeModel_65, by decide, by decide⟩ <|
  zm_ac trivial <|
  zm_ac trivial <|
  zm_ac (zm_jp rfl) <|
  zm_ac trivial <|
  zm_ac trivial <|
  zm_ac ⟨zk_virt_NameTreeModel_104, by decide, by decide⟩ <|
  zm_ac (zm_jp rfl) <|
  zm_ac trivial <|
  zm_ac trivial <|
  zm_an
set_option maxRecDepth 100000 in
set_option maxHeartbeats 4000000 in
theorem zs_108 : ∀ q ∈ zc108, zm_rs 108 q.1 q.2.1 q.2.2.2.1 q.2.2.2.2.1 q.2.2.2.2.2 :=
  zm_ac trivial <|
  zm_ac trivial <|
  zm_ac ⟨zk_virt_NameTreeModel_146, by decide, by decide⟩ <|
  zm_ac (zm_jp rfl) <|
  zm_ac trivial <|
  zm_ac zk_get_NameTreeModel_20 <|
  zm_ac trivial <|
  zm_ac trivial <|
  zm_ac trivial <|
  zm_ac (zm_jp rfl) <|
  zm_ac trivial <|
  zm_ac (zm_jp rfl) <|
  zm_ac trivial <|
  zm_ac trivial <|
  zm_ac zk_get_NameTreeModel_29 <|
  zm_ac trivial <|
  zm_ac trivial <|
  zm_ac (zm_jp rfl) <|
  zm_ac trivial <|
  zm_ac (zm_jp rfl) <|
  zm_ac trivial <|
  zm_ac zk_get_NameTreeModel_33 <|
  zm_ac trivial <|
  zm_ac trivial <|
  zm_ac trivial <|
  zm_ac trivial <|
  zm_ac trivial <|
  zm_ac trivial <|
  zm_ac trivial <|
  zm_ac trivial <|
  zm_ac trivial <|
  zm_an
set_option maxRecDepth 100000 in
set_option maxHeartbeats 4000000 in
theorem zs_109 : ∀ q ∈ zc109, zm_rs 109 q.1 q.2.1 q.2.2.2.1 q.2.2.2.2.1 q.2.2.2.2.2 :=
  zm_ac trivial <|
  zm_ac (zm_jp rfl) <|
  zm_ac trivial <|
  zm_ac ⟨zk_virt_NameTreeModel_153, by decide, by decide⟩ <|
  zm_ac (zm_jp rfl) <|
  zm_ac trivial <|
  zm_ac trivial <|
  zm_ac (zm_jp rfl) <|
  zm_ac trivial <|
  zm_ac zk_get_NameTreeModel_68 <|
  zm_ac (zm_jp rfl) <|
  zm_ac trivial <|
  zm_ac trivial <|
  zm_ac (zm_jp rfl) <|
  zm_ac trivial <|
  zm_ac zk_get_NameTreeModel_53 <|
  zm_ac (zm_jp rfl) <|
  zm_ac trivial <|
  zm_ac trivial <|
  zm_ac (zm_jp rfl) <|
  zm_ac trivial <|
  zm_ac ⟨zk_virt_NameTreeModel_119, by decide, by decide⟩ <|
  zm_ac (zm_jp rfl) <|
  zm_ac trivial <|
  zm_ac trivial <|
  zm_an
end
section
theorem zt_plain (x : Nat) : plainName (zt_nm x).cls = true := by
  have hall : ∀ m ∈ zt_nm_l, plainName m.cls = true := by decide +kernel
  unfold zt_nm
  rw [List.getD_eq_getElem?_getD]
  cases hx : zt_nm_l[x]? with
  | none => decide +kernel
  | some m => exact hall m (List.mem_of_getElem? hx)
theorem zt_cod_out (k : Nat) : zt_cod (k + 110) = [] := by
  unfold zt_cod
  rw [List.getD_eq_getElem?_getD, List.getElem?_eq_none (show zt_cod_l.length ≤ k + 110 from Nat.le_add_left _ _)]
  rfl
set_option maxRecDepth 100000 in
set_option maxHeartbeats 4000000 in
theorem zt_ok (M pc : Nat) (E : zm_E) (h : zt_code M pc = some E) : zm_ok M pc E := by
  match M, h with
  | 0, h => exact zm_okl rfl h ze_0 zs_0
  | 1, h => exact zm_okl rfl h ze_1 zs_1
  | 2, h => exact zm_okl rfl h ze_2 zs_2
  | 3, h => exact zm_okl rfl h ze_3 zs_3
  | 4, h => exact zm_okl rfl h ze_4 zs_4
  | 5, h => exact zm_okl rfl h ze_5 zs_5
  | 6, h => exact zm_okl rfl h ze_6 zs_6
  | 7, h => exact zm_okl rfl h ze_7 zs_7
  | 8, h => exact zm_okl rfl h ze_8 zs_8
  | 9, h => exact zm_okl rfl h ze_9 zs_9
  | 10, h => exact zm_okl rfl h ze_10 zs_10
  | 11, h => exact zm_okl rfl h ze_11 zs_11
  | 12, h => exact zm_okl rfl h ze_12 zs_12
  | 13, h => exact zm_okl rfl h ze_13 zs_13
  | 14, h => exact zm_okl rfl h ze_14 zs_14
  | 15, h => exact zm_okl rfl h ze_15 zs_15
  | 16, h => exact zm_okl rfl h ze_16 zs_16
  | 17, h => exact zm_okl rfl h ze_17 zs_17
  | 18, h => exact zm_okl rfl h ze_18 zs_18
  | 19, h => exact zm_okl rfl h ze_19 zs_19
  | 20, h => exact zm_okl rfl h ze_20 zs_20
  | 21, h => exact zm_okl rfl h ze_21 zs_21
  | 22, h => exact zm_okl rfl h ze_22 zs_22
  | 23, h => exact zm_okl rfl h ze_23 zs_23
  | 24, h => exact zm_okl rfl h ze_24 zs_24
  | 25, h => exact zm_okl rfl h ze_25 zs_25
  | 26, h => exact zm_okl rfl h ze_26 zs_26
  | 27, h => exact zm_okl rfl h ze_27 zs_27
  | 28, h => exact zm_okl rfl h ze_28 zs_28
  | 29, h => exact zm_okl rfl h ze_29 zs_29
  | 30, h => exact zm_okl rfl h ze_30 zs_30
  | 31, h => exact zm_okl rfl h ze_31 zs_31
  | 32, h => exact zm_okl rfl h ze_32 zs_32
  | 33, h => exact zm_okl rfl h ze_33 zs_33
  | 34, h => exact zm_okl rfl h ze_34 zs_34
  | 35, h => exact zm_okl rfl h ze_35 zs_35
  | 36, h => exact zm_okl rfl h ze_36 zs_36
  | 37, h => exact zm_okl rfl h ze_37 zs_37
  | 38, h => exact zm_okl rfl h ze_38 zs_38
  | 39, h => exact zm_okl rfl h ze_39 zs_39
  | 40, h => exact zm_okl rfl h ze_40 zs_40
  | 41, h => exact zm_okl rfl h ze_41 zs_41
  | 42, h => exact zm_okl rfl h ze_42 zs_42
  | 43, h => exact zm_okl rfl h ze_43 zs_43
  | 44, h => exact zm_okl rfl h ze_44 zs_44
  | 45, h => exact zm_okl rfl h ze_45 zs_45
  | 46, h => exact zm_okl rfl h ze_46 zs_46
  | 47, h => exact zm_okl rfl h ze_47 zs_47
  | 48, h => exact zm_okl rfl h ze_48 zs_48
  | 49, h => exact zm_okl rfl h ze_49 zs_49
  | 50, h => exact zm_okl rfl h ze_50 zs_50
  | 51, h => exact zm_okl rfl h ze_51 zs_51
  | 52, h => exact zm_okl rfl h ze_52 zs_52
  | 53, h => exact zm_okl rfl h ze_53 zs_53
  | 54, h => exact zm_okl rfl h ze_54 zs_54
  | 55, h => exact zm_okl rfl h ze_55 zs_55
  | 56, h => exact zm_okl rfl h ze_56 zs_56
  | 57, h => exact zm_okl rfl h ze_57 zs_57
  | 58, h => exact zm_okl rfl h ze_58 zs_58
  | 59, h => exact zm_okl rfl h ze_59 zs_59
  | 60, h => exact zm_okl rfl h ze_60 zs_60
  | 61, h => exact zm_okl rfl h ze_61 zs_61
  | 62, h => exact zm_okl rfl h ze_62 zs_62
  | 63, h => exact zm_okl rfl h ze_63 zs_63
  | 64, h => exact zm_okl rfl h ze_64 zs_64
  | 65, h => exact zm_okl rfl h ze_65 zs_65
  | 66, h => exact zm_okl rfl h ze_66 zs_66
  | 67, h => exact zm_okl rfl h ze_67 zs_67
  | 68, h => exact zm_okl rfl h ze_68 zs_68
  | 69, h => exact zm_okl rfl h ze_69 zs_69
  | 70, h => exact zm_okl rfl h ze_70 zs_70
  | 71, h => exact zm_okl rfl h ze_71 zs_71
  | 72, h => exact zm_okl rfl h ze_72 zs_72
  | 73, h => exact zm_okl rfl h ze_73 zs_73
  | 74, h => exact zm_okl rfl h ze_74 zs_74
  | 75, h => exact zm_okl rfl h ze_75 zs_75
  | 76, h => exact zm_okl rfl h ze_76 zs_76
  | 77, h => exact zm_okl rfl h ze_77 zs_77
  | 78, h => exact zm_okl rfl h ze_78 zs_78
  | 79, h => exact zm_okl rfl h ze_79 zs_79
  | 80, h => exact zm_okl rfl h ze_80 zs_80
  | 81, h => exact zm_okl rfl h ze_81 zs_81
  | 82, h => exact zm_okl rfl h ze_82 zs_82
  | 83, h => exact zm_okl rfl h ze_83 zs_83
  | 84, h => exact zm_okl rfl h ze_84 zs_84
  | 85, h => exact zm_okl rfl h ze_85 zs_85
  | 86, h => exact zm_okl rfl h ze_86 zs_86
  | 87, h => exact zm_okl rfl h ze_87 zs_87
  | 88, h => exact zm_okl rfl h ze_88 zs_88
  | 89, h => exact zm_okl rfl h ze_89 zs_89
  | 90, h => exact zm_okl rfl h ze_90 zs_90
  | 91, h => exact zm_okl rfl h ze_91 zs_91
  | 92, h => exact zm_okl rfl h ze_92 zs_92
  | 93, h => exact zm_okl rfl h ze_93 zs_93
  | 94, h => exact zm_okl rfl h ze_94 zs_94
  | 95, h => exact zm_okl rfl h ze_95 zs_95
  | 96, h => exact zm_okl rfl h ze_96 zs_96
  | 97, h => exact zm_okl rfl h ze_97 zs_97
  | 98, h => exact zm_okl rfl h ze_98 zs_98
  | 99, h => exact zm_okl rfl h ze_99 zs_99
  | 100, h => exact zm_okl rfl h ze_100 zs_100
  | 101, h => exact zm_okl rfl h ze_101 zs_101
  | 102, h => exact zm_okl rfl h ze_102 zs_102
  | 103, h => exact zm_okl rfl h ze_103 zs_103
  | 104, h => exact zm_okl rfl h ze_104 zs_104
  | 105, h => exact zm_okl rfl h ze_105 zs_105
  | 106, h => exact zm_okl rfl h ze_106 zs_106
  | 107, h => exact zm_okl rfl h ze_107 zs_107
  | 108, h => exact zm_okl rfl h ze_108 zs_108
  | 109, h => exact zm_okl rfl h ze_109 zs_109
  | k + 110, h =>
    unfold zt_code at h
    rw [zt_cod_out] at h
    cases h
end
section
theorem zm_ro_of {t : Nat} (h : zm_ro t = true) : ∃ C, zt_at t = some (.object C) := by
  unfold zm_ro at h
  split at h
  · next C e => exact ⟨C, e⟩
  · cases h
theorem zm_tl {G : zm_G} {r1 : Option Value} : r1.toList.map (zm_cv G) = (r1.map (zm_cv G)).toList := by cases r1 <;> rfl
theorem zm_rfo {G : zm_G} {v : Value} (h : zm_isK 2 v = true) : ∃ o : Option Nat, zm_cv G v = va_rf o := by
  rcases zm_isK2 h with rfl | ⟨a, rfl⟩
  · exact ⟨none, rfl⟩
  · exact ⟨some (zm_ad G a), rfl⟩
theorem zm_ad_inj {G : zm_G} {s : State} {h : zm_H} {H : Heap} (hw : zm_wl G s h H) {a b : Nat} (e : zm_ad G a = zm_ad G b) : a = b := by
  have w3 := hw.2.2.1
  unfold zm_ad at e
  split at e <;> split at e <;> omega
theorem zm_rfo_eq {G : zm_G} {s : State} {h : zm_H} {H : Heap} (hw : zm_wl G s h H) {a b : Value} {ra rb : Option Nat} (ka : zm_isK 2 a = true) (kb : zm_isK 2 b = true) (ea : zm_cv G a = va_rf ra) (eb : zm_cv G b = va_rf rb) : ra = rb ↔ a = b := by
  rcases zm_isK2 ka with rfl | ⟨x, rfl⟩ <;> rcases zm_isK2 kb with rfl | ⟨y, rfl⟩ <;> cases ra <;> cases rb <;> simp only [zm_cv, va_rf] at ea eb <;> first | (cases ea; done) | (cases eb; done) | skip
  · exact ⟨fun _ => rfl, fun _ => rfl⟩
  · exact ⟨fun z => (by cases z), fun z => (by cases z)⟩
  · exact ⟨fun z => (by cases z), fun z => (by cases z)⟩
  · cases ea
    cases eb
    exact ⟨fun z => by rw [zm_ad_inj hw (Option.some.inj z)], fun z => by cases z; rfl⟩
def zm_rm (x mc ms : Nat) : Room := { frames := zt_fr x, cells := mc, slots := ms, locals := zt_lc x }
def zm_Pc (G : zm_G) (av : List Value) (h : zm_H) : Array Value → State → Prop := va_Pc (av.map (zm_cv G)) (fun U => zm_wl G U h U.heap ∧ zm_K G U)
def zm_Qc (G : zm_G) (r : Option Value) (h' : zm_H) : Array Value → State → Outcome → State → Prop := fun _ st oc t => oc = .returned (r.map (zm_cv G)) ∧ zm_wl G t h' t.heap ∧ va_F (zm_A G) st t
def zt_wsM (M : Nat) : List Jvm.Cond := Jvm.Cond.code (zt_nm M) (zt_by M) (zt_ml M) (zt_rt M) :: zt_ws
def zm_Cx (G : zm_G) (p : Program) (R : Room) (s : State) (m : MethodId) (args : Array Value) (meth : Method) (c : Code) (M : Nat) : Prop :=
  p.tables.exec = Jvm.exec ∧ c.code = zt_by M ∧ c.maxLocals = zt_ml M ∧ s.vm.findClass (zt_own M) = some m.cls ∧ (∀ w ∈ zt_ws, w.before args s = true) ∧ zm_K G s ∧ zt_fr M ≤ R.frames ∧ zt_lc M ≤ R.locals ∧ ((zt_nm M).name = "<init>" → meth.name = "<init>")
def zm_Dy (G : zm_G) (s : State) (h0 h : zm_H) (H : Heap) (locs : List Loc) (cells slots : Nat) : Prop := zm_wl G s h H ∧ va_S (zm_A G) s.heap H locs ∧ zm_nx h = zm_nx h0 + cells ∧ zm_sl h = zm_sl h0 + slots
theorem zm_fit_cv {G : zm_G} {ty : FieldType} {v : Value} (h : zm_fit ty v = true) : zm_fit ty (zm_cv G v) = true := by
  cases v <;> first | exact h | (cases ty <;> first | rfl | exact absurd h (by simp [zm_fit]))
section
variable {l : Launch} {G : zm_G} {p : Program} {e : Env} {R : Room} {s : State} {m : MethodId} {args : Array Value} {below : List Frame} {meth : Method} {c : Code} {Q : State → Prop} {M pc : Nat} {H : Heap} {locs : List Loc} {cells slots : Nat} {lsA : Array Slot} {h h0 : zm_H} {rest : List Value}
theorem zm_getf {idx x y a : Nat} (X : zm_Cx G p R s m args meth c M) (hrf : zm_rf (zt_own M) idx x y) (hi : zm_is h a x) (hw : zm_wl G s h H) (hdg : decode (zt_by M) pc = .ok (.getfield idx, 3)) (k0 : W p l e R s m args below meth c H locs cells slots Q (F0 m (pc + 3) lsA (zm_cv G (zm_at h a y) :: rest))) : W p l e R s m args below meth c H locs cells slots Q (F0 m pc lsA (.ref (zm_ad G a) :: rest)) := by
  obtain ⟨hx, hb, hml, hown, hts, hK, -, -, -⟩ := X
  obtain ⟨q, hq, hy, hlk⟩ := hrf
  obtain ⟨ha0, han, htg⟩ := hi
  obtain ⟨hx1, hin, hty, hnm⟩ := zt_cls_ok x q hq
  have hce := hw.2.2.2.2.2 a ha0 han
  obtain ⟨q', hq', cell, q1, q2, q3, q4⟩ := hce.1 (by rw [htg]; exact hx1)
  rw [htg] at hq' q4
  cases hq.symm.trans hq'
  obtain ⟨hS, hfc, kC, hkC, hkind⟩ := hK.1 x q hq
  obtain ⟨cf, kf, fi, f, hi, hsl⟩ := hS y hy
  have hst := (u_facts hfc hkC (u_lays hts hin hy) hi).1
  have hslot : cell.slots[f.slot]? = some (zm_cv G (zm_at h a y)) := by rw [hsl]; exact q4 y hy
  exact W.getf hx hb hown (hts _ hlk) hi hst q1 (by rw [q3]; exact fun z => by cases z) hslot rfl rfl hdg k0
theorem zm_putf {idx x y a : Nat} {v : Value} (X : zm_Cx G p R s m args meth c M) (hrp : zm_rp (zt_own M) (zt_nm M).name idx x y) (hi : zm_is h a x) (hfv : zm_fit (zt_ty x y) v = true) (hw : zm_wl G s h H) (hS0 : va_S (zm_A G) s.heap H locs) (hdg : decode (zt_by M) pc = .ok (.putfield idx, 3))
    (k0 : ∀ (H' : Heap) (locs' : List Loc), zm_wl G s (zm_put h a y v) H' → va_S (zm_A G) s.heap H' locs' → W p l e R s m args below meth c H' locs' cells slots Q (F0 m (pc + 3) lsA rest)) : W p l e R s m args below meth c H locs cells slots Q (F0 m pc lsA (zm_cv G v :: .ref (zm_ad G a) :: rest)) := by
  obtain ⟨hx, hb, hml, hown, hts, hK, -, -, hmn⟩ := X
  obtain ⟨q, hq, hy, hlk, hfl⟩ := hrp
  obtain ⟨ha0, han, htg⟩ := hi
  obtain ⟨hx1, hin, hty, hnm⟩ := zt_cls_ok x q hq
  have hce := hw.2.2.2.2.2 a ha0 han
  obtain ⟨q', hq', cell, q1, q2, q3, q4⟩ := hce.1 (by rw [htg]; exact hx1)
  rw [htg] at hq' q2 q4
  cases hq.symm.trans hq'
  have hap := va_apart (own := "") (D := (G.1, G.2.1)) (cl := zt_cl) (tys := []) (C := q.1) (T := q.2.1) (N := q.2.2) (ci := x) hts hin (zt_ty x) hty hnm ⟨hK.1, fun k z hz => by simp at hz⟩ hq
  obtain ⟨hS, hfc, kC, hkC, hkind⟩ := hK.1 x q hq
  obtain ⟨cf, kf, fi, f, hi, hsl⟩ := hS y hy
  have hst := (u_facts hfc hkC (u_lays hts hin hy) hi).1
  have hd := hty y hy
  obtain ⟨hn1, hf1⟩ := zm_fit_ok (zm_fit_cv (G := G) hfv)
  have hlay := hts _ (hin _ (u_in_lay hy))
  unfold u_lay at hlay
  have hlt : f.slot < cell.slots.size := by rw [hsl]; exact k2_hasslot (q4 y hy)
  have done : ∀ H' : Heap, H'[zm_ad G a]? = some (cell.setSlot f.slot (zm_cv G v)) → H'.size = H.size → (∀ q, q ≠ zm_ad G a → H'[q]? = H[q]?) → W p l e R s m args below meth c H' (locs ++ [⟨zm_ad G a, f.slot⟩]) cells slots Q (F0 m (pc + 3) lsA rest) := by
    intro H' e1 e2 e3
    refine k0 H' _ (zm_wl_upd hw ha0 rfl (fun _ => rfl) (fun _ => rfl) (fun b j hb => ?_) e2 e3 ?_) (hS0.put e2 e3 (zm_A_ad ha0))
    · show (if b = a ∧ j = y then v else zm_at h b j) = zm_at h b j
      rw [if_neg (fun z => hb z.1)]
    · refine ⟨fun _ => ⟨q, by show zt_cl[zm_tg h a]? = some q; rw [htg]; exact hq, ?_⟩, fun hl => absurd hl (by show ¬ 100 ≤ zm_tg h a; rw [htg]; omega)⟩
      show t_OB (zm_ad G a) (G.1 (zm_tg h a)) q.2.2 (G.2.1 (zm_tg h a)) H' (fun k => zm_cv G (zm_at (zm_put h a y v) a k))
      rw [htg]
      rw [hsl] at e1
      refine t_OB.to (V := updV (fun k => zm_cv G (zm_at h a k)) y (zm_cv G v)) ⟨_, e1, q2, q3, t_set q4 hap hy (zm_cv G v)⟩ (fun j _ => ?_)
      show (if j = y then zm_cv G v else zm_cv G (zm_at h a j)) = zm_cv G (if a = a ∧ j = y then v else zm_at h a j)
      by_cases hj : j = y
      · rw [if_pos hj, if_pos ⟨rfl, hj⟩]
      · rw [if_neg hj, if_neg (fun z => hj z.2)]
  rcases hfl with hfin | ⟨hfin, hin2, hdecl⟩
  · rw [if_neg (by rw [hfin]; decide)] at hlay
    exact W.putK hx hb (f := f) ⟨hown, hts _ hlk, ⟨_, _, _, hi⟩, hst⟩ (by rw [q2]; exact u_store hfc hkC hkind hlay hi hd hn1 hf1) q1 q3 hlt rfl rfl hdg done
  · rw [if_pos hfin] at hlay
    have hcf : m.cls = cf := by
      obtain ⟨_, _, c', _, _, _, -, -, hf', -, -, -, hown2, -⟩ := Cond.laysFinal_spec hlay
      have e1 : c' = cf := by have := hi.symm.trans hf'; simp at this; exact this.1.symm
      rw [hdecl] at hown2
      rw [← e1]; exact Option.some.inj (hown.symm.trans hown2)
    exact W.putFinK hx hb hown (hts _ hlk) hi hst hcf (hmn hin2) (by rw [q2]; exact u_fits hfc hkC hkind (Or.inr hlay) hi hd hn1 hf1) q1 q3 hlt rfl rfl hdg done
theorem zm_arr {a : Nat} {ty : FieldType} (hK : zm_K G s) (hw : zm_wl G s h H) (ha : a < zm_nx h) (ht : zt_at (zm_tg h a) = some ty) : ∃ cell : Cell, H[zm_ad G a]? = some cell ∧ s.isArrayOf cell ty ∧ cell.vm ≠ .unknown ∧ cell.slots.size = zm_ln h a ∧ ∀ j, j < zm_ln h a → cell.slots[j]? = some (zm_cv G (zm_at h a j)) := by
  by_cases h0 : a = 0
  · subst h0
    obtain ⟨-, -, -, w4, ⟨scr, e1, e2, e3, e4, e5⟩, -⟩ := hw
    rw [w4, zt_at_101] at ht
    cases ht
    exact ⟨scr, e1, e2, e3, e4, e5⟩
  · have hce := hw.2.2.2.2.2 a (by omega) ha
    refine ⟨_, hce.2 (zt_at_100 _ _ ht), (hK.2.1 _ _ ht).1 _ _, fun z => (by cases z), arrV_size _ _ _, fun j hj => arrV_read _ _ hj⟩
/-- a place of an array that has been written -/
theorem zm_wl_ast {a j : Nat} {v : Value} {H' : Heap} (hw : zm_wl G s h H) (ha0 : 0 < a) (han : a < zm_nx h) (ht : 100 ≤ zm_tg h a) (e1 : H'[zm_ad G a]? = some ((arrV (G.2.2.1 (zm_tg h a)) (zm_ln h a) (fun j => zm_cv G (zm_at h a j))).setSlot j (zm_cv G v))) (e2 : H'.size = H.size) (e3 : ∀ q, q ≠ zm_ad G a → H'[q]? = H[q]?) : zm_wl G s (zm_put h a j v) H' := by
  refine zm_wl_upd hw ha0 rfl (fun _ => rfl) (fun _ => rfl) (fun b i hb => ?_) e2 e3 ⟨fun hl => absurd hl (by show ¬ zm_tg h a < 100; omega), fun _ => ?_⟩
  · show (if b = a ∧ i = j then v else zm_at h b i) = zm_at h b i
    rw [if_neg (fun z => hb z.1)]
  · rw [e1, arrV_store]
    show some (arrV _ _ _) = some (arrV (G.2.2.1 (zm_tg h a)) (zm_ln h a) (fun i => zm_cv G (if a = a ∧ i = j then v else zm_at h a i)))
    congr 2
    funext i
    show (if i = j then zm_cv G v else zm_cv G (zm_at h a i)) = _
    by_cases hj : i = j
    · rw [if_pos hj, if_pos ⟨rfl, hj⟩]
    · rw [if_neg hj, if_neg (fun z => hj z.2)]
theorem zm_cv_df (ty : FieldType) : zm_cv G (defaultValue ty) = defaultValue ty := by cases ty <;> rfl
theorem zm_cv_zdf (t : Nat) : zm_cv G (zm_df t) = zm_df t := by
  unfold zm_df
  split
  · rfl
  · split <;> rfl
theorem zm_newc {idx x y : Nat} (X : zm_Cx G p R s m args meth c M) (hrs : zm_rnw (zt_own M) idx x y ∧ ∀ j, j < y → defaultValue (zt_ty x j) = zt_df x j) (hw : zm_wl G s h H) (hS0 : va_S (zm_A G) s.heap H locs) (hcells : cells + 1 ≤ R.cells) (hslots : slots + y ≤ R.slots) (hdg : decode (zt_by M) pc = .ok (.new idx, 3))
    (k0 : ∀ H' : Heap, zm_wl G s (zm_mk h x y (zt_df x)) H' → va_S (zm_A G) s.heap H' locs → W p l e R s m args below meth c H' locs (cells + 1) (slots + y) Q (F0 m (pc + 3) lsA (.ref (zm_ad G (zm_nx h)) :: rest))) : W p l e R s m args below meth c H locs cells slots Q (F0 m pc lsA rest) := by
  obtain ⟨hx, hb, hml, hown, hts, hK, -, -, hmn⟩ := X
  obtain ⟨⟨q, hq, hqy, h1, h2, h3⟩, hdf⟩ := hrs
  obtain ⟨hx1, hin, hty, hnm⟩ := zt_cls_ok x q hq
  have hKn := hK.1 x q hq
  have hnx : zm_ad G (zm_nx h) = H.size := by rw [zm_ad_pos hw.2.1]; exact hw.1.symm
  rw [hnx] at k0
  refine W.newcK hx hb hown (hts _ h1) (hts _ h2) (hts _ h3) rfl hdg hcells hslots hKn.2.1 rfl fun H' kC hkC e1 z1 o1 => ?_
  have t1 : zm_tg (zm_mk h x y (zt_df x)) (zm_nx h) = x := by simp [zm_tg, zm_mk, zm_nx]
  have t2 : ∀ j, zm_at (zm_mk h x y (zt_df x)) (zm_nx h) j = zt_df x j := fun j => by simp [zm_at, zm_mk, zm_nx]
  refine k0 H' (zm_wl_mk hw z1 o1 ⟨fun _ => ⟨q, by rw [t1]; exact hq, ?_⟩, fun hl => absurd hl (by rw [t1]; omega)⟩) ⟨Nat.le_trans hS0.1 (by omega), fun z g1 g2 => (o1 z (Nat.lt_of_lt_of_le g1 hS0.1)).trans (hS0.2.1 z g1 g2), hS0.2.2⟩
  rw [t1, hnx]
  refine (u_born (zt_ty x) hts hin hKn hkC e1 hty).to (fun j hj => ?_)
  rw [t2, ← hdf j (by omega), zm_cv_df]
theorem zm_newa {t : ArrayType} {x : Nat} {n : Int32} (X : zm_Cx G p R s m args meth c M) (hrs : 100 ≤ x ∧ x < 200 ∧ zt_at x = some (newarray.typeOf t) ∧ Jvm.Cond.arrayClass (newarray.typeOf t) ∈ zt_ws ∧ defaultValue (newarray.typeOf t) = zm_df x ∧ componentBytes (newarray.typeOf t) ≤ 8) (hn : ¬ n < 0) (hbig : n.toNatClampNeg ≤ 60000000) (hw : zm_wl G s h H) (hS0 : va_S (zm_A G) s.heap H locs) (hcells : cells + 1 ≤ R.cells) (hslots : slots + n.toNatClampNeg ≤ R.slots) (hdg : decode (zt_by M) pc = .ok (.newarray t, 2))
    (k0 : ∀ H' : Heap, zm_wl G s (zm_mk h x n.toNatClampNeg (fun _ => zm_df x)) H' → va_S (zm_A G) s.heap H' locs → W p l e R s m args below meth c H' locs (cells + 1) (slots + n.toNatClampNeg) Q (F0 m (pc + 2) lsA (.ref (zm_ad G (zm_nx h)) :: rest))) : W p l e R s m args below meth c H locs cells slots Q (F0 m pc lsA (.int n :: rest)) := by
  obtain ⟨hx, hb, hml, hown, hts, hK, -, -, hmn⟩ := X
  obtain ⟨g1, g2, g3, g4, g5, g6⟩ := hrs
  have hnx : zm_ad G (zm_nx h) = H.size := by rw [zm_ad_pos hw.2.1]; exact hw.1.symm
  rw [hnx] at k0
  refine va_newaK hx hb (hts _ g4) rfl hdg rfl hn rfl (by
    have : n.toNatClampNeg * componentBytes (newarray.typeOf t) ≤ 60000000 * 8 := Nat.mul_le_mul hbig g6
    omega) hcells hslots rfl fun H' cA e1 z1 o1 hAr hNm => ?_
  have hcA : cA = G.2.2.1 x := by
    have hRA := (hK.2.1 x _ g3).2
    have : s.vm.findClass ("[" ++ (newarray.typeOf t).toString) = some (G.2.2.1 x) := by cases t <;> exact hRA
    exact Option.some.inj (hNm.symm.trans this)
  subst hcA
  have t1 : zm_tg (zm_mk h x n.toNatClampNeg (fun _ => zm_df x)) (zm_nx h) = x := by simp [zm_tg, zm_mk, zm_nx]
  have t2 : ∀ j, zm_at (zm_mk h x n.toNatClampNeg (fun _ => zm_df x)) (zm_nx h) j = zm_df x := fun j => by simp [zm_at, zm_mk, zm_nx]
  have t3 : zm_ln (zm_mk h x n.toNatClampNeg (fun _ => zm_df x)) (zm_nx h) = n.toNatClampNeg := by simp [zm_ln, zm_mk, zm_nx]
  refine k0 H' (zm_wl_mk hw z1 o1 ⟨fun hl => absurd hl (by rw [t1]; omega), fun _ => ?_⟩) ⟨Nat.le_trans hS0.1 (by omega), fun z g1 g2 => (o1 z (Nat.lt_of_lt_of_le g1 hS0.1)).trans (hS0.2.1 z g1 g2), hS0.2.2⟩
  rw [t1, t3, hnx, e1]
  congr 2
  funext j
  rw [t2, zm_cv_zdf, g5]
theorem zm_newq {idx x : Nat} {n : Int32} (X : zm_Cx G p R s m args meth c M) (hrs : zm_ran (zt_own M) idx x) (hn : ¬ n < 0) (hbig : n.toNatClampNeg ≤ 60000000) (hw : zm_wl G s h H) (hS0 : va_S (zm_A G) s.heap H locs) (hcells : cells + 1 ≤ R.cells) (hslots : slots + n.toNatClampNeg ≤ R.slots) (hdg : decode (zt_by M) pc = .ok (.anewarray idx, 3))
    (k0 : ∀ H' : Heap, zm_wl G s (zm_mk h x n.toNatClampNeg (fun _ => zm_df x)) H' → va_S (zm_A G) s.heap H' locs → W p l e R s m args below meth c H' locs (cells + 1) (slots + n.toNatClampNeg) Q (F0 m (pc + 3) lsA (.ref (zm_ad G (zm_nx h)) :: rest))) : W p l e R s m args below meth c H locs cells slots Q (F0 m pc lsA (.int n :: rest)) := by
  obtain ⟨hx, hb, hml, hown, hts, hK, -, -, hmn⟩ := X
  obtain ⟨g1, C, g3, g4, g5⟩ := hrs
  have hnx : zm_ad G (zm_nx h) = H.size := by rw [zm_ad_pos hw.2.1]; exact hw.1.symm
  rw [hnx] at k0
  refine W.anew hx hb hown (hts _ g5) (va_AO.use (hK.2.2.1 C g4)) rfl hdg rfl hn (by omega) hcells hslots fun cA kA comp f1 f2 f3 f4 => ?_
  have hcA : cA = G.2.2.1 x := by
    obtain ⟨_, _, _, _, _, r4⟩ := (hK.2.1 x _ g3).2
    exact Option.some.inj (f1.symm.trans r4)
  subst hcA
  have t1 : zm_tg (zm_mk h x n.toNatClampNeg (fun _ => zm_df x)) (zm_nx h) = x := by simp [zm_tg, zm_mk, zm_nx]
  have t2 : ∀ j, zm_at (zm_mk h x n.toNatClampNeg (fun _ => zm_df x)) (zm_nx h) j = zm_df x := fun j => by simp [zm_at, zm_mk, zm_nx]
  have t3 : zm_ln (zm_mk h x n.toNatClampNeg (fun _ => zm_df x)) (zm_nx h) = n.toNatClampNeg := by simp [zm_ln, zm_mk, zm_nx]
  have t4 : zm_df x = .null := by unfold zm_df; rw [if_neg (by omega), if_neg (by omega)]
  have o1 : ∀ q : Nat, q < H.size → (H.push ({ cls := G.2.2.1 x, slots := Array.replicate n.toNatClampNeg .null, vm := .none } : Cell))[q]? = H[q]? := fun q hq => by rw [Array.getElem?_push, if_neg (Nat.ne_of_lt hq)]
  have z1 : (H.push ({ cls := G.2.2.1 x, slots := Array.replicate n.toNatClampNeg .null, vm := .none } : Cell)).size = H.size + 1 := by rw [Array.size_push]
  refine k0 _ (zm_wl_mk hw z1 o1 ⟨fun hl => absurd hl (by rw [t1]; omega), fun _ => ?_⟩) ⟨Nat.le_trans hS0.1 (by omega), fun z g1 g2 => (o1 z (Nat.lt_of_lt_of_le g1 hS0.1)).trans (hS0.2.1 z g1 g2), hS0.2.2⟩
  rw [t1, t3, hnx, Array.getElem?_push_size, arrV_new]
  congr 2
  funext j
  rw [t2, zm_cv_zdf, t4]
/-- behind a call -/
theorem zm_back {h1 : zm_H} {r1 : Option Value} {a : Array Value} {st0 : List Value} (hr : va_Run p l e R s m args below meth c H locs cells slots (zm_nx h1 - zm_nx h) (zm_sl h1 - zm_sl h) (F0 m pc lsA st0) rest (zm_Qc G r1 h1 a) (zm_A G)) (hd : zm_Dy G s h0 h H locs cells slots) (hm : zm_nx h ≤ zm_nx h1 ∧ zm_sl h ≤ zm_sl h1)
    (k0 : ∀ (H' : Heap) (locs' : List Loc), zm_Dy G s h0 h1 H' locs' (cells + (zm_nx h1 - zm_nx h)) (slots + (zm_sl h1 - zm_sl h)) → W p l e R s m args below meth c H' locs' (cells + (zm_nx h1 - zm_nx h)) (slots + (zm_sl h1 - zm_sl h)) Q (F0 m (pc + 3) lsA ((r1.map (zm_cv G)).toList ++ rest))) : W p l e R s m args below meth c H locs cells slots Q (F0 m pc lsA st0) := by
  intro T hT X
  obtain ⟨v, st₀, t, T', L, g0, X', hL, e1, e2, ⟨hv, hw, hF⟩, st⟩ := hr T hT X
  obtain ⟨d1, d2, d3, d4⟩ := hd
  have hv : v = r1.map (zm_cv G) := Outcome.returned.inj hv
  subst hv
  have al : t.vm.Alike s.vm := by rw [← e2]; exact X'.warmed.alike.symm
  have hw' : zm_wl G s h1 T'.heap := by rw [e1]; exact hw.moved al
  have hS' : va_S (zm_A G) s.heap T'.heap (locs ++ L) := by
    refine ⟨Nat.le_trans d2.1 (by rw [e1, ← g0]; exact hF.1), fun q g1 g2 => ?_, fun q hq => ?_⟩
    · rw [e1, hF.2 q (by rw [g0]; exact Nat.lt_of_lt_of_le g1 d2.1) g2, g0]
      exact d2.2.1 q g1 g2
    · rcases List.mem_append.mp hq with z | z
      · exact d2.2.2 q z
      · exact hL q z
  obtain ⟨t2, a1, b1⟩ := k0 T'.heap (locs ++ L) ⟨hw', hS', by omega, by omega⟩ T' rfl X'
  exact ⟨t2, st t2 a1, b1⟩
theorem zm_good {x : Nat} (hc : Jvm.Cond.code (zt_nm x) (zt_by x) (zt_ml x) (zt_rt x) ∈ zt_ws) : GoodIn zt_ws (zt_wsM x) := by
  intro w hw
  rcases List.mem_cons.mp hw with rfl | hw
  · exact ⟨hc, good_of_word rfl⟩
  · exact ⟨hw, good_of_word (List.mem_filter.mp hw).2⟩
theorem zm_blind {av : List Value} : FrameBlind (zm_Pc G av h) := fun a U g mk q => ⟨q.1, q.2.1.moved (U := U.calling g mk a) (Vm.Alike.refl U.vm), zm_K.same (U := U.calling g mk a) rfl q.2.2⟩
theorem zm_pre {av : List Value} {A0 : Array Value} (hw : zm_wl G s h H) (hK : zm_K G s) (e : A0 = (av.map (zm_cv G)).toArray) : ∀ U : State, U.heap = H → s.WarmedH U.vm → zm_Pc G av h A0 U := fun U hU hW => ⟨e, by rw [hU]; exact hw.moved hW.alike, hK.moved hW⟩
theorem zm_mid : ∀ (st : List Value) (y : Nat) (v : Value), st[y]? = some v → st = st.take y ++ v :: st.drop (y + 1)
  | [], _, _, h => by simp at h
  | a :: l, 0, v, h => by cases h; rfl
  | a :: l, y + 1, v, h => by
    have := zm_mid l y v h
    show a :: l = a :: (l.take y ++ v :: l.drop (y + 1))
    rw [← this]
theorem zm_arv {st : List Value} {y : Nat} {v : Value} (h : st[y]? = some v) : zm_ar (y + 1) st = v :: (st.take y).reverse := by
  unfold zm_ar
  have e : st.take (y + 1) = st.take y ++ [v] := by rw [List.take_succ, h]; rfl
  rw [e, List.reverse_append]
  rfl
theorem zm_sum : ∀ (t : List Value), (t.map fun v => v.category).sum ≤ 2 * t.length
  | [] => Nat.le_refl _
  | v :: t => by
    have := zm_sum t
    have h2 : v.category ≤ 2 := by rcases lv_cat v with h | h <;> omega
    simp only [List.map_cons, List.sum_cons, List.length_cons]
    omega
theorem zm_cB {idx x y mc ms : Nat} (X : zm_Cx G p R s m args meth c M) (hcd : zm_cd0 x y) (hroom : zt_fr x + 1 ≤ zt_fr M ∧ 8 + (zt_ml x + 11) + zt_lc x ≤ zt_lc M) (hl : Jvm.Cond.methodLink (zt_own M) idx (zt_nm x) ∈ zt_ws) : CallB R s args (zt_own M) idx (zt_nm x) (zt_by x) (zt_ml x) (zt_rt x) (zt_wsM x) (zm_rm x mc ms) mc ms y := by
  obtain ⟨hx, hb, hml, hown, hts, hK, hfr, hlo, hmn⟩ := X
  obtain ⟨c1, c2, c3, c4, c5⟩ := hcd
  refine ⟨rfl, rfl, Nat.le_trans hroom.1 hfr, Nat.le_trans hroom.2 hlo, pay_in hts (zm_good c1), List.mem_cons_self, hts _ c1, hts _ c2, c4, fun sig h => ?_, hts _ hl⟩
  rw [h] at c5
  exact (Option.some.inj c5).symm
theorem zm_cN {idx x y mc ms : Nat} {host : String} (X : zm_Cx G p R s m args meth c M) (hcd : zm_cd0 x y) (hroom : zt_fr x + 1 ≤ zt_fr M ∧ 8 + (zt_ml x + 11) + zt_lc x ≤ zt_lc M) (hl : (zt_own M, idx, zt_nm x, host) ∈ zt_nm2) : va_CN R s args (zt_own M) idx (zt_nm x) host (zt_by x) (zt_ml x) (zt_rt x) (zt_wsM x) (zm_rm x mc ms) mc ms y := by
  obtain ⟨hx, hb, hml, hown, hts, hK, hfr, hlo, hmn⟩ := X
  obtain ⟨c1, c2, c3, c4, c5⟩ := hcd
  refine ⟨⟨rfl, rfl, Nat.le_trans hroom.1 hfr, Nat.le_trans hroom.2 hlo, pay_in hts (zm_good c1), List.mem_cons_self⟩, hts _ c1, hts _ c2, c4, fun sig h => ?_, va_Nw.use rfl (hK.2.2.2 _ hl)⟩
  rw [h] at c5
  exact (Option.some.inj c5).symm
variable {st : List Value} {r1 : Option Value} {h1 : zm_H}
theorem zm_cS {idx x y mc ms : Nat} (X : zm_Cx G p R s m args meth c M) (hcd : zm_cd0 x y) (hroom : zt_fr x + 1 ≤ zt_fr M ∧ 8 + (zt_ml x + 11) + zt_lc x ≤ zt_lc M) (hlk : zm_lk (zt_own M) idx x) (hstt : Jvm.Cond.static (zt_nm x) ∈ zt_ws) (hM : Met l (zt_nm x) (zt_wsM x) (zm_rm x mc ms) (zm_Pc G (zm_ar y st) h) (zm_Qc G r1 h1) mc ms (zm_A G)) (hw : zm_wl G s h H) (hlen : y ≤ st.length) (h4 : (st.drop y).length ≤ 4) (hsz : lsA.size = zt_ml M) (hdg : decode (zt_by M) pc = .ok (.invokestatic idx, 3)) (hf : cells + mc ≤ R.cells ∧ slots + ms ≤ R.slots) :
    va_Run p l e R s m args below meth c H locs cells slots mc ms (F0 m pc lsA (st.map (zm_cv G))) ((st.drop y).map (zm_cv G)) (zm_Qc G r1 h1 ((zm_ar y st).map (zm_cv G)).toArray) (zm_A G) := by
  have X0 := X
  obtain ⟨hx, hb, hml, hown, hts, hK, hfr, hlo, hmn⟩ := X
  have hn : ((zm_ar y st).map (zm_cv G)).length = y := by simp [zm_ar]; omega
  have hstk : (F0 m pc lsA (st.map (zm_cv G))).stack = ((zm_ar y st).map (zm_cv G)).reverse ++ (st.drop y).map (zm_cv G) := by
    show st.map (zm_cv G) = _
    rw [zm_ar, ← List.map_reverse, List.reverse_reverse, ← List.map_append, List.take_append_drop]
  have hrm : 2 * (F0 m pc lsA (st.map (zm_cv G))).monitorRoom + (((st.drop y).map (zm_cv G)).map fun v => v.category).sum ≤ 8 := lv_room (Nat.le_trans (zm_sum _) (by rw [List.length_map]; omega))
  rcases hlk with hlk | ⟨host, hlk⟩
  · exact va_runS ⟨hx, hb, hml, hown, hts⟩ hM ⟨zm_cB X0 hcd hroom hlk, hts _ hstt⟩ ⟨zm_blind, zm_pre hw hK rfl⟩ rfl hn hsz hstk hrm hdg hf
  · exact va_runSN ⟨hx, hb, hml, hown, hts⟩ hM ⟨zm_cN X0 hcd hroom hlk, hts _ hstt, trivial⟩ ⟨zm_blind, zm_pre hw hK rfl⟩ rfl hn hsz hstk hrm hdg hf
theorem zm_cI {idx x y mc ms a : Nat} (X : zm_Cx G p R s m args meth c M) (hcd : zm_cd0 x y) (hroom : zt_fr x + 1 ≤ zt_fr M ∧ 8 + (zt_ml x + 11) + zt_lc x ≤ zt_lc M) (hlk : zm_lk (zt_own M) idx x) (hin : Jvm.Cond.instanceMethod (zt_nm x) ∈ zt_ws) (hy1 : (zt_nm x).name = "<init>") (hrt : zt_rt x = none) (ha : st[y]? = some (.ref a)) (hM : Met l (zt_nm x) (zt_wsM x) (zm_rm x mc ms) (zm_Pc G (zm_ar (y + 1) st) h) (zm_Qc G r1 h1) mc ms (zm_A G)) (hw : zm_wl G s h H) (h4 : (st.drop (y + 1)).length ≤ 4) (hsz : lsA.size = zt_ml M) (hdg : decode (zt_by M) pc = .ok (.invokespecial idx, 3)) (hf : cells + mc ≤ R.cells ∧ slots + ms ≤ R.slots) :
    va_Run p l e R s m args below meth c H locs cells slots mc ms (F0 m pc lsA (st.map (zm_cv G))) ((st.drop (y + 1)).map (zm_cv G)) (zm_Qc G r1 h1 (.ref (zm_ad G a) :: ((st.take y).reverse.map (zm_cv G))).toArray) (zm_A G) := by
  have X0 := X
  obtain ⟨hx, hb, hml, hown, hts, hK, hfr, hlo, hmn⟩ := X
  have hlt : y < st.length := (List.getElem?_eq_some_iff.mp ha).1
  have hn : ((st.take y).reverse.map (zm_cv G)).length = y := by simp; omega
  have hstk : (F0 m pc lsA (st.map (zm_cv G))).stack = ((st.take y).reverse.map (zm_cv G)).reverse ++ .ref (zm_ad G a) :: (st.drop (y + 1)).map (zm_cv G) := by
    show st.map (zm_cv G) = _
    conv => lhs; rw [zm_mid st y _ ha]
    rw [← List.map_reverse, List.reverse_reverse, List.map_append]
    rfl
  have hrm : 2 * (F0 m pc lsA (st.map (zm_cv G))).monitorRoom + (((st.drop (y + 1)).map (zm_cv G)).map fun v => v.category).sum ≤ 8 := lv_room (Nat.le_trans (zm_sum _) (by rw [List.length_map]; omega))
  have hpre : (Value.ref (zm_ad G a) :: ((st.take y).reverse.map (zm_cv G))).toArray = ((zm_ar (y + 1) st).map (zm_cv G)).toArray := by rw [zm_arv ha]; rfl
  have cB := fun hlk => zm_cB (mc := mc) (ms := ms) (idx := idx) X0 hcd hroom hlk
  have cN := fun host hlk => zm_cN (mc := mc) (ms := ms) (host := host) (idx := idx) X0 hcd hroom hlk
  rw [hrt] at cB cN
  rcases hlk with hlk | ⟨host, hlk⟩
  · exact va_runI ⟨hx, hb, hml, hown, hts⟩ hM ⟨cB hlk, hy1, hts _ hin⟩ ⟨zm_blind, zm_pre hw hK hpre⟩ rfl hn hsz hstk hrm hdg hf
  · exact va_runIN ⟨hx, hb, hml, hown, hts⟩ hM ⟨cN host hlk, hy1, hts _ hin⟩ ⟨zm_blind, zm_pre hw hK hpre⟩ rfl hn hsz hstk hrm hdg hf
theorem zm_cV {idx x y mc ms a : Nat} (X : zm_Cx G p R s m args meth c M) (hcd : zm_cd0 x y) (hroom : zt_fr x + 1 ≤ zt_fr M ∧ 8 + (zt_ml x + 11) + zt_lc x ≤ zt_lc M) (hlk : zm_lk (zt_own M) idx x) (hin : Jvm.Cond.instanceMethod (zt_nm x) ∈ zt_ws) (hse : Jvm.Cond.selects (zt_own x) (zt_nm x) (zt_nm x) ∈ zt_ws) (hmc : ∃ q : vw_C, zt_cl[zt_mc x]? = some q ∧ q.1 = zt_own x) (ha : st[y]? = some (.ref a)) (hia : zm_is h a (zt_mc x)) (hM : Met l (zt_nm x) (zt_wsM x) (zm_rm x mc ms) (zm_Pc G (zm_ar (y + 1) st) h) (zm_Qc G r1 h1) mc ms (zm_A G)) (hw : zm_wl G s h H) (h4 : (st.drop (y + 1)).length ≤ 4) (hsz : lsA.size = zt_ml M) (hdg : decode (zt_by M) pc = .ok (.invokevirtual idx, 3)) (hf : cells + mc ≤ R.cells ∧ slots + ms ≤ R.slots) :
    va_Run p l e R s m args below meth c H locs cells slots mc ms (F0 m pc lsA (st.map (zm_cv G))) ((st.drop (y + 1)).map (zm_cv G)) (zm_Qc G r1 h1 (.ref (zm_ad G a) :: ((st.take y).reverse.map (zm_cv G))).toArray) (zm_A G) := by
  have X0 := X
  obtain ⟨hx, hb, hml, hown, hts, hK, hfr, hlo, hmn⟩ := X
  have hlt : y < st.length := (List.getElem?_eq_some_iff.mp ha).1
  have hn : ((st.take y).reverse.map (zm_cv G)).length = y := by simp; omega
  have hstk : (F0 m pc lsA (st.map (zm_cv G))).stack = ((st.take y).reverse.map (zm_cv G)).reverse ++ .ref (zm_ad G a) :: (st.drop (y + 1)).map (zm_cv G) := by
    show st.map (zm_cv G) = _
    conv => lhs; rw [zm_mid st y _ ha]
    rw [← List.map_reverse, List.reverse_reverse, List.map_append]
    rfl
  have hrm : 2 * (F0 m pc lsA (st.map (zm_cv G))).monitorRoom + (((st.drop (y + 1)).map (zm_cv G)).map fun v => v.category).sum ≤ 8 := lv_room (Nat.le_trans (zm_sum _) (by rw [List.length_map]; omega))
  have hpre : (Value.ref (zm_ad G a) :: ((st.take y).reverse.map (zm_cv G))).toArray = ((zm_ar (y + 1) st).map (zm_cv G)).toArray := by rw [zm_arv ha]; rfl
  obtain ⟨q, hq, hqn⟩ := hmc
  obtain ⟨i1, i2, i3⟩ := hia
  have hrecv : ∃ cellB : Cell, H[zm_ad G a]? = some cellB ∧ cellB.vm.isStatics = false ∧ s.vm.findClass (zt_own x) = some cellB.cls := by
    obtain ⟨q', hq', cell, q1, q2, q3, -⟩ := (hw.2.2.2.2.2 a i1 i2).1 (by rw [i3]; exact (zt_cls_ok _ q hq).1)
    rw [i3] at q2
    exact ⟨cell, q1, by rw [q3]; rfl, by rw [q2, ← hqn]; exact (hK.1 _ q hq).2.1⟩
  rcases hlk with hlk | ⟨host, hlk⟩
  · exact va_runV ⟨hx, hb, hml, hown, hts⟩ hM ⟨zm_cB X0 hcd hroom hlk, hts _ hin, hts _ hse⟩ ⟨zm_blind, hrecv, zm_pre hw hK hpre⟩ rfl hn hsz hstk hrm hdg hf
  · exact va_runVN ⟨hx, hb, hml, hown, hts⟩ hM ⟨zm_cN X0 hcd hroom hlk, hts _ hin, hts _ hse⟩ ⟨zm_blind, hrecv, zm_pre hw hK hpre⟩ rfl hn hsz hstk hrm hdg hf
end
section
variable {l : Launch} {G : zm_G} {p : Program} {e : Env} {R : Room} {s : State} {m : MethodId} {args : Array Value} {below : List Frame} {meth : Method} {c : Code} {Q : State → Prop} {M pc : Nat} {H : Heap} {locs : List Loc} {cells slots : Nat} {lsA : Array Slot} {h h0 h' : zm_H} {rest : List Value}
theorem zm_nn {z : Int32} (hz : ¬ z < 0) : z.toInt = (z.toNatClampNeg : Int) := by
  have hz0 : (0 : Int) ≤ z.toInt := by
    have := Int32.not_lt.mp hz
    simpa using Int32.le_iff_toInt_le.mp this
  show z.toInt = ((z.toInt.toNat : Nat) : Int)
  omega
theorem zm_copy {idx a b : Nat} {sp dp n : Int32} (X : zm_Cx G p R s m args meth c M) (hl1 : Jvm.Cond.methodLink (zt_own M) idx arraycopyName ∈ zt_ws) (hl2 : Jvm.Cond.native arraycopyName ∈ zt_ws) (hl3 : Jvm.Cond.static arraycopyName ∈ zt_ws) (hl4 : Jvm.Cond.initialized "java/lang/System" ∈ zt_ws)
    (hia : zm_is h a 100) (hib : zm_is h b 100) (hro : 1 ≤ zt_fr M ∧ 26 ≤ zt_lc M) (h1 : ¬ sp < 0) (h2 : ¬ dp < 0) (h3 : ¬ n < 0) (h4 : sp.toNatClampNeg + n.toNatClampNeg ≤ zm_ln h a) (h5 : dp.toNatClampNeg + n.toNatClampNeg ≤ zm_ln h b) (hfv : ∀ i, i < n.toNatClampNeg → zm_fit .byte (zm_at h a (sp.toNatClampNeg + i)) = true)
    (hw : zm_wl G s h H) (hS : va_S (zm_A G) s.heap H locs) (hsz : lsA.size = zt_ml M) (hr : rest.length ≤ 4) (hdg : decode (zt_by M) pc = .ok (.invokestatic idx, 3))
    (k0 : ∀ (H' : Heap) (locs' : List Loc), zm_wl G s (zm_cp h a sp.toNatClampNeg b dp.toNatClampNeg n.toNatClampNeg) H' → va_S (zm_A G) s.heap H' locs' → W p l e R s m args below meth c H' locs' cells slots Q (F0 m (pc + 3) lsA rest)) : W p l e R s m args below meth c H locs cells slots Q (F0 m pc lsA (.int n :: .int dp :: .ref (zm_ad G b) :: .int sp :: .ref (zm_ad G a) :: rest)) := by
  obtain ⟨hx, hb, hml, hown, hts, hK, hfr, hlo, hmn⟩ := X
  obtain ⟨a1, a2, a3⟩ := hia
  obtain ⟨b1, b2, b3⟩ := hib
  have hca := (hw.2.2.2.2.2 a a1 a2).2 (by omega)
  have hcb := (hw.2.2.2.2.2 b b1 b2).2 (by omega)
  rw [a3] at hca
  rw [b3] at hcb
  obtain ⟨-, k0', hk0, cm0, hkk0⟩ := (hK.2.1 100 .byte zt_at_b).1 (zm_ln h a) (fun j => zm_cv G (zm_at h a j))
  have hsum : (rest.map fun v => v.category).sum ≤ 8 := Nat.le_trans (zm_sum _) (by omega)
  intro T hT XT
  obtain ⟨vm', X', step⟩ := XT.arraycopy hx hown (hts _ hl1) (hts _ hl2) (hts _ hl3) (hts _ hl4) (src := zm_ad G a) (dst := zm_ad G b) (cs := arrV (G.2.2.1 100) (zm_ln h a) (fun j => zm_cv G (zm_at h a j))) (cd := arrV (G.2.2.1 100) (zm_ln h b) (fun j => zm_cv G (zm_at h b j))) (srcPos := sp) (destPos := dp) (n := n) (by rw [hT]; exact hca) (by rw [hT]; exact hcb)
    (fun _ z => by cases z) (fun _ z => by cases z) (fun z => by cases z) (fun z => by cases z) hk0 hk0 hkk0 hkk0 (by decide) h1 h2 h3
    (by rw [zm_nn h1, zm_nn h3, arrV_size]; omega)
    (by rw [zm_nn h2, zm_nn h3, arrV_size]; omega)
    (fun vm₁ _ i hi => by
      have e : (arrV (G.2.2.1 100) (zm_ln h a) (fun j => zm_cv G (zm_at h a j))).slots.getD (sp.toNatClampNeg + i) .null = zm_cv G (zm_at h a (sp.toNatClampNeg + i)) := by
        rw [Array.getD_eq_getD_getElem?, arrV_read _ _ (by omega)]
        rfl
      have hfi := hfv i hi
      refine ⟨by rw [e]; exact (zm_fit_ok (zm_fit_cv hfi)).2, ?_⟩
      rw [e]
      cases hz : zm_at h a (sp.toNatClampNeg + i) with
      | int z => exact trivial
      | _ => rw [hz] at hfi; simp [zm_fit] at hfi)
    (g := F0 m pc lsA (.int n :: .int dp :: .ref (zm_ad G b) :: .int sp :: .ref (zm_ad G a) :: rest)) rfl (by rw [hml]; exact hsz) (rest := rest) rfl (by rw [hb]; exact hdg) (by omega) (by
      have : nativeFrameWords "java/lang/System" "arraycopy" 5 + 11 = 18 := by decide
      show 2 * 0 + _ + _ ≤ _
      omega)
  have e1 : copied (arrV (G.2.2.1 100) (zm_ln h a) (fun j => zm_cv G (zm_at h a j))) (arrV (G.2.2.1 100) (zm_ln h b) (fun j => zm_cv G (zm_at h b j))) sp dp n = arrV (G.2.2.1 100) (zm_ln h b) (fun j => zm_cv G (va_cpy (zm_at h a) (zm_at h b) sp.toNatClampNeg dp.toNatClampNeg n.toNatClampNeg j)) := va_copied (zm_cv G) _ _ (zm_at h a) (zm_at h b) h4
  rw [e1] at X' step
  have hlt : zm_ad G b < H.size := (Array.getElem?_eq_some_iff.mp hcb).1
  generalize hcell : arrV (G.2.2.1 100) (zm_ln h b) (fun j => zm_cv G (va_cpy (zm_at h a) (zm_at h b) sp.toNatClampNeg dp.toNatClampNeg n.toNatClampNeg j)) = cell1 at X' step
  have hheap : ((T.setVm vm').setCell (zm_ad G b) cell1).heap = H.setIfInBounds (zm_ad G b) cell1 := by rw [← hT]; rfl
  have oq : ∀ q : Nat, q ≠ zm_ad G b → (H.setIfInBounds (zm_ad G b) cell1)[q]? = H[q]? := fun q hq => by simp [Array.getElem?_setIfInBounds, Ne.symm hq]
  have e5 : (H.setIfInBounds (zm_ad G b) cell1)[zm_ad G b]? = some cell1 := by simp [Array.getElem?_setIfInBounds, hlt]
  have z5 : (H.setIfInBounds (zm_ad G b) cell1).size = H.size := by simp
  obtain ⟨t, q1, q2⟩ := k0 (H.setIfInBounds (zm_ad G b) cell1) (locs ++ ((arrV (G.2.2.1 100) (zm_ln h a) (fun j => zm_cv G (zm_at h a j))).stretch sp.toNatClampNeg n.toNatClampNeg).zipIdx.map fun q => ⟨zm_ad G b, dp.toNatClampNeg + q.2⟩)
    (zm_wl_upd hw b1 rfl (fun _ => rfl) (fun _ => rfl) (fun b' j hb' => by
        show (if b' = b ∧ _ ∧ _ then _ else zm_at h b' j) = zm_at h b' j
        rw [if_neg (fun z => hb' z.1)]) z5 oq
      ⟨fun hl => absurd hl (by show ¬ zm_tg h b < 100; omega), fun _ => by
        show _ = some (arrV (G.2.2.1 (zm_tg h b)) (zm_ln h b) (fun j => zm_cv G (if b = b ∧ dp.toNatClampNeg ≤ j ∧ j < dp.toNatClampNeg + n.toNatClampNeg then zm_at h a (sp.toNatClampNeg + (j - dp.toNatClampNeg)) else zm_at h b j)))
        rw [e5, ← hcell, b3]
        congr 2
        funext j
        congr 1
        show (if dp.toNatClampNeg ≤ j ∧ j < dp.toNatClampNeg + n.toNatClampNeg then zm_at h a (sp.toNatClampNeg + (j - dp.toNatClampNeg)) else zm_at h b j) = _
        by_cases hj : dp.toNatClampNeg ≤ j ∧ j < dp.toNatClampNeg + n.toNatClampNeg
        · rw [if_pos hj, if_pos ⟨rfl, hj⟩]
        · rw [if_neg hj, if_neg (fun z => hj z.2)]⟩)
    ⟨by rw [z5]; exact hS.1, fun q g1 g2 => by
      rw [oq q (fun z => g2 (by rw [z]; exact zm_A_ad b1))]
      exact hS.2.1 q g1 g2, fun q hq => by
      rcases List.mem_append.mp hq with z | z
      · exact hS.2.2 q z
      · obtain ⟨w, -, hz⟩ := List.mem_map.mp z
        rw [← hz]
        exact zm_A_ad b1⟩ _ hheap X'
  exact ⟨t, step t q1, q2⟩
variable {C : Nat → List Value → zm_H → Option Value → zm_H → Prop} {k : Nat → List Value → List Value → zm_H → Prop} {r : Option Value}
set_option maxHeartbeats 4000000 in
theorem zm_step (X : zm_Cx G p R s m args meth c M) (hR : zm_nx h' ≤ zm_nx h0 + R.cells ∧ zm_sl h' ≤ zm_sl h0 + R.slots)
    (hm : ∀ pc ls st h, k pc ls st h → zm_nx h ≤ zm_nx h' ∧ zm_sl h ≤ zm_sl h')
    (hC : ∀ x a h r1 h1, C x a h r1 h1 → (zm_nx h ≤ zm_nx h1 ∧ zm_sl h ≤ zm_sl h1) ∧ Met l (zt_nm x) (zt_wsM x) (zm_rm x (zm_nx h1 - zm_nx h) (zm_sl h1 - zm_sl h)) (zm_Pc G a h) (zm_Qc G r1 h1) (zm_nx h1 - zm_nx h) (zm_sl h1 - zm_sl h) (zm_A G))
    (hend : ∀ (i : Instr) (pc : Nat) (st : List Value) (h : zm_H) (lsA : Array Slot) (H : Heap) (locs : List Loc) (cells slots : Nat), (i = .ireturn ∨ i = .areturn ∨ i = .return_) → (∀ np x y sw ls, zm_ex C k np x y sw ls st h (zt_rt M) r h' i) → decode (zt_by M) pc = .ok (i, 1) → zm_Dy G s h0 h H locs cells slots → W p l e R s m args below meth c H locs cells slots Q (F0 m pc lsA (st.map (zm_cv G))))
    (kk : ∀ (pc : Nat) (ls st : List Value) (h : zm_H) (lsA : Array Slot) (H : Heap) (locs : List Loc) (cells slots : Nat), k pc ls st h → zm_lr G (zt_ml M) ls lsA → zm_Dy G s h0 h H locs cells slots → W p l e R s m args below meth c H locs cells slots Q (F0 m pc lsA (st.map (zm_cv G))))
    {i : Instr} {np x y : Nat} {sw : List (Int × Nat)} (ok : zm_ok M pc (i, np, x, y, sw)) {ls st : List Value} (hx : zm_ex C k np x y sw ls st h (zt_rt M) r h' i) (hl : zm_lr G (zt_ml M) ls lsA) (hd : zm_Dy G s h0 h H locs cells slots) :
    W p l e R s m args below meth c H locs cells slots Q (F0 m pc lsA (st.map (zm_cv G))) := by
  obtain ⟨⟨len, hdg, hlen⟩, hrs⟩ := ok
  dsimp only at hdg hlen hrs
  have X0 := X
  obtain ⟨hX, hB, hml, hown, hts, hK, hfr, hlo, hmn⟩ := X
  have hd0 := hd
  obtain ⟨hw, hS, hc1, hc2⟩ := hd
  have hsz : lsA.size = zt_ml M := hl.2.1
  cases i with
  | iconst v =>
    obtain ⟨rfl, rfl⟩ := hlen rfl
    exact lv_iconst hX hB hdg rfl (kk _ _ _ _ _ _ _ _ _ hx hl hd0)
  | bipush v =>
    obtain ⟨rfl, rfl⟩ := hlen rfl
    exact lv_bipush hX hB hdg rfl (kk _ _ _ _ _ _ _ _ _ hx hl hd0)
  | sipush v =>
    obtain ⟨rfl, rfl⟩ := hlen rfl
    exact lv_sipush hX hB hdg rfl (kk _ _ _ _ _ _ _ _ _ hx hl hd0)
  | lconst v =>
    obtain ⟨rfl, rfl⟩ := hlen rfl
    exact lv_lconst hX hB hdg rfl (kk _ _ _ _ _ _ _ _ _ hx hl hd0)
  | ldc idx =>
    obtain ⟨rfl, rfl⟩ := hlen rfl
    obtain ⟨v, n, rfl, hc⟩ := hrs
    exact W.ldc hX hB hown (hts _ hc) rfl hdg (kk _ _ _ _ _ _ _ _ _ hx hl hd0)
  | ldc2_w idx =>
    obtain ⟨rfl, rfl⟩ := hlen rfl
    obtain ⟨v, n, rfl, hc⟩ := hrs
    exact W.ldc2 hX hB hown (hts _ hc) rfl hdg (kk _ _ _ _ _ _ _ _ _ hx hl hd0)
  | aconst_null =>
    obtain ⟨rfl, rfl⟩ := hlen rfl
    exact lv_null hX hB hdg (kk _ _ _ _ _ _ _ _ _ hx hl hd0)
  | iload j =>
    obtain ⟨rfl, rfl⟩ := hlen rfl
    refine zm_ld_el hx (fun v hv hk q => ?_)
    obtain ⟨z, rfl⟩ := zm_isK0 hk
    exact lv_iload hX hB hdg (zm_lr_at hl hv rfl) (kk _ _ _ _ _ _ _ _ _ q hl hd0)
  | iload_n j =>
    obtain ⟨rfl, rfl⟩ := hlen rfl
    refine zm_ld_el hx (fun v hv hk q => ?_)
    obtain ⟨z, rfl⟩ := zm_isK0 hk
    exact lv_iload_n hX hB hdg rfl (zm_lr_at hl hv rfl) (kk _ _ _ _ _ _ _ _ _ q hl hd0)
  | lload j =>
    obtain ⟨rfl, rfl⟩ := hlen rfl
    refine zm_ld_el hx (fun v hv hk q => ?_)
    obtain ⟨z, rfl⟩ := zm_isK1 hk
    exact lv_lload hX hB hdg (zm_lr_at hl hv rfl) (kk _ _ _ _ _ _ _ _ _ q hl hd0)
  | lload_n j =>
    obtain ⟨rfl, rfl⟩ := hlen rfl
    refine zm_ld_el hx (fun v hv hk q => ?_)
    obtain ⟨z, rfl⟩ := zm_isK1 hk
    exact lv_lload_n hX hB hdg rfl (zm_lr_at hl hv rfl) (kk _ _ _ _ _ _ _ _ _ q hl hd0)
  | aload j =>
    obtain ⟨rfl, rfl⟩ := hlen rfl
    refine zm_ld_el hx (fun v hv hk q => ?_)
    rcases zm_isK2 hk with rfl | ⟨z, rfl⟩
    · exact lv_aloadN hX hB hdg (zm_lr_at hl hv rfl) (kk _ _ _ _ _ _ _ _ _ q hl hd0)
    · exact lv_aload hX hB hdg (zm_lr_at hl hv rfl) (kk _ _ _ _ _ _ _ _ _ q hl hd0)
  | aload_n j =>
    obtain ⟨rfl, rfl⟩ := hlen rfl
    refine zm_ld_el hx (fun v hv hk q => ?_)
    rcases zm_isK2 hk with rfl | ⟨z, rfl⟩
    · exact lv_aload_nN hX hB hdg rfl (zm_lr_at hl hv rfl) (kk _ _ _ _ _ _ _ _ _ q hl hd0)
    · exact lv_aload_n hX hB hdg rfl (zm_lr_at hl hv rfl) (kk _ _ _ _ _ _ _ _ _ q hl hd0)
  | istore j =>
    obtain ⟨rfl, rfl⟩ := hlen rfl
    simp only [zm_ex] at hx
    refine zm_sto_el hx (fun v t e1 hk hj hn q => ?_)
    subst e1
    obtain ⟨z, rfl⟩ := zm_isK0 hk
    exact lv_istore hX hB hdg hl.2 (by rw [← hl.1]; exact hj) rfl (fun ls' h' => kk _ _ _ _ _ _ _ _ _ q (zm_lr_st1 hl.1 hn h') hd0)
  | istore_n j =>
    obtain ⟨rfl, rfl⟩ := hlen rfl
    simp only [zm_ex] at hx
    refine zm_sto_el hx (fun v t e1 hk hj hn q => ?_)
    subst e1
    obtain ⟨z, rfl⟩ := zm_isK0 hk
    exact lv_istore_n hX hB hdg rfl hl.2 (by rw [← hl.1]; exact hj) rfl (fun ls' h' => kk _ _ _ _ _ _ _ _ _ q (zm_lr_st1 hl.1 hn h') hd0)
  | astore j =>
    obtain ⟨rfl, rfl⟩ := hlen rfl
    simp only [zm_ex] at hx
    refine zm_sto_el hx (fun v t e1 hk hj hn q => ?_)
    subst e1
    rcases zm_isK2 hk with rfl | ⟨z, rfl⟩
    · exact lv_astoreN hX hB hdg hl.2 (by rw [← hl.1]; exact hj) rfl (fun ls' h' => kk _ _ _ _ _ _ _ _ _ q (zm_lr_st1 hl.1 hn h') hd0)
    · exact lv_astore hX hB hdg hl.2 (by rw [← hl.1]; exact hj) rfl (fun ls' h' => kk _ _ _ _ _ _ _ _ _ q (zm_lr_st1 hl.1 hn h') hd0)
  | astore_n j =>
    obtain ⟨rfl, rfl⟩ := hlen rfl
    simp only [zm_ex] at hx
    refine zm_sto_el hx (fun v t e1 hk hj hn q => ?_)
    subst e1
    rcases zm_isK2 hk with rfl | ⟨z, rfl⟩
    · exact lv_astore_nN hX hB hdg rfl hl.2 (by rw [← hl.1]; exact hj) rfl (fun ls' h' => kk _ _ _ _ _ _ _ _ _ q (zm_lr_st1 hl.1 hn h') hd0)
    · exact lv_astore_n hX hB hdg rfl hl.2 (by rw [← hl.1]; exact hj) rfl (fun ls' h' => kk _ _ _ _ _ _ _ _ _ q (zm_lr_st1 hl.1 hn h') hd0)
  | lstore j =>
    obtain ⟨rfl, rfl⟩ := hlen rfl
    simp only [zm_ex] at hx
    refine zm_stoL_el hx (fun v t e1 hk hj hn q => ?_)
    subst e1
    obtain ⟨z, rfl⟩ := zm_isK1 hk
    exact lv_lstore hX hB hdg hl.2 (by rw [← hl.1]; exact hj) rfl (fun ls' h' => kk _ _ _ _ _ _ _ _ _ q (zm_lr_st2 hl.1 hn h') hd0)
  | lstore_n j =>
    obtain ⟨rfl, rfl⟩ := hlen rfl
    simp only [zm_ex] at hx
    refine zm_stoL_el hx (fun v t e1 hk hj hn q => ?_)
    subst e1
    obtain ⟨z, rfl⟩ := zm_isK1 hk
    exact lv_lstore_n hX hB hdg rfl hl.2 (by rw [← hl.1]; exact hj) rfl (fun ls' h' => kk _ _ _ _ _ _ _ _ _ q (zm_lr_st2 hl.1 hn h') hd0)
  | iinc j n =>
    obtain ⟨rfl, rfl⟩ := hlen rfl
    refine zm_ld_el hx (fun v hv hk q => ?_)
    obtain ⟨z, rfl⟩ := zm_isK0 hk
    obtain ⟨hj, hn, q⟩ := q
    obtain ⟨k1, hk1⟩ := List.getElem?_of_mem (zm_ll_mem.mpr ⟨_, hv, rfl, rfl⟩ : (j, zm_cv G (.int z)) ∈ zm_ll G ls)
    exact lv_iinc hX hB hdg hl.2 hk1 rfl (by rw [← hl.1]; exact hj) rfl (fun ls' h' => kk _ _ _ _ _ _ _ _ _ q (zm_lr_st1 (v := .int (z + Int32.ofInt n)) hl.1 hn h') hd0)
  | iadd =>
    obtain ⟨rfl, rfl⟩ := hlen rfl
    simp only [zm_ex] at hx
    refine zm_s2_el hx (fun a b t e1 q => ?_)
    subst e1
    exact lv_iadd hX hB hdg (kk _ _ _ _ _ _ _ _ _ q hl hd0)
  | isub =>
    obtain ⟨rfl, rfl⟩ := hlen rfl
    simp only [zm_ex] at hx
    refine zm_s2_el hx (fun a b t e1 q => ?_)
    subst e1
    exact lv_isub hX hB hdg (kk _ _ _ _ _ _ _ _ _ q hl hd0)
  | imul =>
    obtain ⟨rfl, rfl⟩ := hlen rfl
    simp only [zm_ex] at hx
    refine zm_s2_el hx (fun a b t e1 q => ?_)
    subst e1
    exact lv_imul hX hB hdg (kk _ _ _ _ _ _ _ _ _ q hl hd0)
  | iand =>
    obtain ⟨rfl, rfl⟩ := hlen rfl
    simp only [zm_ex] at hx
    refine zm_s2_el hx (fun a b t e1 q => ?_)
    subst e1
    exact lv_iand hX hB hdg (kk _ _ _ _ _ _ _ _ _ q hl hd0)
  | ior =>
    obtain ⟨rfl, rfl⟩ := hlen rfl
    simp only [zm_ex] at hx
    refine zm_s2_el hx (fun a b t e1 q => ?_)
    subst e1
    exact lv_ior hX hB hdg (kk _ _ _ _ _ _ _ _ _ q hl hd0)
  | ixor =>
    obtain ⟨rfl, rfl⟩ := hlen rfl
    simp only [zm_ex] at hx
    refine zm_s2_el hx (fun a b t e1 q => ?_)
    subst e1
    exact lv_ixor hX hB hdg (kk _ _ _ _ _ _ _ _ _ q hl hd0)
  | land =>
    obtain ⟨rfl, rfl⟩ := hlen rfl
    simp only [zm_ex] at hx
    refine zm_l2_el hx (fun a b t e1 q => ?_)
    subst e1
    exact lv_land hX hB hdg (kk _ _ _ _ _ _ _ _ _ q hl hd0)
  | lor =>
    obtain ⟨rfl, rfl⟩ := hlen rfl
    simp only [zm_ex] at hx
    refine zm_l2_el hx (fun a b t e1 q => ?_)
    subst e1
    exact lv_lor hX hB hdg (kk _ _ _ _ _ _ _ _ _ q hl hd0)
  | lushr =>
    obtain ⟨rfl, rfl⟩ := hlen rfl
    simp only [zm_ex] at hx
    refine zm_lsh_el hx (fun a b t e1 q => ?_)
    subst e1
    exact lv_lushr hX hB hdg rfl (kk _ _ _ _ _ _ _ _ _ q hl hd0)
  | lshl =>
    obtain ⟨rfl, rfl⟩ := hlen rfl
    simp only [zm_ex] at hx
    refine zm_lsh_el hx (fun a b t e1 q => ?_)
    subst e1
    exact lv_lshl hX hB hdg rfl (kk _ _ _ _ _ _ _ _ _ q hl hd0)
  | lshr =>
    obtain ⟨rfl, rfl⟩ := hlen rfl
    simp only [zm_ex] at hx
    refine zm_lsh_el hx (fun a b t e1 q => ?_)
    subst e1
    exact lv_lshr hX hB hdg rfl (kk _ _ _ _ _ _ _ _ _ q hl hd0)
  | l2i =>
    obtain ⟨rfl, rfl⟩ := hlen rfl
    simp only [zm_ex] at hx
    refine zm_l1_el hx (fun a t e1 q => ?_)
    subst e1
    exact lv_l2i hX hB hdg rfl (kk _ _ _ _ _ _ _ _ _ q hl hd0)
  | i2l =>
    obtain ⟨rfl, rfl⟩ := hlen rfl
    simp only [zm_ex] at hx
    refine zm_s1_el hx (fun a t e1 q => ?_)
    subst e1
    exact lv_i2l hX hB hdg rfl (kk _ _ _ _ _ _ _ _ _ q hl hd0)
  | i2b =>
    obtain ⟨rfl, rfl⟩ := hlen rfl
    simp only [zm_ex] at hx
    refine zm_s1_el hx (fun a t e1 q => ?_)
    subst e1
    exact lv_i2b hX hB hdg rfl (kk _ _ _ _ _ _ _ _ _ q hl hd0)
  | dup =>
    obtain ⟨rfl, rfl⟩ := hlen rfl
    match st, hx with
    | v :: t, hx => exact lv_dup hX hB hdg (zm_cat hx.1) (kk _ _ _ _ _ _ _ _ _ hx.2 hl hd0)
  | pop =>
    obtain ⟨rfl, rfl⟩ := hlen rfl
    match st, hx with
    | v :: t, hx => exact lv_pop hX hB hdg (zm_cat hx.1) (kk _ _ _ _ _ _ _ _ _ hx.2 hl hd0)
  | dup_x1 =>
    obtain ⟨rfl, rfl⟩ := hlen rfl
    match st, hx with
    | v :: w :: t, hx => exact lv_dup_x1 hX hB hdg (zm_cat hx.1) (zm_cat hx.2.1) (kk _ _ _ _ _ _ _ _ _ hx.2.2 hl hd0)
  | dup2 =>
    obtain ⟨rfl, rfl⟩ := hlen rfl
    match st, hx with
    | v :: w :: t, hx => exact lv_dup2_11 hX hB hdg (zm_cat hx.1) (zm_cat hx.2.1) (kk _ _ _ _ _ _ _ _ _ hx.2.2 hl hd0)
  | ifCond cd o =>
    obtain ⟨rfl, rfl⟩ := hlen rfl
    match st, hx with
    | .int a :: t, hx =>
      cases cd with
      | eq => exact lv_if_eq hX hB hdg hrs (fun q => kk _ _ _ _ _ _ _ _ _ (hx.1 q) hl hd0) (fun q => kk _ _ _ _ _ _ _ _ _ (hx.2 q) hl hd0)
      | ne => exact lv_if_ne hX hB hdg hrs (fun q => kk _ _ _ _ _ _ _ _ _ (hx.1 q) hl hd0) (fun q => kk _ _ _ _ _ _ _ _ _ (hx.2 (fun z => z q)) hl hd0)
      | lt => exact lv_if_lt hX hB hdg hrs (fun q => kk _ _ _ _ _ _ _ _ _ (hx.1 q) hl hd0) (fun q => kk _ _ _ _ _ _ _ _ _ (hx.2 q) hl hd0)
      | ge => exact lv_if_ge hX hB hdg hrs (fun q => kk _ _ _ _ _ _ _ _ _ (hx.1 q) hl hd0) (fun q => kk _ _ _ _ _ _ _ _ _ (hx.2 q) hl hd0)
      | gt => exact lv_if_gt hX hB hdg hrs (fun q => kk _ _ _ _ _ _ _ _ _ (hx.1 q) hl hd0) (fun q => kk _ _ _ _ _ _ _ _ _ (hx.2 q) hl hd0)
      | le => exact lv_if_le hX hB hdg hrs (fun q => kk _ _ _ _ _ _ _ _ _ (hx.1 q) hl hd0) (fun q => kk _ _ _ _ _ _ _ _ _ (hx.2 q) hl hd0)
  | if_icmp cd o =>
    obtain ⟨rfl, rfl⟩ := hlen rfl
    match st, hx with
    | .int b :: .int a :: t, hx =>
      cases cd with
      | eq => exact lv_icmp_eq hX hB hdg hrs (fun q => kk _ _ _ _ _ _ _ _ _ (hx.1 q) hl hd0) (fun q => kk _ _ _ _ _ _ _ _ _ (hx.2 q) hl hd0)
      | ne => exact lv_icmp_ne hX hB hdg hrs (fun q => kk _ _ _ _ _ _ _ _ _ (hx.1 q) hl hd0) (fun q => kk _ _ _ _ _ _ _ _ _ (hx.2 (fun z => z q)) hl hd0)
      | lt => exact lv_icmp_lt hX hB hdg hrs (fun q => kk _ _ _ _ _ _ _ _ _ (hx.1 q) hl hd0) (fun q => kk _ _ _ _ _ _ _ _ _ (hx.2 q) hl hd0)
      | ge => exact lv_icmp_ge hX hB hdg hrs (fun q => kk _ _ _ _ _ _ _ _ _ (hx.1 q) hl hd0) (fun q => kk _ _ _ _ _ _ _ _ _ (hx.2 q) hl hd0)
      | gt => exact lv_icmp_gt hX hB hdg hrs (fun q => kk _ _ _ _ _ _ _ _ _ (hx.1 q) hl hd0) (fun q => kk _ _ _ _ _ _ _ _ _ (hx.2 q) hl hd0)
      | le => exact lv_icmp_le hX hB hdg hrs (fun q => kk _ _ _ _ _ _ _ _ _ (hx.1 q) hl hd0) (fun q => kk _ _ _ _ _ _ _ _ _ (hx.2 q) hl hd0)
  | if_acmp cd o =>
    obtain ⟨rfl, rfl⟩ := hlen rfl
    cases cd with
    | eq =>
      match st, hx with
      | b :: a :: t, hx =>
        obtain ⟨ka, kb, q1, q2⟩ := hx
        obtain ⟨ra, ea⟩ := zm_rfo (G := G) ka
        obtain ⟨rb, eb⟩ := zm_rfo (G := G) kb
        have hab : ra = rb ↔ a = b := zm_rfo_eq hw ka kb ea eb
        show W p l e R s m args below meth c H locs cells slots Q (F0 m pc lsA (zm_cv G b :: zm_cv G a :: t.map (zm_cv G)))
        rw [ea, eb]
        exact lv_acmp_eq hX hB hdg hrs (fun z => kk _ _ _ _ _ _ _ _ _ (q1 (hab.mp z)) hl hd0) (fun z => kk _ _ _ _ _ _ _ _ _ (q2 (fun w => z (hab.mpr w))) hl hd0)
    | ne =>
      match st, hx with
      | b :: a :: t, hx =>
        obtain ⟨ka, kb, q1, q2⟩ := hx
        obtain ⟨ra, ea⟩ := zm_rfo (G := G) ka
        obtain ⟨rb, eb⟩ := zm_rfo (G := G) kb
        have hab : ra = rb ↔ a = b := zm_rfo_eq hw ka kb ea eb
        show W p l e R s m args below meth c H locs cells slots Q (F0 m pc lsA (zm_cv G b :: zm_cv G a :: t.map (zm_cv G)))
        rw [ea, eb]
        exact lv_acmp_ne hX hB hdg hrs (fun z => kk _ _ _ _ _ _ _ _ _ (q1 (fun w => z (hab.mpr w))) hl hd0) (fun z => kk _ _ _ _ _ _ _ _ _ (q2 (hab.mp z)) hl hd0)
  | ifnull o =>
    obtain ⟨rfl, rfl⟩ := hlen rfl
    match st, hx with
    | .null :: t, hx => exact lv_ifnullN hX hB hdg hrs (kk _ _ _ _ _ _ _ _ _ hx hl hd0)
    | .ref a :: t, hx => exact lv_ifnull hX hB hdg (kk _ _ _ _ _ _ _ _ _ hx hl hd0)
  | ifnonnull o =>
    obtain ⟨rfl, rfl⟩ := hlen rfl
    match st, hx with
    | .null :: t, hx => exact lv_ifnonnullN hX hB hdg (kk _ _ _ _ _ _ _ _ _ hx hl hd0)
    | .ref a :: t, hx => exact lv_ifnonnull hX hB hdg hrs (kk _ _ _ _ _ _ _ _ _ hx hl hd0)
  | goto o =>
    exact lv_goto hX hB (by obtain ⟨rfl, rfl⟩ := hlen rfl; exact hdg) hrs (kk _ _ _ _ _ _ _ _ _ hx hl hd0)
  | tableswitch dd lo hi offs =>
    match st, hx with
    | .int a :: t, hx =>
      obtain ⟨r1, r2⟩ := hrs
      by_cases ho : a.toInt < lo ∨ hi < a.toInt
      · have e1 := (r2 a.toInt).1 ho
        have hx : k (zm_sw x sw a.toInt) ls t h := hx
        rw [e1] at hx
        exact lv_tableOut hX hB hdg ho r1 (kk _ _ _ _ _ _ _ _ _ hx hl hd0)
      · obtain ⟨o, e1, e2⟩ := (r2 a.toInt).2 (fun z => ho (Or.inl z)) (fun z => ho (Or.inr z))
        exact lv_tableIn hX hB hdg (fun z => ho (Or.inl z)) (fun z => ho (Or.inr z)) e1 e2 (kk _ _ _ _ _ _ _ _ _ hx hl hd0)
  | getfield idx =>
    obtain ⟨rfl, rfl⟩ := hlen rfl
    match st, hx with
    | .ref a :: t, hx => exact zm_getf X0 hrs hx.1 hw hdg (kk _ _ _ _ _ _ _ _ _ hx.2 hl hd0)
  | putfield idx =>
    obtain ⟨rfl, rfl⟩ := hlen rfl
    match st, hx with
    | v :: .ref a :: t, hx => exact zm_putf X0 hrs hx.1 hx.2.1 hw hS hdg (fun H' locs' w1 w2 => kk _ _ _ _ _ _ _ _ _ hx.2.2 hl ⟨w1, w2, hc1, hc2⟩)
  | new idx =>
    obtain ⟨rfl, rfl⟩ := hlen rfl
    have hmm := hm _ _ _ _ hx
    have e1 : zm_nx (zm_mk h x y (zt_df x)) = zm_nx h + 1 := rfl
    have e2 : zm_sl (zm_mk h x y (zt_df x)) = zm_sl h + y := rfl
    exact zm_newc X0 hrs hw hS (by omega) (by omega) hdg (fun H' w1 w2 => kk _ _ _ _ _ _ _ _ _ hx hl ⟨w1, w2, by omega, by omega⟩)
  | newarray t0 =>
    obtain ⟨rfl, rfl⟩ := hlen rfl
    match st, hx with
    | .int n :: t, hx =>
      have hmm := hm _ _ _ _ hx.2.2
      have e1 : zm_nx (zm_mk h x n.toNatClampNeg (fun _ => zm_df x)) = zm_nx h + 1 := rfl
      have e2 : zm_sl (zm_mk h x n.toNatClampNeg (fun _ => zm_df x)) = zm_sl h + n.toNatClampNeg := rfl
      exact zm_newa X0 hrs hx.1 hx.2.1 hw hS (by omega) (by omega) hdg (fun H' w1 w2 => kk _ _ _ _ _ _ _ _ _ hx.2.2 hl ⟨w1, w2, by omega, by omega⟩)
  | anewarray idx =>
    obtain ⟨rfl, rfl⟩ := hlen rfl
    match st, hx with
    | .int n :: t, hx =>
      have hmm := hm _ _ _ _ hx.2.2
      have e1 : zm_nx (zm_mk h x n.toNatClampNeg (fun _ => zm_df x)) = zm_nx h + 1 := rfl
      have e2 : zm_sl (zm_mk h x n.toNatClampNeg (fun _ => zm_df x)) = zm_sl h + n.toNatClampNeg := rfl
      exact zm_newq X0 hrs hx.1 hx.2.1 hw hS (by omega) (by omega) hdg (fun H' w1 w2 => kk _ _ _ _ _ _ _ _ _ hx.2.2 hl ⟨w1, w2, by omega, by omega⟩)
  | arraylength =>
    obtain ⟨rfl, rfl⟩ := hlen rfl
    match st, hx with
    | .ref a :: t, hx =>
      obtain ⟨ty, hty⟩ := Option.isSome_iff_exists.mp hx.2.1
      obtain ⟨cell, q1, q2, q3, q4, q5⟩ := zm_arr hK hw hx.1 hty
      exact W.alen hX hB q1 q2 (by rw [q4]) rfl rfl hdg (kk _ _ _ _ _ _ _ _ _ hx.2.2 hl hd0)
  | iaload =>
    obtain ⟨rfl, rfl⟩ := hlen rfl
    simp only [zm_ex] at hx
    refine zm_rd_el hx (fun i a t e1 ha ht hin q => ?_)
    subst e1
    have htg : zm_tg h a = 101 := by simpa using ht
    obtain ⟨cell, q1, q2, q3, q4, q5⟩ := zm_arr (ty := .int) hK hw ha (by rw [htg]; exact zt_at_101)
    exact W.iald hX hB q1 q2 q3 (by rw [q4]; exact hin) (q5 _ (Nat.not_le.mp fun z => hin (Or.inr z))) rfl rfl hdg (kk _ _ _ _ _ _ _ _ _ q hl hd0)
  | baload =>
    obtain ⟨rfl, rfl⟩ := hlen rfl
    simp only [zm_ex] at hx
    refine zm_rd_el hx (fun i a t e1 ha ht hin q => ?_)
    subst e1
    have htg : zm_tg h a = 100 := by simpa using ht
    obtain ⟨cell, q1, q2, q3, q4, q5⟩ := zm_arr (ty := .byte) hK hw ha (by rw [htg]; exact zt_at_b)
    exact W.bald hX hB q1 q2 q3 (by rw [q4]; exact hin) (q5 _ (Nat.not_le.mp fun z => hin (Or.inr z))) rfl rfl hdg (kk _ _ _ _ _ _ _ _ _ q hl hd0)
  | aaload =>
    obtain ⟨rfl, rfl⟩ := hlen rfl
    simp only [zm_ex] at hx
    refine zm_rd_el hx (fun i a t e1 ha ht hin q => ?_)
    subst e1
    obtain ⟨C0, hC0⟩ := zm_ro_of ht
    obtain ⟨cell, q1, q2, q3, q4, q5⟩ := zm_arr (ty := .object C0) hK hw ha hC0
    exact W.aald hX hB q1 q2 rfl q3 (by rw [q4]; exact hin) (q5 _ (Nat.not_le.mp fun z => hin (Or.inr z))) rfl rfl hdg (kk _ _ _ _ _ _ _ _ _ q hl hd0)
  | iastore =>
    obtain ⟨rfl, rfl⟩ := hlen rfl
    simp only [zm_ex] at hx
    refine zm_wr_el hx (fun v i a t e1 hi hin q => ?_)
    subst e1
    obtain ⟨i1, i2, i3⟩ := hi
    have hce := (hw.2.2.2.2.2 a i1 i2).2 (by omega)
    exact W.iast hX hB hce (by rw [i3]; exact (hK.2.1 101 .int zt_at_101).1 _ _) (fun z => by cases z) (by rw [arrV_size]; exact hin) rfl rfl hdg (fun H' e1 e2 e3 => kk _ _ _ _ _ _ _ _ _ q hl ⟨zm_wl_ast hw i1 i2 (by omega) e1 e2 e3, hS.put e2 e3 (zm_A_ad i1), hc1, hc2⟩)
  | bastore =>
    obtain ⟨rfl, rfl⟩ := hlen rfl
    simp only [zm_ex] at hx
    refine zm_wr_el hx (fun v i a t e1 hi hin q => ?_)
    subst e1
    obtain ⟨i1, i2, i3⟩ := hi
    have hce := (hw.2.2.2.2.2 a i1 i2).2 (by omega)
    exact W.bast hX hB hce (by rw [i3]; exact (hK.2.1 100 .byte zt_at_b).1 _ _) (fun z => by cases z) (by rw [arrV_size]; exact hin) rfl rfl hdg (fun H' e1 e2 e3 => kk _ _ _ _ _ _ _ _ _ q hl ⟨zm_wl_ast hw i1 i2 (by omega) e1 e2 e3, hS.put e2 e3 (zm_A_ad i1), hc1, hc2⟩)
  | aastore =>
    obtain ⟨rfl, rfl⟩ := hlen rfl
    match st, hx with
    | .null :: .int i :: .ref a :: t, hx =>
      obtain ⟨g1, ⟨i1, i2, -⟩, hin, q⟩ := hx
      obtain ⟨C0, hC0⟩ := zm_ro_of g1
      have h1 := zt_at_100 _ _ hC0
      have hce := (hw.2.2.2.2.2 a i1 i2).2 h1
      exact va_WaastN hX hB hce ((hK.2.1 _ _ hC0).1 _ _) (fun z => by cases z) (by rw [arrV_size]; exact hin) rfl rfl hdg (fun H' e1 e2 e3 => kk _ _ _ _ _ _ _ _ _ q hl ⟨zm_wl_ast (v := .null) hw i1 i2 h1 e1 e2 e3, hS.put e2 e3 (zm_A_ad i1), hc1, hc2⟩)
    | .ref b :: .int i :: .ref a :: t, hx =>
      obtain ⟨g1, ⟨i1, i2, -⟩, ⟨j1, j2, j3⟩, hin, q⟩ := hx
      obtain ⟨C0, hC0⟩ := zm_ro_of g1
      have h1 := zt_at_100 _ _ hC0
      have hce := (hw.2.2.2.2.2 a i1 i2).2 h1
      obtain ⟨q0, hq0, hq1⟩ := zt_ro_ok _ _ hC0
      obtain ⟨q0', hq0', cellV, p1, p2, p3, -⟩ := (hw.2.2.2.2.2 b j1 j2).1 (by rw [j3]; exact (zt_cls_ok _ _ hq0).1)
      rw [j3] at p2
      have hcls := (hK.1 _ _ hq0).2
      obtain ⟨kA, comp, k1, k2, k3, -⟩ := (hK.2.1 _ _ hC0).2
      have hcomp : comp = G.1 (zm_tg h a - 200) := Option.some.inj (k3.symm.trans (by rw [← hq1]; exact hcls.1))
      subst hcomp
      obtain ⟨kC, hkC, -⟩ := hcls.2
      exact W.aast hX hB hce (fun z w => by cases w) (fun z => by cases z) k1 k2 rfl hkC ⟨fun z => hin (Or.inl z), by rw [arrV_size]; exact Nat.not_le.mp fun z => hin (Or.inr z)⟩ p1 (fun z w => by rw [p3] at w; cases w) (by rw [p2]; exact hkC) (by rw [p2]; exact va_assign hcls) rfl rfl hdg (fun H' e1 e2 e3 => kk _ _ _ _ _ _ _ _ _ q hl ⟨zm_wl_ast (v := .ref b) hw i1 i2 h1 e1 e2 e3, hS.put e2 e3 (zm_A_ad i1), hc1, hc2⟩)
  | invokestatic idx =>
    obtain ⟨rfl, rfl⟩ := hlen rfl
    rcases hrs with ⟨rfl, ⟨l1, l2, l3, l4⟩, l5⟩ | ⟨rfl, ⟨l1, l2, l3, l4⟩, l5⟩ | ⟨rfl, ⟨l1, l2, l3, l4⟩, l5⟩ | ⟨⟨hx1, hcd, hlk, hstt⟩, hroom⟩
    · match st, hx with
      | .int b :: .int a :: t, hx =>
        obtain ⟨ht, q⟩ := hx
        have hmm := hm _ _ _ _ q
        refine va_mmax hX hB (by rw [hml]; exact hsz.symm) hown (hts _ l1) (hts _ l2) (hts _ l3) (hts _ l4) (by omega) (Nat.le_trans (Nat.add_le_add_right (Nat.le_trans (zm_sum _) (by rw [List.length_map]; omega : _ ≤ 8)) 13) (by omega)) (by omega) (by omega) hdg (kk _ _ _ _ _ _ _ _ _ q hl hd0)
    · match st, hx with
      | .int b :: .int a :: t, hx =>
        obtain ⟨ht, q⟩ := hx
        have hmm := hm _ _ _ _ q
        refine va_mmin hX hB (by rw [hml]; exact hsz.symm) hown (hts _ l1) (hts _ l2) (hts _ l3) (hts _ l4) (by omega) (Nat.le_trans (Nat.add_le_add_right (Nat.le_trans (zm_sum _) (by rw [List.length_map]; omega : _ ≤ 8)) 13) (by omega)) (by omega) (by omega) hdg (kk _ _ _ _ _ _ _ _ _ q hl hd0)
    · match st, hx with
      | .int n :: .int dp :: .ref b :: .int sp :: .ref a :: t, hx =>
        obtain ⟨ht, ia, ib, g1, g2, g3, g4, g5, g6, q⟩ := hx
        exact zm_copy X0 l1 l2 l3 l4 ia ib l5 g1 g2 g3 g4 g5 g6 hw hS hsz (by rw [List.length_map]; exact ht) hdg (fun H' locs' w1 w2 => kk _ _ _ _ _ _ _ _ _ q hl ⟨w1, w2, hc1, hc2⟩)
    · have hx : zm_cl C k (pc + 3) x ls st h y := by
        have hn : ¬ 1000 < x := by omega
        have hx := hx
        simp only [zm_ex, if_neg hn] at hx
        exact hx
      obtain ⟨n1, n2, r1, h1, c1, q⟩ := hx
      obtain ⟨mo, hM⟩ := hC _ _ _ _ _ c1
      have hmm := hm _ _ _ _ q
      refine zm_back (zm_cS X0 hcd hroom hlk hstt hM hw n1 n2 hsz hdg (by omega)) hd0 mo (fun H' locs' hd' => ?_)
      have := kk _ _ _ _ lsA _ _ _ _ q hl hd'
      rwa [List.map_append, zm_tl] at this
  | invokevirtual idx =>
    obtain ⟨rfl, rfl⟩ := hlen rfl
    obtain ⟨⟨hx1, hcd, hlk, hin, hse, hmc⟩, hroom⟩ := hrs
    obtain ⟨⟨a, ha, hia⟩, n1, n2, r1, h1, c1, q⟩ := hx
    obtain ⟨mo, hM⟩ := hC _ _ _ _ _ c1
    have hmm := hm _ _ _ _ q
    refine zm_back (zm_cV X0 hcd hroom hlk hin hse hmc ha hia hM hw n2 hsz hdg (by omega)) hd0 mo (fun H' locs' hd' => ?_)
    have := kk _ _ _ _ lsA _ _ _ _ q hl hd'
    rwa [List.map_append, zm_tl] at this
  | invokespecial idx =>
    obtain ⟨rfl, rfl⟩ := hlen rfl
    rcases hrs with ⟨rfl, ⟨l1, l2, l3⟩, l5⟩ | ⟨⟨hx1, hcd, hlk, hin, hy1, hrt⟩, hroom⟩
    · match st, hx with
      | .ref a :: t, hx =>
        obtain ⟨ht, q⟩ := hx
        exact W.objInit hX hB hown (hts _ l1) (hts _ l2) (hts _ l3) rfl (by rw [hml]; exact hsz) rfl hdg (by omega) (by
          have h8 : ((t.map (zm_cv G)).map fun v => v.category).sum ≤ 8 := Nat.le_trans (zm_sum _) (by rw [List.length_map]; omega)
          show 2 * 0 + _ + 12 ≤ _
          omega) (kk _ _ _ _ _ _ _ _ _ q hl hd0)
    · have hx : (∃ a, st[y]? = some (.ref a)) ∧ zm_cl C k (pc + 3) x ls st h (y + 1) := by
        have hn : ¬ x = 1000 := by omega
        have hx := hx
        simp only [zm_ex, if_neg hn] at hx
        exact hx
      obtain ⟨⟨a, ha⟩, n1, n2, r1, h1, c1, q⟩ := hx
      obtain ⟨mo, hM⟩ := hC _ _ _ _ _ c1
      have hmm := hm _ _ _ _ q
      refine zm_back (zm_cI X0 hcd hroom hlk hin hy1 hrt ha hM hw n2 hsz hdg (by omega)) hd0 mo (fun H' locs' hd' => ?_)
      have := kk _ _ _ _ lsA _ _ _ _ q hl hd'
      rwa [List.map_append, zm_tl] at this
  | ireturn =>
    obtain ⟨rfl, rfl⟩ := hlen rfl
    exact hend _ _ _ _ _ _ _ _ _ (Or.inl rfl) (fun _ _ _ _ _ => hx) hdg hd0
  | areturn =>
    obtain ⟨rfl, rfl⟩ := hlen rfl
    exact hend _ _ _ _ _ _ _ _ _ (Or.inr (Or.inl rfl)) (fun _ _ _ _ _ => hx) hdg hd0
  | return_ =>
    obtain ⟨rfl, rfl⟩ := hlen rfl
    exact hend _ _ _ _ _ _ _ _ _ (Or.inr (Or.inr rfl)) (fun _ _ _ _ _ => hx) hdg hd0
  | _ => exact False.elim hx
end
end
section
section
variable {l : Launch} {G : zm_G} {d : Nat} {p : Program} {e : Env} {R : Room} {s : State} {m : MethodId} {args : Array Value} {below : List Frame} {meth : Method} {c : Code} {Q : State → Prop} {M : Nat} {h0 h' : zm_H} {r : Option Value}
/-- a run of the small machine is a run of the machine -/
theorem zm_body (X : zm_Cx G p R s m args meth c M) (hR : zm_nx h' ≤ zm_nx h0 + R.cells ∧ zm_sl h' ≤ zm_sl h0 + R.slots)
    (hC : ∀ x a h r1 h1, zm_ca d x a h r1 h1 → (zm_nx h ≤ zm_nx h1 ∧ zm_sl h ≤ zm_sl h1) ∧ Met l (zt_nm x) (zt_wsM x) (zm_rm x (zm_nx h1 - zm_nx h) (zm_sl h1 - zm_sl h)) (zm_Pc G a h) (zm_Qc G r1 h1) (zm_nx h1 - zm_nx h) (zm_sl h1 - zm_sl h) (zm_A G))
    (hend : ∀ (k : Nat → List Value → List Value → zm_H → Prop) (i : Instr) (pc : Nat) (st : List Value) (h : zm_H) (lsA : Array Slot) (H : Heap) (locs : List Loc) (cells slots : Nat), (i = .ireturn ∨ i = .areturn ∨ i = .return_) → (∀ np x y sw ls, zm_ex (zm_ca d) k np x y sw ls st h (zt_rt M) r h' i) → decode (zt_by M) pc = .ok (i, 1) → zm_Dy G s h0 h H locs cells slots → W p l e R s m args below meth c H locs cells slots Q (F0 m pc lsA (st.map (zm_cv G)))) :
    ∀ (n pc : Nat) (ls st : List Value) (h : zm_H) (lsA : Array Slot) (H : Heap) (locs : List Loc) (cells slots : Nat), zm_rn (zm_ca d) M r h' n pc ls st h → zm_lr G (zt_ml M) ls lsA → zm_Dy G s h0 h H locs cells slots → W p l e R s m args below meth c H locs cells slots Q (F0 m pc lsA (st.map (zm_cv G))) := by
  intro n
  induction n with
  | zero => intro pc ls st h lsA H locs cells slots hr; exact False.elim hr
  | succ n ih =>
    intro pc ls st h lsA H locs cells slots hr hl hd
    obtain ⟨E, hE, hx⟩ := hr
    obtain ⟨i, np, x, y, sw⟩ := E
    exact zm_step X hR (fun pc ls st h q => zm_rn_mono (fun M a h r h1 z => zm_ca_mono d M a h r h1 z) n pc ls st h q) hC (hend _) ih (zt_ok M pc _ hE) hx hl hd
end
theorem zm_sim (l : Launch) (G : zm_G) : ∀ (d x : Nat) (a : List Value) (h : zm_H) (r1 : Option Value) (h1 : zm_H), zm_ca d x a h r1 h1 → (zm_nx h ≤ zm_nx h1 ∧ zm_sl h ≤ zm_sl h1) ∧ Met l (zt_nm x) (zt_wsM x) (zm_rm x (zm_nx h1 - zm_nx h) (zm_sl h1 - zm_sl h)) (zm_Pc G a h) (zm_Qc G r1 h1) (zm_nx h1 - zm_nx h) (zm_sl h1 - zm_sl h) (zm_A G)
  | 0, _, _, _, _, _, hc => False.elim hc
  | d + 1, x, a, h, r1, h1, hc => by
    have mo := zm_ca_mono _ _ _ _ _ _ hc
    refine ⟨mo, ?_⟩
    obtain ⟨hlen, n, hr⟩ := hc
    refine Met.ofW (cc := zt_by x) (maxL := zt_ml x) (ret := zt_rt x) (zt_plain x) rfl ?_
    intro p e s m args below meth c s₁ B hml hv
    obtain ⟨rfl, hw, hK⟩ := hv
    have hts := atoms_spec (ws := zt_wsM x) B.pre
    have hr2 := B.returns
    have hlocks := B.notSynchronized
    have X : zm_Cx G p (headSpec (zt_wsM x) (zm_rm x (zm_nx h1 - zm_nx h) (zm_sl h1 - zm_sl h))).room s m (a.map (zm_cv G)).toArray meth c x :=
      ⟨B.exec, B.bytes, hml, findClass_of_methodNamed B.named, fun w z => hts w (List.mem_cons_of_mem _ z), hK, Nat.le_refl _, Nat.le_refl _, fun z => (name_of_methodNamed B.named B.method).1.trans z⟩
    rw [lg_entry_eq]
    refine zm_body (h0 := h) (h' := h1) (r := r1) X ⟨by show _ ≤ _ + (zm_nx h1 - zm_nx h); omega, by show _ ≤ _ + (zm_sl h1 - zm_sl h); omega⟩ (fun x a h r1 h1 z => zm_sim l G d x a h r1 h1 z) ?_ n 0 _ [] h _ _ _ _ _ hr (zm_lr_entry hlen) ⟨hw, va_S.rf, rfl, rfl⟩
    intro k i pc st hh lsA H locs cells slots hi hx hdg hd
    obtain ⟨w1, w2, w3, w4⟩ := hd
    rcases hi with rfl | rfl | rfl
    · have hx := hx 0 0 0 [] []
      match st, hx with
      | [.int v], hx =>
        obtain ⟨rfl, rfl, ty, ht, hf⟩ := hx
        obtain rfl : cells = zm_nx h1 - zm_nx h := by omega
        obtain rfl : slots = zm_sl h1 - zm_sl h := by omega
        exact W.zret B.exec B.bytes (hr2.trans ht) (zm_fit_ok hf).1 (fun t e1 hW => ⟨rfl, by rw [e1]; exact w1.moved hW.alike, w2.F e1⟩) w2.2.2 hdg
    · have hx := hx 0 0 0 [] []
      match st, hx with
      | [v], hx =>
        obtain ⟨rfl, rfl, hk, ty, ht, hf⟩ := hx
        obtain rfl : cells = zm_nx h1 - zm_nx h := by omega
        obtain rfl : slots = zm_sl h1 - zm_sl h := by omega
        refine W.aret B.exec B.bytes (hr2.trans ht) ?_ ?_ (fun t e1 hW => ⟨rfl, by rw [e1]; exact w1.moved hW.alike, w2.F e1⟩) w2.2.2 hdg
        · rcases zm_isK2 hk with rfl | ⟨z, rfl⟩ <;> cases ty <;> first | exact Or.inl ⟨_, rfl⟩ | exact Or.inr ⟨_, rfl⟩ | (simp [zm_fit] at hf)
        · rcases zm_isK2 hk with rfl | ⟨z, rfl⟩
          · exact Or.inl rfl
          · exact Or.inr ⟨_, rfl⟩
    · obtain ⟨rfl, rfl, rfl, ht⟩ := hx 0 0 0 [] []
      obtain rfl : cells = zm_nx h1 - zm_nx h := by omega
      obtain rfl : slots = zm_sl h1 - zm_sl h := by omega
      exact W.vret B.exec B.bytes (hr2.trans ht) (fun t e1 hW => ⟨rfl, by rw [e1]; exact w1.moved hW.alike, w2.F e1⟩) w2.2.2 hdg
end
section
/-- from here on the method ends, and Q holds of its answer and heap -/
def zm_wp (d M pc : Nat) (ls st : List Value) (h : zm_H) (Q : Option Value → zm_H → Prop) : Prop := ∃ n r h', zm_rn (zm_ca d) M r h' n pc ls st h ∧ Q r h'
/-- the method, called so, ends, and Q holds of its answer and heap -/
def zm_wc (d M : Nat) (a : List Value) (h : zm_H) (Q : Option Value → zm_H → Prop) : Prop := ∃ r h', zm_ca d M a h r h' ∧ Q r h'
theorem zm_wc_mono {d M : Nat} {a : List Value} {h : zm_H} {Q Q' : Option Value → zm_H → Prop} (k : zm_wc d M a h Q) (f : ∀ r h', Q r h' → Q' r h') : zm_wc d M a h Q' := by
  obtain ⟨r, h', h1, h2⟩ := k
  exact ⟨r, h', h1, f r h' h2⟩
theorem zm_wp_mono {d M pc : Nat} {ls st : List Value} {h : zm_H} {Q Q' : Option Value → zm_H → Prop} (k : zm_wp d M pc ls st h Q) (f : ∀ r h', Q r h' → Q' r h') : zm_wp d M pc ls st h Q' := by
  obtain ⟨n, r, h', h1, h2⟩ := k
  exact ⟨n, r, h', h1, f r h' h2⟩
theorem zm_enter {d M : Nat} {a : List Value} {h : zm_H} {Q : Option Value → zm_H → Prop} (hl : (zm_fl a).length ≤ zt_ml M) (k : zm_wp d M 0 (zm_lo a (zt_ml M)) [] h Q) : zm_wc (d + 1) M a h Q := by
  obtain ⟨n, r, h', h1, h2⟩ := k
  exact ⟨r, h', ⟨hl, n, h1⟩, h2⟩
section
variable {d M pc np x y : Nat} {sw : List (Int × Nat)} {ls st : List Value} {h : zm_H} {Q : Option Value → zm_H → Prop}
theorem wx_iconst {w : Int} (v : Int32) (hc : zt_code M pc = some (.iconst w, np, x, y, sw)) (hv : Int32.ofInt w = v) (kk : zm_wp d M np ls (.int v :: st) h Q) : zm_wp d M pc ls st h Q := by
  subst hv
  obtain ⟨n, r, h', hr, hq⟩ := kk
  exact ⟨n + 1, r, h', ⟨_, hc, hr⟩, hq⟩
theorem wx_bipush {w : Int} (v : Int32) (hc : zt_code M pc = some (.bipush w, np, x, y, sw)) (hv : (Int8.ofInt w).toInt32 = v) (kk : zm_wp d M np ls (.int v :: st) h Q) : zm_wp d M pc ls st h Q := by
  subst hv
  obtain ⟨n, r, h', hr, hq⟩ := kk
  exact ⟨n + 1, r, h', ⟨_, hc, hr⟩, hq⟩
theorem wx_sipush {w : Int} (v : Int32) (hc : zt_code M pc = some (.sipush w, np, x, y, sw)) (hv : (Int16.ofInt w).toInt32 = v) (kk : zm_wp d M np ls (.int v :: st) h Q) : zm_wp d M pc ls st h Q := by
  subst hv
  obtain ⟨n, r, h', hr, hq⟩ := kk
  exact ⟨n + 1, r, h', ⟨_, hc, hr⟩, hq⟩
theorem wx_lconst {w : Fin 2} (v : Int64) (hc : zt_code M pc = some (.lconst w, np, x, y, sw)) (hv : Int64.ofNat w = v) (kk : zm_wp d M np ls (.long v :: st) h Q) : zm_wp d M pc ls st h Q := by
  subst hv
  obtain ⟨n, r, h', hr, hq⟩ := kk
  exact ⟨n + 1, r, h', ⟨_, hc, hr⟩, hq⟩
theorem wx_ldc {o u : Nat} {w : Int} (v : Int32) (hc : zt_code M pc = some (.ldc o, np, x, y, [(w, u)])) (hv : Int32.ofInt w = v) (kk : zm_wp d M np ls (.int v :: st) h Q) : zm_wp d M pc ls st h Q := by
  subst hv
  obtain ⟨n, r, h', hr, hq⟩ := kk
  exact ⟨n + 1, r, h', ⟨_, hc, hr⟩, hq⟩
theorem wx_ldc2_w {o u : Nat} {w : Int} (v : Int64) (hc : zt_code M pc = some (.ldc2_w o, np, x, y, [(w, u)])) (hv : Int64.ofInt w = v) (kk : zm_wp d M np ls (.long v :: st) h Q) : zm_wp d M pc ls st h Q := by
  subst hv
  obtain ⟨n, r, h', hr, hq⟩ := kk
  exact ⟨n + 1, r, h', ⟨_, hc, hr⟩, hq⟩
theorem wx_aconst_null (hc : zt_code M pc = some (.aconst_null, np, x, y, sw)) (kk : zm_wp d M np ls (.null :: st) h Q) : zm_wp d M pc ls st h Q := by
  obtain ⟨n, r, h', hr, hq⟩ := kk
  exact ⟨n + 1, r, h', ⟨_, hc, hr⟩, hq⟩
theorem wx_iload {j : Nat} {v : Value} (hc : zt_code M pc = some (.iload j, np, x, y, sw)) (hv : ls[(j : Nat)]? = some v) (hk : zm_isK 0 v = true) (kk : zm_wp d M np ls (v :: st) h Q) : zm_wp d M pc ls st h Q := by
  obtain ⟨n, r, h', hr, hq⟩ := kk
  exact ⟨n + 1, r, h', ⟨_, hc, (by show zm_ld 0 ls j _; unfold zm_ld; rw [hv]; exact ⟨hk, hr⟩)⟩, hq⟩
theorem wx_iload_n {j : Fin 4} {v : Value} (hc : zt_code M pc = some (.iload_n j, np, x, y, sw)) (hv : ls[(j : Nat)]? = some v) (hk : zm_isK 0 v = true) (kk : zm_wp d M np ls (v :: st) h Q) : zm_wp d M pc ls st h Q := by
  obtain ⟨n, r, h', hr, hq⟩ := kk
  exact ⟨n + 1, r, h', ⟨_, hc, (by show zm_ld 0 ls j _; unfold zm_ld; rw [hv]; exact ⟨hk, hr⟩)⟩, hq⟩
theorem wx_lload {j : Nat} {v : Value} (hc : zt_code M pc = some (.lload j, np, x, y, sw)) (hv : ls[(j : Nat)]? = some v) (hk : zm_isK 1 v = true) (kk : zm_wp d M np ls (v :: st) h Q) : zm_wp d M pc ls st h Q := by
  obtain ⟨n, r, h', hr, hq⟩ := kk
  exact ⟨n + 1, r, h', ⟨_, hc, (by show zm_ld 1 ls j _; unfold zm_ld; rw [hv]; exact ⟨hk, hr⟩)⟩, hq⟩
theorem wx_lload_n {j : Fin 4} {v : Value} (hc : zt_code M pc = some (.lload_n j, np, x, y, sw)) (hv : ls[(j : Nat)]? = some v) (hk : zm_isK 1 v = true) (kk : zm_wp d M np ls (v :: st) h Q) : zm_wp d M pc ls st h Q := by
  obtain ⟨n, r, h', hr, hq⟩ := kk
  exact ⟨n + 1, r, h', ⟨_, hc, (by show zm_ld 1 ls j _; unfold zm_ld; rw [hv]; exact ⟨hk, hr⟩)⟩, hq⟩
theorem wx_aload {j : Nat} {v : Value} (hc : zt_code M pc = some (.aload j, np, x, y, sw)) (hv : ls[(j : Nat)]? = some v) (hk : zm_isK 2 v = true) (kk : zm_wp d M np ls (v :: st) h Q) : zm_wp d M pc ls st h Q := by
  obtain ⟨n, r, h', hr, hq⟩ := kk
  exact ⟨n + 1, r, h', ⟨_, hc, (by show zm_ld 2 ls j _; unfold zm_ld; rw [hv]; exact ⟨hk, hr⟩)⟩, hq⟩
theorem wx_aload_n {j : Fin 4} {v : Value} (hc : zt_code M pc = some (.aload_n j, np, x, y, sw)) (hv : ls[(j : Nat)]? = some v) (hk : zm_isK 2 v = true) (kk : zm_wp d M np ls (v :: st) h Q) : zm_wp d M pc ls st h Q := by
  obtain ⟨n, r, h', hr, hq⟩ := kk
  exact ⟨n + 1, r, h', ⟨_, hc, (by show zm_ld 2 ls j _; unfold zm_ld; rw [hv]; exact ⟨hk, hr⟩)⟩, hq⟩
theorem wx_istore {j : Nat} {v : Value} {ls' : List Value} (hc : zt_code M pc = some (.istore j, np, x, y, sw)) (hk : zm_isK 0 v = true) (hj : Nat.blt j ls.length = true) (hn : zm_nl ls j = true) (hs : ls.set j v = ls') (kk : zm_wp d M np ls' st h Q) : zm_wp d M pc ls (v :: st) h Q := by
  subst hs
  obtain ⟨n, r, h', hr, hq⟩ := kk
  exact ⟨n + 1, r, h', ⟨_, hc, ⟨hk, Nat.blt_eq.mp hj, hn, hr⟩⟩, hq⟩
theorem wx_istore_n {j : Fin 4} {v : Value} {ls' : List Value} (hc : zt_code M pc = some (.istore_n j, np, x, y, sw)) (hk : zm_isK 0 v = true) (hj : Nat.blt j ls.length = true) (hn : zm_nl ls j = true) (hs : ls.set j v = ls') (kk : zm_wp d M np ls' st h Q) : zm_wp d M pc ls (v :: st) h Q := by
  subst hs
  obtain ⟨n, r, h', hr, hq⟩ := kk
  exact ⟨n + 1, r, h', ⟨_, hc, ⟨hk, Nat.blt_eq.mp hj, hn, hr⟩⟩, hq⟩
theorem wx_astore {j : Nat} {v : Value} {ls' : List Value} (hc : zt_code M pc = some (.astore j, np, x, y, sw)) (hk : zm_isK 2 v = true) (hj : Nat.blt j ls.length = true) (hn : zm_nl ls j = true) (hs : ls.set j v = ls') (kk : zm_wp d M np ls' st h Q) : zm_wp d M pc ls (v :: st) h Q := by
  subst hs
  obtain ⟨n, r, h', hr, hq⟩ := kk
  exact ⟨n + 1, r, h', ⟨_, hc, ⟨hk, Nat.blt_eq.mp hj, hn, hr⟩⟩, hq⟩
theorem wx_astore_n {j : Fin 4} {v : Value} {ls' : List Value} (hc : zt_code M pc = some (.astore_n j, np, x, y, sw)) (hk : zm_isK 2 v = true) (hj : Nat.blt j ls.length = true) (hn : zm_nl ls j = true) (hs : ls.set j v = ls') (kk : zm_wp d M np ls' st h Q) : zm_wp d M pc ls (v :: st) h Q := by
  subst hs
  obtain ⟨n, r, h', hr, hq⟩ := kk
  exact ⟨n + 1, r, h', ⟨_, hc, ⟨hk, Nat.blt_eq.mp hj, hn, hr⟩⟩, hq⟩
theorem wx_lstore {j : Nat} {v : Value} {ls' : List Value} (hc : zt_code M pc = some (.lstore j, np, x, y, sw)) (hk : zm_isK 1 v = true) (hj : Nat.blt (j + 1) ls.length = true) (hn : zm_nl ls j = true) (hs : (ls.set j v).set (j + 1) zm_un = ls') (kk : zm_wp d M np ls' st h Q) : zm_wp d M pc ls (v :: st) h Q := by
  subst hs
  obtain ⟨n, r, h', hr, hq⟩ := kk
  exact ⟨n + 1, r, h', ⟨_, hc, ⟨hk, Nat.blt_eq.mp hj, hn, hr⟩⟩, hq⟩
theorem wx_lstore_n {j : Fin 4} {v : Value} {ls' : List Value} (hc : zt_code M pc = some (.lstore_n j, np, x, y, sw)) (hk : zm_isK 1 v = true) (hj : Nat.blt (j + 1) ls.length = true) (hn : zm_nl ls j = true) (hs : (ls.set j v).set (j + 1) zm_un = ls') (kk : zm_wp d M np ls' st h Q) : zm_wp d M pc ls (v :: st) h Q := by
  subst hs
  obtain ⟨n, r, h', hr, hq⟩ := kk
  exact ⟨n + 1, r, h', ⟨_, hc, ⟨hk, Nat.blt_eq.mp hj, hn, hr⟩⟩, hq⟩
theorem wx_iinc {j : Nat} {w : Int} {z z' : Int32} {ls' : List Value} (hc : zt_code M pc = some (.iinc j w, np, x, y, sw)) (hv : ls[j]? = some (.int z)) (hj : Nat.blt j ls.length = true) (hn : zm_nl ls j = true) (hz : z + Int32.ofInt w = z') (hs : ls.set j (.int z') = ls') (kk : zm_wp d M np ls' st h Q) : zm_wp d M pc ls st h Q := by
  subst hz
  subst hs
  obtain ⟨n, r, h', hr, hq⟩ := kk
  exact ⟨n + 1, r, h', ⟨_, hc, (by show zm_ld 0 ls j _; unfold zm_ld; rw [hv]; exact ⟨rfl, Nat.blt_eq.mp hj, hn, hr⟩)⟩, hq⟩
theorem wx_iadd {a b : Int32} (hc : zt_code M pc = some (.iadd, np, x, y, sw)) (kk : zm_wp d M np ls (.int (a + b) :: st) h Q) : zm_wp d M pc ls (.int b :: .int a :: st) h Q := by
  obtain ⟨n, r, h', hr, hq⟩ := kk
  exact ⟨n + 1, r, h', ⟨_, hc, hr⟩, hq⟩
theorem wx_isub {a b : Int32} (hc : zt_code M pc = some (.isub, np, x, y, sw)) (kk : zm_wp d M np ls (.int (a - b) :: st) h Q) : zm_wp d M pc ls (.int b :: .int a :: st) h Q := by
  obtain ⟨n, r, h', hr, hq⟩ := kk
  exact ⟨n + 1, r, h', ⟨_, hc, hr⟩, hq⟩
theorem wx_imul {a b : Int32} (hc : zt_code M pc = some (.imul, np, x, y, sw)) (kk : zm_wp d M np ls (.int (a * b) :: st) h Q) : zm_wp d M pc ls (.int b :: .int a :: st) h Q := by
  obtain ⟨n, r, h', hr, hq⟩ := kk
  exact ⟨n + 1, r, h', ⟨_, hc, hr⟩, hq⟩
theorem wx_iand {a b : Int32} (hc : zt_code M pc = some (.iand, np, x, y, sw)) (kk : zm_wp d M np ls (.int (a &&& b) :: st) h Q) : zm_wp d M pc ls (.int b :: .int a :: st) h Q := by
  obtain ⟨n, r, h', hr, hq⟩ := kk
  exact ⟨n + 1, r, h', ⟨_, hc, hr⟩, hq⟩
theorem wx_ior {a b : Int32} (hc : zt_code M pc = some (.ior, np, x, y, sw)) (kk : zm_wp d M np ls (.int (a ||| b) :: st) h Q) : zm_wp d M pc ls (.int b :: .int a :: st) h Q := by
  obtain ⟨n, r, h', hr, hq⟩ := kk
  exact ⟨n + 1, r, h', ⟨_, hc, hr⟩, hq⟩
theorem wx_ixor {a b : Int32} (hc : zt_code M pc = some (.ixor, np, x, y, sw)) (kk : zm_wp d M np ls (.int (a ^^^ b) :: st) h Q) : zm_wp d M pc ls (.int b :: .int a :: st) h Q := by
  obtain ⟨n, r, h', hr, hq⟩ := kk
  exact ⟨n + 1, r, h', ⟨_, hc, hr⟩, hq⟩
theorem wx_land {a b : Int64} (hc : zt_code M pc = some (.land, np, x, y, sw)) (kk : zm_wp d M np ls (.long (a &&& b) :: st) h Q) : zm_wp d M pc ls (.long b :: .long a :: st) h Q := by
  obtain ⟨n, r, h', hr, hq⟩ := kk
  exact ⟨n + 1, r, h', ⟨_, hc, hr⟩, hq⟩
theorem wx_lor {a b : Int64} (hc : zt_code M pc = some (.lor, np, x, y, sw)) (kk : zm_wp d M np ls (.long (a ||| b) :: st) h Q) : zm_wp d M pc ls (.long b :: .long a :: st) h Q := by
  obtain ⟨n, r, h', hr, hq⟩ := kk
  exact ⟨n + 1, r, h', ⟨_, hc, hr⟩, hq⟩
theorem wx_lushr {a : Int64} {b : Int32} (hc : zt_code M pc = some (.lushr, np, x, y, sw)) (kk : zm_wp d M np ls (.long (a.toUInt64 >>> (b.toInt64.toUInt64 &&& Int64.toUInt64 63)).toInt64 :: st) h Q) : zm_wp d M pc ls (.int b :: .long a :: st) h Q := by
  obtain ⟨n, r, h', hr, hq⟩ := kk
  exact ⟨n + 1, r, h', ⟨_, hc, hr⟩, hq⟩
theorem wx_lshr {a : Int64} {b : Int32} (hc : zt_code M pc = some (.lshr, np, x, y, sw)) (kk : zm_wp d M np ls (.long (a >>> (b.toInt64 &&& 63)) :: st) h Q) : zm_wp d M pc ls (.int b :: .long a :: st) h Q := by
  obtain ⟨n, r, h', hr, hq⟩ := kk
  exact ⟨n + 1, r, h', ⟨_, hc, hr⟩, hq⟩
theorem wx_lshl {a : Int64} {b : Int32} (hc : zt_code M pc = some (.lshl, np, x, y, sw)) (kk : zm_wp d M np ls (.long (a <<< (b.toInt64 &&& 63)) :: st) h Q) : zm_wp d M pc ls (.int b :: .long a :: st) h Q := by
  obtain ⟨n, r, h', hr, hq⟩ := kk
  exact ⟨n + 1, r, h', ⟨_, hc, hr⟩, hq⟩
theorem wx_l2i {a : Int64} (hc : zt_code M pc = some (.l2i, np, x, y, sw)) (kk : zm_wp d M np ls (.int a.toInt32 :: st) h Q) : zm_wp d M pc ls (.long a :: st) h Q := by
  obtain ⟨n, r, h', hr, hq⟩ := kk
  exact ⟨n + 1, r, h', ⟨_, hc, hr⟩, hq⟩
theorem wx_i2l {a : Int32} (hc : zt_code M pc = some (.i2l, np, x, y, sw)) (kk : zm_wp d M np ls (.long a.toInt64 :: st) h Q) : zm_wp d M pc ls (.int a :: st) h Q := by
  obtain ⟨n, r, h', hr, hq⟩ := kk
  exact ⟨n + 1, r, h', ⟨_, hc, hr⟩, hq⟩
theorem wx_i2b {a : Int32} (hc : zt_code M pc = some (.i2b, np, x, y, sw)) (kk : zm_wp d M np ls (.int a.toInt8.toInt32 :: st) h Q) : zm_wp d M pc ls (.int a :: st) h Q := by
  obtain ⟨n, r, h', hr, hq⟩ := kk
  exact ⟨n + 1, r, h', ⟨_, hc, hr⟩, hq⟩
theorem wx_dup {v : Value} (hc : zt_code M pc = some (.dup, np, x, y, sw)) (hv : zm_c1 v = true) (kk : zm_wp d M np ls (v :: v :: st) h Q) : zm_wp d M pc ls (v :: st) h Q := by
  obtain ⟨n, r, h', hr, hq⟩ := kk
  exact ⟨n + 1, r, h', ⟨_, hc, ⟨hv, hr⟩⟩, hq⟩
theorem wx_pop {v : Value} (hc : zt_code M pc = some (.pop, np, x, y, sw)) (hv : zm_c1 v = true) (kk : zm_wp d M np ls st h Q) : zm_wp d M pc ls (v :: st) h Q := by
  obtain ⟨n, r, h', hr, hq⟩ := kk
  exact ⟨n + 1, r, h', ⟨_, hc, ⟨hv, hr⟩⟩, hq⟩
theorem wx_dup_x1 {v w : Value} (hc : zt_code M pc = some (.dup_x1, np, x, y, sw)) (hv : zm_c1 v = true) (hw : zm_c1 w = true) (kk : zm_wp d M np ls (v :: w :: v :: st) h Q) : zm_wp d M pc ls (v :: w :: st) h Q := by
  obtain ⟨n, r, h', hr, hq⟩ := kk
  exact ⟨n + 1, r, h', ⟨_, hc, ⟨hv, hw, hr⟩⟩, hq⟩
theorem wx_dup2 {v w : Value} (hc : zt_code M pc = some (.dup2, np, x, y, sw)) (hv : zm_c1 v = true) (hw : zm_c1 w = true) (kk : zm_wp d M np ls (v :: w :: v :: w :: st) h Q) : zm_wp d M pc ls (v :: w :: st) h Q := by
  obtain ⟨n, r, h', hr, hq⟩ := kk
  exact ⟨n + 1, r, h', ⟨_, hc, ⟨hv, hw, hr⟩⟩, hq⟩
theorem wx_if_eq {a : Int32} {o : Int} (hc : zt_code M pc = some (.ifCond .eq o, np, x, y, sw)) (kt : a = 0 → zm_wp d M x ls st h Q) (kf : ¬ (a = 0) → zm_wp d M np ls st h Q) : zm_wp d M pc ls (.int a :: st) h Q := by
  rcases Classical.em (a = 0) with q | q
  · obtain ⟨n, r, h', hr, hq⟩ := kt q
    exact ⟨n + 1, r, h', ⟨_, hc, ⟨fun _ => hr, fun z => absurd q z⟩⟩, hq⟩
  · obtain ⟨n, r, h', hr, hq⟩ := kf q
    exact ⟨n + 1, r, h', ⟨_, hc, ⟨fun z => absurd z q, fun _ => hr⟩⟩, hq⟩
theorem wx_icmp_eq {a b : Int32} {o : Int} (hc : zt_code M pc = some (.if_icmp .eq o, np, x, y, sw)) (kt : a = b → zm_wp d M x ls st h Q) (kf : ¬ (a = b) → zm_wp d M np ls st h Q) : zm_wp d M pc ls (.int b :: .int a :: st) h Q := by
  rcases Classical.em (a = b) with q | q
  · obtain ⟨n, r, h', hr, hq⟩ := kt q
    exact ⟨n + 1, r, h', ⟨_, hc, ⟨fun _ => hr, fun z => absurd q z⟩⟩, hq⟩
  · obtain ⟨n, r, h', hr, hq⟩ := kf q
    exact ⟨n + 1, r, h', ⟨_, hc, ⟨fun z => absurd z q, fun _ => hr⟩⟩, hq⟩
theorem wx_if_ne {a : Int32} {o : Int} (hc : zt_code M pc = some (.ifCond .ne o, np, x, y, sw)) (kt : ¬ a = 0 → zm_wp d M x ls st h Q) (kf : ¬ (¬ a = 0) → zm_wp d M np ls st h Q) : zm_wp d M pc ls (.int a :: st) h Q := by
  rcases Classical.em (¬ a = 0) with q | q
  · obtain ⟨n, r, h', hr, hq⟩ := kt q
    exact ⟨n + 1, r, h', ⟨_, hc, ⟨fun _ => hr, fun z => absurd q z⟩⟩, hq⟩
  · obtain ⟨n, r, h', hr, hq⟩ := kf q
    exact ⟨n + 1, r, h', ⟨_, hc, ⟨fun z => absurd z q, fun _ => hr⟩⟩, hq⟩
theorem wx_icmp_ne {a b : Int32} {o : Int} (hc : zt_code M pc = some (.if_icmp .ne o, np, x, y, sw)) (kt : ¬ a = b → zm_wp d M x ls st h Q) (kf : ¬ (¬ a = b) → zm_wp d M np ls st h Q) : zm_wp d M pc ls (.int b :: .int a :: st) h Q := by
  rcases Classical.em (¬ a = b) with q | q
  · obtain ⟨n, r, h', hr, hq⟩ := kt q
    exact ⟨n + 1, r, h', ⟨_, hc, ⟨fun _ => hr, fun z => absurd q z⟩⟩, hq⟩
  · obtain ⟨n, r, h', hr, hq⟩ := kf q
    exact ⟨n + 1, r, h', ⟨_, hc, ⟨fun z => absurd z q, fun _ => hr⟩⟩, hq⟩
theorem wx_if_lt {a : Int32} {o : Int} (hc : zt_code M pc = some (.ifCond .lt o, np, x, y, sw)) (kt : a < 0 → zm_wp d M x ls st h Q) (kf : ¬ (a < 0) → zm_wp d M np ls st h Q) : zm_wp d M pc ls (.int a :: st) h Q := by
  rcases Classical.em (a < 0) with q | q
  · obtain ⟨n, r, h', hr, hq⟩ := kt q
    exact ⟨n + 1, r, h', ⟨_, hc, ⟨fun _ => hr, fun z => absurd q z⟩⟩, hq⟩
  · obtain ⟨n, r, h', hr, hq⟩ := kf q
    exact ⟨n + 1, r, h', ⟨_, hc, ⟨fun z => absurd z q, fun _ => hr⟩⟩, hq⟩
theorem wx_icmp_lt {a b : Int32} {o : Int} (hc : zt_code M pc = some (.if_icmp .lt o, np, x, y, sw)) (kt : a < b → zm_wp d M x ls st h Q) (kf : ¬ (a < b) → zm_wp d M np ls st h Q) : zm_wp d M pc ls (.int b :: .int a :: st) h Q := by
  rcases Classical.em (a < b) with q | q
  · obtain ⟨n, r, h', hr, hq⟩ := kt q
    exact ⟨n + 1, r, h', ⟨_, hc, ⟨fun _ => hr, fun z => absurd q z⟩⟩, hq⟩
  · obtain ⟨n, r, h', hr, hq⟩ := kf q
    exact ⟨n + 1, r, h', ⟨_, hc, ⟨fun z => absurd z q, fun _ => hr⟩⟩, hq⟩
theorem wx_if_ge {a : Int32} {o : Int} (hc : zt_code M pc = some (.ifCond .ge o, np, x, y, sw)) (kt : 0 ≤ a → zm_wp d M x ls st h Q) (kf : ¬ (0 ≤ a) → zm_wp d M np ls st h Q) : zm_wp d M pc ls (.int a :: st) h Q := by
  rcases Classical.em (0 ≤ a) with q | q
  · obtain ⟨n, r, h', hr, hq⟩ := kt q
    exact ⟨n + 1, r, h', ⟨_, hc, ⟨fun _ => hr, fun z => absurd q z⟩⟩, hq⟩
  · obtain ⟨n, r, h', hr, hq⟩ := kf q
    exact ⟨n + 1, r, h', ⟨_, hc, ⟨fun z => absurd z q, fun _ => hr⟩⟩, hq⟩
theorem wx_icmp_ge {a b : Int32} {o : Int} (hc : zt_code M pc = some (.if_icmp .ge o, np, x, y, sw)) (kt : b ≤ a → zm_wp d M x ls st h Q) (kf : ¬ (b ≤ a) → zm_wp d M np ls st h Q) : zm_wp d M pc ls (.int b :: .int a :: st) h Q := by
  rcases Classical.em (b ≤ a) with q | q
  · obtain ⟨n, r, h', hr, hq⟩ := kt q
    exact ⟨n + 1, r, h', ⟨_, hc, ⟨fun _ => hr, fun z => absurd q z⟩⟩, hq⟩
  · obtain ⟨n, r, h', hr, hq⟩ := kf q
    exact ⟨n + 1, r, h', ⟨_, hc, ⟨fun z => absurd z q, fun _ => hr⟩⟩, hq⟩
theorem wx_if_gt {a : Int32} {o : Int} (hc : zt_code M pc = some (.ifCond .gt o, np, x, y, sw)) (kt : 0 < a → zm_wp d M x ls st h Q) (kf : ¬ (0 < a) → zm_wp d M np ls st h Q) : zm_wp d M pc ls (.int a :: st) h Q := by
  rcases Classical.em (0 < a) with q | q
  · obtain ⟨n, r, h', hr, hq⟩ := kt q
    exact ⟨n + 1, r, h', ⟨_, hc, ⟨fun _ => hr, fun z => absurd q z⟩⟩, hq⟩
  · obtain ⟨n, r, h', hr, hq⟩ := kf q
    exact ⟨n + 1, r, h', ⟨_, hc, ⟨fun z => absurd z q, fun _ => hr⟩⟩, hq⟩
theorem wx_icmp_gt {a b : Int32} {o : Int} (hc : zt_code M pc = some (.if_icmp .gt o, np, x, y, sw)) (kt : b < a → zm_wp d M x ls st h Q) (kf : ¬ (b < a) → zm_wp d M np ls st h Q) : zm_wp d M pc ls (.int b :: .int a :: st) h Q := by
  rcases Classical.em (b < a) with q | q
  · obtain ⟨n, r, h', hr, hq⟩ := kt q
    exact ⟨n + 1, r, h', ⟨_, hc, ⟨fun _ => hr, fun z => absurd q z⟩⟩, hq⟩
  · obtain ⟨n, r, h', hr, hq⟩ := kf q
    exact ⟨n + 1, r, h', ⟨_, hc, ⟨fun z => absurd z q, fun _ => hr⟩⟩, hq⟩
theorem wx_if_le {a : Int32} {o : Int} (hc : zt_code M pc = some (.ifCond .le o, np, x, y, sw)) (kt : a ≤ 0 → zm_wp d M x ls st h Q) (kf : ¬ (a ≤ 0) → zm_wp d M np ls st h Q) : zm_wp d M pc ls (.int a :: st) h Q := by
  rcases Classical.em (a ≤ 0) with q | q
  · obtain ⟨n, r, h', hr, hq⟩ := kt q
    exact ⟨n + 1, r, h', ⟨_, hc, ⟨fun _ => hr, fun z => absurd q z⟩⟩, hq⟩
  · obtain ⟨n, r, h', hr, hq⟩ := kf q
    exact ⟨n + 1, r, h', ⟨_, hc, ⟨fun z => absurd z q, fun _ => hr⟩⟩, hq⟩
theorem wx_icmp_le {a b : Int32} {o : Int} (hc : zt_code M pc = some (.if_icmp .le o, np, x, y, sw)) (kt : a ≤ b → zm_wp d M x ls st h Q) (kf : ¬ (a ≤ b) → zm_wp d M np ls st h Q) : zm_wp d M pc ls (.int b :: .int a :: st) h Q := by
  rcases Classical.em (a ≤ b) with q | q
  · obtain ⟨n, r, h', hr, hq⟩ := kt q
    exact ⟨n + 1, r, h', ⟨_, hc, ⟨fun _ => hr, fun z => absurd q z⟩⟩, hq⟩
  · obtain ⟨n, r, h', hr, hq⟩ := kf q
    exact ⟨n + 1, r, h', ⟨_, hc, ⟨fun z => absurd z q, fun _ => hr⟩⟩, hq⟩
theorem wx_acmp_eq {a b : Value} {o : Int} (hc : zt_code M pc = some (.if_acmp .eq o, np, x, y, sw)) (ka : zm_isK 2 a = true) (kb : zm_isK 2 b = true) (kt : a = b → zm_wp d M x ls st h Q) (kf : ¬ a = b → zm_wp d M np ls st h Q) : zm_wp d M pc ls (b :: a :: st) h Q := by
  rcases Classical.em (a = b) with q | q
  · obtain ⟨n, r, h', hr, hq⟩ := kt q
    exact ⟨n + 1, r, h', ⟨_, hc, ⟨ka, kb, fun _ => hr, fun z => absurd q z⟩⟩, hq⟩
  · obtain ⟨n, r, h', hr, hq⟩ := kf q
    exact ⟨n + 1, r, h', ⟨_, hc, ⟨ka, kb, fun z => absurd z q, fun _ => hr⟩⟩, hq⟩
theorem wx_acmp_ne {a b : Value} {o : Int} (hc : zt_code M pc = some (.if_acmp .ne o, np, x, y, sw)) (ka : zm_isK 2 a = true) (kb : zm_isK 2 b = true) (kt : ¬ a = b → zm_wp d M x ls st h Q) (kf : a = b → zm_wp d M np ls st h Q) : zm_wp d M pc ls (b :: a :: st) h Q := by
  rcases Classical.em (a = b) with q | q
  · obtain ⟨n, r, h', hr, hq⟩ := kf q
    exact ⟨n + 1, r, h', ⟨_, hc, ⟨ka, kb, fun z => absurd q z, fun _ => hr⟩⟩, hq⟩
  · obtain ⟨n, r, h', hr, hq⟩ := kt q
    exact ⟨n + 1, r, h', ⟨_, hc, ⟨ka, kb, fun _ => hr, fun z => absurd z q⟩⟩, hq⟩
theorem wx_ifnullN {o : Int} (hc : zt_code M pc = some (.ifnull o, np, x, y, sw)) (kk : zm_wp d M x ls st h Q) : zm_wp d M pc ls (.null :: st) h Q := by
  obtain ⟨n, r, h', hr, hq⟩ := kk
  exact ⟨n + 1, r, h', ⟨_, hc, hr⟩, hq⟩
theorem wx_ifnullR {o : Int} {a : Nat} (hc : zt_code M pc = some (.ifnull o, np, x, y, sw)) (kk : zm_wp d M np ls st h Q) : zm_wp d M pc ls (.ref a :: st) h Q := by
  obtain ⟨n, r, h', hr, hq⟩ := kk
  exact ⟨n + 1, r, h', ⟨_, hc, hr⟩, hq⟩
theorem wx_ifnonnullN {o : Int} (hc : zt_code M pc = some (.ifnonnull o, np, x, y, sw)) (kk : zm_wp d M np ls st h Q) : zm_wp d M pc ls (.null :: st) h Q := by
  obtain ⟨n, r, h', hr, hq⟩ := kk
  exact ⟨n + 1, r, h', ⟨_, hc, hr⟩, hq⟩
theorem wx_ifnonnullR {o : Int} {a : Nat} (hc : zt_code M pc = some (.ifnonnull o, np, x, y, sw)) (kk : zm_wp d M x ls st h Q) : zm_wp d M pc ls (.ref a :: st) h Q := by
  obtain ⟨n, r, h', hr, hq⟩ := kk
  exact ⟨n + 1, r, h', ⟨_, hc, hr⟩, hq⟩
theorem wx_goto {o : Int} (hc : zt_code M pc = some (.goto o, np, x, y, sw)) (kk : zm_wp d M x ls st h Q) : zm_wp d M pc ls st h Q := by
  obtain ⟨n, r, h', hr, hq⟩ := kk
  exact ⟨n + 1, r, h', ⟨_, hc, hr⟩, hq⟩
theorem wx_tableswitch {a : Int32} {q1 q2 q3 : Int} {os : Array Int} {tgt : Nat} (hc : zt_code M pc = some (.tableswitch q1 q2 q3 os, np, x, y, sw)) (ht : zm_sw x sw a.toInt = tgt) (kk : zm_wp d M tgt ls st h Q) : zm_wp d M pc ls (.int a :: st) h Q := by
  subst ht
  obtain ⟨n, r, h', hr, hq⟩ := kk
  exact ⟨n + 1, r, h', ⟨_, hc, hr⟩, hq⟩
theorem wx_getfield {o a : Nat} {v : Value} (hc : zt_code M pc = some (.getfield o, np, x, y, sw)) (hi : zm_is h a x) (hv : zm_at h a y = v) (kk : zm_wp d M np ls (v :: st) h Q) : zm_wp d M pc ls (.ref a :: st) h Q := by
  subst hv
  obtain ⟨n, r, h', hr, hq⟩ := kk
  exact ⟨n + 1, r, h', ⟨_, hc, ⟨hi, hr⟩⟩, hq⟩
theorem wx_putfield {o a : Nat} {v : Value} (hc : zt_code M pc = some (.putfield o, np, x, y, sw)) (hi : zm_is h a x) (hf : zm_fit (zt_ty x y) v = true) (kk : zm_wp d M np ls st (zm_put h a y v) Q) : zm_wp d M pc ls (v :: .ref a :: st) h Q := by
  obtain ⟨n, r, h', hr, hq⟩ := kk
  exact ⟨n + 1, r, h', ⟨_, hc, ⟨hi, hf, hr⟩⟩, hq⟩
theorem wx_new {o : Nat} (hc : zt_code M pc = some (.new o, np, x, y, sw)) (kk : zm_wp d M np ls (.ref (zm_nx h) :: st) (zm_mk h x y (zt_df x)) Q) : zm_wp d M pc ls st h Q := by
  obtain ⟨n, r, h', hr, hq⟩ := kk
  exact ⟨n + 1, r, h', ⟨_, hc, hr⟩, hq⟩
theorem wx_newarray {o : ArrayType} {w : Int32} (N : Nat) (hc : zt_code M pc = some (.newarray o, np, x, y, sw)) (h1 : ¬ w < 0) (hN : w.toNatClampNeg = N) (h2 : N ≤ 60000000) (kk : zm_wp d M np ls (.ref (zm_nx h) :: st) (zm_mk h x N (fun _ => zm_df x)) Q) : zm_wp d M pc ls (.int w :: st) h Q := by
  subst hN
  obtain ⟨n, r, h', hr, hq⟩ := kk
  exact ⟨n + 1, r, h', ⟨_, hc, ⟨h1, h2, hr⟩⟩, hq⟩
theorem wx_anewarray {o : Nat} {w : Int32} (N : Nat) (hc : zt_code M pc = some (.anewarray o, np, x, y, sw)) (h1 : ¬ w < 0) (hN : w.toNatClampNeg = N) (h2 : N ≤ 60000000) (kk : zm_wp d M np ls (.ref (zm_nx h) :: st) (zm_mk h x N (fun _ => zm_df x)) Q) : zm_wp d M pc ls (.int w :: st) h Q := by
  subst hN
  obtain ⟨n, r, h', hr, hq⟩ := kk
  exact ⟨n + 1, r, h', ⟨_, hc, ⟨h1, h2, hr⟩⟩, hq⟩
theorem wx_arraylength {a N : Nat} (hc : zt_code M pc = some (.arraylength, np, x, y, sw)) (ha : a < zm_nx h) (ht : (zt_at (zm_tg h a)).isSome = true) (hN : zm_ln h a = N) (kk : zm_wp d M np ls (.int (nI N) :: st) h Q) : zm_wp d M pc ls (.ref a :: st) h Q := by
  subst hN
  obtain ⟨n, r, h', hr, hq⟩ := kk
  exact ⟨n + 1, r, h', ⟨_, hc, ⟨ha, ht, hr⟩⟩, hq⟩
theorem wx_iaload {a j : Nat} {v : Value} (hc : zt_code M pc = some (.iaload, np, x, y, sw)) (ha : a < zm_nx h) (ht : zm_tg h a = 101) (hj : j < zm_ln h a) (hb : zm_ln h a < 2 ^ 31) (hv : zm_at h a j = v) (kk : zm_wp d M np ls (v :: st) h Q) : zm_wp d M pc ls (.int (nI j) :: .ref a :: st) h Q := by
  subst hv
  obtain ⟨n, r, h', hr, hq⟩ := kk
  refine ⟨n + 1, r, h', ⟨_, hc, ⟨ha, by rw [ht]; rfl, vp_in_nI hj hb, ?_⟩⟩, hq⟩
  rw [nI_clamp (Nat.lt_trans hj hb)]
  exact hr
theorem wx_baload {a j : Nat} {v : Value} (hc : zt_code M pc = some (.baload, np, x, y, sw)) (ha : a < zm_nx h) (ht : zm_tg h a = 100) (hj : j < zm_ln h a) (hb : zm_ln h a < 2 ^ 31) (hv : zm_at h a j = v) (kk : zm_wp d M np ls (v :: st) h Q) : zm_wp d M pc ls (.int (nI j) :: .ref a :: st) h Q := by
  subst hv
  obtain ⟨n, r, h', hr, hq⟩ := kk
  refine ⟨n + 1, r, h', ⟨_, hc, ⟨ha, by rw [ht]; rfl, vp_in_nI hj hb, ?_⟩⟩, hq⟩
  rw [nI_clamp (Nat.lt_trans hj hb)]
  exact hr
theorem wx_aaload {a j : Nat} {v : Value} (hc : zt_code M pc = some (.aaload, np, x, y, sw)) (ha : a < zm_nx h) (ht : zm_ro (zm_tg h a) = true) (hj : j < zm_ln h a) (hb : zm_ln h a < 2 ^ 31) (hv : zm_at h a j = v) (kk : zm_wp d M np ls (v :: st) h Q) : zm_wp d M pc ls (.int (nI j) :: .ref a :: st) h Q := by
  subst hv
  obtain ⟨n, r, h', hr, hq⟩ := kk
  refine ⟨n + 1, r, h', ⟨_, hc, ⟨ha, ht, vp_in_nI hj hb, ?_⟩⟩, hq⟩
  rw [nI_clamp (Nat.lt_trans hj hb)]
  exact hr
theorem wx_iastore {a j : Nat} {v : Int32} (hc : zt_code M pc = some (.iastore, np, x, y, sw)) (hi : zm_is h a 101) (hj : j < zm_ln h a) (hb : zm_ln h a < 2 ^ 31) (kk : zm_wp d M np ls st (zm_put h a j (.int v)) Q) : zm_wp d M pc ls (.int v :: .int (nI j) :: .ref a :: st) h Q := by
  obtain ⟨n, r, h', hr, hq⟩ := kk
  refine ⟨n + 1, r, h', ⟨_, hc, ⟨hi, vp_in_nI hj hb, ?_⟩⟩, hq⟩
  rw [nI_clamp (Nat.lt_trans hj hb)]
  exact hr
theorem wx_bastore {a j : Nat} {v : Int32} (hc : zt_code M pc = some (.bastore, np, x, y, sw)) (hi : zm_is h a 100) (hj : j < zm_ln h a) (hb : zm_ln h a < 2 ^ 31) (kk : zm_wp d M np ls st (zm_put h a j (.int v.toInt8.toInt32)) Q) : zm_wp d M pc ls (.int v :: .int (nI j) :: .ref a :: st) h Q := by
  obtain ⟨n, r, h', hr, hq⟩ := kk
  refine ⟨n + 1, r, h', ⟨_, hc, ⟨hi, vp_in_nI hj hb, ?_⟩⟩, hq⟩
  rw [nI_clamp (Nat.lt_trans hj hb)]
  exact hr
theorem wx_aastore {a b j t : Nat} (hc : zt_code M pc = some (.aastore, np, x, y, sw)) (hi : zm_is h a t) (ht : zm_ro t = true) (hb2 : zm_is h b (t - 200)) (hj : j < zm_ln h a) (hb : zm_ln h a < 2 ^ 31) (kk : zm_wp d M np ls st (zm_put h a j (.ref b)) Q) : zm_wp d M pc ls (.ref b :: .int (nI j) :: .ref a :: st) h Q := by
  obtain ⟨n, r, h', hr, hq⟩ := kk
  refine ⟨n + 1, r, h', ⟨_, hc, ⟨by rw [hi.2.2]; exact ht, ⟨hi.1, hi.2.1, rfl⟩, by rw [hi.2.2]; exact hb2, vp_in_nI hj hb, ?_⟩⟩, hq⟩
  rw [nI_clamp (Nat.lt_trans hj hb)]
  exact hr
theorem wx_max {o : Nat} {a b : Int32} (hc : zt_code M pc = some (.invokestatic o, np, 1001, y, sw)) (h4 : Nat.ble st.length 4 = true) (kk : zm_wp d M np ls (.int (if a < b then b else a) :: st) h Q) : zm_wp d M pc ls (.int b :: .int a :: st) h Q := by
  obtain ⟨n, r, h', hr, hq⟩ := kk
  exact ⟨n + 1, r, h', ⟨_, hc, ⟨Nat.le_of_ble_eq_true h4, hr⟩⟩, hq⟩
theorem wx_min {o : Nat} {a b : Int32} (hc : zt_code M pc = some (.invokestatic o, np, 1002, y, sw)) (h4 : Nat.ble st.length 4 = true) (kk : zm_wp d M np ls (.int (if b < a then b else a) :: st) h Q) : zm_wp d M pc ls (.int b :: .int a :: st) h Q := by
  obtain ⟨n, r, h', hr, hq⟩ := kk
  exact ⟨n + 1, r, h', ⟨_, hc, ⟨Nat.le_of_ble_eq_true h4, hr⟩⟩, hq⟩
theorem wx_copy {o a b sp dp w : Nat} (hc : zt_code M pc = some (.invokestatic o, np, 1003, y, sw)) (h4 : Nat.ble st.length 4 = true) (ia : zm_is h a 100) (ib : zm_is h b 100) (g1 : sp + w ≤ zm_ln h a) (g2 : dp + w ≤ zm_ln h b) (b1 : zm_ln h a < 2 ^ 31) (b2 : zm_ln h b < 2 ^ 31) (hf : ∀ i, i < w → zm_fit .byte (zm_at h a (sp + i)) = true) (kk : zm_wp d M np ls st (zm_cp h a sp b dp w) Q) : zm_wp d M pc ls (.int (nI w) :: .int (nI dp) :: .ref b :: .int (nI sp) :: .ref a :: st) h Q := by
  obtain ⟨n, r, h', hr, hq⟩ := kk
  have e1 : (nI w).toNatClampNeg = w := nI_clamp (by omega)
  have e2 : (nI dp).toNatClampNeg = dp := nI_clamp (by omega)
  have e3 : (nI sp).toNatClampNeg = sp := nI_clamp (by omega)
  refine ⟨n + 1, r, h', ⟨_, hc, ⟨Nat.le_of_ble_eq_true h4, ia, ib, nI_pos (by omega), nI_pos (by omega), nI_pos (by omega), by rw [e1, e3]; exact g1, by rw [e1, e2]; exact g2, by rw [e1, e3]; exact hf, ?_⟩⟩, hq⟩
  rw [e1, e2, e3]
  exact hr
theorem wx_static {o : Nat} (hc : zt_code M pc = some (.invokestatic o, np, x, y, sw)) (hx : Nat.blt x 1000 = true) (hn : Nat.ble y st.length = true) (h4 : Nat.ble (st.drop y).length 4 = true) (kk : zm_wc d x (zm_ar y st) h (fun r1 h1 => zm_wp d M np ls (r1.toList ++ st.drop y) h1 Q)) : zm_wp d M pc ls st h Q := by
  obtain ⟨r1, h1, hca, n, r, h', hr, hq⟩ := kk
  have hx : ¬ 1000 < x := by have := Nat.blt_eq.mp hx; omega
  refine ⟨n + 1, r, h', ⟨_, hc, ?_⟩, hq⟩
  show zm_ex (zm_ca d) _ np x y sw ls st h (zt_rt M) r h' (.invokestatic o)
  simp only [zm_ex, if_neg hx]
  exact ⟨Nat.le_of_ble_eq_true hn, Nat.le_of_ble_eq_true h4, r1, h1, hca, hr⟩
theorem wx_virtual {o a : Nat} (hc : zt_code M pc = some (.invokevirtual o, np, x, y, sw)) (ha : st[y]? = some (.ref a)) (hi : zm_is h a (zt_mc x)) (h4 : Nat.ble (st.drop (y + 1)).length 4 = true) (kk : zm_wc d x (zm_ar (y + 1) st) h (fun r1 h1 => zm_wp d M np ls (r1.toList ++ st.drop (y + 1)) h1 Q)) : zm_wp d M pc ls st h Q := by
  obtain ⟨r1, h1, hca, n, r, h', hr, hq⟩ := kk
  have hl : y + 1 ≤ st.length := (List.getElem?_eq_some_iff.mp ha).1
  exact ⟨n + 1, r, h', ⟨_, hc, ⟨⟨a, ha, hi⟩, hl, Nat.le_of_ble_eq_true h4, r1, h1, hca, hr⟩⟩, hq⟩
theorem wx_special {o a : Nat} (hc : zt_code M pc = some (.invokespecial o, np, x, y, sw)) (hx : Nat.blt x 1000 = true) (ha : st[y]? = some (.ref a)) (h4 : Nat.ble (st.drop (y + 1)).length 4 = true) (kk : zm_wc d x (zm_ar (y + 1) st) h (fun r1 h1 => zm_wp d M np ls (r1.toList ++ st.drop (y + 1)) h1 Q)) : zm_wp d M pc ls st h Q := by
  obtain ⟨r1, h1, hca, n, r, h', hr, hq⟩ := kk
  have hl : y + 1 ≤ st.length := (List.getElem?_eq_some_iff.mp ha).1
  have hx : ¬ x = 1000 := by have := Nat.blt_eq.mp hx; omega
  refine ⟨n + 1, r, h', ⟨_, hc, ?_⟩, hq⟩
  show zm_ex (zm_ca d) _ np x y sw ls st h (zt_rt M) r h' (.invokespecial o)
  simp only [zm_ex, if_neg hx]
  exact ⟨⟨a, ha⟩, hl, Nat.le_of_ble_eq_true h4, r1, h1, hca, hr⟩
theorem wx_objinit {o a : Nat} (hc : zt_code M pc = some (.invokespecial o, np, 1000, y, sw)) (h4 : Nat.ble st.length 4 = true) (kk : zm_wp d M np ls st h Q) : zm_wp d M pc ls (.ref a :: st) h Q := by
  obtain ⟨n, r, h', hr, hq⟩ := kk
  exact ⟨n + 1, r, h', ⟨_, hc, ⟨Nat.le_of_ble_eq_true h4, hr⟩⟩, hq⟩
theorem wx_ireturn {v : Int32} {ty : FieldType} (hc : zt_code M pc = some (.ireturn, np, x, y, sw)) (ht : zt_rt M = some ty) (hf : zm_fit ty (.int v) = true) (hq : Q (some (.int v)) h) : zm_wp d M pc ls [.int v] h Q := ⟨1, _, _, ⟨_, hc, ⟨rfl, rfl, ty, ht, hf⟩⟩, hq⟩
theorem wx_areturn {v : Value} {ty : FieldType} (hc : zt_code M pc = some (.areturn, np, x, y, sw)) (hk : zm_isK 2 v = true) (ht : zt_rt M = some ty) (hf : zm_fit ty v = true) (hq : Q (some v) h) : zm_wp d M pc ls [v] h Q := ⟨1, _, _, ⟨_, hc, ⟨rfl, rfl, hk, ty, ht, hf⟩⟩, hq⟩
theorem wx_return (hc : zt_code M pc = some (.return_, np, x, y, sw)) (ht : zt_rt M = none) (hq : Q none h) : zm_wp d M pc ls [] h Q := ⟨1, _, _, ⟨_, hc, ⟨rfl, rfl, rfl, ht⟩⟩, hq⟩
end
end
section
/-! THE CLAIM OUT OF ONE WALK OF THE LAW'S BODY. Your part is whole_start (and what it stands on); all else here is the same for every law, but numbers. -/
def R_law : String := "NameTreeLaw"
def lw_P (b : Addr) (xs : List Int32) (args : Array Value) (s : State) : Prop := args = #[.ref b] ∧ s.IntsAt b xs ∧ xs.length ≤ 2048 ∧ (Jvm.Cond.and given_1 narrow_1).before args s = true
def lw_Q (_ : Array Value) (s : State) (o : Outcome) (t : State) : Prop := o = .returned (some (.int 1)) ∧ Framed s o t [] 600000 7302250
def lw_Z (below : List Frame) (a : Array Value) (s : State) : State → Prop := fun t => ∃ o, t.status = .running ∧ Ended t below o ∧ lw_Q a s o t
/-- the law's own end, with 1 on the stack, nothing written that was there before, its room as the claim has it -/
theorem lw_ret {p : Program} {l : Launch} {e : Env} {s : State} {m : MethodId} {below : List Frame} {meth : Method} {c : Code} {b : Nat} (hx : p.tables.exec = Jvm.exec) (hb : c.code = code) (hr : meth.sig.returnType = ret) (hlocks : meth.locks = false) {pc : Nat} {H : Heap} {ls : Array Slot} (hdg : decode code pc = .ok (.ireturn, 1)) : W p l e room_1 s m #[Value.ref b] below meth c H [] 600000 7302250 (lw_Z below #[Value.ref b] s) (F0 m pc ls [.int 1]) := by
  intro T hT X
  obtain ⟨fs, hret, hrun, hended, hW, hframe⟩ := X.leave (v := some (.int 1)) (hlocks := hlocks) (fun h => by rw [hr] at h; cases h)
  have hmeth' : T.vm.method? m = some meth := X.method'
  refine ⟨T.setFrames fs, ?_, .returned (some (.int 1)), hrun, hended, rfl, ⟨_, rfl⟩, hW, hframe⟩
  jvm_step X.here [X.here.top, hx, hb, hdg, hmeth', hr, ret, narrow_b1]
  (try refine ⟨rfl, ?_⟩); (try refine ⟨rfl, ?_⟩)
  first | (intro acts; rw [hret _ acts rfl rfl rfl]) | rw [hret _ _ rfl rfl rfl]
  exact Steps.refl _
/-- what holds at the law's entry: the machine, the code, the tables' words (any of lw_tbl by 'hts w (by decide +kernel)'), the script of L ints xs at the cell b, what the Statement gives of the start (any of its parts by flat_of_before) -/
def lw_At (p : Program) (s : State) (m : MethodId) (meth : Method) (c : Code) (b L : Nat) (xs : Nat → Int32) : Prop :=
  p.tables.exec = Jvm.exec ∧ c.code = code ∧ meth.sig.returnType = ret ∧ c.maxLocals = 4 ∧ s.vm.findClass R_law = some m.cls ∧ (∀ w ∈ lw_tbl, w.before #[Value.ref b] s = true) ∧ va_X b L xs s s.heap ∧ b < s.heap.size ∧ meth.locks = false ∧ (Jvm.Cond.and given_1 narrow_1).before #[Value.ref b] s = true
end
section
/-- the heap with which the small machine begins: the script alone -/
def zm_h0 (L : Nat) (xs : Nat → Int32) : zm_H := (1, 0, fun _ => (101, L), fun _ j => .int (xs j))
theorem zm_arrP {s : State} {args : Array Value} {ty : FieldType} (h : (Jvm.Cond.arrayClass ty).before args s = true) : ∃ cA, ArrOfT s cA ty ∧ s.vm.findClass ("[" ++ ty.toString) = some cA := by
  obtain ⟨c, k, comp, h1, h2, h3⟩ := Cond.arrayClass_spec h
  exact ⟨c, fun n z => ⟨fun k h => (by cases h), k, h2, comp, h3⟩, h1⟩
theorem zm_arrO {s : State} {args : Array Value} {C : String} (h : (Jvm.Cond.arrayOver (.object C)).before args s = true) : ∃ cA, ArrOfT s cA (.object C) ∧ va_RA s cA (.object C) := by
  obtain ⟨comp, c, k, h1, h2, h3, h4, h5⟩ := Cond.arrayOver_spec h
  exact ⟨c, fun n z => ⟨fun k h => (by cases h), k, h3, comp, h4⟩, k, comp, h3, h4, h1, h5⟩
set_option maxHeartbeats 4000000 in
set_option maxRecDepth 100000 in
theorem zm_K0 {s : State} {args : Array Value} (b off : Nat) (hts : ∀ w ∈ lw_tbl, w.before args s = true) : ∃ dC dI dA, zm_K (dC, dI, dA, b, off) s := by
  have hz : ∀ w ∈ zt_ws, w.before args s = true := fun w hw => hts w (List.mem_filter.mp hw).1
  obtain ⟨c0, i0, k0⟩ := u_known (C := ztC0) (T := ztF0) (N := 2) (n := 2) hz zu_0 (hz _ (zt_m1 37 rfl rfl))
  obtain ⟨c1, i1, k1⟩ := u_known (C := ztC1) (T := ztF1) (N := 4) (n := 4) hz zu_1 (hz _ (zt_m1 114 rfl rfl))
  obtain ⟨c2, i2, k2⟩ := u_known (C := ztC2) (T := ztF2) (N := 2) (n := 2) hz zu_2 (hz _ (zt_m1 107 rfl rfl))
  obtain ⟨c3, i3, k3⟩ := u_known (C := ztC3) (T := ztF3) (N := 3) (n := 3) hz zu_3 (hz _ (zt_m1 150 rfl rfl))
  obtain ⟨c4, i4, k4⟩ := u_known (C := ztC4) (T := ztF4) (N := 2) (n := 2) hz zu_4 (hz _ (zt_m1 21 rfl rfl))
  obtain ⟨c5, i5, k5⟩ := u_known (C := ztC5) (T := ztF5) (N := 9) (n := 9) hz zu_5 (hz _ (zt_m1 44 rfl rfl))
  obtain ⟨c6, i6, k6⟩ := u_known (C := ztC6) (T := ztF6) (N := 11) (n := 11) hz zu_6 (hz _ (zt_m1 143 rfl rfl))
  obtain ⟨c7, i7, k7⟩ := u_known (C := ztC7) (T := ztF7) (N := 6) (n := 6) hz zu_7 (hz _ (zt_m1 13 rfl rfl))
  obtain ⟨c8, i8, k8⟩ := u_known (C := ztC8) (T := ztF8) (N := 22) (n := 22) hz zu_8 (hz _ (zt_m3 13 rfl rfl))
  obtain ⟨aB, aB1, aB2⟩ := zm_arrP (hz _ (zt_m1 35 rfl rfl))
  obtain ⟨aI, aI1, aI2⟩ := zm_arrP (hz _ (zt_m3 87 rfl rfl))
  have o201 := hts (.arrayOver (.object "NameTree$NameRow")) (List.mem_append_right _ (List.mem_append_left _ (List.mem_of_getElem? (i := 113) rfl)))
  obtain ⟨a201, b201⟩ := zm_arrO o201
  have o203 := hts (.arrayOver (.object "NameTree$Span")) (List.mem_append_right _ (List.mem_append_left _ (List.mem_of_getElem? (i := 149) rfl)))
  obtain ⟨a203, b203⟩ := zm_arrO o203
  have o205 := hts (.arrayOver (.object "NameTree$TreeFile")) (List.mem_append_right _ (List.mem_append_left _ (List.mem_of_getElem? (i := 43) rfl)))
  obtain ⟨a205, b205⟩ := zm_arrO o205
  refine ⟨fun k => if k = 0 then c0 else if k = 1 then c1 else if k = 2 then c2 else if k = 3 then c3 else if k = 4 then c4 else if k = 5 then c5 else if k = 6 then c6 else if k = 7 then c7 else c8, fun k => if k = 0 then i0 else if k = 1 then i1 else if k = 2 then i2 else if k = 3 then i3 else if k = 4 then i4 else if k = 5 then i5 else if k = 6 then i6 else if k = 7 then i7 else i8, fun t => if t = 100 then aB else if t = 101 then aI else if t = 201 then a201 else if t = 203 then a203 else if t = 205 then a205 else aB, ?_, ?_, ?_, ?_⟩
  · intro k q hq
    match k, hq with
    | 0, hq => cases hq; exact k0
    | 1, hq => cases hq; exact k1
    | 2, hq => cases hq; exact k2
    | 3, hq => cases hq; exact k3
    | 4, hq => cases hq; exact k4
    | 5, hq => cases hq; exact k5
    | 6, hq => cases hq; exact k6
    | 7, hq => cases hq; exact k7
    | 8, hq => cases hq; exact k8
    | k + 9, hq => simp [zt_cl] at hq
  · intro t ty ht
    rcases zt_at_in t ty ht with rfl | rfl | rfl | rfl | rfl
    · cases ht; exact ⟨aB1, aB2⟩
    · cases ht; exact ⟨aI1, aI2⟩
    · cases ht; exact b201
    · cases ht; exact b203
    · cases ht; exact b205
  · intro C hC
    simp only [zt_ao, List.mem_cons, List.not_mem_nil, or_false] at hC
    rcases hC with rfl | rfl | rfl
    · exact va_AO.of o201
    · exact va_AO.of o203
    · exact va_AO.of o205
  · intro q hq
    simp only [zt_nm2, List.mem_cons, List.not_mem_nil, or_false] at hq
    rcases hq with rfl | rfl | rfl | rfl | rfl | rfl | rfl
    · exact va_Nw.of rfl (hts _ (List.mem_append_right _ (List.mem_append_right _ (List.mem_append_left _ (List.mem_of_getElem? (i := 135) rfl)))))
    · exact va_Nw.of rfl (hts _ (List.mem_append_right _ (List.mem_append_left _ (List.mem_of_getElem? (i := 115) rfl))))
    · exact va_Nw.of rfl (hts _ (List.mem_append_right _ (List.mem_append_right _ (List.mem_append_left _ (List.mem_of_getElem? (i := 167) rfl)))))
    · exact va_Nw.of rfl (hts _ (List.mem_append_right _ (List.mem_append_right _ (List.mem_append_left _ (List.mem_of_getElem? (i := 16) rfl)))))
    · exact va_Nw.of rfl (hts _ (List.mem_append_right _ (List.mem_append_right _ (List.mem_append_left _ (List.mem_of_getElem? (i := 19) rfl)))))
    · exact va_Nw.of rfl (hts _ (List.mem_append_right _ (List.mem_append_left _ (List.mem_of_getElem? (i := 151) rfl))))
    · exact va_Nw.of rfl (hts _ (List.mem_append_right _ (List.mem_append_left _ (List.mem_of_getElem? (i := 22) rfl))))
set_option maxRecDepth 100000 in
theorem zm_start {p : Program} {e : Env} {s : State} {m : MethodId} {below : List Frame} {meth : Method} {c : Code} (l : Launch) {b L d : Nat} {xs : Nat → Int32} (C0 : lw_At p s m meth c b L xs) (hp : zm_wp d 0 0 (zm_lo [.ref 0] 4) [] (zm_h0 L xs) (fun r h' => r = some (.int 1) ∧ zm_nx h' ≤ 600001 ∧ zm_sl h' ≤ 7302250)) : W p l e room_1 s m #[Value.ref b] below meth c s.heap [] 0 0 (lw_Z below #[Value.ref b] s) (entryFrame m ([Value.ref b] : List Value).toArray 4) := by
  obtain ⟨hx, hb, hr, hml, hown, hts, hX, hbl, hlocks, hgv⟩ := id C0
  obtain ⟨n, r, h', hrn, rfl, hcl, hsl⟩ := hp
  obtain ⟨dC, dI, dA, hK⟩ := zm_K0 b (s.heap.size - 1) hts
  obtain ⟨scr, x1, x2, x3, x4, x5⟩ := hX
  have X : zm_Cx (dC, dI, dA, b, s.heap.size - 1) p room_1 s m #[Value.ref b] meth c 0 := ⟨hx, hb, hml, hown, fun w hw => hts w (List.mem_filter.mp hw).1, hK, by decide, by decide, fun z => absurd z (by decide)⟩
  have hw : zm_wl (dC, dI, dA, b, s.heap.size - 1) s (zm_h0 L xs) s.heap := by
    refine ⟨?_, Nat.le_refl 1, ?_, rfl, ⟨scr, x1, x2, x3, x4, x5⟩, fun a h1 h2 => ?_⟩
    · show s.heap.size = s.heap.size - 1 + 1
      omega
    · show b ≤ s.heap.size - 1
      omega
    · have h2 : a < 1 := h2
      omega
  have he := zm_lr_entry (G := (dC, dI, dA, b, s.heap.size - 1)) (args := [.ref 0]) (n := 4) (by decide)
  have hb0 : [Value.ref b] = ([Value.ref 0] : List Value).map (zm_cv (dC, dI, dA, b, s.heap.size - 1)) := rfl
  rw [hb0, lg_entry_eq]
  have z1 : zm_nx (zm_h0 L xs) = 1 := rfl
  have z2 : zm_sl (zm_h0 L xs) = 0 := rfl
  have z3 : room_1.cells = 600000 := rfl
  have z4 : room_1.slots = 7302250 := rfl
  refine zm_body (h0 := zm_h0 L xs) (h' := h') (r := some (.int 1)) X ⟨by rw [z1, z3]; omega, by rw [z2, z4]; omega⟩ (fun x a h r1 h1 z => zm_sim l _ d x a h r1 h1 z) ?_ n 0 _ [] _ _ _ _ _ _ hrn he ⟨hw, va_S.rf, rfl, rfl⟩
  intro k i pc st hh lsA H locs cells slots hi hex hdg hd
  obtain ⟨w1, w2, w3, w4⟩ := hd
  have hA : ∀ q ∈ locs, s.heap.size ≤ q.base := fun q hq => by
    have := w2.2.2 q hq
    have : s.heap.size - 1 < q.base := this
    omega
  rcases hi with rfl | rfl | rfl
  · have hex := hex 0 0 0 [] []
    match st, hex with
    | [.int v], hex =>
      obtain ⟨e1, rfl, ty, ht, hf⟩ := hex
      cases e1
      refine va_forget hA ?_
      rw [z1] at w3
      rw [z2] at w4
      refine W.widen (k := 600000) (n := 7302250) (by omega) (by omega) ?_
      exact lw_ret hx hb hr hlocks hdg
  · have hex := hex 0 0 0 [] []
    match st, hex with
    | [v], hex =>
      obtain ⟨e1, -, hk, -⟩ := hex
      cases e1
      cases hk
  · obtain ⟨-, e1, -⟩ := hex 0 0 0 [] []
    cases e1
end
section
theorem zz_law {L : Nat} (hL : L ≤ 2048) (xs : Nat → Int32) : zm_wp 12 0 0 (zm_lo [.ref 0] 4) [] (zm_h0 L xs) (fun r h' => r = some (.int 1) ∧ zm_nx h' ≤ 600001 ∧ zm_sl h' ≤ 7302250) := sorry
end
section
theorem whole_start {p : Program} {e : Env} {s : State} {m : MethodId} {below : List Frame} {meth : Method} {c : Code} (l : Launch) {b L : Nat} {xs : Nat → Int32} (hL : L ≤ 2048) (C0 : lw_At p s m meth c b L xs) : W p l e room_1 s m #[Value.ref b] below meth c s.heap [] 0 0 (lw_Z below #[Value.ref b] s) (entryFrame m ([Value.ref b] : List Value).toArray 4) := zm_start l C0 (zz_law hL xs)
set_option maxHeartbeats 4000000 in
theorem lw_walk (l : Launch) (b : Addr) (xs : List Int32) : MetFree l x (headSpec (Jvm.Cond.code x code maxLocals ret :: tables_1) room_1) (lw_P b xs) (fun _ _ _ _ _ => True) lw_Q := by
  refine MetFree.of_bodyS (code := code) (maxLocals := maxLocals) (ret := ret) (by decide) ?_ ?_
  · intro args s m h hn
    obtain ⟨meth, c, h1, h2, h3, h4, h5, h6, -, -⟩ := Cond.code_spec hn (atoms_spec (ws := Jvm.Cond.code x code maxLocals ret :: tables_1) h _ List.mem_cons_self)
    exact ⟨meth, c, h1, h2, h3, h4, h5, h6⟩
  · intro p e s m args below meth c s₁ B hml0 hP _
    obtain ⟨rfl, hx, hbd, hgv⟩ := hP
    obtain ⟨scr, harrAt, hlist, hof, hsmall⟩ := hx
    obtain ⟨hcb, hkn, -, -⟩ := State.arrayAt?_spec harrAt
    have hown : s.vm.findClass R_law = some m.cls := findClass_of_methodNamed B.named
    have hts0 : ∀ c ∈ (Jvm.Cond.code x code maxLocals ret :: tables_1), c.before #[Value.ref b] s = true := atoms_spec (ws := Jvm.Cond.code x code maxLocals ret :: tables_1) B.pre
    have hts : ∀ w ∈ lw_tbl, w.before #[Value.ref b] s = true := k2_hts_sels lw_privs (fun w hw => hts0 w (List.mem_cons_of_mem _ hw)) lw_privs_ok
    have hml : c.maxLocals = 4 := B.maxLocals_eq (hts0 _ List.mem_cons_self)
    have X₀ : Stand p l e room_1 s m #[Value.ref b] below meth c s₁ [] 0 0 := Stand.of_body B
    have hh0 : s₁.heap = s.heap := by rw [B.state]; rfl
    have hsz : scr.slots.size = xs.length := by rw [← Array.length_toList, hlist, List.length_map]
    have hval : ∀ j : Nat, j < xs.length → scr.slots[j]? = some (.int (xs.getD j 0)) := fun j hj => by
      rw [← Array.getElem?_toList, hlist]
      simp [hj]
    have hbl : b < s.heap.size := (Array.getElem?_eq_some_iff.mp hcb).1
    have hX : va_X b xs.length (fun j => xs.getD j 0) s s.heap := ⟨scr, hcb, hof, hkn, hsz, hval⟩
    have K : W p l e room_1 s m #[Value.ref b] below meth c s₁.heap [] 0 0 (lw_Z below #[Value.ref b] s) (entryFrame m ([Value.ref b] : List Value).toArray 4) := by
      rw [hh0]
      exact whole_start l hbd ⟨B.exec, B.bytes, B.returns, hml, hown, hts, hX, hbl, B.notSynchronized, hgv⟩
    obtain ⟨t, a1, o, b1, b2, b3⟩ := K s₁ rfl X₀
    exact ⟨t, o, a1, b1, b2, b3⟩
theorem lw_pre_spec {args : Array Value} {s : State} (h : (Jvm.Cond.and given_1 narrow_1).before args s = true) (hr : rest_1_c.before args s = true) : ∃ (b : Addr) (xs : List Int32), lw_P b xs args s := by
  have hs := flat_of_before _ h
  have hq := flat_of_before _ hr
  have hc : (Cond.count 1).before args s = true := hs _ (by decide +kernel)
  have harr : (Cond.arrayOf (.arg 0) .int).before args s = true := hs _ (by decide +kernel)
  have hle : (Cond.le (.length (.arg 0)) (.int 2048)).before args s = true := hs _ (by decide +kernel)
  have hlen : (Cond.isInt (.length (.arg 0))).before args s = true := hq _ (by decide +kernel)
  have hall : (Cond.all (.arg 0) (.isInt (.elem (.arg 0) (.index 0)))).before args s = true := hq _ (by decide +kernel)
  obtain ⟨b, xs, hb, hx⟩ := State.ints_of_pre rfl harr hlen hall
  have hsm : xs.length < 2 ^ 31 := hx.choose_spec.2.2.2
  have hev : (Term.length (.arg 0)).eval args s none [] s = some (.int xs.length.toInt32) := hx.length_eval hb
  have hv := Cond.le_ints hev (show (Term.int 2048).eval args s none [] s = some (.int 2048) from rfl)
  have hd : xs.length.toInt32 ≤ 2048 := by
    simpa [Cond.before, Cond.holds, hv] using hle
  have hN : xs.length ≤ 2048 := (Int32.ofNat_le_ofNat hsm (by decide)).mp (show Int32.ofNat xs.length ≤ Int32.ofNat 2048 from hd)
  exact ⟨b, xs, Cond.one_arg hc (show args[0]? = some (.ref b) from hb), hx, hN, h⟩
theorem lw_comes (l : Launch) : Comes l x (Jvm.Cond.code x code maxLocals ret :: tables_1) room_1 (fun tb e args s => Calls_1 tb e args s ∧ rest_1 tb e args s ∧ Pre_1 tb e args s)
    (fun _ _ args s o t => lw_Q args s o t) := by
  intro p e ha hc hk s m args below hf hfit hheap happ hpre
  obtain ⟨b, xs, hP⟩ := lw_pre_spec hpre.2.2 hpre.2.1
  obtain ⟨k, o, h1, h2, h3, hQ⟩ := lw_walk l b xs p e ha hc hk s m args below hf ((Spec.applies_iff_loose hf).mp happ).1 hP trivial
  exact ⟨k, o, h1, h2, h3, hQ⟩
theorem lw_frame {s t : State} {o : Outcome} {args : Array Value} (h : Framed s o t [] 600000 7302250) :
    Framed s o t (fieldLocs frame_1_writes args s ++ arrayLocs frame_1_arrays args s ++ staticLocs frame_1_statics s) 600000 7302250 := h
theorem lw_limb (L : Cond) (hL : ∀ (args : Array Value) (s t : State), L.after args s (.returned (some (.int 1))) t = true) :
    ArmFor flags0 classFile x code maxLocals ret World_1 tables_1 room_1 Calls_1 rest_1 Pre_1
      (fun tb e a s o t => postC L tb e a s o t ∧ Framed s o t (fieldLocs frame_1_writes a s ++ arrayLocs frame_1_arrays a s ++ staticLocs frame_1_statics s) 600000 7302250) := by
  intro l _ _ _ p e ha hc hk s m args below hf hfit hheap happ hpre
  obtain ⟨k, o, h1, h2, h3, rfl, hF⟩ := lw_comes l p e ha hc hk s m args below hf hfit hheap happ hpre
  exact ⟨k, _, h1, h2, h3, hL args s _, lw_frame hF⟩
theorem i_vc : Claimed_1_1 ∧ Claimed_1_2 := ⟨lw_limb limb_1_1 (fun args s t => by simp [limb_1_1, Cond.after, Cond.holds, Cond.value]), lw_limb limb_1_2 (fun args s t => Cond.after_iff.mpr (by
  first | (rw [show limb_1_2 = Cond.eq .result (.int 1) from rfl, Cond.eq_ints (x := 1) (y := 1) rfl rfl]; simp; done) | (simp [limb_1_2, Cond.value, Term.eval]; done)))⟩
end
