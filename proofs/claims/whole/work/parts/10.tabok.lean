theorem zt_plain (x : Nat) : plainName (zt_nm x).cls = true := by
  have hall : ∀ m ∈ zt_nm_l, plainName m.cls = true := by decide +kernel
  unfold zt_nm
  rw [List.getD_eq_getElem?_getD]
  cases hx : zt_nm_l[x]? with
  | none => decide +kernel
  | some m => exact hall m (List.mem_of_getElem? hx)
theorem zt_cod_out (k : Nat) : zt_cod (k + 110) = [] := by
  unfold zt_cod
  rw [List.getD_eq_getElem?_getD, List.getElem?_eq_none (show zt_cod_l.length ≤ k + 110 from Nat.le_add_left _ _)]
  rfl
set_option maxRecDepth 100000 in
set_option maxHeartbeats 4000000 in
theorem zt_ok (M pc : Nat) (E : zm_E) (h : zt_code M pc = some E) : zm_ok M pc E := by
  match M, h with
  | 0, h => exact zm_okl rfl h ze_0 zs_0
  | 1, h => exact zm_okl rfl h ze_1 zs_1
  | 2, h => exact zm_okl rfl h ze_2 zs_2
  | 3, h => exact zm_okl rfl h ze_3 zs_3
  | 4, h => exact zm_okl rfl h ze_4 zs_4
  | 5, h => exact zm_okl rfl h ze_5 zs_5
  | 6, h => exact zm_okl rfl h ze_6 zs_6
  | 7, h => exact zm_okl rfl h ze_7 zs_7
  | 8, h => exact zm_okl rfl h ze_8 zs_8
  | 9, h => exact zm_okl rfl h ze_9 zs_9
  | 10, h => exact zm_okl rfl h ze_10 zs_10
  | 11, h => exact zm_okl rfl h ze_11 zs_11
  | 12, h => exact zm_okl rfl h ze_12 zs_12
  | 13, h => exact zm_okl rfl h ze_13 zs_13
  | 14, h => exact zm_okl rfl h ze_14 zs_14
  | 15, h => exact zm_okl rfl h ze_15 zs_15
  | 16, h => exact zm_okl rfl h ze_16 zs_16
  | 17, h => exact zm_okl rfl h ze_17 zs_17
  | 18, h => exact zm_okl rfl h ze_18 zs_18
  | 19, h => exact zm_okl rfl h ze_19 zs_19
  | 20, h => exact zm_okl rfl h ze_20 zs_20
  | 21, h => exact zm_okl rfl h ze_21 zs_21
  | 22, h => exact zm_okl rfl h ze_22 zs_22
  | 23, h => exact zm_okl rfl h ze_23 zs_23
  | 24, h => exact zm_okl rfl h ze_24 zs_24
  | 25, h => exact zm_okl rfl h ze_25 zs_25
  | 26, h => exact zm_okl rfl h ze_26 zs_26
  | 27, h => exact zm_okl rfl h ze_27 zs_27
  | 28, h => exact zm_okl rfl h ze_28 zs_28
  | 29, h => exact zm_okl rfl h ze_29 zs_29
  | 30, h => exact zm_okl rfl h ze_30 zs_30
  | 31, h => exact zm_okl rfl h ze_31 zs_31
  | 32, h => exact zm_okl rfl h ze_32 zs_32
  | 33, h => exact zm_okl rfl h ze_33 zs_33
  | 34, h => exact zm_okl rfl h ze_34 zs_34
  | 35, h => exact zm_okl rfl h ze_35 zs_35
  | 36, h => exact zm_okl rfl h ze_36 zs_36
  | 37, h => exact zm_okl rfl h ze_37 zs_37
  | 38, h => exact zm_okl rfl h ze_38 zs_38
  | 39, h => exact zm_okl rfl h ze_39 zs_39
  | 40, h => exact zm_okl rfl h ze_40 zs_40
  | 41, h => exact zm_okl rfl h ze_41 zs_41
  | 42, h => exact zm_okl rfl h ze_42 zs_42
  | 43, h => exact zm_okl rfl h ze_43 zs_43
  | 44, h => exact zm_okl rfl h ze_44 zs_44
  | 45, h => exact zm_okl rfl h ze_45 zs_45
  | 46, h => exact zm_okl rfl h ze_46 zs_46
  | 47, h => exact zm_okl rfl h ze_47 zs_47
  | 48, h => exact zm_okl rfl h ze_48 zs_48
  | 49, h => exact zm_okl rfl h ze_49 zs_49
  | 50, h => exact zm_okl rfl h ze_50 zs_50
  | 51, h => exact zm_okl rfl h ze_51 zs_51
  | 52, h => exact zm_okl rfl h ze_52 zs_52
  | 53, h => exact zm_okl rfl h ze_53 zs_53
  | 54, h => exact zm_okl rfl h ze_54 zs_54
  | 55, h => exact zm_okl rfl h ze_55 zs_55
  | 56, h => exact zm_okl rfl h ze_56 zs_56
  | 57, h => exact zm_okl rfl h ze_57 zs_57
  | 58, h => exact zm_okl rfl h ze_58 zs_58
  | 59, h => exact zm_okl rfl h ze_59 zs_59
  | 60, h => exact zm_okl rfl h ze_60 zs_60
  | 61, h => exact zm_okl rfl h ze_61 zs_61
  | 62, h => exact zm_okl rfl h ze_62 zs_62
  | 63, h => exact zm_okl rfl h ze_63 zs_63
  | 64, h => exact zm_okl rfl h ze_64 zs_64
  | 65, h => exact zm_okl rfl h ze_65 zs_65
  | 66, h => exact zm_okl rfl h ze_66 zs_66
  | 67, h => exact zm_okl rfl h ze_67 zs_67
  | 68, h => exact zm_okl rfl h ze_68 zs_68
  | 69, h => exact zm_okl rfl h ze_69 zs_69
  | 70, h => exact zm_okl rfl h ze_70 zs_70
  | 71, h => exact zm_okl rfl h ze_71 zs_71
  | 72, h => exact zm_okl rfl h ze_72 zs_72
  | 73, h => exact zm_okl rfl h ze_73 zs_73
  | 74, h => exact zm_okl rfl h ze_74 zs_74
  | 75, h => exact zm_okl rfl h ze_75 zs_75
  | 76, h => exact zm_okl rfl h ze_76 zs_76
  | 77, h => exact zm_okl rfl h ze_77 zs_77
  | 78, h => exact zm_okl rfl h ze_78 zs_78
  | 79, h => exact zm_okl rfl h ze_79 zs_79
  | 80, h => exact zm_okl rfl h ze_80 zs_80
  | 81, h => exact zm_okl rfl h ze_81 zs_81
  | 82, h => exact zm_okl rfl h ze_82 zs_82
  | 83, h => exact zm_okl rfl h ze_83 zs_83
  | 84, h => exact zm_okl rfl h ze_84 zs_84
  | 85, h => exact zm_okl rfl h ze_85 zs_85
  | 86, h => exact zm_okl rfl h ze_86 zs_86
  | 87, h => exact zm_okl rfl h ze_87 zs_87
  | 88, h => exact zm_okl rfl h ze_88 zs_88
  | 89, h => exact zm_okl rfl h ze_89 zs_89
  | 90, h => exact zm_okl rfl h ze_90 zs_90
  | 91, h => exact zm_okl rfl h ze_91 zs_91
  | 92, h => exact zm_okl rfl h ze_92 zs_92
  | 93, h => exact zm_okl rfl h ze_93 zs_93
  | 94, h => exact zm_okl rfl h ze_94 zs_94
  | 95, h => exact zm_okl rfl h ze_95 zs_95
  | 96, h => exact zm_okl rfl h ze_96 zs_96
  | 97, h => exact zm_okl rfl h ze_97 zs_97
  | 98, h => exact zm_okl rfl h ze_98 zs_98
  | 99, h => exact zm_okl rfl h ze_99 zs_99
  | 100, h => exact zm_okl rfl h ze_100 zs_100
  | 101, h => exact zm_okl rfl h ze_101 zs_101
  | 102, h => exact zm_okl rfl h ze_102 zs_102
  | 103, h => exact zm_okl rfl h ze_103 zs_103
  | 104, h => exact zm_okl rfl h ze_104 zs_104
  | 105, h => exact zm_okl rfl h ze_105 zs_105
  | 106, h => exact zm_okl rfl h ze_106 zs_106
  | 107, h => exact zm_okl rfl h ze_107 zs_107
  | 108, h => exact zm_okl rfl h ze_108 zs_108
  | 109, h => exact zm_okl rfl h ze_109 zs_109
  | k + 110, h =>
    unfold zt_code at h
    rw [zt_cod_out] at h
    cases h
