set_option maxRecDepth 100000 in
theorem ze_0 : zc0.all (zm_chk (zt_by 0)) = true := by decide +kernel
set_option maxRecDepth 100000 in
theorem ze_1 : zc1.all (zm_chk (zt_by 1)) = true := by decide +kernel
set_option maxRecDepth 100000 in
theorem ze_2 : zc2.all (zm_chk (zt_by 2)) = true := by decide +kernel
set_option maxRecDepth 100000 in
theorem ze_3 : zc3.all (zm_chk (zt_by 3)) = true := by decide +kernel
set_option maxRecDepth 100000 in
theorem ze_4 : zc4.all (zm_chk (zt_by 4)) = true := by decide +kernel
set_option maxRecDepth 100000 in
theorem ze_5 : zc5.all (zm_chk (zt_by 5)) = true := by decide +kernel
set_option maxRecDepth 100000 in
theorem ze_6 : zc6.all (zm_chk (zt_by 6)) = true := by decide +kernel
set_option maxRecDepth 100000 in
theorem ze_7 : zc7.all (zm_chk (zt_by 7)) = true := by decide +kernel
set_option maxRecDepth 100000 in
theorem ze_8 : zc8.all (zm_chk (zt_by 8)) = true := by decide +kernel
set_option maxRecDepth 100000 in
theorem ze_9 : zc9.all (zm_chk (zt_by 9)) = true := by decide +kernel
set_option maxRecDepth 100000 in
theorem ze_10 : zc10.all (zm_chk (zt_by 10)) = true := by decide +kernel
set_option maxRecDepth 100000 in
theorem ze_11 : zc11.all (zm_chk (zt_by 11)) = true := by decide +kernel
set_option maxRecDepth 100000 in
theorem ze_12 : zc12.all (zm_chk (zt_by 12)) = true := by decide +kernel
set_option maxRecDepth 100000 in
theorem ze_13 : zc13.all (zm_chk (zt_by 13)) = true := by decide +kernel
set_option maxRecDepth 100000 in
theorem ze_14 : zc14.all (zm_chk (zt_by 14)) = true := by decide +kernel
set_option maxRecDepth 100000 in
theorem ze_15 : zc15.all (zm_chk (zt_by 15)) = true := by decide +kernel
set_option maxRecDepth 100000 in
theorem ze_16 : zc16.all (zm_chk (zt_by 16)) = true := by decide +kernel
set_option maxRecDepth 100000 in
theorem ze_17 : zc17.all (zm_chk (zt_by 17)) = true := by decide +kernel
set_option maxRecDepth 100000 in
theorem ze_18 : zc18.all (zm_chk (zt_by 18)) = true := by decide +kernel
set_option maxRecDepth 100000 in
theorem ze_19 : zc19.all (zm_chk (zt_by 19)) = true := by decide +kernel
set_option maxRecDepth 100000 in
theorem ze_20 : zc20.all (zm_chk (zt_by 20)) = true := by decide +kernel
set_option maxRecDepth 100000 in
theorem ze_21 : zc21.all (zm_chk (zt_by 21)) = true := by decide +kernel
set_option maxRecDepth 100000 in
theorem ze_22 : zc22.all (zm_chk (zt_by 22)) = true := by decide +kernel
set_option maxRecDepth 100000 in
theorem ze_23 : zc23.all (zm_chk (zt_by 23)) = true := by decide +kernel
set_option maxRecDepth 100000 in
theorem ze_24 : zc24.all (zm_chk (zt_by 24)) = true := by decide +kernel
set_option maxRecDepth 100000 in
theorem ze_25 : zc25.all (zm_chk (zt_by 25)) = true := by decide +kernel
set_option maxRecDepth 100000 in
theorem ze_26 : zc26.all (zm_chk (zt_by 26)) = true := by decide +kernel
set_option maxRecDepth 100000 in
theorem ze_27 : zc27.all (zm_chk (zt_by 27)) = true := by decide +kernel
set_option maxRecDepth 100000 in
theorem ze_28 : zc28.all (zm_chk (zt_by 28)) = true := by decide +kernel
set_option maxRecDepth 100000 in
theorem ze_29 : zc29.all (zm_chk (zt_by 29)) = true := by decide +kernel
set_option maxRecDepth 100000 in
theorem ze_30 : zc30.all (zm_chk (zt_by 30)) = true := by decide +kernel
set_option maxRecDepth 100000 in
theorem ze_31 : zc31.all (zm_chk (zt_by 31)) = true := by decide +kernel
set_option maxRecDepth 100000 in
theorem ze_32 : zc32.all (zm_chk (zt_by 32)) = true := by decide +kernel
set_option maxRecDepth 100000 in
theorem ze_33 : zc33.all (zm_chk (zt_by 33)) = true := by decide +kernel
set_option maxRecDepth 100000 in
theorem ze_34 : zc34.all (zm_chk (zt_by 34)) = true := by decide +kernel
set_option maxRecDepth 100000 in
theorem ze_35 : zc35.all (zm_chk (zt_by 35)) = true := by decide +kernel
set_option maxRecDepth 100000 in
theorem ze_36 : zc36.all (zm_chk (zt_by 36)) = true := by decide +kernel
set_option maxRecDepth 100000 in
theorem ze_37 : zc37.all (zm_chk (zt_by 37)) = true := by decide +kernel
set_option maxRecDepth 100000 in
theorem ze_38 : zc38.all (zm_chk (zt_by 38)) = true := by decide +kernel
set_option maxRecDepth 100000 in
theorem ze_39 : zc39.all (zm_chk (zt_by 39)) = true := by decide +kernel
set_option maxRecDepth 100000 in
theorem ze_40 : zc40.all (zm_chk (zt_by 40)) = true := by decide +kernel
set_option maxRecDepth 100000 in
theorem ze_41 : zc41.all (zm_chk (zt_by 41)) = true := by decide +kernel
set_option maxRecDepth 100000 in
theorem ze_42 : zc42.all (zm_chk (zt_by 42)) = true := by decide +kernel
set_option maxRecDepth 100000 in
theorem ze_43 : zc43.all (zm_chk (zt_by 43)) = true := by decide +kernel
set_option maxRecDepth 100000 in
theorem ze_44 : zc44.all (zm_chk (zt_by 44)) = true := by decide +kernel
set_option maxRecDepth 100000 in
theorem ze_45 : zc45.all (zm_chk (zt_by 45)) = true := by decide +kernel
set_option maxRecDepth 100000 in
theorem ze_46 : zc46.all (zm_chk (zt_by 46)) = true := by decide +kernel
set_option maxRecDepth 100000 in
theorem ze_47 : zc47.all (zm_chk (zt_by 47)) = true := by decide +kernel
set_option maxRecDepth 100000 in
theorem ze_48 : zc48.all (zm_chk (zt_by 48)) = true := by decide +kernel
set_option maxRecDepth 100000 in
theorem ze_49 : zc49.all (zm_chk (zt_by 49)) = true := by decide +kernel
set_option maxRecDepth 100000 in
theorem ze_50 : zc50.all (zm_chk (zt_by 50)) = true := by decide +kernel
set_option maxRecDepth 100000 in
theorem ze_51 : zc51.all (zm_chk (zt_by 51)) = true := by decide +kernel
set_option maxRecDepth 100000 in
theorem ze_52 : zc52.all (zm_chk (zt_by 52)) = true := by decide +kernel
set_option maxRecDepth 100000 in
theorem ze_53 : zc53.all (zm_chk (zt_by 53)) = true := by decide +kernel
set_option maxRecDepth 100000 in
theorem ze_54 : zc54.all (zm_chk (zt_by 54)) = true := by decide +kernel
set_option maxRecDepth 100000 in
theorem ze_55 : zc55.all (zm_chk (zt_by 55)) = true := by decide +kernel
set_option maxRecDepth 100000 in
theorem ze_56 : zc56.all (zm_chk (zt_by 56)) = true := by decide +kernel
set_option maxRecDepth 100000 in
theorem ze_57 : zc57.all (zm_chk (zt_by 57)) = true := by decide +kernel
set_option maxRecDepth 100000 in
theorem ze_58 : zc58.all (zm_chk (zt_by 58)) = true := by decide +kernel
set_option maxRecDepth 100000 in
theorem ze_59 : zc59.all (zm_chk (zt_by 59)) = true := by decide +kernel
set_option maxRecDepth 100000 in
theorem ze_60 : zc60.all (zm_chk (zt_by 60)) = true := by decide +kernel
set_option maxRecDepth 100000 in
theorem ze_61 : zc61.all (zm_chk (zt_by 61)) = true := by decide +kernel
set_option maxRecDepth 100000 in
theorem ze_62 : zc62.all (zm_chk (zt_by 62)) = true := by decide +kernel
set_option maxRecDepth 100000 in
theorem ze_63 : zc63.all (zm_chk (zt_by 63)) = true := by decide +kernel
set_option maxRecDepth 100000 in
theorem ze_64 : zc64.all (zm_chk (zt_by 64)) = true := by decide +kernel
set_option maxRecDepth 100000 in
theorem ze_65 : zc65.all (zm_chk (zt_by 65)) = true := by decide +kernel
set_option maxRecDepth 100000 in
theorem ze_66 : zc66.all (zm_chk (zt_by 66)) = true := by decide +kernel
set_option maxRecDepth 100000 in
theorem ze_67 : zc67.all (zm_chk (zt_by 67)) = true := by decide +kernel
set_option maxRecDepth 100000 in
theorem ze_68 : zc68.all (zm_chk (zt_by 68)) = true := by decide +kernel
set_option maxRecDepth 100000 in
theorem ze_69 : zc69.all (zm_chk (zt_by 69)) = true := by decide +kernel
set_option maxRecDepth 100000 in
theorem ze_70 : zc70.all (zm_chk (zt_by 70)) = true := by decide +kernel
set_option maxRecDepth 100000 in
theorem ze_71 : zc71.all (zm_chk (zt_by 71)) = true := by decide +kernel
set_option maxRecDepth 100000 in
theorem ze_72 : zc72.all (zm_chk (zt_by 72)) = true := by decide +kernel
set_option maxRecDepth 100000 in
theorem ze_73 : zc73.all (zm_chk (zt_by 73)) = true := by decide +kernel
set_option maxRecDepth 100000 in
theorem ze_74 : zc74.all (zm_chk (zt_by 74)) = true := by decide +kernel
set_option maxRecDepth 100000 in
theorem ze_75 : zc75.all (zm_chk (zt_by 75)) = true := by decide +kernel
set_option maxRecDepth 100000 in
theorem ze_76 : zc76.all (zm_chk (zt_by 76)) = true := by decide +kernel
set_option maxRecDepth 100000 in
theorem ze_77 : zc77.all (zm_chk (zt_by 77)) = true := by decide +kernel
set_option maxRecDepth 100000 in
theorem ze_78 : zc78.all (zm_chk (zt_by 78)) = true := by decide +kernel
set_option maxRecDepth 100000 in
theorem ze_79 : zc79.all (zm_chk (zt_by 79)) = true := by decide +kernel
set_option maxRecDepth 100000 in
theorem ze_80 : zc80.all (zm_chk (zt_by 80)) = true := by decide +kernel
set_option maxRecDepth 100000 in
theorem ze_81 : zc81.all (zm_chk (zt_by 81)) = true := by decide +kernel
set_option maxRecDepth 100000 in
theorem ze_82 : zc82.all (zm_chk (zt_by 82)) = true := by decide +kernel
set_option maxRecDepth 100000 in
theorem ze_83 : zc83.all (zm_chk (zt_by 83)) = true := by decide +kernel
set_option maxRecDepth 100000 in
theorem ze_84 : zc84.all (zm_chk (zt_by 84)) = true := by decide +kernel
set_option maxRecDepth 100000 in
theorem ze_85 : zc85.all (zm_chk (zt_by 85)) = true := by decide +kernel
set_option maxRecDepth 100000 in
theorem ze_86 : zc86.all (zm_chk (zt_by 86)) = true := by decide +kernel
set_option maxRecDepth 100000 in
theorem ze_87 : zc87.all (zm_chk (zt_by 87)) = true := by decide +kernel
set_option maxRecDepth 100000 in
theorem ze_88 : zc88.all (zm_chk (zt_by 88)) = true := by decide +kernel
set_option maxRecDepth 100000 in
theorem ze_89 : zc89.all (zm_chk (zt_by 89)) = true := by decide +kernel
set_option maxRecDepth 100000 in
theorem ze_90 : zc90.all (zm_chk (zt_by 90)) = true := by decide +kernel
set_option maxRecDepth 100000 in
theorem ze_91 : zc91.all (zm_chk (zt_by 91)) = true := by decide +kernel
set_option maxRecDepth 100000 in
theorem ze_92 : zc92.all (zm_chk (zt_by 92)) = true := by decide +kernel
set_option maxRecDepth 100000 in
theorem ze_93 : zc93.all (zm_chk (zt_by 93)) = true := by decide +kernel
set_option maxRecDepth 100000 in
theorem ze_94 : zc94.all (zm_chk (zt_by 94)) = true := by decide +kernel
set_option maxRecDepth 100000 in
theorem ze_95 : zc95.all (zm_chk (zt_by 95)) = true := by decide +kernel
set_option maxRecDepth 100000 in
theorem ze_96 : zc96.all (zm_chk (zt_by 96)) = true := by decide +kernel
set_option maxRecDepth 100000 in
theorem ze_97 : zc97.all (zm_chk (zt_by 97)) = true := by decide +kernel
set_option maxRecDepth 100000 in
theorem ze_98 : zc98.all (zm_chk (zt_by 98)) = true := by decide +kernel
set_option maxRecDepth 100000 in
theorem ze_99 : zc99.all (zm_chk (zt_by 99)) = true := by decide +kernel
set_option maxRecDepth 100000 in
theorem ze_100 : zc100.all (zm_chk (zt_by 100)) = true := by decide +kernel
set_option maxRecDepth 100000 in
theorem ze_101 : zc101.all (zm_chk (zt_by 101)) = true := by decide +kernel
set_option maxRecDepth 100000 in
theorem ze_102 : zc102.all (zm_chk (zt_by 102)) = true := by decide +kernel
set_option maxRecDepth 100000 in
theorem ze_103 : zc103.all (zm_chk (zt_by 103)) = true := by decide +kernel
set_option maxRecDepth 100000 in
theorem ze_104 : zc104.all (zm_chk (zt_by 104)) = true := by decide +kernel
set_option maxRecDepth 100000 in
theorem ze_105 : zc105.all (zm_chk (zt_by 105)) = true := by decide +kernel
set_option maxRecDepth 100000 in
theorem ze_106 : zc106.all (zm_chk (zt_by 106)) = true := by decide +kernel
set_option maxRecDepth 100000 in
theorem ze_107 : zc107.all (zm_chk (zt_by 107)) = true := by decide +kernel
set_option maxRecDepth 100000 in
theorem ze_108 : zc108.all (zm_chk (zt_by 108)) = true := by decide +kernel
set_option maxRecDepth 100000 in
theorem ze_109 : zc109.all (zm_chk (zt_by 109)) = true := by decide +kernel
