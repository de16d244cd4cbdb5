theorem q_406 : Cond.methodLink "SkirmishGridLaw" 7 yX8_append ∈ GW := gw_t 406 (by decide +kernel) (by decide +kernel)
theorem q_407 : Cond.instanceMethod yX8_append ∈ GW := gw_t 407 (by decide +kernel) (by decide +kernel)
theorem q_408 : Cond.selects "SkirmishGrid" yX8_append yX8_append ∈ GW := gw_t 408 (by decide +kernel) (by decide +kernel)
theorem q_409 : Cond.code yX8_append cX8_append 2 (some .int) ∈ GW := gw_t 409 (by decide +kernel) (by decide +kernel)
theorem q_404 : Cond.classLink "SkirmishGridLaw" 13 "java/lang/IllegalArgumentException" ∈ GW := gw_t 404 (by decide +kernel) (by decide +kernel)
theorem q_405 : Cond.classLink "SkirmishGridLaw" 15 "java/lang/IllegalStateException" ∈ GW := gw_t 405 (by decide +kernel) (by decide +kernel)
theorem q_502 : Cond.methodLink "SkirmishGridLaw" 17 yX8_load ∈ GW := gw_t 502 (by decide +kernel) (by decide +kernel)
theorem q_503 : Cond.instanceMethod yX8_load ∈ GW := gw_t 503 (by decide +kernel) (by decide +kernel)
theorem q_504 : Cond.selects "SkirmishGrid" yX8_load yX8_load ∈ GW := gw_t 504 (by decide +kernel) (by decide +kernel)
theorem q_505 : Cond.code yX8_load cX8_load 6 (some .int) ∈ GW := gw_t 505 (by decide +kernel) (by decide +kernel)
theorem q_501 : Cond.classLink "SkirmishGridLaw" 21 "java/lang/UnsupportedOperationException" ∈ GW := gw_t 501 (by decide +kernel) (by decide +kernel)
theorem q_637 : Cond.methodLink "SkirmishGridLaw" 23 yX8_errorPosition ∈ GW := gw_t 637 (by decide +kernel) (by decide +kernel)
theorem q_638 : Cond.instanceMethod yX8_errorPosition ∈ GW := gw_t 638 (by decide +kernel) (by decide +kernel)
theorem q_639 : Cond.selects "SkirmishGrid" yX8_errorPosition yX8_errorPosition ∈ GW := gw_t 639 (by decide +kernel) (by decide +kernel)
theorem q_640 : Cond.code yX8_errorPosition cX8_errorPosition 1 (some .int) ∈ GW := gw_t 640 (by decide +kernel) (by decide +kernel)
theorem q_636 : Cond.classLink "SkirmishGridLaw" 27 "java/util/NoSuchElementException" ∈ GW := gw_t 636 (by decide +kernel) (by decide +kernel)
theorem q_684 : Cond.methodLink "SkirmishGridLaw" 29 yX8_terrain ∈ GW := gw_t 684 (by decide +kernel) (by decide +kernel)
theorem q_685 : Cond.instanceMethod yX8_terrain ∈ GW := gw_t 685 (by decide +kernel) (by decide +kernel)
theorem q_686 : Cond.selects "SkirmishGrid" yX8_terrain yX8_terrain ∈ GW := gw_t 686 (by decide +kernel) (by decide +kernel)
theorem q_687 : Cond.code yX8_terrain cX8_terrain 5 (some .char) ∈ GW := gw_t 687 (by decide +kernel) (by decide +kernel)
theorem q_660 : Cond.classLink "SkirmishGridLaw" 33 "java/lang/IndexOutOfBoundsException" ∈ GW := gw_t 660 (by decide +kernel) (by decide +kernel)
theorem q_729 : Cond.methodLink "SkirmishGridLaw" 35 yX8_isSeen ∈ GW := gw_t 729 (by decide +kernel) (by decide +kernel)
theorem q_730 : Cond.instanceMethod yX8_isSeen ∈ GW := gw_t 730 (by decide +kernel) (by decide +kernel)
theorem q_731 : Cond.selects "SkirmishGrid" yX8_isSeen yX8_isSeen ∈ GW := gw_t 731 (by decide +kernel) (by decide +kernel)
theorem q_732 : Cond.code yX8_isSeen cX8_isSeen 3 (some .boolean) ∈ GW := gw_t 732 (by decide +kernel) (by decide +kernel)
theorem q_764 : Cond.methodLink "SkirmishGridLaw" 39 yX8_cover ∈ GW := gw_t 764 (by decide +kernel) (by decide +kernel)
theorem q_765 : Cond.instanceMethod yX8_cover ∈ GW := gw_t 765 (by decide +kernel) (by decide +kernel)
theorem q_766 : Cond.selects "SkirmishGrid" yX8_cover yX8_cover ∈ GW := gw_t 766 (by decide +kernel) (by decide +kernel)
theorem q_767 : Cond.code yX8_cover cX8_cover 3 (some .int) ∈ GW := gw_t 767 (by decide +kernel) (by decide +kernel)
theorem q_776 : Cond.methodLink "SkirmishGridLaw" 43 yX8_addUnit ∈ GW := gw_t 776 (by decide +kernel) (by decide +kernel)
theorem q_777 : Cond.instanceMethod yX8_addUnit ∈ GW := gw_t 777 (by decide +kernel) (by decide +kernel)
theorem q_778 : Cond.selects "SkirmishGrid" yX8_addUnit yX8_addUnit ∈ GW := gw_t 778 (by decide +kernel) (by decide +kernel)
theorem q_779 : Cond.code yX8_addUnit cX8_addUnit 4 (some .int) ∈ GW := gw_t 779 (by decide +kernel) (by decide +kernel)
theorem q_808 : Cond.methodLink "SkirmishGridLaw" 47 yX8_unit ∈ GW := gw_t 808 (by decide +kernel) (by decide +kernel)
theorem q_809 : Cond.instanceMethod yX8_unit ∈ GW := gw_t 809 (by decide +kernel) (by decide +kernel)
theorem q_810 : Cond.selects "SkirmishGrid" yX8_unit yX8_unit ∈ GW := gw_t 810 (by decide +kernel) (by decide +kernel)
theorem q_811 : Cond.code yX8_unit cX8_unit 4 (some .int) ∈ GW := gw_t 811 (by decide +kernel) (by decide +kernel)
theorem q_825 : Cond.methodLink "SkirmishGridLaw" 50 yX8_begin ∈ GW := gw_t 825 (by decide +kernel) (by decide +kernel)
theorem q_826 : Cond.instanceMethod yX8_begin ∈ GW := gw_t 826 (by decide +kernel) (by decide +kernel)
theorem q_827 : Cond.selects "SkirmishGrid" yX8_begin yX8_begin ∈ GW := gw_t 827 (by decide +kernel) (by decide +kernel)
theorem q_828 : Cond.code yX8_begin cX8_begin 1 (some .int) ∈ GW := gw_t 828 (by decide +kernel) (by decide +kernel)
theorem q_874 : Cond.methodLink "SkirmishGridLaw" 53 yX8_current ∈ GW := gw_t 874 (by decide +kernel) (by decide +kernel)
theorem q_875 : Cond.instanceMethod yX8_current ∈ GW := gw_t 875 (by decide +kernel) (by decide +kernel)
theorem q_876 : Cond.selects "SkirmishGrid" yX8_current yX8_current ∈ GW := gw_t 876 (by decide +kernel) (by decide +kernel)
theorem q_877 : Cond.code yX8_current cX8_current 1 (some .int) ∈ GW := gw_t 877 (by decide +kernel) (by decide +kernel)
theorem q_886 : Cond.methodLink "SkirmishGridLaw" 56 yX8_order ∈ GW := gw_t 886 (by decide +kernel) (by decide +kernel)
theorem q_887 : Cond.instanceMethod yX8_order ∈ GW := gw_t 887 (by decide +kernel) (by decide +kernel)
theorem q_888 : Cond.selects "SkirmishGrid" yX8_order yX8_order ∈ GW := gw_t 888 (by decide +kernel) (by decide +kernel)
theorem q_889 : Cond.code yX8_order cX8_order 2 (some .int) ∈ GW := gw_t 889 (by decide +kernel) (by decide +kernel)
theorem q_894 : Cond.methodLink "SkirmishGridLaw" 59 yX8_costs ∈ GW := gw_t 894 (by decide +kernel) (by decide +kernel)
theorem q_895 : Cond.instanceMethod yX8_costs ∈ GW := gw_t 895 (by decide +kernel) (by decide +kernel)
theorem q_896 : Cond.selects "SkirmishGrid" yX8_costs yX8_costs ∈ GW := gw_t 896 (by decide +kernel) (by decide +kernel)
theorem q_897 : Cond.code yX8_costs cX8_costs 2 (some .int) ∈ GW := gw_t 897 (by decide +kernel) (by decide +kernel)
theorem q_940 : Cond.methodLink "SkirmishGridLaw" 62 yX8_pathCell ∈ GW := gw_t 940 (by decide +kernel) (by decide +kernel)
theorem q_941 : Cond.instanceMethod yX8_pathCell ∈ GW := gw_t 941 (by decide +kernel) (by decide +kernel)
theorem q_942 : Cond.selects "SkirmishGrid" yX8_pathCell yX8_pathCell ∈ GW := gw_t 942 (by decide +kernel) (by decide +kernel)
theorem q_943 : Cond.code yX8_pathCell cX8_pathCell 6 (some .int) ∈ GW := gw_t 943 (by decide +kernel) (by decide +kernel)
theorem q_953 : Cond.methodLink "SkirmishGridLaw" 65 yX8_chance ∈ GW := gw_t 953 (by decide +kernel) (by decide +kernel)
theorem q_954 : Cond.instanceMethod yX8_chance ∈ GW := gw_t 954 (by decide +kernel) (by decide +kernel)
theorem q_955 : Cond.selects "SkirmishGrid" yX8_chance yX8_chance ∈ GW := gw_t 955 (by decide +kernel) (by decide +kernel)
theorem q_956 : Cond.code yX8_chance cX8_chance 5 (some .double) ∈ GW := gw_t 956 (by decide +kernel) (by decide +kernel)
theorem q_992 : Cond.methodLink "SkirmishGridLaw" 69 yX8_meanDamage ∈ GW := gw_t 992 (by decide +kernel) (by decide +kernel)
theorem q_993 : Cond.instanceMethod yX8_meanDamage ∈ GW := gw_t 993 (by decide +kernel) (by decide +kernel)
theorem q_994 : Cond.selects "SkirmishGrid" yX8_meanDamage yX8_meanDamage ∈ GW := gw_t 994 (by decide +kernel) (by decide +kernel)
theorem q_995 : Cond.code yX8_meanDamage cX8_meanDamage 5 (some .double) ∈ GW := gw_t 995 (by decide +kernel) (by decide +kernel)
theorem q_1012 : Cond.methodLink "SkirmishGridLaw" 72 yX8_bestTarget ∈ GW := gw_t 1012 (by decide +kernel) (by decide +kernel)
theorem q_1013 : Cond.instanceMethod yX8_bestTarget ∈ GW := gw_t 1013 (by decide +kernel) (by decide +kernel)
theorem q_1014 : Cond.selects "SkirmishGrid" yX8_bestTarget yX8_bestTarget ∈ GW := gw_t 1014 (by decide +kernel) (by decide +kernel)
theorem q_1015 : Cond.code yX8_bestTarget cX8_bestTarget 2 (some .int) ∈ GW := gw_t 1015 (by decide +kernel) (by decide +kernel)
theorem q_1026 : Cond.methodLink "SkirmishGridLaw" 75 yX8_move ∈ GW := gw_t 1026 (by decide +kernel) (by decide +kernel)
theorem q_1027 : Cond.instanceMethod yX8_move ∈ GW := gw_t 1027 (by decide +kernel) (by decide +kernel)
theorem q_1028 : Cond.selects "SkirmishGrid" yX8_move yX8_move ∈ GW := gw_t 1028 (by decide +kernel) (by decide +kernel)
theorem q_1029 : Cond.code yX8_move cX8_move 3 (some .int) ∈ GW := gw_t 1029 (by decide +kernel) (by decide +kernel)
theorem q_1075 : Cond.methodLink "SkirmishGridLaw" 78 yX8_attack ∈ GW := gw_t 1075 (by decide +kernel) (by decide +kernel)
theorem q_1076 : Cond.instanceMethod yX8_attack ∈ GW := gw_t 1076 (by decide +kernel) (by decide +kernel)
theorem q_1077 : Cond.selects "SkirmishGrid" yX8_attack yX8_attack ∈ GW := gw_t 1077 (by decide +kernel) (by decide +kernel)
theorem q_1078 : Cond.code yX8_attack cX8_attack 4 (some .int) ∈ GW := gw_t 1078 (by decide +kernel) (by decide +kernel)
theorem q_1091 : Cond.methodLink "SkirmishGridLaw" 81 yX8_throwAt ∈ GW := gw_t 1091 (by decide +kernel) (by decide +kernel)
theorem q_1092 : Cond.instanceMethod yX8_throwAt ∈ GW := gw_t 1092 (by decide +kernel) (by decide +kernel)
theorem q_1093 : Cond.selects "SkirmishGrid" yX8_throwAt yX8_throwAt ∈ GW := gw_t 1093 (by decide +kernel) (by decide +kernel)
theorem q_1094 : Cond.code yX8_throwAt cX8_throwAt 3 (some .int) ∈ GW := gw_t 1094 (by decide +kernel) (by decide +kernel)
theorem q_1112 : Cond.methodLink "SkirmishGridLaw" 84 yX8_guard ∈ GW := gw_t 1112 (by decide +kernel) (by decide +kernel)
theorem q_1113 : Cond.instanceMethod yX8_guard ∈ GW := gw_t 1113 (by decide +kernel) (by decide +kernel)
theorem q_1114 : Cond.selects "SkirmishGrid" yX8_guard yX8_guard ∈ GW := gw_t 1114 (by decide +kernel) (by decide +kernel)
theorem q_1115 : Cond.code yX8_guard cX8_guard 2 (some .int) ∈ GW := gw_t 1115 (by decide +kernel) (by decide +kernel)
theorem q_1124 : Cond.methodLink "SkirmishGridLaw" 87 yX8_watch ∈ GW := gw_t 1124 (by decide +kernel) (by decide +kernel)
theorem q_1125 : Cond.instanceMethod yX8_watch ∈ GW := gw_t 1125 (by decide +kernel) (by decide +kernel)
theorem q_1126 : Cond.selects "SkirmishGrid" yX8_watch yX8_watch ∈ GW := gw_t 1126 (by decide +kernel) (by decide +kernel)
theorem q_1127 : Cond.code yX8_watch cX8_watch 2 (some .int) ∈ GW := gw_t 1127 (by decide +kernel) (by decide +kernel)
theorem q_1135 : Cond.methodLink "SkirmishGridLaw" 90 yX8_reload ∈ GW := gw_t 1135 (by decide +kernel) (by decide +kernel)
theorem q_1136 : Cond.instanceMethod yX8_reload ∈ GW := gw_t 1136 (by decide +kernel) (by decide +kernel)
theorem q_1137 : Cond.selects "SkirmishGrid" yX8_reload yX8_reload ∈ GW := gw_t 1137 (by decide +kernel) (by decide +kernel)
theorem q_1138 : Cond.code yX8_reload cX8_reload 1 (some .int) ∈ GW := gw_t 1138 (by decide +kernel) (by decide +kernel)
theorem q_1147 : Cond.methodLink "SkirmishGridLaw" 93 yX8_endTurn ∈ GW := gw_t 1147 (by decide +kernel) (by decide +kernel)
theorem q_1148 : Cond.instanceMethod yX8_endTurn ∈ GW := gw_t 1148 (by decide +kernel) (by decide +kernel)
theorem q_1149 : Cond.selects "SkirmishGrid" yX8_endTurn yX8_endTurn ∈ GW := gw_t 1149 (by decide +kernel) (by decide +kernel)
theorem q_1150 : Cond.code yX8_endTurn cX8_endTurn 1 (some .int) ∈ GW := gw_t 1150 (by decide +kernel) (by decide +kernel)
theorem q_1162 : Cond.methodLink "SkirmishGridLaw" 96 yX8_event ∈ GW := gw_t 1162 (by decide +kernel) (by decide +kernel)
theorem q_1163 : Cond.instanceMethod yX8_event ∈ GW := gw_t 1163 (by decide +kernel) (by decide +kernel)
theorem q_1164 : Cond.selects "SkirmishGrid" yX8_event yX8_event ∈ GW := gw_t 1164 (by decide +kernel) (by decide +kernel)
theorem q_1165 : Cond.code yX8_event cX8_event 3 (some .int) ∈ GW := gw_t 1165 (by decide +kernel) (by decide +kernel)
theorem q_1174 : Cond.methodLink "SkirmishGridLaw" 99 yX8_undo ∈ GW := gw_t 1174 (by decide +kernel) (by decide +kernel)
theorem q_1175 : Cond.instanceMethod yX8_undo ∈ GW := gw_t 1175 (by decide +kernel) (by decide +kernel)
theorem q_1176 : Cond.selects "SkirmishGrid" yX8_undo yX8_undo ∈ GW := gw_t 1176 (by decide +kernel) (by decide +kernel)
theorem q_1177 : Cond.code yX8_undo cX8_undo 1 (some .int) ∈ GW := gw_t 1177 (by decide +kernel) (by decide +kernel)
theorem q_1190 : Cond.methodLink "SkirmishGridLaw" 102 yX8_isReplayed ∈ GW := gw_t 1190 (by decide +kernel) (by decide +kernel)
theorem q_1191 : Cond.instanceMethod yX8_isReplayed ∈ GW := gw_t 1191 (by decide +kernel) (by decide +kernel)
theorem q_1192 : Cond.selects "SkirmishGrid" yX8_isReplayed yX8_isReplayed ∈ GW := gw_t 1192 (by decide +kernel) (by decide +kernel)
theorem q_1193 : Cond.code yX8_isReplayed cX8_isReplayed 2 (some .boolean) ∈ GW := gw_t 1193 (by decide +kernel) (by decide +kernel)
theorem q_1241 : Cond.methodLink "SkirmishGridLaw" 106 yX8_meanHealth ∈ GW := gw_t 1241 (by decide +kernel) (by decide +kernel)
theorem q_1242 : Cond.instanceMethod yX8_meanHealth ∈ GW := gw_t 1242 (by decide +kernel) (by decide +kernel)
theorem q_1243 : Cond.selects "SkirmishGrid" yX8_meanHealth yX8_meanHealth ∈ GW := gw_t 1243 (by decide +kernel) (by decide +kernel)
theorem q_1244 : Cond.code yX8_meanHealth cX8_meanHealth 6 (some .float) ∈ GW := gw_t 1244 (by decide +kernel) (by decide +kernel)
theorem q_1227 : Cond.classLink "SkirmishGridLaw" 110 "java/lang/ArithmeticException" ∈ GW := gw_t 1227 (by decide +kernel) (by decide +kernel)
theorem q_1251 : Cond.methodLink "SkirmishGridLaw" 112 yX8_storeHealths ∈ GW := gw_t 1251 (by decide +kernel) (by decide +kernel)
theorem q_1252 : Cond.instanceMethod yX8_storeHealths ∈ GW := gw_t 1252 (by decide +kernel) (by decide +kernel)
theorem q_1253 : Cond.selects "SkirmishGrid" yX8_storeHealths yX8_storeHealths ∈ GW := gw_t 1253 (by decide +kernel) (by decide +kernel)
theorem q_1254 : Cond.code yX8_storeHealths cX8_storeHealths 4 (some .int) ∈ GW := gw_t 1254 (by decide +kernel) (by decide +kernel)
theorem q_1268 : Cond.methodLink "SkirmishGridLaw" 116 yX8_copyHealths ∈ GW := gw_t 1268 (by decide +kernel) (by decide +kernel)
theorem q_1269 : Cond.instanceMethod yX8_copyHealths ∈ GW := gw_t 1269 (by decide +kernel) (by decide +kernel)
theorem q_1270 : Cond.selects "SkirmishGrid" yX8_copyHealths yX8_copyHealths ∈ GW := gw_t 1270 (by decide +kernel) (by decide +kernel)
theorem q_1271 : Cond.code yX8_copyHealths cX8_copyHealths 5 (some .boolean) ∈ GW := gw_t 1271 (by decide +kernel) (by decide +kernel)
theorem q_1282 : Cond.methodLink "SkirmishGridLaw" 119 yX8_storedBits ∈ GW := gw_t 1282 (by decide +kernel) (by decide +kernel)
theorem q_1283 : Cond.instanceMethod yX8_storedBits ∈ GW := gw_t 1283 (by decide +kernel) (by decide +kernel)
theorem q_1284 : Cond.selects "SkirmishGrid" yX8_storedBits yX8_storedBits ∈ GW := gw_t 1284 (by decide +kernel) (by decide +kernel)
theorem q_1285 : Cond.code yX8_storedBits cX8_storedBits 4 (some .int) ∈ GW := gw_t 1285 (by decide +kernel) (by decide +kernel)
theorem q_1294 : Cond.methodLink "SkirmishGridLaw" 122 yX8_restore ∈ GW := gw_t 1294 (by decide +kernel) (by decide +kernel)
theorem q_1295 : Cond.instanceMethod yX8_restore ∈ GW := gw_t 1295 (by decide +kernel) (by decide +kernel)
theorem q_1296 : Cond.selects "SkirmishGrid" yX8_restore yX8_restore ∈ GW := gw_t 1296 (by decide +kernel) (by decide +kernel)
theorem q_1297 : Cond.code yX8_restore cX8_restore 1 (some .int) ∈ GW := gw_t 1297 (by decide +kernel) (by decide +kernel)
theorem dL_append_0 : decode cL_append 0 = .ok (.aload_n 2, 1) := by decide +kernel
theorem dL_append_1 : decode cL_append 1 = .ok (.iconst 0, 1) := by decide +kernel
theorem dL_append_2 : decode cL_append 2 = .ok (.aload_n 0, 1) := by decide +kernel
theorem dL_append_3 : decode cL_append 3 = .ok (.iload_n 1, 1) := by decide +kernel
theorem dL_append_4 : decode cL_append 4 = .ok (.invokevirtual 7, 3) := by decide +kernel
theorem dL_append_7 : decode cL_append 7 = .ok (.i2l, 1) := by decide +kernel
theorem dL_append_8 : decode cL_append 8 = .ok (.lastore, 1) := by decide +kernel
theorem dL_append_9 : decode cL_append 9 = .ok (.goto 9, 3) := by decide +kernel
theorem dL_append_12 : decode cL_append 12 = .ok (.astore_n 3, 1) := by decide +kernel
theorem dL_append_13 : decode cL_append 13 = .ok (.iconst 1, 1) := by decide +kernel
theorem dL_append_14 : decode cL_append 14 = .ok (.ireturn, 1) := by decide +kernel
theorem dL_append_15 : decode cL_append 15 = .ok (.astore_n 3, 1) := by decide +kernel
theorem dL_append_16 : decode cL_append 16 = .ok (.iconst 2, 1) := by decide +kernel
theorem dL_append_17 : decode cL_append 17 = .ok (.ireturn, 1) := by decide +kernel
theorem dL_append_18 : decode cL_append 18 = .ok (.iconst 0, 1) := by decide +kernel
theorem dL_append_19 : decode cL_append 19 = .ok (.ireturn, 1) := by decide +kernel
theorem dL_load_0 : decode cL_load 0 = .ok (.aload_n 2, 1) := by decide +kernel
theorem dL_load_1 : decode cL_load 1 = .ok (.iconst 0, 1) := by decide +kernel
theorem dL_load_2 : decode cL_load 2 = .ok (.aload_n 0, 1) := by decide +kernel
theorem dL_load_3 : decode cL_load 3 = .ok (.iload_n 1, 1) := by decide +kernel
theorem dL_load_4 : decode cL_load 4 = .ok (.invokevirtual 17, 3) := by decide +kernel
theorem dL_load_7 : decode cL_load 7 = .ok (.i2l, 1) := by decide +kernel
theorem dL_load_8 : decode cL_load 8 = .ok (.lastore, 1) := by decide +kernel
theorem dL_load_9 : decode cL_load 9 = .ok (.goto 9, 3) := by decide +kernel
theorem dL_load_12 : decode cL_load 12 = .ok (.astore_n 3, 1) := by decide +kernel
theorem dL_load_13 : decode cL_load 13 = .ok (.iconst 1, 1) := by decide +kernel
theorem dL_load_14 : decode cL_load 14 = .ok (.ireturn, 1) := by decide +kernel
theorem dL_load_15 : decode cL_load 15 = .ok (.astore_n 3, 1) := by decide +kernel
theorem dL_load_16 : decode cL_load 16 = .ok (.iconst 2, 1) := by decide +kernel
theorem dL_load_17 : decode cL_load 17 = .ok (.ireturn, 1) := by decide +kernel
theorem dL_load_18 : decode cL_load 18 = .ok (.iconst 0, 1) := by decide +kernel
theorem dL_load_19 : decode cL_load 19 = .ok (.ireturn, 1) := by decide +kernel
theorem dL_errorPosition_0 : decode cL_errorPosition 0 = .ok (.aload_n 1, 1) := by decide +kernel
theorem dL_errorPosition_1 : decode cL_errorPosition 1 = .ok (.iconst 0, 1) := by decide +kernel
theorem dL_errorPosition_2 : decode cL_errorPosition 2 = .ok (.aload_n 0, 1) := by decide +kernel
theorem dL_errorPosition_3 : decode cL_errorPosition 3 = .ok (.invokevirtual 23, 3) := by decide +kernel
theorem dL_errorPosition_6 : decode cL_errorPosition 6 = .ok (.i2l, 1) := by decide +kernel
theorem dL_errorPosition_7 : decode cL_errorPosition 7 = .ok (.lastore, 1) := by decide +kernel
theorem dL_errorPosition_8 : decode cL_errorPosition 8 = .ok (.goto 6, 3) := by decide +kernel
theorem dL_errorPosition_11 : decode cL_errorPosition 11 = .ok (.astore_n 2, 1) := by decide +kernel
theorem dL_errorPosition_12 : decode cL_errorPosition 12 = .ok (.iconst 1, 1) := by decide +kernel
theorem dL_errorPosition_13 : decode cL_errorPosition 13 = .ok (.ireturn, 1) := by decide +kernel
theorem dL_errorPosition_14 : decode cL_errorPosition 14 = .ok (.iconst 0, 1) := by decide +kernel
theorem dL_errorPosition_15 : decode cL_errorPosition 15 = .ok (.ireturn, 1) := by decide +kernel
theorem dL_terrain_0 : decode cL_terrain 0 = .ok (.aload_n 3, 1) := by decide +kernel
theorem dL_terrain_1 : decode cL_terrain 1 = .ok (.iconst 0, 1) := by decide +kernel
theorem dL_terrain_2 : decode cL_terrain 2 = .ok (.aload_n 0, 1) := by decide +kernel
theorem dL_terrain_3 : decode cL_terrain 3 = .ok (.iload_n 1, 1) := by decide +kernel
theorem dL_terrain_4 : decode cL_terrain 4 = .ok (.iload_n 2, 1) := by decide +kernel
theorem dL_terrain_5 : decode cL_terrain 5 = .ok (.invokevirtual 29, 3) := by decide +kernel
theorem dL_terrain_8 : decode cL_terrain 8 = .ok (.i2l, 1) := by decide +kernel
theorem dL_terrain_9 : decode cL_terrain 9 = .ok (.lastore, 1) := by decide +kernel
theorem dL_terrain_10 : decode cL_terrain 10 = .ok (.goto 7, 3) := by decide +kernel
theorem dL_terrain_13 : decode cL_terrain 13 = .ok (.astore 4, 2) := by decide +kernel
theorem dL_terrain_15 : decode cL_terrain 15 = .ok (.iconst 1, 1) := by decide +kernel
theorem dL_terrain_16 : decode cL_terrain 16 = .ok (.ireturn, 1) := by decide +kernel
theorem dL_terrain_17 : decode cL_terrain 17 = .ok (.iconst 0, 1) := by decide +kernel
theorem dL_terrain_18 : decode cL_terrain 18 = .ok (.ireturn, 1) := by decide +kernel
theorem dL_isSeen_0 : decode cL_isSeen 0 = .ok (.aload_n 3, 1) := by decide +kernel
theorem dL_isSeen_1 : decode cL_isSeen 1 = .ok (.iconst 0, 1) := by decide +kernel
theorem dL_isSeen_2 : decode cL_isSeen 2 = .ok (.aload_n 0, 1) := by decide +kernel
theorem dL_isSeen_3 : decode cL_isSeen 3 = .ok (.iload_n 1, 1) := by decide +kernel
theorem dL_isSeen_4 : decode cL_isSeen 4 = .ok (.iload_n 2, 1) := by decide +kernel
theorem dL_isSeen_5 : decode cL_isSeen 5 = .ok (.invokevirtual 35, 3) := by decide +kernel
theorem dL_isSeen_8 : decode cL_isSeen 8 = .ok (.ifCond .eq 7, 3) := by decide +kernel
theorem dL_isSeen_11 : decode cL_isSeen 11 = .ok (.lconst 1, 1) := by decide +kernel
theorem dL_isSeen_12 : decode cL_isSeen 12 = .ok (.goto 4, 3) := by decide +kernel
theorem dL_isSeen_15 : decode cL_isSeen 15 = .ok (.lconst 0, 1) := by decide +kernel
theorem dL_isSeen_16 : decode cL_isSeen 16 = .ok (.lastore, 1) := by decide +kernel
theorem dL_isSeen_17 : decode cL_isSeen 17 = .ok (.goto 7, 3) := by decide +kernel
theorem dL_isSeen_20 : decode cL_isSeen 20 = .ok (.astore 4, 2) := by decide +kernel
theorem dL_isSeen_22 : decode cL_isSeen 22 = .ok (.iconst 1, 1) := by decide +kernel
theorem dL_isSeen_23 : decode cL_isSeen 23 = .ok (.ireturn, 1) := by decide +kernel
theorem dL_isSeen_24 : decode cL_isSeen 24 = .ok (.iconst 0, 1) := by decide +kernel
theorem dL_isSeen_25 : decode cL_isSeen 25 = .ok (.ireturn, 1) := by decide +kernel
theorem dL_cover_0 : decode cL_cover 0 = .ok (.aload_n 3, 1) := by decide +kernel
theorem dL_cover_1 : decode cL_cover 1 = .ok (.iconst 0, 1) := by decide +kernel
theorem dL_cover_2 : decode cL_cover 2 = .ok (.aload_n 0, 1) := by decide +kernel
theorem dL_cover_3 : decode cL_cover 3 = .ok (.iload_n 1, 1) := by decide +kernel
theorem dL_cover_4 : decode cL_cover 4 = .ok (.iload_n 2, 1) := by decide +kernel
theorem dL_cover_5 : decode cL_cover 5 = .ok (.invokevirtual 39, 3) := by decide +kernel
theorem dL_cover_8 : decode cL_cover 8 = .ok (.i2l, 1) := by decide +kernel
theorem dL_cover_9 : decode cL_cover 9 = .ok (.lastore, 1) := by decide +kernel
theorem dL_cover_10 : decode cL_cover 10 = .ok (.goto 7, 3) := by decide +kernel
theorem dL_cover_13 : decode cL_cover 13 = .ok (.astore 4, 2) := by decide +kernel
theorem dL_cover_15 : decode cL_cover 15 = .ok (.iconst 1, 1) := by decide +kernel
theorem dL_cover_16 : decode cL_cover 16 = .ok (.ireturn, 1) := by decide +kernel
theorem dL_cover_17 : decode cL_cover 17 = .ok (.iconst 0, 1) := by decide +kernel
theorem dL_cover_18 : decode cL_cover 18 = .ok (.ireturn, 1) := by decide +kernel
theorem dL_addUnit_0 : decode cL_addUnit 0 = .ok (.aload 4, 2) := by decide +kernel
theorem dL_addUnit_2 : decode cL_addUnit 2 = .ok (.iconst 0, 1) := by decide +kernel
theorem dL_addUnit_3 : decode cL_addUnit 3 = .ok (.aload_n 0, 1) := by decide +kernel
theorem dL_addUnit_4 : decode cL_addUnit 4 = .ok (.iload_n 1, 1) := by decide +kernel
theorem dL_addUnit_5 : decode cL_addUnit 5 = .ok (.iload_n 2, 1) := by decide +kernel
theorem dL_addUnit_6 : decode cL_addUnit 6 = .ok (.iload_n 3, 1) := by decide +kernel
theorem dL_addUnit_7 : decode cL_addUnit 7 = .ok (.invokevirtual 43, 3) := by decide +kernel
theorem dL_addUnit_10 : decode cL_addUnit 10 = .ok (.i2l, 1) := by decide +kernel
theorem dL_addUnit_11 : decode cL_addUnit 11 = .ok (.lastore, 1) := by decide +kernel
theorem dL_addUnit_12 : decode cL_addUnit 12 = .ok (.goto 15, 3) := by decide +kernel
theorem dL_addUnit_15 : decode cL_addUnit 15 = .ok (.astore 5, 2) := by decide +kernel
theorem dL_addUnit_17 : decode cL_addUnit 17 = .ok (.iconst 1, 1) := by decide +kernel
theorem dL_addUnit_18 : decode cL_addUnit 18 = .ok (.ireturn, 1) := by decide +kernel
theorem dL_addUnit_19 : decode cL_addUnit 19 = .ok (.astore 5, 2) := by decide +kernel
theorem dL_addUnit_21 : decode cL_addUnit 21 = .ok (.iconst 2, 1) := by decide +kernel
theorem dL_addUnit_22 : decode cL_addUnit 22 = .ok (.ireturn, 1) := by decide +kernel
theorem dL_addUnit_23 : decode cL_addUnit 23 = .ok (.astore 5, 2) := by decide +kernel
theorem dL_addUnit_25 : decode cL_addUnit 25 = .ok (.iconst 3, 1) := by decide +kernel
theorem dL_addUnit_26 : decode cL_addUnit 26 = .ok (.ireturn, 1) := by decide +kernel
theorem dL_addUnit_27 : decode cL_addUnit 27 = .ok (.iconst 0, 1) := by decide +kernel
theorem dL_addUnit_28 : decode cL_addUnit 28 = .ok (.ireturn, 1) := by decide +kernel
theorem dL_unit_0 : decode cL_unit 0 = .ok (.aload_n 3, 1) := by decide +kernel
theorem dL_unit_1 : decode cL_unit 1 = .ok (.iconst 0, 1) := by decide +kernel
theorem dL_unit_2 : decode cL_unit 2 = .ok (.aload_n 0, 1) := by decide +kernel
theorem dL_unit_3 : decode cL_unit 3 = .ok (.iload_n 1, 1) := by decide +kernel
theorem dL_unit_4 : decode cL_unit 4 = .ok (.iload_n 2, 1) := by decide +kernel
theorem dL_unit_5 : decode cL_unit 5 = .ok (.invokevirtual 47, 3) := by decide +kernel
theorem dL_unit_8 : decode cL_unit 8 = .ok (.i2l, 1) := by decide +kernel
theorem dL_unit_9 : decode cL_unit 9 = .ok (.lastore, 1) := by decide +kernel
theorem dL_unit_10 : decode cL_unit 10 = .ok (.goto 11, 3) := by decide +kernel
theorem dL_unit_13 : decode cL_unit 13 = .ok (.astore 4, 2) := by decide +kernel
theorem dL_unit_15 : decode cL_unit 15 = .ok (.iconst 1, 1) := by decide +kernel
theorem dL_unit_16 : decode cL_unit 16 = .ok (.ireturn, 1) := by decide +kernel
theorem dL_unit_17 : decode cL_unit 17 = .ok (.astore 4, 2) := by decide +kernel
theorem dL_unit_19 : decode cL_unit 19 = .ok (.iconst 2, 1) := by decide +kernel
theorem dL_unit_20 : decode cL_unit 20 = .ok (.ireturn, 1) := by decide +kernel
theorem dL_unit_21 : decode cL_unit 21 = .ok (.iconst 0, 1) := by decide +kernel
theorem dL_unit_22 : decode cL_unit 22 = .ok (.ireturn, 1) := by decide +kernel
theorem dL_begin_0 : decode cL_begin 0 = .ok (.aload_n 1, 1) := by decide +kernel
theorem dL_begin_1 : decode cL_begin 1 = .ok (.iconst 0, 1) := by decide +kernel
theorem dL_begin_2 : decode cL_begin 2 = .ok (.aload_n 0, 1) := by decide +kernel
theorem dL_begin_3 : decode cL_begin 3 = .ok (.invokevirtual 50, 3) := by decide +kernel
theorem dL_begin_6 : decode cL_begin 6 = .ok (.i2l, 1) := by decide +kernel
theorem dL_begin_7 : decode cL_begin 7 = .ok (.lastore, 1) := by decide +kernel
theorem dL_begin_8 : decode cL_begin 8 = .ok (.goto 6, 3) := by decide +kernel
theorem dL_begin_11 : decode cL_begin 11 = .ok (.astore_n 2, 1) := by decide +kernel
theorem dL_begin_12 : decode cL_begin 12 = .ok (.iconst 1, 1) := by decide +kernel
theorem dL_begin_13 : decode cL_begin 13 = .ok (.ireturn, 1) := by decide +kernel
theorem dL_begin_14 : decode cL_begin 14 = .ok (.iconst 0, 1) := by decide +kernel
theorem dL_begin_15 : decode cL_begin 15 = .ok (.ireturn, 1) := by decide +kernel
theorem dL_current_0 : decode cL_current 0 = .ok (.aload_n 1, 1) := by decide +kernel
theorem dL_current_1 : decode cL_current 1 = .ok (.iconst 0, 1) := by decide +kernel
theorem dL_current_2 : decode cL_current 2 = .ok (.aload_n 0, 1) := by decide +kernel
theorem dL_current_3 : decode cL_current 3 = .ok (.invokevirtual 53, 3) := by decide +kernel
theorem dL_current_6 : decode cL_current 6 = .ok (.i2l, 1) := by decide +kernel
theorem dL_current_7 : decode cL_current 7 = .ok (.lastore, 1) := by decide +kernel
theorem dL_current_8 : decode cL_current 8 = .ok (.goto 6, 3) := by decide +kernel
theorem dL_current_11 : decode cL_current 11 = .ok (.astore_n 2, 1) := by decide +kernel
theorem dL_current_12 : decode cL_current 12 = .ok (.iconst 1, 1) := by decide +kernel
theorem dL_current_13 : decode cL_current 13 = .ok (.ireturn, 1) := by decide +kernel
theorem dL_current_14 : decode cL_current 14 = .ok (.iconst 0, 1) := by decide +kernel
theorem dL_current_15 : decode cL_current 15 = .ok (.ireturn, 1) := by decide +kernel
theorem dL_order_0 : decode cL_order 0 = .ok (.aload_n 2, 1) := by decide +kernel
theorem dL_order_1 : decode cL_order 1 = .ok (.iconst 0, 1) := by decide +kernel
theorem dL_order_2 : decode cL_order 2 = .ok (.aload_n 0, 1) := by decide +kernel
theorem dL_order_3 : decode cL_order 3 = .ok (.iload_n 1, 1) := by decide +kernel
theorem dL_order_4 : decode cL_order 4 = .ok (.invokevirtual 56, 3) := by decide +kernel
theorem dL_order_7 : decode cL_order 7 = .ok (.i2l, 1) := by decide +kernel
theorem dL_order_8 : decode cL_order 8 = .ok (.lastore, 1) := by decide +kernel
theorem dL_order_9 : decode cL_order 9 = .ok (.goto 6, 3) := by decide +kernel
theorem dL_order_12 : decode cL_order 12 = .ok (.astore_n 3, 1) := by decide +kernel
theorem dL_order_13 : decode cL_order 13 = .ok (.iconst 1, 1) := by decide +kernel
theorem dL_order_14 : decode cL_order 14 = .ok (.ireturn, 1) := by decide +kernel
theorem dL_order_15 : decode cL_order 15 = .ok (.iconst 0, 1) := by decide +kernel
theorem dL_order_16 : decode cL_order 16 = .ok (.ireturn, 1) := by decide +kernel
theorem dL_costs_0 : decode cL_costs 0 = .ok (.aload_n 2, 1) := by decide +kernel
theorem dL_costs_1 : decode cL_costs 1 = .ok (.iconst 0, 1) := by decide +kernel
theorem dL_costs_2 : decode cL_costs 2 = .ok (.aload_n 0, 1) := by decide +kernel
theorem dL_costs_3 : decode cL_costs 3 = .ok (.iload_n 1, 1) := by decide +kernel
theorem dL_costs_4 : decode cL_costs 4 = .ok (.invokevirtual 59, 3) := by decide +kernel
theorem dL_costs_7 : decode cL_costs 7 = .ok (.i2l, 1) := by decide +kernel
theorem dL_costs_8 : decode cL_costs 8 = .ok (.lastore, 1) := by decide +kernel
theorem dL_costs_9 : decode cL_costs 9 = .ok (.goto 12, 3) := by decide +kernel
theorem dL_costs_12 : decode cL_costs 12 = .ok (.astore_n 3, 1) := by decide +kernel
theorem dL_costs_13 : decode cL_costs 13 = .ok (.iconst 1, 1) := by decide +kernel
theorem dL_costs_14 : decode cL_costs 14 = .ok (.ireturn, 1) := by decide +kernel
theorem dL_costs_15 : decode cL_costs 15 = .ok (.astore_n 3, 1) := by decide +kernel
theorem dL_costs_16 : decode cL_costs 16 = .ok (.iconst 2, 1) := by decide +kernel
theorem dL_costs_17 : decode cL_costs 17 = .ok (.ireturn, 1) := by decide +kernel
theorem dL_costs_18 : decode cL_costs 18 = .ok (.astore_n 3, 1) := by decide +kernel
theorem dL_costs_19 : decode cL_costs 19 = .ok (.iconst 3, 1) := by decide +kernel
theorem dL_costs_20 : decode cL_costs 20 = .ok (.ireturn, 1) := by decide +kernel
theorem dL_costs_21 : decode cL_costs 21 = .ok (.iconst 0, 1) := by decide +kernel
theorem dL_costs_22 : decode cL_costs 22 = .ok (.ireturn, 1) := by decide +kernel
theorem dL_pathCell_0 : decode cL_pathCell 0 = .ok (.aload_n 3, 1) := by decide +kernel
theorem dL_pathCell_1 : decode cL_pathCell 1 = .ok (.iconst 0, 1) := by decide +kernel
theorem dL_pathCell_2 : decode cL_pathCell 2 = .ok (.aload_n 0, 1) := by decide +kernel
theorem dL_pathCell_3 : decode cL_pathCell 3 = .ok (.iload_n 1, 1) := by decide +kernel
theorem dL_pathCell_4 : decode cL_pathCell 4 = .ok (.iload_n 2, 1) := by decide +kernel
theorem dL_pathCell_5 : decode cL_pathCell 5 = .ok (.invokevirtual 62, 3) := by decide +kernel
theorem dL_pathCell_8 : decode cL_pathCell 8 = .ok (.i2l, 1) := by decide +kernel
theorem dL_pathCell_9 : decode cL_pathCell 9 = .ok (.lastore, 1) := by decide +kernel
theorem dL_pathCell_10 : decode cL_pathCell 10 = .ok (.goto 15, 3) := by decide +kernel
theorem dL_pathCell_13 : decode cL_pathCell 13 = .ok (.astore 4, 2) := by decide +kernel
theorem dL_pathCell_15 : decode cL_pathCell 15 = .ok (.iconst 1, 1) := by decide +kernel
theorem dL_pathCell_16 : decode cL_pathCell 16 = .ok (.ireturn, 1) := by decide +kernel
theorem dL_pathCell_17 : decode cL_pathCell 17 = .ok (.astore 4, 2) := by decide +kernel
theorem dL_pathCell_19 : decode cL_pathCell 19 = .ok (.iconst 2, 1) := by decide +kernel
theorem dL_pathCell_20 : decode cL_pathCell 20 = .ok (.ireturn, 1) := by decide +kernel
theorem dL_pathCell_21 : decode cL_pathCell 21 = .ok (.astore 4, 2) := by decide +kernel
theorem dL_pathCell_23 : decode cL_pathCell 23 = .ok (.iconst 3, 1) := by decide +kernel
theorem dL_pathCell_24 : decode cL_pathCell 24 = .ok (.ireturn, 1) := by decide +kernel
theorem dL_pathCell_25 : decode cL_pathCell 25 = .ok (.iconst 0, 1) := by decide +kernel
theorem dL_pathCell_26 : decode cL_pathCell 26 = .ok (.ireturn, 1) := by decide +kernel
theorem dL_chance_0 : decode cL_chance 0 = .ok (.aload_n 3, 1) := by decide +kernel
theorem dL_chance_1 : decode cL_chance 1 = .ok (.iconst 0, 1) := by decide +kernel
theorem dL_chance_2 : decode cL_chance 2 = .ok (.aload_n 0, 1) := by decide +kernel
theorem dL_chance_3 : decode cL_chance 3 = .ok (.iload_n 1, 1) := by decide +kernel
theorem dL_chance_4 : decode cL_chance 4 = .ok (.iload_n 2, 1) := by decide +kernel
theorem dL_chance_5 : decode cL_chance 5 = .ok (.invokevirtual 65, 3) := by decide +kernel
theorem dL_chance_8 : decode cL_chance 8 = .ok (.dastore, 1) := by decide +kernel
theorem dL_chance_9 : decode cL_chance 9 = .ok (.goto 11, 3) := by decide +kernel
theorem dL_chance_12 : decode cL_chance 12 = .ok (.astore 4, 2) := by decide +kernel
theorem dL_chance_14 : decode cL_chance 14 = .ok (.iconst 1, 1) := by decide +kernel
theorem dL_chance_15 : decode cL_chance 15 = .ok (.ireturn, 1) := by decide +kernel
theorem dL_chance_16 : decode cL_chance 16 = .ok (.astore 4, 2) := by decide +kernel
theorem dL_chance_18 : decode cL_chance 18 = .ok (.iconst 2, 1) := by decide +kernel
theorem dL_chance_19 : decode cL_chance 19 = .ok (.ireturn, 1) := by decide +kernel
theorem dL_chance_20 : decode cL_chance 20 = .ok (.iconst 0, 1) := by decide +kernel
theorem dL_chance_21 : decode cL_chance 21 = .ok (.ireturn, 1) := by decide +kernel
theorem dL_meanDamage_0 : decode cL_meanDamage 0 = .ok (.aload_n 3, 1) := by decide +kernel
theorem dL_meanDamage_1 : decode cL_meanDamage 1 = .ok (.iconst 0, 1) := by decide +kernel
theorem dL_meanDamage_2 : decode cL_meanDamage 2 = .ok (.aload_n 0, 1) := by decide +kernel
theorem dL_meanDamage_3 : decode cL_meanDamage 3 = .ok (.iload_n 1, 1) := by decide +kernel
theorem dL_meanDamage_4 : decode cL_meanDamage 4 = .ok (.iload_n 2, 1) := by decide +kernel
theorem dL_meanDamage_5 : decode cL_meanDamage 5 = .ok (.invokevirtual 69, 3) := by decide +kernel
theorem dL_meanDamage_8 : decode cL_meanDamage 8 = .ok (.dastore, 1) := by decide +kernel
theorem dL_meanDamage_9 : decode cL_meanDamage 9 = .ok (.goto 11, 3) := by decide +kernel
theorem dL_meanDamage_12 : decode cL_meanDamage 12 = .ok (.astore 4, 2) := by decide +kernel
theorem dL_meanDamage_14 : decode cL_meanDamage 14 = .ok (.iconst 1, 1) := by decide +kernel
theorem dL_meanDamage_15 : decode cL_meanDamage 15 = .ok (.ireturn, 1) := by decide +kernel
theorem dL_meanDamage_16 : decode cL_meanDamage 16 = .ok (.astore 4, 2) := by decide +kernel
theorem dL_meanDamage_18 : decode cL_meanDamage 18 = .ok (.iconst 2, 1) := by decide +kernel
theorem dL_meanDamage_19 : decode cL_meanDamage 19 = .ok (.ireturn, 1) := by decide +kernel
theorem dL_meanDamage_20 : decode cL_meanDamage 20 = .ok (.iconst 0, 1) := by decide +kernel
theorem dL_meanDamage_21 : decode cL_meanDamage 21 = .ok (.ireturn, 1) := by decide +kernel
theorem dL_bestTarget_0 : decode cL_bestTarget 0 = .ok (.aload_n 1, 1) := by decide +kernel
theorem dL_bestTarget_1 : decode cL_bestTarget 1 = .ok (.iconst 0, 1) := by decide +kernel
theorem dL_bestTarget_2 : decode cL_bestTarget 2 = .ok (.aload_n 0, 1) := by decide +kernel
theorem dL_bestTarget_3 : decode cL_bestTarget 3 = .ok (.invokevirtual 72, 3) := by decide +kernel
theorem dL_bestTarget_6 : decode cL_bestTarget 6 = .ok (.i2l, 1) := by decide +kernel
theorem dL_bestTarget_7 : decode cL_bestTarget 7 = .ok (.lastore, 1) := by decide +kernel
theorem dL_bestTarget_8 : decode cL_bestTarget 8 = .ok (.goto 9, 3) := by decide +kernel
theorem dL_bestTarget_11 : decode cL_bestTarget 11 = .ok (.astore_n 2, 1) := by decide +kernel
theorem dL_bestTarget_12 : decode cL_bestTarget 12 = .ok (.iconst 1, 1) := by decide +kernel
theorem dL_bestTarget_13 : decode cL_bestTarget 13 = .ok (.ireturn, 1) := by decide +kernel
theorem dL_bestTarget_14 : decode cL_bestTarget 14 = .ok (.astore_n 2, 1) := by decide +kernel
theorem dL_bestTarget_15 : decode cL_bestTarget 15 = .ok (.iconst 2, 1) := by decide +kernel
theorem dL_bestTarget_16 : decode cL_bestTarget 16 = .ok (.ireturn, 1) := by decide +kernel
theorem dL_bestTarget_17 : decode cL_bestTarget 17 = .ok (.iconst 0, 1) := by decide +kernel
theorem dL_bestTarget_18 : decode cL_bestTarget 18 = .ok (.ireturn, 1) := by decide +kernel
theorem dL_move_0 : decode cL_move 0 = .ok (.aload_n 2, 1) := by decide +kernel
theorem dL_move_1 : decode cL_move 1 = .ok (.iconst 0, 1) := by decide +kernel
theorem dL_move_2 : decode cL_move 2 = .ok (.aload_n 0, 1) := by decide +kernel
theorem dL_move_3 : decode cL_move 3 = .ok (.iload_n 1, 1) := by decide +kernel
theorem dL_move_4 : decode cL_move 4 = .ok (.invokevirtual 75, 3) := by decide +kernel
theorem dL_move_7 : decode cL_move 7 = .ok (.i2l, 1) := by decide +kernel
theorem dL_move_8 : decode cL_move 8 = .ok (.lastore, 1) := by decide +kernel
theorem dL_move_9 : decode cL_move 9 = .ok (.goto 15, 3) := by decide +kernel
theorem dL_move_12 : decode cL_move 12 = .ok (.astore_n 3, 1) := by decide +kernel
theorem dL_move_13 : decode cL_move 13 = .ok (.iconst 1, 1) := by decide +kernel
theorem dL_move_14 : decode cL_move 14 = .ok (.ireturn, 1) := by decide +kernel
theorem dL_move_15 : decode cL_move 15 = .ok (.astore_n 3, 1) := by decide +kernel
theorem dL_move_16 : decode cL_move 16 = .ok (.iconst 2, 1) := by decide +kernel
theorem dL_move_17 : decode cL_move 17 = .ok (.ireturn, 1) := by decide +kernel
theorem dL_move_18 : decode cL_move 18 = .ok (.astore_n 3, 1) := by decide +kernel
theorem dL_move_19 : decode cL_move 19 = .ok (.iconst 3, 1) := by decide +kernel
theorem dL_move_20 : decode cL_move 20 = .ok (.ireturn, 1) := by decide +kernel
theorem dL_move_21 : decode cL_move 21 = .ok (.astore_n 3, 1) := by decide +kernel
theorem dL_move_22 : decode cL_move 22 = .ok (.iconst 4, 1) := by decide +kernel
theorem dL_move_23 : decode cL_move 23 = .ok (.ireturn, 1) := by decide +kernel
theorem dL_move_24 : decode cL_move 24 = .ok (.iconst 0, 1) := by decide +kernel
theorem dL_move_25 : decode cL_move 25 = .ok (.ireturn, 1) := by decide +kernel
theorem dL_attack_0 : decode cL_attack 0 = .ok (.aload_n 2, 1) := by decide +kernel
theorem dL_attack_1 : decode cL_attack 1 = .ok (.iconst 0, 1) := by decide +kernel
theorem dL_attack_2 : decode cL_attack 2 = .ok (.aload_n 0, 1) := by decide +kernel
theorem dL_attack_3 : decode cL_attack 3 = .ok (.iload_n 1, 1) := by decide +kernel
theorem dL_attack_4 : decode cL_attack 4 = .ok (.invokevirtual 78, 3) := by decide +kernel
theorem dL_attack_7 : decode cL_attack 7 = .ok (.i2l, 1) := by decide +kernel
theorem dL_attack_8 : decode cL_attack 8 = .ok (.lastore, 1) := by decide +kernel
theorem dL_attack_9 : decode cL_attack 9 = .ok (.goto 15, 3) := by decide +kernel
theorem dL_attack_12 : decode cL_attack 12 = .ok (.astore_n 3, 1) := by decide +kernel
theorem dL_attack_13 : decode cL_attack 13 = .ok (.iconst 1, 1) := by decide +kernel
theorem dL_attack_14 : decode cL_attack 14 = .ok (.ireturn, 1) := by decide +kernel
theorem dL_attack_15 : decode cL_attack 15 = .ok (.astore_n 3, 1) := by decide +kernel
theorem dL_attack_16 : decode cL_attack 16 = .ok (.iconst 2, 1) := by decide +kernel
theorem dL_attack_17 : decode cL_attack 17 = .ok (.ireturn, 1) := by decide +kernel
theorem dL_attack_18 : decode cL_attack 18 = .ok (.astore_n 3, 1) := by decide +kernel
theorem dL_attack_19 : decode cL_attack 19 = .ok (.iconst 3, 1) := by decide +kernel
theorem dL_attack_20 : decode cL_attack 20 = .ok (.ireturn, 1) := by decide +kernel
theorem dL_attack_21 : decode cL_attack 21 = .ok (.astore_n 3, 1) := by decide +kernel
theorem dL_attack_22 : decode cL_attack 22 = .ok (.iconst 4, 1) := by decide +kernel
theorem dL_attack_23 : decode cL_attack 23 = .ok (.ireturn, 1) := by decide +kernel
theorem dL_attack_24 : decode cL_attack 24 = .ok (.iconst 0, 1) := by decide +kernel
theorem dL_attack_25 : decode cL_attack 25 = .ok (.ireturn, 1) := by decide +kernel
theorem dL_throwAt_0 : decode cL_throwAt 0 = .ok (.aload_n 2, 1) := by decide +kernel
theorem dL_throwAt_1 : decode cL_throwAt 1 = .ok (.iconst 0, 1) := by decide +kernel
theorem dL_throwAt_2 : decode cL_throwAt 2 = .ok (.aload_n 0, 1) := by decide +kernel
theorem dL_throwAt_3 : decode cL_throwAt 3 = .ok (.iload_n 1, 1) := by decide +kernel
theorem dL_throwAt_4 : decode cL_throwAt 4 = .ok (.invokevirtual 81, 3) := by decide +kernel
theorem dL_throwAt_7 : decode cL_throwAt 7 = .ok (.i2l, 1) := by decide +kernel
theorem dL_throwAt_8 : decode cL_throwAt 8 = .ok (.lastore, 1) := by decide +kernel
theorem dL_throwAt_9 : decode cL_throwAt 9 = .ok (.goto 15, 3) := by decide +kernel
theorem dL_throwAt_12 : decode cL_throwAt 12 = .ok (.astore_n 3, 1) := by decide +kernel
theorem dL_throwAt_13 : decode cL_throwAt 13 = .ok (.iconst 1, 1) := by decide +kernel
theorem dL_throwAt_14 : decode cL_throwAt 14 = .ok (.ireturn, 1) := by decide +kernel
theorem dL_throwAt_15 : decode cL_throwAt 15 = .ok (.astore_n 3, 1) := by decide +kernel
theorem dL_throwAt_16 : decode cL_throwAt 16 = .ok (.iconst 2, 1) := by decide +kernel
theorem dL_throwAt_17 : decode cL_throwAt 17 = .ok (.ireturn, 1) := by decide +kernel
theorem dL_throwAt_18 : decode cL_throwAt 18 = .ok (.astore_n 3, 1) := by decide +kernel
theorem dL_throwAt_19 : decode cL_throwAt 19 = .ok (.iconst 3, 1) := by decide +kernel
theorem dL_throwAt_20 : decode cL_throwAt 20 = .ok (.ireturn, 1) := by decide +kernel
theorem dL_throwAt_21 : decode cL_throwAt 21 = .ok (.astore_n 3, 1) := by decide +kernel
theorem dL_throwAt_22 : decode cL_throwAt 22 = .ok (.iconst 4, 1) := by decide +kernel
theorem dL_throwAt_23 : decode cL_throwAt 23 = .ok (.ireturn, 1) := by decide +kernel
theorem dL_throwAt_24 : decode cL_throwAt 24 = .ok (.iconst 0, 1) := by decide +kernel
theorem dL_throwAt_25 : decode cL_throwAt 25 = .ok (.ireturn, 1) := by decide +kernel
theorem dL_guard_0 : decode cL_guard 0 = .ok (.aload_n 1, 1) := by decide +kernel
theorem dL_guard_1 : decode cL_guard 1 = .ok (.iconst 0, 1) := by decide +kernel
theorem dL_guard_2 : decode cL_guard 2 = .ok (.aload_n 0, 1) := by decide +kernel
theorem dL_guard_3 : decode cL_guard 3 = .ok (.invokevirtual 84, 3) := by decide +kernel
theorem dL_guard_6 : decode cL_guard 6 = .ok (.i2l, 1) := by decide +kernel
theorem dL_guard_7 : decode cL_guard 7 = .ok (.lastore, 1) := by decide +kernel
theorem dL_guard_8 : decode cL_guard 8 = .ok (.goto 9, 3) := by decide +kernel
theorem dL_guard_11 : decode cL_guard 11 = .ok (.astore_n 2, 1) := by decide +kernel
theorem dL_guard_12 : decode cL_guard 12 = .ok (.iconst 1, 1) := by decide +kernel
theorem dL_guard_13 : decode cL_guard 13 = .ok (.ireturn, 1) := by decide +kernel
theorem dL_guard_14 : decode cL_guard 14 = .ok (.astore_n 2, 1) := by decide +kernel
theorem dL_guard_15 : decode cL_guard 15 = .ok (.iconst 2, 1) := by decide +kernel
theorem dL_guard_16 : decode cL_guard 16 = .ok (.ireturn, 1) := by decide +kernel
theorem dL_guard_17 : decode cL_guard 17 = .ok (.iconst 0, 1) := by decide +kernel
theorem dL_guard_18 : decode cL_guard 18 = .ok (.ireturn, 1) := by decide +kernel
theorem dL_watch_0 : decode cL_watch 0 = .ok (.aload_n 1, 1) := by decide +kernel
theorem dL_watch_1 : decode cL_watch 1 = .ok (.iconst 0, 1) := by decide +kernel
theorem dL_watch_2 : decode cL_watch 2 = .ok (.aload_n 0, 1) := by decide +kernel
theorem dL_watch_3 : decode cL_watch 3 = .ok (.invokevirtual 87, 3) := by decide +kernel
theorem dL_watch_6 : decode cL_watch 6 = .ok (.i2l, 1) := by decide +kernel
theorem dL_watch_7 : decode cL_watch 7 = .ok (.lastore, 1) := by decide +kernel
theorem dL_watch_8 : decode cL_watch 8 = .ok (.goto 9, 3) := by decide +kernel
theorem dL_watch_11 : decode cL_watch 11 = .ok (.astore_n 2, 1) := by decide +kernel
theorem dL_watch_12 : decode cL_watch 12 = .ok (.iconst 1, 1) := by decide +kernel
theorem dL_watch_13 : decode cL_watch 13 = .ok (.ireturn, 1) := by decide +kernel
theorem dL_watch_14 : decode cL_watch 14 = .ok (.astore_n 2, 1) := by decide +kernel
theorem dL_watch_15 : decode cL_watch 15 = .ok (.iconst 2, 1) := by decide +kernel
theorem dL_watch_16 : decode cL_watch 16 = .ok (.ireturn, 1) := by decide +kernel
theorem dL_watch_17 : decode cL_watch 17 = .ok (.iconst 0, 1) := by decide +kernel
theorem dL_watch_18 : decode cL_watch 18 = .ok (.ireturn, 1) := by decide +kernel
theorem dL_reload_0 : decode cL_reload 0 = .ok (.aload_n 1, 1) := by decide +kernel
theorem dL_reload_1 : decode cL_reload 1 = .ok (.iconst 0, 1) := by decide +kernel
theorem dL_reload_2 : decode cL_reload 2 = .ok (.aload_n 0, 1) := by decide +kernel
theorem dL_reload_3 : decode cL_reload 3 = .ok (.invokevirtual 90, 3) := by decide +kernel
theorem dL_reload_6 : decode cL_reload 6 = .ok (.i2l, 1) := by decide +kernel
theorem dL_reload_7 : decode cL_reload 7 = .ok (.lastore, 1) := by decide +kernel
theorem dL_reload_8 : decode cL_reload 8 = .ok (.goto 9, 3) := by decide +kernel
theorem dL_reload_11 : decode cL_reload 11 = .ok (.astore_n 2, 1) := by decide +kernel
theorem dL_reload_12 : decode cL_reload 12 = .ok (.iconst 1, 1) := by decide +kernel
theorem dL_reload_13 : decode cL_reload 13 = .ok (.ireturn, 1) := by decide +kernel
theorem dL_reload_14 : decode cL_reload 14 = .ok (.astore_n 2, 1) := by decide +kernel
theorem dL_reload_15 : decode cL_reload 15 = .ok (.iconst 2, 1) := by decide +kernel
theorem dL_reload_16 : decode cL_reload 16 = .ok (.ireturn, 1) := by decide +kernel
theorem dL_reload_17 : decode cL_reload 17 = .ok (.iconst 0, 1) := by decide +kernel
theorem dL_reload_18 : decode cL_reload 18 = .ok (.ireturn, 1) := by decide +kernel
theorem dL_endTurn_0 : decode cL_endTurn 0 = .ok (.aload_n 1, 1) := by decide +kernel
theorem dL_endTurn_1 : decode cL_endTurn 1 = .ok (.iconst 0, 1) := by decide +kernel
theorem dL_endTurn_2 : decode cL_endTurn 2 = .ok (.aload_n 0, 1) := by decide +kernel
theorem dL_endTurn_3 : decode cL_endTurn 3 = .ok (.invokevirtual 93, 3) := by decide +kernel
theorem dL_endTurn_6 : decode cL_endTurn 6 = .ok (.i2l, 1) := by decide +kernel
theorem dL_endTurn_7 : decode cL_endTurn 7 = .ok (.lastore, 1) := by decide +kernel
theorem dL_endTurn_8 : decode cL_endTurn 8 = .ok (.goto 6, 3) := by decide +kernel
theorem dL_endTurn_11 : decode cL_endTurn 11 = .ok (.astore_n 2, 1) := by decide +kernel
theorem dL_endTurn_12 : decode cL_endTurn 12 = .ok (.iconst 1, 1) := by decide +kernel
theorem dL_endTurn_13 : decode cL_endTurn 13 = .ok (.ireturn, 1) := by decide +kernel
theorem dL_endTurn_14 : decode cL_endTurn 14 = .ok (.iconst 0, 1) := by decide +kernel
theorem dL_endTurn_15 : decode cL_endTurn 15 = .ok (.ireturn, 1) := by decide +kernel
theorem dL_event_0 : decode cL_event 0 = .ok (.aload_n 3, 1) := by decide +kernel
theorem dL_event_1 : decode cL_event 1 = .ok (.iconst 0, 1) := by decide +kernel
theorem dL_event_2 : decode cL_event 2 = .ok (.aload_n 0, 1) := by decide +kernel
theorem dL_event_3 : decode cL_event 3 = .ok (.iload_n 1, 1) := by decide +kernel
theorem dL_event_4 : decode cL_event 4 = .ok (.iload_n 2, 1) := by decide +kernel
theorem dL_event_5 : decode cL_event 5 = .ok (.invokevirtual 96, 3) := by decide +kernel
theorem dL_event_8 : decode cL_event 8 = .ok (.i2l, 1) := by decide +kernel
theorem dL_event_9 : decode cL_event 9 = .ok (.lastore, 1) := by decide +kernel
theorem dL_event_10 : decode cL_event 10 = .ok (.goto 7, 3) := by decide +kernel
theorem dL_event_13 : decode cL_event 13 = .ok (.astore 4, 2) := by decide +kernel
theorem dL_event_15 : decode cL_event 15 = .ok (.iconst 1, 1) := by decide +kernel
theorem dL_event_16 : decode cL_event 16 = .ok (.ireturn, 1) := by decide +kernel
theorem dL_event_17 : decode cL_event 17 = .ok (.iconst 0, 1) := by decide +kernel
theorem dL_event_18 : decode cL_event 18 = .ok (.ireturn, 1) := by decide +kernel
theorem dL_undo_0 : decode cL_undo 0 = .ok (.aload_n 1, 1) := by decide +kernel
theorem dL_undo_1 : decode cL_undo 1 = .ok (.iconst 0, 1) := by decide +kernel
theorem dL_undo_2 : decode cL_undo 2 = .ok (.aload_n 0, 1) := by decide +kernel
theorem dL_undo_3 : decode cL_undo 3 = .ok (.invokevirtual 99, 3) := by decide +kernel
theorem dL_undo_6 : decode cL_undo 6 = .ok (.i2l, 1) := by decide +kernel
theorem dL_undo_7 : decode cL_undo 7 = .ok (.lastore, 1) := by decide +kernel
theorem dL_undo_8 : decode cL_undo 8 = .ok (.goto 6, 3) := by decide +kernel
theorem dL_undo_11 : decode cL_undo 11 = .ok (.astore_n 2, 1) := by decide +kernel
theorem dL_undo_12 : decode cL_undo 12 = .ok (.iconst 1, 1) := by decide +kernel
theorem dL_undo_13 : decode cL_undo 13 = .ok (.ireturn, 1) := by decide +kernel
theorem dL_undo_14 : decode cL_undo 14 = .ok (.iconst 0, 1) := by decide +kernel
theorem dL_undo_15 : decode cL_undo 15 = .ok (.ireturn, 1) := by decide +kernel
theorem dL_isReplayed_0 : decode cL_isReplayed 0 = .ok (.aload_n 1, 1) := by decide +kernel
theorem dL_isReplayed_1 : decode cL_isReplayed 1 = .ok (.iconst 0, 1) := by decide +kernel
theorem dL_isReplayed_2 : decode cL_isReplayed 2 = .ok (.aload_n 0, 1) := by decide +kernel
theorem dL_isReplayed_3 : decode cL_isReplayed 3 = .ok (.invokevirtual 102, 3) := by decide +kernel
theorem dL_isReplayed_6 : decode cL_isReplayed 6 = .ok (.ifCond .eq 7, 3) := by decide +kernel
theorem dL_isReplayed_9 : decode cL_isReplayed 9 = .ok (.lconst 1, 1) := by decide +kernel
theorem dL_isReplayed_10 : decode cL_isReplayed 10 = .ok (.goto 4, 3) := by decide +kernel
theorem dL_isReplayed_13 : decode cL_isReplayed 13 = .ok (.lconst 0, 1) := by decide +kernel
theorem dL_isReplayed_14 : decode cL_isReplayed 14 = .ok (.lastore, 1) := by decide +kernel
theorem dL_isReplayed_15 : decode cL_isReplayed 15 = .ok (.goto 6, 3) := by decide +kernel
theorem dL_isReplayed_18 : decode cL_isReplayed 18 = .ok (.astore_n 2, 1) := by decide +kernel
theorem dL_isReplayed_19 : decode cL_isReplayed 19 = .ok (.iconst 1, 1) := by decide +kernel
theorem dL_isReplayed_20 : decode cL_isReplayed 20 = .ok (.ireturn, 1) := by decide +kernel
theorem dL_isReplayed_21 : decode cL_isReplayed 21 = .ok (.iconst 0, 1) := by decide +kernel
theorem dL_isReplayed_22 : decode cL_isReplayed 22 = .ok (.ireturn, 1) := by decide +kernel
theorem dL_meanHealth_0 : decode cL_meanHealth 0 = .ok (.aload_n 2, 1) := by decide +kernel
theorem dL_meanHealth_1 : decode cL_meanHealth 1 = .ok (.iconst 0, 1) := by decide +kernel
theorem dL_meanHealth_2 : decode cL_meanHealth 2 = .ok (.aload_n 0, 1) := by decide +kernel
theorem dL_meanHealth_3 : decode cL_meanHealth 3 = .ok (.iload_n 1, 1) := by decide +kernel
theorem dL_meanHealth_4 : decode cL_meanHealth 4 = .ok (.invokevirtual 106, 3) := by decide +kernel
theorem dL_meanHealth_7 : decode cL_meanHealth 7 = .ok (.f2d, 1) := by decide +kernel
theorem dL_meanHealth_8 : decode cL_meanHealth 8 = .ok (.dastore, 1) := by decide +kernel
theorem dL_meanHealth_9 : decode cL_meanHealth 9 = .ok (.goto 9, 3) := by decide +kernel
theorem dL_meanHealth_12 : decode cL_meanHealth 12 = .ok (.astore_n 3, 1) := by decide +kernel
theorem dL_meanHealth_13 : decode cL_meanHealth 13 = .ok (.iconst 1, 1) := by decide +kernel
theorem dL_meanHealth_14 : decode cL_meanHealth 14 = .ok (.ireturn, 1) := by decide +kernel
theorem dL_meanHealth_15 : decode cL_meanHealth 15 = .ok (.astore_n 3, 1) := by decide +kernel
theorem dL_meanHealth_16 : decode cL_meanHealth 16 = .ok (.iconst 2, 1) := by decide +kernel
theorem dL_meanHealth_17 : decode cL_meanHealth 17 = .ok (.ireturn, 1) := by decide +kernel
theorem dL_meanHealth_18 : decode cL_meanHealth 18 = .ok (.iconst 0, 1) := by decide +kernel
theorem dL_meanHealth_19 : decode cL_meanHealth 19 = .ok (.ireturn, 1) := by decide +kernel
theorem dL_storeHealths_0 : decode cL_storeHealths 0 = .ok (.aload_n 3, 1) := by decide +kernel
theorem dL_storeHealths_1 : decode cL_storeHealths 1 = .ok (.iconst 0, 1) := by decide +kernel
theorem dL_storeHealths_2 : decode cL_storeHealths 2 = .ok (.aload_n 0, 1) := by decide +kernel
theorem dL_storeHealths_3 : decode cL_storeHealths 3 = .ok (.iload_n 1, 1) := by decide +kernel
theorem dL_storeHealths_4 : decode cL_storeHealths 4 = .ok (.iload_n 2, 1) := by decide +kernel
theorem dL_storeHealths_5 : decode cL_storeHealths 5 = .ok (.invokevirtual 112, 3) := by decide +kernel
theorem dL_storeHealths_8 : decode cL_storeHealths 8 = .ok (.i2l, 1) := by decide +kernel
theorem dL_storeHealths_9 : decode cL_storeHealths 9 = .ok (.lastore, 1) := by decide +kernel
theorem dL_storeHealths_10 : decode cL_storeHealths 10 = .ok (.goto 7, 3) := by decide +kernel
theorem dL_storeHealths_13 : decode cL_storeHealths 13 = .ok (.astore 4, 2) := by decide +kernel
theorem dL_storeHealths_15 : decode cL_storeHealths 15 = .ok (.iconst 1, 1) := by decide +kernel
theorem dL_storeHealths_16 : decode cL_storeHealths 16 = .ok (.ireturn, 1) := by decide +kernel
theorem dL_storeHealths_17 : decode cL_storeHealths 17 = .ok (.iconst 0, 1) := by decide +kernel
theorem dL_storeHealths_18 : decode cL_storeHealths 18 = .ok (.ireturn, 1) := by decide +kernel
theorem dL_copyHealths_0 : decode cL_copyHealths 0 = .ok (.aload_n 3, 1) := by decide +kernel
theorem dL_copyHealths_1 : decode cL_copyHealths 1 = .ok (.iconst 0, 1) := by decide +kernel
theorem dL_copyHealths_2 : decode cL_copyHealths 2 = .ok (.aload_n 0, 1) := by decide +kernel
theorem dL_copyHealths_3 : decode cL_copyHealths 3 = .ok (.iload_n 1, 1) := by decide +kernel
theorem dL_copyHealths_4 : decode cL_copyHealths 4 = .ok (.iload_n 2, 1) := by decide +kernel
theorem dL_copyHealths_5 : decode cL_copyHealths 5 = .ok (.invokevirtual 116, 3) := by decide +kernel
theorem dL_copyHealths_8 : decode cL_copyHealths 8 = .ok (.ifCond .eq 7, 3) := by decide +kernel
theorem dL_copyHealths_11 : decode cL_copyHealths 11 = .ok (.lconst 1, 1) := by decide +kernel
theorem dL_copyHealths_12 : decode cL_copyHealths 12 = .ok (.goto 4, 3) := by decide +kernel
theorem dL_copyHealths_15 : decode cL_copyHealths 15 = .ok (.lconst 0, 1) := by decide +kernel
theorem dL_copyHealths_16 : decode cL_copyHealths 16 = .ok (.lastore, 1) := by decide +kernel
theorem dL_copyHealths_17 : decode cL_copyHealths 17 = .ok (.goto 19, 3) := by decide +kernel
theorem dL_copyHealths_20 : decode cL_copyHealths 20 = .ok (.astore 4, 2) := by decide +kernel
theorem dL_copyHealths_22 : decode cL_copyHealths 22 = .ok (.iconst 1, 1) := by decide +kernel
theorem dL_copyHealths_23 : decode cL_copyHealths 23 = .ok (.ireturn, 1) := by decide +kernel
theorem dL_copyHealths_24 : decode cL_copyHealths 24 = .ok (.astore 4, 2) := by decide +kernel
theorem dL_copyHealths_26 : decode cL_copyHealths 26 = .ok (.iconst 2, 1) := by decide +kernel
theorem dL_copyHealths_27 : decode cL_copyHealths 27 = .ok (.ireturn, 1) := by decide +kernel
theorem dL_copyHealths_28 : decode cL_copyHealths 28 = .ok (.astore 4, 2) := by decide +kernel
theorem dL_copyHealths_30 : decode cL_copyHealths 30 = .ok (.iconst 3, 1) := by decide +kernel
theorem dL_copyHealths_31 : decode cL_copyHealths 31 = .ok (.ireturn, 1) := by decide +kernel
theorem dL_copyHealths_32 : decode cL_copyHealths 32 = .ok (.astore 4, 2) := by decide +kernel
theorem dL_copyHealths_34 : decode cL_copyHealths 34 = .ok (.iconst 4, 1) := by decide +kernel
theorem dL_copyHealths_35 : decode cL_copyHealths 35 = .ok (.ireturn, 1) := by decide +kernel
theorem dL_copyHealths_36 : decode cL_copyHealths 36 = .ok (.iconst 0, 1) := by decide +kernel
theorem dL_copyHealths_37 : decode cL_copyHealths 37 = .ok (.ireturn, 1) := by decide +kernel
theorem dL_storedBits_0 : decode cL_storedBits 0 = .ok (.aload_n 3, 1) := by decide +kernel
theorem dL_storedBits_1 : decode cL_storedBits 1 = .ok (.iconst 0, 1) := by decide +kernel
theorem dL_storedBits_2 : decode cL_storedBits 2 = .ok (.aload_n 0, 1) := by decide +kernel
theorem dL_storedBits_3 : decode cL_storedBits 3 = .ok (.iload_n 1, 1) := by decide +kernel
theorem dL_storedBits_4 : decode cL_storedBits 4 = .ok (.iload_n 2, 1) := by decide +kernel
theorem dL_storedBits_5 : decode cL_storedBits 5 = .ok (.invokevirtual 119, 3) := by decide +kernel
theorem dL_storedBits_8 : decode cL_storedBits 8 = .ok (.i2l, 1) := by decide +kernel
theorem dL_storedBits_9 : decode cL_storedBits 9 = .ok (.lastore, 1) := by decide +kernel
theorem dL_storedBits_10 : decode cL_storedBits 10 = .ok (.goto 11, 3) := by decide +kernel
theorem dL_storedBits_13 : decode cL_storedBits 13 = .ok (.astore 4, 2) := by decide +kernel
theorem dL_storedBits_15 : decode cL_storedBits 15 = .ok (.iconst 1, 1) := by decide +kernel
theorem dL_storedBits_16 : decode cL_storedBits 16 = .ok (.ireturn, 1) := by decide +kernel
theorem dL_storedBits_17 : decode cL_storedBits 17 = .ok (.astore 4, 2) := by decide +kernel
theorem dL_storedBits_19 : decode cL_storedBits 19 = .ok (.iconst 2, 1) := by decide +kernel
theorem dL_storedBits_20 : decode cL_storedBits 20 = .ok (.ireturn, 1) := by decide +kernel
theorem dL_storedBits_21 : decode cL_storedBits 21 = .ok (.iconst 0, 1) := by decide +kernel
theorem dL_storedBits_22 : decode cL_storedBits 22 = .ok (.ireturn, 1) := by decide +kernel
theorem dL_restore_0 : decode cL_restore 0 = .ok (.aload_n 1, 1) := by decide +kernel
theorem dL_restore_1 : decode cL_restore 1 = .ok (.iconst 0, 1) := by decide +kernel
theorem dL_restore_2 : decode cL_restore 2 = .ok (.aload_n 0, 1) := by decide +kernel
theorem dL_restore_3 : decode cL_restore 3 = .ok (.invokevirtual 122, 3) := by decide +kernel
theorem dL_restore_6 : decode cL_restore 6 = .ok (.i2l, 1) := by decide +kernel
theorem dL_restore_7 : decode cL_restore 7 = .ok (.lastore, 1) := by decide +kernel
theorem dL_restore_8 : decode cL_restore 8 = .ok (.goto 6, 3) := by decide +kernel
theorem dL_restore_11 : decode cL_restore 11 = .ok (.astore_n 2, 1) := by decide +kernel
theorem dL_restore_12 : decode cL_restore 12 = .ok (.iconst 1, 1) := by decide +kernel
theorem dL_restore_13 : decode cL_restore 13 = .ok (.ireturn, 1) := by decide +kernel
theorem dL_restore_14 : decode cL_restore 14 = .ok (.iconst 0, 1) := by decide +kernel
theorem dL_restore_15 : decode cL_restore 15 = .ok (.ireturn, 1) := by decide +kernel
abbrev rmL_append : Room := { frames := 7, cells := 1, slots := 6, locals := 131 }
def wL_append_0 (Q : Int32 → MS → Prop) (QX : String → MS → Prop) (S : MS) (b1 : Nat) (x2 : Int32) (b3 : Nat) : Prop := wp_X8_append (fun r2 S1 => (vp_in 0 (mN S1 b3) ∧ (∀ S3, S3 = (sJ S1 b3 (0 : Int32).toNatClampNeg ((r2 : Int32).toInt64)) → Q 0 S3))) (fun E S9 => (E = "java/lang/IllegalArgumentException" ∧ Q 1 S9) ∨ (E = "java/lang/IllegalStateException" ∧ Q 2 S9)) S b1 x2
set_option maxHeartbeats 4000000 in
set_option maxRecDepth 100000 in
theorem tL_append_0 {p : Program} {l : Launch} {e : Env} {s : State} {m : MethodId} {args : Array Value} {below : List Frame} {meth : Method} {c : Code} {H : Heap} {locs : List Loc} {cells slots : Nat} {G : GP} {A : Nat → Prop} {S0 : MS} {ls : Array Slot} (C : CF p l s m args meth c "SkirmishGridLaw" cL_append 4 G A) (hr : meth.sig.returnType = (some .int)) (htab : c.exceptionTable.toList = tableOf [(0, 9, 12, 13), (0, 9, 15, 15)]) (Q : Int32 → MS → Prop) (QX : String → MS → Prop) (S : MS) (b1 : Nat) (x2 : Int32) (b3 : Nat) (p_b1 : pI S 8 b1) (p_b3 : pI S 16 b3) (P : PW G A s H locs S0 S) (hl : lv_has ls 4 [(0, .ref b1), (1, .int x2), (2, .ref b3)]) (hcc : cells + 1 ≤ 1) (hss : slots + 6 ≤ 6) (hw : wL_append_0 Q QX S b1 x2 b3) : W p l e rmL_append s m args below meth c H locs cells slots (vx_MQ below (QI G S0 A Q) (XX G S0 A QX) args s 1 6 A) (F0 m 0 ls []) := by
  have hx := CF_x C
  have hb := CF_b C
  unfold wL_append_0 at hw
  refine lv_aload_n hx hb dL_append_0 rfl (lv_at hl 2 rfl) ?_
  refine lv_iconst (v := 0) hx hb dL_append_1 (by decide) ?_
  refine lv_aload_n hx hb dL_append_2 rfl (lv_at hl 0 rfl) ?_
  refine lv_iload_n hx hb dL_append_3 rfl (lv_at hl 1 rfl) ?_
  refine cl_i C P (run_V C P hl.1 (kd := 8) (met_X8_append (CF_n C) G H.size _ _ S b1 x2 p_b1 hw) p_b1 (by decide) rfl q_406 q_407 q_408 q_1 q_409 cd_X8_append ⟨(Nat.le_of_ble_eq_true rfl), (Nat.le_of_ble_eq_true rfl)⟩ rfl rfl (As := [.int x2]) (rest := [.int 0, .ref b3]) rfl rfl (Nat.le_of_ble_eq_true rfl) dL_append_4 ⟨by show cells + 1 ≤ 1; omega, by show slots + 6 ≤ 6; omega⟩) ?_ (fun r2 S1 H locs P hE hw => ?_)
  · intro E S9 H locs ce9 q9 P hE hq h1 h2 h3
    rcases hq with ⟨rfl, hw⟩ | ⟨rfl, hw⟩
    · refine vx_catch (name := "java/lang/IllegalArgumentException") (CF_o C) ([] : List ExceptionTableEntry) (⟨0, 9, 12, 13⟩ : ExceptionTableEntry) ([⟨0, 9, 15, 15⟩] : List ExceptionTableEntry) (htab.trans rfl) (fun z hz => by cases hz) (by decide) (by decide) (CF_t C _ q_404) (CF_y C (by decide +kernel)) h1 h2 h3 ?_
      have p_b1 : pI S9 8 b1 := pI_x hE p_b1
      have p_b3 : pI S9 16 b3 := pI_x hE p_b3
      refine lv_astore_n (lv' := [(3, .ref q9), (0, .ref b1), (1, .int x2), (2, .ref b3)]) hx hb dL_append_12 rfl hl (by decide) rfl (fun ls hl => ?_)
      refine lv_iconst (v := 1) hx hb dL_append_13 (by decide) ?_
      exact e_i C hr rfl P hw (by omega) (by omega) dL_append_14
    · refine vx_catch (name := "java/lang/IllegalStateException") (CF_o C) ([⟨0, 9, 12, 13⟩] : List ExceptionTableEntry) (⟨0, 9, 15, 15⟩ : ExceptionTableEntry) ([] : List ExceptionTableEntry) (htab.trans rfl) (by intro z hz; simp only [List.mem_cons, List.not_mem_nil, or_false] at hz; rcases hz with rfl <;> first | exact Or.inr ⟨by decide, "java/lang/IllegalArgumentException", CF_t C _ q_404, CF_c C (by decide +kernel) (by decide +kernel) (by decide +kernel)⟩) (by decide) (by decide) (CF_t C _ q_405) (CF_y C (by decide +kernel)) h1 h2 h3 ?_
      have p_b1 : pI S9 8 b1 := pI_x hE p_b1
      have p_b3 : pI S9 16 b3 := pI_x hE p_b3
      refine lv_astore_n (lv' := [(3, .ref q9), (0, .ref b1), (1, .int x2), (2, .ref b3)]) hx hb dL_append_15 rfl hl (by decide) rfl (fun ls hl => ?_)
      refine lv_iconst (v := 2) hx hb dL_append_16 (by decide) ?_
      exact e_i C hr rfl P hw (by omega) (by omega) dL_append_17
  have p_b1 : pI S1 8 b1 := pI_x hE p_b1
  have p_b3 : pI S1 16 b3 := pI_x hE p_b3
  refine lv_i2l (v := (r2 : Int32).toInt64) hx hb dL_append_7 rfl ?_
  obtain ⟨h1, hw⟩ := hw
  refine rs_j C P p_b3 h1 dL_append_8 (fun H locs P => ?_)
  obtain ⟨S3, hS⟩ : ∃ z, z = (sJ S1 b3 (0 : Int32).toNatClampNeg ((r2 : Int32).toInt64)) := ⟨_, rfl⟩
  have P : PW G A s H locs S0 S3 := by rw [hS]; exact P
  have p_b3 : pI S3 16 b3 := by rw [hS]; exact pI_x ext_sJ p_b3
  have hw := hw S3 hS
  refine lv_goto (tgt := 18) hx hb dL_append_9 (by decide) ?_
  refine lv_iconst (v := 0) hx hb dL_append_18 (by decide) ?_
  exact e_i C hr rfl P hw (by omega) (by omega) dL_append_19
def wp_L_append (Q : Int32 → MS → Prop) (QX : String → MS → Prop) (S : MS) (b1 : Nat) (x2 : Int32) (b3 : Nat) : Prop := wL_append_0 Q QX S b1 x2 b3
set_option maxHeartbeats 4000000 in
set_option maxRecDepth 100000 in
theorem met_L_append {l : Launch} (hst : l.stackTraces = false) (G : GP) (sz : Nat) (Q : Int32 → MS → Prop) (QX : String → MS → Prop) (S : MS) (b1 : Nat) (x2 : Int32) (b3 : Nat) (p_b1 : pI S 8 b1) (p_b3 : pI S 16 b3) (hw : wp_L_append Q QX S b1 x2 b3) : vx_Met l yL_append (.codeWith yL_append cL_append 4 (some .int) [(0, 9, 12, 13), (0, 9, 15, 15)] :: GW) rmL_append (va_Pc [.ref b1, .int x2, .ref b3] (PR G S sz)) (QI G S (FA G S sz) Q) (XX G S (FA G S sz) QX) 1 6 (FA G S sz) := by
  refine st_w (by decide +kernel) hst (fun p e s m below meth c C hr htab P => ?_)
  refine en_m (Nat.le_of_ble_eq_true rfl) (lv := [(0, .ref b1), (1, .int x2), (2, .ref b3)]) rfl (fun ls hl => ?_)
  have C : CF p l s m _ meth c "SkirmishGridLaw" cL_append 4 G (FA G S sz) := C
  exact tL_append_0 C hr htab Q QX S b1 x2 b3 p_b1 p_b3 P hl (by omega) (by omega) hw
theorem cd_L_append : yL_append.cls = RL ∧ yL_append.cls ≠ "java/lang/invoke/MethodHandle" ∧ yL_append.cls ≠ "java/lang/invoke/VarHandle" ∧ (parseMethodDescriptor yL_append.desc).map (fun d => d.parameters.length) = some 3 := by decide +kernel
abbrev rmL_load : Room := { frames := 7, cells := 1, slots := 6, locals := 178 }
def wL_load_0 (Q : Int32 → MS → Prop) (QX : String → MS → Prop) (S : MS) (b1 : Nat) (x2 : Int32) (b3 : Nat) : Prop := wp_X8_load (fun r2 S1 => (vp_in 0 (mN S1 b3) ∧ (∀ S3, S3 = (sJ S1 b3 (0 : Int32).toNatClampNeg ((r2 : Int32).toInt64)) → Q 0 S3))) (fun E S9 => (E = "java/lang/IllegalArgumentException" ∧ Q 1 S9) ∨ (E = "java/lang/UnsupportedOperationException" ∧ Q 2 S9)) S b1 x2
set_option maxHeartbeats 4000000 in
set_option maxRecDepth 100000 in
theorem tL_load_0 {p : Program} {l : Launch} {e : Env} {s : State} {m : MethodId} {args : Array Value} {below : List Frame} {meth : Method} {c : Code} {H : Heap} {locs : List Loc} {cells slots : Nat} {G : GP} {A : Nat → Prop} {S0 : MS} {ls : Array Slot} (C : CF p l s m args meth c "SkirmishGridLaw" cL_load 4 G A) (hr : meth.sig.returnType = (some .int)) (htab : c.exceptionTable.toList = tableOf [(0, 9, 12, 13), (0, 9, 15, 21)]) (Q : Int32 → MS → Prop) (QX : String → MS → Prop) (S : MS) (b1 : Nat) (x2 : Int32) (b3 : Nat) (p_b1 : pI S 8 b1) (p_b3 : pI S 16 b3) (P : PW G A s H locs S0 S) (hl : lv_has ls 4 [(0, .ref b1), (1, .int x2), (2, .ref b3)]) (hcc : cells + 1 ≤ 1) (hss : slots + 6 ≤ 6) (hw : wL_load_0 Q QX S b1 x2 b3) : W p l e rmL_load s m args below meth c H locs cells slots (vx_MQ below (QI G S0 A Q) (XX G S0 A QX) args s 1 6 A) (F0 m 0 ls []) := by
  have hx := CF_x C
  have hb := CF_b C
  unfold wL_load_0 at hw
  refine lv_aload_n hx hb dL_load_0 rfl (lv_at hl 2 rfl) ?_
  refine lv_iconst (v := 0) hx hb dL_load_1 (by decide) ?_
  refine lv_aload_n hx hb dL_load_2 rfl (lv_at hl 0 rfl) ?_
  refine lv_iload_n hx hb dL_load_3 rfl (lv_at hl 1 rfl) ?_
  refine cl_i C P (run_V C P hl.1 (kd := 8) (met_X8_load (CF_n C) G H.size _ _ S b1 x2 p_b1 hw) p_b1 (by decide) rfl q_502 q_503 q_504 q_1 q_505 cd_X8_load ⟨(Nat.le_of_ble_eq_true rfl), (Nat.le_of_ble_eq_true rfl)⟩ rfl rfl (As := [.int x2]) (rest := [.int 0, .ref b3]) rfl rfl (Nat.le_of_ble_eq_true rfl) dL_load_4 ⟨by show cells + 1 ≤ 1; omega, by show slots + 6 ≤ 6; omega⟩) ?_ (fun r2 S1 H locs P hE hw => ?_)
  · intro E S9 H locs ce9 q9 P hE hq h1 h2 h3
    rcases hq with ⟨rfl, hw⟩ | ⟨rfl, hw⟩
    · refine vx_catch (name := "java/lang/IllegalArgumentException") (CF_o C) ([] : List ExceptionTableEntry) (⟨0, 9, 12, 13⟩ : ExceptionTableEntry) ([⟨0, 9, 15, 21⟩] : List ExceptionTableEntry) (htab.trans rfl) (fun z hz => by cases hz) (by decide) (by decide) (CF_t C _ q_404) (CF_y C (by decide +kernel)) h1 h2 h3 ?_
      have p_b1 : pI S9 8 b1 := pI_x hE p_b1
      have p_b3 : pI S9 16 b3 := pI_x hE p_b3
      refine lv_astore_n (lv' := [(3, .ref q9), (0, .ref b1), (1, .int x2), (2, .ref b3)]) hx hb dL_load_12 rfl hl (by decide) rfl (fun ls hl => ?_)
      refine lv_iconst (v := 1) hx hb dL_load_13 (by decide) ?_
      exact e_i C hr rfl P hw (by omega) (by omega) dL_load_14
    · refine vx_catch (name := "java/lang/UnsupportedOperationException") (CF_o C) ([⟨0, 9, 12, 13⟩] : List ExceptionTableEntry) (⟨0, 9, 15, 21⟩ : ExceptionTableEntry) ([] : List ExceptionTableEntry) (htab.trans rfl) (by intro z hz; simp only [List.mem_cons, List.not_mem_nil, or_false] at hz; rcases hz with rfl <;> first | exact Or.inr ⟨by decide, "java/lang/IllegalArgumentException", CF_t C _ q_404, CF_c C (by decide +kernel) (by decide +kernel) (by decide +kernel)⟩) (by decide) (by decide) (CF_t C _ q_501) (CF_y C (by decide +kernel)) h1 h2 h3 ?_
      have p_b1 : pI S9 8 b1 := pI_x hE p_b1
      have p_b3 : pI S9 16 b3 := pI_x hE p_b3
      refine lv_astore_n (lv' := [(3, .ref q9), (0, .ref b1), (1, .int x2), (2, .ref b3)]) hx hb dL_load_15 rfl hl (by decide) rfl (fun ls hl => ?_)
      refine lv_iconst (v := 2) hx hb dL_load_16 (by decide) ?_
      exact e_i C hr rfl P hw (by omega) (by omega) dL_load_17
  have p_b1 : pI S1 8 b1 := pI_x hE p_b1
  have p_b3 : pI S1 16 b3 := pI_x hE p_b3
  refine lv_i2l (v := (r2 : Int32).toInt64) hx hb dL_load_7 rfl ?_
  obtain ⟨h1, hw⟩ := hw
  refine rs_j C P p_b3 h1 dL_load_8 (fun H locs P => ?_)
  obtain ⟨S3, hS⟩ : ∃ z, z = (sJ S1 b3 (0 : Int32).toNatClampNeg ((r2 : Int32).toInt64)) := ⟨_, rfl⟩
  have P : PW G A s H locs S0 S3 := by rw [hS]; exact P
  have p_b3 : pI S3 16 b3 := by rw [hS]; exact pI_x ext_sJ p_b3
  have hw := hw S3 hS
  refine lv_goto (tgt := 18) hx hb dL_load_9 (by decide) ?_
  refine lv_iconst (v := 0) hx hb dL_load_18 (by decide) ?_
  exact e_i C hr rfl P hw (by omega) (by omega) dL_load_19
def wp_L_load (Q : Int32 → MS → Prop) (QX : String → MS → Prop) (S : MS) (b1 : Nat) (x2 : Int32) (b3 : Nat) : Prop := wL_load_0 Q QX S b1 x2 b3
set_option maxHeartbeats 4000000 in
set_option maxRecDepth 100000 in
theorem met_L_load {l : Launch} (hst : l.stackTraces = false) (G : GP) (sz : Nat) (Q : Int32 → MS → Prop) (QX : String → MS → Prop) (S : MS) (b1 : Nat) (x2 : Int32) (b3 : Nat) (p_b1 : pI S 8 b1) (p_b3 : pI S 16 b3) (hw : wp_L_load Q QX S b1 x2 b3) : vx_Met l yL_load (.codeWith yL_load cL_load 4 (some .int) [(0, 9, 12, 13), (0, 9, 15, 21)] :: GW) rmL_load (va_Pc [.ref b1, .int x2, .ref b3] (PR G S sz)) (QI G S (FA G S sz) Q) (XX G S (FA G S sz) QX) 1 6 (FA G S sz) := by
  refine st_w (by decide +kernel) hst (fun p e s m below meth c C hr htab P => ?_)
  refine en_m (Nat.le_of_ble_eq_true rfl) (lv := [(0, .ref b1), (1, .int x2), (2, .ref b3)]) rfl (fun ls hl => ?_)
  have C : CF p l s m _ meth c "SkirmishGridLaw" cL_load 4 G (FA G S sz) := C
  exact tL_load_0 C hr htab Q QX S b1 x2 b3 p_b1 p_b3 P hl (by omega) (by omega) hw
theorem cd_L_load : yL_load.cls = RL ∧ yL_load.cls ≠ "java/lang/invoke/MethodHandle" ∧ yL_load.cls ≠ "java/lang/invoke/VarHandle" ∧ (parseMethodDescriptor yL_load.desc).map (fun d => d.parameters.length) = some 3 := by decide +kernel
abbrev rmL_errorPosition : Room := { frames := 7, cells := 1, slots := 6, locals := 130 }
def wL_errorPosition_0 (Q : Int32 → MS → Prop) (QX : String → MS → Prop) (S : MS) (b1 : Nat) (b2 : Nat) : Prop := wp_X8_errorPosition (fun r2 S1 => (vp_in 0 (mN S1 b2) ∧ (∀ S3, S3 = (sJ S1 b2 (0 : Int32).toNatClampNeg ((r2 : Int32).toInt64)) → Q 0 S3))) (fun E S9 => (E = "java/util/NoSuchElementException" ∧ Q 1 S9)) S b1
set_option maxHeartbeats 4000000 in
set_option maxRecDepth 100000 in
theorem tL_errorPosition_0 {p : Program} {l : Launch} {e : Env} {s : State} {m : MethodId} {args : Array Value} {below : List Frame} {meth : Method} {c : Code} {H : Heap} {locs : List Loc} {cells slots : Nat} {G : GP} {A : Nat → Prop} {S0 : MS} {ls : Array Slot} (C : CF p l s m args meth c "SkirmishGridLaw" cL_errorPosition 3 G A) (hr : meth.sig.returnType = (some .int)) (htab : c.exceptionTable.toList = tableOf [(0, 8, 11, 27)]) (Q : Int32 → MS → Prop) (QX : String → MS → Prop) (S : MS) (b1 : Nat) (b2 : Nat) (p_b1 : pI S 8 b1) (p_b2 : pI S 16 b2) (P : PW G A s H locs S0 S) (hl : lv_has ls 3 [(0, .ref b1), (1, .ref b2)]) (hcc : cells + 1 ≤ 1) (hss : slots + 6 ≤ 6) (hw : wL_errorPosition_0 Q QX S b1 b2) : W p l e rmL_errorPosition s m args below meth c H locs cells slots (vx_MQ below (QI G S0 A Q) (XX G S0 A QX) args s 1 6 A) (F0 m 0 ls []) := by
  have hx := CF_x C
  have hb := CF_b C
  unfold wL_errorPosition_0 at hw
  refine lv_aload_n hx hb dL_errorPosition_0 rfl (lv_at hl 1 rfl) ?_
  refine lv_iconst (v := 0) hx hb dL_errorPosition_1 (by decide) ?_
  refine lv_aload_n hx hb dL_errorPosition_2 rfl (lv_at hl 0 rfl) ?_
  refine cl_i C P (run_V C P hl.1 (kd := 8) (met_X8_errorPosition (CF_n C) G H.size _ _ S b1 p_b1 hw) p_b1 (by decide) rfl q_637 q_638 q_639 q_1 q_640 cd_X8_errorPosition ⟨(Nat.le_of_ble_eq_true rfl), (Nat.le_of_ble_eq_true rfl)⟩ rfl rfl (As := []) (rest := [.int 0, .ref b2]) rfl rfl (Nat.le_of_ble_eq_true rfl) dL_errorPosition_3 ⟨by show cells + 1 ≤ 1; omega, by show slots + 6 ≤ 6; omega⟩) ?_ (fun r2 S1 H locs P hE hw => ?_)
  · intro E S9 H locs ce9 q9 P hE hq h1 h2 h3
    obtain ⟨rfl, hw⟩ := hq
    refine vx_catch (name := "java/util/NoSuchElementException") (CF_o C) ([] : List ExceptionTableEntry) (⟨0, 8, 11, 27⟩ : ExceptionTableEntry) ([] : List ExceptionTableEntry) (htab.trans rfl) (fun z hz => by cases hz) (by decide) (by decide) (CF_t C _ q_636) (CF_y C (by decide +kernel)) h1 h2 h3 ?_
    have p_b1 : pI S9 8 b1 := pI_x hE p_b1
    have p_b2 : pI S9 16 b2 := pI_x hE p_b2
    refine lv_astore_n (lv' := [(2, .ref q9), (0, .ref b1), (1, .ref b2)]) hx hb dL_errorPosition_11 rfl hl (by decide) rfl (fun ls hl => ?_)
    refine lv_iconst (v := 1) hx hb dL_errorPosition_12 (by decide) ?_
    exact e_i C hr rfl P hw (by omega) (by omega) dL_errorPosition_13
  have p_b1 : pI S1 8 b1 := pI_x hE p_b1
  have p_b2 : pI S1 16 b2 := pI_x hE p_b2
  refine lv_i2l (v := (r2 : Int32).toInt64) hx hb dL_errorPosition_6 rfl ?_
  obtain ⟨h1, hw⟩ := hw
  refine rs_j C P p_b2 h1 dL_errorPosition_7 (fun H locs P => ?_)
  obtain ⟨S3, hS⟩ : ∃ z, z = (sJ S1 b2 (0 : Int32).toNatClampNeg ((r2 : Int32).toInt64)) := ⟨_, rfl⟩
  have P : PW G A s H locs S0 S3 := by rw [hS]; exact P
  have p_b2 : pI S3 16 b2 := by rw [hS]; exact pI_x ext_sJ p_b2
  have hw := hw S3 hS
  refine lv_goto (tgt := 14) hx hb dL_errorPosition_8 (by decide) ?_
  refine lv_iconst (v := 0) hx hb dL_errorPosition_14 (by decide) ?_
  exact e_i C hr rfl P hw (by omega) (by omega) dL_errorPosition_15
def wp_L_errorPosition (Q : Int32 → MS → Prop) (QX : String → MS → Prop) (S : MS) (b1 : Nat) (b2 : Nat) : Prop := wL_errorPosition_0 Q QX S b1 b2
set_option maxHeartbeats 4000000 in
set_option maxRecDepth 100000 in
theorem met_L_errorPosition {l : Launch} (hst : l.stackTraces = false) (G : GP) (sz : Nat) (Q : Int32 → MS → Prop) (QX : String → MS → Prop) (S : MS) (b1 : Nat) (b2 : Nat) (p_b1 : pI S 8 b1) (p_b2 : pI S 16 b2) (hw : wp_L_errorPosition Q QX S b1 b2) : vx_Met l yL_errorPosition (.codeWith yL_errorPosition cL_errorPosition 3 (some .int) [(0, 8, 11, 27)] :: GW) rmL_errorPosition (va_Pc [.ref b1, .ref b2] (PR G S sz)) (QI G S (FA G S sz) Q) (XX G S (FA G S sz) QX) 1 6 (FA G S sz) := by
  refine st_w (by decide +kernel) hst (fun p e s m below meth c C hr htab P => ?_)
  refine en_m (Nat.le_of_ble_eq_true rfl) (lv := [(0, .ref b1), (1, .ref b2)]) rfl (fun ls hl => ?_)
  have C : CF p l s m _ meth c "SkirmishGridLaw" cL_errorPosition 3 G (FA G S sz) := C
  exact tL_errorPosition_0 C hr htab Q QX S b1 b2 p_b1 p_b2 P hl (by omega) (by omega) hw
theorem cd_L_errorPosition : yL_errorPosition.cls = RL ∧ yL_errorPosition.cls ≠ "java/lang/invoke/MethodHandle" ∧ yL_errorPosition.cls ≠ "java/lang/invoke/VarHandle" ∧ (parseMethodDescriptor yL_errorPosition.desc).map (fun d => d.parameters.length) = some 2 := by decide +kernel
abbrev rmL_terrain : Room := { frames := 7, cells := 1, slots := 6, locals := 169 }
def wL_terrain_0 (Q : Int32 → MS → Prop) (QX : String → MS → Prop) (S : MS) (b1 : Nat) (x2 : Int32) (x3 : Int32) (b4 : Nat) : Prop := wp_X8_terrain (fun r2 S1 => (vp_in 0 (mN S1 b4) ∧ (∀ S3, S3 = (sJ S1 b4 (0 : Int32).toNatClampNeg ((r2 : Int32).toInt64)) → Q 0 S3))) (fun E S9 => (E = "java/lang/IndexOutOfBoundsException" ∧ Q 1 S9)) S b1 x2 x3
set_option maxHeartbeats 4000000 in
set_option maxRecDepth 100000 in
theorem tL_terrain_0 {p : Program} {l : Launch} {e : Env} {s : State} {m : MethodId} {args : Array Value} {below : List Frame} {meth : Method} {c : Code} {H : Heap} {locs : List Loc} {cells slots : Nat} {G : GP} {A : Nat → Prop} {S0 : MS} {ls : Array Slot} (C : CF p l s m args meth c "SkirmishGridLaw" cL_terrain 5 G A) (hr : meth.sig.returnType = (some .int)) (htab : c.exceptionTable.toList = tableOf [(0, 10, 13, 33)]) (Q : Int32 → MS → Prop) (QX : String → MS → Prop) (S : MS) (b1 : Nat) (x2 : Int32) (x3 : Int32) (b4 : Nat) (p_b1 : pI S 8 b1) (p_b4 : pI S 16 b4) (P : PW G A s H locs S0 S) (hl : lv_has ls 5 [(0, .ref b1), (1, .int x2), (2, .int x3), (3, .ref b4)]) (hcc : cells + 1 ≤ 1) (hss : slots + 6 ≤ 6) (hw : wL_terrain_0 Q QX S b1 x2 x3 b4) : W p l e rmL_terrain s m args below meth c H locs cells slots (vx_MQ below (QI G S0 A Q) (XX G S0 A QX) args s 1 6 A) (F0 m 0 ls []) := by
  have hx := CF_x C
  have hb := CF_b C
  unfold wL_terrain_0 at hw
  refine lv_aload_n hx hb dL_terrain_0 rfl (lv_at hl 3 rfl) ?_
  refine lv_iconst (v := 0) hx hb dL_terrain_1 (by decide) ?_
  refine lv_aload_n hx hb dL_terrain_2 rfl (lv_at hl 0 rfl) ?_
  refine lv_iload_n hx hb dL_terrain_3 rfl (lv_at hl 1 rfl) ?_
  refine lv_iload_n hx hb dL_terrain_4 rfl (lv_at hl 2 rfl) ?_
  refine cl_i C P (run_V C P hl.1 (kd := 8) (met_X8_terrain (CF_n C) G H.size _ _ S b1 x2 x3 p_b1 hw) p_b1 (by decide) rfl q_684 q_685 q_686 q_1 q_687 cd_X8_terrain ⟨(Nat.le_of_ble_eq_true rfl), (Nat.le_of_ble_eq_true rfl)⟩ rfl rfl (As := [.int x2, .int x3]) (rest := [.int 0, .ref b4]) rfl rfl (Nat.le_of_ble_eq_true rfl) dL_terrain_5 ⟨by show cells + 1 ≤ 1; omega, by show slots + 6 ≤ 6; omega⟩) ?_ (fun r2 S1 H locs P hE hw => ?_)
  · intro E S9 H locs ce9 q9 P hE hq h1 h2 h3
    obtain ⟨rfl, hw⟩ := hq
    refine vx_catch (name := "java/lang/IndexOutOfBoundsException") (CF_o C) ([] : List ExceptionTableEntry) (⟨0, 10, 13, 33⟩ : ExceptionTableEntry) ([] : List ExceptionTableEntry) (htab.trans rfl) (fun z hz => by cases hz) (by decide) (by decide) (CF_t C _ q_660) (CF_y C (by decide +kernel)) h1 h2 h3 ?_
    have p_b1 : pI S9 8 b1 := pI_x hE p_b1
    have p_b4 : pI S9 16 b4 := pI_x hE p_b4
    refine lv_astore (lv' := [(4, .ref q9), (0, .ref b1), (1, .int x2), (2, .int x3), (3, .ref b4)]) hx hb dL_terrain_13 hl (by decide) rfl (fun ls hl => ?_)
    refine lv_iconst (v := 1) hx hb dL_terrain_15 (by decide) ?_
    exact e_i C hr rfl P hw (by omega) (by omega) dL_terrain_16
  have p_b1 : pI S1 8 b1 := pI_x hE p_b1
  have p_b4 : pI S1 16 b4 := pI_x hE p_b4
  refine lv_i2l (v := (r2 : Int32).toInt64) hx hb dL_terrain_8 rfl ?_
  obtain ⟨h1, hw⟩ := hw
  refine rs_j C P p_b4 h1 dL_terrain_9 (fun H locs P => ?_)
  obtain ⟨S3, hS⟩ : ∃ z, z = (sJ S1 b4 (0 : Int32).toNatClampNeg ((r2 : Int32).toInt64)) := ⟨_, rfl⟩
  have P : PW G A s H locs S0 S3 := by rw [hS]; exact P
  have p_b4 : pI S3 16 b4 := by rw [hS]; exact pI_x ext_sJ p_b4
  have hw := hw S3 hS
  refine lv_goto (tgt := 17) hx hb dL_terrain_10 (by decide) ?_
  refine lv_iconst (v := 0) hx hb dL_terrain_17 (by decide) ?_
  exact e_i C hr rfl P hw (by omega) (by omega) dL_terrain_18
def wp_L_terrain (Q : Int32 → MS → Prop) (QX : String → MS → Prop) (S : MS) (b1 : Nat) (x2 : Int32) (x3 : Int32) (b4 : Nat) : Prop := wL_terrain_0 Q QX S b1 x2 x3 b4
set_option maxHeartbeats 4000000 in
set_option maxRecDepth 100000 in
theorem met_L_terrain {l : Launch} (hst : l.stackTraces = false) (G : GP) (sz : Nat) (Q : Int32 → MS → Prop) (QX : String → MS → Prop) (S : MS) (b1 : Nat) (x2 : Int32) (x3 : Int32) (b4 : Nat) (p_b1 : pI S 8 b1) (p_b4 : pI S 16 b4) (hw : wp_L_terrain Q QX S b1 x2 x3 b4) : vx_Met l yL_terrain (.codeWith yL_terrain cL_terrain 5 (some .int) [(0, 10, 13, 33)] :: GW) rmL_terrain (va_Pc [.ref b1, .int x2, .int x3, .ref b4] (PR G S sz)) (QI G S (FA G S sz) Q) (XX G S (FA G S sz) QX) 1 6 (FA G S sz) := by
  refine st_w (by decide +kernel) hst (fun p e s m below meth c C hr htab P => ?_)
  refine en_m (Nat.le_of_ble_eq_true rfl) (lv := [(0, .ref b1), (1, .int x2), (2, .int x3), (3, .ref b4)]) rfl (fun ls hl => ?_)
  have C : CF p l s m _ meth c "SkirmishGridLaw" cL_terrain 5 G (FA G S sz) := C
  exact tL_terrain_0 C hr htab Q QX S b1 x2 x3 b4 p_b1 p_b4 P hl (by omega) (by omega) hw
theorem cd_L_terrain : yL_terrain.cls = RL ∧ yL_terrain.cls ≠ "java/lang/invoke/MethodHandle" ∧ yL_terrain.cls ≠ "java/lang/invoke/VarHandle" ∧ (parseMethodDescriptor yL_terrain.desc).map (fun d => d.parameters.length) = some 4 := by decide +kernel
abbrev rmL_isSeen : Room := { frames := 8, cells := 2, slots := 12, locals := 153 }
def wL_isSeen_0 (Q : Int32 → MS → Prop) (QX : String → MS → Prop) (S : MS) (b1 : Nat) (x2 : Int32) (x3 : Int32) (b4 : Nat) : Prop := wp_X8_isSeen (fun r2 S1 => ((r2 = 0 → (vp_in 0 (mN S1 b4) ∧ (∀ S3, S3 = (sJ S1 b4 (0 : Int32).toNatClampNeg 0) → Q 0 S3))) ∧ (¬ r2 = 0 → (vp_in 0 (mN S1 b4) ∧ (∀ S4, S4 = (sJ S1 b4 (0 : Int32).toNatClampNeg 1) → Q 0 S4))))) (fun E S9 => (E = "java/lang/IndexOutOfBoundsException" ∧ Q 1 S9)) S b1 x2 x3
set_option maxHeartbeats 4000000 in
set_option maxRecDepth 100000 in
theorem tL_isSeen_0 {p : Program} {l : Launch} {e : Env} {s : State} {m : MethodId} {args : Array Value} {below : List Frame} {meth : Method} {c : Code} {H : Heap} {locs : List Loc} {cells slots : Nat} {G : GP} {A : Nat → Prop} {S0 : MS} {ls : Array Slot} (C : CF p l s m args meth c "SkirmishGridLaw" cL_isSeen 5 G A) (hr : meth.sig.returnType = (some .int)) (htab : c.exceptionTable.toList = tableOf [(0, 17, 20, 33)]) (Q : Int32 → MS → Prop) (QX : String → MS → Prop) (S : MS) (b1 : Nat) (x2 : Int32) (x3 : Int32) (b4 : Nat) (p_b1 : pI S 8 b1) (p_b4 : pI S 16 b4) (P : PW G A s H locs S0 S) (hl : lv_has ls 5 [(0, .ref b1), (1, .int x2), (2, .int x3), (3, .ref b4)]) (hcc : cells + 2 ≤ 2) (hss : slots + 12 ≤ 12) (hw : wL_isSeen_0 Q QX S b1 x2 x3 b4) : W p l e rmL_isSeen s m args below meth c H locs cells slots (vx_MQ below (QI G S0 A Q) (XX G S0 A QX) args s 2 12 A) (F0 m 0 ls []) := by
  have hx := CF_x C
  have hb := CF_b C
  unfold wL_isSeen_0 at hw
  refine lv_aload_n hx hb dL_isSeen_0 rfl (lv_at hl 3 rfl) ?_
  refine lv_iconst (v := 0) hx hb dL_isSeen_1 (by decide) ?_
  refine lv_aload_n hx hb dL_isSeen_2 rfl (lv_at hl 0 rfl) ?_
  refine lv_iload_n hx hb dL_isSeen_3 rfl (lv_at hl 1 rfl) ?_
  refine lv_iload_n hx hb dL_isSeen_4 rfl (lv_at hl 2 rfl) ?_
  refine cl_i C P (run_V C P hl.1 (kd := 8) (met_X8_isSeen (CF_n C) G H.size _ _ S b1 x2 x3 p_b1 hw) p_b1 (by decide) rfl q_729 q_730 q_731 q_1 q_732 cd_X8_isSeen ⟨(Nat.le_of_ble_eq_true rfl), (Nat.le_of_ble_eq_true rfl)⟩ rfl rfl (As := [.int x2, .int x3]) (rest := [.int 0, .ref b4]) rfl rfl (Nat.le_of_ble_eq_true rfl) dL_isSeen_5 ⟨by show cells + 2 ≤ 2; omega, by show slots + 12 ≤ 12; omega⟩) ?_ (fun r2 S1 H locs P hE hw => ?_)
  · intro E S9 H locs ce9 q9 P hE hq h1 h2 h3
    obtain ⟨rfl, hw⟩ := hq
    refine vx_catch (name := "java/lang/IndexOutOfBoundsException") (CF_o C) ([] : List ExceptionTableEntry) (⟨0, 17, 20, 33⟩ : ExceptionTableEntry) ([] : List ExceptionTableEntry) (htab.trans rfl) (fun z hz => by cases hz) (by decide) (by decide) (CF_t C _ q_660) (CF_y C (by decide +kernel)) h1 h2 h3 ?_
    have p_b1 : pI S9 8 b1 := pI_x hE p_b1
    have p_b4 : pI S9 16 b4 := pI_x hE p_b4
    refine lv_astore (lv' := [(4, .ref q9), (0, .ref b1), (1, .int x2), (2, .int x3), (3, .ref b4)]) hx hb dL_isSeen_20 hl (by decide) rfl (fun ls hl => ?_)
    refine lv_iconst (v := 1) hx hb dL_isSeen_22 (by decide) ?_
    exact e_i C hr rfl P hw (by omega) (by omega) dL_isSeen_23
  have p_b1 : pI S1 8 b1 := pI_x hE p_b1
  have p_b4 : pI S1 16 b4 := pI_x hE p_b4
  refine lv_if_eq (tgt := 15) hx hb dL_isSeen_8 (by decide) (fun hc => ?_) (fun hc => ?_)
  · have hw := hw.1 hc
    refine lv_lconst (v := 0) hx hb dL_isSeen_15 (by decide) ?_
    obtain ⟨h1, hw⟩ := hw
    refine rs_j C P p_b4 h1 dL_isSeen_16 (fun H locs P => ?_)
    obtain ⟨S3, hS⟩ : ∃ z, z = (sJ S1 b4 (0 : Int32).toNatClampNeg 0) := ⟨_, rfl⟩
    have P : PW G A s H locs S0 S3 := by rw [hS]; exact P
    have p_b4 : pI S3 16 b4 := by rw [hS]; exact pI_x ext_sJ p_b4
    have hw := hw S3 hS
    refine lv_goto (tgt := 24) hx hb dL_isSeen_17 (by decide) ?_
    refine lv_iconst (v := 0) hx hb dL_isSeen_24 (by decide) ?_
    exact e_i C hr rfl P hw (by omega) (by omega) dL_isSeen_25
  · have hw := hw.2 hc
    refine lv_lconst (v := 1) hx hb dL_isSeen_11 (by decide) ?_
    refine lv_goto (tgt := 16) hx hb dL_isSeen_12 (by decide) ?_
    obtain ⟨h1, hw⟩ := hw
    refine rs_j C P p_b4 h1 dL_isSeen_16 (fun H locs P => ?_)
    obtain ⟨S4, hS⟩ : ∃ z, z = (sJ S1 b4 (0 : Int32).toNatClampNeg 1) := ⟨_, rfl⟩
    have P : PW G A s H locs S0 S4 := by rw [hS]; exact P
    have p_b4 : pI S4 16 b4 := by rw [hS]; exact pI_x ext_sJ p_b4
    have hw := hw S4 hS
    refine lv_goto (tgt := 24) hx hb dL_isSeen_17 (by decide) ?_
    refine lv_iconst (v := 0) hx hb dL_isSeen_24 (by decide) ?_
    exact e_i C hr rfl P hw (by omega) (by omega) dL_isSeen_25
def wp_L_isSeen (Q : Int32 → MS → Prop) (QX : String → MS → Prop) (S : MS) (b1 : Nat) (x2 : Int32) (x3 : Int32) (b4 : Nat) : Prop := wL_isSeen_0 Q QX S b1 x2 x3 b4
set_option maxHeartbeats 4000000 in
set_option maxRecDepth 100000 in
theorem met_L_isSeen {l : Launch} (hst : l.stackTraces = false) (G : GP) (sz : Nat) (Q : Int32 → MS → Prop) (QX : String → MS → Prop) (S : MS) (b1 : Nat) (x2 : Int32) (x3 : Int32) (b4 : Nat) (p_b1 : pI S 8 b1) (p_b4 : pI S 16 b4) (hw : wp_L_isSeen Q QX S b1 x2 x3 b4) : vx_Met l yL_isSeen (.codeWith yL_isSeen cL_isSeen 5 (some .int) [(0, 17, 20, 33)] :: GW) rmL_isSeen (va_Pc [.ref b1, .int x2, .int x3, .ref b4] (PR G S sz)) (QI G S (FA G S sz) Q) (XX G S (FA G S sz) QX) 2 12 (FA G S sz) := by
  refine st_w (by decide +kernel) hst (fun p e s m below meth c C hr htab P => ?_)
  refine en_m (Nat.le_of_ble_eq_true rfl) (lv := [(0, .ref b1), (1, .int x2), (2, .int x3), (3, .ref b4)]) rfl (fun ls hl => ?_)
  have C : CF p l s m _ meth c "SkirmishGridLaw" cL_isSeen 5 G (FA G S sz) := C
  exact tL_isSeen_0 C hr htab Q QX S b1 x2 x3 b4 p_b1 p_b4 P hl (by omega) (by omega) hw
theorem cd_L_isSeen : yL_isSeen.cls = RL ∧ yL_isSeen.cls ≠ "java/lang/invoke/MethodHandle" ∧ yL_isSeen.cls ≠ "java/lang/invoke/VarHandle" ∧ (parseMethodDescriptor yL_isSeen.desc).map (fun d => d.parameters.length) = some 4 := by decide +kernel
abbrev rmL_cover : Room := { frames := 8, cells := 2, slots := 12, locals := 153 }
def wL_cover_0 (Q : Int32 → MS → Prop) (QX : String → MS → Prop) (S : MS) (b1 : Nat) (x2 : Int32) (x3 : Int32) (b4 : Nat) : Prop := wp_X8_cover (fun r2 S1 => (vp_in 0 (mN S1 b4) ∧ (∀ S3, S3 = (sJ S1 b4 (0 : Int32).toNatClampNeg ((r2 : Int32).toInt64)) → Q 0 S3))) (fun E S9 => (E = "java/lang/IndexOutOfBoundsException" ∧ Q 1 S9)) S b1 x2 x3
set_option maxHeartbeats 4000000 in
set_option maxRecDepth 100000 in
theorem tL_cover_0 {p : Program} {l : Launch} {e : Env} {s : State} {m : MethodId} {args : Array Value} {below : List Frame} {meth : Method} {c : Code} {H : Heap} {locs : List Loc} {cells slots : Nat} {G : GP} {A : Nat → Prop} {S0 : MS} {ls : Array Slot} (C : CF p l s m args meth c "SkirmishGridLaw" cL_cover 5 G A) (hr : meth.sig.returnType = (some .int)) (htab : c.exceptionTable.toList = tableOf [(0, 10, 13, 33)]) (Q : Int32 → MS → Prop) (QX : String → MS → Prop) (S : MS) (b1 : Nat) (x2 : Int32) (x3 : Int32) (b4 : Nat) (p_b1 : pI S 8 b1) (p_b4 : pI S 16 b4) (P : PW G A s H locs S0 S) (hl : lv_has ls 5 [(0, .ref b1), (1, .int x2), (2, .int x3), (3, .ref b4)]) (hcc : cells + 2 ≤ 2) (hss : slots + 12 ≤ 12) (hw : wL_cover_0 Q QX S b1 x2 x3 b4) : W p l e rmL_cover s m args below meth c H locs cells slots (vx_MQ below (QI G S0 A Q) (XX G S0 A QX) args s 2 12 A) (F0 m 0 ls []) := by
  have hx := CF_x C
  have hb := CF_b C
  unfold wL_cover_0 at hw
  refine lv_aload_n hx hb dL_cover_0 rfl (lv_at hl 3 rfl) ?_
  refine lv_iconst (v := 0) hx hb dL_cover_1 (by decide) ?_
  refine lv_aload_n hx hb dL_cover_2 rfl (lv_at hl 0 rfl) ?_
  refine lv_iload_n hx hb dL_cover_3 rfl (lv_at hl 1 rfl) ?_
  refine lv_iload_n hx hb dL_cover_4 rfl (lv_at hl 2 rfl) ?_
  refine cl_i C P (run_V C P hl.1 (kd := 8) (met_X8_cover (CF_n C) G H.size _ _ S b1 x2 x3 p_b1 hw) p_b1 (by decide) rfl q_764 q_765 q_766 q_1 q_767 cd_X8_cover ⟨(Nat.le_of_ble_eq_true rfl), (Nat.le_of_ble_eq_true rfl)⟩ rfl rfl (As := [.int x2, .int x3]) (rest := [.int 0, .ref b4]) rfl rfl (Nat.le_of_ble_eq_true rfl) dL_cover_5 ⟨by show cells + 2 ≤ 2; omega, by show slots + 12 ≤ 12; omega⟩) ?_ (fun r2 S1 H locs P hE hw => ?_)
  · intro E S9 H locs ce9 q9 P hE hq h1 h2 h3
    obtain ⟨rfl, hw⟩ := hq
    refine vx_catch (name := "java/lang/IndexOutOfBoundsException") (CF_o C) ([] : List ExceptionTableEntry) (⟨0, 10, 13, 33⟩ : ExceptionTableEntry) ([] : List ExceptionTableEntry) (htab.trans rfl) (fun z hz => by cases hz) (by decide) (by decide) (CF_t C _ q_660) (CF_y C (by decide +kernel)) h1 h2 h3 ?_
    have p_b1 : pI S9 8 b1 := pI_x hE p_b1
    have p_b4 : pI S9 16 b4 := pI_x hE p_b4
    refine lv_astore (lv' := [(4, .ref q9), (0, .ref b1), (1, .int x2), (2, .int x3), (3, .ref b4)]) hx hb dL_cover_13 hl (by decide) rfl (fun ls hl => ?_)
    refine lv_iconst (v := 1) hx hb dL_cover_15 (by decide) ?_
    exact e_i C hr rfl P hw (by omega) (by omega) dL_cover_16
  have p_b1 : pI S1 8 b1 := pI_x hE p_b1
  have p_b4 : pI S1 16 b4 := pI_x hE p_b4
  refine lv_i2l (v := (r2 : Int32).toInt64) hx hb dL_cover_8 rfl ?_
  obtain ⟨h1, hw⟩ := hw
  refine rs_j C P p_b4 h1 dL_cover_9 (fun H locs P => ?_)
  obtain ⟨S3, hS⟩ : ∃ z, z = (sJ S1 b4 (0 : Int32).toNatClampNeg ((r2 : Int32).toInt64)) := ⟨_, rfl⟩
  have P : PW G A s H locs S0 S3 := by rw [hS]; exact P
  have p_b4 : pI S3 16 b4 := by rw [hS]; exact pI_x ext_sJ p_b4
  have hw := hw S3 hS
  refine lv_goto (tgt := 17) hx hb dL_cover_10 (by decide) ?_
  refine lv_iconst (v := 0) hx hb dL_cover_17 (by decide) ?_
  exact e_i C hr rfl P hw (by omega) (by omega) dL_cover_18
def wp_L_cover (Q : Int32 → MS → Prop) (QX : String → MS → Prop) (S : MS) (b1 : Nat) (x2 : Int32) (x3 : Int32) (b4 : Nat) : Prop := wL_cover_0 Q QX S b1 x2 x3 b4
set_option maxHeartbeats 4000000 in
set_option maxRecDepth 100000 in
theorem met_L_cover {l : Launch} (hst : l.stackTraces = false) (G : GP) (sz : Nat) (Q : Int32 → MS → Prop) (QX : String → MS → Prop) (S : MS) (b1 : Nat) (x2 : Int32) (x3 : Int32) (b4 : Nat) (p_b1 : pI S 8 b1) (p_b4 : pI S 16 b4) (hw : wp_L_cover Q QX S b1 x2 x3 b4) : vx_Met l yL_cover (.codeWith yL_cover cL_cover 5 (some .int) [(0, 10, 13, 33)] :: GW) rmL_cover (va_Pc [.ref b1, .int x2, .int x3, .ref b4] (PR G S sz)) (QI G S (FA G S sz) Q) (XX G S (FA G S sz) QX) 2 12 (FA G S sz) := by
  refine st_w (by decide +kernel) hst (fun p e s m below meth c C hr htab P => ?_)
  refine en_m (Nat.le_of_ble_eq_true rfl) (lv := [(0, .ref b1), (1, .int x2), (2, .int x3), (3, .ref b4)]) rfl (fun ls hl => ?_)
  have C : CF p l s m _ meth c "SkirmishGridLaw" cL_cover 5 G (FA G S sz) := C
  exact tL_cover_0 C hr htab Q QX S b1 x2 x3 b4 p_b1 p_b4 P hl (by omega) (by omega) hw
theorem cd_L_cover : yL_cover.cls = RL ∧ yL_cover.cls ≠ "java/lang/invoke/MethodHandle" ∧ yL_cover.cls ≠ "java/lang/invoke/VarHandle" ∧ (parseMethodDescriptor yL_cover.desc).map (fun d => d.parameters.length) = some 4 := by decide +kernel
abbrev rmL_addUnit : Room := { frames := 8, cells := 3, slots := 18, locals := 154 }
def wL_addUnit_0 (Q : Int32 → MS → Prop) (QX : String → MS → Prop) (S : MS) (b1 : Nat) (x2 : Int32) (x3 : Int32) (x4 : Int32) (b5 : Nat) : Prop := wp_X8_addUnit (fun r2 S1 => (vp_in 0 (mN S1 b5) ∧ (∀ S3, S3 = (sJ S1 b5 (0 : Int32).toNatClampNeg ((r2 : Int32).toInt64)) → Q 0 S3))) (fun E S9 => (E = "java/lang/IndexOutOfBoundsException" ∧ Q 1 S9) ∨ (E = "java/lang/IllegalArgumentException" ∧ Q 2 S9) ∨ (E = "java/lang/IllegalStateException" ∧ Q 3 S9)) S b1 x2 x3 x4
set_option maxHeartbeats 4000000 in
set_option maxRecDepth 100000 in
theorem tL_addUnit_0 {p : Program} {l : Launch} {e : Env} {s : State} {m : MethodId} {args : Array Value} {below : List Frame} {meth : Method} {c : Code} {H : Heap} {locs : List Loc} {cells slots : Nat} {G : GP} {A : Nat → Prop} {S0 : MS} {ls : Array Slot} (C : CF p l s m args meth c "SkirmishGridLaw" cL_addUnit 6 G A) (hr : meth.sig.returnType = (some .int)) (htab : c.exceptionTable.toList = tableOf [(0, 12, 15, 33), (0, 12, 19, 13), (0, 12, 23, 15)]) (Q : Int32 → MS → Prop) (QX : String → MS → Prop) (S : MS) (b1 : Nat) (x2 : Int32) (x3 : Int32) (x4 : Int32) (b5 : Nat) (p_b1 : pI S 8 b1) (p_b5 : pI S 16 b5) (P : PW G A s H locs S0 S) (hl : lv_has ls 6 [(0, .ref b1), (1, .int x2), (2, .int x3), (3, .int x4), (4, .ref b5)]) (hcc : cells + 3 ≤ 3) (hss : slots + 18 ≤ 18) (hw : wL_addUnit_0 Q QX S b1 x2 x3 x4 b5) : W p l e rmL_addUnit s m args below meth c H locs cells slots (vx_MQ below (QI G S0 A Q) (XX G S0 A QX) args s 3 18 A) (F0 m 0 ls []) := by
  have hx := CF_x C
  have hb := CF_b C
  unfold wL_addUnit_0 at hw
  refine lv_aload hx hb dL_addUnit_0 (lv_at hl 4 rfl) ?_
  refine lv_iconst (v := 0) hx hb dL_addUnit_2 (by decide) ?_
  refine lv_aload_n hx hb dL_addUnit_3 rfl (lv_at hl 0 rfl) ?_
  refine lv_iload_n hx hb dL_addUnit_4 rfl (lv_at hl 1 rfl) ?_
  refine lv_iload_n hx hb dL_addUnit_5 rfl (lv_at hl 2 rfl) ?_
  refine lv_iload_n hx hb dL_addUnit_6 rfl (lv_at hl 3 rfl) ?_
  refine cl_i C P (run_V C P hl.1 (kd := 8) (met_X8_addUnit (CF_n C) G H.size _ _ S b1 x2 x3 x4 p_b1 hw) p_b1 (by decide) rfl q_776 q_777 q_778 q_1 q_779 cd_X8_addUnit ⟨(Nat.le_of_ble_eq_true rfl), (Nat.le_of_ble_eq_true rfl)⟩ rfl rfl (As := [.int x2, .int x3, .int x4]) (rest := [.int 0, .ref b5]) rfl rfl (Nat.le_of_ble_eq_true rfl) dL_addUnit_7 ⟨by show cells + 3 ≤ 3; omega, by show slots + 18 ≤ 18; omega⟩) ?_ (fun r2 S1 H locs P hE hw => ?_)
  · intro E S9 H locs ce9 q9 P hE hq h1 h2 h3
    rcases hq with ⟨rfl, hw⟩ | ⟨rfl, hw⟩ | ⟨rfl, hw⟩
    · refine vx_catch (name := "java/lang/IndexOutOfBoundsException") (CF_o C) ([] : List ExceptionTableEntry) (⟨0, 12, 15, 33⟩ : ExceptionTableEntry) ([⟨0, 12, 19, 13⟩, ⟨0, 12, 23, 15⟩] : List ExceptionTableEntry) (htab.trans rfl) (fun z hz => by cases hz) (by decide) (by decide) (CF_t C _ q_660) (CF_y C (by decide +kernel)) h1 h2 h3 ?_
      have p_b1 : pI S9 8 b1 := pI_x hE p_b1
      have p_b5 : pI S9 16 b5 := pI_x hE p_b5
      refine lv_astore (lv' := [(5, .ref q9), (0, .ref b1), (1, .int x2), (2, .int x3), (3, .int x4), (4, .ref b5)]) hx hb dL_addUnit_15 hl (by decide) rfl (fun ls hl => ?_)
      refine lv_iconst (v := 1) hx hb dL_addUnit_17 (by decide) ?_
      exact e_i C hr rfl P hw (by omega) (by omega) dL_addUnit_18
    · refine vx_catch (name := "java/lang/IllegalArgumentException") (CF_o C) ([⟨0, 12, 15, 33⟩] : List ExceptionTableEntry) (⟨0, 12, 19, 13⟩ : ExceptionTableEntry) ([⟨0, 12, 23, 15⟩] : List ExceptionTableEntry) (htab.trans rfl) (by intro z hz; simp only [List.mem_cons, List.not_mem_nil, or_false] at hz; rcases hz with rfl <;> first | exact Or.inr ⟨by decide, "java/lang/IndexOutOfBoundsException", CF_t C _ q_660, CF_c C (by decide +kernel) (by decide +kernel) (by decide +kernel)⟩) (by decide) (by decide) (CF_t C _ q_404) (CF_y C (by decide +kernel)) h1 h2 h3 ?_
      have p_b1 : pI S9 8 b1 := pI_x hE p_b1
      have p_b5 : pI S9 16 b5 := pI_x hE p_b5
      refine lv_astore (lv' := [(5, .ref q9), (0, .ref b1), (1, .int x2), (2, .int x3), (3, .int x4), (4, .ref b5)]) hx hb dL_addUnit_19 hl (by decide) rfl (fun ls hl => ?_)
      refine lv_iconst (v := 2) hx hb dL_addUnit_21 (by decide) ?_
      exact e_i C hr rfl P hw (by omega) (by omega) dL_addUnit_22
    · refine vx_catch (name := "java/lang/IllegalStateException") (CF_o C) ([⟨0, 12, 15, 33⟩, ⟨0, 12, 19, 13⟩] : List ExceptionTableEntry) (⟨0, 12, 23, 15⟩ : ExceptionTableEntry) ([] : List ExceptionTableEntry) (htab.trans rfl) (by intro z hz; simp only [List.mem_cons, List.not_mem_nil, or_false] at hz; rcases hz with rfl | rfl <;> first | exact Or.inr ⟨by decide, "java/lang/IndexOutOfBoundsException", CF_t C _ q_660, CF_c C (by decide +kernel) (by decide +kernel) (by decide +kernel)⟩ | exact Or.inr ⟨by decide, "java/lang/IllegalArgumentException", CF_t C _ q_404, CF_c C (by decide +kernel) (by decide +kernel) (by decide +kernel)⟩) (by decide) (by decide) (CF_t C _ q_405) (CF_y C (by decide +kernel)) h1 h2 h3 ?_
      have p_b1 : pI S9 8 b1 := pI_x hE p_b1
      have p_b5 : pI S9 16 b5 := pI_x hE p_b5
      refine lv_astore (lv' := [(5, .ref q9), (0, .ref b1), (1, .int x2), (2, .int x3), (3, .int x4), (4, .ref b5)]) hx hb dL_addUnit_23 hl (by decide) rfl (fun ls hl => ?_)
      refine lv_iconst (v := 3) hx hb dL_addUnit_25 (by decide) ?_
      exact e_i C hr rfl P hw (by omega) (by omega) dL_addUnit_26
  have p_b1 : pI S1 8 b1 := pI_x hE p_b1
  have p_b5 : pI S1 16 b5 := pI_x hE p_b5
  refine lv_i2l (v := (r2 : Int32).toInt64) hx hb dL_addUnit_10 rfl ?_
  obtain ⟨h1, hw⟩ := hw
  refine rs_j C P p_b5 h1 dL_addUnit_11 (fun H locs P => ?_)
  obtain ⟨S3, hS⟩ : ∃ z, z = (sJ S1 b5 (0 : Int32).toNatClampNeg ((r2 : Int32).toInt64)) := ⟨_, rfl⟩
  have P : PW G A s H locs S0 S3 := by rw [hS]; exact P
  have p_b5 : pI S3 16 b5 := by rw [hS]; exact pI_x ext_sJ p_b5
  have hw := hw S3 hS
  refine lv_goto (tgt := 27) hx hb dL_addUnit_12 (by decide) ?_
  refine lv_iconst (v := 0) hx hb dL_addUnit_27 (by decide) ?_
  exact e_i C hr rfl P hw (by omega) (by omega) dL_addUnit_28
def wp_L_addUnit (Q : Int32 → MS → Prop) (QX : String → MS → Prop) (S : MS) (b1 : Nat) (x2 : Int32) (x3 : Int32) (x4 : Int32) (b5 : Nat) : Prop := wL_addUnit_0 Q QX S b1 x2 x3 x4 b5
set_option maxHeartbeats 4000000 in
set_option maxRecDepth 100000 in
theorem met_L_addUnit {l : Launch} (hst : l.stackTraces = false) (G : GP) (sz : Nat) (Q : Int32 → MS → Prop) (QX : String → MS → Prop) (S : MS) (b1 : Nat) (x2 : Int32) (x3 : Int32) (x4 : Int32) (b5 : Nat) (p_b1 : pI S 8 b1) (p_b5 : pI S 16 b5) (hw : wp_L_addUnit Q QX S b1 x2 x3 x4 b5) : vx_Met l yL_addUnit (.codeWith yL_addUnit cL_addUnit 6 (some .int) [(0, 12, 15, 33), (0, 12, 19, 13), (0, 12, 23, 15)] :: GW) rmL_addUnit (va_Pc [.ref b1, .int x2, .int x3, .int x4, .ref b5] (PR G S sz)) (QI G S (FA G S sz) Q) (XX G S (FA G S sz) QX) 3 18 (FA G S sz) := by
  refine st_w (by decide +kernel) hst (fun p e s m below meth c C hr htab P => ?_)
  refine en_m (Nat.le_of_ble_eq_true rfl) (lv := [(0, .ref b1), (1, .int x2), (2, .int x3), (3, .int x4), (4, .ref b5)]) rfl (fun ls hl => ?_)
  have C : CF p l s m _ meth c "SkirmishGridLaw" cL_addUnit 6 G (FA G S sz) := C
  exact tL_addUnit_0 C hr htab Q QX S b1 x2 x3 x4 b5 p_b1 p_b5 P hl (by omega) (by omega) hw
theorem cd_L_addUnit : yL_addUnit.cls = RL ∧ yL_addUnit.cls ≠ "java/lang/invoke/MethodHandle" ∧ yL_addUnit.cls ≠ "java/lang/invoke/VarHandle" ∧ (parseMethodDescriptor yL_addUnit.desc).map (fun d => d.parameters.length) = some 5 := by decide +kernel
abbrev rmL_unit : Room := { frames := 8, cells := 2, slots := 12, locals := 155 }
def wL_unit_0 (Q : Int32 → MS → Prop) (QX : String → MS → Prop) (S : MS) (b1 : Nat) (x2 : Int32) (x3 : Int32) (b4 : Nat) : Prop := wp_X8_unit (fun r2 S1 => (vp_in 0 (mN S1 b4) ∧ (∀ S3, S3 = (sJ S1 b4 (0 : Int32).toNatClampNeg ((r2 : Int32).toInt64)) → Q 0 S3))) (fun E S9 => (E = "java/lang/IndexOutOfBoundsException" ∧ Q 1 S9) ∨ (E = "java/lang/IllegalArgumentException" ∧ Q 2 S9)) S b1 x2 x3
set_option maxHeartbeats 4000000 in
set_option maxRecDepth 100000 in
theorem tL_unit_0 {p : Program} {l : Launch} {e : Env} {s : State} {m : MethodId} {args : Array Value} {below : List Frame} {meth : Method} {c : Code} {H : Heap} {locs : List Loc} {cells slots : Nat} {G : GP} {A : Nat → Prop} {S0 : MS} {ls : Array Slot} (C : CF p l s m args meth c "SkirmishGridLaw" cL_unit 5 G A) (hr : meth.sig.returnType = (some .int)) (htab : c.exceptionTable.toList = tableOf [(0, 10, 13, 33), (0, 10, 17, 13)]) (Q : Int32 → MS → Prop) (QX : String → MS → Prop) (S : MS) (b1 : Nat) (x2 : Int32) (x3 : Int32) (b4 : Nat) (p_b1 : pI S 8 b1) (p_b4 : pI S 16 b4) (P : PW G A s H locs S0 S) (hl : lv_has ls 5 [(0, .ref b1), (1, .int x2), (2, .int x3), (3, .ref b4)]) (hcc : cells + 2 ≤ 2) (hss : slots + 12 ≤ 12) (hw : wL_unit_0 Q QX S b1 x2 x3 b4) : W p l e rmL_unit s m args below meth c H locs cells slots (vx_MQ below (QI G S0 A Q) (XX G S0 A QX) args s 2 12 A) (F0 m 0 ls []) := by
  have hx := CF_x C
  have hb := CF_b C
  unfold wL_unit_0 at hw
  refine lv_aload_n hx hb dL_unit_0 rfl (lv_at hl 3 rfl) ?_
  refine lv_iconst (v := 0) hx hb dL_unit_1 (by decide) ?_
  refine lv_aload_n hx hb dL_unit_2 rfl (lv_at hl 0 rfl) ?_
  refine lv_iload_n hx hb dL_unit_3 rfl (lv_at hl 1 rfl) ?_
  refine lv_iload_n hx hb dL_unit_4 rfl (lv_at hl 2 rfl) ?_
  refine cl_i C P (run_V C P hl.1 (kd := 8) (met_X8_unit (CF_n C) G H.size _ _ S b1 x2 x3 p_b1 hw) p_b1 (by decide) rfl q_808 q_809 q_810 q_1 q_811 cd_X8_unit ⟨(Nat.le_of_ble_eq_true rfl), (Nat.le_of_ble_eq_true rfl)⟩ rfl rfl (As := [.int x2, .int x3]) (rest := [.int 0, .ref b4]) rfl rfl (Nat.le_of_ble_eq_true rfl) dL_unit_5 ⟨by show cells + 2 ≤ 2; omega, by show slots + 12 ≤ 12; omega⟩) ?_ (fun r2 S1 H locs P hE hw => ?_)
  · intro E S9 H locs ce9 q9 P hE hq h1 h2 h3
    rcases hq with ⟨rfl, hw⟩ | ⟨rfl, hw⟩
    · refine vx_catch (name := "java/lang/IndexOutOfBoundsException") (CF_o C) ([] : List ExceptionTableEntry) (⟨0, 10, 13, 33⟩ : ExceptionTableEntry) ([⟨0, 10, 17, 13⟩] : List ExceptionTableEntry) (htab.trans rfl) (fun z hz => by cases hz) (by decide) (by decide) (CF_t C _ q_660) (CF_y C (by decide +kernel)) h1 h2 h3 ?_
      have p_b1 : pI S9 8 b1 := pI_x hE p_b1
      have p_b4 : pI S9 16 b4 := pI_x hE p_b4
      refine lv_astore (lv' := [(4, .ref q9), (0, .ref b1), (1, .int x2), (2, .int x3), (3, .ref b4)]) hx hb dL_unit_13 hl (by decide) rfl (fun ls hl => ?_)
      refine lv_iconst (v := 1) hx hb dL_unit_15 (by decide) ?_
      exact e_i C hr rfl P hw (by omega) (by omega) dL_unit_16
    · refine vx_catch (name := "java/lang/IllegalArgumentException") (CF_o C) ([⟨0, 10, 13, 33⟩] : List ExceptionTableEntry) (⟨0, 10, 17, 13⟩ : ExceptionTableEntry) ([] : List ExceptionTableEntry) (htab.trans rfl) (by intro z hz; simp only [List.mem_cons, List.not_mem_nil, or_false] at hz; rcases hz with rfl <;> first | exact Or.inr ⟨by decide, "java/lang/IndexOutOfBoundsException", CF_t C _ q_660, CF_c C (by decide +kernel) (by decide +kernel) (by decide +kernel)⟩) (by decide) (by decide) (CF_t C _ q_404) (CF_y C (by decide +kernel)) h1 h2 h3 ?_
      have p_b1 : pI S9 8 b1 := pI_x hE p_b1
      have p_b4 : pI S9 16 b4 := pI_x hE p_b4
      refine lv_astore (lv' := [(4, .ref q9), (0, .ref b1), (1, .int x2), (2, .int x3), (3, .ref b4)]) hx hb dL_unit_17 hl (by decide) rfl (fun ls hl => ?_)
      refine lv_iconst (v := 2) hx hb dL_unit_19 (by decide) ?_
      exact e_i C hr rfl P hw (by omega) (by omega) dL_unit_20
  have p_b1 : pI S1 8 b1 := pI_x hE p_b1
  have p_b4 : pI S1 16 b4 := pI_x hE p_b4
  refine lv_i2l (v := (r2 : Int32).toInt64) hx hb dL_unit_8 rfl ?_
  obtain ⟨h1, hw⟩ := hw
  refine rs_j C P p_b4 h1 dL_unit_9 (fun H locs P => ?_)
  obtain ⟨S3, hS⟩ : ∃ z, z = (sJ S1 b4 (0 : Int32).toNatClampNeg ((r2 : Int32).toInt64)) := ⟨_, rfl⟩
  have P : PW G A s H locs S0 S3 := by rw [hS]; exact P
  have p_b4 : pI S3 16 b4 := by rw [hS]; exact pI_x ext_sJ p_b4
  have hw := hw S3 hS
  refine lv_goto (tgt := 21) hx hb dL_unit_10 (by decide) ?_
  refine lv_iconst (v := 0) hx hb dL_unit_21 (by decide) ?_
  exact e_i C hr rfl P hw (by omega) (by omega) dL_unit_22
def wp_L_unit (Q : Int32 → MS → Prop) (QX : String → MS → Prop) (S : MS) (b1 : Nat) (x2 : Int32) (x3 : Int32) (b4 : Nat) : Prop := wL_unit_0 Q QX S b1 x2 x3 b4
set_option maxHeartbeats 4000000 in
set_option maxRecDepth 100000 in
theorem met_L_unit {l : Launch} (hst : l.stackTraces = false) (G : GP) (sz : Nat) (Q : Int32 → MS → Prop) (QX : String → MS → Prop) (S : MS) (b1 : Nat) (x2 : Int32) (x3 : Int32) (b4 : Nat) (p_b1 : pI S 8 b1) (p_b4 : pI S 16 b4) (hw : wp_L_unit Q QX S b1 x2 x3 b4) : vx_Met l yL_unit (.codeWith yL_unit cL_unit 5 (some .int) [(0, 10, 13, 33), (0, 10, 17, 13)] :: GW) rmL_unit (va_Pc [.ref b1, .int x2, .int x3, .ref b4] (PR G S sz)) (QI G S (FA G S sz) Q) (XX G S (FA G S sz) QX) 2 12 (FA G S sz) := by
  refine st_w (by decide +kernel) hst (fun p e s m below meth c C hr htab P => ?_)
  refine en_m (Nat.le_of_ble_eq_true rfl) (lv := [(0, .ref b1), (1, .int x2), (2, .int x3), (3, .ref b4)]) rfl (fun ls hl => ?_)
  have C : CF p l s m _ meth c "SkirmishGridLaw" cL_unit 5 G (FA G S sz) := C
  exact tL_unit_0 C hr htab Q QX S b1 x2 x3 b4 p_b1 p_b4 P hl (by omega) (by omega) hw
theorem cd_L_unit : yL_unit.cls = RL ∧ yL_unit.cls ≠ "java/lang/invoke/MethodHandle" ∧ yL_unit.cls ≠ "java/lang/invoke/VarHandle" ∧ (parseMethodDescriptor yL_unit.desc).map (fun d => d.parameters.length) = some 4 := by decide +kernel
abbrev rmL_begin : Room := { frames := 7, cells := 1, slots := 6, locals := 166 }
def wL_begin_0 (Q : Int32 → MS → Prop) (QX : String → MS → Prop) (S : MS) (b1 : Nat) (b2 : Nat) : Prop := wp_X8_begin (fun r2 S1 => (vp_in 0 (mN S1 b2) ∧ (∀ S3, S3 = (sJ S1 b2 (0 : Int32).toNatClampNeg ((r2 : Int32).toInt64)) → Q 0 S3))) (fun E S9 => (E = "java/lang/IllegalStateException" ∧ Q 1 S9)) S b1
set_option maxHeartbeats 4000000 in
set_option maxRecDepth 100000 in
theorem tL_begin_0 {p : Program} {l : Launch} {e : Env} {s : State} {m : MethodId} {args : Array Value} {below : List Frame} {meth : Method} {c : Code} {H : Heap} {locs : List Loc} {cells slots : Nat} {G : GP} {A : Nat → Prop} {S0 : MS} {ls : Array Slot} (C : CF p l s m args meth c "SkirmishGridLaw" cL_begin 3 G A) (hr : meth.sig.returnType = (some .int)) (htab : c.exceptionTable.toList = tableOf [(0, 8, 11, 15)]) (Q : Int32 → MS → Prop) (QX : String → MS → Prop) (S : MS) (b1 : Nat) (b2 : Nat) (p_b1 : pI S 8 b1) (p_b2 : pI S 16 b2) (P : PW G A s H locs S0 S) (hl : lv_has ls 3 [(0, .ref b1), (1, .ref b2)]) (hcc : cells + 1 ≤ 1) (hss : slots + 6 ≤ 6) (hw : wL_begin_0 Q QX S b1 b2) : W p l e rmL_begin s m args below meth c H locs cells slots (vx_MQ below (QI G S0 A Q) (XX G S0 A QX) args s 1 6 A) (F0 m 0 ls []) := by
  have hx := CF_x C
  have hb := CF_b C
  unfold wL_begin_0 at hw
  refine lv_aload_n hx hb dL_begin_0 rfl (lv_at hl 1 rfl) ?_
  refine lv_iconst (v := 0) hx hb dL_begin_1 (by decide) ?_
  refine lv_aload_n hx hb dL_begin_2 rfl (lv_at hl 0 rfl) ?_
  refine cl_i C P (run_V C P hl.1 (kd := 8) (met_X8_begin (CF_n C) G H.size _ _ S b1 p_b1 hw) p_b1 (by decide) rfl q_825 q_826 q_827 q_1 q_828 cd_X8_begin ⟨(Nat.le_of_ble_eq_true rfl), (Nat.le_of_ble_eq_true rfl)⟩ rfl rfl (As := []) (rest := [.int 0, .ref b2]) rfl rfl (Nat.le_of_ble_eq_true rfl) dL_begin_3 ⟨by show cells + 1 ≤ 1; omega, by show slots + 6 ≤ 6; omega⟩) ?_ (fun r2 S1 H locs P hE hw => ?_)
  · intro E S9 H locs ce9 q9 P hE hq h1 h2 h3
    obtain ⟨rfl, hw⟩ := hq
    refine vx_catch (name := "java/lang/IllegalStateException") (CF_o C) ([] : List ExceptionTableEntry) (⟨0, 8, 11, 15⟩ : ExceptionTableEntry) ([] : List ExceptionTableEntry) (htab.trans rfl) (fun z hz => by cases hz) (by decide) (by decide) (CF_t C _ q_405) (CF_y C (by decide +kernel)) h1 h2 h3 ?_
    have p_b1 : pI S9 8 b1 := pI_x hE p_b1
    have p_b2 : pI S9 16 b2 := pI_x hE p_b2
    refine lv_astore_n (lv' := [(2, .ref q9), (0, .ref b1), (1, .ref b2)]) hx hb dL_begin_11 rfl hl (by decide) rfl (fun ls hl => ?_)
    refine lv_iconst (v := 1) hx hb dL_begin_12 (by decide) ?_
    exact e_i C hr rfl P hw (by omega) (by omega) dL_begin_13
  have p_b1 : pI S1 8 b1 := pI_x hE p_b1
  have p_b2 : pI S1 16 b2 := pI_x hE p_b2
  refine lv_i2l (v := (r2 : Int32).toInt64) hx hb dL_begin_6 rfl ?_
  obtain ⟨h1, hw⟩ := hw
  refine rs_j C P p_b2 h1 dL_begin_7 (fun H locs P => ?_)
  obtain ⟨S3, hS⟩ : ∃ z, z = (sJ S1 b2 (0 : Int32).toNatClampNeg ((r2 : Int32).toInt64)) := ⟨_, rfl⟩
  have P : PW G A s H locs S0 S3 := by rw [hS]; exact P
  have p_b2 : pI S3 16 b2 := by rw [hS]; exact pI_x ext_sJ p_b2
  have hw := hw S3 hS
  refine lv_goto (tgt := 14) hx hb dL_begin_8 (by decide) ?_
  refine lv_iconst (v := 0) hx hb dL_begin_14 (by decide) ?_
  exact e_i C hr rfl P hw (by omega) (by omega) dL_begin_15
def wp_L_begin (Q : Int32 → MS → Prop) (QX : String → MS → Prop) (S : MS) (b1 : Nat) (b2 : Nat) : Prop := wL_begin_0 Q QX S b1 b2
set_option maxHeartbeats 4000000 in
set_option maxRecDepth 100000 in
theorem met_L_begin {l : Launch} (hst : l.stackTraces = false) (G : GP) (sz : Nat) (Q : Int32 → MS → Prop) (QX : String → MS → Prop) (S : MS) (b1 : Nat) (b2 : Nat) (p_b1 : pI S 8 b1) (p_b2 : pI S 16 b2) (hw : wp_L_begin Q QX S b1 b2) : vx_Met l yL_begin (.codeWith yL_begin cL_begin 3 (some .int) [(0, 8, 11, 15)] :: GW) rmL_begin (va_Pc [.ref b1, .ref b2] (PR G S sz)) (QI G S (FA G S sz) Q) (XX G S (FA G S sz) QX) 1 6 (FA G S sz) := by
  refine st_w (by decide +kernel) hst (fun p e s m below meth c C hr htab P => ?_)
  refine en_m (Nat.le_of_ble_eq_true rfl) (lv := [(0, .ref b1), (1, .ref b2)]) rfl (fun ls hl => ?_)
  have C : CF p l s m _ meth c "SkirmishGridLaw" cL_begin 3 G (FA G S sz) := C
  exact tL_begin_0 C hr htab Q QX S b1 b2 p_b1 p_b2 P hl (by omega) (by omega) hw
theorem cd_L_begin : yL_begin.cls = RL ∧ yL_begin.cls ≠ "java/lang/invoke/MethodHandle" ∧ yL_begin.cls ≠ "java/lang/invoke/VarHandle" ∧ (parseMethodDescriptor yL_begin.desc).map (fun d => d.parameters.length) = some 2 := by decide +kernel
abbrev rmL_current : Room := { frames := 7, cells := 1, slots := 6, locals := 130 }
def wL_current_0 (Q : Int32 → MS → Prop) (QX : String → MS → Prop) (S : MS) (b1 : Nat) (b2 : Nat) : Prop := wp_X8_current (fun r2 S1 => (vp_in 0 (mN S1 b2) ∧ (∀ S3, S3 = (sJ S1 b2 (0 : Int32).toNatClampNeg ((r2 : Int32).toInt64)) → Q 0 S3))) (fun E S9 => (E = "java/util/NoSuchElementException" ∧ Q 1 S9)) S b1
set_option maxHeartbeats 4000000 in
set_option maxRecDepth 100000 in
theorem tL_current_0 {p : Program} {l : Launch} {e : Env} {s : State} {m : MethodId} {args : Array Value} {below : List Frame} {meth : Method} {c : Code} {H : Heap} {locs : List Loc} {cells slots : Nat} {G : GP} {A : Nat → Prop} {S0 : MS} {ls : Array Slot} (C : CF p l s m args meth c "SkirmishGridLaw" cL_current 3 G A) (hr : meth.sig.returnType = (some .int)) (htab : c.exceptionTable.toList = tableOf [(0, 8, 11, 27)]) (Q : Int32 → MS → Prop) (QX : String → MS → Prop) (S : MS) (b1 : Nat) (b2 : Nat) (p_b1 : pI S 8 b1) (p_b2 : pI S 16 b2) (P : PW G A s H locs S0 S) (hl : lv_has ls 3 [(0, .ref b1), (1, .ref b2)]) (hcc : cells + 1 ≤ 1) (hss : slots + 6 ≤ 6) (hw : wL_current_0 Q QX S b1 b2) : W p l e rmL_current s m args below meth c H locs cells slots (vx_MQ below (QI G S0 A Q) (XX G S0 A QX) args s 1 6 A) (F0 m 0 ls []) := by
  have hx := CF_x C
  have hb := CF_b C
  unfold wL_current_0 at hw
  refine lv_aload_n hx hb dL_current_0 rfl (lv_at hl 1 rfl) ?_
  refine lv_iconst (v := 0) hx hb dL_current_1 (by decide) ?_
  refine lv_aload_n hx hb dL_current_2 rfl (lv_at hl 0 rfl) ?_
  refine cl_i C P (run_V C P hl.1 (kd := 8) (met_X8_current (CF_n C) G H.size _ _ S b1 p_b1 hw) p_b1 (by decide) rfl q_874 q_875 q_876 q_1 q_877 cd_X8_current ⟨(Nat.le_of_ble_eq_true rfl), (Nat.le_of_ble_eq_true rfl)⟩ rfl rfl (As := []) (rest := [.int 0, .ref b2]) rfl rfl (Nat.le_of_ble_eq_true rfl) dL_current_3 ⟨by show cells + 1 ≤ 1; omega, by show slots + 6 ≤ 6; omega⟩) ?_ (fun r2 S1 H locs P hE hw => ?_)
  · intro E S9 H locs ce9 q9 P hE hq h1 h2 h3
    obtain ⟨rfl, hw⟩ := hq
    refine vx_catch (name := "java/util/NoSuchElementException") (CF_o C) ([] : List ExceptionTableEntry) (⟨0, 8, 11, 27⟩ : ExceptionTableEntry) ([] : List ExceptionTableEntry) (htab.trans rfl) (fun z hz => by cases hz) (by decide) (by decide) (CF_t C _ q_636) (CF_y C (by decide +kernel)) h1 h2 h3 ?_
    have p_b1 : pI S9 8 b1 := pI_x hE p_b1
    have p_b2 : pI S9 16 b2 := pI_x hE p_b2
    refine lv_astore_n (lv' := [(2, .ref q9), (0, .ref b1), (1, .ref b2)]) hx hb dL_current_11 rfl hl (by decide) rfl (fun ls hl => ?_)
    refine lv_iconst (v := 1) hx hb dL_current_12 (by decide) ?_
    exact e_i C hr rfl P hw (by omega) (by omega) dL_current_13
  have p_b1 : pI S1 8 b1 := pI_x hE p_b1
  have p_b2 : pI S1 16 b2 := pI_x hE p_b2
  refine lv_i2l (v := (r2 : Int32).toInt64) hx hb dL_current_6 rfl ?_
  obtain ⟨h1, hw⟩ := hw
  refine rs_j C P p_b2 h1 dL_current_7 (fun H locs P => ?_)
  obtain ⟨S3, hS⟩ : ∃ z, z = (sJ S1 b2 (0 : Int32).toNatClampNeg ((r2 : Int32).toInt64)) := ⟨_, rfl⟩
  have P : PW G A s H locs S0 S3 := by rw [hS]; exact P
  have p_b2 : pI S3 16 b2 := by rw [hS]; exact pI_x ext_sJ p_b2
  have hw := hw S3 hS
  refine lv_goto (tgt := 14) hx hb dL_current_8 (by decide) ?_
  refine lv_iconst (v := 0) hx hb dL_current_14 (by decide) ?_
  exact e_i C hr rfl P hw (by omega) (by omega) dL_current_15
def wp_L_current (Q : Int32 → MS → Prop) (QX : String → MS → Prop) (S : MS) (b1 : Nat) (b2 : Nat) : Prop := wL_current_0 Q QX S b1 b2
set_option maxHeartbeats 4000000 in
set_option maxRecDepth 100000 in
theorem met_L_current {l : Launch} (hst : l.stackTraces = false) (G : GP) (sz : Nat) (Q : Int32 → MS → Prop) (QX : String → MS → Prop) (S : MS) (b1 : Nat) (b2 : Nat) (p_b1 : pI S 8 b1) (p_b2 : pI S 16 b2) (hw : wp_L_current Q QX S b1 b2) : vx_Met l yL_current (.codeWith yL_current cL_current 3 (some .int) [(0, 8, 11, 27)] :: GW) rmL_current (va_Pc [.ref b1, .ref b2] (PR G S sz)) (QI G S (FA G S sz) Q) (XX G S (FA G S sz) QX) 1 6 (FA G S sz) := by
  refine st_w (by decide +kernel) hst (fun p e s m below meth c C hr htab P => ?_)
  refine en_m (Nat.le_of_ble_eq_true rfl) (lv := [(0, .ref b1), (1, .ref b2)]) rfl (fun ls hl => ?_)
  have C : CF p l s m _ meth c "SkirmishGridLaw" cL_current 3 G (FA G S sz) := C
  exact tL_current_0 C hr htab Q QX S b1 b2 p_b1 p_b2 P hl (by omega) (by omega) hw
theorem cd_L_current : yL_current.cls = RL ∧ yL_current.cls ≠ "java/lang/invoke/MethodHandle" ∧ yL_current.cls ≠ "java/lang/invoke/VarHandle" ∧ (parseMethodDescriptor yL_current.desc).map (fun d => d.parameters.length) = some 2 := by decide +kernel
abbrev rmL_order : Room := { frames := 7, cells := 1, slots := 6, locals := 131 }
def wL_order_0 (Q : Int32 → MS → Prop) (QX : String → MS → Prop) (S : MS) (b1 : Nat) (x2 : Int32) (b3 : Nat) : Prop := wp_X8_order (fun r2 S1 => (vp_in 0 (mN S1 b3) ∧ (∀ S3, S3 = (sJ S1 b3 (0 : Int32).toNatClampNeg ((r2 : Int32).toInt64)) → Q 0 S3))) (fun E S9 => (E = "java/util/NoSuchElementException" ∧ Q 1 S9)) S b1 x2
set_option maxHeartbeats 4000000 in
set_option maxRecDepth 100000 in
theorem tL_order_0 {p : Program} {l : Launch} {e : Env} {s : State} {m : MethodId} {args : Array Value} {below : List Frame} {meth : Method} {c : Code} {H : Heap} {locs : List Loc} {cells slots : Nat} {G : GP} {A : Nat → Prop} {S0 : MS} {ls : Array Slot} (C : CF p l s m args meth c "SkirmishGridLaw" cL_order 4 G A) (hr : meth.sig.returnType = (some .int)) (htab : c.exceptionTable.toList = tableOf [(0, 9, 12, 27)]) (Q : Int32 → MS → Prop) (QX : String → MS → Prop) (S : MS) (b1 : Nat) (x2 : Int32) (b3 : Nat) (p_b1 : pI S 8 b1) (p_b3 : pI S 16 b3) (P : PW G A s H locs S0 S) (hl : lv_has ls 4 [(0, .ref b1), (1, .int x2), (2, .ref b3)]) (hcc : cells + 1 ≤ 1) (hss : slots + 6 ≤ 6) (hw : wL_order_0 Q QX S b1 x2 b3) : W p l e rmL_order s m args below meth c H locs cells slots (vx_MQ below (QI G S0 A Q) (XX G S0 A QX) args s 1 6 A) (F0 m 0 ls []) := by
  have hx := CF_x C
  have hb := CF_b C
  unfold wL_order_0 at hw
  refine lv_aload_n hx hb dL_order_0 rfl (lv_at hl 2 rfl) ?_
  refine lv_iconst (v := 0) hx hb dL_order_1 (by decide) ?_
  refine lv_aload_n hx hb dL_order_2 rfl (lv_at hl 0 rfl) ?_
  refine lv_iload_n hx hb dL_order_3 rfl (lv_at hl 1 rfl) ?_
  refine cl_i C P (run_V C P hl.1 (kd := 8) (met_X8_order (CF_n C) G H.size _ _ S b1 x2 p_b1 hw) p_b1 (by decide) rfl q_886 q_887 q_888 q_1 q_889 cd_X8_order ⟨(Nat.le_of_ble_eq_true rfl), (Nat.le_of_ble_eq_true rfl)⟩ rfl rfl (As := [.int x2]) (rest := [.int 0, .ref b3]) rfl rfl (Nat.le_of_ble_eq_true rfl) dL_order_4 ⟨by show cells + 1 ≤ 1; omega, by show slots + 6 ≤ 6; omega⟩) ?_ (fun r2 S1 H locs P hE hw => ?_)
  · intro E S9 H locs ce9 q9 P hE hq h1 h2 h3
    obtain ⟨rfl, hw⟩ := hq
    refine vx_catch (name := "java/util/NoSuchElementException") (CF_o C) ([] : List ExceptionTableEntry) (⟨0, 9, 12, 27⟩ : ExceptionTableEntry) ([] : List ExceptionTableEntry) (htab.trans rfl) (fun z hz => by cases hz) (by decide) (by decide) (CF_t C _ q_636) (CF_y C (by decide +kernel)) h1 h2 h3 ?_
    have p_b1 : pI S9 8 b1 := pI_x hE p_b1
    have p_b3 : pI S9 16 b3 := pI_x hE p_b3
    refine lv_astore_n (lv' := [(3, .ref q9), (0, .ref b1), (1, .int x2), (2, .ref b3)]) hx hb dL_order_12 rfl hl (by decide) rfl (fun ls hl => ?_)
    refine lv_iconst (v := 1) hx hb dL_order_13 (by decide) ?_
    exact e_i C hr rfl P hw (by omega) (by omega) dL_order_14
  have p_b1 : pI S1 8 b1 := pI_x hE p_b1
  have p_b3 : pI S1 16 b3 := pI_x hE p_b3
  refine lv_i2l (v := (r2 : Int32).toInt64) hx hb dL_order_7 rfl ?_
  obtain ⟨h1, hw⟩ := hw
  refine rs_j C P p_b3 h1 dL_order_8 (fun H locs P => ?_)
  obtain ⟨S3, hS⟩ : ∃ z, z = (sJ S1 b3 (0 : Int32).toNatClampNeg ((r2 : Int32).toInt64)) := ⟨_, rfl⟩
  have P : PW G A s H locs S0 S3 := by rw [hS]; exact P
  have p_b3 : pI S3 16 b3 := by rw [hS]; exact pI_x ext_sJ p_b3
  have hw := hw S3 hS
  refine lv_goto (tgt := 15) hx hb dL_order_9 (by decide) ?_
  refine lv_iconst (v := 0) hx hb dL_order_15 (by decide) ?_
  exact e_i C hr rfl P hw (by omega) (by omega) dL_order_16
def wp_L_order (Q : Int32 → MS → Prop) (QX : String → MS → Prop) (S : MS) (b1 : Nat) (x2 : Int32) (b3 : Nat) : Prop := wL_order_0 Q QX S b1 x2 b3
set_option maxHeartbeats 4000000 in
set_option maxRecDepth 100000 in
theorem met_L_order {l : Launch} (hst : l.stackTraces = false) (G : GP) (sz : Nat) (Q : Int32 → MS → Prop) (QX : String → MS → Prop) (S : MS) (b1 : Nat) (x2 : Int32) (b3 : Nat) (p_b1 : pI S 8 b1) (p_b3 : pI S 16 b3) (hw : wp_L_order Q QX S b1 x2 b3) : vx_Met l yL_order (.codeWith yL_order cL_order 4 (some .int) [(0, 9, 12, 27)] :: GW) rmL_order (va_Pc [.ref b1, .int x2, .ref b3] (PR G S sz)) (QI G S (FA G S sz) Q) (XX G S (FA G S sz) QX) 1 6 (FA G S sz) := by
  refine st_w (by decide +kernel) hst (fun p e s m below meth c C hr htab P => ?_)
  refine en_m (Nat.le_of_ble_eq_true rfl) (lv := [(0, .ref b1), (1, .int x2), (2, .ref b3)]) rfl (fun ls hl => ?_)
  have C : CF p l s m _ meth c "SkirmishGridLaw" cL_order 4 G (FA G S sz) := C
  exact tL_order_0 C hr htab Q QX S b1 x2 b3 p_b1 p_b3 P hl (by omega) (by omega) hw
theorem cd_L_order : yL_order.cls = RL ∧ yL_order.cls ≠ "java/lang/invoke/MethodHandle" ∧ yL_order.cls ≠ "java/lang/invoke/VarHandle" ∧ (parseMethodDescriptor yL_order.desc).map (fun d => d.parameters.length) = some 3 := by decide +kernel
abbrev rmL_costs : Room := { frames := 8, cells := 3, slots := 18, locals := 154 }
def wL_costs_0 (Q : Int32 → MS → Prop) (QX : String → MS → Prop) (S : MS) (b1 : Nat) (x2 : Int32) (b3 : Nat) : Prop := wp_X8_costs (fun r2 S1 => (vp_in 0 (mN S1 b3) ∧ (∀ S3, S3 = (sJ S1 b3 (0 : Int32).toNatClampNeg ((r2 : Int32).toInt64)) → Q 0 S3))) (fun E S9 => (E = "java/lang/IndexOutOfBoundsException" ∧ Q 1 S9) ∨ (E = "java/lang/UnsupportedOperationException" ∧ Q 2 S9) ∨ (E = "java/util/NoSuchElementException" ∧ Q 3 S9)) S b1 x2
set_option maxHeartbeats 4000000 in
set_option maxRecDepth 100000 in
theorem tL_costs_0 {p : Program} {l : Launch} {e : Env} {s : State} {m : MethodId} {args : Array Value} {below : List Frame} {meth : Method} {c : Code} {H : Heap} {locs : List Loc} {cells slots : Nat} {G : GP} {A : Nat → Prop} {S0 : MS} {ls : Array Slot} (C : CF p l s m args meth c "SkirmishGridLaw" cL_costs 4 G A) (hr : meth.sig.returnType = (some .int)) (htab : c.exceptionTable.toList = tableOf [(0, 9, 12, 33), (0, 9, 15, 21), (0, 9, 18, 27)]) (Q : Int32 → MS → Prop) (QX : String → MS → Prop) (S : MS) (b1 : Nat) (x2 : Int32) (b3 : Nat) (p_b1 : pI S 8 b1) (p_b3 : pI S 16 b3) (P : PW G A s H locs S0 S) (hl : lv_has ls 4 [(0, .ref b1), (1, .int x2), (2, .ref b3)]) (hcc : cells + 3 ≤ 3) (hss : slots + 18 ≤ 18) (hw : wL_costs_0 Q QX S b1 x2 b3) : W p l e rmL_costs s m args below meth c H locs cells slots (vx_MQ below (QI G S0 A Q) (XX G S0 A QX) args s 3 18 A) (F0 m 0 ls []) := by
  have hx := CF_x C
  have hb := CF_b C
  unfold wL_costs_0 at hw
  refine lv_aload_n hx hb dL_costs_0 rfl (lv_at hl 2 rfl) ?_
  refine lv_iconst (v := 0) hx hb dL_costs_1 (by decide) ?_
  refine lv_aload_n hx hb dL_costs_2 rfl (lv_at hl 0 rfl) ?_
  refine lv_iload_n hx hb dL_costs_3 rfl (lv_at hl 1 rfl) ?_
  refine cl_i C P (run_V C P hl.1 (kd := 8) (met_X8_costs (CF_n C) G H.size _ _ S b1 x2 p_b1 hw) p_b1 (by decide) rfl q_894 q_895 q_896 q_1 q_897 cd_X8_costs ⟨(Nat.le_of_ble_eq_true rfl), (Nat.le_of_ble_eq_true rfl)⟩ rfl rfl (As := [.int x2]) (rest := [.int 0, .ref b3]) rfl rfl (Nat.le_of_ble_eq_true rfl) dL_costs_4 ⟨by show cells + 3 ≤ 3; omega, by show slots + 18 ≤ 18; omega⟩) ?_ (fun r2 S1 H locs P hE hw => ?_)
  · intro E S9 H locs ce9 q9 P hE hq h1 h2 h3
    rcases hq with ⟨rfl, hw⟩ | ⟨rfl, hw⟩ | ⟨rfl, hw⟩
    · refine vx_catch (name := "java/lang/IndexOutOfBoundsException") (CF_o C) ([] : List ExceptionTableEntry) (⟨0, 9, 12, 33⟩ : ExceptionTableEntry) ([⟨0, 9, 15, 21⟩, ⟨0, 9, 18, 27⟩] : List ExceptionTableEntry) (htab.trans rfl) (fun z hz => by cases hz) (by decide) (by decide) (CF_t C _ q_660) (CF_y C (by decide +kernel)) h1 h2 h3 ?_
      have p_b1 : pI S9 8 b1 := pI_x hE p_b1
      have p_b3 : pI S9 16 b3 := pI_x hE p_b3
      refine lv_astore_n (lv' := [(3, .ref q9), (0, .ref b1), (1, .int x2), (2, .ref b3)]) hx hb dL_costs_12 rfl hl (by decide) rfl (fun ls hl => ?_)
      refine lv_iconst (v := 1) hx hb dL_costs_13 (by decide) ?_
      exact e_i C hr rfl P hw (by omega) (by omega) dL_costs_14
    · refine vx_catch (name := "java/lang/UnsupportedOperationException") (CF_o C) ([⟨0, 9, 12, 33⟩] : List ExceptionTableEntry) (⟨0, 9, 15, 21⟩ : ExceptionTableEntry) ([⟨0, 9, 18, 27⟩] : List ExceptionTableEntry) (htab.trans rfl) (by intro z hz; simp only [List.mem_cons, List.not_mem_nil, or_false] at hz; rcases hz with rfl <;> first | exact Or.inr ⟨by decide, "java/lang/IndexOutOfBoundsException", CF_t C _ q_660, CF_c C (by decide +kernel) (by decide +kernel) (by decide +kernel)⟩) (by decide) (by decide) (CF_t C _ q_501) (CF_y C (by decide +kernel)) h1 h2 h3 ?_
      have p_b1 : pI S9 8 b1 := pI_x hE p_b1
      have p_b3 : pI S9 16 b3 := pI_x hE p_b3
      refine lv_astore_n (lv' := [(3, .ref q9), (0, .ref b1), (1, .int x2), (2, .ref b3)]) hx hb dL_costs_15 rfl hl (by decide) rfl (fun ls hl => ?_)
      refine lv_iconst (v := 2) hx hb dL_costs_16 (by decide) ?_
      exact e_i C hr rfl P hw (by omega) (by omega) dL_costs_17
    · refine vx_catch (name := "java/util/NoSuchElementException") (CF_o C) ([⟨0, 9, 12, 33⟩, ⟨0, 9, 15, 21⟩] : List ExceptionTableEntry) (⟨0, 9, 18, 27⟩ : ExceptionTableEntry) ([] : List ExceptionTableEntry) (htab.trans rfl) (by intro z hz; simp only [List.mem_cons, List.not_mem_nil, or_false] at hz; rcases hz with rfl | rfl <;> first | exact Or.inr ⟨by decide, "java/lang/IndexOutOfBoundsException", CF_t C _ q_660, CF_c C (by decide +kernel) (by decide +kernel) (by decide +kernel)⟩ | exact Or.inr ⟨by decide, "java/lang/UnsupportedOperationException", CF_t C _ q_501, CF_c C (by decide +kernel) (by decide +kernel) (by decide +kernel)⟩) (by decide) (by decide) (CF_t C _ q_636) (CF_y C (by decide +kernel)) h1 h2 h3 ?_
      have p_b1 : pI S9 8 b1 := pI_x hE p_b1
      have p_b3 : pI S9 16 b3 := pI_x hE p_b3
      refine lv_astore_n (lv' := [(3, .ref q9), (0, .ref b1), (1, .int x2), (2, .ref b3)]) hx hb dL_costs_18 rfl hl (by decide) rfl (fun ls hl => ?_)
      refine lv_iconst (v := 3) hx hb dL_costs_19 (by decide) ?_
      exact e_i C hr rfl P hw (by omega) (by omega) dL_costs_20
  have p_b1 : pI S1 8 b1 := pI_x hE p_b1
  have p_b3 : pI S1 16 b3 := pI_x hE p_b3
  refine lv_i2l (v := (r2 : Int32).toInt64) hx hb dL_costs_7 rfl ?_
  obtain ⟨h1, hw⟩ := hw
  refine rs_j C P p_b3 h1 dL_costs_8 (fun H locs P => ?_)
  obtain ⟨S3, hS⟩ : ∃ z, z = (sJ S1 b3 (0 : Int32).toNatClampNeg ((r2 : Int32).toInt64)) := ⟨_, rfl⟩
  have P : PW G A s H locs S0 S3 := by rw [hS]; exact P
  have p_b3 : pI S3 16 b3 := by rw [hS]; exact pI_x ext_sJ p_b3
  have hw := hw S3 hS
  refine lv_goto (tgt := 21) hx hb dL_costs_9 (by decide) ?_
  refine lv_iconst (v := 0) hx hb dL_costs_21 (by decide) ?_
  exact e_i C hr rfl P hw (by omega) (by omega) dL_costs_22
def wp_L_costs (Q : Int32 → MS → Prop) (QX : String → MS → Prop) (S : MS) (b1 : Nat) (x2 : Int32) (b3 : Nat) : Prop := wL_costs_0 Q QX S b1 x2 b3
set_option maxHeartbeats 4000000 in
set_option maxRecDepth 100000 in
theorem met_L_costs {l : Launch} (hst : l.stackTraces = false) (G : GP) (sz : Nat) (Q : Int32 → MS → Prop) (QX : String → MS → Prop) (S : MS) (b1 : Nat) (x2 : Int32) (b3 : Nat) (p_b1 : pI S 8 b1) (p_b3 : pI S 16 b3) (hw : wp_L_costs Q QX S b1 x2 b3) : vx_Met l yL_costs (.codeWith yL_costs cL_costs 4 (some .int) [(0, 9, 12, 33), (0, 9, 15, 21), (0, 9, 18, 27)] :: GW) rmL_costs (va_Pc [.ref b1, .int x2, .ref b3] (PR G S sz)) (QI G S (FA G S sz) Q) (XX G S (FA G S sz) QX) 3 18 (FA G S sz) := by
  refine st_w (by decide +kernel) hst (fun p e s m below meth c C hr htab P => ?_)
  refine en_m (Nat.le_of_ble_eq_true rfl) (lv := [(0, .ref b1), (1, .int x2), (2, .ref b3)]) rfl (fun ls hl => ?_)
  have C : CF p l s m _ meth c "SkirmishGridLaw" cL_costs 4 G (FA G S sz) := C
  exact tL_costs_0 C hr htab Q QX S b1 x2 b3 p_b1 p_b3 P hl (by omega) (by omega) hw
theorem cd_L_costs : yL_costs.cls = RL ∧ yL_costs.cls ≠ "java/lang/invoke/MethodHandle" ∧ yL_costs.cls ≠ "java/lang/invoke/VarHandle" ∧ (parseMethodDescriptor yL_costs.desc).map (fun d => d.parameters.length) = some 3 := by decide +kernel
abbrev rmL_pathCell : Room := { frames := 8, cells := 4, slots := 24, locals := 158 }
def wL_pathCell_0 (Q : Int32 → MS → Prop) (QX : String → MS → Prop) (S : MS) (b1 : Nat) (x2 : Int32) (x3 : Int32) (b4 : Nat) : Prop := wp_X8_pathCell (fun r2 S1 => (vp_in 0 (mN S1 b4) ∧ (∀ S3, S3 = (sJ S1 b4 (0 : Int32).toNatClampNeg ((r2 : Int32).toInt64)) → Q 0 S3))) (fun E S9 => (E = "java/lang/IndexOutOfBoundsException" ∧ Q 1 S9) ∨ (E = "java/lang/UnsupportedOperationException" ∧ Q 2 S9) ∨ (E = "java/util/NoSuchElementException" ∧ Q 3 S9)) S b1 x2 x3
set_option maxHeartbeats 4000000 in
set_option maxRecDepth 100000 in
theorem tL_pathCell_0 {p : Program} {l : Launch} {e : Env} {s : State} {m : MethodId} {args : Array Value} {below : List Frame} {meth : Method} {c : Code} {H : Heap} {locs : List Loc} {cells slots : Nat} {G : GP} {A : Nat → Prop} {S0 : MS} {ls : Array Slot} (C : CF p l s m args meth c "SkirmishGridLaw" cL_pathCell 5 G A) (hr : meth.sig.returnType = (some .int)) (htab : c.exceptionTable.toList = tableOf [(0, 10, 13, 33), (0, 10, 17, 21), (0, 10, 21, 27)]) (Q : Int32 → MS → Prop) (QX : String → MS → Prop) (S : MS) (b1 : Nat) (x2 : Int32) (x3 : Int32) (b4 : Nat) (p_b1 : pI S 8 b1) (p_b4 : pI S 16 b4) (P : PW G A s H locs S0 S) (hl : lv_has ls 5 [(0, .ref b1), (1, .int x2), (2, .int x3), (3, .ref b4)]) (hcc : cells + 4 ≤ 4) (hss : slots + 24 ≤ 24) (hw : wL_pathCell_0 Q QX S b1 x2 x3 b4) : W p l e rmL_pathCell s m args below meth c H locs cells slots (vx_MQ below (QI G S0 A Q) (XX G S0 A QX) args s 4 24 A) (F0 m 0 ls []) := by
  have hx := CF_x C
  have hb := CF_b C
  unfold wL_pathCell_0 at hw
  refine lv_aload_n hx hb dL_pathCell_0 rfl (lv_at hl 3 rfl) ?_
  refine lv_iconst (v := 0) hx hb dL_pathCell_1 (by decide) ?_
  refine lv_aload_n hx hb dL_pathCell_2 rfl (lv_at hl 0 rfl) ?_
  refine lv_iload_n hx hb dL_pathCell_3 rfl (lv_at hl 1 rfl) ?_
  refine lv_iload_n hx hb dL_pathCell_4 rfl (lv_at hl 2 rfl) ?_
  refine cl_i C P (run_V C P hl.1 (kd := 8) (met_X8_pathCell (CF_n C) G H.size _ _ S b1 x2 x3 p_b1 hw) p_b1 (by decide) rfl q_940 q_941 q_942 q_1 q_943 cd_X8_pathCell ⟨(Nat.le_of_ble_eq_true rfl), (Nat.le_of_ble_eq_true rfl)⟩ rfl rfl (As := [.int x2, .int x3]) (rest := [.int 0, .ref b4]) rfl rfl (Nat.le_of_ble_eq_true rfl) dL_pathCell_5 ⟨by show cells + 4 ≤ 4; omega, by show slots + 24 ≤ 24; omega⟩) ?_ (fun r2 S1 H locs P hE hw => ?_)
  · intro E S9 H locs ce9 q9 P hE hq h1 h2 h3
    rcases hq with ⟨rfl, hw⟩ | ⟨rfl, hw⟩ | ⟨rfl, hw⟩
    · refine vx_catch (name := "java/lang/IndexOutOfBoundsException") (CF_o C) ([] : List ExceptionTableEntry) (⟨0, 10, 13, 33⟩ : ExceptionTableEntry) ([⟨0, 10, 17, 21⟩, ⟨0, 10, 21, 27⟩] : List ExceptionTableEntry) (htab.trans rfl) (fun z hz => by cases hz) (by decide) (by decide) (CF_t C _ q_660) (CF_y C (by decide +kernel)) h1 h2 h3 ?_
      have p_b1 : pI S9 8 b1 := pI_x hE p_b1
      have p_b4 : pI S9 16 b4 := pI_x hE p_b4
      refine lv_astore (lv' := [(4, .ref q9), (0, .ref b1), (1, .int x2), (2, .int x3), (3, .ref b4)]) hx hb dL_pathCell_13 hl (by decide) rfl (fun ls hl => ?_)
      refine lv_iconst (v := 1) hx hb dL_pathCell_15 (by decide) ?_
      exact e_i C hr rfl P hw (by omega) (by omega) dL_pathCell_16
    · refine vx_catch (name := "java/lang/UnsupportedOperationException") (CF_o C) ([⟨0, 10, 13, 33⟩] : List ExceptionTableEntry) (⟨0, 10, 17, 21⟩ : ExceptionTableEntry) ([⟨0, 10, 21, 27⟩] : List ExceptionTableEntry) (htab.trans rfl) (by intro z hz; simp only [List.mem_cons, List.not_mem_nil, or_false] at hz; rcases hz with rfl <;> first | exact Or.inr ⟨by decide, "java/lang/IndexOutOfBoundsException", CF_t C _ q_660, CF_c C (by decide +kernel) (by decide +kernel) (by decide +kernel)⟩) (by decide) (by decide) (CF_t C _ q_501) (CF_y C (by decide +kernel)) h1 h2 h3 ?_
      have p_b1 : pI S9 8 b1 := pI_x hE p_b1
      have p_b4 : pI S9 16 b4 := pI_x hE p_b4
      refine lv_astore (lv' := [(4, .ref q9), (0, .ref b1), (1, .int x2), (2, .int x3), (3, .ref b4)]) hx hb dL_pathCell_17 hl (by decide) rfl (fun ls hl => ?_)
      refine lv_iconst (v := 2) hx hb dL_pathCell_19 (by decide) ?_
      exact e_i C hr rfl P hw (by omega) (by omega) dL_pathCell_20
    · refine vx_catch (name := "java/util/NoSuchElementException") (CF_o C) ([⟨0, 10, 13, 33⟩, ⟨0, 10, 17, 21⟩] : List ExceptionTableEntry) (⟨0, 10, 21, 27⟩ : ExceptionTableEntry) ([] : List ExceptionTableEntry) (htab.trans rfl) (by intro z hz; simp only [List.mem_cons, List.not_mem_nil, or_false] at hz; rcases hz with rfl | rfl <;> first | exact Or.inr ⟨by decide, "java/lang/IndexOutOfBoundsException", CF_t C _ q_660, CF_c C (by decide +kernel) (by decide +kernel) (by decide +kernel)⟩ | exact Or.inr ⟨by decide, "java/lang/UnsupportedOperationException", CF_t C _ q_501, CF_c C (by decide +kernel) (by decide +kernel) (by decide +kernel)⟩) (by decide) (by decide) (CF_t C _ q_636) (CF_y C (by decide +kernel)) h1 h2 h3 ?_
      have p_b1 : pI S9 8 b1 := pI_x hE p_b1
      have p_b4 : pI S9 16 b4 := pI_x hE p_b4
      refine lv_astore (lv' := [(4, .ref q9), (0, .ref b1), (1, .int x2), (2, .int x3), (3, .ref b4)]) hx hb dL_pathCell_21 hl (by decide) rfl (fun ls hl => ?_)
      refine lv_iconst (v := 3) hx hb dL_pathCell_23 (by decide) ?_
      exact e_i C hr rfl P hw (by omega) (by omega) dL_pathCell_24
  have p_b1 : pI S1 8 b1 := pI_x hE p_b1
  have p_b4 : pI S1 16 b4 := pI_x hE p_b4
  refine lv_i2l (v := (r2 : Int32).toInt64) hx hb dL_pathCell_8 rfl ?_
  obtain ⟨h1, hw⟩ := hw
  refine rs_j C P p_b4 h1 dL_pathCell_9 (fun H locs P => ?_)
  obtain ⟨S3, hS⟩ : ∃ z, z = (sJ S1 b4 (0 : Int32).toNatClampNeg ((r2 : Int32).toInt64)) := ⟨_, rfl⟩
  have P : PW G A s H locs S0 S3 := by rw [hS]; exact P
  have p_b4 : pI S3 16 b4 := by rw [hS]; exact pI_x ext_sJ p_b4
  have hw := hw S3 hS
  refine lv_goto (tgt := 25) hx hb dL_pathCell_10 (by decide) ?_
  refine lv_iconst (v := 0) hx hb dL_pathCell_25 (by decide) ?_
  exact e_i C hr rfl P hw (by omega) (by omega) dL_pathCell_26
def wp_L_pathCell (Q : Int32 → MS → Prop) (QX : String → MS → Prop) (S : MS) (b1 : Nat) (x2 : Int32) (x3 : Int32) (b4 : Nat) : Prop := wL_pathCell_0 Q QX S b1 x2 x3 b4
set_option maxHeartbeats 4000000 in
set_option maxRecDepth 100000 in
theorem met_L_pathCell {l : Launch} (hst : l.stackTraces = false) (G : GP) (sz : Nat) (Q : Int32 → MS → Prop) (QX : String → MS → Prop) (S : MS) (b1 : Nat) (x2 : Int32) (x3 : Int32) (b4 : Nat) (p_b1 : pI S 8 b1) (p_b4 : pI S 16 b4) (hw : wp_L_pathCell Q QX S b1 x2 x3 b4) : vx_Met l yL_pathCell (.codeWith yL_pathCell cL_pathCell 5 (some .int) [(0, 10, 13, 33), (0, 10, 17, 21), (0, 10, 21, 27)] :: GW) rmL_pathCell (va_Pc [.ref b1, .int x2, .int x3, .ref b4] (PR G S sz)) (QI G S (FA G S sz) Q) (XX G S (FA G S sz) QX) 4 24 (FA G S sz) := by
  refine st_w (by decide +kernel) hst (fun p e s m below meth c C hr htab P => ?_)
  refine en_m (Nat.le_of_ble_eq_true rfl) (lv := [(0, .ref b1), (1, .int x2), (2, .int x3), (3, .ref b4)]) rfl (fun ls hl => ?_)
  have C : CF p l s m _ meth c "SkirmishGridLaw" cL_pathCell 5 G (FA G S sz) := C
  exact tL_pathCell_0 C hr htab Q QX S b1 x2 x3 b4 p_b1 p_b4 P hl (by omega) (by omega) hw
theorem cd_L_pathCell : yL_pathCell.cls = RL ∧ yL_pathCell.cls ≠ "java/lang/invoke/MethodHandle" ∧ yL_pathCell.cls ≠ "java/lang/invoke/VarHandle" ∧ (parseMethodDescriptor yL_pathCell.desc).map (fun d => d.parameters.length) = some 4 := by decide +kernel
abbrev rmL_chance : Room := { frames := 8, cells := 3, slots := 18, locals := 182 }
def wL_chance_0 (Q : Int32 → MS → Prop) (QX : String → MS → Prop) (S : MS) (b1 : Nat) (x2 : Int32) (x3 : Int32) (b4 : Nat) : Prop := wp_X8_chance (fun r2 S1 => (vp_in 0 (mN S1 b4) ∧ (∀ S3, S3 = (sD S1 b4 (0 : Int32).toNatClampNeg r2) → Q 0 S3))) (fun E S9 => (E = "java/lang/IndexOutOfBoundsException" ∧ Q 1 S9) ∨ (E = "java/lang/IllegalArgumentException" ∧ Q 2 S9)) S b1 x2 x3
set_option maxHeartbeats 4000000 in
set_option maxRecDepth 100000 in
theorem tL_chance_0 {p : Program} {l : Launch} {e : Env} {s : State} {m : MethodId} {args : Array Value} {below : List Frame} {meth : Method} {c : Code} {H : Heap} {locs : List Loc} {cells slots : Nat} {G : GP} {A : Nat → Prop} {S0 : MS} {ls : Array Slot} (C : CF p l s m args meth c "SkirmishGridLaw" cL_chance 5 G A) (hr : meth.sig.returnType = (some .int)) (htab : c.exceptionTable.toList = tableOf [(0, 9, 12, 33), (0, 9, 16, 13)]) (Q : Int32 → MS → Prop) (QX : String → MS → Prop) (S : MS) (b1 : Nat) (x2 : Int32) (x3 : Int32) (b4 : Nat) (p_b1 : pI S 8 b1) (p_b4 : pI S 17 b4) (P : PW G A s H locs S0 S) (hl : lv_has ls 5 [(0, .ref b1), (1, .int x2), (2, .int x3), (3, .ref b4)]) (hcc : cells + 3 ≤ 3) (hss : slots + 18 ≤ 18) (hw : wL_chance_0 Q QX S b1 x2 x3 b4) : W p l e rmL_chance s m args below meth c H locs cells slots (vx_MQ below (QI G S0 A Q) (XX G S0 A QX) args s 3 18 A) (F0 m 0 ls []) := by
  have hx := CF_x C
  have hb := CF_b C
  unfold wL_chance_0 at hw
  refine lv_aload_n hx hb dL_chance_0 rfl (lv_at hl 3 rfl) ?_
  refine lv_iconst (v := 0) hx hb dL_chance_1 (by decide) ?_
  refine lv_aload_n hx hb dL_chance_2 rfl (lv_at hl 0 rfl) ?_
  refine lv_iload_n hx hb dL_chance_3 rfl (lv_at hl 1 rfl) ?_
  refine lv_iload_n hx hb dL_chance_4 rfl (lv_at hl 2 rfl) ?_
  refine cl_d C P (run_V C P hl.1 (kd := 8) (met_X8_chance (CF_n C) G H.size _ _ S b1 x2 x3 p_b1 hw) p_b1 (by decide) rfl q_953 q_954 q_955 q_1 q_956 cd_X8_chance ⟨(Nat.le_of_ble_eq_true rfl), (Nat.le_of_ble_eq_true rfl)⟩ rfl rfl (As := [.int x2, .int x3]) (rest := [.int 0, .ref b4]) rfl rfl (Nat.le_of_ble_eq_true rfl) dL_chance_5 ⟨by show cells + 3 ≤ 3; omega, by show slots + 18 ≤ 18; omega⟩) ?_ (fun r2 S1 H locs P hE hw => ?_)
  · intro E S9 H locs ce9 q9 P hE hq h1 h2 h3
    rcases hq with ⟨rfl, hw⟩ | ⟨rfl, hw⟩
    · refine vx_catch (name := "java/lang/IndexOutOfBoundsException") (CF_o C) ([] : List ExceptionTableEntry) (⟨0, 9, 12, 33⟩ : ExceptionTableEntry) ([⟨0, 9, 16, 13⟩] : List ExceptionTableEntry) (htab.trans rfl) (fun z hz => by cases hz) (by decide) (by decide) (CF_t C _ q_660) (CF_y C (by decide +kernel)) h1 h2 h3 ?_
      have p_b1 : pI S9 8 b1 := pI_x hE p_b1
      have p_b4 : pI S9 17 b4 := pI_x hE p_b4
      refine lv_astore (lv' := [(4, .ref q9), (0, .ref b1), (1, .int x2), (2, .int x3), (3, .ref b4)]) hx hb dL_chance_12 hl (by decide) rfl (fun ls hl => ?_)
      refine lv_iconst (v := 1) hx hb dL_chance_14 (by decide) ?_
      exact e_i C hr rfl P hw (by omega) (by omega) dL_chance_15
    · refine vx_catch (name := "java/lang/IllegalArgumentException") (CF_o C) ([⟨0, 9, 12, 33⟩] : List ExceptionTableEntry) (⟨0, 9, 16, 13⟩ : ExceptionTableEntry) ([] : List ExceptionTableEntry) (htab.trans rfl) (by intro z hz; simp only [List.mem_cons, List.not_mem_nil, or_false] at hz; rcases hz with rfl <;> first | exact Or.inr ⟨by decide, "java/lang/IndexOutOfBoundsException", CF_t C _ q_660, CF_c C (by decide +kernel) (by decide +kernel) (by decide +kernel)⟩) (by decide) (by decide) (CF_t C _ q_404) (CF_y C (by decide +kernel)) h1 h2 h3 ?_
      have p_b1 : pI S9 8 b1 := pI_x hE p_b1
      have p_b4 : pI S9 17 b4 := pI_x hE p_b4
      refine lv_astore (lv' := [(4, .ref q9), (0, .ref b1), (1, .int x2), (2, .int x3), (3, .ref b4)]) hx hb dL_chance_16 hl (by decide) rfl (fun ls hl => ?_)
      refine lv_iconst (v := 2) hx hb dL_chance_18 (by decide) ?_
      exact e_i C hr rfl P hw (by omega) (by omega) dL_chance_19
  have p_b1 : pI S1 8 b1 := pI_x hE p_b1
  have p_b4 : pI S1 17 b4 := pI_x hE p_b4
  obtain ⟨h1, hw⟩ := hw
  refine rs_d C P p_b4 h1 dL_chance_8 (fun H locs P => ?_)
  obtain ⟨S3, hS⟩ : ∃ z, z = (sD S1 b4 (0 : Int32).toNatClampNeg r2) := ⟨_, rfl⟩
  have P : PW G A s H locs S0 S3 := by rw [hS]; exact P
  have p_b4 : pI S3 17 b4 := by rw [hS]; exact pI_x ext_sD p_b4
  have hw := hw S3 hS
  refine lv_goto (tgt := 20) hx hb dL_chance_9 (by decide) ?_
  refine lv_iconst (v := 0) hx hb dL_chance_20 (by decide) ?_
  exact e_i C hr rfl P hw (by omega) (by omega) dL_chance_21
def wp_L_chance (Q : Int32 → MS → Prop) (QX : String → MS → Prop) (S : MS) (b1 : Nat) (x2 : Int32) (x3 : Int32) (b4 : Nat) : Prop := wL_chance_0 Q QX S b1 x2 x3 b4
set_option maxHeartbeats 4000000 in
set_option maxRecDepth 100000 in
theorem met_L_chance {l : Launch} (hst : l.stackTraces = false) (G : GP) (sz : Nat) (Q : Int32 → MS → Prop) (QX : String → MS → Prop) (S : MS) (b1 : Nat) (x2 : Int32) (x3 : Int32) (b4 : Nat) (p_b1 : pI S 8 b1) (p_b4 : pI S 17 b4) (hw : wp_L_chance Q QX S b1 x2 x3 b4) : vx_Met l yL_chance (.codeWith yL_chance cL_chance 5 (some .int) [(0, 9, 12, 33), (0, 9, 16, 13)] :: GW) rmL_chance (va_Pc [.ref b1, .int x2, .int x3, .ref b4] (PR G S sz)) (QI G S (FA G S sz) Q) (XX G S (FA G S sz) QX) 3 18 (FA G S sz) := by
  refine st_w (by decide +kernel) hst (fun p e s m below meth c C hr htab P => ?_)
  refine en_m (Nat.le_of_ble_eq_true rfl) (lv := [(0, .ref b1), (1, .int x2), (2, .int x3), (3, .ref b4)]) rfl (fun ls hl => ?_)
  have C : CF p l s m _ meth c "SkirmishGridLaw" cL_chance 5 G (FA G S sz) := C
  exact tL_chance_0 C hr htab Q QX S b1 x2 x3 b4 p_b1 p_b4 P hl (by omega) (by omega) hw
theorem cd_L_chance : yL_chance.cls = RL ∧ yL_chance.cls ≠ "java/lang/invoke/MethodHandle" ∧ yL_chance.cls ≠ "java/lang/invoke/VarHandle" ∧ (parseMethodDescriptor yL_chance.desc).map (fun d => d.parameters.length) = some 4 := by decide +kernel
abbrev rmL_meanDamage : Room := { frames := 8, cells := 3, slots := 18, locals := 182 }
def wL_meanDamage_0 (Q : Int32 → MS → Prop) (QX : String → MS → Prop) (S : MS) (b1 : Nat) (x2 : Int32) (x3 : Int32) (b4 : Nat) : Prop := wp_X8_meanDamage (fun r2 S1 => (vp_in 0 (mN S1 b4) ∧ (∀ S3, S3 = (sD S1 b4 (0 : Int32).toNatClampNeg r2) → Q 0 S3))) (fun E S9 => (E = "java/lang/IndexOutOfBoundsException" ∧ Q 1 S9) ∨ (E = "java/lang/IllegalArgumentException" ∧ Q 2 S9)) S b1 x2 x3
set_option maxHeartbeats 4000000 in
set_option maxRecDepth 100000 in
theorem tL_meanDamage_0 {p : Program} {l : Launch} {e : Env} {s : State} {m : MethodId} {args : Array Value} {below : List Frame} {meth : Method} {c : Code} {H : Heap} {locs : List Loc} {cells slots : Nat} {G : GP} {A : Nat → Prop} {S0 : MS} {ls : Array Slot} (C : CF p l s m args meth c "SkirmishGridLaw" cL_meanDamage 5 G A) (hr : meth.sig.returnType = (some .int)) (htab : c.exceptionTable.toList = tableOf [(0, 9, 12, 33), (0, 9, 16, 13)]) (Q : Int32 → MS → Prop) (QX : String → MS → Prop) (S : MS) (b1 : Nat) (x2 : Int32) (x3 : Int32) (b4 : Nat) (p_b1 : pI S 8 b1) (p_b4 : pI S 17 b4) (P : PW G A s H locs S0 S) (hl : lv_has ls 5 [(0, .ref b1), (1, .int x2), (2, .int x3), (3, .ref b4)]) (hcc : cells + 3 ≤ 3) (hss : slots + 18 ≤ 18) (hw : wL_meanDamage_0 Q QX S b1 x2 x3 b4) : W p l e rmL_meanDamage s m args below meth c H locs cells slots (vx_MQ below (QI G S0 A Q) (XX G S0 A QX) args s 3 18 A) (F0 m 0 ls []) := by
  have hx := CF_x C
  have hb := CF_b C
  unfold wL_meanDamage_0 at hw
  refine lv_aload_n hx hb dL_meanDamage_0 rfl (lv_at hl 3 rfl) ?_
  refine lv_iconst (v := 0) hx hb dL_meanDamage_1 (by decide) ?_
  refine lv_aload_n hx hb dL_meanDamage_2 rfl (lv_at hl 0 rfl) ?_
  refine lv_iload_n hx hb dL_meanDamage_3 rfl (lv_at hl 1 rfl) ?_
  refine lv_iload_n hx hb dL_meanDamage_4 rfl (lv_at hl 2 rfl) ?_
  refine cl_d C P (run_V C P hl.1 (kd := 8) (met_X8_meanDamage (CF_n C) G H.size _ _ S b1 x2 x3 p_b1 hw) p_b1 (by decide) rfl q_992 q_993 q_994 q_1 q_995 cd_X8_meanDamage ⟨(Nat.le_of_ble_eq_true rfl), (Nat.le_of_ble_eq_true rfl)⟩ rfl rfl (As := [.int x2, .int x3]) (rest := [.int 0, .ref b4]) rfl rfl (Nat.le_of_ble_eq_true rfl) dL_meanDamage_5 ⟨by show cells + 3 ≤ 3; omega, by show slots + 18 ≤ 18; omega⟩) ?_ (fun r2 S1 H locs P hE hw => ?_)
  · intro E S9 H locs ce9 q9 P hE hq h1 h2 h3
    rcases hq with ⟨rfl, hw⟩ | ⟨rfl, hw⟩
    · refine vx_catch (name := "java/lang/IndexOutOfBoundsException") (CF_o C) ([] : List ExceptionTableEntry) (⟨0, 9, 12, 33⟩ : ExceptionTableEntry) ([⟨0, 9, 16, 13⟩] : List ExceptionTableEntry) (htab.trans rfl) (fun z hz => by cases hz) (by decide) (by decide) (CF_t C _ q_660) (CF_y C (by decide +kernel)) h1 h2 h3 ?_
      have p_b1 : pI S9 8 b1 := pI_x hE p_b1
      have p_b4 : pI S9 17 b4 := pI_x hE p_b4
      refine lv_astore (lv' := [(4, .ref q9), (0, .ref b1), (1, .int x2), (2, .int x3), (3, .ref b4)]) hx hb dL_meanDamage_12 hl (by decide) rfl (fun ls hl => ?_)
      refine lv_iconst (v := 1) hx hb dL_meanDamage_14 (by decide) ?_
      exact e_i C hr rfl P hw (by omega) (by omega) dL_meanDamage_15
    · refine vx_catch (name := "java/lang/IllegalArgumentException") (CF_o C) ([⟨0, 9, 12, 33⟩] : List ExceptionTableEntry) (⟨0, 9, 16, 13⟩ : ExceptionTableEntry) ([] : List ExceptionTableEntry) (htab.trans rfl) (by intro z hz; simp only [List.mem_cons, List.not_mem_nil, or_false] at hz; rcases hz with rfl <;> first | exact Or.inr ⟨by decide, "java/lang/IndexOutOfBoundsException", CF_t C _ q_660, CF_c C (by decide +kernel) (by decide +kernel) (by decide +kernel)⟩) (by decide) (by decide) (CF_t C _ q_404) (CF_y C (by decide +kernel)) h1 h2 h3 ?_
      have p_b1 : pI S9 8 b1 := pI_x hE p_b1
      have p_b4 : pI S9 17 b4 := pI_x hE p_b4
      refine lv_astore (lv' := [(4, .ref q9), (0, .ref b1), (1, .int x2), (2, .int x3), (3, .ref b4)]) hx hb dL_meanDamage_16 hl (by decide) rfl (fun ls hl => ?_)
      refine lv_iconst (v := 2) hx hb dL_meanDamage_18 (by decide) ?_
      exact e_i C hr rfl P hw (by omega) (by omega) dL_meanDamage_19
  have p_b1 : pI S1 8 b1 := pI_x hE p_b1
  have p_b4 : pI S1 17 b4 := pI_x hE p_b4
  obtain ⟨h1, hw⟩ := hw
  refine rs_d C P p_b4 h1 dL_meanDamage_8 (fun H locs P => ?_)
  obtain ⟨S3, hS⟩ : ∃ z, z = (sD S1 b4 (0 : Int32).toNatClampNeg r2) := ⟨_, rfl⟩
  have P : PW G A s H locs S0 S3 := by rw [hS]; exact P
  have p_b4 : pI S3 17 b4 := by rw [hS]; exact pI_x ext_sD p_b4
  have hw := hw S3 hS
  refine lv_goto (tgt := 20) hx hb dL_meanDamage_9 (by decide) ?_
  refine lv_iconst (v := 0) hx hb dL_meanDamage_20 (by decide) ?_
  exact e_i C hr rfl P hw (by omega) (by omega) dL_meanDamage_21
def wp_L_meanDamage (Q : Int32 → MS → Prop) (QX : String → MS → Prop) (S : MS) (b1 : Nat) (x2 : Int32) (x3 : Int32) (b4 : Nat) : Prop := wL_meanDamage_0 Q QX S b1 x2 x3 b4
set_option maxHeartbeats 4000000 in
set_option maxRecDepth 100000 in
theorem met_L_meanDamage {l : Launch} (hst : l.stackTraces = false) (G : GP) (sz : Nat) (Q : Int32 → MS → Prop) (QX : String → MS → Prop) (S : MS) (b1 : Nat) (x2 : Int32) (x3 : Int32) (b4 : Nat) (p_b1 : pI S 8 b1) (p_b4 : pI S 17 b4) (hw : wp_L_meanDamage Q QX S b1 x2 x3 b4) : vx_Met l yL_meanDamage (.codeWith yL_meanDamage cL_meanDamage 5 (some .int) [(0, 9, 12, 33), (0, 9, 16, 13)] :: GW) rmL_meanDamage (va_Pc [.ref b1, .int x2, .int x3, .ref b4] (PR G S sz)) (QI G S (FA G S sz) Q) (XX G S (FA G S sz) QX) 3 18 (FA G S sz) := by
  refine st_w (by decide +kernel) hst (fun p e s m below meth c C hr htab P => ?_)
  refine en_m (Nat.le_of_ble_eq_true rfl) (lv := [(0, .ref b1), (1, .int x2), (2, .int x3), (3, .ref b4)]) rfl (fun ls hl => ?_)
  have C : CF p l s m _ meth c "SkirmishGridLaw" cL_meanDamage 5 G (FA G S sz) := C
  exact tL_meanDamage_0 C hr htab Q QX S b1 x2 x3 b4 p_b1 p_b4 P hl (by omega) (by omega) hw
theorem cd_L_meanDamage : yL_meanDamage.cls = RL ∧ yL_meanDamage.cls ≠ "java/lang/invoke/MethodHandle" ∧ yL_meanDamage.cls ≠ "java/lang/invoke/VarHandle" ∧ (parseMethodDescriptor yL_meanDamage.desc).map (fun d => d.parameters.length) = some 4 := by decide +kernel
abbrev rmL_bestTarget : Room := { frames := 8, cells := 2, slots := 12, locals := 184 }
def wL_bestTarget_0 (Q : Int32 → MS → Prop) (QX : String → MS → Prop) (S : MS) (b1 : Nat) (b2 : Nat) : Prop := wp_X8_bestTarget (fun r2 S1 => (vp_in 0 (mN S1 b2) ∧ (∀ S3, S3 = (sJ S1 b2 (0 : Int32).toNatClampNeg ((r2 : Int32).toInt64)) → Q 0 S3))) (fun E S9 => (E = "java/lang/UnsupportedOperationException" ∧ Q 1 S9) ∨ (E = "java/util/NoSuchElementException" ∧ Q 2 S9)) S b1
set_option maxHeartbeats 4000000 in
set_option maxRecDepth 100000 in
theorem tL_bestTarget_0 {p : Program} {l : Launch} {e : Env} {s : State} {m : MethodId} {args : Array Value} {below : List Frame} {meth : Method} {c : Code} {H : Heap} {locs : List Loc} {cells slots : Nat} {G : GP} {A : Nat → Prop} {S0 : MS} {ls : Array Slot} (C : CF p l s m args meth c "SkirmishGridLaw" cL_bestTarget 3 G A) (hr : meth.sig.returnType = (some .int)) (htab : c.exceptionTable.toList = tableOf [(0, 8, 11, 21), (0, 8, 14, 27)]) (Q : Int32 → MS → Prop) (QX : String → MS → Prop) (S : MS) (b1 : Nat) (b2 : Nat) (p_b1 : pI S 8 b1) (p_b2 : pI S 16 b2) (P : PW G A s H locs S0 S) (hl : lv_has ls 3 [(0, .ref b1), (1, .ref b2)]) (hcc : cells + 2 ≤ 2) (hss : slots + 12 ≤ 12) (hw : wL_bestTarget_0 Q QX S b1 b2) : W p l e rmL_bestTarget s m args below meth c H locs cells slots (vx_MQ below (QI G S0 A Q) (XX G S0 A QX) args s 2 12 A) (F0 m 0 ls []) := by
  have hx := CF_x C
  have hb := CF_b C
  unfold wL_bestTarget_0 at hw
  refine lv_aload_n hx hb dL_bestTarget_0 rfl (lv_at hl 1 rfl) ?_
  refine lv_iconst (v := 0) hx hb dL_bestTarget_1 (by decide) ?_
  refine lv_aload_n hx hb dL_bestTarget_2 rfl (lv_at hl 0 rfl) ?_
  refine cl_i C P (run_V C P hl.1 (kd := 8) (met_X8_bestTarget (CF_n C) G H.size _ _ S b1 p_b1 hw) p_b1 (by decide) rfl q_1012 q_1013 q_1014 q_1 q_1015 cd_X8_bestTarget ⟨(Nat.le_of_ble_eq_true rfl), (Nat.le_of_ble_eq_true rfl)⟩ rfl rfl (As := []) (rest := [.int 0, .ref b2]) rfl rfl (Nat.le_of_ble_eq_true rfl) dL_bestTarget_3 ⟨by show cells + 2 ≤ 2; omega, by show slots + 12 ≤ 12; omega⟩) ?_ (fun r2 S1 H locs P hE hw => ?_)
  · intro E S9 H locs ce9 q9 P hE hq h1 h2 h3
    rcases hq with ⟨rfl, hw⟩ | ⟨rfl, hw⟩
    · refine vx_catch (name := "java/lang/UnsupportedOperationException") (CF_o C) ([] : List ExceptionTableEntry) (⟨0, 8, 11, 21⟩ : ExceptionTableEntry) ([⟨0, 8, 14, 27⟩] : List ExceptionTableEntry) (htab.trans rfl) (fun z hz => by cases hz) (by decide) (by decide) (CF_t C _ q_501) (CF_y C (by decide +kernel)) h1 h2 h3 ?_
      have p_b1 : pI S9 8 b1 := pI_x hE p_b1
      have p_b2 : pI S9 16 b2 := pI_x hE p_b2
      refine lv_astore_n (lv' := [(2, .ref q9), (0, .ref b1), (1, .ref b2)]) hx hb dL_bestTarget_11 rfl hl (by decide) rfl (fun ls hl => ?_)
      refine lv_iconst (v := 1) hx hb dL_bestTarget_12 (by decide) ?_
      exact e_i C hr rfl P hw (by omega) (by omega) dL_bestTarget_13
    · refine vx_catch (name := "java/util/NoSuchElementException") (CF_o C) ([⟨0, 8, 11, 21⟩] : List ExceptionTableEntry) (⟨0, 8, 14, 27⟩ : ExceptionTableEntry) ([] : List ExceptionTableEntry) (htab.trans rfl) (by intro z hz; simp only [List.mem_cons, List.not_mem_nil, or_false] at hz; rcases hz with rfl <;> first | exact Or.inr ⟨by decide, "java/lang/UnsupportedOperationException", CF_t C _ q_501, CF_c C (by decide +kernel) (by decide +kernel) (by decide +kernel)⟩) (by decide) (by decide) (CF_t C _ q_636) (CF_y C (by decide +kernel)) h1 h2 h3 ?_
      have p_b1 : pI S9 8 b1 := pI_x hE p_b1
      have p_b2 : pI S9 16 b2 := pI_x hE p_b2
      refine lv_astore_n (lv' := [(2, .ref q9), (0, .ref b1), (1, .ref b2)]) hx hb dL_bestTarget_14 rfl hl (by decide) rfl (fun ls hl => ?_)
      refine lv_iconst (v := 2) hx hb dL_bestTarget_15 (by decide) ?_
      exact e_i C hr rfl P hw (by omega) (by omega) dL_bestTarget_16
  have p_b1 : pI S1 8 b1 := pI_x hE p_b1
  have p_b2 : pI S1 16 b2 := pI_x hE p_b2
  refine lv_i2l (v := (r2 : Int32).toInt64) hx hb dL_bestTarget_6 rfl ?_
  obtain ⟨h1, hw⟩ := hw
  refine rs_j C P p_b2 h1 dL_bestTarget_7 (fun H locs P => ?_)
  obtain ⟨S3, hS⟩ : ∃ z, z = (sJ S1 b2 (0 : Int32).toNatClampNeg ((r2 : Int32).toInt64)) := ⟨_, rfl⟩
  have P : PW G A s H locs S0 S3 := by rw [hS]; exact P
  have p_b2 : pI S3 16 b2 := by rw [hS]; exact pI_x ext_sJ p_b2
  have hw := hw S3 hS
  refine lv_goto (tgt := 17) hx hb dL_bestTarget_8 (by decide) ?_
  refine lv_iconst (v := 0) hx hb dL_bestTarget_17 (by decide) ?_
  exact e_i C hr rfl P hw (by omega) (by omega) dL_bestTarget_18
def wp_L_bestTarget (Q : Int32 → MS → Prop) (QX : String → MS → Prop) (S : MS) (b1 : Nat) (b2 : Nat) : Prop := wL_bestTarget_0 Q QX S b1 b2
set_option maxHeartbeats 4000000 in
set_option maxRecDepth 100000 in
theorem met_L_bestTarget {l : Launch} (hst : l.stackTraces = false) (G : GP) (sz : Nat) (Q : Int32 → MS → Prop) (QX : String → MS → Prop) (S : MS) (b1 : Nat) (b2 : Nat) (p_b1 : pI S 8 b1) (p_b2 : pI S 16 b2) (hw : wp_L_bestTarget Q QX S b1 b2) : vx_Met l yL_bestTarget (.codeWith yL_bestTarget cL_bestTarget 3 (some .int) [(0, 8, 11, 21), (0, 8, 14, 27)] :: GW) rmL_bestTarget (va_Pc [.ref b1, .ref b2] (PR G S sz)) (QI G S (FA G S sz) Q) (XX G S (FA G S sz) QX) 2 12 (FA G S sz) := by
  refine st_w (by decide +kernel) hst (fun p e s m below meth c C hr htab P => ?_)
  refine en_m (Nat.le_of_ble_eq_true rfl) (lv := [(0, .ref b1), (1, .ref b2)]) rfl (fun ls hl => ?_)
  have C : CF p l s m _ meth c "SkirmishGridLaw" cL_bestTarget 3 G (FA G S sz) := C
  exact tL_bestTarget_0 C hr htab Q QX S b1 b2 p_b1 p_b2 P hl (by omega) (by omega) hw
theorem cd_L_bestTarget : yL_bestTarget.cls = RL ∧ yL_bestTarget.cls ≠ "java/lang/invoke/MethodHandle" ∧ yL_bestTarget.cls ≠ "java/lang/invoke/VarHandle" ∧ (parseMethodDescriptor yL_bestTarget.desc).map (fun d => d.parameters.length) = some 2 := by decide +kernel
abbrev rmL_move : Room := { frames := 8, cells := 4, slots := 24, locals := 208 }
def wL_move_0 (Q : Int32 → MS → Prop) (QX : String → MS → Prop) (S : MS) (b1 : Nat) (x2 : Int32) (b3 : Nat) : Prop := wp_X8_move (fun r2 S1 => (vp_in 0 (mN S1 b3) ∧ (∀ S3, S3 = (sJ S1 b3 (0 : Int32).toNatClampNeg ((r2 : Int32).toInt64)) → Q 0 S3))) (fun E S9 => (E = "java/lang/IndexOutOfBoundsException" ∧ Q 1 S9) ∨ (E = "java/lang/UnsupportedOperationException" ∧ Q 2 S9) ∨ (E = "java/lang/IllegalStateException" ∧ Q 3 S9) ∨ (E = "java/lang/IllegalArgumentException" ∧ Q 4 S9)) S b1 x2
set_option maxHeartbeats 4000000 in
set_option maxRecDepth 100000 in
theorem tL_move_0 {p : Program} {l : Launch} {e : Env} {s : State} {m : MethodId} {args : Array Value} {below : List Frame} {meth : Method} {c : Code} {H : Heap} {locs : List Loc} {cells slots : Nat} {G : GP} {A : Nat → Prop} {S0 : MS} {ls : Array Slot} (C : CF p l s m args meth c "SkirmishGridLaw" cL_move 4 G A) (hr : meth.sig.returnType = (some .int)) (htab : c.exceptionTable.toList = tableOf [(0, 9, 12, 33), (0, 9, 15, 21), (0, 9, 18, 15), (0, 9, 21, 13)]) (Q : Int32 → MS → Prop) (QX : String → MS → Prop) (S : MS) (b1 : Nat) (x2 : Int32) (b3 : Nat) (p_b1 : pI S 8 b1) (p_b3 : pI S 16 b3) (P : PW G A s H locs S0 S) (hl : lv_has ls 4 [(0, .ref b1), (1, .int x2), (2, .ref b3)]) (hcc : cells + 4 ≤ 4) (hss : slots + 24 ≤ 24) (hw : wL_move_0 Q QX S b1 x2 b3) : W p l e rmL_move s m args below meth c H locs cells slots (vx_MQ below (QI G S0 A Q) (XX G S0 A QX) args s 4 24 A) (F0 m 0 ls []) := by
  have hx := CF_x C
  have hb := CF_b C
  unfold wL_move_0 at hw
  refine lv_aload_n hx hb dL_move_0 rfl (lv_at hl 2 rfl) ?_
  refine lv_iconst (v := 0) hx hb dL_move_1 (by decide) ?_
  refine lv_aload_n hx hb dL_move_2 rfl (lv_at hl 0 rfl) ?_
  refine lv_iload_n hx hb dL_move_3 rfl (lv_at hl 1 rfl) ?_
  refine cl_i C P (run_V C P hl.1 (kd := 8) (met_X8_move (CF_n C) G H.size _ _ S b1 x2 p_b1 hw) p_b1 (by decide) rfl q_1026 q_1027 q_1028 q_1 q_1029 cd_X8_move ⟨(Nat.le_of_ble_eq_true rfl), (Nat.le_of_ble_eq_true rfl)⟩ rfl rfl (As := [.int x2]) (rest := [.int 0, .ref b3]) rfl rfl (Nat.le_of_ble_eq_true rfl) dL_move_4 ⟨by show cells + 4 ≤ 4; omega, by show slots + 24 ≤ 24; omega⟩) ?_ (fun r2 S1 H locs P hE hw => ?_)
  · intro E S9 H locs ce9 q9 P hE hq h1 h2 h3
    rcases hq with ⟨rfl, hw⟩ | ⟨rfl, hw⟩ | ⟨rfl, hw⟩ | ⟨rfl, hw⟩
    · refine vx_catch (name := "java/lang/IndexOutOfBoundsException") (CF_o C) ([] : List ExceptionTableEntry) (⟨0, 9, 12, 33⟩ : ExceptionTableEntry) ([⟨0, 9, 15, 21⟩, ⟨0, 9, 18, 15⟩, ⟨0, 9, 21, 13⟩] : List ExceptionTableEntry) (htab.trans rfl) (fun z hz => by cases hz) (by decide) (by decide) (CF_t C _ q_660) (CF_y C (by decide +kernel)) h1 h2 h3 ?_
      have p_b1 : pI S9 8 b1 := pI_x hE p_b1
      have p_b3 : pI S9 16 b3 := pI_x hE p_b3
      refine lv_astore_n (lv' := [(3, .ref q9), (0, .ref b1), (1, .int x2), (2, .ref b3)]) hx hb dL_move_12 rfl hl (by decide) rfl (fun ls hl => ?_)
      refine lv_iconst (v := 1) hx hb dL_move_13 (by decide) ?_
      exact e_i C hr rfl P hw (by omega) (by omega) dL_move_14
    · refine vx_catch (name := "java/lang/UnsupportedOperationException") (CF_o C) ([⟨0, 9, 12, 33⟩] : List ExceptionTableEntry) (⟨0, 9, 15, 21⟩ : ExceptionTableEntry) ([⟨0, 9, 18, 15⟩, ⟨0, 9, 21, 13⟩] : List ExceptionTableEntry) (htab.trans rfl) (by intro z hz; simp only [List.mem_cons, List.not_mem_nil, or_false] at hz; rcases hz with rfl <;> first | exact Or.inr ⟨by decide, "java/lang/IndexOutOfBoundsException", CF_t C _ q_660, CF_c C (by decide +kernel) (by decide +kernel) (by decide +kernel)⟩) (by decide) (by decide) (CF_t C _ q_501) (CF_y C (by decide +kernel)) h1 h2 h3 ?_
      have p_b1 : pI S9 8 b1 := pI_x hE p_b1
      have p_b3 : pI S9 16 b3 := pI_x hE p_b3
      refine lv_astore_n (lv' := [(3, .ref q9), (0, .ref b1), (1, .int x2), (2, .ref b3)]) hx hb dL_move_15 rfl hl (by decide) rfl (fun ls hl => ?_)
      refine lv_iconst (v := 2) hx hb dL_move_16 (by decide) ?_
      exact e_i C hr rfl P hw (by omega) (by omega) dL_move_17
    · refine vx_catch (name := "java/lang/IllegalStateException") (CF_o C) ([⟨0, 9, 12, 33⟩, ⟨0, 9, 15, 21⟩] : List ExceptionTableEntry) (⟨0, 9, 18, 15⟩ : ExceptionTableEntry) ([⟨0, 9, 21, 13⟩] : List ExceptionTableEntry) (htab.trans rfl) (by intro z hz; simp only [List.mem_cons, List.not_mem_nil, or_false] at hz; rcases hz with rfl | rfl <;> first | exact Or.inr ⟨by decide, "java/lang/IndexOutOfBoundsException", CF_t C _ q_660, CF_c C (by decide +kernel) (by decide +kernel) (by decide +kernel)⟩ | exact Or.inr ⟨by decide, "java/lang/UnsupportedOperationException", CF_t C _ q_501, CF_c C (by decide +kernel) (by decide +kernel) (by decide +kernel)⟩) (by decide) (by decide) (CF_t C _ q_405) (CF_y C (by decide +kernel)) h1 h2 h3 ?_
      have p_b1 : pI S9 8 b1 := pI_x hE p_b1
      have p_b3 : pI S9 16 b3 := pI_x hE p_b3
      refine lv_astore_n (lv' := [(3, .ref q9), (0, .ref b1), (1, .int x2), (2, .ref b3)]) hx hb dL_move_18 rfl hl (by decide) rfl (fun ls hl => ?_)
      refine lv_iconst (v := 3) hx hb dL_move_19 (by decide) ?_
      exact e_i C hr rfl P hw (by omega) (by omega) dL_move_20
    · refine vx_catch (name := "java/lang/IllegalArgumentException") (CF_o C) ([⟨0, 9, 12, 33⟩, ⟨0, 9, 15, 21⟩, ⟨0, 9, 18, 15⟩] : List ExceptionTableEntry) (⟨0, 9, 21, 13⟩ : ExceptionTableEntry) ([] : List ExceptionTableEntry) (htab.trans rfl) (by intro z hz; simp only [List.mem_cons, List.not_mem_nil, or_false] at hz; rcases hz with rfl | rfl | rfl <;> first | exact Or.inr ⟨by decide, "java/lang/IndexOutOfBoundsException", CF_t C _ q_660, CF_c C (by decide +kernel) (by decide +kernel) (by decide +kernel)⟩ | exact Or.inr ⟨by decide, "java/lang/UnsupportedOperationException", CF_t C _ q_501, CF_c C (by decide +kernel) (by decide +kernel) (by decide +kernel)⟩ | exact Or.inr ⟨by decide, "java/lang/IllegalStateException", CF_t C _ q_405, CF_c C (by decide +kernel) (by decide +kernel) (by decide +kernel)⟩) (by decide) (by decide) (CF_t C _ q_404) (CF_y C (by decide +kernel)) h1 h2 h3 ?_
      have p_b1 : pI S9 8 b1 := pI_x hE p_b1
      have p_b3 : pI S9 16 b3 := pI_x hE p_b3
      refine lv_astore_n (lv' := [(3, .ref q9), (0, .ref b1), (1, .int x2), (2, .ref b3)]) hx hb dL_move_21 rfl hl (by decide) rfl (fun ls hl => ?_)
      refine lv_iconst (v := 4) hx hb dL_move_22 (by decide) ?_
      exact e_i C hr rfl P hw (by omega) (by omega) dL_move_23
  have p_b1 : pI S1 8 b1 := pI_x hE p_b1
  have p_b3 : pI S1 16 b3 := pI_x hE p_b3
  refine lv_i2l (v := (r2 : Int32).toInt64) hx hb dL_move_7 rfl ?_
  obtain ⟨h1, hw⟩ := hw
  refine rs_j C P p_b3 h1 dL_move_8 (fun H locs P => ?_)
  obtain ⟨S3, hS⟩ : ∃ z, z = (sJ S1 b3 (0 : Int32).toNatClampNeg ((r2 : Int32).toInt64)) := ⟨_, rfl⟩
  have P : PW G A s H locs S0 S3 := by rw [hS]; exact P
  have p_b3 : pI S3 16 b3 := by rw [hS]; exact pI_x ext_sJ p_b3
  have hw := hw S3 hS
  refine lv_goto (tgt := 24) hx hb dL_move_9 (by decide) ?_
  refine lv_iconst (v := 0) hx hb dL_move_24 (by decide) ?_
  exact e_i C hr rfl P hw (by omega) (by omega) dL_move_25
def wp_L_move (Q : Int32 → MS → Prop) (QX : String → MS → Prop) (S : MS) (b1 : Nat) (x2 : Int32) (b3 : Nat) : Prop := wL_move_0 Q QX S b1 x2 b3
set_option maxHeartbeats 4000000 in
set_option maxRecDepth 100000 in
theorem met_L_move {l : Launch} (hst : l.stackTraces = false) (G : GP) (sz : Nat) (Q : Int32 → MS → Prop) (QX : String → MS → Prop) (S : MS) (b1 : Nat) (x2 : Int32) (b3 : Nat) (p_b1 : pI S 8 b1) (p_b3 : pI S 16 b3) (hw : wp_L_move Q QX S b1 x2 b3) : vx_Met l yL_move (.codeWith yL_move cL_move 4 (some .int) [(0, 9, 12, 33), (0, 9, 15, 21), (0, 9, 18, 15), (0, 9, 21, 13)] :: GW) rmL_move (va_Pc [.ref b1, .int x2, .ref b3] (PR G S sz)) (QI G S (FA G S sz) Q) (XX G S (FA G S sz) QX) 4 24 (FA G S sz) := by
  refine st_w (by decide +kernel) hst (fun p e s m below meth c C hr htab P => ?_)
  refine en_m (Nat.le_of_ble_eq_true rfl) (lv := [(0, .ref b1), (1, .int x2), (2, .ref b3)]) rfl (fun ls hl => ?_)
  have C : CF p l s m _ meth c "SkirmishGridLaw" cL_move 4 G (FA G S sz) := C
  exact tL_move_0 C hr htab Q QX S b1 x2 b3 p_b1 p_b3 P hl (by omega) (by omega) hw
theorem cd_L_move : yL_move.cls = RL ∧ yL_move.cls ≠ "java/lang/invoke/MethodHandle" ∧ yL_move.cls ≠ "java/lang/invoke/VarHandle" ∧ (parseMethodDescriptor yL_move.desc).map (fun d => d.parameters.length) = some 3 := by decide +kernel
abbrev rmL_attack : Room := { frames := 8, cells := 5, slots := 30, locals := 194 }
def wL_attack_0 (Q : Int32 → MS → Prop) (QX : String → MS → Prop) (S : MS) (b1 : Nat) (x2 : Int32) (b3 : Nat) : Prop := wp_X8_attack (fun r2 S1 => (vp_in 0 (mN S1 b3) ∧ (∀ S3, S3 = (sJ S1 b3 (0 : Int32).toNatClampNeg ((r2 : Int32).toInt64)) → Q 0 S3))) (fun E S9 => (E = "java/lang/IndexOutOfBoundsException" ∧ Q 1 S9) ∨ (E = "java/lang/UnsupportedOperationException" ∧ Q 2 S9) ∨ (E = "java/lang/IllegalStateException" ∧ Q 3 S9) ∨ (E = "java/lang/IllegalArgumentException" ∧ Q 4 S9)) S b1 x2
set_option maxHeartbeats 4000000 in
set_option maxRecDepth 100000 in
theorem tL_attack_0 {p : Program} {l : Launch} {e : Env} {s : State} {m : MethodId} {args : Array Value} {below : List Frame} {meth : Method} {c : Code} {H : Heap} {locs : List Loc} {cells slots : Nat} {G : GP} {A : Nat → Prop} {S0 : MS} {ls : Array Slot} (C : CF p l s m args meth c "SkirmishGridLaw" cL_attack 4 G A) (hr : meth.sig.returnType = (some .int)) (htab : c.exceptionTable.toList = tableOf [(0, 9, 12, 33), (0, 9, 15, 21), (0, 9, 18, 15), (0, 9, 21, 13)]) (Q : Int32 → MS → Prop) (QX : String → MS → Prop) (S : MS) (b1 : Nat) (x2 : Int32) (b3 : Nat) (p_b1 : pI S 8 b1) (p_b3 : pI S 16 b3) (P : PW G A s H locs S0 S) (hl : lv_has ls 4 [(0, .ref b1), (1, .int x2), (2, .ref b3)]) (hcc : cells + 5 ≤ 5) (hss : slots + 30 ≤ 30) (hw : wL_attack_0 Q QX S b1 x2 b3) : W p l e rmL_attack s m args below meth c H locs cells slots (vx_MQ below (QI G S0 A Q) (XX G S0 A QX) args s 5 30 A) (F0 m 0 ls []) := by
  have hx := CF_x C
  have hb := CF_b C
  unfold wL_attack_0 at hw
  refine lv_aload_n hx hb dL_attack_0 rfl (lv_at hl 2 rfl) ?_
  refine lv_iconst (v := 0) hx hb dL_attack_1 (by decide) ?_
  refine lv_aload_n hx hb dL_attack_2 rfl (lv_at hl 0 rfl) ?_
  refine lv_iload_n hx hb dL_attack_3 rfl (lv_at hl 1 rfl) ?_
  refine cl_i C P (run_V C P hl.1 (kd := 8) (met_X8_attack (CF_n C) G H.size _ _ S b1 x2 p_b1 hw) p_b1 (by decide) rfl q_1075 q_1076 q_1077 q_1 q_1078 cd_X8_attack ⟨(Nat.le_of_ble_eq_true rfl), (Nat.le_of_ble_eq_true rfl)⟩ rfl rfl (As := [.int x2]) (rest := [.int 0, .ref b3]) rfl rfl (Nat.le_of_ble_eq_true rfl) dL_attack_4 ⟨by show cells + 5 ≤ 5; omega, by show slots + 30 ≤ 30; omega⟩) ?_ (fun r2 S1 H locs P hE hw => ?_)
  · intro E S9 H locs ce9 q9 P hE hq h1 h2 h3
    rcases hq with ⟨rfl, hw⟩ | ⟨rfl, hw⟩ | ⟨rfl, hw⟩ | ⟨rfl, hw⟩
    · refine vx_catch (name := "java/lang/IndexOutOfBoundsException") (CF_o C) ([] : List ExceptionTableEntry) (⟨0, 9, 12, 33⟩ : ExceptionTableEntry) ([⟨0, 9, 15, 21⟩, ⟨0, 9, 18, 15⟩, ⟨0, 9, 21, 13⟩] : List ExceptionTableEntry) (htab.trans rfl) (fun z hz => by cases hz) (by decide) (by decide) (CF_t C _ q_660) (CF_y C (by decide +kernel)) h1 h2 h3 ?_
      have p_b1 : pI S9 8 b1 := pI_x hE p_b1
      have p_b3 : pI S9 16 b3 := pI_x hE p_b3
      refine lv_astore_n (lv' := [(3, .ref q9), (0, .ref b1), (1, .int x2), (2, .ref b3)]) hx hb dL_attack_12 rfl hl (by decide) rfl (fun ls hl => ?_)
      refine lv_iconst (v := 1) hx hb dL_attack_13 (by decide) ?_
      exact e_i C hr rfl P hw (by omega) (by omega) dL_attack_14
    · refine vx_catch (name := "java/lang/UnsupportedOperationException") (CF_o C) ([⟨0, 9, 12, 33⟩] : List ExceptionTableEntry) (⟨0, 9, 15, 21⟩ : ExceptionTableEntry) ([⟨0, 9, 18, 15⟩, ⟨0, 9, 21, 13⟩] : List ExceptionTableEntry) (htab.trans rfl) (by intro z hz; simp only [List.mem_cons, List.not_mem_nil, or_false] at hz; rcases hz with rfl <;> first | exact Or.inr ⟨by decide, "java/lang/IndexOutOfBoundsException", CF_t C _ q_660, CF_c C (by decide +kernel) (by decide +kernel) (by decide +kernel)⟩) (by decide) (by decide) (CF_t C _ q_501) (CF_y C (by decide +kernel)) h1 h2 h3 ?_
      have p_b1 : pI S9 8 b1 := pI_x hE p_b1
      have p_b3 : pI S9 16 b3 := pI_x hE p_b3
      refine lv_astore_n (lv' := [(3, .ref q9), (0, .ref b1), (1, .int x2), (2, .ref b3)]) hx hb dL_attack_15 rfl hl (by decide) rfl (fun ls hl => ?_)
      refine lv_iconst (v := 2) hx hb dL_attack_16 (by decide) ?_
      exact e_i C hr rfl P hw (by omega) (by omega) dL_attack_17
    · refine vx_catch (name := "java/lang/IllegalStateException") (CF_o C) ([⟨0, 9, 12, 33⟩, ⟨0, 9, 15, 21⟩] : List ExceptionTableEntry) (⟨0, 9, 18, 15⟩ : ExceptionTableEntry) ([⟨0, 9, 21, 13⟩] : List ExceptionTableEntry) (htab.trans rfl) (by intro z hz; simp only [List.mem_cons, List.not_mem_nil, or_false] at hz; rcases hz with rfl | rfl <;> first | exact Or.inr ⟨by decide, "java/lang/IndexOutOfBoundsException", CF_t C _ q_660, CF_c C (by decide +kernel) (by decide +kernel) (by decide +kernel)⟩ | exact Or.inr ⟨by decide, "java/lang/UnsupportedOperationException", CF_t C _ q_501, CF_c C (by decide +kernel) (by decide +kernel) (by decide +kernel)⟩) (by decide) (by decide) (CF_t C _ q_405) (CF_y C (by decide +kernel)) h1 h2 h3 ?_
      have p_b1 : pI S9 8 b1 := pI_x hE p_b1
      have p_b3 : pI S9 16 b3 := pI_x hE p_b3
      refine lv_astore_n (lv' := [(3, .ref q9), (0, .ref b1), (1, .int x2), (2, .ref b3)]) hx hb dL_attack_18 rfl hl (by decide) rfl (fun ls hl => ?_)
      refine lv_iconst (v := 3) hx hb dL_attack_19 (by decide) ?_
      exact e_i C hr rfl P hw (by omega) (by omega) dL_attack_20
    · refine vx_catch (name := "java/lang/IllegalArgumentException") (CF_o C) ([⟨0, 9, 12, 33⟩, ⟨0, 9, 15, 21⟩, ⟨0, 9, 18, 15⟩] : List ExceptionTableEntry) (⟨0, 9, 21, 13⟩ : ExceptionTableEntry) ([] : List ExceptionTableEntry) (htab.trans rfl) (by intro z hz; simp only [List.mem_cons, List.not_mem_nil, or_false] at hz; rcases hz with rfl | rfl | rfl <;> first | exact Or.inr ⟨by decide, "java/lang/IndexOutOfBoundsException", CF_t C _ q_660, CF_c C (by decide +kernel) (by decide +kernel) (by decide +kernel)⟩ | exact Or.inr ⟨by decide, "java/lang/UnsupportedOperationException", CF_t C _ q_501, CF_c C (by decide +kernel) (by decide +kernel) (by decide +kernel)⟩ | exact Or.inr ⟨by decide, "java/lang/IllegalStateException", CF_t C _ q_405, CF_c C (by decide +kernel) (by decide +kernel) (by decide +kernel)⟩) (by decide) (by decide) (CF_t C _ q_404) (CF_y C (by decide +kernel)) h1 h2 h3 ?_
      have p_b1 : pI S9 8 b1 := pI_x hE p_b1
      have p_b3 : pI S9 16 b3 := pI_x hE p_b3
      refine lv_astore_n (lv' := [(3, .ref q9), (0, .ref b1), (1, .int x2), (2, .ref b3)]) hx hb dL_attack_21 rfl hl (by decide) rfl (fun ls hl => ?_)
      refine lv_iconst (v := 4) hx hb dL_attack_22 (by decide) ?_
      exact e_i C hr rfl P hw (by omega) (by omega) dL_attack_23
  have p_b1 : pI S1 8 b1 := pI_x hE p_b1
  have p_b3 : pI S1 16 b3 := pI_x hE p_b3
  refine lv_i2l (v := (r2 : Int32).toInt64) hx hb dL_attack_7 rfl ?_
  obtain ⟨h1, hw⟩ := hw
  refine rs_j C P p_b3 h1 dL_attack_8 (fun H locs P => ?_)
  obtain ⟨S3, hS⟩ : ∃ z, z = (sJ S1 b3 (0 : Int32).toNatClampNeg ((r2 : Int32).toInt64)) := ⟨_, rfl⟩
  have P : PW G A s H locs S0 S3 := by rw [hS]; exact P
  have p_b3 : pI S3 16 b3 := by rw [hS]; exact pI_x ext_sJ p_b3
  have hw := hw S3 hS
  refine lv_goto (tgt := 24) hx hb dL_attack_9 (by decide) ?_
  refine lv_iconst (v := 0) hx hb dL_attack_24 (by decide) ?_
  exact e_i C hr rfl P hw (by omega) (by omega) dL_attack_25
def wp_L_attack (Q : Int32 → MS → Prop) (QX : String → MS → Prop) (S : MS) (b1 : Nat) (x2 : Int32) (b3 : Nat) : Prop := wL_attack_0 Q QX S b1 x2 b3
set_option maxHeartbeats 4000000 in
set_option maxRecDepth 100000 in
theorem met_L_attack {l : Launch} (hst : l.stackTraces = false) (G : GP) (sz : Nat) (Q : Int32 → MS → Prop) (QX : String → MS → Prop) (S : MS) (b1 : Nat) (x2 : Int32) (b3 : Nat) (p_b1 : pI S 8 b1) (p_b3 : pI S 16 b3) (hw : wp_L_attack Q QX S b1 x2 b3) : vx_Met l yL_attack (.codeWith yL_attack cL_attack 4 (some .int) [(0, 9, 12, 33), (0, 9, 15, 21), (0, 9, 18, 15), (0, 9, 21, 13)] :: GW) rmL_attack (va_Pc [.ref b1, .int x2, .ref b3] (PR G S sz)) (QI G S (FA G S sz) Q) (XX G S (FA G S sz) QX) 5 30 (FA G S sz) := by
  refine st_w (by decide +kernel) hst (fun p e s m below meth c C hr htab P => ?_)
  refine en_m (Nat.le_of_ble_eq_true rfl) (lv := [(0, .ref b1), (1, .int x2), (2, .ref b3)]) rfl (fun ls hl => ?_)
  have C : CF p l s m _ meth c "SkirmishGridLaw" cL_attack 4 G (FA G S sz) := C
  exact tL_attack_0 C hr htab Q QX S b1 x2 b3 p_b1 p_b3 P hl (by omega) (by omega) hw
theorem cd_L_attack : yL_attack.cls = RL ∧ yL_attack.cls ≠ "java/lang/invoke/MethodHandle" ∧ yL_attack.cls ≠ "java/lang/invoke/VarHandle" ∧ (parseMethodDescriptor yL_attack.desc).map (fun d => d.parameters.length) = some 3 := by decide +kernel
abbrev rmL_throwAt : Room := { frames := 8, cells := 4, slots := 24, locals := 194 }
def wL_throwAt_0 (Q : Int32 → MS → Prop) (QX : String → MS → Prop) (S : MS) (b1 : Nat) (x2 : Int32) (b3 : Nat) : Prop := wp_X8_throwAt (fun r2 S1 => (vp_in 0 (mN S1 b3) ∧ (∀ S3, S3 = (sJ S1 b3 (0 : Int32).toNatClampNeg ((r2 : Int32).toInt64)) → Q 0 S3))) (fun E S9 => (E = "java/lang/IndexOutOfBoundsException" ∧ Q 1 S9) ∨ (E = "java/lang/UnsupportedOperationException" ∧ Q 2 S9) ∨ (E = "java/lang/IllegalStateException" ∧ Q 3 S9) ∨ (E = "java/lang/IllegalArgumentException" ∧ Q 4 S9)) S b1 x2
set_option maxHeartbeats 4000000 in
set_option maxRecDepth 100000 in
theorem tL_throwAt_0 {p : Program} {l : Launch} {e : Env} {s : State} {m : MethodId} {args : Array Value} {below : List Frame} {meth : Method} {c : Code} {H : Heap} {locs : List Loc} {cells slots : Nat} {G : GP} {A : Nat → Prop} {S0 : MS} {ls : Array Slot} (C : CF p l s m args meth c "SkirmishGridLaw" cL_throwAt 4 G A) (hr : meth.sig.returnType = (some .int)) (htab : c.exceptionTable.toList = tableOf [(0, 9, 12, 33), (0, 9, 15, 21), (0, 9, 18, 15), (0, 9, 21, 13)]) (Q : Int32 → MS → Prop) (QX : String → MS → Prop) (S : MS) (b1 : Nat) (x2 : Int32) (b3 : Nat) (p_b1 : pI S 8 b1) (p_b3 : pI S 16 b3) (P : PW G A s H locs S0 S) (hl : lv_has ls 4 [(0, .ref b1), (1, .int x2), (2, .ref b3)]) (hcc : cells + 4 ≤ 4) (hss : slots + 24 ≤ 24) (hw : wL_throwAt_0 Q QX S b1 x2 b3) : W p l e rmL_throwAt s m args below meth c H locs cells slots (vx_MQ below (QI G S0 A Q) (XX G S0 A QX) args s 4 24 A) (F0 m 0 ls []) := by
  have hx := CF_x C
  have hb := CF_b C
  unfold wL_throwAt_0 at hw
  refine lv_aload_n hx hb dL_throwAt_0 rfl (lv_at hl 2 rfl) ?_
  refine lv_iconst (v := 0) hx hb dL_throwAt_1 (by decide) ?_
  refine lv_aload_n hx hb dL_throwAt_2 rfl (lv_at hl 0 rfl) ?_
  refine lv_iload_n hx hb dL_throwAt_3 rfl (lv_at hl 1 rfl) ?_
  refine cl_i C P (run_V C P hl.1 (kd := 8) (met_X8_throwAt (CF_n C) G H.size _ _ S b1 x2 p_b1 hw) p_b1 (by decide) rfl q_1091 q_1092 q_1093 q_1 q_1094 cd_X8_throwAt ⟨(Nat.le_of_ble_eq_true rfl), (Nat.le_of_ble_eq_true rfl)⟩ rfl rfl (As := [.int x2]) (rest := [.int 0, .ref b3]) rfl rfl (Nat.le_of_ble_eq_true rfl) dL_throwAt_4 ⟨by show cells + 4 ≤ 4; omega, by show slots + 24 ≤ 24; omega⟩) ?_ (fun r2 S1 H locs P hE hw => ?_)
  · intro E S9 H locs ce9 q9 P hE hq h1 h2 h3
    rcases hq with ⟨rfl, hw⟩ | ⟨rfl, hw⟩ | ⟨rfl, hw⟩ | ⟨rfl, hw⟩
    · refine vx_catch (name := "java/lang/IndexOutOfBoundsException") (CF_o C) ([] : List ExceptionTableEntry) (⟨0, 9, 12, 33⟩ : ExceptionTableEntry) ([⟨0, 9, 15, 21⟩, ⟨0, 9, 18, 15⟩, ⟨0, 9, 21, 13⟩] : List ExceptionTableEntry) (htab.trans rfl) (fun z hz => by cases hz) (by decide) (by decide) (CF_t C _ q_660) (CF_y C (by decide +kernel)) h1 h2 h3 ?_
      have p_b1 : pI S9 8 b1 := pI_x hE p_b1
      have p_b3 : pI S9 16 b3 := pI_x hE p_b3
      refine lv_astore_n (lv' := [(3, .ref q9), (0, .ref b1), (1, .int x2), (2, .ref b3)]) hx hb dL_throwAt_12 rfl hl (by decide) rfl (fun ls hl => ?_)
      refine lv_iconst (v := 1) hx hb dL_throwAt_13 (by decide) ?_
      exact e_i C hr rfl P hw (by omega) (by omega) dL_throwAt_14
    · refine vx_catch (name := "java/lang/UnsupportedOperationException") (CF_o C) ([⟨0, 9, 12, 33⟩] : List ExceptionTableEntry) (⟨0, 9, 15, 21⟩ : ExceptionTableEntry) ([⟨0, 9, 18, 15⟩, ⟨0, 9, 21, 13⟩] : List ExceptionTableEntry) (htab.trans rfl) (by intro z hz; simp only [List.mem_cons, List.not_mem_nil, or_false] at hz; rcases hz with rfl <;> first | exact Or.inr ⟨by decide, "java/lang/IndexOutOfBoundsException", CF_t C _ q_660, CF_c C (by decide +kernel) (by decide +kernel) (by decide +kernel)⟩) (by decide) (by decide) (CF_t C _ q_501) (CF_y C (by decide +kernel)) h1 h2 h3 ?_
      have p_b1 : pI S9 8 b1 := pI_x hE p_b1
      have p_b3 : pI S9 16 b3 := pI_x hE p_b3
      refine lv_astore_n (lv' := [(3, .ref q9), (0, .ref b1), (1, .int x2), (2, .ref b3)]) hx hb dL_throwAt_15 rfl hl (by decide) rfl (fun ls hl => ?_)
      refine lv_iconst (v := 2) hx hb dL_throwAt_16 (by decide) ?_
      exact e_i C hr rfl P hw (by omega) (by omega) dL_throwAt_17
    · refine vx_catch (name := "java/lang/IllegalStateException") (CF_o C) ([⟨0, 9, 12, 33⟩, ⟨0, 9, 15, 21⟩] : List ExceptionTableEntry) (⟨0, 9, 18, 15⟩ : ExceptionTableEntry) ([⟨0, 9, 21, 13⟩] : List ExceptionTableEntry) (htab.trans rfl) (by intro z hz; simp only [List.mem_cons, List.not_mem_nil, or_false] at hz; rcases hz with rfl | rfl <;> first | exact Or.inr ⟨by decide, "java/lang/IndexOutOfBoundsException", CF_t C _ q_660, CF_c C (by decide +kernel) (by decide +kernel) (by decide +kernel)⟩ | exact Or.inr ⟨by decide, "java/lang/UnsupportedOperationException", CF_t C _ q_501, CF_c C (by decide +kernel) (by decide +kernel) (by decide +kernel)⟩) (by decide) (by decide) (CF_t C _ q_405) (CF_y C (by decide +kernel)) h1 h2 h3 ?_
      have p_b1 : pI S9 8 b1 := pI_x hE p_b1
      have p_b3 : pI S9 16 b3 := pI_x hE p_b3
      refine lv_astore_n (lv' := [(3, .ref q9), (0, .ref b1), (1, .int x2), (2, .ref b3)]) hx hb dL_throwAt_18 rfl hl (by decide) rfl (fun ls hl => ?_)
      refine lv_iconst (v := 3) hx hb dL_throwAt_19 (by decide) ?_
      exact e_i C hr rfl P hw (by omega) (by omega) dL_throwAt_20
    · refine vx_catch (name := "java/lang/IllegalArgumentException") (CF_o C) ([⟨0, 9, 12, 33⟩, ⟨0, 9, 15, 21⟩, ⟨0, 9, 18, 15⟩] : List ExceptionTableEntry) (⟨0, 9, 21, 13⟩ : ExceptionTableEntry) ([] : List ExceptionTableEntry) (htab.trans rfl) (by intro z hz; simp only [List.mem_cons, List.not_mem_nil, or_false] at hz; rcases hz with rfl | rfl | rfl <;> first | exact Or.inr ⟨by decide, "java/lang/IndexOutOfBoundsException", CF_t C _ q_660, CF_c C (by decide +kernel) (by decide +kernel) (by decide +kernel)⟩ | exact Or.inr ⟨by decide, "java/lang/UnsupportedOperationException", CF_t C _ q_501, CF_c C (by decide +kernel) (by decide +kernel) (by decide +kernel)⟩ | exact Or.inr ⟨by decide, "java/lang/IllegalStateException", CF_t C _ q_405, CF_c C (by decide +kernel) (by decide +kernel) (by decide +kernel)⟩) (by decide) (by decide) (CF_t C _ q_404) (CF_y C (by decide +kernel)) h1 h2 h3 ?_
      have p_b1 : pI S9 8 b1 := pI_x hE p_b1
      have p_b3 : pI S9 16 b3 := pI_x hE p_b3
      refine lv_astore_n (lv' := [(3, .ref q9), (0, .ref b1), (1, .int x2), (2, .ref b3)]) hx hb dL_throwAt_21 rfl hl (by decide) rfl (fun ls hl => ?_)
      refine lv_iconst (v := 4) hx hb dL_throwAt_22 (by decide) ?_
      exact e_i C hr rfl P hw (by omega) (by omega) dL_throwAt_23
  have p_b1 : pI S1 8 b1 := pI_x hE p_b1
  have p_b3 : pI S1 16 b3 := pI_x hE p_b3
  refine lv_i2l (v := (r2 : Int32).toInt64) hx hb dL_throwAt_7 rfl ?_
  obtain ⟨h1, hw⟩ := hw
  refine rs_j C P p_b3 h1 dL_throwAt_8 (fun H locs P => ?_)
  obtain ⟨S3, hS⟩ : ∃ z, z = (sJ S1 b3 (0 : Int32).toNatClampNeg ((r2 : Int32).toInt64)) := ⟨_, rfl⟩
  have P : PW G A s H locs S0 S3 := by rw [hS]; exact P
  have p_b3 : pI S3 16 b3 := by rw [hS]; exact pI_x ext_sJ p_b3
  have hw := hw S3 hS
  refine lv_goto (tgt := 24) hx hb dL_throwAt_9 (by decide) ?_
  refine lv_iconst (v := 0) hx hb dL_throwAt_24 (by decide) ?_
  exact e_i C hr rfl P hw (by omega) (by omega) dL_throwAt_25
def wp_L_throwAt (Q : Int32 → MS → Prop) (QX : String → MS → Prop) (S : MS) (b1 : Nat) (x2 : Int32) (b3 : Nat) : Prop := wL_throwAt_0 Q QX S b1 x2 b3
set_option maxHeartbeats 4000000 in
set_option maxRecDepth 100000 in
theorem met_L_throwAt {l : Launch} (hst : l.stackTraces = false) (G : GP) (sz : Nat) (Q : Int32 → MS → Prop) (QX : String → MS → Prop) (S : MS) (b1 : Nat) (x2 : Int32) (b3 : Nat) (p_b1 : pI S 8 b1) (p_b3 : pI S 16 b3) (hw : wp_L_throwAt Q QX S b1 x2 b3) : vx_Met l yL_throwAt (.codeWith yL_throwAt cL_throwAt 4 (some .int) [(0, 9, 12, 33), (0, 9, 15, 21), (0, 9, 18, 15), (0, 9, 21, 13)] :: GW) rmL_throwAt (va_Pc [.ref b1, .int x2, .ref b3] (PR G S sz)) (QI G S (FA G S sz) Q) (XX G S (FA G S sz) QX) 4 24 (FA G S sz) := by
  refine st_w (by decide +kernel) hst (fun p e s m below meth c C hr htab P => ?_)
  refine en_m (Nat.le_of_ble_eq_true rfl) (lv := [(0, .ref b1), (1, .int x2), (2, .ref b3)]) rfl (fun ls hl => ?_)
  have C : CF p l s m _ meth c "SkirmishGridLaw" cL_throwAt 4 G (FA G S sz) := C
  exact tL_throwAt_0 C hr htab Q QX S b1 x2 b3 p_b1 p_b3 P hl (by omega) (by omega) hw
theorem cd_L_throwAt : yL_throwAt.cls = RL ∧ yL_throwAt.cls ≠ "java/lang/invoke/MethodHandle" ∧ yL_throwAt.cls ≠ "java/lang/invoke/VarHandle" ∧ (parseMethodDescriptor yL_throwAt.desc).map (fun d => d.parameters.length) = some 3 := by decide +kernel
abbrev rmL_guard : Room := { frames := 8, cells := 3, slots := 18, locals := 167 }
def wL_guard_0 (Q : Int32 → MS → Prop) (QX : String → MS → Prop) (S : MS) (b1 : Nat) (b2 : Nat) : Prop := wp_X8_guard (fun r2 S1 => (vp_in 0 (mN S1 b2) ∧ (∀ S3, S3 = (sJ S1 b2 (0 : Int32).toNatClampNeg ((r2 : Int32).toInt64)) → Q 0 S3))) (fun E S9 => (E = "java/lang/UnsupportedOperationException" ∧ Q 1 S9) ∨ (E = "java/lang/IllegalStateException" ∧ Q 2 S9)) S b1
set_option maxHeartbeats 4000000 in
set_option maxRecDepth 100000 in
theorem tL_guard_0 {p : Program} {l : Launch} {e : Env} {s : State} {m : MethodId} {args : Array Value} {below : List Frame} {meth : Method} {c : Code} {H : Heap} {locs : List Loc} {cells slots : Nat} {G : GP} {A : Nat → Prop} {S0 : MS} {ls : Array Slot} (C : CF p l s m args meth c "SkirmishGridLaw" cL_guard 3 G A) (hr : meth.sig.returnType = (some .int)) (htab : c.exceptionTable.toList = tableOf [(0, 8, 11, 21), (0, 8, 14, 15)]) (Q : Int32 → MS → Prop) (QX : String → MS → Prop) (S : MS) (b1 : Nat) (b2 : Nat) (p_b1 : pI S 8 b1) (p_b2 : pI S 16 b2) (P : PW G A s H locs S0 S) (hl : lv_has ls 3 [(0, .ref b1), (1, .ref b2)]) (hcc : cells + 3 ≤ 3) (hss : slots + 18 ≤ 18) (hw : wL_guard_0 Q QX S b1 b2) : W p l e rmL_guard s m args below meth c H locs cells slots (vx_MQ below (QI G S0 A Q) (XX G S0 A QX) args s 3 18 A) (F0 m 0 ls []) := by
  have hx := CF_x C
  have hb := CF_b C
  unfold wL_guard_0 at hw
  refine lv_aload_n hx hb dL_guard_0 rfl (lv_at hl 1 rfl) ?_
  refine lv_iconst (v := 0) hx hb dL_guard_1 (by decide) ?_
  refine lv_aload_n hx hb dL_guard_2 rfl (lv_at hl 0 rfl) ?_
  refine cl_i C P (run_V C P hl.1 (kd := 8) (met_X8_guard (CF_n C) G H.size _ _ S b1 p_b1 hw) p_b1 (by decide) rfl q_1112 q_1113 q_1114 q_1 q_1115 cd_X8_guard ⟨(Nat.le_of_ble_eq_true rfl), (Nat.le_of_ble_eq_true rfl)⟩ rfl rfl (As := []) (rest := [.int 0, .ref b2]) rfl rfl (Nat.le_of_ble_eq_true rfl) dL_guard_3 ⟨by show cells + 3 ≤ 3; omega, by show slots + 18 ≤ 18; omega⟩) ?_ (fun r2 S1 H locs P hE hw => ?_)
  · intro E S9 H locs ce9 q9 P hE hq h1 h2 h3
    rcases hq with ⟨rfl, hw⟩ | ⟨rfl, hw⟩
    · refine vx_catch (name := "java/lang/UnsupportedOperationException") (CF_o C) ([] : List ExceptionTableEntry) (⟨0, 8, 11, 21⟩ : ExceptionTableEntry) ([⟨0, 8, 14, 15⟩] : List ExceptionTableEntry) (htab.trans rfl) (fun z hz => by cases hz) (by decide) (by decide) (CF_t C _ q_501) (CF_y C (by decide +kernel)) h1 h2 h3 ?_
      have p_b1 : pI S9 8 b1 := pI_x hE p_b1
      have p_b2 : pI S9 16 b2 := pI_x hE p_b2
      refine lv_astore_n (lv' := [(2, .ref q9), (0, .ref b1), (1, .ref b2)]) hx hb dL_guard_11 rfl hl (by decide) rfl (fun ls hl => ?_)
      refine lv_iconst (v := 1) hx hb dL_guard_12 (by decide) ?_
      exact e_i C hr rfl P hw (by omega) (by omega) dL_guard_13
    · refine vx_catch (name := "java/lang/IllegalStateException") (CF_o C) ([⟨0, 8, 11, 21⟩] : List ExceptionTableEntry) (⟨0, 8, 14, 15⟩ : ExceptionTableEntry) ([] : List ExceptionTableEntry) (htab.trans rfl) (by intro z hz; simp only [List.mem_cons, List.not_mem_nil, or_false] at hz; rcases hz with rfl <;> first | exact Or.inr ⟨by decide, "java/lang/UnsupportedOperationException", CF_t C _ q_501, CF_c C (by decide +kernel) (by decide +kernel) (by decide +kernel)⟩) (by decide) (by decide) (CF_t C _ q_405) (CF_y C (by decide +kernel)) h1 h2 h3 ?_
      have p_b1 : pI S9 8 b1 := pI_x hE p_b1
      have p_b2 : pI S9 16 b2 := pI_x hE p_b2
      refine lv_astore_n (lv' := [(2, .ref q9), (0, .ref b1), (1, .ref b2)]) hx hb dL_guard_14 rfl hl (by decide) rfl (fun ls hl => ?_)
      refine lv_iconst (v := 2) hx hb dL_guard_15 (by decide) ?_
      exact e_i C hr rfl P hw (by omega) (by omega) dL_guard_16
  have p_b1 : pI S1 8 b1 := pI_x hE p_b1
  have p_b2 : pI S1 16 b2 := pI_x hE p_b2
  refine lv_i2l (v := (r2 : Int32).toInt64) hx hb dL_guard_6 rfl ?_
  obtain ⟨h1, hw⟩ := hw
  refine rs_j C P p_b2 h1 dL_guard_7 (fun H locs P => ?_)
  obtain ⟨S3, hS⟩ : ∃ z, z = (sJ S1 b2 (0 : Int32).toNatClampNeg ((r2 : Int32).toInt64)) := ⟨_, rfl⟩
  have P : PW G A s H locs S0 S3 := by rw [hS]; exact P
  have p_b2 : pI S3 16 b2 := by rw [hS]; exact pI_x ext_sJ p_b2
  have hw := hw S3 hS
  refine lv_goto (tgt := 17) hx hb dL_guard_8 (by decide) ?_
  refine lv_iconst (v := 0) hx hb dL_guard_17 (by decide) ?_
  exact e_i C hr rfl P hw (by omega) (by omega) dL_guard_18
def wp_L_guard (Q : Int32 → MS → Prop) (QX : String → MS → Prop) (S : MS) (b1 : Nat) (b2 : Nat) : Prop := wL_guard_0 Q QX S b1 b2
set_option maxHeartbeats 4000000 in
set_option maxRecDepth 100000 in
theorem met_L_guard {l : Launch} (hst : l.stackTraces = false) (G : GP) (sz : Nat) (Q : Int32 → MS → Prop) (QX : String → MS → Prop) (S : MS) (b1 : Nat) (b2 : Nat) (p_b1 : pI S 8 b1) (p_b2 : pI S 16 b2) (hw : wp_L_guard Q QX S b1 b2) : vx_Met l yL_guard (.codeWith yL_guard cL_guard 3 (some .int) [(0, 8, 11, 21), (0, 8, 14, 15)] :: GW) rmL_guard (va_Pc [.ref b1, .ref b2] (PR G S sz)) (QI G S (FA G S sz) Q) (XX G S (FA G S sz) QX) 3 18 (FA G S sz) := by
  refine st_w (by decide +kernel) hst (fun p e s m below meth c C hr htab P => ?_)
  refine en_m (Nat.le_of_ble_eq_true rfl) (lv := [(0, .ref b1), (1, .ref b2)]) rfl (fun ls hl => ?_)
  have C : CF p l s m _ meth c "SkirmishGridLaw" cL_guard 3 G (FA G S sz) := C
  exact tL_guard_0 C hr htab Q QX S b1 b2 p_b1 p_b2 P hl (by omega) (by omega) hw
theorem cd_L_guard : yL_guard.cls = RL ∧ yL_guard.cls ≠ "java/lang/invoke/MethodHandle" ∧ yL_guard.cls ≠ "java/lang/invoke/VarHandle" ∧ (parseMethodDescriptor yL_guard.desc).map (fun d => d.parameters.length) = some 2 := by decide +kernel
abbrev rmL_watch : Room := { frames := 8, cells := 3, slots := 18, locals := 167 }
def wL_watch_0 (Q : Int32 → MS → Prop) (QX : String → MS → Prop) (S : MS) (b1 : Nat) (b2 : Nat) : Prop := wp_X8_watch (fun r2 S1 => (vp_in 0 (mN S1 b2) ∧ (∀ S3, S3 = (sJ S1 b2 (0 : Int32).toNatClampNeg ((r2 : Int32).toInt64)) → Q 0 S3))) (fun E S9 => (E = "java/lang/UnsupportedOperationException" ∧ Q 1 S9) ∨ (E = "java/lang/IllegalStateException" ∧ Q 2 S9)) S b1
set_option maxHeartbeats 4000000 in
set_option maxRecDepth 100000 in
theorem tL_watch_0 {p : Program} {l : Launch} {e : Env} {s : State} {m : MethodId} {args : Array Value} {below : List Frame} {meth : Method} {c : Code} {H : Heap} {locs : List Loc} {cells slots : Nat} {G : GP} {A : Nat → Prop} {S0 : MS} {ls : Array Slot} (C : CF p l s m args meth c "SkirmishGridLaw" cL_watch 3 G A) (hr : meth.sig.returnType = (some .int)) (htab : c.exceptionTable.toList = tableOf [(0, 8, 11, 21), (0, 8, 14, 15)]) (Q : Int32 → MS → Prop) (QX : String → MS → Prop) (S : MS) (b1 : Nat) (b2 : Nat) (p_b1 : pI S 8 b1) (p_b2 : pI S 16 b2) (P : PW G A s H locs S0 S) (hl : lv_has ls 3 [(0, .ref b1), (1, .ref b2)]) (hcc : cells + 3 ≤ 3) (hss : slots + 18 ≤ 18) (hw : wL_watch_0 Q QX S b1 b2) : W p l e rmL_watch s m args below meth c H locs cells slots (vx_MQ below (QI G S0 A Q) (XX G S0 A QX) args s 3 18 A) (F0 m 0 ls []) := by
  have hx := CF_x C
  have hb := CF_b C
  unfold wL_watch_0 at hw
  refine lv_aload_n hx hb dL_watch_0 rfl (lv_at hl 1 rfl) ?_
  refine lv_iconst (v := 0) hx hb dL_watch_1 (by decide) ?_
  refine lv_aload_n hx hb dL_watch_2 rfl (lv_at hl 0 rfl) ?_
  refine cl_i C P (run_V C P hl.1 (kd := 8) (met_X8_watch (CF_n C) G H.size _ _ S b1 p_b1 hw) p_b1 (by decide) rfl q_1124 q_1125 q_1126 q_1 q_1127 cd_X8_watch ⟨(Nat.le_of_ble_eq_true rfl), (Nat.le_of_ble_eq_true rfl)⟩ rfl rfl (As := []) (rest := [.int 0, .ref b2]) rfl rfl (Nat.le_of_ble_eq_true rfl) dL_watch_3 ⟨by show cells + 3 ≤ 3; omega, by show slots + 18 ≤ 18; omega⟩) ?_ (fun r2 S1 H locs P hE hw => ?_)
  · intro E S9 H locs ce9 q9 P hE hq h1 h2 h3
    rcases hq with ⟨rfl, hw⟩ | ⟨rfl, hw⟩
    · refine vx_catch (name := "java/lang/UnsupportedOperationException") (CF_o C) ([] : List ExceptionTableEntry) (⟨0, 8, 11, 21⟩ : ExceptionTableEntry) ([⟨0, 8, 14, 15⟩] : List ExceptionTableEntry) (htab.trans rfl) (fun z hz => by cases hz) (by decide) (by decide) (CF_t C _ q_501) (CF_y C (by decide +kernel)) h1 h2 h3 ?_
      have p_b1 : pI S9 8 b1 := pI_x hE p_b1
      have p_b2 : pI S9 16 b2 := pI_x hE p_b2
      refine lv_astore_n (lv' := [(2, .ref q9), (0, .ref b1), (1, .ref b2)]) hx hb dL_watch_11 rfl hl (by decide) rfl (fun ls hl => ?_)
      refine lv_iconst (v := 1) hx hb dL_watch_12 (by decide) ?_
      exact e_i C hr rfl P hw (by omega) (by omega) dL_watch_13
    · refine vx_catch (name := "java/lang/IllegalStateException") (CF_o C) ([⟨0, 8, 11, 21⟩] : List ExceptionTableEntry) (⟨0, 8, 14, 15⟩ : ExceptionTableEntry) ([] : List ExceptionTableEntry) (htab.trans rfl) (by intro z hz; simp only [List.mem_cons, List.not_mem_nil, or_false] at hz; rcases hz with rfl <;> first | exact Or.inr ⟨by decide, "java/lang/UnsupportedOperationException", CF_t C _ q_501, CF_c C (by decide +kernel) (by decide +kernel) (by decide +kernel)⟩) (by decide) (by decide) (CF_t C _ q_405) (CF_y C (by decide +kernel)) h1 h2 h3 ?_
      have p_b1 : pI S9 8 b1 := pI_x hE p_b1
      have p_b2 : pI S9 16 b2 := pI_x hE p_b2
      refine lv_astore_n (lv' := [(2, .ref q9), (0, .ref b1), (1, .ref b2)]) hx hb dL_watch_14 rfl hl (by decide) rfl (fun ls hl => ?_)
      refine lv_iconst (v := 2) hx hb dL_watch_15 (by decide) ?_
      exact e_i C hr rfl P hw (by omega) (by omega) dL_watch_16
  have p_b1 : pI S1 8 b1 := pI_x hE p_b1
  have p_b2 : pI S1 16 b2 := pI_x hE p_b2
  refine lv_i2l (v := (r2 : Int32).toInt64) hx hb dL_watch_6 rfl ?_
  obtain ⟨h1, hw⟩ := hw
  refine rs_j C P p_b2 h1 dL_watch_7 (fun H locs P => ?_)
  obtain ⟨S3, hS⟩ : ∃ z, z = (sJ S1 b2 (0 : Int32).toNatClampNeg ((r2 : Int32).toInt64)) := ⟨_, rfl⟩
  have P : PW G A s H locs S0 S3 := by rw [hS]; exact P
  have p_b2 : pI S3 16 b2 := by rw [hS]; exact pI_x ext_sJ p_b2
  have hw := hw S3 hS
  refine lv_goto (tgt := 17) hx hb dL_watch_8 (by decide) ?_
  refine lv_iconst (v := 0) hx hb dL_watch_17 (by decide) ?_
  exact e_i C hr rfl P hw (by omega) (by omega) dL_watch_18
def wp_L_watch (Q : Int32 → MS → Prop) (QX : String → MS → Prop) (S : MS) (b1 : Nat) (b2 : Nat) : Prop := wL_watch_0 Q QX S b1 b2
set_option maxHeartbeats 4000000 in
set_option maxRecDepth 100000 in
theorem met_L_watch {l : Launch} (hst : l.stackTraces = false) (G : GP) (sz : Nat) (Q : Int32 → MS → Prop) (QX : String → MS → Prop) (S : MS) (b1 : Nat) (b2 : Nat) (p_b1 : pI S 8 b1) (p_b2 : pI S 16 b2) (hw : wp_L_watch Q QX S b1 b2) : vx_Met l yL_watch (.codeWith yL_watch cL_watch 3 (some .int) [(0, 8, 11, 21), (0, 8, 14, 15)] :: GW) rmL_watch (va_Pc [.ref b1, .ref b2] (PR G S sz)) (QI G S (FA G S sz) Q) (XX G S (FA G S sz) QX) 3 18 (FA G S sz) := by
  refine st_w (by decide +kernel) hst (fun p e s m below meth c C hr htab P => ?_)
  refine en_m (Nat.le_of_ble_eq_true rfl) (lv := [(0, .ref b1), (1, .ref b2)]) rfl (fun ls hl => ?_)
  have C : CF p l s m _ meth c "SkirmishGridLaw" cL_watch 3 G (FA G S sz) := C
  exact tL_watch_0 C hr htab Q QX S b1 b2 p_b1 p_b2 P hl (by omega) (by omega) hw
theorem cd_L_watch : yL_watch.cls = RL ∧ yL_watch.cls ≠ "java/lang/invoke/MethodHandle" ∧ yL_watch.cls ≠ "java/lang/invoke/VarHandle" ∧ (parseMethodDescriptor yL_watch.desc).map (fun d => d.parameters.length) = some 2 := by decide +kernel
abbrev rmL_reload : Room := { frames := 8, cells := 2, slots := 12, locals := 166 }
def wL_reload_0 (Q : Int32 → MS → Prop) (QX : String → MS → Prop) (S : MS) (b1 : Nat) (b2 : Nat) : Prop := wp_X8_reload (fun r2 S1 => (vp_in 0 (mN S1 b2) ∧ (∀ S3, S3 = (sJ S1 b2 (0 : Int32).toNatClampNeg ((r2 : Int32).toInt64)) → Q 0 S3))) (fun E S9 => (E = "java/lang/UnsupportedOperationException" ∧ Q 1 S9) ∨ (E = "java/lang/IllegalStateException" ∧ Q 2 S9)) S b1
set_option maxHeartbeats 4000000 in
set_option maxRecDepth 100000 in
theorem tL_reload_0 {p : Program} {l : Launch} {e : Env} {s : State} {m : MethodId} {args : Array Value} {below : List Frame} {meth : Method} {c : Code} {H : Heap} {locs : List Loc} {cells slots : Nat} {G : GP} {A : Nat → Prop} {S0 : MS} {ls : Array Slot} (C : CF p l s m args meth c "SkirmishGridLaw" cL_reload 3 G A) (hr : meth.sig.returnType = (some .int)) (htab : c.exceptionTable.toList = tableOf [(0, 8, 11, 21), (0, 8, 14, 15)]) (Q : Int32 → MS → Prop) (QX : String → MS → Prop) (S : MS) (b1 : Nat) (b2 : Nat) (p_b1 : pI S 8 b1) (p_b2 : pI S 16 b2) (P : PW G A s H locs S0 S) (hl : lv_has ls 3 [(0, .ref b1), (1, .ref b2)]) (hcc : cells + 2 ≤ 2) (hss : slots + 12 ≤ 12) (hw : wL_reload_0 Q QX S b1 b2) : W p l e rmL_reload s m args below meth c H locs cells slots (vx_MQ below (QI G S0 A Q) (XX G S0 A QX) args s 2 12 A) (F0 m 0 ls []) := by
  have hx := CF_x C
  have hb := CF_b C
  unfold wL_reload_0 at hw
  refine lv_aload_n hx hb dL_reload_0 rfl (lv_at hl 1 rfl) ?_
  refine lv_iconst (v := 0) hx hb dL_reload_1 (by decide) ?_
  refine lv_aload_n hx hb dL_reload_2 rfl (lv_at hl 0 rfl) ?_
  refine cl_i C P (run_V C P hl.1 (kd := 8) (met_X8_reload (CF_n C) G H.size _ _ S b1 p_b1 hw) p_b1 (by decide) rfl q_1135 q_1136 q_1137 q_1 q_1138 cd_X8_reload ⟨(Nat.le_of_ble_eq_true rfl), (Nat.le_of_ble_eq_true rfl)⟩ rfl rfl (As := []) (rest := [.int 0, .ref b2]) rfl rfl (Nat.le_of_ble_eq_true rfl) dL_reload_3 ⟨by show cells + 2 ≤ 2; omega, by show slots + 12 ≤ 12; omega⟩) ?_ (fun r2 S1 H locs P hE hw => ?_)
  · intro E S9 H locs ce9 q9 P hE hq h1 h2 h3
    rcases hq with ⟨rfl, hw⟩ | ⟨rfl, hw⟩
    · refine vx_catch (name := "java/lang/UnsupportedOperationException") (CF_o C) ([] : List ExceptionTableEntry) (⟨0, 8, 11, 21⟩ : ExceptionTableEntry) ([⟨0, 8, 14, 15⟩] : List ExceptionTableEntry) (htab.trans rfl) (fun z hz => by cases hz) (by decide) (by decide) (CF_t C _ q_501) (CF_y C (by decide +kernel)) h1 h2 h3 ?_
      have p_b1 : pI S9 8 b1 := pI_x hE p_b1
      have p_b2 : pI S9 16 b2 := pI_x hE p_b2
      refine lv_astore_n (lv' := [(2, .ref q9), (0, .ref b1), (1, .ref b2)]) hx hb dL_reload_11 rfl hl (by decide) rfl (fun ls hl => ?_)
      refine lv_iconst (v := 1) hx hb dL_reload_12 (by decide) ?_
      exact e_i C hr rfl P hw (by omega) (by omega) dL_reload_13
    · refine vx_catch (name := "java/lang/IllegalStateException") (CF_o C) ([⟨0, 8, 11, 21⟩] : List ExceptionTableEntry) (⟨0, 8, 14, 15⟩ : ExceptionTableEntry) ([] : List ExceptionTableEntry) (htab.trans rfl) (by intro z hz; simp only [List.mem_cons, List.not_mem_nil, or_false] at hz; rcases hz with rfl <;> first | exact Or.inr ⟨by decide, "java/lang/UnsupportedOperationException", CF_t C _ q_501, CF_c C (by decide +kernel) (by decide +kernel) (by decide +kernel)⟩) (by decide) (by decide) (CF_t C _ q_405) (CF_y C (by decide +kernel)) h1 h2 h3 ?_
      have p_b1 : pI S9 8 b1 := pI_x hE p_b1
      have p_b2 : pI S9 16 b2 := pI_x hE p_b2
      refine lv_astore_n (lv' := [(2, .ref q9), (0, .ref b1), (1, .ref b2)]) hx hb dL_reload_14 rfl hl (by decide) rfl (fun ls hl => ?_)
      refine lv_iconst (v := 2) hx hb dL_reload_15 (by decide) ?_
      exact e_i C hr rfl P hw (by omega) (by omega) dL_reload_16
  have p_b1 : pI S1 8 b1 := pI_x hE p_b1
  have p_b2 : pI S1 16 b2 := pI_x hE p_b2
  refine lv_i2l (v := (r2 : Int32).toInt64) hx hb dL_reload_6 rfl ?_
  obtain ⟨h1, hw⟩ := hw
  refine rs_j C P p_b2 h1 dL_reload_7 (fun H locs P => ?_)
  obtain ⟨S3, hS⟩ : ∃ z, z = (sJ S1 b2 (0 : Int32).toNatClampNeg ((r2 : Int32).toInt64)) := ⟨_, rfl⟩
  have P : PW G A s H locs S0 S3 := by rw [hS]; exact P
  have p_b2 : pI S3 16 b2 := by rw [hS]; exact pI_x ext_sJ p_b2
  have hw := hw S3 hS
  refine lv_goto (tgt := 17) hx hb dL_reload_8 (by decide) ?_
  refine lv_iconst (v := 0) hx hb dL_reload_17 (by decide) ?_
  exact e_i C hr rfl P hw (by omega) (by omega) dL_reload_18
def wp_L_reload (Q : Int32 → MS → Prop) (QX : String → MS → Prop) (S : MS) (b1 : Nat) (b2 : Nat) : Prop := wL_reload_0 Q QX S b1 b2
set_option maxHeartbeats 4000000 in
set_option maxRecDepth 100000 in
theorem met_L_reload {l : Launch} (hst : l.stackTraces = false) (G : GP) (sz : Nat) (Q : Int32 → MS → Prop) (QX : String → MS → Prop) (S : MS) (b1 : Nat) (b2 : Nat) (p_b1 : pI S 8 b1) (p_b2 : pI S 16 b2) (hw : wp_L_reload Q QX S b1 b2) : vx_Met l yL_reload (.codeWith yL_reload cL_reload 3 (some .int) [(0, 8, 11, 21), (0, 8, 14, 15)] :: GW) rmL_reload (va_Pc [.ref b1, .ref b2] (PR G S sz)) (QI G S (FA G S sz) Q) (XX G S (FA G S sz) QX) 2 12 (FA G S sz) := by
  refine st_w (by decide +kernel) hst (fun p e s m below meth c C hr htab P => ?_)
  refine en_m (Nat.le_of_ble_eq_true rfl) (lv := [(0, .ref b1), (1, .ref b2)]) rfl (fun ls hl => ?_)
  have C : CF p l s m _ meth c "SkirmishGridLaw" cL_reload 3 G (FA G S sz) := C
  exact tL_reload_0 C hr htab Q QX S b1 b2 p_b1 p_b2 P hl (by omega) (by omega) hw
theorem cd_L_reload : yL_reload.cls = RL ∧ yL_reload.cls ≠ "java/lang/invoke/MethodHandle" ∧ yL_reload.cls ≠ "java/lang/invoke/VarHandle" ∧ (parseMethodDescriptor yL_reload.desc).map (fun d => d.parameters.length) = some 2 := by decide +kernel
abbrev rmL_endTurn : Room := { frames := 8, cells := 1, slots := 6, locals := 167 }
def wL_endTurn_0 (Q : Int32 → MS → Prop) (QX : String → MS → Prop) (S : MS) (b1 : Nat) (b2 : Nat) : Prop := wp_X8_endTurn (fun r2 S1 => (vp_in 0 (mN S1 b2) ∧ (∀ S3, S3 = (sJ S1 b2 (0 : Int32).toNatClampNeg ((r2 : Int32).toInt64)) → Q 0 S3))) (fun E S9 => (E = "java/lang/UnsupportedOperationException" ∧ Q 1 S9)) S b1
set_option maxHeartbeats 4000000 in
set_option maxRecDepth 100000 in
theorem tL_endTurn_0 {p : Program} {l : Launch} {e : Env} {s : State} {m : MethodId} {args : Array Value} {below : List Frame} {meth : Method} {c : Code} {H : Heap} {locs : List Loc} {cells slots : Nat} {G : GP} {A : Nat → Prop} {S0 : MS} {ls : Array Slot} (C : CF p l s m args meth c "SkirmishGridLaw" cL_endTurn 3 G A) (hr : meth.sig.returnType = (some .int)) (htab : c.exceptionTable.toList = tableOf [(0, 8, 11, 21)]) (Q : Int32 → MS → Prop) (QX : String → MS → Prop) (S : MS) (b1 : Nat) (b2 : Nat) (p_b1 : pI S 8 b1) (p_b2 : pI S 16 b2) (P : PW G A s H locs S0 S) (hl : lv_has ls 3 [(0, .ref b1), (1, .ref b2)]) (hcc : cells + 1 ≤ 1) (hss : slots + 6 ≤ 6) (hw : wL_endTurn_0 Q QX S b1 b2) : W p l e rmL_endTurn s m args below meth c H locs cells slots (vx_MQ below (QI G S0 A Q) (XX G S0 A QX) args s 1 6 A) (F0 m 0 ls []) := by
  have hx := CF_x C
  have hb := CF_b C
  unfold wL_endTurn_0 at hw
  refine lv_aload_n hx hb dL_endTurn_0 rfl (lv_at hl 1 rfl) ?_
  refine lv_iconst (v := 0) hx hb dL_endTurn_1 (by decide) ?_
  refine lv_aload_n hx hb dL_endTurn_2 rfl (lv_at hl 0 rfl) ?_
  refine cl_i C P (run_V C P hl.1 (kd := 8) (met_X8_endTurn (CF_n C) G H.size _ _ S b1 p_b1 hw) p_b1 (by decide) rfl q_1147 q_1148 q_1149 q_1 q_1150 cd_X8_endTurn ⟨(Nat.le_of_ble_eq_true rfl), (Nat.le_of_ble_eq_true rfl)⟩ rfl rfl (As := []) (rest := [.int 0, .ref b2]) rfl rfl (Nat.le_of_ble_eq_true rfl) dL_endTurn_3 ⟨by show cells + 1 ≤ 1; omega, by show slots + 6 ≤ 6; omega⟩) ?_ (fun r2 S1 H locs P hE hw => ?_)
  · intro E S9 H locs ce9 q9 P hE hq h1 h2 h3
    obtain ⟨rfl, hw⟩ := hq
    refine vx_catch (name := "java/lang/UnsupportedOperationException") (CF_o C) ([] : List ExceptionTableEntry) (⟨0, 8, 11, 21⟩ : ExceptionTableEntry) ([] : List ExceptionTableEntry) (htab.trans rfl) (fun z hz => by cases hz) (by decide) (by decide) (CF_t C _ q_501) (CF_y C (by decide +kernel)) h1 h2 h3 ?_
    have p_b1 : pI S9 8 b1 := pI_x hE p_b1
    have p_b2 : pI S9 16 b2 := pI_x hE p_b2
    refine lv_astore_n (lv' := [(2, .ref q9), (0, .ref b1), (1, .ref b2)]) hx hb dL_endTurn_11 rfl hl (by decide) rfl (fun ls hl => ?_)
    refine lv_iconst (v := 1) hx hb dL_endTurn_12 (by decide) ?_
    exact e_i C hr rfl P hw (by omega) (by omega) dL_endTurn_13
  have p_b1 : pI S1 8 b1 := pI_x hE p_b1
  have p_b2 : pI S1 16 b2 := pI_x hE p_b2
  refine lv_i2l (v := (r2 : Int32).toInt64) hx hb dL_endTurn_6 rfl ?_
  obtain ⟨h1, hw⟩ := hw
  refine rs_j C P p_b2 h1 dL_endTurn_7 (fun H locs P => ?_)
  obtain ⟨S3, hS⟩ : ∃ z, z = (sJ S1 b2 (0 : Int32).toNatClampNeg ((r2 : Int32).toInt64)) := ⟨_, rfl⟩
  have P : PW G A s H locs S0 S3 := by rw [hS]; exact P
  have p_b2 : pI S3 16 b2 := by rw [hS]; exact pI_x ext_sJ p_b2
  have hw := hw S3 hS
  refine lv_goto (tgt := 14) hx hb dL_endTurn_8 (by decide) ?_
  refine lv_iconst (v := 0) hx hb dL_endTurn_14 (by decide) ?_
  exact e_i C hr rfl P hw (by omega) (by omega) dL_endTurn_15
def wp_L_endTurn (Q : Int32 → MS → Prop) (QX : String → MS → Prop) (S : MS) (b1 : Nat) (b2 : Nat) : Prop := wL_endTurn_0 Q QX S b1 b2
set_option maxHeartbeats 4000000 in
set_option maxRecDepth 100000 in
theorem met_L_endTurn {l : Launch} (hst : l.stackTraces = false) (G : GP) (sz : Nat) (Q : Int32 → MS → Prop) (QX : String → MS → Prop) (S : MS) (b1 : Nat) (b2 : Nat) (p_b1 : pI S 8 b1) (p_b2 : pI S 16 b2) (hw : wp_L_endTurn Q QX S b1 b2) : vx_Met l yL_endTurn (.codeWith yL_endTurn cL_endTurn 3 (some .int) [(0, 8, 11, 21)] :: GW) rmL_endTurn (va_Pc [.ref b1, .ref b2] (PR G S sz)) (QI G S (FA G S sz) Q) (XX G S (FA G S sz) QX) 1 6 (FA G S sz) := by
  refine st_w (by decide +kernel) hst (fun p e s m below meth c C hr htab P => ?_)
  refine en_m (Nat.le_of_ble_eq_true rfl) (lv := [(0, .ref b1), (1, .ref b2)]) rfl (fun ls hl => ?_)
  have C : CF p l s m _ meth c "SkirmishGridLaw" cL_endTurn 3 G (FA G S sz) := C
  exact tL_endTurn_0 C hr htab Q QX S b1 b2 p_b1 p_b2 P hl (by omega) (by omega) hw
theorem cd_L_endTurn : yL_endTurn.cls = RL ∧ yL_endTurn.cls ≠ "java/lang/invoke/MethodHandle" ∧ yL_endTurn.cls ≠ "java/lang/invoke/VarHandle" ∧ (parseMethodDescriptor yL_endTurn.desc).map (fun d => d.parameters.length) = some 2 := by decide +kernel
abbrev rmL_event : Room := { frames := 7, cells := 1, slots := 6, locals := 132 }
def wL_event_0 (Q : Int32 → MS → Prop) (QX : String → MS → Prop) (S : MS) (b1 : Nat) (x2 : Int32) (x3 : Int32) (b4 : Nat) : Prop := wp_X8_event (fun r2 S1 => (vp_in 0 (mN S1 b4) ∧ (∀ S3, S3 = (sJ S1 b4 (0 : Int32).toNatClampNeg ((r2 : Int32).toInt64)) → Q 0 S3))) (fun E S9 => (E = "java/lang/IndexOutOfBoundsException" ∧ Q 1 S9)) S b1 x2 x3
set_option maxHeartbeats 4000000 in
set_option maxRecDepth 100000 in
theorem tL_event_0 {p : Program} {l : Launch} {e : Env} {s : State} {m : MethodId} {args : Array Value} {below : List Frame} {meth : Method} {c : Code} {H : Heap} {locs : List Loc} {cells slots : Nat} {G : GP} {A : Nat → Prop} {S0 : MS} {ls : Array Slot} (C : CF p l s m args meth c "SkirmishGridLaw" cL_event 5 G A) (hr : meth.sig.returnType = (some .int)) (htab : c.exceptionTable.toList = tableOf [(0, 10, 13, 33)]) (Q : Int32 → MS → Prop) (QX : String → MS → Prop) (S : MS) (b1 : Nat) (x2 : Int32) (x3 : Int32) (b4 : Nat) (p_b1 : pI S 8 b1) (p_b4 : pI S 16 b4) (P : PW G A s H locs S0 S) (hl : lv_has ls 5 [(0, .ref b1), (1, .int x2), (2, .int x3), (3, .ref b4)]) (hcc : cells + 1 ≤ 1) (hss : slots + 6 ≤ 6) (hw : wL_event_0 Q QX S b1 x2 x3 b4) : W p l e rmL_event s m args below meth c H locs cells slots (vx_MQ below (QI G S0 A Q) (XX G S0 A QX) args s 1 6 A) (F0 m 0 ls []) := by
  have hx := CF_x C
  have hb := CF_b C
  unfold wL_event_0 at hw
  refine lv_aload_n hx hb dL_event_0 rfl (lv_at hl 3 rfl) ?_
  refine lv_iconst (v := 0) hx hb dL_event_1 (by decide) ?_
  refine lv_aload_n hx hb dL_event_2 rfl (lv_at hl 0 rfl) ?_
  refine lv_iload_n hx hb dL_event_3 rfl (lv_at hl 1 rfl) ?_
  refine lv_iload_n hx hb dL_event_4 rfl (lv_at hl 2 rfl) ?_
  refine cl_i C P (run_V C P hl.1 (kd := 8) (met_X8_event (CF_n C) G H.size _ _ S b1 x2 x3 p_b1 hw) p_b1 (by decide) rfl q_1162 q_1163 q_1164 q_1 q_1165 cd_X8_event ⟨(Nat.le_of_ble_eq_true rfl), (Nat.le_of_ble_eq_true rfl)⟩ rfl rfl (As := [.int x2, .int x3]) (rest := [.int 0, .ref b4]) rfl rfl (Nat.le_of_ble_eq_true rfl) dL_event_5 ⟨by show cells + 1 ≤ 1; omega, by show slots + 6 ≤ 6; omega⟩) ?_ (fun r2 S1 H locs P hE hw => ?_)
  · intro E S9 H locs ce9 q9 P hE hq h1 h2 h3
    obtain ⟨rfl, hw⟩ := hq
    refine vx_catch (name := "java/lang/IndexOutOfBoundsException") (CF_o C) ([] : List ExceptionTableEntry) (⟨0, 10, 13, 33⟩ : ExceptionTableEntry) ([] : List ExceptionTableEntry) (htab.trans rfl) (fun z hz => by cases hz) (by decide) (by decide) (CF_t C _ q_660) (CF_y C (by decide +kernel)) h1 h2 h3 ?_
    have p_b1 : pI S9 8 b1 := pI_x hE p_b1
    have p_b4 : pI S9 16 b4 := pI_x hE p_b4
    refine lv_astore (lv' := [(4, .ref q9), (0, .ref b1), (1, .int x2), (2, .int x3), (3, .ref b4)]) hx hb dL_event_13 hl (by decide) rfl (fun ls hl => ?_)
    refine lv_iconst (v := 1) hx hb dL_event_15 (by decide) ?_
    exact e_i C hr rfl P hw (by omega) (by omega) dL_event_16
  have p_b1 : pI S1 8 b1 := pI_x hE p_b1
  have p_b4 : pI S1 16 b4 := pI_x hE p_b4
  refine lv_i2l (v := (r2 : Int32).toInt64) hx hb dL_event_8 rfl ?_
  obtain ⟨h1, hw⟩ := hw
  refine rs_j C P p_b4 h1 dL_event_9 (fun H locs P => ?_)
  obtain ⟨S3, hS⟩ : ∃ z, z = (sJ S1 b4 (0 : Int32).toNatClampNeg ((r2 : Int32).toInt64)) := ⟨_, rfl⟩
  have P : PW G A s H locs S0 S3 := by rw [hS]; exact P
  have p_b4 : pI S3 16 b4 := by rw [hS]; exact pI_x ext_sJ p_b4
  have hw := hw S3 hS
  refine lv_goto (tgt := 17) hx hb dL_event_10 (by decide) ?_
  refine lv_iconst (v := 0) hx hb dL_event_17 (by decide) ?_
  exact e_i C hr rfl P hw (by omega) (by omega) dL_event_18
def wp_L_event (Q : Int32 → MS → Prop) (QX : String → MS → Prop) (S : MS) (b1 : Nat) (x2 : Int32) (x3 : Int32) (b4 : Nat) : Prop := wL_event_0 Q QX S b1 x2 x3 b4
set_option maxHeartbeats 4000000 in
set_option maxRecDepth 100000 in
theorem met_L_event {l : Launch} (hst : l.stackTraces = false) (G : GP) (sz : Nat) (Q : Int32 → MS → Prop) (QX : String → MS → Prop) (S : MS) (b1 : Nat) (x2 : Int32) (x3 : Int32) (b4 : Nat) (p_b1 : pI S 8 b1) (p_b4 : pI S 16 b4) (hw : wp_L_event Q QX S b1 x2 x3 b4) : vx_Met l yL_event (.codeWith yL_event cL_event 5 (some .int) [(0, 10, 13, 33)] :: GW) rmL_event (va_Pc [.ref b1, .int x2, .int x3, .ref b4] (PR G S sz)) (QI G S (FA G S sz) Q) (XX G S (FA G S sz) QX) 1 6 (FA G S sz) := by
  refine st_w (by decide +kernel) hst (fun p e s m below meth c C hr htab P => ?_)
  refine en_m (Nat.le_of_ble_eq_true rfl) (lv := [(0, .ref b1), (1, .int x2), (2, .int x3), (3, .ref b4)]) rfl (fun ls hl => ?_)
  have C : CF p l s m _ meth c "SkirmishGridLaw" cL_event 5 G (FA G S sz) := C
  exact tL_event_0 C hr htab Q QX S b1 x2 x3 b4 p_b1 p_b4 P hl (by omega) (by omega) hw
theorem cd_L_event : yL_event.cls = RL ∧ yL_event.cls ≠ "java/lang/invoke/MethodHandle" ∧ yL_event.cls ≠ "java/lang/invoke/VarHandle" ∧ (parseMethodDescriptor yL_event.desc).map (fun d => d.parameters.length) = some 4 := by decide +kernel
abbrev rmL_undo : Room := { frames := 7, cells := 1, slots := 6, locals := 144 }
def wL_undo_0 (Q : Int32 → MS → Prop) (QX : String → MS → Prop) (S : MS) (b1 : Nat) (b2 : Nat) : Prop := wp_X8_undo (fun r2 S1 => (vp_in 0 (mN S1 b2) ∧ (∀ S3, S3 = (sJ S1 b2 (0 : Int32).toNatClampNeg ((r2 : Int32).toInt64)) → Q 0 S3))) (fun E S9 => (E = "java/lang/IllegalStateException" ∧ Q 1 S9)) S b1
set_option maxHeartbeats 4000000 in
set_option maxRecDepth 100000 in
theorem tL_undo_0 {p : Program} {l : Launch} {e : Env} {s : State} {m : MethodId} {args : Array Value} {below : List Frame} {meth : Method} {c : Code} {H : Heap} {locs : List Loc} {cells slots : Nat} {G : GP} {A : Nat → Prop} {S0 : MS} {ls : Array Slot} (C : CF p l s m args meth c "SkirmishGridLaw" cL_undo 3 G A) (hr : meth.sig.returnType = (some .int)) (htab : c.exceptionTable.toList = tableOf [(0, 8, 11, 15)]) (Q : Int32 → MS → Prop) (QX : String → MS → Prop) (S : MS) (b1 : Nat) (b2 : Nat) (p_b1 : pI S 8 b1) (p_b2 : pI S 16 b2) (P : PW G A s H locs S0 S) (hl : lv_has ls 3 [(0, .ref b1), (1, .ref b2)]) (hcc : cells + 1 ≤ 1) (hss : slots + 6 ≤ 6) (hw : wL_undo_0 Q QX S b1 b2) : W p l e rmL_undo s m args below meth c H locs cells slots (vx_MQ below (QI G S0 A Q) (XX G S0 A QX) args s 1 6 A) (F0 m 0 ls []) := by
  have hx := CF_x C
  have hb := CF_b C
  unfold wL_undo_0 at hw
  refine lv_aload_n hx hb dL_undo_0 rfl (lv_at hl 1 rfl) ?_
  refine lv_iconst (v := 0) hx hb dL_undo_1 (by decide) ?_
  refine lv_aload_n hx hb dL_undo_2 rfl (lv_at hl 0 rfl) ?_
  refine cl_i C P (run_V C P hl.1 (kd := 8) (met_X8_undo (CF_n C) G H.size _ _ S b1 p_b1 hw) p_b1 (by decide) rfl q_1174 q_1175 q_1176 q_1 q_1177 cd_X8_undo ⟨(Nat.le_of_ble_eq_true rfl), (Nat.le_of_ble_eq_true rfl)⟩ rfl rfl (As := []) (rest := [.int 0, .ref b2]) rfl rfl (Nat.le_of_ble_eq_true rfl) dL_undo_3 ⟨by show cells + 1 ≤ 1; omega, by show slots + 6 ≤ 6; omega⟩) ?_ (fun r2 S1 H locs P hE hw => ?_)
  · intro E S9 H locs ce9 q9 P hE hq h1 h2 h3
    obtain ⟨rfl, hw⟩ := hq
    refine vx_catch (name := "java/lang/IllegalStateException") (CF_o C) ([] : List ExceptionTableEntry) (⟨0, 8, 11, 15⟩ : ExceptionTableEntry) ([] : List ExceptionTableEntry) (htab.trans rfl) (fun z hz => by cases hz) (by decide) (by decide) (CF_t C _ q_405) (CF_y C (by decide +kernel)) h1 h2 h3 ?_
    have p_b1 : pI S9 8 b1 := pI_x hE p_b1
    have p_b2 : pI S9 16 b2 := pI_x hE p_b2
    refine lv_astore_n (lv' := [(2, .ref q9), (0, .ref b1), (1, .ref b2)]) hx hb dL_undo_11 rfl hl (by decide) rfl (fun ls hl => ?_)
    refine lv_iconst (v := 1) hx hb dL_undo_12 (by decide) ?_
    exact e_i C hr rfl P hw (by omega) (by omega) dL_undo_13
  have p_b1 : pI S1 8 b1 := pI_x hE p_b1
  have p_b2 : pI S1 16 b2 := pI_x hE p_b2
  refine lv_i2l (v := (r2 : Int32).toInt64) hx hb dL_undo_6 rfl ?_
  obtain ⟨h1, hw⟩ := hw
  refine rs_j C P p_b2 h1 dL_undo_7 (fun H locs P => ?_)
  obtain ⟨S3, hS⟩ : ∃ z, z = (sJ S1 b2 (0 : Int32).toNatClampNeg ((r2 : Int32).toInt64)) := ⟨_, rfl⟩
  have P : PW G A s H locs S0 S3 := by rw [hS]; exact P
  have p_b2 : pI S3 16 b2 := by rw [hS]; exact pI_x ext_sJ p_b2
  have hw := hw S3 hS
  refine lv_goto (tgt := 14) hx hb dL_undo_8 (by decide) ?_
  refine lv_iconst (v := 0) hx hb dL_undo_14 (by decide) ?_
  exact e_i C hr rfl P hw (by omega) (by omega) dL_undo_15
def wp_L_undo (Q : Int32 → MS → Prop) (QX : String → MS → Prop) (S : MS) (b1 : Nat) (b2 : Nat) : Prop := wL_undo_0 Q QX S b1 b2
set_option maxHeartbeats 4000000 in
set_option maxRecDepth 100000 in
theorem met_L_undo {l : Launch} (hst : l.stackTraces = false) (G : GP) (sz : Nat) (Q : Int32 → MS → Prop) (QX : String → MS → Prop) (S : MS) (b1 : Nat) (b2 : Nat) (p_b1 : pI S 8 b1) (p_b2 : pI S 16 b2) (hw : wp_L_undo Q QX S b1 b2) : vx_Met l yL_undo (.codeWith yL_undo cL_undo 3 (some .int) [(0, 8, 11, 15)] :: GW) rmL_undo (va_Pc [.ref b1, .ref b2] (PR G S sz)) (QI G S (FA G S sz) Q) (XX G S (FA G S sz) QX) 1 6 (FA G S sz) := by
  refine st_w (by decide +kernel) hst (fun p e s m below meth c C hr htab P => ?_)
  refine en_m (Nat.le_of_ble_eq_true rfl) (lv := [(0, .ref b1), (1, .ref b2)]) rfl (fun ls hl => ?_)
  have C : CF p l s m _ meth c "SkirmishGridLaw" cL_undo 3 G (FA G S sz) := C
  exact tL_undo_0 C hr htab Q QX S b1 b2 p_b1 p_b2 P hl (by omega) (by omega) hw
theorem cd_L_undo : yL_undo.cls = RL ∧ yL_undo.cls ≠ "java/lang/invoke/MethodHandle" ∧ yL_undo.cls ≠ "java/lang/invoke/VarHandle" ∧ (parseMethodDescriptor yL_undo.desc).map (fun d => d.parameters.length) = some 2 := by decide +kernel
abbrev rmL_isReplayed : Room := { frames := 8, cells := 1, slots := 6, locals := 230 }
def wL_isReplayed_0 (Q : Int32 → MS → Prop) (QX : String → MS → Prop) (S : MS) (b1 : Nat) (b2 : Nat) : Prop := wp_X8_isReplayed (fun r2 S1 => ((r2 = 0 → (vp_in 0 (mN S1 b2) ∧ (∀ S3, S3 = (sJ S1 b2 (0 : Int32).toNatClampNeg 0) → Q 0 S3))) ∧ (¬ r2 = 0 → (vp_in 0 (mN S1 b2) ∧ (∀ S4, S4 = (sJ S1 b2 (0 : Int32).toNatClampNeg 1) → Q 0 S4))))) (fun E S9 => (E = "java/lang/IllegalStateException" ∧ Q 1 S9)) S b1
set_option maxHeartbeats 4000000 in
set_option maxRecDepth 100000 in
theorem tL_isReplayed_0 {p : Program} {l : Launch} {e : Env} {s : State} {m : MethodId} {args : Array Value} {below : List Frame} {meth : Method} {c : Code} {H : Heap} {locs : List Loc} {cells slots : Nat} {G : GP} {A : Nat → Prop} {S0 : MS} {ls : Array Slot} (C : CF p l s m args meth c "SkirmishGridLaw" cL_isReplayed 3 G A) (hr : meth.sig.returnType = (some .int)) (htab : c.exceptionTable.toList = tableOf [(0, 15, 18, 15)]) (Q : Int32 → MS → Prop) (QX : String → MS → Prop) (S : MS) (b1 : Nat) (b2 : Nat) (p_b1 : pI S 8 b1) (p_b2 : pI S 16 b2) (P : PW G A s H locs S0 S) (hl : lv_has ls 3 [(0, .ref b1), (1, .ref b2)]) (hcc : cells + 1 ≤ 1) (hss : slots + 6 ≤ 6) (hw : wL_isReplayed_0 Q QX S b1 b2) : W p l e rmL_isReplayed s m args below meth c H locs cells slots (vx_MQ below (QI G S0 A Q) (XX G S0 A QX) args s 1 6 A) (F0 m 0 ls []) := by
  have hx := CF_x C
  have hb := CF_b C
  unfold wL_isReplayed_0 at hw
  refine lv_aload_n hx hb dL_isReplayed_0 rfl (lv_at hl 1 rfl) ?_
  refine lv_iconst (v := 0) hx hb dL_isReplayed_1 (by decide) ?_
  refine lv_aload_n hx hb dL_isReplayed_2 rfl (lv_at hl 0 rfl) ?_
  refine cl_i C P (run_V C P hl.1 (kd := 8) (met_X8_isReplayed (CF_n C) G H.size _ _ S b1 p_b1 hw) p_b1 (by decide) rfl q_1190 q_1191 q_1192 q_1 q_1193 cd_X8_isReplayed ⟨(Nat.le_of_ble_eq_true rfl), (Nat.le_of_ble_eq_true rfl)⟩ rfl rfl (As := []) (rest := [.int 0, .ref b2]) rfl rfl (Nat.le_of_ble_eq_true rfl) dL_isReplayed_3 ⟨by show cells + 1 ≤ 1; omega, by show slots + 6 ≤ 6; omega⟩) ?_ (fun r2 S1 H locs P hE hw => ?_)
  · intro E S9 H locs ce9 q9 P hE hq h1 h2 h3
    obtain ⟨rfl, hw⟩ := hq
    refine vx_catch (name := "java/lang/IllegalStateException") (CF_o C) ([] : List ExceptionTableEntry) (⟨0, 15, 18, 15⟩ : ExceptionTableEntry) ([] : List ExceptionTableEntry) (htab.trans rfl) (fun z hz => by cases hz) (by decide) (by decide) (CF_t C _ q_405) (CF_y C (by decide +kernel)) h1 h2 h3 ?_
    have p_b1 : pI S9 8 b1 := pI_x hE p_b1
    have p_b2 : pI S9 16 b2 := pI_x hE p_b2
    refine lv_astore_n (lv' := [(2, .ref q9), (0, .ref b1), (1, .ref b2)]) hx hb dL_isReplayed_18 rfl hl (by decide) rfl (fun ls hl => ?_)
    refine lv_iconst (v := 1) hx hb dL_isReplayed_19 (by decide) ?_
    exact e_i C hr rfl P hw (by omega) (by omega) dL_isReplayed_20
  have p_b1 : pI S1 8 b1 := pI_x hE p_b1
  have p_b2 : pI S1 16 b2 := pI_x hE p_b2
  refine lv_if_eq (tgt := 13) hx hb dL_isReplayed_6 (by decide) (fun hc => ?_) (fun hc => ?_)
  · have hw := hw.1 hc
    refine lv_lconst (v := 0) hx hb dL_isReplayed_13 (by decide) ?_
    obtain ⟨h1, hw⟩ := hw
    refine rs_j C P p_b2 h1 dL_isReplayed_14 (fun H locs P => ?_)
    obtain ⟨S3, hS⟩ : ∃ z, z = (sJ S1 b2 (0 : Int32).toNatClampNeg 0) := ⟨_, rfl⟩
    have P : PW G A s H locs S0 S3 := by rw [hS]; exact P
    have p_b2 : pI S3 16 b2 := by rw [hS]; exact pI_x ext_sJ p_b2
    have hw := hw S3 hS
    refine lv_goto (tgt := 21) hx hb dL_isReplayed_15 (by decide) ?_
    refine lv_iconst (v := 0) hx hb dL_isReplayed_21 (by decide) ?_
    exact e_i C hr rfl P hw (by omega) (by omega) dL_isReplayed_22
  · have hw := hw.2 hc
    refine lv_lconst (v := 1) hx hb dL_isReplayed_9 (by decide) ?_
    refine lv_goto (tgt := 14) hx hb dL_isReplayed_10 (by decide) ?_
    obtain ⟨h1, hw⟩ := hw
    refine rs_j C P p_b2 h1 dL_isReplayed_14 (fun H locs P => ?_)
    obtain ⟨S4, hS⟩ : ∃ z, z = (sJ S1 b2 (0 : Int32).toNatClampNeg 1) := ⟨_, rfl⟩
    have P : PW G A s H locs S0 S4 := by rw [hS]; exact P
    have p_b2 : pI S4 16 b2 := by rw [hS]; exact pI_x ext_sJ p_b2
    have hw := hw S4 hS
    refine lv_goto (tgt := 21) hx hb dL_isReplayed_15 (by decide) ?_
    refine lv_iconst (v := 0) hx hb dL_isReplayed_21 (by decide) ?_
    exact e_i C hr rfl P hw (by omega) (by omega) dL_isReplayed_22
def wp_L_isReplayed (Q : Int32 → MS → Prop) (QX : String → MS → Prop) (S : MS) (b1 : Nat) (b2 : Nat) : Prop := wL_isReplayed_0 Q QX S b1 b2
set_option maxHeartbeats 4000000 in
set_option maxRecDepth 100000 in
theorem met_L_isReplayed {l : Launch} (hst : l.stackTraces = false) (G : GP) (sz : Nat) (Q : Int32 → MS → Prop) (QX : String → MS → Prop) (S : MS) (b1 : Nat) (b2 : Nat) (p_b1 : pI S 8 b1) (p_b2 : pI S 16 b2) (hw : wp_L_isReplayed Q QX S b1 b2) : vx_Met l yL_isReplayed (.codeWith yL_isReplayed cL_isReplayed 3 (some .int) [(0, 15, 18, 15)] :: GW) rmL_isReplayed (va_Pc [.ref b1, .ref b2] (PR G S sz)) (QI G S (FA G S sz) Q) (XX G S (FA G S sz) QX) 1 6 (FA G S sz) := by
  refine st_w (by decide +kernel) hst (fun p e s m below meth c C hr htab P => ?_)
  refine en_m (Nat.le_of_ble_eq_true rfl) (lv := [(0, .ref b1), (1, .ref b2)]) rfl (fun ls hl => ?_)
  have C : CF p l s m _ meth c "SkirmishGridLaw" cL_isReplayed 3 G (FA G S sz) := C
  exact tL_isReplayed_0 C hr htab Q QX S b1 b2 p_b1 p_b2 P hl (by omega) (by omega) hw
theorem cd_L_isReplayed : yL_isReplayed.cls = RL ∧ yL_isReplayed.cls ≠ "java/lang/invoke/MethodHandle" ∧ yL_isReplayed.cls ≠ "java/lang/invoke/VarHandle" ∧ (parseMethodDescriptor yL_isReplayed.desc).map (fun d => d.parameters.length) = some 2 := by decide +kernel
abbrev rmL_meanHealth : Room := { frames := 8, cells := 2, slots := 12, locals := 155 }
def wL_meanHealth_0 (Q : Int32 → MS → Prop) (QX : String → MS → Prop) (S : MS) (b1 : Nat) (x2 : Int32) (b3 : Nat) : Prop := wp_X8_meanHealth (fun r2 S1 => (vf_n64 (FP.f2d r2) ∧ (vp_in 0 (mN S1 b3) ∧ (∀ S3, S3 = (sD S1 b3 (0 : Int32).toNatClampNeg (FP.f2d r2)) → Q 0 S3)))) (fun E S9 => (E = "java/lang/IndexOutOfBoundsException" ∧ Q 1 S9) ∨ (E = "java/lang/ArithmeticException" ∧ Q 2 S9)) S b1 x2
set_option maxHeartbeats 4000000 in
set_option maxRecDepth 100000 in
theorem tL_meanHealth_0 {p : Program} {l : Launch} {e : Env} {s : State} {m : MethodId} {args : Array Value} {below : List Frame} {meth : Method} {c : Code} {H : Heap} {locs : List Loc} {cells slots : Nat} {G : GP} {A : Nat → Prop} {S0 : MS} {ls : Array Slot} (C : CF p l s m args meth c "SkirmishGridLaw" cL_meanHealth 4 G A) (hr : meth.sig.returnType = (some .int)) (htab : c.exceptionTable.toList = tableOf [(0, 9, 12, 33), (0, 9, 15, 110)]) (Q : Int32 → MS → Prop) (QX : String → MS → Prop) (S : MS) (b1 : Nat) (x2 : Int32) (b3 : Nat) (p_b1 : pI S 8 b1) (p_b3 : pI S 17 b3) (P : PW G A s H locs S0 S) (hl : lv_has ls 4 [(0, .ref b1), (1, .int x2), (2, .ref b3)]) (hcc : cells + 2 ≤ 2) (hss : slots + 12 ≤ 12) (hw : wL_meanHealth_0 Q QX S b1 x2 b3) : W p l e rmL_meanHealth s m args below meth c H locs cells slots (vx_MQ below (QI G S0 A Q) (XX G S0 A QX) args s 2 12 A) (F0 m 0 ls []) := by
  have hx := CF_x C
  have hb := CF_b C
  unfold wL_meanHealth_0 at hw
  refine lv_aload_n hx hb dL_meanHealth_0 rfl (lv_at hl 2 rfl) ?_
  refine lv_iconst (v := 0) hx hb dL_meanHealth_1 (by decide) ?_
  refine lv_aload_n hx hb dL_meanHealth_2 rfl (lv_at hl 0 rfl) ?_
  refine lv_iload_n hx hb dL_meanHealth_3 rfl (lv_at hl 1 rfl) ?_
  refine cl_f C P (run_V C P hl.1 (kd := 8) (met_X8_meanHealth (CF_n C) G H.size _ _ S b1 x2 p_b1 hw) p_b1 (by decide) rfl q_1241 q_1242 q_1243 q_1 q_1244 cd_X8_meanHealth ⟨(Nat.le_of_ble_eq_true rfl), (Nat.le_of_ble_eq_true rfl)⟩ rfl rfl (As := [.int x2]) (rest := [.int 0, .ref b3]) rfl rfl (Nat.le_of_ble_eq_true rfl) dL_meanHealth_4 ⟨by show cells + 2 ≤ 2; omega, by show slots + 12 ≤ 12; omega⟩) ?_ (fun r2 S1 H locs P hE hw => ?_)
  · intro E S9 H locs ce9 q9 P hE hq h1 h2 h3
    rcases hq with ⟨rfl, hw⟩ | ⟨rfl, hw⟩
    · refine vx_catch (name := "java/lang/IndexOutOfBoundsException") (CF_o C) ([] : List ExceptionTableEntry) (⟨0, 9, 12, 33⟩ : ExceptionTableEntry) ([⟨0, 9, 15, 110⟩] : List ExceptionTableEntry) (htab.trans rfl) (fun z hz => by cases hz) (by decide) (by decide) (CF_t C _ q_660) (CF_y C (by decide +kernel)) h1 h2 h3 ?_
      have p_b1 : pI S9 8 b1 := pI_x hE p_b1
      have p_b3 : pI S9 17 b3 := pI_x hE p_b3
      refine lv_astore_n (lv' := [(3, .ref q9), (0, .ref b1), (1, .int x2), (2, .ref b3)]) hx hb dL_meanHealth_12 rfl hl (by decide) rfl (fun ls hl => ?_)
      refine lv_iconst (v := 1) hx hb dL_meanHealth_13 (by decide) ?_
      exact e_i C hr rfl P hw (by omega) (by omega) dL_meanHealth_14
    · refine vx_catch (name := "java/lang/ArithmeticException") (CF_o C) ([⟨0, 9, 12, 33⟩] : List ExceptionTableEntry) (⟨0, 9, 15, 110⟩ : ExceptionTableEntry) ([] : List ExceptionTableEntry) (htab.trans rfl) (by intro z hz; simp only [List.mem_cons, List.not_mem_nil, or_false] at hz; rcases hz with rfl <;> first | exact Or.inr ⟨by decide, "java/lang/IndexOutOfBoundsException", CF_t C _ q_660, CF_c C (by decide +kernel) (by decide +kernel) (by decide +kernel)⟩) (by decide) (by decide) (CF_t C _ q_1227) (CF_y C (by decide +kernel)) h1 h2 h3 ?_
      have p_b1 : pI S9 8 b1 := pI_x hE p_b1
      have p_b3 : pI S9 17 b3 := pI_x hE p_b3
      refine lv_astore_n (lv' := [(3, .ref q9), (0, .ref b1), (1, .int x2), (2, .ref b3)]) hx hb dL_meanHealth_15 rfl hl (by decide) rfl (fun ls hl => ?_)
      refine lv_iconst (v := 2) hx hb dL_meanHealth_16 (by decide) ?_
      exact e_i C hr rfl P hw (by omega) (by omega) dL_meanHealth_17
  have p_b1 : pI S1 8 b1 := pI_x hE p_b1
  have p_b3 : pI S1 17 b3 := pI_x hE p_b3
  obtain ⟨h1, hw⟩ := hw
  refine lv_f2d hx hb dL_meanHealth_7 h1 ?_
  obtain ⟨h1, hw⟩ := hw
  refine rs_d C P p_b3 h1 dL_meanHealth_8 (fun H locs P => ?_)
  obtain ⟨S3, hS⟩ : ∃ z, z = (sD S1 b3 (0 : Int32).toNatClampNeg (FP.f2d r2)) := ⟨_, rfl⟩
  have P : PW G A s H locs S0 S3 := by rw [hS]; exact P
  have p_b3 : pI S3 17 b3 := by rw [hS]; exact pI_x ext_sD p_b3
  have hw := hw S3 hS
  refine lv_goto (tgt := 18) hx hb dL_meanHealth_9 (by decide) ?_
  refine lv_iconst (v := 0) hx hb dL_meanHealth_18 (by decide) ?_
  exact e_i C hr rfl P hw (by omega) (by omega) dL_meanHealth_19
def wp_L_meanHealth (Q : Int32 → MS → Prop) (QX : String → MS → Prop) (S : MS) (b1 : Nat) (x2 : Int32) (b3 : Nat) : Prop := wL_meanHealth_0 Q QX S b1 x2 b3
set_option maxHeartbeats 4000000 in
set_option maxRecDepth 100000 in
theorem met_L_meanHealth {l : Launch} (hst : l.stackTraces = false) (G : GP) (sz : Nat) (Q : Int32 → MS → Prop) (QX : String → MS → Prop) (S : MS) (b1 : Nat) (x2 : Int32) (b3 : Nat) (p_b1 : pI S 8 b1) (p_b3 : pI S 17 b3) (hw : wp_L_meanHealth Q QX S b1 x2 b3) : vx_Met l yL_meanHealth (.codeWith yL_meanHealth cL_meanHealth 4 (some .int) [(0, 9, 12, 33), (0, 9, 15, 110)] :: GW) rmL_meanHealth (va_Pc [.ref b1, .int x2, .ref b3] (PR G S sz)) (QI G S (FA G S sz) Q) (XX G S (FA G S sz) QX) 2 12 (FA G S sz) := by
  refine st_w (by decide +kernel) hst (fun p e s m below meth c C hr htab P => ?_)
  refine en_m (Nat.le_of_ble_eq_true rfl) (lv := [(0, .ref b1), (1, .int x2), (2, .ref b3)]) rfl (fun ls hl => ?_)
  have C : CF p l s m _ meth c "SkirmishGridLaw" cL_meanHealth 4 G (FA G S sz) := C
  exact tL_meanHealth_0 C hr htab Q QX S b1 x2 b3 p_b1 p_b3 P hl (by omega) (by omega) hw
theorem cd_L_meanHealth : yL_meanHealth.cls = RL ∧ yL_meanHealth.cls ≠ "java/lang/invoke/MethodHandle" ∧ yL_meanHealth.cls ≠ "java/lang/invoke/VarHandle" ∧ (parseMethodDescriptor yL_meanHealth.desc).map (fun d => d.parameters.length) = some 3 := by decide +kernel
abbrev rmL_storeHealths : Room := { frames := 8, cells := 1, slots := 6, locals := 154 }
def wL_storeHealths_0 (Q : Int32 → MS → Prop) (QX : String → MS → Prop) (S : MS) (b1 : Nat) (x2 : Int32) (x3 : Int32) (b4 : Nat) : Prop := wp_X8_storeHealths (fun r2 S1 => (vp_in 0 (mN S1 b4) ∧ (∀ S3, S3 = (sJ S1 b4 (0 : Int32).toNatClampNeg ((r2 : Int32).toInt64)) → Q 0 S3))) (fun E S9 => (E = "java/lang/IndexOutOfBoundsException" ∧ Q 1 S9)) S b1 x2 x3
set_option maxHeartbeats 4000000 in
set_option maxRecDepth 100000 in
theorem tL_storeHealths_0 {p : Program} {l : Launch} {e : Env} {s : State} {m : MethodId} {args : Array Value} {below : List Frame} {meth : Method} {c : Code} {H : Heap} {locs : List Loc} {cells slots : Nat} {G : GP} {A : Nat → Prop} {S0 : MS} {ls : Array Slot} (C : CF p l s m args meth c "SkirmishGridLaw" cL_storeHealths 5 G A) (hr : meth.sig.returnType = (some .int)) (htab : c.exceptionTable.toList = tableOf [(0, 10, 13, 33)]) (Q : Int32 → MS → Prop) (QX : String → MS → Prop) (S : MS) (b1 : Nat) (x2 : Int32) (x3 : Int32) (b4 : Nat) (p_b1 : pI S 8 b1) (p_b4 : pI S 16 b4) (P : PW G A s H locs S0 S) (hl : lv_has ls 5 [(0, .ref b1), (1, .int x2), (2, .int x3), (3, .ref b4)]) (hcc : cells + 1 ≤ 1) (hss : slots + 6 ≤ 6) (hw : wL_storeHealths_0 Q QX S b1 x2 x3 b4) : W p l e rmL_storeHealths s m args below meth c H locs cells slots (vx_MQ below (QI G S0 A Q) (XX G S0 A QX) args s 1 6 A) (F0 m 0 ls []) := by
  have hx := CF_x C
  have hb := CF_b C
  unfold wL_storeHealths_0 at hw
  refine lv_aload_n hx hb dL_storeHealths_0 rfl (lv_at hl 3 rfl) ?_
  refine lv_iconst (v := 0) hx hb dL_storeHealths_1 (by decide) ?_
  refine lv_aload_n hx hb dL_storeHealths_2 rfl (lv_at hl 0 rfl) ?_
  refine lv_iload_n hx hb dL_storeHealths_3 rfl (lv_at hl 1 rfl) ?_
  refine lv_iload_n hx hb dL_storeHealths_4 rfl (lv_at hl 2 rfl) ?_
  refine cl_i C P (run_V C P hl.1 (kd := 8) (met_X8_storeHealths (CF_n C) G H.size _ _ S b1 x2 x3 p_b1 hw) p_b1 (by decide) rfl q_1251 q_1252 q_1253 q_1 q_1254 cd_X8_storeHealths ⟨(Nat.le_of_ble_eq_true rfl), (Nat.le_of_ble_eq_true rfl)⟩ rfl rfl (As := [.int x2, .int x3]) (rest := [.int 0, .ref b4]) rfl rfl (Nat.le_of_ble_eq_true rfl) dL_storeHealths_5 ⟨by show cells + 1 ≤ 1; omega, by show slots + 6 ≤ 6; omega⟩) ?_ (fun r2 S1 H locs P hE hw => ?_)
  · intro E S9 H locs ce9 q9 P hE hq h1 h2 h3
    obtain ⟨rfl, hw⟩ := hq
    refine vx_catch (name := "java/lang/IndexOutOfBoundsException") (CF_o C) ([] : List ExceptionTableEntry) (⟨0, 10, 13, 33⟩ : ExceptionTableEntry) ([] : List ExceptionTableEntry) (htab.trans rfl) (fun z hz => by cases hz) (by decide) (by decide) (CF_t C _ q_660) (CF_y C (by decide +kernel)) h1 h2 h3 ?_
    have p_b1 : pI S9 8 b1 := pI_x hE p_b1
    have p_b4 : pI S9 16 b4 := pI_x hE p_b4
    refine lv_astore (lv' := [(4, .ref q9), (0, .ref b1), (1, .int x2), (2, .int x3), (3, .ref b4)]) hx hb dL_storeHealths_13 hl (by decide) rfl (fun ls hl => ?_)
    refine lv_iconst (v := 1) hx hb dL_storeHealths_15 (by decide) ?_
    exact e_i C hr rfl P hw (by omega) (by omega) dL_storeHealths_16
  have p_b1 : pI S1 8 b1 := pI_x hE p_b1
  have p_b4 : pI S1 16 b4 := pI_x hE p_b4
  refine lv_i2l (v := (r2 : Int32).toInt64) hx hb dL_storeHealths_8 rfl ?_
  obtain ⟨h1, hw⟩ := hw
  refine rs_j C P p_b4 h1 dL_storeHealths_9 (fun H locs P => ?_)
  obtain ⟨S3, hS⟩ : ∃ z, z = (sJ S1 b4 (0 : Int32).toNatClampNeg ((r2 : Int32).toInt64)) := ⟨_, rfl⟩
  have P : PW G A s H locs S0 S3 := by rw [hS]; exact P
  have p_b4 : pI S3 16 b4 := by rw [hS]; exact pI_x ext_sJ p_b4
  have hw := hw S3 hS
  refine lv_goto (tgt := 17) hx hb dL_storeHealths_10 (by decide) ?_
  refine lv_iconst (v := 0) hx hb dL_storeHealths_17 (by decide) ?_
  exact e_i C hr rfl P hw (by omega) (by omega) dL_storeHealths_18
def wp_L_storeHealths (Q : Int32 → MS → Prop) (QX : String → MS → Prop) (S : MS) (b1 : Nat) (x2 : Int32) (x3 : Int32) (b4 : Nat) : Prop := wL_storeHealths_0 Q QX S b1 x2 x3 b4
set_option maxHeartbeats 4000000 in
set_option maxRecDepth 100000 in
theorem met_L_storeHealths {l : Launch} (hst : l.stackTraces = false) (G : GP) (sz : Nat) (Q : Int32 → MS → Prop) (QX : String → MS → Prop) (S : MS) (b1 : Nat) (x2 : Int32) (x3 : Int32) (b4 : Nat) (p_b1 : pI S 8 b1) (p_b4 : pI S 16 b4) (hw : wp_L_storeHealths Q QX S b1 x2 x3 b4) : vx_Met l yL_storeHealths (.codeWith yL_storeHealths cL_storeHealths 5 (some .int) [(0, 10, 13, 33)] :: GW) rmL_storeHealths (va_Pc [.ref b1, .int x2, .int x3, .ref b4] (PR G S sz)) (QI G S (FA G S sz) Q) (XX G S (FA G S sz) QX) 1 6 (FA G S sz) := by
  refine st_w (by decide +kernel) hst (fun p e s m below meth c C hr htab P => ?_)
  refine en_m (Nat.le_of_ble_eq_true rfl) (lv := [(0, .ref b1), (1, .int x2), (2, .int x3), (3, .ref b4)]) rfl (fun ls hl => ?_)
  have C : CF p l s m _ meth c "SkirmishGridLaw" cL_storeHealths 5 G (FA G S sz) := C
  exact tL_storeHealths_0 C hr htab Q QX S b1 x2 x3 b4 p_b1 p_b4 P hl (by omega) (by omega) hw
theorem cd_L_storeHealths : yL_storeHealths.cls = RL ∧ yL_storeHealths.cls ≠ "java/lang/invoke/MethodHandle" ∧ yL_storeHealths.cls ≠ "java/lang/invoke/VarHandle" ∧ (parseMethodDescriptor yL_storeHealths.desc).map (fun d => d.parameters.length) = some 4 := by decide +kernel
abbrev rmL_copyHealths : Room := { frames := 8, cells := 3, slots := 18, locals := 155 }
def wL_copyHealths_0 (Q : Int32 → MS → Prop) (QX : String → MS → Prop) (S : MS) (b1 : Nat) (x2 : Int32) (x3 : Int32) (b4 : Nat) : Prop := wp_X8_copyHealths (fun r2 S1 => ((r2 = 0 → (vp_in 0 (mN S1 b4) ∧ (∀ S3, S3 = (sJ S1 b4 (0 : Int32).toNatClampNeg 0) → Q 0 S3))) ∧ (¬ r2 = 0 → (vp_in 0 (mN S1 b4) ∧ (∀ S4, S4 = (sJ S1 b4 (0 : Int32).toNatClampNeg 1) → Q 0 S4))))) (fun E S9 => (E = "java/lang/IndexOutOfBoundsException" ∧ Q 1 S9) ∨ (E = "java/util/NoSuchElementException" ∧ Q 2 S9) ∨ (E = "java/lang/UnsupportedOperationException" ∧ Q 3 S9) ∨ (E = "java/lang/IllegalArgumentException" ∧ Q 4 S9)) S b1 x2 x3
set_option maxHeartbeats 4000000 in
set_option maxRecDepth 100000 in
theorem tL_copyHealths_0 {p : Program} {l : Launch} {e : Env} {s : State} {m : MethodId} {args : Array Value} {below : List Frame} {meth : Method} {c : Code} {H : Heap} {locs : List Loc} {cells slots : Nat} {G : GP} {A : Nat → Prop} {S0 : MS} {ls : Array Slot} (C : CF p l s m args meth c "SkirmishGridLaw" cL_copyHealths 5 G A) (hr : meth.sig.returnType = (some .int)) (htab : c.exceptionTable.toList = tableOf [(0, 17, 20, 33), (0, 17, 24, 27), (0, 17, 28, 21), (0, 17, 32, 13)]) (Q : Int32 → MS → Prop) (QX : String → MS → Prop) (S : MS) (b1 : Nat) (x2 : Int32) (x3 : Int32) (b4 : Nat) (p_b1 : pI S 8 b1) (p_b4 : pI S 16 b4) (P : PW G A s H locs S0 S) (hl : lv_has ls 5 [(0, .ref b1), (1, .int x2), (2, .int x3), (3, .ref b4)]) (hcc : cells + 3 ≤ 3) (hss : slots + 18 ≤ 18) (hw : wL_copyHealths_0 Q QX S b1 x2 x3 b4) : W p l e rmL_copyHealths s m args below meth c H locs cells slots (vx_MQ below (QI G S0 A Q) (XX G S0 A QX) args s 3 18 A) (F0 m 0 ls []) := by
  have hx := CF_x C
  have hb := CF_b C
  unfold wL_copyHealths_0 at hw
  refine lv_aload_n hx hb dL_copyHealths_0 rfl (lv_at hl 3 rfl) ?_
  refine lv_iconst (v := 0) hx hb dL_copyHealths_1 (by decide) ?_
  refine lv_aload_n hx hb dL_copyHealths_2 rfl (lv_at hl 0 rfl) ?_
  refine lv_iload_n hx hb dL_copyHealths_3 rfl (lv_at hl 1 rfl) ?_
  refine lv_iload_n hx hb dL_copyHealths_4 rfl (lv_at hl 2 rfl) ?_
  refine cl_i C P (run_V C P hl.1 (kd := 8) (met_X8_copyHealths (CF_n C) G H.size _ _ S b1 x2 x3 p_b1 hw) p_b1 (by decide) rfl q_1268 q_1269 q_1270 q_1 q_1271 cd_X8_copyHealths ⟨(Nat.le_of_ble_eq_true rfl), (Nat.le_of_ble_eq_true rfl)⟩ rfl rfl (As := [.int x2, .int x3]) (rest := [.int 0, .ref b4]) rfl rfl (Nat.le_of_ble_eq_true rfl) dL_copyHealths_5 ⟨by show cells + 3 ≤ 3; omega, by show slots + 18 ≤ 18; omega⟩) ?_ (fun r2 S1 H locs P hE hw => ?_)
  · intro E S9 H locs ce9 q9 P hE hq h1 h2 h3
    rcases hq with ⟨rfl, hw⟩ | ⟨rfl, hw⟩ | ⟨rfl, hw⟩ | ⟨rfl, hw⟩
    · refine vx_catch (name := "java/lang/IndexOutOfBoundsException") (CF_o C) ([] : List ExceptionTableEntry) (⟨0, 17, 20, 33⟩ : ExceptionTableEntry) ([⟨0, 17, 24, 27⟩, ⟨0, 17, 28, 21⟩, ⟨0, 17, 32, 13⟩] : List ExceptionTableEntry) (htab.trans rfl) (fun z hz => by cases hz) (by decide) (by decide) (CF_t C _ q_660) (CF_y C (by decide +kernel)) h1 h2 h3 ?_
      have p_b1 : pI S9 8 b1 := pI_x hE p_b1
      have p_b4 : pI S9 16 b4 := pI_x hE p_b4
      refine lv_astore (lv' := [(4, .ref q9), (0, .ref b1), (1, .int x2), (2, .int x3), (3, .ref b4)]) hx hb dL_copyHealths_20 hl (by decide) rfl (fun ls hl => ?_)
      refine lv_iconst (v := 1) hx hb dL_copyHealths_22 (by decide) ?_
      exact e_i C hr rfl P hw (by omega) (by omega) dL_copyHealths_23
    · refine vx_catch (name := "java/util/NoSuchElementException") (CF_o C) ([⟨0, 17, 20, 33⟩] : List ExceptionTableEntry) (⟨0, 17, 24, 27⟩ : ExceptionTableEntry) ([⟨0, 17, 28, 21⟩, ⟨0, 17, 32, 13⟩] : List ExceptionTableEntry) (htab.trans rfl) (by intro z hz; simp only [List.mem_cons, List.not_mem_nil, or_false] at hz; rcases hz with rfl <;> first | exact Or.inr ⟨by decide, "java/lang/IndexOutOfBoundsException", CF_t C _ q_660, CF_c C (by decide +kernel) (by decide +kernel) (by decide +kernel)⟩) (by decide) (by decide) (CF_t C _ q_636) (CF_y C (by decide +kernel)) h1 h2 h3 ?_
      have p_b1 : pI S9 8 b1 := pI_x hE p_b1
      have p_b4 : pI S9 16 b4 := pI_x hE p_b4
      refine lv_astore (lv' := [(4, .ref q9), (0, .ref b1), (1, .int x2), (2, .int x3), (3, .ref b4)]) hx hb dL_copyHealths_24 hl (by decide) rfl (fun ls hl => ?_)
      refine lv_iconst (v := 2) hx hb dL_copyHealths_26 (by decide) ?_
      exact e_i C hr rfl P hw (by omega) (by omega) dL_copyHealths_27
    · refine vx_catch (name := "java/lang/UnsupportedOperationException") (CF_o C) ([⟨0, 17, 20, 33⟩, ⟨0, 17, 24, 27⟩] : List ExceptionTableEntry) (⟨0, 17, 28, 21⟩ : ExceptionTableEntry) ([⟨0, 17, 32, 13⟩] : List ExceptionTableEntry) (htab.trans rfl) (by intro z hz; simp only [List.mem_cons, List.not_mem_nil, or_false] at hz; rcases hz with rfl | rfl <;> first | exact Or.inr ⟨by decide, "java/lang/IndexOutOfBoundsException", CF_t C _ q_660, CF_c C (by decide +kernel) (by decide +kernel) (by decide +kernel)⟩ | exact Or.inr ⟨by decide, "java/util/NoSuchElementException", CF_t C _ q_636, CF_c C (by decide +kernel) (by decide +kernel) (by decide +kernel)⟩) (by decide) (by decide) (CF_t C _ q_501) (CF_y C (by decide +kernel)) h1 h2 h3 ?_
      have p_b1 : pI S9 8 b1 := pI_x hE p_b1
      have p_b4 : pI S9 16 b4 := pI_x hE p_b4
      refine lv_astore (lv' := [(4, .ref q9), (0, .ref b1), (1, .int x2), (2, .int x3), (3, .ref b4)]) hx hb dL_copyHealths_28 hl (by decide) rfl (fun ls hl => ?_)
      refine lv_iconst (v := 3) hx hb dL_copyHealths_30 (by decide) ?_
      exact e_i C hr rfl P hw (by omega) (by omega) dL_copyHealths_31
    · refine vx_catch (name := "java/lang/IllegalArgumentException") (CF_o C) ([⟨0, 17, 20, 33⟩, ⟨0, 17, 24, 27⟩, ⟨0, 17, 28, 21⟩] : List ExceptionTableEntry) (⟨0, 17, 32, 13⟩ : ExceptionTableEntry) ([] : List ExceptionTableEntry) (htab.trans rfl) (by intro z hz; simp only [List.mem_cons, List.not_mem_nil, or_false] at hz; rcases hz with rfl | rfl | rfl <;> first | exact Or.inr ⟨by decide, "java/lang/IndexOutOfBoundsException", CF_t C _ q_660, CF_c C (by decide +kernel) (by decide +kernel) (by decide +kernel)⟩ | exact Or.inr ⟨by decide, "java/util/NoSuchElementException", CF_t C _ q_636, CF_c C (by decide +kernel) (by decide +kernel) (by decide +kernel)⟩ | exact Or.inr ⟨by decide, "java/lang/UnsupportedOperationException", CF_t C _ q_501, CF_c C (by decide +kernel) (by decide +kernel) (by decide +kernel)⟩) (by decide) (by decide) (CF_t C _ q_404) (CF_y C (by decide +kernel)) h1 h2 h3 ?_
      have p_b1 : pI S9 8 b1 := pI_x hE p_b1
      have p_b4 : pI S9 16 b4 := pI_x hE p_b4
      refine lv_astore (lv' := [(4, .ref q9), (0, .ref b1), (1, .int x2), (2, .int x3), (3, .ref b4)]) hx hb dL_copyHealths_32 hl (by decide) rfl (fun ls hl => ?_)
      refine lv_iconst (v := 4) hx hb dL_copyHealths_34 (by decide) ?_
      exact e_i C hr rfl P hw (by omega) (by omega) dL_copyHealths_35
  have p_b1 : pI S1 8 b1 := pI_x hE p_b1
  have p_b4 : pI S1 16 b4 := pI_x hE p_b4
  refine lv_if_eq (tgt := 15) hx hb dL_copyHealths_8 (by decide) (fun hc => ?_) (fun hc => ?_)
  · have hw := hw.1 hc
    refine lv_lconst (v := 0) hx hb dL_copyHealths_15 (by decide) ?_
    obtain ⟨h1, hw⟩ := hw
    refine rs_j C P p_b4 h1 dL_copyHealths_16 (fun H locs P => ?_)
    obtain ⟨S3, hS⟩ : ∃ z, z = (sJ S1 b4 (0 : Int32).toNatClampNeg 0) := ⟨_, rfl⟩
    have P : PW G A s H locs S0 S3 := by rw [hS]; exact P
    have p_b4 : pI S3 16 b4 := by rw [hS]; exact pI_x ext_sJ p_b4
    have hw := hw S3 hS
    refine lv_goto (tgt := 36) hx hb dL_copyHealths_17 (by decide) ?_
    refine lv_iconst (v := 0) hx hb dL_copyHealths_36 (by decide) ?_
    exact e_i C hr rfl P hw (by omega) (by omega) dL_copyHealths_37
  · have hw := hw.2 hc
    refine lv_lconst (v := 1) hx hb dL_copyHealths_11 (by decide) ?_
    refine lv_goto (tgt := 16) hx hb dL_copyHealths_12 (by decide) ?_
    obtain ⟨h1, hw⟩ := hw
    refine rs_j C P p_b4 h1 dL_copyHealths_16 (fun H locs P => ?_)
    obtain ⟨S4, hS⟩ : ∃ z, z = (sJ S1 b4 (0 : Int32).toNatClampNeg 1) := ⟨_, rfl⟩
    have P : PW G A s H locs S0 S4 := by rw [hS]; exact P
    have p_b4 : pI S4 16 b4 := by rw [hS]; exact pI_x ext_sJ p_b4
    have hw := hw S4 hS
    refine lv_goto (tgt := 36) hx hb dL_copyHealths_17 (by decide) ?_
    refine lv_iconst (v := 0) hx hb dL_copyHealths_36 (by decide) ?_
    exact e_i C hr rfl P hw (by omega) (by omega) dL_copyHealths_37
def wp_L_copyHealths (Q : Int32 → MS → Prop) (QX : String → MS → Prop) (S : MS) (b1 : Nat) (x2 : Int32) (x3 : Int32) (b4 : Nat) : Prop := wL_copyHealths_0 Q QX S b1 x2 x3 b4
set_option maxHeartbeats 4000000 in
set_option maxRecDepth 100000 in
theorem met_L_copyHealths {l : Launch} (hst : l.stackTraces = false) (G : GP) (sz : Nat) (Q : Int32 → MS → Prop) (QX : String → MS → Prop) (S : MS) (b1 : Nat) (x2 : Int32) (x3 : Int32) (b4 : Nat) (p_b1 : pI S 8 b1) (p_b4 : pI S 16 b4) (hw : wp_L_copyHealths Q QX S b1 x2 x3 b4) : vx_Met l yL_copyHealths (.codeWith yL_copyHealths cL_copyHealths 5 (some .int) [(0, 17, 20, 33), (0, 17, 24, 27), (0, 17, 28, 21), (0, 17, 32, 13)] :: GW) rmL_copyHealths (va_Pc [.ref b1, .int x2, .int x3, .ref b4] (PR G S sz)) (QI G S (FA G S sz) Q) (XX G S (FA G S sz) QX) 3 18 (FA G S sz) := by
  refine st_w (by decide +kernel) hst (fun p e s m below meth c C hr htab P => ?_)
  refine en_m (Nat.le_of_ble_eq_true rfl) (lv := [(0, .ref b1), (1, .int x2), (2, .int x3), (3, .ref b4)]) rfl (fun ls hl => ?_)
  have C : CF p l s m _ meth c "SkirmishGridLaw" cL_copyHealths 5 G (FA G S sz) := C
  exact tL_copyHealths_0 C hr htab Q QX S b1 x2 x3 b4 p_b1 p_b4 P hl (by omega) (by omega) hw
theorem cd_L_copyHealths : yL_copyHealths.cls = RL ∧ yL_copyHealths.cls ≠ "java/lang/invoke/MethodHandle" ∧ yL_copyHealths.cls ≠ "java/lang/invoke/VarHandle" ∧ (parseMethodDescriptor yL_copyHealths.desc).map (fun d => d.parameters.length) = some 4 := by decide +kernel
abbrev rmL_storedBits : Room := { frames := 8, cells := 2, slots := 12, locals := 154 }
def wL_storedBits_0 (Q : Int32 → MS → Prop) (QX : String → MS → Prop) (S : MS) (b1 : Nat) (x2 : Int32) (x3 : Int32) (b4 : Nat) : Prop := wp_X8_storedBits (fun r2 S1 => (vp_in 0 (mN S1 b4) ∧ (∀ S3, S3 = (sJ S1 b4 (0 : Int32).toNatClampNeg ((r2 : Int32).toInt64)) → Q 0 S3))) (fun E S9 => (E = "java/lang/IndexOutOfBoundsException" ∧ Q 1 S9) ∨ (E = "java/util/NoSuchElementException" ∧ Q 2 S9)) S b1 x2 x3
set_option maxHeartbeats 4000000 in
set_option maxRecDepth 100000 in
theorem tL_storedBits_0 {p : Program} {l : Launch} {e : Env} {s : State} {m : MethodId} {args : Array Value} {below : List Frame} {meth : Method} {c : Code} {H : Heap} {locs : List Loc} {cells slots : Nat} {G : GP} {A : Nat → Prop} {S0 : MS} {ls : Array Slot} (C : CF p l s m args meth c "SkirmishGridLaw" cL_storedBits 5 G A) (hr : meth.sig.returnType = (some .int)) (htab : c.exceptionTable.toList = tableOf [(0, 10, 13, 33), (0, 10, 17, 27)]) (Q : Int32 → MS → Prop) (QX : String → MS → Prop) (S : MS) (b1 : Nat) (x2 : Int32) (x3 : Int32) (b4 : Nat) (p_b1 : pI S 8 b1) (p_b4 : pI S 16 b4) (P : PW G A s H locs S0 S) (hl : lv_has ls 5 [(0, .ref b1), (1, .int x2), (2, .int x3), (3, .ref b4)]) (hcc : cells + 2 ≤ 2) (hss : slots + 12 ≤ 12) (hw : wL_storedBits_0 Q QX S b1 x2 x3 b4) : W p l e rmL_storedBits s m args below meth c H locs cells slots (vx_MQ below (QI G S0 A Q) (XX G S0 A QX) args s 2 12 A) (F0 m 0 ls []) := by
  have hx := CF_x C
  have hb := CF_b C
  unfold wL_storedBits_0 at hw
  refine lv_aload_n hx hb dL_storedBits_0 rfl (lv_at hl 3 rfl) ?_
  refine lv_iconst (v := 0) hx hb dL_storedBits_1 (by decide) ?_
  refine lv_aload_n hx hb dL_storedBits_2 rfl (lv_at hl 0 rfl) ?_
  refine lv_iload_n hx hb dL_storedBits_3 rfl (lv_at hl 1 rfl) ?_
  refine lv_iload_n hx hb dL_storedBits_4 rfl (lv_at hl 2 rfl) ?_
  refine cl_i C P (run_V C P hl.1 (kd := 8) (met_X8_storedBits (CF_n C) G H.size _ _ S b1 x2 x3 p_b1 hw) p_b1 (by decide) rfl q_1282 q_1283 q_1284 q_1 q_1285 cd_X8_storedBits ⟨(Nat.le_of_ble_eq_true rfl), (Nat.le_of_ble_eq_true rfl)⟩ rfl rfl (As := [.int x2, .int x3]) (rest := [.int 0, .ref b4]) rfl rfl (Nat.le_of_ble_eq_true rfl) dL_storedBits_5 ⟨by show cells + 2 ≤ 2; omega, by show slots + 12 ≤ 12; omega⟩) ?_ (fun r2 S1 H locs P hE hw => ?_)
  · intro E S9 H locs ce9 q9 P hE hq h1 h2 h3
    rcases hq with ⟨rfl, hw⟩ | ⟨rfl, hw⟩
    · refine vx_catch (name := "java/lang/IndexOutOfBoundsException") (CF_o C) ([] : List ExceptionTableEntry) (⟨0, 10, 13, 33⟩ : ExceptionTableEntry) ([⟨0, 10, 17, 27⟩] : List ExceptionTableEntry) (htab.trans rfl) (fun z hz => by cases hz) (by decide) (by decide) (CF_t C _ q_660) (CF_y C (by decide +kernel)) h1 h2 h3 ?_
      have p_b1 : pI S9 8 b1 := pI_x hE p_b1
      have p_b4 : pI S9 16 b4 := pI_x hE p_b4
      refine lv_astore (lv' := [(4, .ref q9), (0, .ref b1), (1, .int x2), (2, .int x3), (3, .ref b4)]) hx hb dL_storedBits_13 hl (by decide) rfl (fun ls hl => ?_)
      refine lv_iconst (v := 1) hx hb dL_storedBits_15 (by decide) ?_
      exact e_i C hr rfl P hw (by omega) (by omega) dL_storedBits_16
    · refine vx_catch (name := "java/util/NoSuchElementException") (CF_o C) ([⟨0, 10, 13, 33⟩] : List ExceptionTableEntry) (⟨0, 10, 17, 27⟩ : ExceptionTableEntry) ([] : List ExceptionTableEntry) (htab.trans rfl) (by intro z hz; simp only [List.mem_cons, List.not_mem_nil, or_false] at hz; rcases hz with rfl <;> first | exact Or.inr ⟨by decide, "java/lang/IndexOutOfBoundsException", CF_t C _ q_660, CF_c C (by decide +kernel) (by decide +kernel) (by decide +kernel)⟩) (by decide) (by decide) (CF_t C _ q_636) (CF_y C (by decide +kernel)) h1 h2 h3 ?_
      have p_b1 : pI S9 8 b1 := pI_x hE p_b1
      have p_b4 : pI S9 16 b4 := pI_x hE p_b4
      refine lv_astore (lv' := [(4, .ref q9), (0, .ref b1), (1, .int x2), (2, .int x3), (3, .ref b4)]) hx hb dL_storedBits_17 hl (by decide) rfl (fun ls hl => ?_)
      refine lv_iconst (v := 2) hx hb dL_storedBits_19 (by decide) ?_
      exact e_i C hr rfl P hw (by omega) (by omega) dL_storedBits_20
  have p_b1 : pI S1 8 b1 := pI_x hE p_b1
  have p_b4 : pI S1 16 b4 := pI_x hE p_b4
  refine lv_i2l (v := (r2 : Int32).toInt64) hx hb dL_storedBits_8 rfl ?_
  obtain ⟨h1, hw⟩ := hw
  refine rs_j C P p_b4 h1 dL_storedBits_9 (fun H locs P => ?_)
  obtain ⟨S3, hS⟩ : ∃ z, z = (sJ S1 b4 (0 : Int32).toNatClampNeg ((r2 : Int32).toInt64)) := ⟨_, rfl⟩
  have P : PW G A s H locs S0 S3 := by rw [hS]; exact P
  have p_b4 : pI S3 16 b4 := by rw [hS]; exact pI_x ext_sJ p_b4
  have hw := hw S3 hS
  refine lv_goto (tgt := 21) hx hb dL_storedBits_10 (by decide) ?_
  refine lv_iconst (v := 0) hx hb dL_storedBits_21 (by decide) ?_
  exact e_i C hr rfl P hw (by omega) (by omega) dL_storedBits_22
def wp_L_storedBits (Q : Int32 → MS → Prop) (QX : String → MS → Prop) (S : MS) (b1 : Nat) (x2 : Int32) (x3 : Int32) (b4 : Nat) : Prop := wL_storedBits_0 Q QX S b1 x2 x3 b4
set_option maxHeartbeats 4000000 in
set_option maxRecDepth 100000 in
theorem met_L_storedBits {l : Launch} (hst : l.stackTraces = false) (G : GP) (sz : Nat) (Q : Int32 → MS → Prop) (QX : String → MS → Prop) (S : MS) (b1 : Nat) (x2 : Int32) (x3 : Int32) (b4 : Nat) (p_b1 : pI S 8 b1) (p_b4 : pI S 16 b4) (hw : wp_L_storedBits Q QX S b1 x2 x3 b4) : vx_Met l yL_storedBits (.codeWith yL_storedBits cL_storedBits 5 (some .int) [(0, 10, 13, 33), (0, 10, 17, 27)] :: GW) rmL_storedBits (va_Pc [.ref b1, .int x2, .int x3, .ref b4] (PR G S sz)) (QI G S (FA G S sz) Q) (XX G S (FA G S sz) QX) 2 12 (FA G S sz) := by
  refine st_w (by decide +kernel) hst (fun p e s m below meth c C hr htab P => ?_)
  refine en_m (Nat.le_of_ble_eq_true rfl) (lv := [(0, .ref b1), (1, .int x2), (2, .int x3), (3, .ref b4)]) rfl (fun ls hl => ?_)
  have C : CF p l s m _ meth c "SkirmishGridLaw" cL_storedBits 5 G (FA G S sz) := C
  exact tL_storedBits_0 C hr htab Q QX S b1 x2 x3 b4 p_b1 p_b4 P hl (by omega) (by omega) hw
theorem cd_L_storedBits : yL_storedBits.cls = RL ∧ yL_storedBits.cls ≠ "java/lang/invoke/MethodHandle" ∧ yL_storedBits.cls ≠ "java/lang/invoke/VarHandle" ∧ (parseMethodDescriptor yL_storedBits.desc).map (fun d => d.parameters.length) = some 4 := by decide +kernel
abbrev rmL_restore : Room := { frames := 7, cells := 1, slots := 6, locals := 130 }
def wL_restore_0 (Q : Int32 → MS → Prop) (QX : String → MS → Prop) (S : MS) (b1 : Nat) (b2 : Nat) : Prop := wp_X8_restore (fun r2 S1 => (vp_in 0 (mN S1 b2) ∧ (∀ S3, S3 = (sJ S1 b2 (0 : Int32).toNatClampNeg ((r2 : Int32).toInt64)) → Q 0 S3))) (fun E S9 => (E = "java/lang/IllegalStateException" ∧ Q 1 S9)) S b1
set_option maxHeartbeats 4000000 in
set_option maxRecDepth 100000 in
theorem tL_restore_0 {p : Program} {l : Launch} {e : Env} {s : State} {m : MethodId} {args : Array Value} {below : List Frame} {meth : Method} {c : Code} {H : Heap} {locs : List Loc} {cells slots : Nat} {G : GP} {A : Nat → Prop} {S0 : MS} {ls : Array Slot} (C : CF p l s m args meth c "SkirmishGridLaw" cL_restore 3 G A) (hr : meth.sig.returnType = (some .int)) (htab : c.exceptionTable.toList = tableOf [(0, 8, 11, 15)]) (Q : Int32 → MS → Prop) (QX : String → MS → Prop) (S : MS) (b1 : Nat) (b2 : Nat) (p_b1 : pI S 8 b1) (p_b2 : pI S 16 b2) (P : PW G A s H locs S0 S) (hl : lv_has ls 3 [(0, .ref b1), (1, .ref b2)]) (hcc : cells + 1 ≤ 1) (hss : slots + 6 ≤ 6) (hw : wL_restore_0 Q QX S b1 b2) : W p l e rmL_restore s m args below meth c H locs cells slots (vx_MQ below (QI G S0 A Q) (XX G S0 A QX) args s 1 6 A) (F0 m 0 ls []) := by
  have hx := CF_x C
  have hb := CF_b C
  unfold wL_restore_0 at hw
  refine lv_aload_n hx hb dL_restore_0 rfl (lv_at hl 1 rfl) ?_
  refine lv_iconst (v := 0) hx hb dL_restore_1 (by decide) ?_
  refine lv_aload_n hx hb dL_restore_2 rfl (lv_at hl 0 rfl) ?_
  refine cl_i C P (run_V C P hl.1 (kd := 8) (met_X8_restore (CF_n C) G H.size _ _ S b1 p_b1 hw) p_b1 (by decide) rfl q_1294 q_1295 q_1296 q_1 q_1297 cd_X8_restore ⟨(Nat.le_of_ble_eq_true rfl), (Nat.le_of_ble_eq_true rfl)⟩ rfl rfl (As := []) (rest := [.int 0, .ref b2]) rfl rfl (Nat.le_of_ble_eq_true rfl) dL_restore_3 ⟨by show cells + 1 ≤ 1; omega, by show slots + 6 ≤ 6; omega⟩) ?_ (fun r2 S1 H locs P hE hw => ?_)
  · intro E S9 H locs ce9 q9 P hE hq h1 h2 h3
    obtain ⟨rfl, hw⟩ := hq
    refine vx_catch (name := "java/lang/IllegalStateException") (CF_o C) ([] : List ExceptionTableEntry) (⟨0, 8, 11, 15⟩ : ExceptionTableEntry) ([] : List ExceptionTableEntry) (htab.trans rfl) (fun z hz => by cases hz) (by decide) (by decide) (CF_t C _ q_405) (CF_y C (by decide +kernel)) h1 h2 h3 ?_
    have p_b1 : pI S9 8 b1 := pI_x hE p_b1
    have p_b2 : pI S9 16 b2 := pI_x hE p_b2
    refine lv_astore_n (lv' := [(2, .ref q9), (0, .ref b1), (1, .ref b2)]) hx hb dL_restore_11 rfl hl (by decide) rfl (fun ls hl => ?_)
    refine lv_iconst (v := 1) hx hb dL_restore_12 (by decide) ?_
    exact e_i C hr rfl P hw (by omega) (by omega) dL_restore_13
  have p_b1 : pI S1 8 b1 := pI_x hE p_b1
  have p_b2 : pI S1 16 b2 := pI_x hE p_b2
  refine lv_i2l (v := (r2 : Int32).toInt64) hx hb dL_restore_6 rfl ?_
  obtain ⟨h1, hw⟩ := hw
  refine rs_j C P p_b2 h1 dL_restore_7 (fun H locs P => ?_)
  obtain ⟨S3, hS⟩ : ∃ z, z = (sJ S1 b2 (0 : Int32).toNatClampNeg ((r2 : Int32).toInt64)) := ⟨_, rfl⟩
  have P : PW G A s H locs S0 S3 := by rw [hS]; exact P
  have p_b2 : pI S3 16 b2 := by rw [hS]; exact pI_x ext_sJ p_b2
  have hw := hw S3 hS
  refine lv_goto (tgt := 14) hx hb dL_restore_8 (by decide) ?_
  refine lv_iconst (v := 0) hx hb dL_restore_14 (by decide) ?_
  exact e_i C hr rfl P hw (by omega) (by omega) dL_restore_15
def wp_L_restore (Q : Int32 → MS → Prop) (QX : String → MS → Prop) (S : MS) (b1 : Nat) (b2 : Nat) : Prop := wL_restore_0 Q QX S b1 b2
set_option maxHeartbeats 4000000 in
set_option maxRecDepth 100000 in
theorem met_L_restore {l : Launch} (hst : l.stackTraces = false) (G : GP) (sz : Nat) (Q : Int32 → MS → Prop) (QX : String → MS → Prop) (S : MS) (b1 : Nat) (b2 : Nat) (p_b1 : pI S 8 b1) (p_b2 : pI S 16 b2) (hw : wp_L_restore Q QX S b1 b2) : vx_Met l yL_restore (.codeWith yL_restore cL_restore 3 (some .int) [(0, 8, 11, 15)] :: GW) rmL_restore (va_Pc [.ref b1, .ref b2] (PR G S sz)) (QI G S (FA G S sz) Q) (XX G S (FA G S sz) QX) 1 6 (FA G S sz) := by
  refine st_w (by decide +kernel) hst (fun p e s m below meth c C hr htab P => ?_)
  refine en_m (Nat.le_of_ble_eq_true rfl) (lv := [(0, .ref b1), (1, .ref b2)]) rfl (fun ls hl => ?_)
  have C : CF p l s m _ meth c "SkirmishGridLaw" cL_restore 3 G (FA G S sz) := C
  exact tL_restore_0 C hr htab Q QX S b1 b2 p_b1 p_b2 P hl (by omega) (by omega) hw
theorem cd_L_restore : yL_restore.cls = RL ∧ yL_restore.cls ≠ "java/lang/invoke/MethodHandle" ∧ yL_restore.cls ≠ "java/lang/invoke/VarHandle" ∧ (parseMethodDescriptor yL_restore.desc).map (fun d => d.parameters.length) = some 2 := by decide +kernel
