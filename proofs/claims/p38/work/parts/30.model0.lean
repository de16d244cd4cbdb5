theorem q_1304 : Cond.methodLink "SkirmishGridModel" 1 objectInit ∈ GW := gw_t 1304 (by decide +kernel) (by decide +kernel)
theorem q_1306 : Cond.fieldLink "SkirmishGridModel" 9 "SkirmishGridModel" "v" "[I" ∈ GW := gw_t 1306 (by decide +kernel) (by decide +kernel)
theorem q_1307 : Cond.fieldLink "SkirmishGridModel" 13 "SkirmishGridModel" "start" "[I" ∈ GW := gw_t 1307 (by decide +kernel) (by decide +kernel)
theorem q_1308 : Cond.fieldLink "SkirmishGridModel" 16 "SkirmishGridModel" "image" "[I" ∈ GW := gw_t 1308 (by decide +kernel) (by decide +kernel)
theorem q_1309 : Cond.fieldLink "SkirmishGridModel" 19 "SkirmishGridModel" "imageStart" "[I" ∈ GW := gw_t 1309 (by decide +kernel) (by decide +kernel)
theorem q_1310 : Cond.fieldLink "SkirmishGridModel" 22 "SkirmishGridModel" "kept" "[I" ∈ GW := gw_t 1310 (by decide +kernel) (by decide +kernel)
theorem q_1311 : Cond.fieldLink "SkirmishGridModel" 25 "SkirmishGridModel" "past" "[I" ∈ GW := gw_t 1311 (by decide +kernel) (by decide +kernel)
theorem q_1312 : Cond.fieldLink "SkirmishGridModel" 28 "SkirmishGridModel" "command" "[I" ∈ GW := gw_t 1312 (by decide +kernel) (by decide +kernel)
theorem q_1313 : Cond.fieldLink "SkirmishGridModel" 31 "SkirmishGridModel" "imageCommand" "[I" ∈ GW := gw_t 1313 (by decide +kernel) (by decide +kernel)
theorem q_1316 : Cond.fieldLink "SkirmishGridModel" 34 "SkirmishGridModel" "text" "[I" ∈ GW := gw_t 1316 (by decide +kernel) (by decide +kernel)
theorem q_1318 : Cond.fieldLink "SkirmishGridModel" 37 "SkirmishGridModel" "fault" "I" ∈ GW := gw_t 1318 (by decide +kernel) (by decide +kernel)
theorem q_1322 : Cond.fieldLink "SkirmishGridModel" 41 "SkirmishGridModel" "far" "[I" ∈ GW := gw_t 1322 (by decide +kernel) (by decide +kernel)
theorem q_1324 : Cond.fieldLink "SkirmishGridModel" 44 "SkirmishGridModel" "whole" "[I" ∈ GW := gw_t 1324 (by decide +kernel) (by decide +kernel)
theorem q_1325 : Cond.fieldLink "SkirmishGridModel" 47 "SkirmishGridModel" "manyIn" "[I" ∈ GW := gw_t 1325 (by decide +kernel) (by decide +kernel)
theorem q_1326 : Cond.fieldLink "SkirmishGridModel" 50 "SkirmishGridModel" "sort" "[I" ∈ GW := gw_t 1326 (by decide +kernel) (by decide +kernel)
theorem q_1327 : Cond.fieldLink "SkirmishGridModel" 53 "SkirmishGridModel" "part" "[F" ∈ GW := gw_t 1327 (by decide +kernel) (by decide +kernel)
theorem q_1305 : Cond.fieldLink "SkirmishGridModel" 57 "SkirmishGridModel" "thrown" "I" ∈ GW := gw_t 1305 (by decide +kernel) (by decide +kernel)
theorem q_1457 : Cond.methodLink "SkirmishGridModel" 60 yX9_of ∈ GW := gw_t 1457 (by decide +kernel) (by decide +kernel)
theorem q_1459 : Cond.instanceMethod yX9_of ∈ GW := gw_t 1459 (by decide +kernel) (by decide +kernel)
theorem q_p34 : Cond.selects "SkirmishGridModel" yX9_of yX9_of ∈ GW := gw_p 34 (by decide +kernel) (by decide +kernel)
theorem q_10 : Cond.initialized "SkirmishGridModel" ∈ GW := gw_t 10 (by decide +kernel) (by decide +kernel)
theorem q_1460 : Cond.code yX9_of cX9_of 3 (some .int) ∈ GW := gw_t 1460 (by decide +kernel) (by decide +kernel)
theorem q_1469 : Cond.methodLink "SkirmishGridModel" 64 yX9_number ∈ GW := gw_t 1469 (by decide +kernel) (by decide +kernel)
theorem q_1470 : Cond.static yX9_number ∈ GW := gw_t 1470 (by decide +kernel) (by decide +kernel)
theorem q_1471 : Cond.code yX9_number cX9_number 2 (some .int) ∈ GW := gw_t 1471 (by decide +kernel) (by decide +kernel)
theorem q_1383 : Cond.methodLink "SkirmishGridModel" 67 yX9_isIn ∈ GW := gw_t 1383 (by decide +kernel) (by decide +kernel)
theorem q_1384 : Cond.static yX9_isIn ∈ GW := gw_t 1384 (by decide +kernel) (by decide +kernel)
theorem q_1385 : Cond.code yX9_isIn cX9_isIn 3 (some .boolean) ∈ GW := gw_t 1385 (by decide +kernel) (by decide +kernel)
theorem q_1429 : Cond.methodLink "SkirmishGridModel" 75 yX9_column ∈ GW := gw_t 1429 (by decide +kernel) (by decide +kernel)
theorem q_1431 : Cond.instanceMethod yX9_column ∈ GW := gw_t 1431 (by decide +kernel) (by decide +kernel)
theorem q_p29 : Cond.selects "SkirmishGridModel" yX9_column yX9_column ∈ GW := gw_p 29 (by decide +kernel) (by decide +kernel)
theorem q_1432 : Cond.code yX9_column cX9_column 2 (some .int) ∈ GW := gw_t 1432 (by decide +kernel) (by decide +kernel)
theorem q_1433 : Cond.methodLink "SkirmishGridModel" 71 yX9_row ∈ GW := gw_t 1433 (by decide +kernel) (by decide +kernel)
theorem q_1435 : Cond.instanceMethod yX9_row ∈ GW := gw_t 1435 (by decide +kernel) (by decide +kernel)
theorem q_p30 : Cond.selects "SkirmishGridModel" yX9_row yX9_row ∈ GW := gw_p 30 (by decide +kernel) (by decide +kernel)
theorem q_1436 : Cond.code yX9_row cX9_row 2 (some .int) ∈ GW := gw_t 1436 (by decide +kernel) (by decide +kernel)
theorem q_1317 : Cond.fieldLink "SkirmishGridModel" 81 "SkirmishGridModel" "textN" "I" ∈ GW := gw_t 1317 (by decide +kernel) (by decide +kernel)
theorem q_1386 : Cond.methodLink "SkirmishGridModel" 78 yX9_no ∈ GW := gw_t 1386 (by decide +kernel) (by decide +kernel)
theorem q_1388 : Cond.instanceMethod yX9_no ∈ GW := gw_t 1388 (by decide +kernel) (by decide +kernel)
theorem q_p23 : Cond.selects "SkirmishGridModel" yX9_no yX9_no ∈ GW := gw_p 23 (by decide +kernel) (by decide +kernel)
theorem q_1389 : Cond.code yX9_no cX9_no 2 (some .int) ∈ GW := gw_t 1389 (by decide +kernel) (by decide +kernel)
theorem q_1319 : Cond.fieldLink "SkirmishGridModel" 87 "SkirmishGridModel" "readRows" "I" ∈ GW := gw_t 1319 (by decide +kernel) (by decide +kernel)
theorem q_1320 : Cond.fieldLink "SkirmishGridModel" 90 "SkirmishGridModel" "readColumns" "I" ∈ GW := gw_t 1320 (by decide +kernel) (by decide +kernel)
theorem q_1398 : Cond.methodLink "SkirmishGridModel" 84 yX9_terrainOf ∈ GW := gw_t 1398 (by decide +kernel) (by decide +kernel)
theorem q_1399 : Cond.static yX9_terrainOf ∈ GW := gw_t 1399 (by decide +kernel) (by decide +kernel)
theorem q_1400 : Cond.code yX9_terrainOf cX9_terrainOf 1 (some .int) ∈ GW := gw_t 1400 (by decide +kernel) (by decide +kernel)
theorem q_1314 : Cond.fieldLink "SkirmishGridModel" 97 "SkirmishGridModel" "undoable" "I" ∈ GW := gw_t 1314 (by decide +kernel) (by decide +kernel)
theorem q_1394 : Cond.methodLink "SkirmishGridModel" 93 yX9_wrong ∈ GW := gw_t 1394 (by decide +kernel) (by decide +kernel)
theorem q_1396 : Cond.instanceMethod yX9_wrong ∈ GW := gw_t 1396 (by decide +kernel) (by decide +kernel)
theorem q_p24 : Cond.selects "SkirmishGridModel" yX9_wrong yX9_wrong ∈ GW := gw_p 24 (by decide +kernel) (by decide +kernel)
theorem q_1397 : Cond.code yX9_wrong cX9_wrong 5 (some .int) ∈ GW := gw_t 1397 (by decide +kernel) (by decide +kernel)
theorem dX9_init_0 : decode cX9_init 0 = .ok (.aload_n 0, 1) := by decide +kernel
theorem dX9_init_1 : decode cX9_init 1 = .ok (.invokespecial 1, 3) := by decide +kernel
theorem dX9_init_4 : decode cX9_init 4 = .ok (.aload_n 0, 1) := by decide +kernel
theorem dX9_init_5 : decode cX9_init 5 = .ok (.sipush 290, 3) := by decide +kernel
theorem dX9_init_8 : decode cX9_init 8 = .ok (.newarray .int, 2) := by decide +kernel
theorem dX9_init_10 : decode cX9_init 10 = .ok (.putfield 9, 3) := by decide +kernel
theorem dX9_init_13 : decode cX9_init 13 = .ok (.aload_n 0, 1) := by decide +kernel
theorem dX9_init_14 : decode cX9_init 14 = .ok (.sipush 290, 3) := by decide +kernel
theorem dX9_init_17 : decode cX9_init 17 = .ok (.newarray .int, 2) := by decide +kernel
theorem dX9_init_19 : decode cX9_init 19 = .ok (.putfield 13, 3) := by decide +kernel
theorem dX9_init_22 : decode cX9_init 22 = .ok (.aload_n 0, 1) := by decide +kernel
theorem dX9_init_23 : decode cX9_init 23 = .ok (.sipush 290, 3) := by decide +kernel
theorem dX9_init_26 : decode cX9_init 26 = .ok (.newarray .int, 2) := by decide +kernel
theorem dX9_init_28 : decode cX9_init 28 = .ok (.putfield 16, 3) := by decide +kernel
theorem dX9_init_31 : decode cX9_init 31 = .ok (.aload_n 0, 1) := by decide +kernel
theorem dX9_init_32 : decode cX9_init 32 = .ok (.sipush 290, 3) := by decide +kernel
theorem dX9_init_35 : decode cX9_init 35 = .ok (.newarray .int, 2) := by decide +kernel
theorem dX9_init_37 : decode cX9_init 37 = .ok (.putfield 19, 3) := by decide +kernel
theorem dX9_init_40 : decode cX9_init 40 = .ok (.aload_n 0, 1) := by decide +kernel
theorem dX9_init_41 : decode cX9_init 41 = .ok (.sipush 290, 3) := by decide +kernel
theorem dX9_init_44 : decode cX9_init 44 = .ok (.newarray .int, 2) := by decide +kernel
theorem dX9_init_46 : decode cX9_init 46 = .ok (.putfield 22, 3) := by decide +kernel
theorem dX9_init_49 : decode cX9_init 49 = .ok (.aload_n 0, 1) := by decide +kernel
theorem dX9_init_50 : decode cX9_init 50 = .ok (.sipush 2320, 3) := by decide +kernel
theorem dX9_init_53 : decode cX9_init 53 = .ok (.newarray .int, 2) := by decide +kernel
theorem dX9_init_55 : decode cX9_init 55 = .ok (.putfield 25, 3) := by decide +kernel
theorem dX9_init_58 : decode cX9_init 58 = .ok (.aload_n 0, 1) := by decide +kernel
theorem dX9_init_59 : decode cX9_init 59 = .ok (.sipush 6000, 3) := by decide +kernel
theorem dX9_init_62 : decode cX9_init 62 = .ok (.newarray .int, 2) := by decide +kernel
theorem dX9_init_64 : decode cX9_init 64 = .ok (.putfield 28, 3) := by decide +kernel
theorem dX9_init_67 : decode cX9_init 67 = .ok (.aload_n 0, 1) := by decide +kernel
theorem dX9_init_68 : decode cX9_init 68 = .ok (.sipush 6000, 3) := by decide +kernel
theorem dX9_init_71 : decode cX9_init 71 = .ok (.newarray .int, 2) := by decide +kernel
theorem dX9_init_73 : decode cX9_init 73 = .ok (.putfield 31, 3) := by decide +kernel
theorem dX9_init_76 : decode cX9_init 76 = .ok (.aload_n 0, 1) := by decide +kernel
theorem dX9_init_77 : decode cX9_init 77 = .ok (.bipush 71, 2) := by decide +kernel
theorem dX9_init_79 : decode cX9_init 79 = .ok (.newarray .int, 2) := by decide +kernel
theorem dX9_init_81 : decode cX9_init 81 = .ok (.putfield 34, 3) := by decide +kernel
theorem dX9_init_84 : decode cX9_init 84 = .ok (.aload_n 0, 1) := by decide +kernel
theorem dX9_init_85 : decode cX9_init 85 = .ok (.iconst (-1), 1) := by decide +kernel
theorem dX9_init_86 : decode cX9_init 86 = .ok (.putfield 37, 3) := by decide +kernel
theorem dX9_init_89 : decode cX9_init 89 = .ok (.aload_n 0, 1) := by decide +kernel
theorem dX9_init_90 : decode cX9_init 90 = .ok (.bipush 64, 2) := by decide +kernel
theorem dX9_init_92 : decode cX9_init 92 = .ok (.newarray .int, 2) := by decide +kernel
theorem dX9_init_94 : decode cX9_init 94 = .ok (.putfield 41, 3) := by decide +kernel
theorem dX9_init_97 : decode cX9_init 97 = .ok (.aload_n 0, 1) := by decide +kernel
theorem dX9_init_98 : decode cX9_init 98 = .ok (.bipush 16, 2) := by decide +kernel
theorem dX9_init_100 : decode cX9_init 100 = .ok (.newarray .int, 2) := by decide +kernel
theorem dX9_init_102 : decode cX9_init 102 = .ok (.putfield 44, 3) := by decide +kernel
theorem dX9_init_105 : decode cX9_init 105 = .ok (.aload_n 0, 1) := by decide +kernel
theorem dX9_init_106 : decode cX9_init 106 = .ok (.iconst 2, 1) := by decide +kernel
theorem dX9_init_107 : decode cX9_init 107 = .ok (.newarray .int, 2) := by decide +kernel
theorem dX9_init_109 : decode cX9_init 109 = .ok (.putfield 47, 3) := by decide +kernel
theorem dX9_init_112 : decode cX9_init 112 = .ok (.aload_n 0, 1) := by decide +kernel
theorem dX9_init_113 : decode cX9_init 113 = .ok (.iconst 2, 1) := by decide +kernel
theorem dX9_init_114 : decode cX9_init 114 = .ok (.newarray .int, 2) := by decide +kernel
theorem dX9_init_116 : decode cX9_init 116 = .ok (.putfield 50, 3) := by decide +kernel
theorem dX9_init_119 : decode cX9_init 119 = .ok (.aload_n 0, 1) := by decide +kernel
theorem dX9_init_120 : decode cX9_init 120 = .ok (.bipush 16, 2) := by decide +kernel
theorem dX9_init_122 : decode cX9_init 122 = .ok (.newarray .float, 2) := by decide +kernel
theorem dX9_init_124 : decode cX9_init 124 = .ok (.putfield 53, 3) := by decide +kernel
theorem dX9_init_127 : decode cX9_init 127 = .ok (.aload_n 0, 1) := by decide +kernel
theorem dX9_init_128 : decode cX9_init 128 = .ok (.getfield 9, 3) := by decide +kernel
theorem dX9_init_131 : decode cX9_init 131 = .ok (.iconst 0, 1) := by decide +kernel
theorem dX9_init_132 : decode cX9_init 132 = .ok (.iconst 5, 1) := by decide +kernel
theorem dX9_init_133 : decode cX9_init 133 = .ok (.iastore, 1) := by decide +kernel
theorem dX9_init_134 : decode cX9_init 134 = .ok (.aload_n 0, 1) := by decide +kernel
theorem dX9_init_135 : decode cX9_init 135 = .ok (.getfield 9, 3) := by decide +kernel
theorem dX9_init_138 : decode cX9_init 138 = .ok (.iconst 1, 1) := by decide +kernel
theorem dX9_init_139 : decode cX9_init 139 = .ok (.iconst 5, 1) := by decide +kernel
theorem dX9_init_140 : decode cX9_init 140 = .ok (.iastore, 1) := by decide +kernel
theorem dX9_init_141 : decode cX9_init 141 = .ok (.aload_n 0, 1) := by decide +kernel
theorem dX9_init_142 : decode cX9_init 142 = .ok (.getfield 9, 3) := by decide +kernel
theorem dX9_init_145 : decode cX9_init 145 = .ok (.sipush 155, 3) := by decide +kernel
theorem dX9_init_148 : decode cX9_init 148 = .ok (.iconst 1, 1) := by decide +kernel
theorem dX9_init_149 : decode cX9_init 149 = .ok (.iastore, 1) := by decide +kernel
theorem dX9_init_150 : decode cX9_init 150 = .ok (.aload_n 0, 1) := by decide +kernel
theorem dX9_init_151 : decode cX9_init 151 = .ok (.getfield 9, 3) := by decide +kernel
theorem dX9_init_154 : decode cX9_init 154 = .ok (.sipush 166, 3) := by decide +kernel
theorem dX9_init_157 : decode cX9_init 157 = .ok (.iconst (-1), 1) := by decide +kernel
theorem dX9_init_158 : decode cX9_init 158 = .ok (.iastore, 1) := by decide +kernel
theorem dX9_init_159 : decode cX9_init 159 = .ok (.return_, 1) := by decide +kernel
theorem dX9_thrown_0 : decode cX9_thrown 0 = .ok (.aload_n 0, 1) := by decide +kernel
theorem dX9_thrown_1 : decode cX9_thrown 1 = .ok (.getfield 57, 3) := by decide +kernel
theorem dX9_thrown_4 : decode cX9_thrown 4 = .ok (.ireturn, 1) := by decide +kernel
theorem dX9_no_0 : decode cX9_no 0 = .ok (.aload_n 0, 1) := by decide +kernel
theorem dX9_no_1 : decode cX9_no 1 = .ok (.iload_n 1, 1) := by decide +kernel
theorem dX9_no_2 : decode cX9_no 2 = .ok (.putfield 57, 3) := by decide +kernel
theorem dX9_no_5 : decode cX9_no 5 = .ok (.iconst 0, 1) := by decide +kernel
theorem dX9_no_6 : decode cX9_no 6 = .ok (.ireturn, 1) := by decide +kernel
theorem dX9_isIn_0 : decode cX9_isIn 0 = .ok (.iload_n 0, 1) := by decide +kernel
theorem dX9_isIn_1 : decode cX9_isIn 1 = .ok (.iload_n 1, 1) := by decide +kernel
theorem dX9_isIn_2 : decode cX9_isIn 2 = .ok (.if_icmp .lt 12, 3) := by decide +kernel
theorem dX9_isIn_5 : decode cX9_isIn 5 = .ok (.iload_n 0, 1) := by decide +kernel
theorem dX9_isIn_6 : decode cX9_isIn 6 = .ok (.iload_n 2, 1) := by decide +kernel
theorem dX9_isIn_7 : decode cX9_isIn 7 = .ok (.if_icmp .gt 7, 3) := by decide +kernel
theorem dX9_isIn_10 : decode cX9_isIn 10 = .ok (.iconst 1, 1) := by decide +kernel
theorem dX9_isIn_11 : decode cX9_isIn 11 = .ok (.goto 4, 3) := by decide +kernel
theorem dX9_isIn_14 : decode cX9_isIn 14 = .ok (.iconst 0, 1) := by decide +kernel
theorem dX9_isIn_15 : decode cX9_isIn 15 = .ok (.ireturn, 1) := by decide +kernel
theorem dX9_copies_0 : decode cX9_copies 0 = .ok (.iconst 0, 1) := by decide +kernel
theorem dX9_copies_1 : decode cX9_copies 1 = .ok (.istore_n 3, 1) := by decide +kernel
theorem dX9_copies_2 : decode cX9_copies 2 = .ok (.iload_n 3, 1) := by decide +kernel
theorem dX9_copies_3 : decode cX9_copies 3 = .ok (.iload_n 2, 1) := by decide +kernel
theorem dX9_copies_4 : decode cX9_copies 4 = .ok (.if_icmp .ge 15, 3) := by decide +kernel
theorem dX9_copies_7 : decode cX9_copies 7 = .ok (.aload_n 1, 1) := by decide +kernel
theorem dX9_copies_8 : decode cX9_copies 8 = .ok (.iload_n 3, 1) := by decide +kernel
theorem dX9_copies_9 : decode cX9_copies 9 = .ok (.aload_n 0, 1) := by decide +kernel
theorem dX9_copies_10 : decode cX9_copies 10 = .ok (.iload_n 3, 1) := by decide +kernel
theorem dX9_copies_11 : decode cX9_copies 11 = .ok (.iaload, 1) := by decide +kernel
theorem dX9_copies_12 : decode cX9_copies 12 = .ok (.iastore, 1) := by decide +kernel
theorem dX9_copies_13 : decode cX9_copies 13 = .ok (.iinc 3 1, 3) := by decide +kernel
theorem dX9_copies_16 : decode cX9_copies 16 = .ok (.goto (-14), 3) := by decide +kernel
theorem dX9_copies_19 : decode cX9_copies 19 = .ok (.return_, 1) := by decide +kernel
theorem dX9_number_0 : decode cX9_number 0 = .ok (.iload_n 1, 1) := by decide +kernel
theorem dX9_number_1 : decode cX9_number 1 = .ok (.tableswitch 265 0 7 #[47, 79, 99, 128, 158, 178, 208, 236], 47) := by decide +kernel
theorem dX9_number_48 : decode cX9_number 48 = .ok (.iload_n 0, 1) := by decide +kernel
theorem dX9_number_49 : decode cX9_number 49 = .ok (.ifCond .ne 8, 3) := by decide +kernel
theorem dX9_number_52 : decode cX9_number 52 = .ok (.bipush 8, 2) := by decide +kernel
theorem dX9_number_54 : decode cX9_number 54 = .ok (.goto 25, 3) := by decide +kernel
theorem dX9_number_57 : decode cX9_number 57 = .ok (.iload_n 0, 1) := by decide +kernel
theorem dX9_number_58 : decode cX9_number 58 = .ok (.iconst 1, 1) := by decide +kernel
theorem dX9_number_59 : decode cX9_number 59 = .ok (.if_icmp .ne 8, 3) := by decide +kernel
theorem dX9_number_62 : decode cX9_number 62 = .ok (.bipush 12, 2) := by decide +kernel
theorem dX9_number_64 : decode cX9_number 64 = .ok (.goto 15, 3) := by decide +kernel
theorem dX9_number_67 : decode cX9_number 67 = .ok (.iload_n 0, 1) := by decide +kernel
theorem dX9_number_68 : decode cX9_number 68 = .ok (.iconst 2, 1) := by decide +kernel
theorem dX9_number_69 : decode cX9_number 69 = .ok (.if_icmp .ne 8, 3) := by decide +kernel
theorem dX9_number_72 : decode cX9_number 72 = .ok (.bipush 18, 2) := by decide +kernel
theorem dX9_number_74 : decode cX9_number 74 = .ok (.goto 5, 3) := by decide +kernel
theorem dX9_number_77 : decode cX9_number 77 = .ok (.bipush 7, 2) := by decide +kernel
theorem dX9_number_79 : decode cX9_number 79 = .ok (.ireturn, 1) := by decide +kernel
theorem dX9_number_80 : decode cX9_number 80 = .ok (.iload_n 0, 1) := by decide +kernel
theorem dX9_number_81 : decode cX9_number 81 = .ok (.iconst 1, 1) := by decide +kernel
theorem dX9_number_82 : decode cX9_number 82 = .ok (.if_icmp .ne 7, 3) := by decide +kernel
theorem dX9_number_85 : decode cX9_number 85 = .ok (.iconst 1, 1) := by decide +kernel
theorem dX9_number_86 : decode cX9_number 86 = .ok (.goto 13, 3) := by decide +kernel
theorem dX9_number_89 : decode cX9_number 89 = .ok (.iload_n 0, 1) := by decide +kernel
theorem dX9_number_90 : decode cX9_number 90 = .ok (.iconst 2, 1) := by decide +kernel
theorem dX9_number_91 : decode cX9_number 91 = .ok (.if_icmp .ne 7, 3) := by decide +kernel
theorem dX9_number_94 : decode cX9_number 94 = .ok (.iconst 3, 1) := by decide +kernel
theorem dX9_number_95 : decode cX9_number 95 = .ok (.goto 4, 3) := by decide +kernel
theorem dX9_number_98 : decode cX9_number 98 = .ok (.iconst 0, 1) := by decide +kernel
theorem dX9_number_99 : decode cX9_number 99 = .ok (.ireturn, 1) := by decide +kernel
theorem dX9_number_100 : decode cX9_number 100 = .ok (.iload_n 0, 1) := by decide +kernel
theorem dX9_number_101 : decode cX9_number 101 = .ok (.ifCond .ne 7, 3) := by decide +kernel
theorem dX9_number_104 : decode cX9_number 104 = .ok (.iconst 4, 1) := by decide +kernel
theorem dX9_number_105 : decode cX9_number 105 = .ok (.goto 23, 3) := by decide +kernel
theorem dX9_number_108 : decode cX9_number 108 = .ok (.iload_n 0, 1) := by decide +kernel
theorem dX9_number_109 : decode cX9_number 109 = .ok (.iconst 1, 1) := by decide +kernel
theorem dX9_number_110 : decode cX9_number 110 = .ok (.if_icmp .ne 7, 3) := by decide +kernel
theorem dX9_number_113 : decode cX9_number 113 = .ok (.iconst 5, 1) := by decide +kernel
theorem dX9_number_114 : decode cX9_number 114 = .ok (.goto 14, 3) := by decide +kernel
theorem dX9_number_117 : decode cX9_number 117 = .ok (.iload_n 0, 1) := by decide +kernel
theorem dX9_number_118 : decode cX9_number 118 = .ok (.iconst 2, 1) := by decide +kernel
theorem dX9_number_119 : decode cX9_number 119 = .ok (.if_icmp .ne 7, 3) := by decide +kernel
theorem dX9_number_122 : decode cX9_number 122 = .ok (.iconst 3, 1) := by decide +kernel
theorem dX9_number_123 : decode cX9_number 123 = .ok (.goto 5, 3) := by decide +kernel
theorem dX9_number_126 : decode cX9_number 126 = .ok (.bipush 9, 2) := by decide +kernel
theorem dX9_number_128 : decode cX9_number 128 = .ok (.ireturn, 1) := by decide +kernel
theorem dX9_number_129 : decode cX9_number 129 = .ok (.iload_n 0, 1) := by decide +kernel
theorem dX9_number_130 : decode cX9_number 130 = .ok (.ifCond .ne 7, 3) := by decide +kernel
theorem dX9_number_133 : decode cX9_number 133 = .ok (.iconst 5, 1) := by decide +kernel
theorem dX9_number_134 : decode cX9_number 134 = .ok (.goto 24, 3) := by decide +kernel
theorem dX9_number_137 : decode cX9_number 137 = .ok (.iload_n 0, 1) := by decide +kernel
theorem dX9_number_138 : decode cX9_number 138 = .ok (.iconst 1, 1) := by decide +kernel
theorem dX9_number_139 : decode cX9_number 139 = .ok (.if_icmp .ne 8, 3) := by decide +kernel
theorem dX9_number_142 : decode cX9_number 142 = .ok (.bipush 6, 2) := by decide +kernel
theorem dX9_number_144 : decode cX9_number 144 = .ok (.goto 14, 3) := by decide +kernel
theorem dX9_number_147 : decode cX9_number 147 = .ok (.iload_n 0, 1) := by decide +kernel
theorem dX9_number_148 : decode cX9_number 148 = .ok (.iconst 2, 1) := by decide +kernel
theorem dX9_number_149 : decode cX9_number 149 = .ok (.if_icmp .ne 7, 3) := by decide +kernel
theorem dX9_number_152 : decode cX9_number 152 = .ok (.iconst 4, 1) := by decide +kernel
theorem dX9_number_153 : decode cX9_number 153 = .ok (.goto 5, 3) := by decide +kernel
theorem dX9_number_156 : decode cX9_number 156 = .ok (.bipush 8, 2) := by decide +kernel
theorem dX9_number_158 : decode cX9_number 158 = .ok (.ireturn, 1) := by decide +kernel
theorem dX9_number_159 : decode cX9_number 159 = .ok (.iload_n 0, 1) := by decide +kernel
theorem dX9_number_160 : decode cX9_number 160 = .ok (.ifCond .ne 8, 3) := by decide +kernel
theorem dX9_number_163 : decode cX9_number 163 = .ok (.bipush 6, 2) := by decide +kernel
theorem dX9_number_165 : decode cX9_number 165 = .ok (.goto 13, 3) := by decide +kernel
theorem dX9_number_168 : decode cX9_number 168 = .ok (.iload_n 0, 1) := by decide +kernel
theorem dX9_number_169 : decode cX9_number 169 = .ok (.iconst 1, 1) := by decide +kernel
theorem dX9_number_170 : decode cX9_number 170 = .ok (.if_icmp .ne 7, 3) := by decide +kernel
theorem dX9_number_173 : decode cX9_number 173 = .ok (.iconst 4, 1) := by decide +kernel
theorem dX9_number_174 : decode cX9_number 174 = .ok (.goto 4, 3) := by decide +kernel
theorem dX9_number_177 : decode cX9_number 177 = .ok (.iconst 3, 1) := by decide +kernel
theorem dX9_number_178 : decode cX9_number 178 = .ok (.ireturn, 1) := by decide +kernel
theorem dX9_number_179 : decode cX9_number 179 = .ok (.iload_n 0, 1) := by decide +kernel
theorem dX9_number_180 : decode cX9_number 180 = .ok (.ifCond .ne 8, 3) := by decide +kernel
theorem dX9_number_183 : decode cX9_number 183 = .ok (.bipush 8, 2) := by decide +kernel
theorem dX9_number_185 : decode cX9_number 185 = .ok (.goto 23, 3) := by decide +kernel
theorem dX9_number_188 : decode cX9_number 188 = .ok (.iload_n 0, 1) := by decide +kernel
theorem dX9_number_189 : decode cX9_number 189 = .ok (.iconst 1, 1) := by decide +kernel
theorem dX9_number_190 : decode cX9_number 190 = .ok (.if_icmp .ne 7, 3) := by decide +kernel
theorem dX9_number_193 : decode cX9_number 193 = .ok (.iconst 5, 1) := by decide +kernel
theorem dX9_number_194 : decode cX9_number 194 = .ok (.goto 14, 3) := by decide +kernel
theorem dX9_number_197 : decode cX9_number 197 = .ok (.iload_n 0, 1) := by decide +kernel
theorem dX9_number_198 : decode cX9_number 198 = .ok (.iconst 2, 1) := by decide +kernel
theorem dX9_number_199 : decode cX9_number 199 = .ok (.if_icmp .ne 7, 3) := by decide +kernel
theorem dX9_number_202 : decode cX9_number 202 = .ok (.iconst 2, 1) := by decide +kernel
theorem dX9_number_203 : decode cX9_number 203 = .ok (.goto 5, 3) := by decide +kernel
theorem dX9_number_206 : decode cX9_number 206 = .ok (.bipush 6, 2) := by decide +kernel
theorem dX9_number_208 : decode cX9_number 208 = .ok (.ireturn, 1) := by decide +kernel
theorem dX9_number_209 : decode cX9_number 209 = .ok (.iload_n 0, 1) := by decide +kernel
theorem dX9_number_210 : decode cX9_number 210 = .ok (.ifCond .ne 7, 3) := by decide +kernel
theorem dX9_number_213 : decode cX9_number 213 = .ok (.iconst 2, 1) := by decide +kernel
theorem dX9_number_214 : decode cX9_number 214 = .ok (.goto 22, 3) := by decide +kernel
theorem dX9_number_217 : decode cX9_number 217 = .ok (.iload_n 0, 1) := by decide +kernel
theorem dX9_number_218 : decode cX9_number 218 = .ok (.iconst 1, 1) := by decide +kernel
theorem dX9_number_219 : decode cX9_number 219 = .ok (.if_icmp .ne 7, 3) := by decide +kernel
theorem dX9_number_222 : decode cX9_number 222 = .ok (.iconst 3, 1) := by decide +kernel
theorem dX9_number_223 : decode cX9_number 223 = .ok (.goto 13, 3) := by decide +kernel
theorem dX9_number_226 : decode cX9_number 226 = .ok (.iload_n 0, 1) := by decide +kernel
theorem dX9_number_227 : decode cX9_number 227 = .ok (.iconst 2, 1) := by decide +kernel
theorem dX9_number_228 : decode cX9_number 228 = .ok (.if_icmp .ne 7, 3) := by decide +kernel
theorem dX9_number_231 : decode cX9_number 231 = .ok (.iconst 5, 1) := by decide +kernel
theorem dX9_number_232 : decode cX9_number 232 = .ok (.goto 4, 3) := by decide +kernel
theorem dX9_number_235 : decode cX9_number 235 = .ok (.iconst 4, 1) := by decide +kernel
theorem dX9_number_236 : decode cX9_number 236 = .ok (.ireturn, 1) := by decide +kernel
theorem dX9_number_237 : decode cX9_number 237 = .ok (.iload_n 0, 1) := by decide +kernel
theorem dX9_number_238 : decode cX9_number 238 = .ok (.ifCond .ne 8, 3) := by decide +kernel
theorem dX9_number_241 : decode cX9_number 241 = .ok (.bipush 6, 2) := by decide +kernel
theorem dX9_number_243 : decode cX9_number 243 = .ok (.goto 22, 3) := by decide +kernel
theorem dX9_number_246 : decode cX9_number 246 = .ok (.iload_n 0, 1) := by decide +kernel
theorem dX9_number_247 : decode cX9_number 247 = .ok (.iconst 1, 1) := by decide +kernel
theorem dX9_number_248 : decode cX9_number 248 = .ok (.if_icmp .ne 7, 3) := by decide +kernel
theorem dX9_number_251 : decode cX9_number 251 = .ok (.iconst 5, 1) := by decide +kernel
theorem dX9_number_252 : decode cX9_number 252 = .ok (.goto 13, 3) := by decide +kernel
theorem dX9_number_255 : decode cX9_number 255 = .ok (.iload_n 0, 1) := by decide +kernel
theorem dX9_number_256 : decode cX9_number 256 = .ok (.iconst 2, 1) := by decide +kernel
theorem dX9_number_257 : decode cX9_number 257 = .ok (.if_icmp .ne 7, 3) := by decide +kernel
theorem dX9_number_260 : decode cX9_number 260 = .ok (.iconst 4, 1) := by decide +kernel
theorem dX9_number_261 : decode cX9_number 261 = .ok (.goto 4, 3) := by decide +kernel
theorem dX9_number_264 : decode cX9_number 264 = .ok (.iconst 3, 1) := by decide +kernel
theorem dX9_number_265 : decode cX9_number 265 = .ok (.ireturn, 1) := by decide +kernel
theorem dX9_number_266 : decode cX9_number 266 = .ok (.iload_n 0, 1) := by decide +kernel
theorem dX9_number_267 : decode cX9_number 267 = .ok (.iconst 3, 1) := by decide +kernel
theorem dX9_number_268 : decode cX9_number 268 = .ok (.if_icmp .ne 7, 3) := by decide +kernel
theorem dX9_number_271 : decode cX9_number 271 = .ok (.iconst 0, 1) := by decide +kernel
theorem dX9_number_272 : decode cX9_number 272 = .ok (.goto 4, 3) := by decide +kernel
theorem dX9_number_275 : decode cX9_number 275 = .ok (.iconst 1, 1) := by decide +kernel
theorem dX9_number_276 : decode cX9_number 276 = .ok (.ireturn, 1) := by decide +kernel
theorem dX9_of_0 : decode cX9_of 0 = .ok (.aload_n 0, 1) := by decide +kernel
theorem dX9_of_1 : decode cX9_of 1 = .ok (.getfield 9, 3) := by decide +kernel
theorem dX9_of_4 : decode cX9_of 4 = .ok (.bipush 67, 2) := by decide +kernel
theorem dX9_of_6 : decode cX9_of 6 = .ok (.bipush 11, 2) := by decide +kernel
theorem dX9_of_8 : decode cX9_of 8 = .ok (.iload_n 1, 1) := by decide +kernel
theorem dX9_of_9 : decode cX9_of 9 = .ok (.imul, 1) := by decide +kernel
theorem dX9_of_10 : decode cX9_of 10 = .ok (.iadd, 1) := by decide +kernel
theorem dX9_of_11 : decode cX9_of 11 = .ok (.iload_n 2, 1) := by decide +kernel
theorem dX9_of_12 : decode cX9_of 12 = .ok (.iadd, 1) := by decide +kernel
theorem dX9_of_13 : decode cX9_of 13 = .ok (.iaload, 1) := by decide +kernel
theorem dX9_of_14 : decode cX9_of 14 = .ok (.ireturn, 1) := by decide +kernel
theorem dX9_sets_0 : decode cX9_sets 0 = .ok (.aload_n 0, 1) := by decide +kernel
theorem dX9_sets_1 : decode cX9_sets 1 = .ok (.getfield 9, 3) := by decide +kernel
theorem dX9_sets_4 : decode cX9_sets 4 = .ok (.bipush 67, 2) := by decide +kernel
theorem dX9_sets_6 : decode cX9_sets 6 = .ok (.bipush 11, 2) := by decide +kernel
theorem dX9_sets_8 : decode cX9_sets 8 = .ok (.iload_n 1, 1) := by decide +kernel
theorem dX9_sets_9 : decode cX9_sets 9 = .ok (.imul, 1) := by decide +kernel
theorem dX9_sets_10 : decode cX9_sets 10 = .ok (.iadd, 1) := by decide +kernel
theorem dX9_sets_11 : decode cX9_sets 11 = .ok (.iload_n 2, 1) := by decide +kernel
theorem dX9_sets_12 : decode cX9_sets 12 = .ok (.iadd, 1) := by decide +kernel
theorem dX9_sets_13 : decode cX9_sets 13 = .ok (.iload_n 3, 1) := by decide +kernel
theorem dX9_sets_14 : decode cX9_sets 14 = .ok (.iastore, 1) := by decide +kernel
theorem dX9_sets_15 : decode cX9_sets 15 = .ok (.return_, 1) := by decide +kernel
theorem dX9_kindly_0 : decode cX9_kindly 0 = .ok (.aload_n 0, 1) := by decide +kernel
theorem dX9_kindly_1 : decode cX9_kindly 1 = .ok (.iload_n 1, 1) := by decide +kernel
theorem dX9_kindly_2 : decode cX9_kindly 2 = .ok (.iconst 1, 1) := by decide +kernel
theorem dX9_kindly_3 : decode cX9_kindly 3 = .ok (.invokevirtual 60, 3) := by decide +kernel
theorem dX9_kindly_6 : decode cX9_kindly 6 = .ok (.iload_n 2, 1) := by decide +kernel
theorem dX9_kindly_7 : decode cX9_kindly 7 = .ok (.invokestatic 64, 3) := by decide +kernel
theorem dX9_kindly_10 : decode cX9_kindly 10 = .ok (.ireturn, 1) := by decide +kernel
theorem dX9_lives_0 : decode cX9_lives 0 = .ok (.aload_n 0, 1) := by decide +kernel
theorem dX9_lives_1 : decode cX9_lives 1 = .ok (.iload_n 1, 1) := by decide +kernel
theorem dX9_lives_2 : decode cX9_lives 2 = .ok (.iconst 3, 1) := by decide +kernel
theorem dX9_lives_3 : decode cX9_lives 3 = .ok (.invokevirtual 60, 3) := by decide +kernel
theorem dX9_lives_6 : decode cX9_lives 6 = .ok (.ifCond .le 7, 3) := by decide +kernel
theorem dX9_lives_9 : decode cX9_lives 9 = .ok (.iconst 1, 1) := by decide +kernel
theorem dX9_lives_10 : decode cX9_lives 10 = .ok (.goto 4, 3) := by decide +kernel
theorem dX9_lives_13 : decode cX9_lives 13 = .ok (.iconst 0, 1) := by decide +kernel
theorem dX9_lives_14 : decode cX9_lives 14 = .ok (.ireturn, 1) := by decide +kernel
theorem dX9_isUnit_0 : decode cX9_isUnit 0 = .ok (.iload_n 1, 1) := by decide +kernel
theorem dX9_isUnit_1 : decode cX9_isUnit 1 = .ok (.iconst 0, 1) := by decide +kernel
theorem dX9_isUnit_2 : decode cX9_isUnit 2 = .ok (.aload_n 0, 1) := by decide +kernel
theorem dX9_isUnit_3 : decode cX9_isUnit 3 = .ok (.getfield 9, 3) := by decide +kernel
theorem dX9_isUnit_6 : decode cX9_isUnit 6 = .ok (.bipush 66, 2) := by decide +kernel
theorem dX9_isUnit_8 : decode cX9_isUnit 8 = .ok (.iaload, 1) := by decide +kernel
theorem dX9_isUnit_9 : decode cX9_isUnit 9 = .ok (.iconst 1, 1) := by decide +kernel
theorem dX9_isUnit_10 : decode cX9_isUnit 10 = .ok (.isub, 1) := by decide +kernel
theorem dX9_isUnit_11 : decode cX9_isUnit 11 = .ok (.invokestatic 67, 3) := by decide +kernel
theorem dX9_isUnit_14 : decode cX9_isUnit 14 = .ok (.ireturn, 1) := by decide +kernel
theorem dX9_isCell_0 : decode cX9_isCell 0 = .ok (.iload_n 1, 1) := by decide +kernel
theorem dX9_isCell_1 : decode cX9_isCell 1 = .ok (.iconst 0, 1) := by decide +kernel
theorem dX9_isCell_2 : decode cX9_isCell 2 = .ok (.aload_n 0, 1) := by decide +kernel
theorem dX9_isCell_3 : decode cX9_isCell 3 = .ok (.getfield 9, 3) := by decide +kernel
theorem dX9_isCell_6 : decode cX9_isCell 6 = .ok (.iconst 0, 1) := by decide +kernel
theorem dX9_isCell_7 : decode cX9_isCell 7 = .ok (.iaload, 1) := by decide +kernel
theorem dX9_isCell_8 : decode cX9_isCell 8 = .ok (.aload_n 0, 1) := by decide +kernel
theorem dX9_isCell_9 : decode cX9_isCell 9 = .ok (.getfield 9, 3) := by decide +kernel
theorem dX9_isCell_12 : decode cX9_isCell 12 = .ok (.iconst 1, 1) := by decide +kernel
theorem dX9_isCell_13 : decode cX9_isCell 13 = .ok (.iaload, 1) := by decide +kernel
theorem dX9_isCell_14 : decode cX9_isCell 14 = .ok (.imul, 1) := by decide +kernel
theorem dX9_isCell_15 : decode cX9_isCell 15 = .ok (.iconst 1, 1) := by decide +kernel
theorem dX9_isCell_16 : decode cX9_isCell 16 = .ok (.isub, 1) := by decide +kernel
theorem dX9_isCell_17 : decode cX9_isCell 17 = .ok (.invokestatic 67, 3) := by decide +kernel
theorem dX9_isCell_20 : decode cX9_isCell 20 = .ok (.ireturn, 1) := by decide +kernel
theorem dX9_row_0 : decode cX9_row 0 = .ok (.iload_n 1, 1) := by decide +kernel
theorem dX9_row_1 : decode cX9_row 1 = .ok (.aload_n 0, 1) := by decide +kernel
theorem dX9_row_2 : decode cX9_row 2 = .ok (.getfield 9, 3) := by decide +kernel
theorem dX9_row_5 : decode cX9_row 5 = .ok (.iconst 1, 1) := by decide +kernel
theorem dX9_row_6 : decode cX9_row 6 = .ok (.iaload, 1) := by decide +kernel
theorem dX9_row_7 : decode cX9_row 7 = .ok (.idiv, 1) := by decide +kernel
theorem dX9_row_8 : decode cX9_row 8 = .ok (.ireturn, 1) := by decide +kernel
theorem dX9_column_0 : decode cX9_column 0 = .ok (.iload_n 1, 1) := by decide +kernel
theorem dX9_column_1 : decode cX9_column 1 = .ok (.aload_n 0, 1) := by decide +kernel
theorem dX9_column_2 : decode cX9_column 2 = .ok (.getfield 9, 3) := by decide +kernel
theorem dX9_column_5 : decode cX9_column 5 = .ok (.iconst 1, 1) := by decide +kernel
theorem dX9_column_6 : decode cX9_column 6 = .ok (.iaload, 1) := by decide +kernel
theorem dX9_column_7 : decode cX9_column 7 = .ok (.irem, 1) := by decide +kernel
theorem dX9_column_8 : decode cX9_column 8 = .ok (.ireturn, 1) := by decide +kernel
theorem dX9_apart_0 : decode cX9_apart 0 = .ok (.aload_n 0, 1) := by decide +kernel
theorem dX9_apart_1 : decode cX9_apart 1 = .ok (.iload_n 1, 1) := by decide +kernel
theorem dX9_apart_2 : decode cX9_apart 2 = .ok (.invokevirtual 71, 3) := by decide +kernel
theorem dX9_apart_5 : decode cX9_apart 5 = .ok (.aload_n 0, 1) := by decide +kernel
theorem dX9_apart_6 : decode cX9_apart 6 = .ok (.iload_n 2, 1) := by decide +kernel
theorem dX9_apart_7 : decode cX9_apart 7 = .ok (.invokevirtual 71, 3) := by decide +kernel
theorem dX9_apart_10 : decode cX9_apart 10 = .ok (.if_icmp .le 17, 3) := by decide +kernel
theorem dX9_apart_13 : decode cX9_apart 13 = .ok (.aload_n 0, 1) := by decide +kernel
theorem dX9_apart_14 : decode cX9_apart 14 = .ok (.iload_n 1, 1) := by decide +kernel
theorem dX9_apart_15 : decode cX9_apart 15 = .ok (.invokevirtual 71, 3) := by decide +kernel
theorem dX9_apart_18 : decode cX9_apart 18 = .ok (.aload_n 0, 1) := by decide +kernel
theorem dX9_apart_19 : decode cX9_apart 19 = .ok (.iload_n 2, 1) := by decide +kernel
theorem dX9_apart_20 : decode cX9_apart 20 = .ok (.invokevirtual 71, 3) := by decide +kernel
theorem dX9_apart_23 : decode cX9_apart 23 = .ok (.isub, 1) := by decide +kernel
theorem dX9_apart_24 : decode cX9_apart 24 = .ok (.goto 14, 3) := by decide +kernel
theorem dX9_apart_27 : decode cX9_apart 27 = .ok (.aload_n 0, 1) := by decide +kernel
theorem dX9_apart_28 : decode cX9_apart 28 = .ok (.iload_n 2, 1) := by decide +kernel
theorem dX9_apart_29 : decode cX9_apart 29 = .ok (.invokevirtual 71, 3) := by decide +kernel
theorem dX9_apart_32 : decode cX9_apart 32 = .ok (.aload_n 0, 1) := by decide +kernel
theorem dX9_apart_33 : decode cX9_apart 33 = .ok (.iload_n 1, 1) := by decide +kernel
theorem dX9_apart_34 : decode cX9_apart 34 = .ok (.invokevirtual 71, 3) := by decide +kernel
theorem dX9_apart_37 : decode cX9_apart 37 = .ok (.isub, 1) := by decide +kernel
theorem dX9_apart_38 : decode cX9_apart 38 = .ok (.istore_n 3, 1) := by decide +kernel
theorem dX9_apart_39 : decode cX9_apart 39 = .ok (.aload_n 0, 1) := by decide +kernel
theorem dX9_apart_40 : decode cX9_apart 40 = .ok (.iload_n 1, 1) := by decide +kernel
theorem dX9_apart_41 : decode cX9_apart 41 = .ok (.invokevirtual 75, 3) := by decide +kernel
theorem dX9_apart_44 : decode cX9_apart 44 = .ok (.aload_n 0, 1) := by decide +kernel
theorem dX9_apart_45 : decode cX9_apart 45 = .ok (.iload_n 2, 1) := by decide +kernel
theorem dX9_apart_46 : decode cX9_apart 46 = .ok (.invokevirtual 75, 3) := by decide +kernel
theorem dX9_apart_49 : decode cX9_apart 49 = .ok (.if_icmp .le 17, 3) := by decide +kernel
theorem dX9_apart_52 : decode cX9_apart 52 = .ok (.aload_n 0, 1) := by decide +kernel
theorem dX9_apart_53 : decode cX9_apart 53 = .ok (.iload_n 1, 1) := by decide +kernel
theorem dX9_apart_54 : decode cX9_apart 54 = .ok (.invokevirtual 75, 3) := by decide +kernel
theorem dX9_apart_57 : decode cX9_apart 57 = .ok (.aload_n 0, 1) := by decide +kernel
theorem dX9_apart_58 : decode cX9_apart 58 = .ok (.iload_n 2, 1) := by decide +kernel
theorem dX9_apart_59 : decode cX9_apart 59 = .ok (.invokevirtual 75, 3) := by decide +kernel
theorem dX9_apart_62 : decode cX9_apart 62 = .ok (.isub, 1) := by decide +kernel
theorem dX9_apart_63 : decode cX9_apart 63 = .ok (.goto 14, 3) := by decide +kernel
theorem dX9_apart_66 : decode cX9_apart 66 = .ok (.aload_n 0, 1) := by decide +kernel
theorem dX9_apart_67 : decode cX9_apart 67 = .ok (.iload_n 2, 1) := by decide +kernel
theorem dX9_apart_68 : decode cX9_apart 68 = .ok (.invokevirtual 75, 3) := by decide +kernel
theorem dX9_apart_71 : decode cX9_apart 71 = .ok (.aload_n 0, 1) := by decide +kernel
theorem dX9_apart_72 : decode cX9_apart 72 = .ok (.iload_n 1, 1) := by decide +kernel
theorem dX9_apart_73 : decode cX9_apart 73 = .ok (.invokevirtual 75, 3) := by decide +kernel
theorem dX9_apart_76 : decode cX9_apart 76 = .ok (.isub, 1) := by decide +kernel
theorem dX9_apart_77 : decode cX9_apart 77 = .ok (.istore 4, 2) := by decide +kernel
theorem dX9_apart_79 : decode cX9_apart 79 = .ok (.iload_n 3, 1) := by decide +kernel
theorem dX9_apart_80 : decode cX9_apart 80 = .ok (.iload 4, 2) := by decide +kernel
theorem dX9_apart_82 : decode cX9_apart 82 = .ok (.if_icmp .le 7, 3) := by decide +kernel
theorem dX9_apart_85 : decode cX9_apart 85 = .ok (.iload_n 3, 1) := by decide +kernel
theorem dX9_apart_86 : decode cX9_apart 86 = .ok (.goto 5, 3) := by decide +kernel
theorem dX9_apart_89 : decode cX9_apart 89 = .ok (.iload 4, 2) := by decide +kernel
theorem dX9_apart_91 : decode cX9_apart 91 = .ok (.ireturn, 1) := by decide +kernel
theorem dX9_append_0 : decode cX9_append 0 = .ok (.aload_n 0, 1) := by decide +kernel
theorem dX9_append_1 : decode cX9_append 1 = .ok (.iconst 0, 1) := by decide +kernel
theorem dX9_append_2 : decode cX9_append 2 = .ok (.putfield 57, 3) := by decide +kernel
theorem dX9_append_5 : decode cX9_append 5 = .ok (.iload_n 1, 1) := by decide +kernel
theorem dX9_append_6 : decode cX9_append 6 = .ok (.bipush 32, 2) := by decide +kernel
theorem dX9_append_8 : decode cX9_append 8 = .ok (.bipush 126, 2) := by decide +kernel
theorem dX9_append_10 : decode cX9_append 10 = .ok (.invokestatic 67, 3) := by decide +kernel
theorem dX9_append_13 : decode cX9_append 13 = .ok (.ifCond .ne 9, 3) := by decide +kernel
theorem dX9_append_16 : decode cX9_append 16 = .ok (.aload_n 0, 1) := by decide +kernel
theorem dX9_append_17 : decode cX9_append 17 = .ok (.iconst 1, 1) := by decide +kernel
theorem dX9_append_18 : decode cX9_append 18 = .ok (.invokevirtual 78, 3) := by decide +kernel
theorem dX9_append_21 : decode cX9_append 21 = .ok (.ireturn, 1) := by decide +kernel
theorem dX9_append_22 : decode cX9_append 22 = .ok (.aload_n 0, 1) := by decide +kernel
theorem dX9_append_23 : decode cX9_append 23 = .ok (.getfield 81, 3) := by decide +kernel
theorem dX9_append_26 : decode cX9_append 26 = .ok (.bipush 71, 2) := by decide +kernel
theorem dX9_append_28 : decode cX9_append 28 = .ok (.if_icmp .ne 9, 3) := by decide +kernel
theorem dX9_append_31 : decode cX9_append 31 = .ok (.aload_n 0, 1) := by decide +kernel
theorem dX9_append_32 : decode cX9_append 32 = .ok (.iconst 2, 1) := by decide +kernel
theorem dX9_append_33 : decode cX9_append 33 = .ok (.invokevirtual 78, 3) := by decide +kernel
theorem dX9_append_36 : decode cX9_append 36 = .ok (.ireturn, 1) := by decide +kernel
theorem dX9_append_37 : decode cX9_append 37 = .ok (.aload_n 0, 1) := by decide +kernel
theorem dX9_append_38 : decode cX9_append 38 = .ok (.getfield 34, 3) := by decide +kernel
theorem dX9_append_41 : decode cX9_append 41 = .ok (.aload_n 0, 1) := by decide +kernel
theorem dX9_append_42 : decode cX9_append 42 = .ok (.getfield 81, 3) := by decide +kernel
theorem dX9_append_45 : decode cX9_append 45 = .ok (.iload_n 1, 1) := by decide +kernel
theorem dX9_append_46 : decode cX9_append 46 = .ok (.iastore, 1) := by decide +kernel
theorem dX9_append_47 : decode cX9_append 47 = .ok (.aload_n 0, 1) := by decide +kernel
theorem dX9_append_48 : decode cX9_append 48 = .ok (.dup, 1) := by decide +kernel
theorem dX9_append_49 : decode cX9_append 49 = .ok (.getfield 81, 3) := by decide +kernel
theorem dX9_append_52 : decode cX9_append 52 = .ok (.iconst 1, 1) := by decide +kernel
theorem dX9_append_53 : decode cX9_append 53 = .ok (.iadd, 1) := by decide +kernel
theorem dX9_append_54 : decode cX9_append 54 = .ok (.putfield 81, 3) := by decide +kernel
theorem dX9_append_57 : decode cX9_append 57 = .ok (.aload_n 0, 1) := by decide +kernel
theorem dX9_append_58 : decode cX9_append 58 = .ok (.getfield 81, 3) := by decide +kernel
theorem dX9_append_61 : decode cX9_append 61 = .ok (.ireturn, 1) := by decide +kernel
theorem dX9_terrainOf_0 : decode cX9_terrainOf 0 = .ok (.iload_n 0, 1) := by decide +kernel
theorem dX9_terrainOf_1 : decode cX9_terrainOf 1 = .ok (.bipush 46, 2) := by decide +kernel
theorem dX9_terrainOf_3 : decode cX9_terrainOf 3 = .ok (.if_icmp .ne 7, 3) := by decide +kernel
theorem dX9_terrainOf_6 : decode cX9_terrainOf 6 = .ok (.iconst 0, 1) := by decide +kernel
theorem dX9_terrainOf_7 : decode cX9_terrainOf 7 = .ok (.goto 44, 3) := by decide +kernel
theorem dX9_terrainOf_10 : decode cX9_terrainOf 10 = .ok (.iload_n 0, 1) := by decide +kernel
theorem dX9_terrainOf_11 : decode cX9_terrainOf 11 = .ok (.bipush 35, 2) := by decide +kernel
theorem dX9_terrainOf_13 : decode cX9_terrainOf 13 = .ok (.if_icmp .ne 7, 3) := by decide +kernel
theorem dX9_terrainOf_16 : decode cX9_terrainOf 16 = .ok (.iconst 1, 1) := by decide +kernel
theorem dX9_terrainOf_17 : decode cX9_terrainOf 17 = .ok (.goto 34, 3) := by decide +kernel
theorem dX9_terrainOf_20 : decode cX9_terrainOf 20 = .ok (.iload_n 0, 1) := by decide +kernel
theorem dX9_terrainOf_21 : decode cX9_terrainOf 21 = .ok (.bipush 111, 2) := by decide +kernel
theorem dX9_terrainOf_23 : decode cX9_terrainOf 23 = .ok (.if_icmp .ne 7, 3) := by decide +kernel
theorem dX9_terrainOf_26 : decode cX9_terrainOf 26 = .ok (.iconst 2, 1) := by decide +kernel
theorem dX9_terrainOf_27 : decode cX9_terrainOf 27 = .ok (.goto 24, 3) := by decide +kernel
theorem dX9_terrainOf_30 : decode cX9_terrainOf 30 = .ok (.iload_n 0, 1) := by decide +kernel
theorem dX9_terrainOf_31 : decode cX9_terrainOf 31 = .ok (.bipush 126, 2) := by decide +kernel
theorem dX9_terrainOf_33 : decode cX9_terrainOf 33 = .ok (.if_icmp .ne 7, 3) := by decide +kernel
theorem dX9_terrainOf_36 : decode cX9_terrainOf 36 = .ok (.iconst 3, 1) := by decide +kernel
theorem dX9_terrainOf_37 : decode cX9_terrainOf 37 = .ok (.goto 14, 3) := by decide +kernel
theorem dX9_terrainOf_40 : decode cX9_terrainOf 40 = .ok (.iload_n 0, 1) := by decide +kernel
theorem dX9_terrainOf_41 : decode cX9_terrainOf 41 = .ok (.bipush 94, 2) := by decide +kernel
theorem dX9_terrainOf_43 : decode cX9_terrainOf 43 = .ok (.if_icmp .ne 7, 3) := by decide +kernel
theorem dX9_terrainOf_46 : decode cX9_terrainOf 46 = .ok (.iconst 4, 1) := by decide +kernel
theorem dX9_terrainOf_47 : decode cX9_terrainOf 47 = .ok (.goto 4, 3) := by decide +kernel
theorem dX9_terrainOf_50 : decode cX9_terrainOf 50 = .ok (.iconst (-1), 1) := by decide +kernel
theorem dX9_terrainOf_51 : decode cX9_terrainOf 51 = .ok (.ireturn, 1) := by decide +kernel
theorem dX9_wrong_0 : decode cX9_wrong 0 = .ok (.iconst (-1), 1) := by decide +kernel
theorem dX9_wrong_1 : decode cX9_wrong 1 = .ok (.istore_n 1, 1) := by decide +kernel
theorem dX9_wrong_2 : decode cX9_wrong 2 = .ok (.iconst 0, 1) := by decide +kernel
theorem dX9_wrong_3 : decode cX9_wrong 3 = .ok (.istore_n 2, 1) := by decide +kernel
theorem dX9_wrong_4 : decode cX9_wrong 4 = .ok (.iconst 1, 1) := by decide +kernel
theorem dX9_wrong_5 : decode cX9_wrong 5 = .ok (.istore_n 3, 1) := by decide +kernel
theorem dX9_wrong_6 : decode cX9_wrong 6 = .ok (.iconst 0, 1) := by decide +kernel
theorem dX9_wrong_7 : decode cX9_wrong 7 = .ok (.istore 4, 2) := by decide +kernel
theorem dX9_wrong_9 : decode cX9_wrong 9 = .ok (.iload 4, 2) := by decide +kernel
theorem dX9_wrong_11 : decode cX9_wrong 11 = .ok (.aload_n 0, 1) := by decide +kernel
theorem dX9_wrong_12 : decode cX9_wrong 12 = .ok (.getfield 81, 3) := by decide +kernel
theorem dX9_wrong_15 : decode cX9_wrong 15 = .ok (.if_icmp .ge 71, 3) := by decide +kernel
theorem dX9_wrong_18 : decode cX9_wrong 18 = .ok (.aload_n 0, 1) := by decide +kernel
theorem dX9_wrong_19 : decode cX9_wrong 19 = .ok (.getfield 34, 3) := by decide +kernel
theorem dX9_wrong_22 : decode cX9_wrong 22 = .ok (.iload 4, 2) := by decide +kernel
theorem dX9_wrong_24 : decode cX9_wrong 24 = .ok (.iaload, 1) := by decide +kernel
theorem dX9_wrong_25 : decode cX9_wrong 25 = .ok (.bipush 47, 2) := by decide +kernel
theorem dX9_wrong_27 : decode cX9_wrong 27 = .ok (.if_icmp .ne 29, 3) := by decide +kernel
theorem dX9_wrong_30 : decode cX9_wrong 30 = .ok (.iload_n 2, 1) := by decide +kernel
theorem dX9_wrong_31 : decode cX9_wrong 31 = .ok (.ifCond .eq 12, 3) := by decide +kernel
theorem dX9_wrong_34 : decode cX9_wrong 34 = .ok (.iload_n 1, 1) := by decide +kernel
theorem dX9_wrong_35 : decode cX9_wrong 35 = .ok (.ifCond .lt 11, 3) := by decide +kernel
theorem dX9_wrong_38 : decode cX9_wrong 38 = .ok (.iload_n 2, 1) := by decide +kernel
theorem dX9_wrong_39 : decode cX9_wrong 39 = .ok (.iload_n 1, 1) := by decide +kernel
theorem dX9_wrong_40 : decode cX9_wrong 40 = .ok (.if_icmp .ge 6, 3) := by decide +kernel
theorem dX9_wrong_43 : decode cX9_wrong 43 = .ok (.iload 4, 2) := by decide +kernel
theorem dX9_wrong_45 : decode cX9_wrong 45 = .ok (.ireturn, 1) := by decide +kernel
theorem dX9_wrong_46 : decode cX9_wrong 46 = .ok (.iload_n 2, 1) := by decide +kernel
theorem dX9_wrong_47 : decode cX9_wrong 47 = .ok (.istore_n 1, 1) := by decide +kernel
theorem dX9_wrong_48 : decode cX9_wrong 48 = .ok (.iconst 0, 1) := by decide +kernel
theorem dX9_wrong_49 : decode cX9_wrong 49 = .ok (.istore_n 2, 1) := by decide +kernel
theorem dX9_wrong_50 : decode cX9_wrong 50 = .ok (.iinc 3 1, 3) := by decide +kernel
theorem dX9_wrong_53 : decode cX9_wrong 53 = .ok (.goto 27, 3) := by decide +kernel
theorem dX9_wrong_56 : decode cX9_wrong 56 = .ok (.aload_n 0, 1) := by decide +kernel
theorem dX9_wrong_57 : decode cX9_wrong 57 = .ok (.getfield 34, 3) := by decide +kernel
theorem dX9_wrong_60 : decode cX9_wrong 60 = .ok (.iload 4, 2) := by decide +kernel
theorem dX9_wrong_62 : decode cX9_wrong 62 = .ok (.iaload, 1) := by decide +kernel
theorem dX9_wrong_63 : decode cX9_wrong 63 = .ok (.invokestatic 84, 3) := by decide +kernel
theorem dX9_wrong_66 : decode cX9_wrong 66 = .ok (.ifCond .lt 8, 3) := by decide +kernel
theorem dX9_wrong_69 : decode cX9_wrong 69 = .ok (.iload_n 2, 1) := by decide +kernel
theorem dX9_wrong_70 : decode cX9_wrong 70 = .ok (.iload_n 1, 1) := by decide +kernel
theorem dX9_wrong_71 : decode cX9_wrong 71 = .ok (.if_icmp .ne 6, 3) := by decide +kernel
theorem dX9_wrong_74 : decode cX9_wrong 74 = .ok (.iload 4, 2) := by decide +kernel
theorem dX9_wrong_76 : decode cX9_wrong 76 = .ok (.ireturn, 1) := by decide +kernel
theorem dX9_wrong_77 : decode cX9_wrong 77 = .ok (.iinc 2 1, 3) := by decide +kernel
theorem dX9_wrong_80 : decode cX9_wrong 80 = .ok (.iinc 4 1, 3) := by decide +kernel
theorem dX9_wrong_83 : decode cX9_wrong 83 = .ok (.goto (-74), 3) := by decide +kernel
theorem dX9_wrong_86 : decode cX9_wrong 86 = .ok (.aload_n 0, 1) := by decide +kernel
theorem dX9_wrong_87 : decode cX9_wrong 87 = .ok (.iload_n 3, 1) := by decide +kernel
theorem dX9_wrong_88 : decode cX9_wrong 88 = .ok (.putfield 87, 3) := by decide +kernel
theorem dX9_wrong_91 : decode cX9_wrong 91 = .ok (.aload_n 0, 1) := by decide +kernel
theorem dX9_wrong_92 : decode cX9_wrong 92 = .ok (.iload_n 2, 1) := by decide +kernel
theorem dX9_wrong_93 : decode cX9_wrong 93 = .ok (.putfield 90, 3) := by decide +kernel
theorem dX9_wrong_96 : decode cX9_wrong 96 = .ok (.iload_n 2, 1) := by decide +kernel
theorem dX9_wrong_97 : decode cX9_wrong 97 = .ok (.ifCond .eq 12, 3) := by decide +kernel
theorem dX9_wrong_100 : decode cX9_wrong 100 = .ok (.iload_n 1, 1) := by decide +kernel
theorem dX9_wrong_101 : decode cX9_wrong 101 = .ok (.ifCond .lt 15, 3) := by decide +kernel
theorem dX9_wrong_104 : decode cX9_wrong 104 = .ok (.iload_n 2, 1) := by decide +kernel
theorem dX9_wrong_105 : decode cX9_wrong 105 = .ok (.iload_n 1, 1) := by decide +kernel
theorem dX9_wrong_106 : decode cX9_wrong 106 = .ok (.if_icmp .ge 10, 3) := by decide +kernel
theorem dX9_wrong_109 : decode cX9_wrong 109 = .ok (.aload_n 0, 1) := by decide +kernel
theorem dX9_wrong_110 : decode cX9_wrong 110 = .ok (.getfield 81, 3) := by decide +kernel
theorem dX9_wrong_113 : decode cX9_wrong 113 = .ok (.goto 4, 3) := by decide +kernel
theorem dX9_wrong_116 : decode cX9_wrong 116 = .ok (.iconst (-1), 1) := by decide +kernel
theorem dX9_wrong_117 : decode cX9_wrong 117 = .ok (.ireturn, 1) := by decide +kernel
theorem dX9_load_0 : decode cX9_load 0 = .ok (.aload_n 0, 1) := by decide +kernel
theorem dX9_load_1 : decode cX9_load 1 = .ok (.iconst 0, 1) := by decide +kernel
theorem dX9_load_2 : decode cX9_load 2 = .ok (.putfield 57, 3) := by decide +kernel
theorem dX9_load_5 : decode cX9_load 5 = .ok (.aload_n 0, 1) := by decide +kernel
theorem dX9_load_6 : decode cX9_load 6 = .ok (.invokevirtual 93, 3) := by decide +kernel
theorem dX9_load_9 : decode cX9_load 9 = .ok (.istore_n 2, 1) := by decide +kernel
theorem dX9_load_10 : decode cX9_load 10 = .ok (.aload_n 0, 1) := by decide +kernel
theorem dX9_load_11 : decode cX9_load 11 = .ok (.getfield 81, 3) := by decide +kernel
theorem dX9_load_14 : decode cX9_load 14 = .ok (.istore_n 3, 1) := by decide +kernel
theorem dX9_load_15 : decode cX9_load 15 = .ok (.aload_n 0, 1) := by decide +kernel
theorem dX9_load_16 : decode cX9_load 16 = .ok (.iconst 0, 1) := by decide +kernel
theorem dX9_load_17 : decode cX9_load 17 = .ok (.putfield 81, 3) := by decide +kernel
theorem dX9_load_20 : decode cX9_load 20 = .ok (.iload_n 2, 1) := by decide +kernel
theorem dX9_load_21 : decode cX9_load 21 = .ok (.ifCond .lt 14, 3) := by decide +kernel
theorem dX9_load_24 : decode cX9_load 24 = .ok (.aload_n 0, 1) := by decide +kernel
theorem dX9_load_25 : decode cX9_load 25 = .ok (.iload_n 2, 1) := by decide +kernel
theorem dX9_load_26 : decode cX9_load 26 = .ok (.putfield 37, 3) := by decide +kernel
theorem dX9_load_29 : decode cX9_load 29 = .ok (.aload_n 0, 1) := by decide +kernel
theorem dX9_load_30 : decode cX9_load 30 = .ok (.iconst 1, 1) := by decide +kernel
theorem dX9_load_31 : decode cX9_load 31 = .ok (.invokevirtual 78, 3) := by decide +kernel
theorem dX9_load_34 : decode cX9_load 34 = .ok (.ireturn, 1) := by decide +kernel
theorem dX9_load_35 : decode cX9_load 35 = .ok (.aload_n 0, 1) := by decide +kernel
theorem dX9_load_36 : decode cX9_load 36 = .ok (.getfield 87, 3) := by decide +kernel
theorem dX9_load_39 : decode cX9_load 39 = .ok (.iconst 3, 1) := by decide +kernel
theorem dX9_load_40 : decode cX9_load 40 = .ok (.bipush 8, 2) := by decide +kernel
theorem dX9_load_42 : decode cX9_load 42 = .ok (.invokestatic 67, 3) := by decide +kernel
theorem dX9_load_45 : decode cX9_load 45 = .ok (.ifCond .eq 16, 3) := by decide +kernel
theorem dX9_load_48 : decode cX9_load 48 = .ok (.aload_n 0, 1) := by decide +kernel
theorem dX9_load_49 : decode cX9_load 49 = .ok (.getfield 90, 3) := by decide +kernel
theorem dX9_load_52 : decode cX9_load 52 = .ok (.iconst 3, 1) := by decide +kernel
theorem dX9_load_53 : decode cX9_load 53 = .ok (.bipush 8, 2) := by decide +kernel
theorem dX9_load_55 : decode cX9_load 55 = .ok (.invokestatic 67, 3) := by decide +kernel
theorem dX9_load_58 : decode cX9_load 58 = .ok (.ifCond .ne 9, 3) := by decide +kernel
theorem dX9_load_61 : decode cX9_load 61 = .ok (.aload_n 0, 1) := by decide +kernel
theorem dX9_load_62 : decode cX9_load 62 = .ok (.iconst 2, 1) := by decide +kernel
theorem dX9_load_63 : decode cX9_load 63 = .ok (.invokevirtual 78, 3) := by decide +kernel
theorem dX9_load_66 : decode cX9_load 66 = .ok (.ireturn, 1) := by decide +kernel
theorem dX9_load_67 : decode cX9_load 67 = .ok (.iconst 0, 1) := by decide +kernel
theorem dX9_load_68 : decode cX9_load 68 = .ok (.istore 4, 2) := by decide +kernel
theorem dX9_load_70 : decode cX9_load 70 = .ok (.iload 4, 2) := by decide +kernel
theorem dX9_load_72 : decode cX9_load 72 = .ok (.sipush 290, 3) := by decide +kernel
theorem dX9_load_75 : decode cX9_load 75 = .ok (.if_icmp .ge 17, 3) := by decide +kernel
theorem dX9_load_78 : decode cX9_load 78 = .ok (.aload_n 0, 1) := by decide +kernel
theorem dX9_load_79 : decode cX9_load 79 = .ok (.getfield 9, 3) := by decide +kernel
theorem dX9_load_82 : decode cX9_load 82 = .ok (.iload 4, 2) := by decide +kernel
theorem dX9_load_84 : decode cX9_load 84 = .ok (.iconst 0, 1) := by decide +kernel
theorem dX9_load_85 : decode cX9_load 85 = .ok (.iastore, 1) := by decide +kernel
theorem dX9_load_86 : decode cX9_load 86 = .ok (.iinc 4 1, 3) := by decide +kernel
theorem dX9_load_89 : decode cX9_load 89 = .ok (.goto (-19), 3) := by decide +kernel
theorem dX9_load_92 : decode cX9_load 92 = .ok (.iconst 2, 1) := by decide +kernel
theorem dX9_load_93 : decode cX9_load 93 = .ok (.istore 4, 2) := by decide +kernel
theorem dX9_load_95 : decode cX9_load 95 = .ok (.iconst 0, 1) := by decide +kernel
theorem dX9_load_96 : decode cX9_load 96 = .ok (.istore 5, 2) := by decide +kernel
theorem dX9_load_98 : decode cX9_load 98 = .ok (.iload 5, 2) := by decide +kernel
theorem dX9_load_100 : decode cX9_load 100 = .ok (.iload_n 3, 1) := by decide +kernel
theorem dX9_load_101 : decode cX9_load 101 = .ok (.if_icmp .ge 44, 3) := by decide +kernel
theorem dX9_load_104 : decode cX9_load 104 = .ok (.aload_n 0, 1) := by decide +kernel
theorem dX9_load_105 : decode cX9_load 105 = .ok (.getfield 34, 3) := by decide +kernel
theorem dX9_load_108 : decode cX9_load 108 = .ok (.iload 5, 2) := by decide +kernel
theorem dX9_load_110 : decode cX9_load 110 = .ok (.iaload, 1) := by decide +kernel
theorem dX9_load_111 : decode cX9_load 111 = .ok (.bipush 47, 2) := by decide +kernel
theorem dX9_load_113 : decode cX9_load 113 = .ok (.if_icmp .ne 6, 3) := by decide +kernel
theorem dX9_load_116 : decode cX9_load 116 = .ok (.goto 23, 3) := by decide +kernel
theorem dX9_load_119 : decode cX9_load 119 = .ok (.aload_n 0, 1) := by decide +kernel
theorem dX9_load_120 : decode cX9_load 120 = .ok (.getfield 9, 3) := by decide +kernel
theorem dX9_load_123 : decode cX9_load 123 = .ok (.iload 4, 2) := by decide +kernel
theorem dX9_load_125 : decode cX9_load 125 = .ok (.aload_n 0, 1) := by decide +kernel
theorem dX9_load_126 : decode cX9_load 126 = .ok (.getfield 34, 3) := by decide +kernel
theorem dX9_load_129 : decode cX9_load 129 = .ok (.iload 5, 2) := by decide +kernel
theorem dX9_load_131 : decode cX9_load 131 = .ok (.iaload, 1) := by decide +kernel
theorem dX9_load_132 : decode cX9_load 132 = .ok (.invokestatic 84, 3) := by decide +kernel
theorem dX9_load_135 : decode cX9_load 135 = .ok (.iastore, 1) := by decide +kernel
theorem dX9_load_136 : decode cX9_load 136 = .ok (.iinc 4 1, 3) := by decide +kernel
theorem dX9_load_139 : decode cX9_load 139 = .ok (.iinc 5 1, 3) := by decide +kernel
theorem dX9_load_142 : decode cX9_load 142 = .ok (.goto (-44), 3) := by decide +kernel
theorem dX9_load_145 : decode cX9_load 145 = .ok (.aload_n 0, 1) := by decide +kernel
theorem dX9_load_146 : decode cX9_load 146 = .ok (.getfield 9, 3) := by decide +kernel
theorem dX9_load_149 : decode cX9_load 149 = .ok (.iconst 0, 1) := by decide +kernel
theorem dX9_load_150 : decode cX9_load 150 = .ok (.aload_n 0, 1) := by decide +kernel
theorem dX9_load_151 : decode cX9_load 151 = .ok (.getfield 87, 3) := by decide +kernel
theorem dX9_load_154 : decode cX9_load 154 = .ok (.iastore, 1) := by decide +kernel
theorem dX9_load_155 : decode cX9_load 155 = .ok (.aload_n 0, 1) := by decide +kernel
theorem dX9_load_156 : decode cX9_load 156 = .ok (.getfield 9, 3) := by decide +kernel
theorem dX9_load_159 : decode cX9_load 159 = .ok (.iconst 1, 1) := by decide +kernel
theorem dX9_load_160 : decode cX9_load 160 = .ok (.aload_n 0, 1) := by decide +kernel
theorem dX9_load_161 : decode cX9_load 161 = .ok (.getfield 90, 3) := by decide +kernel
theorem dX9_load_164 : decode cX9_load 164 = .ok (.iastore, 1) := by decide +kernel
theorem dX9_load_165 : decode cX9_load 165 = .ok (.aload_n 0, 1) := by decide +kernel
theorem dX9_load_166 : decode cX9_load 166 = .ok (.getfield 9, 3) := by decide +kernel
theorem dX9_load_169 : decode cX9_load 169 = .ok (.sipush 155, 3) := by decide +kernel
theorem dX9_load_172 : decode cX9_load 172 = .ok (.iload_n 1, 1) := by decide +kernel
theorem dX9_load_173 : decode cX9_load 173 = .ok (.iastore, 1) := by decide +kernel
theorem dX9_load_174 : decode cX9_load 174 = .ok (.aload_n 0, 1) := by decide +kernel
theorem dX9_load_175 : decode cX9_load 175 = .ok (.getfield 9, 3) := by decide +kernel
theorem dX9_load_178 : decode cX9_load 178 = .ok (.sipush 166, 3) := by decide +kernel
theorem dX9_load_181 : decode cX9_load 181 = .ok (.iconst (-1), 1) := by decide +kernel
theorem dX9_load_182 : decode cX9_load 182 = .ok (.iastore, 1) := by decide +kernel
theorem dX9_load_183 : decode cX9_load 183 = .ok (.aload_n 0, 1) := by decide +kernel
theorem dX9_load_184 : decode cX9_load 184 = .ok (.iconst 0, 1) := by decide +kernel
theorem dX9_load_185 : decode cX9_load 185 = .ok (.putfield 97, 3) := by decide +kernel
theorem dX9_load_188 : decode cX9_load 188 = .ok (.bipush 10, 2) := by decide +kernel
theorem dX9_load_190 : decode cX9_load 190 = .ok (.aload_n 0, 1) := by decide +kernel
theorem dX9_load_191 : decode cX9_load 191 = .ok (.getfield 87, 3) := by decide +kernel
theorem dX9_load_194 : decode cX9_load 194 = .ok (.imul, 1) := by decide +kernel
theorem dX9_load_195 : decode cX9_load 195 = .ok (.aload_n 0, 1) := by decide +kernel
theorem dX9_load_196 : decode cX9_load 196 = .ok (.getfield 90, 3) := by decide +kernel
theorem dX9_load_199 : decode cX9_load 199 = .ok (.iadd, 1) := by decide +kernel
theorem dX9_load_200 : decode cX9_load 200 = .ok (.ireturn, 1) := by decide +kernel
theorem dX9_errorPosition_0 : decode cX9_errorPosition 0 = .ok (.aload_n 0, 1) := by decide +kernel
theorem dX9_errorPosition_1 : decode cX9_errorPosition 1 = .ok (.aload_n 0, 1) := by decide +kernel
theorem dX9_errorPosition_2 : decode cX9_errorPosition 2 = .ok (.getfield 37, 3) := by decide +kernel
theorem dX9_errorPosition_5 : decode cX9_errorPosition 5 = .ok (.ifCond .ge 7, 3) := by decide +kernel
theorem dX9_errorPosition_8 : decode cX9_errorPosition 8 = .ok (.iconst 1, 1) := by decide +kernel
theorem dX9_errorPosition_9 : decode cX9_errorPosition 9 = .ok (.goto 4, 3) := by decide +kernel
theorem dX9_errorPosition_12 : decode cX9_errorPosition 12 = .ok (.iconst 0, 1) := by decide +kernel
theorem dX9_errorPosition_13 : decode cX9_errorPosition 13 = .ok (.putfield 57, 3) := by decide +kernel
theorem dX9_errorPosition_16 : decode cX9_errorPosition 16 = .ok (.aload_n 0, 1) := by decide +kernel
theorem dX9_errorPosition_17 : decode cX9_errorPosition 17 = .ok (.getfield 37, 3) := by decide +kernel
theorem dX9_errorPosition_20 : decode cX9_errorPosition 20 = .ok (.ifCond .ge 7, 3) := by decide +kernel
theorem dX9_errorPosition_23 : decode cX9_errorPosition 23 = .ok (.iconst 0, 1) := by decide +kernel
theorem dX9_errorPosition_24 : decode cX9_errorPosition 24 = .ok (.goto 7, 3) := by decide +kernel
theorem dX9_errorPosition_27 : decode cX9_errorPosition 27 = .ok (.aload_n 0, 1) := by decide +kernel
theorem dX9_errorPosition_28 : decode cX9_errorPosition 28 = .ok (.getfield 37, 3) := by decide +kernel
theorem dX9_errorPosition_31 : decode cX9_errorPosition 31 = .ok (.ireturn, 1) := by decide +kernel
theorem dX9_terrain_0 : decode cX9_terrain 0 = .ok (.aload_n 0, 1) := by decide +kernel
theorem dX9_terrain_1 : decode cX9_terrain 1 = .ok (.iload_n 1, 1) := by decide +kernel
theorem dX9_terrain_2 : decode cX9_terrain 2 = .ok (.iconst 0, 1) := by decide +kernel
theorem dX9_terrain_3 : decode cX9_terrain 3 = .ok (.aload_n 0, 1) := by decide +kernel
theorem dX9_terrain_4 : decode cX9_terrain 4 = .ok (.getfield 9, 3) := by decide +kernel
theorem dX9_terrain_7 : decode cX9_terrain 7 = .ok (.iconst 0, 1) := by decide +kernel
theorem dX9_terrain_8 : decode cX9_terrain 8 = .ok (.iaload, 1) := by decide +kernel
theorem dX9_terrain_9 : decode cX9_terrain 9 = .ok (.iconst 1, 1) := by decide +kernel
theorem dX9_terrain_10 : decode cX9_terrain 10 = .ok (.isub, 1) := by decide +kernel
theorem dX9_terrain_11 : decode cX9_terrain 11 = .ok (.invokestatic 67, 3) := by decide +kernel
theorem dX9_terrain_14 : decode cX9_terrain 14 = .ok (.ifCond .eq 23, 3) := by decide +kernel
theorem dX9_terrain_17 : decode cX9_terrain 17 = .ok (.iload_n 2, 1) := by decide +kernel
theorem dX9_terrain_18 : decode cX9_terrain 18 = .ok (.iconst 0, 1) := by decide +kernel
theorem dX9_terrain_19 : decode cX9_terrain 19 = .ok (.aload_n 0, 1) := by decide +kernel
theorem dX9_terrain_20 : decode cX9_terrain 20 = .ok (.getfield 9, 3) := by decide +kernel
theorem dX9_terrain_23 : decode cX9_terrain 23 = .ok (.iconst 1, 1) := by decide +kernel
theorem dX9_terrain_24 : decode cX9_terrain 24 = .ok (.iaload, 1) := by decide +kernel
theorem dX9_terrain_25 : decode cX9_terrain 25 = .ok (.iconst 1, 1) := by decide +kernel
theorem dX9_terrain_26 : decode cX9_terrain 26 = .ok (.isub, 1) := by decide +kernel
theorem dX9_terrain_27 : decode cX9_terrain 27 = .ok (.invokestatic 67, 3) := by decide +kernel
theorem dX9_terrain_30 : decode cX9_terrain 30 = .ok (.ifCond .eq 7, 3) := by decide +kernel
theorem dX9_terrain_33 : decode cX9_terrain 33 = .ok (.iconst 0, 1) := by decide +kernel
theorem dX9_terrain_34 : decode cX9_terrain 34 = .ok (.goto 4, 3) := by decide +kernel
theorem dX9_terrain_37 : decode cX9_terrain 37 = .ok (.iconst 1, 1) := by decide +kernel
theorem dX9_terrain_38 : decode cX9_terrain 38 = .ok (.putfield 57, 3) := by decide +kernel
theorem dX9_terrain_41 : decode cX9_terrain 41 = .ok (.aload_n 0, 1) := by decide +kernel
theorem dX9_terrain_42 : decode cX9_terrain 42 = .ok (.getfield 57, 3) := by decide +kernel
theorem dX9_terrain_45 : decode cX9_terrain 45 = .ok (.iconst 1, 1) := by decide +kernel
theorem dX9_terrain_46 : decode cX9_terrain 46 = .ok (.if_icmp .ne 5, 3) := by decide +kernel
theorem dX9_terrain_49 : decode cX9_terrain 49 = .ok (.iconst 0, 1) := by decide +kernel
theorem dX9_terrain_50 : decode cX9_terrain 50 = .ok (.ireturn, 1) := by decide +kernel
theorem dX9_terrain_51 : decode cX9_terrain 51 = .ok (.aload_n 0, 1) := by decide +kernel
theorem dX9_terrain_52 : decode cX9_terrain 52 = .ok (.getfield 9, 3) := by decide +kernel
theorem dX9_terrain_55 : decode cX9_terrain 55 = .ok (.iconst 2, 1) := by decide +kernel
theorem dX9_terrain_56 : decode cX9_terrain 56 = .ok (.iload_n 1, 1) := by decide +kernel
theorem dX9_terrain_57 : decode cX9_terrain 57 = .ok (.aload_n 0, 1) := by decide +kernel
theorem dX9_terrain_58 : decode cX9_terrain 58 = .ok (.getfield 9, 3) := by decide +kernel
theorem dX9_terrain_61 : decode cX9_terrain 61 = .ok (.iconst 1, 1) := by decide +kernel
theorem dX9_terrain_62 : decode cX9_terrain 62 = .ok (.iaload, 1) := by decide +kernel
theorem dX9_terrain_63 : decode cX9_terrain 63 = .ok (.imul, 1) := by decide +kernel
theorem dX9_terrain_64 : decode cX9_terrain 64 = .ok (.iadd, 1) := by decide +kernel
theorem dX9_terrain_65 : decode cX9_terrain 65 = .ok (.iload_n 2, 1) := by decide +kernel
theorem dX9_terrain_66 : decode cX9_terrain 66 = .ok (.iadd, 1) := by decide +kernel
theorem dX9_terrain_67 : decode cX9_terrain 67 = .ok (.iaload, 1) := by decide +kernel
theorem dX9_terrain_68 : decode cX9_terrain 68 = .ok (.istore_n 3, 1) := by decide +kernel
theorem dX9_terrain_69 : decode cX9_terrain 69 = .ok (.iload_n 3, 1) := by decide +kernel
theorem dX9_terrain_70 : decode cX9_terrain 70 = .ok (.ifCond .ne 8, 3) := by decide +kernel
theorem dX9_terrain_73 : decode cX9_terrain 73 = .ok (.bipush 46, 2) := by decide +kernel
theorem dX9_terrain_75 : decode cX9_terrain 75 = .ok (.goto 35, 3) := by decide +kernel
theorem dX9_terrain_78 : decode cX9_terrain 78 = .ok (.iload_n 3, 1) := by decide +kernel
theorem dX9_terrain_79 : decode cX9_terrain 79 = .ok (.iconst 1, 1) := by decide +kernel
theorem dX9_terrain_80 : decode cX9_terrain 80 = .ok (.if_icmp .ne 8, 3) := by decide +kernel
theorem dX9_terrain_83 : decode cX9_terrain 83 = .ok (.bipush 35, 2) := by decide +kernel
theorem dX9_terrain_85 : decode cX9_terrain 85 = .ok (.goto 25, 3) := by decide +kernel
theorem dX9_terrain_88 : decode cX9_terrain 88 = .ok (.iload_n 3, 1) := by decide +kernel
theorem dX9_terrain_89 : decode cX9_terrain 89 = .ok (.iconst 2, 1) := by decide +kernel
theorem dX9_terrain_90 : decode cX9_terrain 90 = .ok (.if_icmp .ne 8, 3) := by decide +kernel
theorem dX9_terrain_93 : decode cX9_terrain 93 = .ok (.bipush 111, 2) := by decide +kernel
theorem dX9_terrain_95 : decode cX9_terrain 95 = .ok (.goto 15, 3) := by decide +kernel
theorem dX9_terrain_98 : decode cX9_terrain 98 = .ok (.iload_n 3, 1) := by decide +kernel
theorem dX9_terrain_99 : decode cX9_terrain 99 = .ok (.iconst 3, 1) := by decide +kernel
theorem dX9_terrain_100 : decode cX9_terrain 100 = .ok (.if_icmp .ne 8, 3) := by decide +kernel
theorem dX9_terrain_103 : decode cX9_terrain 103 = .ok (.bipush 126, 2) := by decide +kernel
theorem dX9_terrain_105 : decode cX9_terrain 105 = .ok (.goto 5, 3) := by decide +kernel
theorem dX9_terrain_108 : decode cX9_terrain 108 = .ok (.bipush 94, 2) := by decide +kernel
theorem dX9_terrain_110 : decode cX9_terrain 110 = .ok (.ireturn, 1) := by decide +kernel
theorem dX9_isMet_0 : decode cX9_isMet 0 = .ok (.iconst 2, 1) := by decide +kernel
theorem dX9_isMet_1 : decode cX9_isMet 1 = .ok (.aload_n 0, 1) := by decide +kernel
theorem dX9_isMet_2 : decode cX9_isMet 2 = .ok (.iload_n 2, 1) := by decide +kernel
theorem dX9_isMet_3 : decode cX9_isMet 3 = .ok (.invokevirtual 75, 3) := by decide +kernel
theorem dX9_isMet_6 : decode cX9_isMet 6 = .ok (.imul, 1) := by decide +kernel
theorem dX9_isMet_7 : decode cX9_isMet 7 = .ok (.iconst 1, 1) := by decide +kernel
theorem dX9_isMet_8 : decode cX9_isMet 8 = .ok (.iadd, 1) := by decide +kernel
theorem dX9_isMet_9 : decode cX9_isMet 9 = .ok (.istore 4, 2) := by decide +kernel
theorem dX9_isMet_11 : decode cX9_isMet 11 = .ok (.iconst 2, 1) := by decide +kernel
theorem dX9_isMet_12 : decode cX9_isMet 12 = .ok (.aload_n 0, 1) := by decide +kernel
theorem dX9_isMet_13 : decode cX9_isMet 13 = .ok (.iload_n 2, 1) := by decide +kernel
theorem dX9_isMet_14 : decode cX9_isMet 14 = .ok (.invokevirtual 71, 3) := by decide +kernel
theorem dX9_isMet_17 : decode cX9_isMet 17 = .ok (.imul, 1) := by decide +kernel
theorem dX9_isMet_18 : decode cX9_isMet 18 = .ok (.iconst 1, 1) := by decide +kernel
theorem dX9_isMet_19 : decode cX9_isMet 19 = .ok (.iadd, 1) := by decide +kernel
theorem dX9_isMet_20 : decode cX9_isMet 20 = .ok (.istore 5, 2) := by decide +kernel
theorem dX9_isMet_22 : decode cX9_isMet 22 = .ok (.iconst 2, 1) := by decide +kernel
theorem dX9_isMet_23 : decode cX9_isMet 23 = .ok (.aload_n 0, 1) := by decide +kernel
theorem dX9_isMet_24 : decode cX9_isMet 24 = .ok (.iload_n 3, 1) := by decide +kernel
theorem dX9_isMet_25 : decode cX9_isMet 25 = .ok (.invokevirtual 75, 3) := by decide +kernel
theorem dX9_isMet_28 : decode cX9_isMet 28 = .ok (.imul, 1) := by decide +kernel
theorem dX9_isMet_29 : decode cX9_isMet 29 = .ok (.iconst 1, 1) := by decide +kernel
theorem dX9_isMet_30 : decode cX9_isMet 30 = .ok (.iadd, 1) := by decide +kernel
theorem dX9_isMet_31 : decode cX9_isMet 31 = .ok (.istore 6, 2) := by decide +kernel
theorem dX9_isMet_33 : decode cX9_isMet 33 = .ok (.iconst 2, 1) := by decide +kernel
theorem dX9_isMet_34 : decode cX9_isMet 34 = .ok (.aload_n 0, 1) := by decide +kernel
theorem dX9_isMet_35 : decode cX9_isMet 35 = .ok (.iload_n 3, 1) := by decide +kernel
theorem dX9_isMet_36 : decode cX9_isMet 36 = .ok (.invokevirtual 71, 3) := by decide +kernel
theorem dX9_isMet_39 : decode cX9_isMet 39 = .ok (.imul, 1) := by decide +kernel
theorem dX9_isMet_40 : decode cX9_isMet 40 = .ok (.iconst 1, 1) := by decide +kernel
theorem dX9_isMet_41 : decode cX9_isMet 41 = .ok (.iadd, 1) := by decide +kernel
theorem dX9_isMet_42 : decode cX9_isMet 42 = .ok (.istore 7, 2) := by decide +kernel
theorem dX9_isMet_44 : decode cX9_isMet 44 = .ok (.iconst 2, 1) := by decide +kernel
theorem dX9_isMet_45 : decode cX9_isMet 45 = .ok (.aload_n 0, 1) := by decide +kernel
theorem dX9_isMet_46 : decode cX9_isMet 46 = .ok (.iload_n 1, 1) := by decide +kernel
theorem dX9_isMet_47 : decode cX9_isMet 47 = .ok (.invokevirtual 75, 3) := by decide +kernel
theorem dX9_isMet_50 : decode cX9_isMet 50 = .ok (.imul, 1) := by decide +kernel
theorem dX9_isMet_51 : decode cX9_isMet 51 = .ok (.istore 8, 2) := by decide +kernel
theorem dX9_isMet_53 : decode cX9_isMet 53 = .ok (.iconst 2, 1) := by decide +kernel
theorem dX9_isMet_54 : decode cX9_isMet 54 = .ok (.aload_n 0, 1) := by decide +kernel
theorem dX9_isMet_55 : decode cX9_isMet 55 = .ok (.iload_n 1, 1) := by decide +kernel
theorem dX9_isMet_56 : decode cX9_isMet 56 = .ok (.invokevirtual 71, 3) := by decide +kernel
theorem dX9_isMet_59 : decode cX9_isMet 59 = .ok (.imul, 1) := by decide +kernel
theorem dX9_isMet_60 : decode cX9_isMet 60 = .ok (.istore 9, 2) := by decide +kernel
theorem dX9_isMet_62 : decode cX9_isMet 62 = .ok (.iload 4, 2) := by decide +kernel
theorem dX9_isMet_64 : decode cX9_isMet 64 = .ok (.iload 8, 2) := by decide +kernel
theorem dX9_isMet_66 : decode cX9_isMet 66 = .ok (.if_icmp .gt 10, 3) := by decide +kernel
theorem dX9_isMet_69 : decode cX9_isMet 69 = .ok (.iload 6, 2) := by decide +kernel
theorem dX9_isMet_71 : decode cX9_isMet 71 = .ok (.iload 8, 2) := by decide +kernel
theorem dX9_isMet_73 : decode cX9_isMet 73 = .ok (.if_icmp .le 53, 3) := by decide +kernel
theorem dX9_isMet_76 : decode cX9_isMet 76 = .ok (.iload 4, 2) := by decide +kernel
theorem dX9_isMet_78 : decode cX9_isMet 78 = .ok (.iload 8, 2) := by decide +kernel
theorem dX9_isMet_80 : decode cX9_isMet 80 = .ok (.iconst 2, 1) := by decide +kernel
theorem dX9_isMet_81 : decode cX9_isMet 81 = .ok (.iadd, 1) := by decide +kernel
theorem dX9_isMet_82 : decode cX9_isMet 82 = .ok (.if_icmp .lt 12, 3) := by decide +kernel
theorem dX9_isMet_85 : decode cX9_isMet 85 = .ok (.iload 6, 2) := by decide +kernel
theorem dX9_isMet_87 : decode cX9_isMet 87 = .ok (.iload 8, 2) := by decide +kernel
theorem dX9_isMet_89 : decode cX9_isMet 89 = .ok (.iconst 2, 1) := by decide +kernel
theorem dX9_isMet_90 : decode cX9_isMet 90 = .ok (.iadd, 1) := by decide +kernel
theorem dX9_isMet_91 : decode cX9_isMet 91 = .ok (.if_icmp .ge 35, 3) := by decide +kernel
theorem dX9_isMet_94 : decode cX9_isMet 94 = .ok (.iload 5, 2) := by decide +kernel
theorem dX9_isMet_96 : decode cX9_isMet 96 = .ok (.iload 9, 2) := by decide +kernel
theorem dX9_isMet_98 : decode cX9_isMet 98 = .ok (.if_icmp .gt 10, 3) := by decide +kernel
theorem dX9_isMet_101 : decode cX9_isMet 101 = .ok (.iload 7, 2) := by decide +kernel
theorem dX9_isMet_103 : decode cX9_isMet 103 = .ok (.iload 9, 2) := by decide +kernel
theorem dX9_isMet_105 : decode cX9_isMet 105 = .ok (.if_icmp .le 21, 3) := by decide +kernel
theorem dX9_isMet_108 : decode cX9_isMet 108 = .ok (.iload 5, 2) := by decide +kernel
theorem dX9_isMet_110 : decode cX9_isMet 110 = .ok (.iload 9, 2) := by decide +kernel
theorem dX9_isMet_112 : decode cX9_isMet 112 = .ok (.iconst 2, 1) := by decide +kernel
theorem dX9_isMet_113 : decode cX9_isMet 113 = .ok (.iadd, 1) := by decide +kernel
theorem dX9_isMet_114 : decode cX9_isMet 114 = .ok (.if_icmp .lt 14, 3) := by decide +kernel
theorem dX9_isMet_117 : decode cX9_isMet 117 = .ok (.iload 7, 2) := by decide +kernel
theorem dX9_isMet_119 : decode cX9_isMet 119 = .ok (.iload 9, 2) := by decide +kernel
theorem dX9_isMet_121 : decode cX9_isMet 121 = .ok (.iconst 2, 1) := by decide +kernel
theorem dX9_isMet_122 : decode cX9_isMet 122 = .ok (.iadd, 1) := by decide +kernel
theorem dX9_isMet_123 : decode cX9_isMet 123 = .ok (.if_icmp .lt 5, 3) := by decide +kernel
theorem dX9_isMet_126 : decode cX9_isMet 126 = .ok (.iconst 0, 1) := by decide +kernel
theorem dX9_isMet_127 : decode cX9_isMet 127 = .ok (.ireturn, 1) := by decide +kernel
theorem dX9_isMet_128 : decode cX9_isMet 128 = .ok (.iconst 0, 1) := by decide +kernel
theorem dX9_isMet_129 : decode cX9_isMet 129 = .ok (.istore 10, 2) := by decide +kernel
theorem dX9_isMet_131 : decode cX9_isMet 131 = .ok (.iconst 0, 1) := by decide +kernel
theorem dX9_isMet_132 : decode cX9_isMet 132 = .ok (.istore 11, 2) := by decide +kernel
theorem dX9_isMet_134 : decode cX9_isMet 134 = .ok (.iconst 0, 1) := by decide +kernel
theorem dX9_isMet_135 : decode cX9_isMet 135 = .ok (.istore 12, 2) := by decide +kernel
theorem dX9_isMet_137 : decode cX9_isMet 137 = .ok (.iload 12, 2) := by decide +kernel
theorem dX9_isMet_139 : decode cX9_isMet 139 = .ok (.iconst 4, 1) := by decide +kernel
theorem dX9_isMet_140 : decode cX9_isMet 140 = .ok (.if_icmp .ge 78, 3) := by decide +kernel
theorem dX9_isMet_143 : decode cX9_isMet 143 = .ok (.iload 6, 2) := by decide +kernel
theorem dX9_isMet_145 : decode cX9_isMet 145 = .ok (.iload 4, 2) := by decide +kernel
theorem dX9_isMet_147 : decode cX9_isMet 147 = .ok (.isub, 1) := by decide +kernel
theorem dX9_isMet_148 : decode cX9_isMet 148 = .ok (.iload 9, 2) := by decide +kernel
theorem dX9_isMet_150 : decode cX9_isMet 150 = .ok (.iload 12, 2) := by decide +kernel
theorem dX9_isMet_152 : decode cX9_isMet 152 = .ok (.iconst 2, 1) := by decide +kernel
theorem dX9_isMet_153 : decode cX9_isMet 153 = .ok (.idiv, 1) := by decide +kernel
theorem dX9_isMet_154 : decode cX9_isMet 154 = .ok (.iconst 2, 1) := by decide +kernel
theorem dX9_isMet_155 : decode cX9_isMet 155 = .ok (.imul, 1) := by decide +kernel
theorem dX9_isMet_156 : decode cX9_isMet 156 = .ok (.iadd, 1) := by decide +kernel
theorem dX9_isMet_157 : decode cX9_isMet 157 = .ok (.iload 5, 2) := by decide +kernel
theorem dX9_isMet_159 : decode cX9_isMet 159 = .ok (.isub, 1) := by decide +kernel
theorem dX9_isMet_160 : decode cX9_isMet 160 = .ok (.imul, 1) := by decide +kernel
theorem dX9_isMet_161 : decode cX9_isMet 161 = .ok (.iload 7, 2) := by decide +kernel
theorem dX9_isMet_163 : decode cX9_isMet 163 = .ok (.iload 5, 2) := by decide +kernel
theorem dX9_isMet_165 : decode cX9_isMet 165 = .ok (.isub, 1) := by decide +kernel
theorem dX9_isMet_166 : decode cX9_isMet 166 = .ok (.iload 8, 2) := by decide +kernel
theorem dX9_isMet_168 : decode cX9_isMet 168 = .ok (.iload 12, 2) := by decide +kernel
theorem dX9_isMet_170 : decode cX9_isMet 170 = .ok (.iconst 2, 1) := by decide +kernel
theorem dX9_isMet_171 : decode cX9_isMet 171 = .ok (.irem, 1) := by decide +kernel
theorem dX9_isMet_172 : decode cX9_isMet 172 = .ok (.iconst 2, 1) := by decide +kernel
theorem dX9_isMet_173 : decode cX9_isMet 173 = .ok (.imul, 1) := by decide +kernel
theorem dX9_isMet_174 : decode cX9_isMet 174 = .ok (.iadd, 1) := by decide +kernel
theorem dX9_isMet_175 : decode cX9_isMet 175 = .ok (.iload 4, 2) := by decide +kernel
theorem dX9_isMet_177 : decode cX9_isMet 177 = .ok (.isub, 1) := by decide +kernel
theorem dX9_isMet_178 : decode cX9_isMet 178 = .ok (.imul, 1) := by decide +kernel
theorem dX9_isMet_179 : decode cX9_isMet 179 = .ok (.isub, 1) := by decide +kernel
theorem dX9_isMet_180 : decode cX9_isMet 180 = .ok (.istore 13, 2) := by decide +kernel
theorem dX9_isMet_182 : decode cX9_isMet 182 = .ok (.iload 10, 2) := by decide +kernel
theorem dX9_isMet_184 : decode cX9_isMet 184 = .ok (.iload 13, 2) := by decide +kernel
theorem dX9_isMet_186 : decode cX9_isMet 186 = .ok (.ifCond .le 7, 3) := by decide +kernel
theorem dX9_isMet_189 : decode cX9_isMet 189 = .ok (.iconst 1, 1) := by decide +kernel
theorem dX9_isMet_190 : decode cX9_isMet 190 = .ok (.goto 4, 3) := by decide +kernel
theorem dX9_isMet_193 : decode cX9_isMet 193 = .ok (.iconst 0, 1) := by decide +kernel
theorem dX9_isMet_194 : decode cX9_isMet 194 = .ok (.iadd, 1) := by decide +kernel
theorem dX9_isMet_195 : decode cX9_isMet 195 = .ok (.istore 10, 2) := by decide +kernel
theorem dX9_isMet_197 : decode cX9_isMet 197 = .ok (.iload 11, 2) := by decide +kernel
theorem dX9_isMet_199 : decode cX9_isMet 199 = .ok (.iload 13, 2) := by decide +kernel
theorem dX9_isMet_201 : decode cX9_isMet 201 = .ok (.ifCond .ge 7, 3) := by decide +kernel
theorem dX9_isMet_204 : decode cX9_isMet 204 = .ok (.iconst 1, 1) := by decide +kernel
theorem dX9_isMet_205 : decode cX9_isMet 205 = .ok (.goto 4, 3) := by decide +kernel
theorem dX9_isMet_208 : decode cX9_isMet 208 = .ok (.iconst 0, 1) := by decide +kernel
theorem dX9_isMet_209 : decode cX9_isMet 209 = .ok (.iadd, 1) := by decide +kernel
theorem dX9_isMet_210 : decode cX9_isMet 210 = .ok (.istore 11, 2) := by decide +kernel
theorem dX9_isMet_212 : decode cX9_isMet 212 = .ok (.iinc 12 1, 3) := by decide +kernel
theorem dX9_isMet_215 : decode cX9_isMet 215 = .ok (.goto (-78), 3) := by decide +kernel
theorem dX9_isMet_218 : decode cX9_isMet 218 = .ok (.iload 10, 2) := by decide +kernel
theorem dX9_isMet_220 : decode cX9_isMet 220 = .ok (.ifCond .le 12, 3) := by decide +kernel
theorem dX9_isMet_223 : decode cX9_isMet 223 = .ok (.iload 11, 2) := by decide +kernel
theorem dX9_isMet_225 : decode cX9_isMet 225 = .ok (.ifCond .le 7, 3) := by decide +kernel
theorem dX9_isMet_228 : decode cX9_isMet 228 = .ok (.iconst 1, 1) := by decide +kernel
theorem dX9_isMet_229 : decode cX9_isMet 229 = .ok (.goto 4, 3) := by decide +kernel
theorem dX9_isMet_232 : decode cX9_isMet 232 = .ok (.iconst 0, 1) := by decide +kernel
theorem dX9_isMet_233 : decode cX9_isMet 233 = .ok (.ireturn, 1) := by decide +kernel
abbrev rmX9_init : Room := { frames := 1, cells := 14, slots := 15941, locals := 40 }
def wX9_init_0 (Q : MS → Prop) (QX : String → MS → Prop) (S : MS) (a0 : Nat) : Prop := (∀ a1, a1 ∉ mL S → (∀ S2, S2 = (nw S a1 12 290) → (∀ S3, S3 = (sR S2 a0 1 (some a1)) → (∀ a4, a4 ∉ mL S3 → (∀ S5, S5 = (nw S3 a4 12 290) → (∀ S6, S6 = (sR S5 a0 2 (some a4)) → (∀ a7, a7 ∉ mL S6 → (∀ S8, S8 = (nw S6 a7 12 290) → (∀ S9, S9 = (sR S8 a0 3 (some a7)) → (∀ a10, a10 ∉ mL S9 → (∀ S11, S11 = (nw S9 a10 12 290) → (∀ S12, S12 = (sR S11 a0 4 (some a10)) → (∀ a13, a13 ∉ mL S12 → (∀ S14, S14 = (nw S12 a13 12 290) → (∀ S15, S15 = (sR S14 a0 5 (some a13)) → (∀ a16, a16 ∉ mL S15 → (∀ S17, S17 = (nw S15 a16 12 2320) → (∀ S18, S18 = (sR S17 a0 6 (some a16)) → (∀ a19, a19 ∉ mL S18 → (∀ S20, S20 = (nw S18 a19 12 6000) → (∀ S21, S21 = (sR S20 a0 7 (some a19)) → (∀ a22, a22 ∉ mL S21 → (∀ S23, S23 = (nw S21 a22 12 6000) → (∀ S24, S24 = (sR S23 a0 8 (some a22)) → (∀ a25, a25 ∉ mL S24 → (∀ S26, S26 = (nw S24 a25 12 71) → (∀ S27, S27 = (sR S26 a0 11 (some a25)) → (∀ S28, S28 = (sI S27 a0 13 (-1)) → (∀ a29, a29 ∉ mL S28 → (∀ S30, S30 = (nw S28 a29 12 64) → (∀ S31, S31 = (sR S30 a0 17 (some a29)) → (∀ a32, a32 ∉ mL S31 → (∀ S33, S33 = (nw S31 a32 12 16) → (∀ S34, S34 = (sR S33 a0 19 (some a32)) → (∀ a35, a35 ∉ mL S34 → (∀ S36, S36 = (nw S34 a35 12 2) → (∀ S37, S37 = (sR S36 a0 20 (some a35)) → (∀ a38, a38 ∉ mL S37 → (∀ S39, S39 = (nw S37 a38 12 2) → (∀ S40, S40 = (sR S39 a0 21 (some a38)) → (∀ a41, a41 ∉ mL S40 → (∀ S42, S42 = (nw S40 a41 11 16) → (∀ S43, S43 = (sR S42 a0 22 (some a41)) → (∃ a44, mR S43 a0 1 = some a44 ∧ (vp_in 0 (mN S43 a44) ∧ (∀ S45, S45 = (sI S43 a44 (0 : Int32).toNatClampNeg 5) → (∃ a46, mR S45 a0 1 = some a46 ∧ (vp_in 1 (mN S45 a46) ∧ (∀ S47, S47 = (sI S45 a46 (1 : Int32).toNatClampNeg 5) → (∃ a48, mR S47 a0 1 = some a48 ∧ (vp_in 155 (mN S47 a48) ∧ (∀ S49, S49 = (sI S47 a48 (155 : Int32).toNatClampNeg 1) → (∃ a50, mR S49 a0 1 = some a50 ∧ (vp_in 166 (mN S49 a50) ∧ (∀ S51, S51 = (sI S49 a50 (166 : Int32).toNatClampNeg (-1)) → Q S51)))))))))))))))))))))))))))))))))))))))))))))))))))))))
set_option maxHeartbeats 4000000 in
set_option maxRecDepth 100000 in
theorem tX9_init_0 {p : Program} {l : Launch} {e : Env} {s : State} {m : MethodId} {args : Array Value} {below : List Frame} {meth : Method} {c : Code} {H : Heap} {locs : List Loc} {cells slots : Nat} {G : GP} {A : Nat → Prop} {S0 : MS} {ls : Array Slot} (C : CF p l s m args meth c "SkirmishGridModel" cX9_init 1 G A) (hr : meth.sig.returnType = none) (hin2 : meth.name = "<init>") (hex : ∀ x ∈ c.exceptionTable.toList, False) (Q : MS → Prop) (QX : String → MS → Prop) (S : MS) (a0 : Nat) (p_a0 : pI S 9 a0) (P : PW G A s H locs S0 S) (hl : lv_has ls 1 [(0, .ref a0)]) (hcc : cells + 14 ≤ 14) (hss : slots + 15941 ≤ 15941) (hw : wX9_init_0 Q QX S a0) : W p l e rmX9_init s m args below meth c H locs cells slots (vx_MQ below (QV G S0 A Q) (XX G S0 A QX) args s 14 15941 A) (F0 m 0 ls []) := by
  have hx := CF_x C
  have hb := CF_b C
  unfold wX9_init_0 at hw
  refine lv_aload_n hx hb dX9_init_0 rfl (lv_at hl 0 rfl) ?_
  refine W.objInit hx hb (CF_o C) (CF_t C _ q_1304) (CF_t C _ q_36) (CF_t C _ q_37) rfl (hl.1.trans (CF_m C).symm) rfl dX9_init_1 (Nat.le_of_ble_eq_true rfl) (Nat.le_of_ble_eq_true rfl) ?_
  refine W.eq (g2 := F0 m 4 ls []) rfl ?_
  refine lv_aload_n hx hb dX9_init_4 rfl (lv_at hl 0 rfl) ?_
  refine lv_sipush (v := 290) hx hb dX9_init_5 (by decide) ?_
  refine rn_a (atype := .int) C P 2 (N' := 290) (290, .inl (fun _ => 0)) rfl (fun _ h => by cases h) q_65 rfl (fun _ => rfl) (fun S q => aE_nw (d := 2)) (by decide) (by decide) (by decide) (by show cells + 1 ≤ 14; omega) (by show slots + 290 ≤ 15941; omega) dX9_init_8 (fun a1 H hq P => ?_)
  have hw := hw a1 hq
  obtain ⟨S2, hS⟩ : ∃ z, z = (nw S a1 12 290) := ⟨_, rfl⟩
  have P : PW G A s H locs S0 S2 := by rw [hS]; exact P
  have p_a0 : pI S2 9 a0 := by rw [hS]; exact pI_x (ext_nw hq) p_a0
  have hw := hw S2 hS
  have p_a1 : pI S2 12 a1 := by rw [hS]; exact pI_nw
  refine pf_9_1 C hin2 P p_a0 p_a1 q_1306 dX9_init_10 (fun H locs P => ?_)
  obtain ⟨S3, hS⟩ : ∃ z, z = (sR S2 a0 1 (some a1)) := ⟨_, rfl⟩
  have P : PW G A s H locs S0 S3 := by rw [hS]; exact P
  have p_a0 : pI S3 9 a0 := by rw [hS]; exact pI_x ext_sR p_a0
  have p_a1 : pI S3 12 a1 := by rw [hS]; exact pI_x ext_sR p_a1
  have hw := hw S3 hS
  refine lv_aload_n hx hb dX9_init_13 rfl (lv_at hl 0 rfl) ?_
  refine lv_sipush (v := 290) hx hb dX9_init_14 (by decide) ?_
  refine rn_a (atype := .int) C P 2 (N' := 290) (290, .inl (fun _ => 0)) rfl (fun _ h => by cases h) q_65 rfl (fun _ => rfl) (fun S q => aE_nw (d := 2)) (by decide) (by decide) (by decide) (by show cells + 1 + 1 ≤ 14; omega) (by show slots + 290 + 290 ≤ 15941; omega) dX9_init_17 (fun a4 H hq P => ?_)
  have hw := hw a4 hq
  obtain ⟨S5, hS⟩ : ∃ z, z = (nw S3 a4 12 290) := ⟨_, rfl⟩
  have P : PW G A s H locs S0 S5 := by rw [hS]; exact P
  have p_a0 : pI S5 9 a0 := by rw [hS]; exact pI_x (ext_nw hq) p_a0
  have hw := hw S5 hS
  have p_a4 : pI S5 12 a4 := by rw [hS]; exact pI_nw
  refine pf_9_2 C hin2 P p_a0 p_a4 q_1307 dX9_init_19 (fun H locs P => ?_)
  obtain ⟨S6, hS⟩ : ∃ z, z = (sR S5 a0 2 (some a4)) := ⟨_, rfl⟩
  have P : PW G A s H locs S0 S6 := by rw [hS]; exact P
  have p_a0 : pI S6 9 a0 := by rw [hS]; exact pI_x ext_sR p_a0
  have p_a4 : pI S6 12 a4 := by rw [hS]; exact pI_x ext_sR p_a4
  have hw := hw S6 hS
  refine lv_aload_n hx hb dX9_init_22 rfl (lv_at hl 0 rfl) ?_
  refine lv_sipush (v := 290) hx hb dX9_init_23 (by decide) ?_
  refine rn_a (atype := .int) C P 2 (N' := 290) (290, .inl (fun _ => 0)) rfl (fun _ h => by cases h) q_65 rfl (fun _ => rfl) (fun S q => aE_nw (d := 2)) (by decide) (by decide) (by decide) (by show cells + 1 + 1 + 1 ≤ 14; omega) (by show slots + 290 + 290 + 290 ≤ 15941; omega) dX9_init_26 (fun a7 H hq P => ?_)
  have hw := hw a7 hq
  obtain ⟨S8, hS⟩ : ∃ z, z = (nw S6 a7 12 290) := ⟨_, rfl⟩
  have P : PW G A s H locs S0 S8 := by rw [hS]; exact P
  have p_a0 : pI S8 9 a0 := by rw [hS]; exact pI_x (ext_nw hq) p_a0
  have hw := hw S8 hS
  have p_a7 : pI S8 12 a7 := by rw [hS]; exact pI_nw
  refine pf_9_3 C hin2 P p_a0 p_a7 q_1308 dX9_init_28 (fun H locs P => ?_)
  obtain ⟨S9, hS⟩ : ∃ z, z = (sR S8 a0 3 (some a7)) := ⟨_, rfl⟩
  have P : PW G A s H locs S0 S9 := by rw [hS]; exact P
  have p_a0 : pI S9 9 a0 := by rw [hS]; exact pI_x ext_sR p_a0
  have p_a7 : pI S9 12 a7 := by rw [hS]; exact pI_x ext_sR p_a7
  have hw := hw S9 hS
  refine lv_aload_n hx hb dX9_init_31 rfl (lv_at hl 0 rfl) ?_
  refine lv_sipush (v := 290) hx hb dX9_init_32 (by decide) ?_
  refine rn_a (atype := .int) C P 2 (N' := 290) (290, .inl (fun _ => 0)) rfl (fun _ h => by cases h) q_65 rfl (fun _ => rfl) (fun S q => aE_nw (d := 2)) (by decide) (by decide) (by decide) (by show cells + 1 + 1 + 1 + 1 ≤ 14; omega) (by show slots + 290 + 290 + 290 + 290 ≤ 15941; omega) dX9_init_35 (fun a10 H hq P => ?_)
  have hw := hw a10 hq
  obtain ⟨S11, hS⟩ : ∃ z, z = (nw S9 a10 12 290) := ⟨_, rfl⟩
  have P : PW G A s H locs S0 S11 := by rw [hS]; exact P
  have p_a0 : pI S11 9 a0 := by rw [hS]; exact pI_x (ext_nw hq) p_a0
  have hw := hw S11 hS
  have p_a10 : pI S11 12 a10 := by rw [hS]; exact pI_nw
  refine pf_9_4 C hin2 P p_a0 p_a10 q_1309 dX9_init_37 (fun H locs P => ?_)
  obtain ⟨S12, hS⟩ : ∃ z, z = (sR S11 a0 4 (some a10)) := ⟨_, rfl⟩
  have P : PW G A s H locs S0 S12 := by rw [hS]; exact P
  have p_a0 : pI S12 9 a0 := by rw [hS]; exact pI_x ext_sR p_a0
  have p_a10 : pI S12 12 a10 := by rw [hS]; exact pI_x ext_sR p_a10
  have hw := hw S12 hS
  refine lv_aload_n hx hb dX9_init_40 rfl (lv_at hl 0 rfl) ?_
  refine lv_sipush (v := 290) hx hb dX9_init_41 (by decide) ?_
  refine rn_a (atype := .int) C P 2 (N' := 290) (290, .inl (fun _ => 0)) rfl (fun _ h => by cases h) q_65 rfl (fun _ => rfl) (fun S q => aE_nw (d := 2)) (by decide) (by decide) (by decide) (by show cells + 1 + 1 + 1 + 1 + 1 ≤ 14; omega) (by show slots + 290 + 290 + 290 + 290 + 290 ≤ 15941; omega) dX9_init_44 (fun a13 H hq P => ?_)
  have hw := hw a13 hq
  obtain ⟨S14, hS⟩ : ∃ z, z = (nw S12 a13 12 290) := ⟨_, rfl⟩
  have P : PW G A s H locs S0 S14 := by rw [hS]; exact P
  have p_a0 : pI S14 9 a0 := by rw [hS]; exact pI_x (ext_nw hq) p_a0
  have hw := hw S14 hS
  have p_a13 : pI S14 12 a13 := by rw [hS]; exact pI_nw
  refine pf_9_5 C hin2 P p_a0 p_a13 q_1310 dX9_init_46 (fun H locs P => ?_)
  obtain ⟨S15, hS⟩ : ∃ z, z = (sR S14 a0 5 (some a13)) := ⟨_, rfl⟩
  have P : PW G A s H locs S0 S15 := by rw [hS]; exact P
  have p_a0 : pI S15 9 a0 := by rw [hS]; exact pI_x ext_sR p_a0
  have p_a13 : pI S15 12 a13 := by rw [hS]; exact pI_x ext_sR p_a13
  have hw := hw S15 hS
  refine lv_aload_n hx hb dX9_init_49 rfl (lv_at hl 0 rfl) ?_
  refine lv_sipush (v := 2320) hx hb dX9_init_50 (by decide) ?_
  refine rn_a (atype := .int) C P 2 (N' := 2320) (2320, .inl (fun _ => 0)) rfl (fun _ h => by cases h) q_65 rfl (fun _ => rfl) (fun S q => aE_nw (d := 2)) (by decide) (by decide) (by decide) (by show cells + 1 + 1 + 1 + 1 + 1 + 1 ≤ 14; omega) (by show slots + 290 + 290 + 290 + 290 + 290 + 2320 ≤ 15941; omega) dX9_init_53 (fun a16 H hq P => ?_)
  have hw := hw a16 hq
  obtain ⟨S17, hS⟩ : ∃ z, z = (nw S15 a16 12 2320) := ⟨_, rfl⟩
  have P : PW G A s H locs S0 S17 := by rw [hS]; exact P
  have p_a0 : pI S17 9 a0 := by rw [hS]; exact pI_x (ext_nw hq) p_a0
  have hw := hw S17 hS
  have p_a16 : pI S17 12 a16 := by rw [hS]; exact pI_nw
  refine pf_9_6 C hin2 P p_a0 p_a16 q_1311 dX9_init_55 (fun H locs P => ?_)
  obtain ⟨S18, hS⟩ : ∃ z, z = (sR S17 a0 6 (some a16)) := ⟨_, rfl⟩
  have P : PW G A s H locs S0 S18 := by rw [hS]; exact P
  have p_a0 : pI S18 9 a0 := by rw [hS]; exact pI_x ext_sR p_a0
  have p_a16 : pI S18 12 a16 := by rw [hS]; exact pI_x ext_sR p_a16
  have hw := hw S18 hS
  refine lv_aload_n hx hb dX9_init_58 rfl (lv_at hl 0 rfl) ?_
  refine lv_sipush (v := 6000) hx hb dX9_init_59 (by decide) ?_
  refine rn_a (atype := .int) C P 2 (N' := 6000) (6000, .inl (fun _ => 0)) rfl (fun _ h => by cases h) q_65 rfl (fun _ => rfl) (fun S q => aE_nw (d := 2)) (by decide) (by decide) (by decide) (by show cells + 1 + 1 + 1 + 1 + 1 + 1 + 1 ≤ 14; omega) (by show slots + 290 + 290 + 290 + 290 + 290 + 2320 + 6000 ≤ 15941; omega) dX9_init_62 (fun a19 H hq P => ?_)
  have hw := hw a19 hq
  obtain ⟨S20, hS⟩ : ∃ z, z = (nw S18 a19 12 6000) := ⟨_, rfl⟩
  have P : PW G A s H locs S0 S20 := by rw [hS]; exact P
  have p_a0 : pI S20 9 a0 := by rw [hS]; exact pI_x (ext_nw hq) p_a0
  have hw := hw S20 hS
  have p_a19 : pI S20 12 a19 := by rw [hS]; exact pI_nw
  refine pf_9_7 C hin2 P p_a0 p_a19 q_1312 dX9_init_64 (fun H locs P => ?_)
  obtain ⟨S21, hS⟩ : ∃ z, z = (sR S20 a0 7 (some a19)) := ⟨_, rfl⟩
  have P : PW G A s H locs S0 S21 := by rw [hS]; exact P
  have p_a0 : pI S21 9 a0 := by rw [hS]; exact pI_x ext_sR p_a0
  have p_a19 : pI S21 12 a19 := by rw [hS]; exact pI_x ext_sR p_a19
  have hw := hw S21 hS
  refine lv_aload_n hx hb dX9_init_67 rfl (lv_at hl 0 rfl) ?_
  refine lv_sipush (v := 6000) hx hb dX9_init_68 (by decide) ?_
  refine rn_a (atype := .int) C P 2 (N' := 6000) (6000, .inl (fun _ => 0)) rfl (fun _ h => by cases h) q_65 rfl (fun _ => rfl) (fun S q => aE_nw (d := 2)) (by decide) (by decide) (by decide) (by show cells + 1 + 1 + 1 + 1 + 1 + 1 + 1 + 1 ≤ 14; omega) (by show slots + 290 + 290 + 290 + 290 + 290 + 2320 + 6000 + 6000 ≤ 15941; omega) dX9_init_71 (fun a22 H hq P => ?_)
  have hw := hw a22 hq
  obtain ⟨S23, hS⟩ : ∃ z, z = (nw S21 a22 12 6000) := ⟨_, rfl⟩
  have P : PW G A s H locs S0 S23 := by rw [hS]; exact P
  have p_a0 : pI S23 9 a0 := by rw [hS]; exact pI_x (ext_nw hq) p_a0
  have hw := hw S23 hS
  have p_a22 : pI S23 12 a22 := by rw [hS]; exact pI_nw
  refine pf_9_8 C hin2 P p_a0 p_a22 q_1313 dX9_init_73 (fun H locs P => ?_)
  obtain ⟨S24, hS⟩ : ∃ z, z = (sR S23 a0 8 (some a22)) := ⟨_, rfl⟩
  have P : PW G A s H locs S0 S24 := by rw [hS]; exact P
  have p_a0 : pI S24 9 a0 := by rw [hS]; exact pI_x ext_sR p_a0
  have p_a22 : pI S24 12 a22 := by rw [hS]; exact pI_x ext_sR p_a22
  have hw := hw S24 hS
  refine lv_aload_n hx hb dX9_init_76 rfl (lv_at hl 0 rfl) ?_
  refine lv_bipush (v := 71) hx hb dX9_init_77 (by decide) ?_
  refine rn_a (atype := .int) C P 2 (N' := 71) (71, .inl (fun _ => 0)) rfl (fun _ h => by cases h) q_65 rfl (fun _ => rfl) (fun S q => aE_nw (d := 2)) (by decide) (by decide) (by decide) (by show cells + 1 + 1 + 1 + 1 + 1 + 1 + 1 + 1 + 1 ≤ 14; omega) (by show slots + 290 + 290 + 290 + 290 + 290 + 2320 + 6000 + 6000 + 71 ≤ 15941; omega) dX9_init_79 (fun a25 H hq P => ?_)
  have hw := hw a25 hq
  obtain ⟨S26, hS⟩ : ∃ z, z = (nw S24 a25 12 71) := ⟨_, rfl⟩
  have P : PW G A s H locs S0 S26 := by rw [hS]; exact P
  have p_a0 : pI S26 9 a0 := by rw [hS]; exact pI_x (ext_nw hq) p_a0
  have hw := hw S26 hS
  have p_a25 : pI S26 12 a25 := by rw [hS]; exact pI_nw
  refine pf_9_11 C hin2 P p_a0 p_a25 q_1316 dX9_init_81 (fun H locs P => ?_)
  obtain ⟨S27, hS⟩ : ∃ z, z = (sR S26 a0 11 (some a25)) := ⟨_, rfl⟩
  have P : PW G A s H locs S0 S27 := by rw [hS]; exact P
  have p_a0 : pI S27 9 a0 := by rw [hS]; exact pI_x ext_sR p_a0
  have p_a25 : pI S27 12 a25 := by rw [hS]; exact pI_x ext_sR p_a25
  have hw := hw S27 hS
  refine lv_aload_n hx hb dX9_init_84 rfl (lv_at hl 0 rfl) ?_
  refine lv_iconst (v := (-1)) hx hb dX9_init_85 (by decide) ?_
  refine pf_9_13 C P p_a0 q_1318 dX9_init_86 (fun H locs P => ?_)
  obtain ⟨S28, hS⟩ : ∃ z, z = (sI S27 a0 13 (-1)) := ⟨_, rfl⟩
  have P : PW G A s H locs S0 S28 := by rw [hS]; exact P
  have p_a0 : pI S28 9 a0 := by rw [hS]; exact pI_x ext_sI p_a0
  have hw := hw S28 hS
  refine lv_aload_n hx hb dX9_init_89 rfl (lv_at hl 0 rfl) ?_
  refine lv_bipush (v := 64) hx hb dX9_init_90 (by decide) ?_
  refine rn_a (atype := .int) C P 2 (N' := 64) (64, .inl (fun _ => 0)) rfl (fun _ h => by cases h) q_65 rfl (fun _ => rfl) (fun S q => aE_nw (d := 2)) (by decide) (by decide) (by decide) (by show cells + 1 + 1 + 1 + 1 + 1 + 1 + 1 + 1 + 1 + 1 ≤ 14; omega) (by show slots + 290 + 290 + 290 + 290 + 290 + 2320 + 6000 + 6000 + 71 + 64 ≤ 15941; omega) dX9_init_92 (fun a29 H hq P => ?_)
  have hw := hw a29 hq
  obtain ⟨S30, hS⟩ : ∃ z, z = (nw S28 a29 12 64) := ⟨_, rfl⟩
  have P : PW G A s H locs S0 S30 := by rw [hS]; exact P
  have p_a0 : pI S30 9 a0 := by rw [hS]; exact pI_x (ext_nw hq) p_a0
  have hw := hw S30 hS
  have p_a29 : pI S30 12 a29 := by rw [hS]; exact pI_nw
  refine pf_9_17 C hin2 P p_a0 p_a29 q_1322 dX9_init_94 (fun H locs P => ?_)
  obtain ⟨S31, hS⟩ : ∃ z, z = (sR S30 a0 17 (some a29)) := ⟨_, rfl⟩
  have P : PW G A s H locs S0 S31 := by rw [hS]; exact P
  have p_a0 : pI S31 9 a0 := by rw [hS]; exact pI_x ext_sR p_a0
  have p_a29 : pI S31 12 a29 := by rw [hS]; exact pI_x ext_sR p_a29
  have hw := hw S31 hS
  refine lv_aload_n hx hb dX9_init_97 rfl (lv_at hl 0 rfl) ?_
  refine lv_bipush (v := 16) hx hb dX9_init_98 (by decide) ?_
  refine rn_a (atype := .int) C P 2 (N' := 16) (16, .inl (fun _ => 0)) rfl (fun _ h => by cases h) q_65 rfl (fun _ => rfl) (fun S q => aE_nw (d := 2)) (by decide) (by decide) (by decide) (by show cells + 1 + 1 + 1 + 1 + 1 + 1 + 1 + 1 + 1 + 1 + 1 ≤ 14; omega) (by show slots + 290 + 290 + 290 + 290 + 290 + 2320 + 6000 + 6000 + 71 + 64 + 16 ≤ 15941; omega) dX9_init_100 (fun a32 H hq P => ?_)
  have hw := hw a32 hq
  obtain ⟨S33, hS⟩ : ∃ z, z = (nw S31 a32 12 16) := ⟨_, rfl⟩
  have P : PW G A s H locs S0 S33 := by rw [hS]; exact P
  have p_a0 : pI S33 9 a0 := by rw [hS]; exact pI_x (ext_nw hq) p_a0
  have hw := hw S33 hS
  have p_a32 : pI S33 12 a32 := by rw [hS]; exact pI_nw
  refine pf_9_19 C hin2 P p_a0 p_a32 q_1324 dX9_init_102 (fun H locs P => ?_)
  obtain ⟨S34, hS⟩ : ∃ z, z = (sR S33 a0 19 (some a32)) := ⟨_, rfl⟩
  have P : PW G A s H locs S0 S34 := by rw [hS]; exact P
  have p_a0 : pI S34 9 a0 := by rw [hS]; exact pI_x ext_sR p_a0
  have p_a32 : pI S34 12 a32 := by rw [hS]; exact pI_x ext_sR p_a32
  have hw := hw S34 hS
  refine lv_aload_n hx hb dX9_init_105 rfl (lv_at hl 0 rfl) ?_
  refine lv_iconst (v := 2) hx hb dX9_init_106 (by decide) ?_
  refine rn_a (atype := .int) C P 2 (N' := 2) (2, .inl (fun _ => 0)) rfl (fun _ h => by cases h) q_65 rfl (fun _ => rfl) (fun S q => aE_nw (d := 2)) (by decide) (by decide) (by decide) (by show cells + 1 + 1 + 1 + 1 + 1 + 1 + 1 + 1 + 1 + 1 + 1 + 1 ≤ 14; omega) (by show slots + 290 + 290 + 290 + 290 + 290 + 2320 + 6000 + 6000 + 71 + 64 + 16 + 2 ≤ 15941; omega) dX9_init_107 (fun a35 H hq P => ?_)
  have hw := hw a35 hq
  obtain ⟨S36, hS⟩ : ∃ z, z = (nw S34 a35 12 2) := ⟨_, rfl⟩
  have P : PW G A s H locs S0 S36 := by rw [hS]; exact P
  have p_a0 : pI S36 9 a0 := by rw [hS]; exact pI_x (ext_nw hq) p_a0
  have hw := hw S36 hS
  have p_a35 : pI S36 12 a35 := by rw [hS]; exact pI_nw
  refine pf_9_20 C hin2 P p_a0 p_a35 q_1325 dX9_init_109 (fun H locs P => ?_)
  obtain ⟨S37, hS⟩ : ∃ z, z = (sR S36 a0 20 (some a35)) := ⟨_, rfl⟩
  have P : PW G A s H locs S0 S37 := by rw [hS]; exact P
  have p_a0 : pI S37 9 a0 := by rw [hS]; exact pI_x ext_sR p_a0
  have p_a35 : pI S37 12 a35 := by rw [hS]; exact pI_x ext_sR p_a35
  have hw := hw S37 hS
  refine lv_aload_n hx hb dX9_init_112 rfl (lv_at hl 0 rfl) ?_
  refine lv_iconst (v := 2) hx hb dX9_init_113 (by decide) ?_
  refine rn_a (atype := .int) C P 2 (N' := 2) (2, .inl (fun _ => 0)) rfl (fun _ h => by cases h) q_65 rfl (fun _ => rfl) (fun S q => aE_nw (d := 2)) (by decide) (by decide) (by decide) (by show cells + 1 + 1 + 1 + 1 + 1 + 1 + 1 + 1 + 1 + 1 + 1 + 1 + 1 ≤ 14; omega) (by show slots + 290 + 290 + 290 + 290 + 290 + 2320 + 6000 + 6000 + 71 + 64 + 16 + 2 + 2 ≤ 15941; omega) dX9_init_114 (fun a38 H hq P => ?_)
  have hw := hw a38 hq
  obtain ⟨S39, hS⟩ : ∃ z, z = (nw S37 a38 12 2) := ⟨_, rfl⟩
  have P : PW G A s H locs S0 S39 := by rw [hS]; exact P
  have p_a0 : pI S39 9 a0 := by rw [hS]; exact pI_x (ext_nw hq) p_a0
  have hw := hw S39 hS
  have p_a38 : pI S39 12 a38 := by rw [hS]; exact pI_nw
  refine pf_9_21 C hin2 P p_a0 p_a38 q_1326 dX9_init_116 (fun H locs P => ?_)
  obtain ⟨S40, hS⟩ : ∃ z, z = (sR S39 a0 21 (some a38)) := ⟨_, rfl⟩
  have P : PW G A s H locs S0 S40 := by rw [hS]; exact P
  have p_a0 : pI S40 9 a0 := by rw [hS]; exact pI_x ext_sR p_a0
  have p_a38 : pI S40 12 a38 := by rw [hS]; exact pI_x ext_sR p_a38
  have hw := hw S40 hS
  refine lv_aload_n hx hb dX9_init_119 rfl (lv_at hl 0 rfl) ?_
  refine lv_bipush (v := 16) hx hb dX9_init_120 (by decide) ?_
  refine rn_a (atype := .float) C P 1 (N' := 16) (16, .inr (.inr (.inl (fun _ => 0)))) rfl (fun _ h => by cases h) q_298 rfl (fun _ => rfl) (fun S q => aE_nw (d := 1)) (by decide) (by decide) (by decide) (by show cells + 1 + 1 + 1 + 1 + 1 + 1 + 1 + 1 + 1 + 1 + 1 + 1 + 1 + 1 ≤ 14; omega) (by show slots + 290 + 290 + 290 + 290 + 290 + 2320 + 6000 + 6000 + 71 + 64 + 16 + 2 + 2 + 16 ≤ 15941; omega) dX9_init_122 (fun a41 H hq P => ?_)
  have hw := hw a41 hq
  obtain ⟨S42, hS⟩ : ∃ z, z = (nw S40 a41 11 16) := ⟨_, rfl⟩
  have P : PW G A s H locs S0 S42 := by rw [hS]; exact P
  have p_a0 : pI S42 9 a0 := by rw [hS]; exact pI_x (ext_nw hq) p_a0
  have hw := hw S42 hS
  have p_a41 : pI S42 11 a41 := by rw [hS]; exact pI_nw
  refine pf_9_22 C hin2 P p_a0 p_a41 q_1327 dX9_init_124 (fun H locs P => ?_)
  obtain ⟨S43, hS⟩ : ∃ z, z = (sR S42 a0 22 (some a41)) := ⟨_, rfl⟩
  have P : PW G A s H locs S0 S43 := by rw [hS]; exact P
  have p_a0 : pI S43 9 a0 := by rw [hS]; exact pI_x ext_sR p_a0
  have p_a41 : pI S43 11 a41 := by rw [hS]; exact pI_x ext_sR p_a41
  have hw := hw S43 hS
  refine lv_aload_n hx hb dX9_init_127 rfl (lv_at hl 0 rfl) ?_
  obtain ⟨a44, e1, hw⟩ := hw
  have p_a44 : pI S43 12 a44 := wf_r P.2.2.2.1 p_a0 e1
  refine gf_9_1 C P p_a0 e1 q_1306 dX9_init_128 ?_
  refine lv_iconst (v := 0) hx hb dX9_init_131 (by decide) ?_
  refine lv_iconst (v := 5) hx hb dX9_init_132 (by decide) ?_
  obtain ⟨h1, hw⟩ := hw
  refine rs_i C P p_a44 h1 dX9_init_133 (fun H locs P => ?_)
  obtain ⟨S45, hS⟩ : ∃ z, z = (sI S43 a44 (0 : Int32).toNatClampNeg 5) := ⟨_, rfl⟩
  have P : PW G A s H locs S0 S45 := by rw [hS]; exact P
  have p_a0 : pI S45 9 a0 := by rw [hS]; exact pI_x ext_sI p_a0
  have p_a44 : pI S45 12 a44 := by rw [hS]; exact pI_x ext_sI p_a44
  have hw := hw S45 hS
  refine lv_aload_n hx hb dX9_init_134 rfl (lv_at hl 0 rfl) ?_
  obtain ⟨a46, e1, hw⟩ := hw
  have p_a46 : pI S45 12 a46 := wf_r P.2.2.2.1 p_a0 e1
  refine gf_9_1 C P p_a0 e1 q_1306 dX9_init_135 ?_
  refine lv_iconst (v := 1) hx hb dX9_init_138 (by decide) ?_
  refine lv_iconst (v := 5) hx hb dX9_init_139 (by decide) ?_
  obtain ⟨h1, hw⟩ := hw
  refine rs_i C P p_a46 h1 dX9_init_140 (fun H locs P => ?_)
  obtain ⟨S47, hS⟩ : ∃ z, z = (sI S45 a46 (1 : Int32).toNatClampNeg 5) := ⟨_, rfl⟩
  have P : PW G A s H locs S0 S47 := by rw [hS]; exact P
  have p_a0 : pI S47 9 a0 := by rw [hS]; exact pI_x ext_sI p_a0
  have p_a46 : pI S47 12 a46 := by rw [hS]; exact pI_x ext_sI p_a46
  have hw := hw S47 hS
  refine lv_aload_n hx hb dX9_init_141 rfl (lv_at hl 0 rfl) ?_
  obtain ⟨a48, e1, hw⟩ := hw
  have p_a48 : pI S47 12 a48 := wf_r P.2.2.2.1 p_a0 e1
  refine gf_9_1 C P p_a0 e1 q_1306 dX9_init_142 ?_
  refine lv_sipush (v := 155) hx hb dX9_init_145 (by decide) ?_
  refine lv_iconst (v := 1) hx hb dX9_init_148 (by decide) ?_
  obtain ⟨h1, hw⟩ := hw
  refine rs_i C P p_a48 h1 dX9_init_149 (fun H locs P => ?_)
  obtain ⟨S49, hS⟩ : ∃ z, z = (sI S47 a48 (155 : Int32).toNatClampNeg 1) := ⟨_, rfl⟩
  have P : PW G A s H locs S0 S49 := by rw [hS]; exact P
  have p_a0 : pI S49 9 a0 := by rw [hS]; exact pI_x ext_sI p_a0
  have p_a48 : pI S49 12 a48 := by rw [hS]; exact pI_x ext_sI p_a48
  have hw := hw S49 hS
  refine lv_aload_n hx hb dX9_init_150 rfl (lv_at hl 0 rfl) ?_
  obtain ⟨a50, e1, hw⟩ := hw
  have p_a50 : pI S49 12 a50 := wf_r P.2.2.2.1 p_a0 e1
  refine gf_9_1 C P p_a0 e1 q_1306 dX9_init_151 ?_
  refine lv_sipush (v := 166) hx hb dX9_init_154 (by decide) ?_
  refine lv_iconst (v := (-1)) hx hb dX9_init_157 (by decide) ?_
  obtain ⟨h1, hw⟩ := hw
  refine rs_i C P p_a50 h1 dX9_init_158 (fun H locs P => ?_)
  obtain ⟨S51, hS⟩ : ∃ z, z = (sI S49 a50 (166 : Int32).toNatClampNeg (-1)) := ⟨_, rfl⟩
  have P : PW G A s H locs S0 S51 := by rw [hS]; exact P
  have p_a50 : pI S51 12 a50 := by rw [hS]; exact pI_x ext_sI p_a50
  have hw := hw S51 hS
  exact e_v C hr P hw (by omega) (by omega) dX9_init_159
def wp_X9_init (Q : MS → Prop) (QX : String → MS → Prop) (S : MS) (a0 : Nat) : Prop := wX9_init_0 Q QX S a0
set_option maxHeartbeats 4000000 in
set_option maxRecDepth 100000 in
theorem met_X9_init {l : Launch} (hst : l.stackTraces = false) (G : GP) (sz : Nat) (Q : MS → Prop) (QX : String → MS → Prop) (S : MS) (a0 : Nat) (p_a0 : pI S 9 a0) (hw : wp_X9_init Q QX S a0) : vx_Met l yX9_init (.code yX9_init cX9_init 1 none :: GW) rmX9_init (va_Pc [.ref a0] (PR G S sz)) (QV G S (FA G S sz) Q) (XX G S (FA G S sz) QX) 14 15941 (FA G S sz) := by
  refine st_m (by decide +kernel) hst (fun p e s m below meth c C hr hnm hex P => ?_)
  refine en_m (Nat.le_of_ble_eq_true rfl) (lv := [(0, .ref a0)]) rfl (fun ls hl => ?_)
  have C : CF p l s m _ meth c "SkirmishGridModel" cX9_init 1 G (FA G S sz) := C
  exact tX9_init_0 C hr hnm hex Q QX S a0 p_a0 P hl (by omega) (by omega) hw
theorem cd_X9_init : yX9_init.cls = RX9 ∧ yX9_init.cls ≠ "java/lang/invoke/MethodHandle" ∧ yX9_init.cls ≠ "java/lang/invoke/VarHandle" ∧ (parseMethodDescriptor yX9_init.desc).map (fun d => d.parameters.length) = some 0 := by decide +kernel
abbrev rmX9_thrown : Room := { frames := 0, cells := 0, slots := 0, locals := 0 }
def wX9_thrown_0 (Q : Int32 → MS → Prop) (QX : String → MS → Prop) (S : MS) (a0 : Nat) : Prop := Q (mI S a0 0) S
set_option maxHeartbeats 4000000 in
set_option maxRecDepth 100000 in
theorem tX9_thrown_0 {p : Program} {l : Launch} {e : Env} {s : State} {m : MethodId} {args : Array Value} {below : List Frame} {meth : Method} {c : Code} {H : Heap} {locs : List Loc} {cells slots : Nat} {G : GP} {A : Nat → Prop} {S0 : MS} {ls : Array Slot} (C : CF p l s m args meth c "SkirmishGridModel" cX9_thrown 1 G A) (hr : meth.sig.returnType = (some .int)) (hex : ∀ x ∈ c.exceptionTable.toList, False) (Q : Int32 → MS → Prop) (QX : String → MS → Prop) (S : MS) (a0 : Nat) (p_a0 : pI S 9 a0) (P : PW G A s H locs S0 S) (hl : lv_has ls 1 [(0, .ref a0)]) (hcc : cells + 0 ≤ 0) (hss : slots + 0 ≤ 0) (hw : wX9_thrown_0 Q QX S a0) : W p l e rmX9_thrown s m args below meth c H locs cells slots (vx_MQ below (QI G S0 A Q) (XX G S0 A QX) args s 0 0 A) (F0 m 0 ls []) := by
  have hx := CF_x C
  have hb := CF_b C
  unfold wX9_thrown_0 at hw
  refine lv_aload_n hx hb dX9_thrown_0 rfl (lv_at hl 0 rfl) ?_
  refine gf_9_0 C P p_a0 q_1305 dX9_thrown_1 ?_
  exact e_i C hr rfl P hw (by omega) (by omega) dX9_thrown_4
def wp_X9_thrown (Q : Int32 → MS → Prop) (QX : String → MS → Prop) (S : MS) (a0 : Nat) : Prop := wX9_thrown_0 Q QX S a0
set_option maxHeartbeats 4000000 in
set_option maxRecDepth 100000 in
theorem met_X9_thrown {l : Launch} (hst : l.stackTraces = false) (G : GP) (sz : Nat) (Q : Int32 → MS → Prop) (QX : String → MS → Prop) (S : MS) (a0 : Nat) (p_a0 : pI S 9 a0) (hw : wp_X9_thrown Q QX S a0) : vx_Met l yX9_thrown (.code yX9_thrown cX9_thrown 1 (some .int) :: GW) rmX9_thrown (va_Pc [.ref a0] (PR G S sz)) (QI G S (FA G S sz) Q) (XX G S (FA G S sz) QX) 0 0 (FA G S sz) := by
  refine st_m (by decide +kernel) hst (fun p e s m below meth c C hr hnm hex P => ?_)
  refine en_m (Nat.le_of_ble_eq_true rfl) (lv := [(0, .ref a0)]) rfl (fun ls hl => ?_)
  have C : CF p l s m _ meth c "SkirmishGridModel" cX9_thrown 1 G (FA G S sz) := C
  exact tX9_thrown_0 C hr hex Q QX S a0 p_a0 P hl (by omega) (by omega) hw
theorem cd_X9_thrown : yX9_thrown.cls = RX9 ∧ yX9_thrown.cls ≠ "java/lang/invoke/MethodHandle" ∧ yX9_thrown.cls ≠ "java/lang/invoke/VarHandle" ∧ (parseMethodDescriptor yX9_thrown.desc).map (fun d => d.parameters.length) = some 0 := by decide +kernel
abbrev rmX9_no : Room := { frames := 0, cells := 0, slots := 0, locals := 0 }
def wX9_no_0 (Q : Int32 → MS → Prop) (QX : String → MS → Prop) (S : MS) (a0 : Nat) (x1 : Int32) : Prop := (∀ S1, S1 = (sI S a0 0 x1) → Q 0 S1)
set_option maxHeartbeats 4000000 in
set_option maxRecDepth 100000 in
theorem tX9_no_0 {p : Program} {l : Launch} {e : Env} {s : State} {m : MethodId} {args : Array Value} {below : List Frame} {meth : Method} {c : Code} {H : Heap} {locs : List Loc} {cells slots : Nat} {G : GP} {A : Nat → Prop} {S0 : MS} {ls : Array Slot} (C : CF p l s m args meth c "SkirmishGridModel" cX9_no 2 G A) (hr : meth.sig.returnType = (some .int)) (hex : ∀ x ∈ c.exceptionTable.toList, False) (Q : Int32 → MS → Prop) (QX : String → MS → Prop) (S : MS) (a0 : Nat) (x1 : Int32) (p_a0 : pI S 9 a0) (P : PW G A s H locs S0 S) (hl : lv_has ls 2 [(0, .ref a0), (1, .int x1)]) (hcc : cells + 0 ≤ 0) (hss : slots + 0 ≤ 0) (hw : wX9_no_0 Q QX S a0 x1) : W p l e rmX9_no s m args below meth c H locs cells slots (vx_MQ below (QI G S0 A Q) (XX G S0 A QX) args s 0 0 A) (F0 m 0 ls []) := by
  have hx := CF_x C
  have hb := CF_b C
  unfold wX9_no_0 at hw
  refine lv_aload_n hx hb dX9_no_0 rfl (lv_at hl 0 rfl) ?_
  refine lv_iload_n hx hb dX9_no_1 rfl (lv_at hl 1 rfl) ?_
  refine pf_9_0 C P p_a0 q_1305 dX9_no_2 (fun H locs P => ?_)
  obtain ⟨S1, hS⟩ : ∃ z, z = (sI S a0 0 x1) := ⟨_, rfl⟩
  have P : PW G A s H locs S0 S1 := by rw [hS]; exact P
  have p_a0 : pI S1 9 a0 := by rw [hS]; exact pI_x ext_sI p_a0
  have hw := hw S1 hS
  refine lv_iconst (v := 0) hx hb dX9_no_5 (by decide) ?_
  exact e_i C hr rfl P hw (by omega) (by omega) dX9_no_6
def wp_X9_no (Q : Int32 → MS → Prop) (QX : String → MS → Prop) (S : MS) (a0 : Nat) (x1 : Int32) : Prop := wX9_no_0 Q QX S a0 x1
set_option maxHeartbeats 4000000 in
set_option maxRecDepth 100000 in
theorem met_X9_no {l : Launch} (hst : l.stackTraces = false) (G : GP) (sz : Nat) (Q : Int32 → MS → Prop) (QX : String → MS → Prop) (S : MS) (a0 : Nat) (x1 : Int32) (p_a0 : pI S 9 a0) (hw : wp_X9_no Q QX S a0 x1) : vx_Met l yX9_no (.code yX9_no cX9_no 2 (some .int) :: GW) rmX9_no (va_Pc [.ref a0, .int x1] (PR G S sz)) (QI G S (FA G S sz) Q) (XX G S (FA G S sz) QX) 0 0 (FA G S sz) := by
  refine st_m (by decide +kernel) hst (fun p e s m below meth c C hr hnm hex P => ?_)
  refine en_m (Nat.le_of_ble_eq_true rfl) (lv := [(0, .ref a0), (1, .int x1)]) rfl (fun ls hl => ?_)
  have C : CF p l s m _ meth c "SkirmishGridModel" cX9_no 2 G (FA G S sz) := C
  exact tX9_no_0 C hr hex Q QX S a0 x1 p_a0 P hl (by omega) (by omega) hw
theorem cd_X9_no : yX9_no.cls = RX9 ∧ yX9_no.cls ≠ "java/lang/invoke/MethodHandle" ∧ yX9_no.cls ≠ "java/lang/invoke/VarHandle" ∧ (parseMethodDescriptor yX9_no.desc).map (fun d => d.parameters.length) = some 1 := by decide +kernel
abbrev rmX9_isIn : Room := { frames := 0, cells := 0, slots := 0, locals := 0 }
def wX9_isIn_0 (Q : Int32 → MS → Prop) (QX : String → MS → Prop) (S : MS) (x1 : Int32) (x2 : Int32) (x3 : Int32) : Prop := ((x1 < x2 → Q 0 S) ∧ (¬ x1 < x2 → ((x3 < x1 → Q 0 S) ∧ (¬ x3 < x1 → Q 1 S))))
set_option maxHeartbeats 4000000 in
set_option maxRecDepth 100000 in
theorem tX9_isIn_0 {p : Program} {l : Launch} {e : Env} {s : State} {m : MethodId} {args : Array Value} {below : List Frame} {meth : Method} {c : Code} {H : Heap} {locs : List Loc} {cells slots : Nat} {G : GP} {A : Nat → Prop} {S0 : MS} {ls : Array Slot} (C : CF p l s m args meth c "SkirmishGridModel" cX9_isIn 3 G A) (hr : meth.sig.returnType = (some .boolean)) (hex : ∀ x ∈ c.exceptionTable.toList, False) (Q : Int32 → MS → Prop) (QX : String → MS → Prop) (S : MS) (x1 : Int32) (x2 : Int32) (x3 : Int32) (P : PW G A s H locs S0 S) (hl : lv_has ls 3 [(0, .int x1), (1, .int x2), (2, .int x3)]) (hcc : cells + 0 ≤ 0) (hss : slots + 0 ≤ 0) (hw : wX9_isIn_0 Q QX S x1 x2 x3) : W p l e rmX9_isIn s m args below meth c H locs cells slots (vx_MQ below (QI G S0 A Q) (XX G S0 A QX) args s 0 0 A) (F0 m 0 ls []) := by
  have hx := CF_x C
  have hb := CF_b C
  unfold wX9_isIn_0 at hw
  refine lv_iload_n hx hb dX9_isIn_0 rfl (lv_at hl 0 rfl) ?_
  refine lv_iload_n hx hb dX9_isIn_1 rfl (lv_at hl 1 rfl) ?_
  refine lv_icmp_lt (tgt := 14) hx hb dX9_isIn_2 (by decide) (fun hc => ?_) (fun hc => ?_)
  · have hw := hw.1 hc
    refine lv_iconst (v := 0) hx hb dX9_isIn_14 (by decide) ?_
    exact e_i C hr (by decide +kernel) P hw (by omega) (by omega) dX9_isIn_15
  · have hw := hw.2 hc
    refine lv_iload_n hx hb dX9_isIn_5 rfl (lv_at hl 0 rfl) ?_
    refine lv_iload_n hx hb dX9_isIn_6 rfl (lv_at hl 2 rfl) ?_
    refine lv_icmp_gt (tgt := 14) hx hb dX9_isIn_7 (by decide) (fun hc => ?_) (fun hc => ?_)
    · have hw := hw.1 hc
      refine lv_iconst (v := 0) hx hb dX9_isIn_14 (by decide) ?_
      exact e_i C hr (by decide +kernel) P hw (by omega) (by omega) dX9_isIn_15
    · have hw := hw.2 hc
      refine lv_iconst (v := 1) hx hb dX9_isIn_10 (by decide) ?_
      refine lv_goto (tgt := 15) hx hb dX9_isIn_11 (by decide) ?_
      exact e_i C hr (by decide +kernel) P hw (by omega) (by omega) dX9_isIn_15
def wp_X9_isIn (Q : Int32 → MS → Prop) (QX : String → MS → Prop) (S : MS) (x1 : Int32) (x2 : Int32) (x3 : Int32) : Prop := wX9_isIn_0 Q QX S x1 x2 x3
set_option maxHeartbeats 4000000 in
set_option maxRecDepth 100000 in
theorem met_X9_isIn {l : Launch} (hst : l.stackTraces = false) (G : GP) (sz : Nat) (Q : Int32 → MS → Prop) (QX : String → MS → Prop) (S : MS) (x1 : Int32) (x2 : Int32) (x3 : Int32) (hw : wp_X9_isIn Q QX S x1 x2 x3) : vx_Met l yX9_isIn (.code yX9_isIn cX9_isIn 3 (some .boolean) :: GW) rmX9_isIn (va_Pc [.int x1, .int x2, .int x3] (PR G S sz)) (QI G S (FA G S sz) Q) (XX G S (FA G S sz) QX) 0 0 (FA G S sz) := by
  refine st_m (by decide +kernel) hst (fun p e s m below meth c C hr hnm hex P => ?_)
  refine en_m (Nat.le_of_ble_eq_true rfl) (lv := [(0, .int x1), (1, .int x2), (2, .int x3)]) rfl (fun ls hl => ?_)
  have C : CF p l s m _ meth c "SkirmishGridModel" cX9_isIn 3 G (FA G S sz) := C
  exact tX9_isIn_0 C hr hex Q QX S x1 x2 x3 P hl (by omega) (by omega) hw
theorem cd_X9_isIn : yX9_isIn.cls = RX9 ∧ yX9_isIn.cls ≠ "java/lang/invoke/MethodHandle" ∧ yX9_isIn.cls ≠ "java/lang/invoke/VarHandle" ∧ (parseMethodDescriptor yX9_isIn.desc).map (fun d => d.parameters.length) = some 3 := by decide +kernel
abbrev rmX9_copies : Room := { frames := 0, cells := 0, slots := 0, locals := 0 }
def wX9_copies_2 (Q : MS → Prop) (QX : String → MS → Prop) (k2 : MS → Nat → Nat → Int32 → Int32 → Prop) (S : MS) (u0 : Nat) (u1 : Nat) (y2 : Int32) (y3 : Int32) : Prop := ((y2 ≤ y3 → Q S) ∧ (¬ y2 ≤ y3 → (vp_in y3 (mN S u0) ∧ (vp_in y3 (mN S u1) ∧ (∀ S1, S1 = (sI S u1 (y3 : Int32).toNatClampNeg (mI S u0 (y3 : Int32).toNatClampNeg)) → k2 S1 u0 u1 y2 (y3 + 1))))))
set_option maxHeartbeats 4000000 in
set_option maxRecDepth 100000 in
theorem tX9_copies_2 {p : Program} {l : Launch} {e : Env} {s : State} {m : MethodId} {args : Array Value} {below : List Frame} {meth : Method} {c : Code} {H : Heap} {locs : List Loc} {cells slots : Nat} {G : GP} {A : Nat → Prop} {S0 : MS} {ls : Array Slot} (C : CF p l s m args meth c "SkirmishGridModel" cX9_copies 4 G A) (hr : meth.sig.returnType = none) (hex : ∀ x ∈ c.exceptionTable.toList, False) (Q : MS → Prop) (QX : String → MS → Prop) (k2 : MS → Nat → Nat → Int32 → Int32 → Prop) (kh2 : ∀ (S : MS) (u0 : Nat) (u1 : Nat) (y2 : Int32) (y3 : Int32) (cells slots : Nat) (H : Heap) (locs : List Loc) (ls : Array Slot), pI S 12 u0 → pI S 12 u1 → PW G A s H locs S0 S → lv_has ls 4 [(0, .ref u0), (1, .ref u1), (2, .int y2), (3, .int y3)] → cells + 0 ≤ 0 → slots + 0 ≤ 0 → k2 S u0 u1 y2 y3 → W p l e rmX9_copies s m args below meth c H locs cells slots (vx_MQ below (QV G S0 A Q) (XX G S0 A QX) args s 0 0 A) (F0 m 2 ls [])) (S : MS) (u0 : Nat) (u1 : Nat) (y2 : Int32) (y3 : Int32) (p_u0 : pI S 12 u0) (p_u1 : pI S 12 u1) (P : PW G A s H locs S0 S) (hl : lv_has ls 4 [(0, .ref u0), (1, .ref u1), (2, .int y2), (3, .int y3)]) (hcc : cells + 0 ≤ 0) (hss : slots + 0 ≤ 0) (hw : wX9_copies_2 Q QX k2 S u0 u1 y2 y3) : W p l e rmX9_copies s m args below meth c H locs cells slots (vx_MQ below (QV G S0 A Q) (XX G S0 A QX) args s 0 0 A) (F0 m 2 ls []) := by
  have hx := CF_x C
  have hb := CF_b C
  unfold wX9_copies_2 at hw
  refine lv_iload_n hx hb dX9_copies_2 rfl (lv_at hl 3 rfl) ?_
  refine lv_iload_n hx hb dX9_copies_3 rfl (lv_at hl 2 rfl) ?_
  refine lv_icmp_ge (tgt := 19) hx hb dX9_copies_4 (by decide) (fun hc => ?_) (fun hc => ?_)
  · have hw := hw.1 hc
    exact e_v C hr P hw (by omega) (by omega) dX9_copies_19
  · have hw := hw.2 hc
    refine lv_aload_n hx hb dX9_copies_7 rfl (lv_at hl 1 rfl) ?_
    refine lv_iload_n hx hb dX9_copies_8 rfl (lv_at hl 3 rfl) ?_
    refine lv_aload_n hx hb dX9_copies_9 rfl (lv_at hl 0 rfl) ?_
    refine lv_iload_n hx hb dX9_copies_10 rfl (lv_at hl 3 rfl) ?_
    obtain ⟨h1, hw⟩ := hw
    refine ra_i C P p_u0 h1 dX9_copies_11 ?_
    obtain ⟨h1, hw⟩ := hw
    refine rs_i C P p_u1 h1 dX9_copies_12 (fun H locs P => ?_)
    obtain ⟨S1, hS⟩ : ∃ z, z = (sI S u1 (y3 : Int32).toNatClampNeg (mI S u0 (y3 : Int32).toNatClampNeg)) := ⟨_, rfl⟩
    have P : PW G A s H locs S0 S1 := by rw [hS]; exact P
    have p_u0 : pI S1 12 u0 := by rw [hS]; exact pI_x ext_sI p_u0
    have p_u1 : pI S1 12 u1 := by rw [hS]; exact pI_x ext_sI p_u1
    have hw := hw S1 hS
    refine lv_iinc (v := (y3 + 1)) (lv' := [(3, .int (y3 + 1)), (0, .ref u0), (1, .ref u1), (2, .int y2)]) hx hb dX9_copies_13 hl (k := 3) rfl (by rfl) (by decide) rfl (fun ls hl => ?_)
    refine lv_goto (tgt := 2) hx hb dX9_copies_16 (by decide) ?_
    exact kh2 S1 u0 u1 y2 (y3 + 1) _ _ _ _ _ p_u0 p_u1 P (lv_sub hl [1, 2, 3, 0] rfl) (by omega) (by omega) hw
def lX9_copies_2 (Q : MS → Prop) (QX : String → MS → Prop) : Nat → MS → Nat → Nat → Int32 → Int32 → Prop
  | 0 => fun _ _ _ _ _ => False
  | n + 1 => fun S u0 u1 y2 y3 => wX9_copies_2 Q QX (lX9_copies_2 Q QX n) S u0 u1 y2 y3
theorem tlX9_copies_2 {p : Program} {l : Launch} {e : Env} {s : State} {m : MethodId} {args : Array Value} {below : List Frame} {meth : Method} {c : Code} {G : GP} {A : Nat → Prop} {S0 : MS} (C : CF p l s m args meth c "SkirmishGridModel" cX9_copies 4 G A) (hr : meth.sig.returnType = none) (hex : ∀ x ∈ c.exceptionTable.toList, False) (Q : MS → Prop) (QX : String → MS → Prop) : ∀ (n : Nat), ∀ (S : MS) (u0 : Nat) (u1 : Nat) (y2 : Int32) (y3 : Int32) (cells slots : Nat) (H : Heap) (locs : List Loc) (ls : Array Slot), pI S 12 u0 → pI S 12 u1 → PW G A s H locs S0 S → lv_has ls 4 [(0, .ref u0), (1, .ref u1), (2, .int y2), (3, .int y3)] → cells + 0 ≤ 0 → slots + 0 ≤ 0 → lX9_copies_2 Q QX n S u0 u1 y2 y3 → W p l e rmX9_copies s m args below meth c H locs cells slots (vx_MQ below (QV G S0 A Q) (XX G S0 A QX) args s 0 0 A) (F0 m 2 ls []) := by
  intro n
  induction n with
  | zero => intro S u0 u1 y2 y3 cells slots H locs ls p_u0 p_u1 P hl hcc hss hw; exact hw.elim
  | succ n ih => intro S u0 u1 y2 y3 cells slots H locs ls p_u0 p_u1 P hl hcc hss hw; exact tX9_copies_2 C hr hex Q QX (lX9_copies_2 Q QX n) ih S u0 u1 y2 y3 p_u0 p_u1 P hl hcc hss hw
def wX9_copies_0 (Q : MS → Prop) (QX : String → MS → Prop) (S : MS) (b1 : Nat) (b2 : Nat) (x3 : Int32) : Prop := (∃ n, lX9_copies_2 Q QX n S b1 b2 x3 0)
set_option maxHeartbeats 4000000 in
set_option maxRecDepth 100000 in
theorem tX9_copies_0 {p : Program} {l : Launch} {e : Env} {s : State} {m : MethodId} {args : Array Value} {below : List Frame} {meth : Method} {c : Code} {H : Heap} {locs : List Loc} {cells slots : Nat} {G : GP} {A : Nat → Prop} {S0 : MS} {ls : Array Slot} (C : CF p l s m args meth c "SkirmishGridModel" cX9_copies 4 G A) (hr : meth.sig.returnType = none) (hex : ∀ x ∈ c.exceptionTable.toList, False) (Q : MS → Prop) (QX : String → MS → Prop) (S : MS) (b1 : Nat) (b2 : Nat) (x3 : Int32) (p_b1 : pI S 12 b1) (p_b2 : pI S 12 b2) (P : PW G A s H locs S0 S) (hl : lv_has ls 4 [(0, .ref b1), (1, .ref b2), (2, .int x3)]) (hcc : cells + 0 ≤ 0) (hss : slots + 0 ≤ 0) (hw : wX9_copies_0 Q QX S b1 b2 x3) : W p l e rmX9_copies s m args below meth c H locs cells slots (vx_MQ below (QV G S0 A Q) (XX G S0 A QX) args s 0 0 A) (F0 m 0 ls []) := by
  have hx := CF_x C
  have hb := CF_b C
  unfold wX9_copies_0 at hw
  refine lv_iconst (v := 0) hx hb dX9_copies_0 (by decide) ?_
  refine lv_istore_n (lv' := [(3, .int 0), (0, .ref b1), (1, .ref b2), (2, .int x3)]) hx hb dX9_copies_1 rfl hl (by decide) rfl (fun ls hl => ?_)
  obtain ⟨n, hw⟩ := hw
  exact tlX9_copies_2 C hr hex Q QX n S b1 b2 x3 0 _ _ _ _ _ p_b1 p_b2 P (lv_sub hl [1, 2, 3, 0] rfl) (by omega) (by omega) hw
def wp_X9_copies (Q : MS → Prop) (QX : String → MS → Prop) (S : MS) (b1 : Nat) (b2 : Nat) (x3 : Int32) : Prop := wX9_copies_0 Q QX S b1 b2 x3
set_option maxHeartbeats 4000000 in
set_option maxRecDepth 100000 in
theorem met_X9_copies {l : Launch} (hst : l.stackTraces = false) (G : GP) (sz : Nat) (Q : MS → Prop) (QX : String → MS → Prop) (S : MS) (b1 : Nat) (b2 : Nat) (x3 : Int32) (p_b1 : pI S 12 b1) (p_b2 : pI S 12 b2) (hw : wp_X9_copies Q QX S b1 b2 x3) : vx_Met l yX9_copies (.code yX9_copies cX9_copies 4 none :: GW) rmX9_copies (va_Pc [.ref b1, .ref b2, .int x3] (PR G S sz)) (QV G S (FA G S sz) Q) (XX G S (FA G S sz) QX) 0 0 (FA G S sz) := by
  refine st_m (by decide +kernel) hst (fun p e s m below meth c C hr hnm hex P => ?_)
  refine en_m (Nat.le_of_ble_eq_true rfl) (lv := [(0, .ref b1), (1, .ref b2), (2, .int x3)]) rfl (fun ls hl => ?_)
  have C : CF p l s m _ meth c "SkirmishGridModel" cX9_copies 4 G (FA G S sz) := C
  exact tX9_copies_0 C hr hex Q QX S b1 b2 x3 p_b1 p_b2 P hl (by omega) (by omega) hw
theorem cd_X9_copies : yX9_copies.cls = RX9 ∧ yX9_copies.cls ≠ "java/lang/invoke/MethodHandle" ∧ yX9_copies.cls ≠ "java/lang/invoke/VarHandle" ∧ (parseMethodDescriptor yX9_copies.desc).map (fun d => d.parameters.length) = some 3 := by decide +kernel
abbrev rmX9_number : Room := { frames := 0, cells := 0, slots := 0, locals := 0 }
def wX9_number_0 (Q : Int32 → MS → Prop) (QX : String → MS → Prop) (S : MS) (x1 : Int32) (x2 : Int32) : Prop := ((((x2 : Int32).toInt < 0 ∨ 7 < (x2 : Int32).toInt) → ((¬ x1 = 3 → Q 1 S) ∧ (x1 = 3 → Q 0 S))) ∧ ((x2 : Int32).toInt = 0 → ((¬ x1 = 0 → ((¬ x1 = 1 → ((¬ x1 = 2 → Q 7 S) ∧ (x1 = 2 → Q 18 S))) ∧ (x1 = 1 → Q 12 S))) ∧ (x1 = 0 → Q 8 S))) ∧ ((x2 : Int32).toInt = 1 → ((¬ x1 = 1 → ((¬ x1 = 2 → Q 0 S) ∧ (x1 = 2 → Q 3 S))) ∧ (x1 = 1 → Q 1 S))) ∧ ((x2 : Int32).toInt = 2 → ((¬ x1 = 0 → ((¬ x1 = 1 → ((¬ x1 = 2 → Q 9 S) ∧ (x1 = 2 → Q 3 S))) ∧ (x1 = 1 → Q 5 S))) ∧ (x1 = 0 → Q 4 S))) ∧ ((x2 : Int32).toInt = 3 → ((¬ x1 = 0 → ((¬ x1 = 1 → ((¬ x1 = 2 → Q 8 S) ∧ (x1 = 2 → Q 4 S))) ∧ (x1 = 1 → Q 6 S))) ∧ (x1 = 0 → Q 5 S))) ∧ ((x2 : Int32).toInt = 4 → ((¬ x1 = 0 → ((¬ x1 = 1 → Q 3 S) ∧ (x1 = 1 → Q 4 S))) ∧ (x1 = 0 → Q 6 S))) ∧ ((x2 : Int32).toInt = 5 → ((¬ x1 = 0 → ((¬ x1 = 1 → ((¬ x1 = 2 → Q 6 S) ∧ (x1 = 2 → Q 2 S))) ∧ (x1 = 1 → Q 5 S))) ∧ (x1 = 0 → Q 8 S))) ∧ ((x2 : Int32).toInt = 6 → ((¬ x1 = 0 → ((¬ x1 = 1 → ((¬ x1 = 2 → Q 4 S) ∧ (x1 = 2 → Q 5 S))) ∧ (x1 = 1 → Q 3 S))) ∧ (x1 = 0 → Q 2 S))) ∧ ((x2 : Int32).toInt = 7 → ((¬ x1 = 0 → ((¬ x1 = 1 → ((¬ x1 = 2 → Q 3 S) ∧ (x1 = 2 → Q 4 S))) ∧ (x1 = 1 → Q 5 S))) ∧ (x1 = 0 → Q 6 S))))
set_option maxHeartbeats 4000000 in
set_option maxRecDepth 100000 in
theorem tX9_number_0 {p : Program} {l : Launch} {e : Env} {s : State} {m : MethodId} {args : Array Value} {below : List Frame} {meth : Method} {c : Code} {H : Heap} {locs : List Loc} {cells slots : Nat} {G : GP} {A : Nat → Prop} {S0 : MS} {ls : Array Slot} (C : CF p l s m args meth c "SkirmishGridModel" cX9_number 2 G A) (hr : meth.sig.returnType = (some .int)) (hex : ∀ x ∈ c.exceptionTable.toList, False) (Q : Int32 → MS → Prop) (QX : String → MS → Prop) (S : MS) (x1 : Int32) (x2 : Int32) (P : PW G A s H locs S0 S) (hl : lv_has ls 2 [(0, .int x1), (1, .int x2)]) (hcc : cells + 0 ≤ 0) (hss : slots + 0 ≤ 0) (hw : wX9_number_0 Q QX S x1 x2) : W p l e rmX9_number s m args below meth c H locs cells slots (vx_MQ below (QI G S0 A Q) (XX G S0 A QX) args s 0 0 A) (F0 m 0 ls []) := by
  have hx := CF_x C
  have hb := CF_b C
  unfold wX9_number_0 at hw
  refine lv_iload_n hx hb dX9_number_0 rfl (lv_at hl 1 rfl) ?_
  rcases ts_split (lo := 0) (hi := 7) x2 with hc | ⟨i, hi, hc⟩
  · have hw := hw.1 hc
    refine lv_tableOut (tgt := 266) hx hb dX9_number_1 hc (by decide) ?_
    refine lv_iload_n hx hb dX9_number_266 rfl (lv_at hl 0 rfl) ?_
    refine lv_iconst (v := 3) hx hb dX9_number_267 (by decide) ?_
    refine lv_icmp_ne (tgt := 275) hx hb dX9_number_268 (by decide) (fun hc => ?_) (fun hc => ?_)
    · have hw := hw.1 hc
      refine lv_iconst (v := 1) hx hb dX9_number_275 (by decide) ?_
      exact e_i C hr rfl P hw (by omega) (by omega) dX9_number_276
    · have hw := hw.2 hc
      refine lv_iconst (v := 0) hx hb dX9_number_271 (by decide) ?_
      refine lv_goto (tgt := 276) hx hb dX9_number_272 (by decide) ?_
      exact e_i C hr rfl P hw (by omega) (by omega) dX9_number_276
  · rcases (show i = 0 ∨ i = 1 ∨ i = 2 ∨ i = 3 ∨ i = 4 ∨ i = 5 ∨ i = 6 ∨ i = 7 by omega) with rfl | rfl | rfl | rfl | rfl | rfl | rfl | rfl
    · have hw := hw.2.1 hc
      refine lv_tableIn (tgt := 48) hx hb dX9_number_1 (by omega) (by omega) (by rw [hc]; rfl) (by decide) ?_
      refine lv_iload_n hx hb dX9_number_48 rfl (lv_at hl 0 rfl) ?_
      refine lv_if_ne (tgt := 57) hx hb dX9_number_49 (by decide) (fun hc => ?_) (fun hc => ?_)
      · have hw := hw.1 hc
        refine lv_iload_n hx hb dX9_number_57 rfl (lv_at hl 0 rfl) ?_
        refine lv_iconst (v := 1) hx hb dX9_number_58 (by decide) ?_
        refine lv_icmp_ne (tgt := 67) hx hb dX9_number_59 (by decide) (fun hc => ?_) (fun hc => ?_)
        · have hw := hw.1 hc
          refine lv_iload_n hx hb dX9_number_67 rfl (lv_at hl 0 rfl) ?_
          refine lv_iconst (v := 2) hx hb dX9_number_68 (by decide) ?_
          refine lv_icmp_ne (tgt := 77) hx hb dX9_number_69 (by decide) (fun hc => ?_) (fun hc => ?_)
          · have hw := hw.1 hc
            refine lv_bipush (v := 7) hx hb dX9_number_77 (by decide) ?_
            exact e_i C hr rfl P hw (by omega) (by omega) dX9_number_79
          · have hw := hw.2 hc
            refine lv_bipush (v := 18) hx hb dX9_number_72 (by decide) ?_
            refine lv_goto (tgt := 79) hx hb dX9_number_74 (by decide) ?_
            exact e_i C hr rfl P hw (by omega) (by omega) dX9_number_79
        · have hw := hw.2 hc
          refine lv_bipush (v := 12) hx hb dX9_number_62 (by decide) ?_
          refine lv_goto (tgt := 79) hx hb dX9_number_64 (by decide) ?_
          exact e_i C hr rfl P hw (by omega) (by omega) dX9_number_79
      · have hw := hw.2 hc
        refine lv_bipush (v := 8) hx hb dX9_number_52 (by decide) ?_
        refine lv_goto (tgt := 79) hx hb dX9_number_54 (by decide) ?_
        exact e_i C hr rfl P hw (by omega) (by omega) dX9_number_79
    · have hw := hw.2.2.1 hc
      refine lv_tableIn (tgt := 80) hx hb dX9_number_1 (by omega) (by omega) (by rw [hc]; rfl) (by decide) ?_
      refine lv_iload_n hx hb dX9_number_80 rfl (lv_at hl 0 rfl) ?_
      refine lv_iconst (v := 1) hx hb dX9_number_81 (by decide) ?_
      refine lv_icmp_ne (tgt := 89) hx hb dX9_number_82 (by decide) (fun hc => ?_) (fun hc => ?_)
      · have hw := hw.1 hc
        refine lv_iload_n hx hb dX9_number_89 rfl (lv_at hl 0 rfl) ?_
        refine lv_iconst (v := 2) hx hb dX9_number_90 (by decide) ?_
        refine lv_icmp_ne (tgt := 98) hx hb dX9_number_91 (by decide) (fun hc => ?_) (fun hc => ?_)
        · have hw := hw.1 hc
          refine lv_iconst (v := 0) hx hb dX9_number_98 (by decide) ?_
          exact e_i C hr rfl P hw (by omega) (by omega) dX9_number_99
        · have hw := hw.2 hc
          refine lv_iconst (v := 3) hx hb dX9_number_94 (by decide) ?_
          refine lv_goto (tgt := 99) hx hb dX9_number_95 (by decide) ?_
          exact e_i C hr rfl P hw (by omega) (by omega) dX9_number_99
      · have hw := hw.2 hc
        refine lv_iconst (v := 1) hx hb dX9_number_85 (by decide) ?_
        refine lv_goto (tgt := 99) hx hb dX9_number_86 (by decide) ?_
        exact e_i C hr rfl P hw (by omega) (by omega) dX9_number_99
    · have hw := hw.2.2.2.1 hc
      refine lv_tableIn (tgt := 100) hx hb dX9_number_1 (by omega) (by omega) (by rw [hc]; rfl) (by decide) ?_
      refine lv_iload_n hx hb dX9_number_100 rfl (lv_at hl 0 rfl) ?_
      refine lv_if_ne (tgt := 108) hx hb dX9_number_101 (by decide) (fun hc => ?_) (fun hc => ?_)
      · have hw := hw.1 hc
        refine lv_iload_n hx hb dX9_number_108 rfl (lv_at hl 0 rfl) ?_
        refine lv_iconst (v := 1) hx hb dX9_number_109 (by decide) ?_
        refine lv_icmp_ne (tgt := 117) hx hb dX9_number_110 (by decide) (fun hc => ?_) (fun hc => ?_)
        · have hw := hw.1 hc
          refine lv_iload_n hx hb dX9_number_117 rfl (lv_at hl 0 rfl) ?_
          refine lv_iconst (v := 2) hx hb dX9_number_118 (by decide) ?_
          refine lv_icmp_ne (tgt := 126) hx hb dX9_number_119 (by decide) (fun hc => ?_) (fun hc => ?_)
          · have hw := hw.1 hc
            refine lv_bipush (v := 9) hx hb dX9_number_126 (by decide) ?_
            exact e_i C hr rfl P hw (by omega) (by omega) dX9_number_128
          · have hw := hw.2 hc
            refine lv_iconst (v := 3) hx hb dX9_number_122 (by decide) ?_
            refine lv_goto (tgt := 128) hx hb dX9_number_123 (by decide) ?_
            exact e_i C hr rfl P hw (by omega) (by omega) dX9_number_128
        · have hw := hw.2 hc
          refine lv_iconst (v := 5) hx hb dX9_number_113 (by decide) ?_
          refine lv_goto (tgt := 128) hx hb dX9_number_114 (by decide) ?_
          exact e_i C hr rfl P hw (by omega) (by omega) dX9_number_128
      · have hw := hw.2 hc
        refine lv_iconst (v := 4) hx hb dX9_number_104 (by decide) ?_
        refine lv_goto (tgt := 128) hx hb dX9_number_105 (by decide) ?_
        exact e_i C hr rfl P hw (by omega) (by omega) dX9_number_128
    · have hw := hw.2.2.2.2.1 hc
      refine lv_tableIn (tgt := 129) hx hb dX9_number_1 (by omega) (by omega) (by rw [hc]; rfl) (by decide) ?_
      refine lv_iload_n hx hb dX9_number_129 rfl (lv_at hl 0 rfl) ?_
      refine lv_if_ne (tgt := 137) hx hb dX9_number_130 (by decide) (fun hc => ?_) (fun hc => ?_)
      · have hw := hw.1 hc
        refine lv_iload_n hx hb dX9_number_137 rfl (lv_at hl 0 rfl) ?_
        refine lv_iconst (v := 1) hx hb dX9_number_138 (by decide) ?_
        refine lv_icmp_ne (tgt := 147) hx hb dX9_number_139 (by decide) (fun hc => ?_) (fun hc => ?_)
        · have hw := hw.1 hc
          refine lv_iload_n hx hb dX9_number_147 rfl (lv_at hl 0 rfl) ?_
          refine lv_iconst (v := 2) hx hb dX9_number_148 (by decide) ?_
          refine lv_icmp_ne (tgt := 156) hx hb dX9_number_149 (by decide) (fun hc => ?_) (fun hc => ?_)
          · have hw := hw.1 hc
            refine lv_bipush (v := 8) hx hb dX9_number_156 (by decide) ?_
            exact e_i C hr rfl P hw (by omega) (by omega) dX9_number_158
          · have hw := hw.2 hc
            refine lv_iconst (v := 4) hx hb dX9_number_152 (by decide) ?_
            refine lv_goto (tgt := 158) hx hb dX9_number_153 (by decide) ?_
            exact e_i C hr rfl P hw (by omega) (by omega) dX9_number_158
        · have hw := hw.2 hc
          refine lv_bipush (v := 6) hx hb dX9_number_142 (by decide) ?_
          refine lv_goto (tgt := 158) hx hb dX9_number_144 (by decide) ?_
          exact e_i C hr rfl P hw (by omega) (by omega) dX9_number_158
      · have hw := hw.2 hc
        refine lv_iconst (v := 5) hx hb dX9_number_133 (by decide) ?_
        refine lv_goto (tgt := 158) hx hb dX9_number_134 (by decide) ?_
        exact e_i C hr rfl P hw (by omega) (by omega) dX9_number_158
    · have hw := hw.2.2.2.2.2.1 hc
      refine lv_tableIn (tgt := 159) hx hb dX9_number_1 (by omega) (by omega) (by rw [hc]; rfl) (by decide) ?_
      refine lv_iload_n hx hb dX9_number_159 rfl (lv_at hl 0 rfl) ?_
      refine lv_if_ne (tgt := 168) hx hb dX9_number_160 (by decide) (fun hc => ?_) (fun hc => ?_)
      · have hw := hw.1 hc
        refine lv_iload_n hx hb dX9_number_168 rfl (lv_at hl 0 rfl) ?_
        refine lv_iconst (v := 1) hx hb dX9_number_169 (by decide) ?_
        refine lv_icmp_ne (tgt := 177) hx hb dX9_number_170 (by decide) (fun hc => ?_) (fun hc => ?_)
        · have hw := hw.1 hc
          refine lv_iconst (v := 3) hx hb dX9_number_177 (by decide) ?_
          exact e_i C hr rfl P hw (by omega) (by omega) dX9_number_178
        · have hw := hw.2 hc
          refine lv_iconst (v := 4) hx hb dX9_number_173 (by decide) ?_
          refine lv_goto (tgt := 178) hx hb dX9_number_174 (by decide) ?_
          exact e_i C hr rfl P hw (by omega) (by omega) dX9_number_178
      · have hw := hw.2 hc
        refine lv_bipush (v := 6) hx hb dX9_number_163 (by decide) ?_
        refine lv_goto (tgt := 178) hx hb dX9_number_165 (by decide) ?_
        exact e_i C hr rfl P hw (by omega) (by omega) dX9_number_178
    · have hw := hw.2.2.2.2.2.2.1 hc
      refine lv_tableIn (tgt := 179) hx hb dX9_number_1 (by omega) (by omega) (by rw [hc]; rfl) (by decide) ?_
      refine lv_iload_n hx hb dX9_number_179 rfl (lv_at hl 0 rfl) ?_
      refine lv_if_ne (tgt := 188) hx hb dX9_number_180 (by decide) (fun hc => ?_) (fun hc => ?_)
      · have hw := hw.1 hc
        refine lv_iload_n hx hb dX9_number_188 rfl (lv_at hl 0 rfl) ?_
        refine lv_iconst (v := 1) hx hb dX9_number_189 (by decide) ?_
        refine lv_icmp_ne (tgt := 197) hx hb dX9_number_190 (by decide) (fun hc => ?_) (fun hc => ?_)
        · have hw := hw.1 hc
          refine lv_iload_n hx hb dX9_number_197 rfl (lv_at hl 0 rfl) ?_
          refine lv_iconst (v := 2) hx hb dX9_number_198 (by decide) ?_
          refine lv_icmp_ne (tgt := 206) hx hb dX9_number_199 (by decide) (fun hc => ?_) (fun hc => ?_)
          · have hw := hw.1 hc
            refine lv_bipush (v := 6) hx hb dX9_number_206 (by decide) ?_
            exact e_i C hr rfl P hw (by omega) (by omega) dX9_number_208
          · have hw := hw.2 hc
            refine lv_iconst (v := 2) hx hb dX9_number_202 (by decide) ?_
            refine lv_goto (tgt := 208) hx hb dX9_number_203 (by decide) ?_
            exact e_i C hr rfl P hw (by omega) (by omega) dX9_number_208
        · have hw := hw.2 hc
          refine lv_iconst (v := 5) hx hb dX9_number_193 (by decide) ?_
          refine lv_goto (tgt := 208) hx hb dX9_number_194 (by decide) ?_
          exact e_i C hr rfl P hw (by omega) (by omega) dX9_number_208
      · have hw := hw.2 hc
        refine lv_bipush (v := 8) hx hb dX9_number_183 (by decide) ?_
        refine lv_goto (tgt := 208) hx hb dX9_number_185 (by decide) ?_
        exact e_i C hr rfl P hw (by omega) (by omega) dX9_number_208
    · have hw := hw.2.2.2.2.2.2.2.1 hc
      refine lv_tableIn (tgt := 209) hx hb dX9_number_1 (by omega) (by omega) (by rw [hc]; rfl) (by decide) ?_
      refine lv_iload_n hx hb dX9_number_209 rfl (lv_at hl 0 rfl) ?_
      refine lv_if_ne (tgt := 217) hx hb dX9_number_210 (by decide) (fun hc => ?_) (fun hc => ?_)
      · have hw := hw.1 hc
        refine lv_iload_n hx hb dX9_number_217 rfl (lv_at hl 0 rfl) ?_
        refine lv_iconst (v := 1) hx hb dX9_number_218 (by decide) ?_
        refine lv_icmp_ne (tgt := 226) hx hb dX9_number_219 (by decide) (fun hc => ?_) (fun hc => ?_)
        · have hw := hw.1 hc
          refine lv_iload_n hx hb dX9_number_226 rfl (lv_at hl 0 rfl) ?_
          refine lv_iconst (v := 2) hx hb dX9_number_227 (by decide) ?_
          refine lv_icmp_ne (tgt := 235) hx hb dX9_number_228 (by decide) (fun hc => ?_) (fun hc => ?_)
          · have hw := hw.1 hc
            refine lv_iconst (v := 4) hx hb dX9_number_235 (by decide) ?_
            exact e_i C hr rfl P hw (by omega) (by omega) dX9_number_236
          · have hw := hw.2 hc
            refine lv_iconst (v := 5) hx hb dX9_number_231 (by decide) ?_
            refine lv_goto (tgt := 236) hx hb dX9_number_232 (by decide) ?_
            exact e_i C hr rfl P hw (by omega) (by omega) dX9_number_236
        · have hw := hw.2 hc
          refine lv_iconst (v := 3) hx hb dX9_number_222 (by decide) ?_
          refine lv_goto (tgt := 236) hx hb dX9_number_223 (by decide) ?_
          exact e_i C hr rfl P hw (by omega) (by omega) dX9_number_236
      · have hw := hw.2 hc
        refine lv_iconst (v := 2) hx hb dX9_number_213 (by decide) ?_
        refine lv_goto (tgt := 236) hx hb dX9_number_214 (by decide) ?_
        exact e_i C hr rfl P hw (by omega) (by omega) dX9_number_236
    · have hw := hw.2.2.2.2.2.2.2.2 hc
      refine lv_tableIn (tgt := 237) hx hb dX9_number_1 (by omega) (by omega) (by rw [hc]; rfl) (by decide) ?_
      refine lv_iload_n hx hb dX9_number_237 rfl (lv_at hl 0 rfl) ?_
      refine lv_if_ne (tgt := 246) hx hb dX9_number_238 (by decide) (fun hc => ?_) (fun hc => ?_)
      · have hw := hw.1 hc
        refine lv_iload_n hx hb dX9_number_246 rfl (lv_at hl 0 rfl) ?_
        refine lv_iconst (v := 1) hx hb dX9_number_247 (by decide) ?_
        refine lv_icmp_ne (tgt := 255) hx hb dX9_number_248 (by decide) (fun hc => ?_) (fun hc => ?_)
        · have hw := hw.1 hc
          refine lv_iload_n hx hb dX9_number_255 rfl (lv_at hl 0 rfl) ?_
          refine lv_iconst (v := 2) hx hb dX9_number_256 (by decide) ?_
          refine lv_icmp_ne (tgt := 264) hx hb dX9_number_257 (by decide) (fun hc => ?_) (fun hc => ?_)
          · have hw := hw.1 hc
            refine lv_iconst (v := 3) hx hb dX9_number_264 (by decide) ?_
            exact e_i C hr rfl P hw (by omega) (by omega) dX9_number_265
          · have hw := hw.2 hc
            refine lv_iconst (v := 4) hx hb dX9_number_260 (by decide) ?_
            refine lv_goto (tgt := 265) hx hb dX9_number_261 (by decide) ?_
            exact e_i C hr rfl P hw (by omega) (by omega) dX9_number_265
        · have hw := hw.2 hc
          refine lv_iconst (v := 5) hx hb dX9_number_251 (by decide) ?_
          refine lv_goto (tgt := 265) hx hb dX9_number_252 (by decide) ?_
          exact e_i C hr rfl P hw (by omega) (by omega) dX9_number_265
      · have hw := hw.2 hc
        refine lv_bipush (v := 6) hx hb dX9_number_241 (by decide) ?_
        refine lv_goto (tgt := 265) hx hb dX9_number_243 (by decide) ?_
        exact e_i C hr rfl P hw (by omega) (by omega) dX9_number_265
def wp_X9_number (Q : Int32 → MS → Prop) (QX : String → MS → Prop) (S : MS) (x1 : Int32) (x2 : Int32) : Prop := wX9_number_0 Q QX S x1 x2
set_option maxHeartbeats 4000000 in
set_option maxRecDepth 100000 in
theorem met_X9_number {l : Launch} (hst : l.stackTraces = false) (G : GP) (sz : Nat) (Q : Int32 → MS → Prop) (QX : String → MS → Prop) (S : MS) (x1 : Int32) (x2 : Int32) (hw : wp_X9_number Q QX S x1 x2) : vx_Met l yX9_number (.code yX9_number cX9_number 2 (some .int) :: GW) rmX9_number (va_Pc [.int x1, .int x2] (PR G S sz)) (QI G S (FA G S sz) Q) (XX G S (FA G S sz) QX) 0 0 (FA G S sz) := by
  refine st_m (by decide +kernel) hst (fun p e s m below meth c C hr hnm hex P => ?_)
  refine en_m (Nat.le_of_ble_eq_true rfl) (lv := [(0, .int x1), (1, .int x2)]) rfl (fun ls hl => ?_)
  have C : CF p l s m _ meth c "SkirmishGridModel" cX9_number 2 G (FA G S sz) := C
  exact tX9_number_0 C hr hex Q QX S x1 x2 P hl (by omega) (by omega) hw
theorem cd_X9_number : yX9_number.cls = RX9 ∧ yX9_number.cls ≠ "java/lang/invoke/MethodHandle" ∧ yX9_number.cls ≠ "java/lang/invoke/VarHandle" ∧ (parseMethodDescriptor yX9_number.desc).map (fun d => d.parameters.length) = some 2 := by decide +kernel
abbrev rmX9_of : Room := { frames := 0, cells := 0, slots := 0, locals := 0 }
def wX9_of_0 (Q : Int32 → MS → Prop) (QX : String → MS → Prop) (S : MS) (a0 : Nat) (x1 : Int32) (x2 : Int32) : Prop := (∃ a1, mR S a0 1 = some a1 ∧ (vp_in ((67 + (11 * x1)) + x2) (mN S a1) ∧ Q (mI S a1 (((67 + (11 * x1)) + x2) : Int32).toNatClampNeg) S))
set_option maxHeartbeats 4000000 in
set_option maxRecDepth 100000 in
theorem tX9_of_0 {p : Program} {l : Launch} {e : Env} {s : State} {m : MethodId} {args : Array Value} {below : List Frame} {meth : Method} {c : Code} {H : Heap} {locs : List Loc} {cells slots : Nat} {G : GP} {A : Nat → Prop} {S0 : MS} {ls : Array Slot} (C : CF p l s m args meth c "SkirmishGridModel" cX9_of 3 G A) (hr : meth.sig.returnType = (some .int)) (hex : ∀ x ∈ c.exceptionTable.toList, False) (Q : Int32 → MS → Prop) (QX : String → MS → Prop) (S : MS) (a0 : Nat) (x1 : Int32) (x2 : Int32) (p_a0 : pI S 9 a0) (P : PW G A s H locs S0 S) (hl : lv_has ls 3 [(0, .ref a0), (1, .int x1), (2, .int x2)]) (hcc : cells + 0 ≤ 0) (hss : slots + 0 ≤ 0) (hw : wX9_of_0 Q QX S a0 x1 x2) : W p l e rmX9_of s m args below meth c H locs cells slots (vx_MQ below (QI G S0 A Q) (XX G S0 A QX) args s 0 0 A) (F0 m 0 ls []) := by
  have hx := CF_x C
  have hb := CF_b C
  unfold wX9_of_0 at hw
  refine lv_aload_n hx hb dX9_of_0 rfl (lv_at hl 0 rfl) ?_
  obtain ⟨a1, e1, hw⟩ := hw
  have p_a1 : pI S 12 a1 := wf_r P.2.2.2.1 p_a0 e1
  refine gf_9_1 C P p_a0 e1 q_1306 dX9_of_1 ?_
  refine lv_bipush (v := 67) hx hb dX9_of_4 (by decide) ?_
  refine lv_bipush (v := 11) hx hb dX9_of_6 (by decide) ?_
  refine lv_iload_n hx hb dX9_of_8 rfl (lv_at hl 1 rfl) ?_
  refine lv_imul hx hb dX9_of_9 ?_
  refine lv_iadd hx hb dX9_of_10 ?_
  refine lv_iload_n hx hb dX9_of_11 rfl (lv_at hl 2 rfl) ?_
  refine lv_iadd hx hb dX9_of_12 ?_
  obtain ⟨h1, hw⟩ := hw
  refine ra_i C P p_a1 h1 dX9_of_13 ?_
  exact e_i C hr rfl P hw (by omega) (by omega) dX9_of_14
def wp_X9_of (Q : Int32 → MS → Prop) (QX : String → MS → Prop) (S : MS) (a0 : Nat) (x1 : Int32) (x2 : Int32) : Prop := wX9_of_0 Q QX S a0 x1 x2
set_option maxHeartbeats 4000000 in
set_option maxRecDepth 100000 in
theorem met_X9_of {l : Launch} (hst : l.stackTraces = false) (G : GP) (sz : Nat) (Q : Int32 → MS → Prop) (QX : String → MS → Prop) (S : MS) (a0 : Nat) (x1 : Int32) (x2 : Int32) (p_a0 : pI S 9 a0) (hw : wp_X9_of Q QX S a0 x1 x2) : vx_Met l yX9_of (.code yX9_of cX9_of 3 (some .int) :: GW) rmX9_of (va_Pc [.ref a0, .int x1, .int x2] (PR G S sz)) (QI G S (FA G S sz) Q) (XX G S (FA G S sz) QX) 0 0 (FA G S sz) := by
  refine st_m (by decide +kernel) hst (fun p e s m below meth c C hr hnm hex P => ?_)
  refine en_m (Nat.le_of_ble_eq_true rfl) (lv := [(0, .ref a0), (1, .int x1), (2, .int x2)]) rfl (fun ls hl => ?_)
  have C : CF p l s m _ meth c "SkirmishGridModel" cX9_of 3 G (FA G S sz) := C
  exact tX9_of_0 C hr hex Q QX S a0 x1 x2 p_a0 P hl (by omega) (by omega) hw
theorem cd_X9_of : yX9_of.cls = RX9 ∧ yX9_of.cls ≠ "java/lang/invoke/MethodHandle" ∧ yX9_of.cls ≠ "java/lang/invoke/VarHandle" ∧ (parseMethodDescriptor yX9_of.desc).map (fun d => d.parameters.length) = some 2 := by decide +kernel
abbrev rmX9_sets : Room := { frames := 0, cells := 0, slots := 0, locals := 0 }
def wX9_sets_0 (Q : MS → Prop) (QX : String → MS → Prop) (S : MS) (a0 : Nat) (x1 : Int32) (x2 : Int32) (x3 : Int32) : Prop := (∃ a1, mR S a0 1 = some a1 ∧ (vp_in ((67 + (11 * x1)) + x2) (mN S a1) ∧ (∀ S2, S2 = (sI S a1 (((67 + (11 * x1)) + x2) : Int32).toNatClampNeg x3) → Q S2)))
set_option maxHeartbeats 4000000 in
set_option maxRecDepth 100000 in
theorem tX9_sets_0 {p : Program} {l : Launch} {e : Env} {s : State} {m : MethodId} {args : Array Value} {below : List Frame} {meth : Method} {c : Code} {H : Heap} {locs : List Loc} {cells slots : Nat} {G : GP} {A : Nat → Prop} {S0 : MS} {ls : Array Slot} (C : CF p l s m args meth c "SkirmishGridModel" cX9_sets 4 G A) (hr : meth.sig.returnType = none) (hex : ∀ x ∈ c.exceptionTable.toList, False) (Q : MS → Prop) (QX : String → MS → Prop) (S : MS) (a0 : Nat) (x1 : Int32) (x2 : Int32) (x3 : Int32) (p_a0 : pI S 9 a0) (P : PW G A s H locs S0 S) (hl : lv_has ls 4 [(0, .ref a0), (1, .int x1), (2, .int x2), (3, .int x3)]) (hcc : cells + 0 ≤ 0) (hss : slots + 0 ≤ 0) (hw : wX9_sets_0 Q QX S a0 x1 x2 x3) : W p l e rmX9_sets s m args below meth c H locs cells slots (vx_MQ below (QV G S0 A Q) (XX G S0 A QX) args s 0 0 A) (F0 m 0 ls []) := by
  have hx := CF_x C
  have hb := CF_b C
  unfold wX9_sets_0 at hw
  refine lv_aload_n hx hb dX9_sets_0 rfl (lv_at hl 0 rfl) ?_
  obtain ⟨a1, e1, hw⟩ := hw
  have p_a1 : pI S 12 a1 := wf_r P.2.2.2.1 p_a0 e1
  refine gf_9_1 C P p_a0 e1 q_1306 dX9_sets_1 ?_
  refine lv_bipush (v := 67) hx hb dX9_sets_4 (by decide) ?_
  refine lv_bipush (v := 11) hx hb dX9_sets_6 (by decide) ?_
  refine lv_iload_n hx hb dX9_sets_8 rfl (lv_at hl 1 rfl) ?_
  refine lv_imul hx hb dX9_sets_9 ?_
  refine lv_iadd hx hb dX9_sets_10 ?_
  refine lv_iload_n hx hb dX9_sets_11 rfl (lv_at hl 2 rfl) ?_
  refine lv_iadd hx hb dX9_sets_12 ?_
  refine lv_iload_n hx hb dX9_sets_13 rfl (lv_at hl 3 rfl) ?_
  obtain ⟨h1, hw⟩ := hw
  refine rs_i C P p_a1 h1 dX9_sets_14 (fun H locs P => ?_)
  obtain ⟨S2, hS⟩ : ∃ z, z = (sI S a1 (((67 + (11 * x1)) + x2) : Int32).toNatClampNeg x3) := ⟨_, rfl⟩
  have P : PW G A s H locs S0 S2 := by rw [hS]; exact P
  have p_a1 : pI S2 12 a1 := by rw [hS]; exact pI_x ext_sI p_a1
  have hw := hw S2 hS
  exact e_v C hr P hw (by omega) (by omega) dX9_sets_15
def wp_X9_sets (Q : MS → Prop) (QX : String → MS → Prop) (S : MS) (a0 : Nat) (x1 : Int32) (x2 : Int32) (x3 : Int32) : Prop := wX9_sets_0 Q QX S a0 x1 x2 x3
set_option maxHeartbeats 4000000 in
set_option maxRecDepth 100000 in
theorem met_X9_sets {l : Launch} (hst : l.stackTraces = false) (G : GP) (sz : Nat) (Q : MS → Prop) (QX : String → MS → Prop) (S : MS) (a0 : Nat) (x1 : Int32) (x2 : Int32) (x3 : Int32) (p_a0 : pI S 9 a0) (hw : wp_X9_sets Q QX S a0 x1 x2 x3) : vx_Met l yX9_sets (.code yX9_sets cX9_sets 4 none :: GW) rmX9_sets (va_Pc [.ref a0, .int x1, .int x2, .int x3] (PR G S sz)) (QV G S (FA G S sz) Q) (XX G S (FA G S sz) QX) 0 0 (FA G S sz) := by
  refine st_m (by decide +kernel) hst (fun p e s m below meth c C hr hnm hex P => ?_)
  refine en_m (Nat.le_of_ble_eq_true rfl) (lv := [(0, .ref a0), (1, .int x1), (2, .int x2), (3, .int x3)]) rfl (fun ls hl => ?_)
  have C : CF p l s m _ meth c "SkirmishGridModel" cX9_sets 4 G (FA G S sz) := C
  exact tX9_sets_0 C hr hex Q QX S a0 x1 x2 x3 p_a0 P hl (by omega) (by omega) hw
theorem cd_X9_sets : yX9_sets.cls = RX9 ∧ yX9_sets.cls ≠ "java/lang/invoke/MethodHandle" ∧ yX9_sets.cls ≠ "java/lang/invoke/VarHandle" ∧ (parseMethodDescriptor yX9_sets.desc).map (fun d => d.parameters.length) = some 3 := by decide +kernel
abbrev rmX9_kindly : Room := { frames := 1, cells := 0, slots := 0, locals := 22 }
def wX9_kindly_0 (Q : Int32 → MS → Prop) (QX : String → MS → Prop) (S : MS) (a0 : Nat) (x1 : Int32) (x2 : Int32) : Prop := wp_X9_of (fun r2 S1 => wp_X9_number (fun r4 S3 => Q r4 S3) QX S1 r2 x2) QX S a0 x1 1
set_option maxHeartbeats 4000000 in
set_option maxRecDepth 100000 in
theorem tX9_kindly_0 {p : Program} {l : Launch} {e : Env} {s : State} {m : MethodId} {args : Array Value} {below : List Frame} {meth : Method} {c : Code} {H : Heap} {locs : List Loc} {cells slots : Nat} {G : GP} {A : Nat → Prop} {S0 : MS} {ls : Array Slot} (C : CF p l s m args meth c "SkirmishGridModel" cX9_kindly 3 G A) (hr : meth.sig.returnType = (some .int)) (hex : ∀ x ∈ c.exceptionTable.toList, False) (Q : Int32 → MS → Prop) (QX : String → MS → Prop) (S : MS) (a0 : Nat) (x1 : Int32) (x2 : Int32) (p_a0 : pI S 9 a0) (P : PW G A s H locs S0 S) (hl : lv_has ls 3 [(0, .ref a0), (1, .int x1), (2, .int x2)]) (hcc : cells + 0 ≤ 0) (hss : slots + 0 ≤ 0) (hw : wX9_kindly_0 Q QX S a0 x1 x2) : W p l e rmX9_kindly s m args below meth c H locs cells slots (vx_MQ below (QI G S0 A Q) (XX G S0 A QX) args s 0 0 A) (F0 m 0 ls []) := by
  have hx := CF_x C
  have hb := CF_b C
  unfold wX9_kindly_0 at hw
  refine lv_aload_n hx hb dX9_kindly_0 rfl (lv_at hl 0 rfl) ?_
  refine lv_iload_n hx hb dX9_kindly_1 rfl (lv_at hl 1 rfl) ?_
  refine lv_iconst (v := 1) hx hb dX9_kindly_2 (by decide) ?_
  refine cl_i C P (run_V C P hl.1 (kd := 9) (met_X9_of (CF_n C) G H.size _ _ S a0 x1 1 p_a0 hw) p_a0 (by decide) rfl q_1457 q_1459 q_p34 q_10 q_1460 cd_X9_of ⟨(Nat.le_of_ble_eq_true rfl), (Nat.le_of_ble_eq_true rfl)⟩ rfl rfl (As := [.int x1, .int 1]) (rest := []) rfl rfl (Nat.le_of_ble_eq_true rfl) dX9_kindly_3 ⟨by show cells + 0 ≤ 0; omega, by show slots + 0 ≤ 0; omega⟩) (kx_out C hex (fun _ _ _ h => h) (by omega) (by omega)) (fun r2 S1 H locs P hE hw => ?_)
  have p_a0 : pI S1 9 a0 := pI_x hE p_a0
  refine lv_iload_n hx hb dX9_kindly_6 rfl (lv_at hl 2 rfl) ?_
  refine cl_i C P (run_S C P hl.1 (met_X9_number (CF_n C) G H.size _ _ S1 r2 x2 hw) q_1469 q_1470 q_10 q_1471 cd_X9_number.2 ⟨(Nat.le_of_ble_eq_true rfl), (Nat.le_of_ble_eq_true rfl)⟩ rfl rfl (As := [.int r2, .int x2]) (rest := []) rfl rfl (Nat.le_of_ble_eq_true rfl) dX9_kindly_7 ⟨by show cells + 0 ≤ 0; omega, by show slots + 0 ≤ 0; omega⟩) (kx_out C hex (fun _ _ _ h => h) (by omega) (by omega)) (fun r4 S3 H locs P hE hw => ?_)
  exact e_i C hr rfl P hw (by omega) (by omega) dX9_kindly_10
def wp_X9_kindly (Q : Int32 → MS → Prop) (QX : String → MS → Prop) (S : MS) (a0 : Nat) (x1 : Int32) (x2 : Int32) : Prop := wX9_kindly_0 Q QX S a0 x1 x2
set_option maxHeartbeats 4000000 in
set_option maxRecDepth 100000 in
theorem met_X9_kindly {l : Launch} (hst : l.stackTraces = false) (G : GP) (sz : Nat) (Q : Int32 → MS → Prop) (QX : String → MS → Prop) (S : MS) (a0 : Nat) (x1 : Int32) (x2 : Int32) (p_a0 : pI S 9 a0) (hw : wp_X9_kindly Q QX S a0 x1 x2) : vx_Met l yX9_kindly (.code yX9_kindly cX9_kindly 3 (some .int) :: GW) rmX9_kindly (va_Pc [.ref a0, .int x1, .int x2] (PR G S sz)) (QI G S (FA G S sz) Q) (XX G S (FA G S sz) QX) 0 0 (FA G S sz) := by
  refine st_m (by decide +kernel) hst (fun p e s m below meth c C hr hnm hex P => ?_)
  refine en_m (Nat.le_of_ble_eq_true rfl) (lv := [(0, .ref a0), (1, .int x1), (2, .int x2)]) rfl (fun ls hl => ?_)
  have C : CF p l s m _ meth c "SkirmishGridModel" cX9_kindly 3 G (FA G S sz) := C
  exact tX9_kindly_0 C hr hex Q QX S a0 x1 x2 p_a0 P hl (by omega) (by omega) hw
theorem cd_X9_kindly : yX9_kindly.cls = RX9 ∧ yX9_kindly.cls ≠ "java/lang/invoke/MethodHandle" ∧ yX9_kindly.cls ≠ "java/lang/invoke/VarHandle" ∧ (parseMethodDescriptor yX9_kindly.desc).map (fun d => d.parameters.length) = some 2 := by decide +kernel
abbrev rmX9_lives : Room := { frames := 1, cells := 0, slots := 0, locals := 22 }
def wX9_lives_0 (Q : Int32 → MS → Prop) (QX : String → MS → Prop) (S : MS) (a0 : Nat) (x1 : Int32) : Prop := wp_X9_of (fun r2 S1 => ((r2 ≤ 0 → Q 0 S1) ∧ (¬ r2 ≤ 0 → Q 1 S1))) QX S a0 x1 3
set_option maxHeartbeats 4000000 in
set_option maxRecDepth 100000 in
theorem tX9_lives_0 {p : Program} {l : Launch} {e : Env} {s : State} {m : MethodId} {args : Array Value} {below : List Frame} {meth : Method} {c : Code} {H : Heap} {locs : List Loc} {cells slots : Nat} {G : GP} {A : Nat → Prop} {S0 : MS} {ls : Array Slot} (C : CF p l s m args meth c "SkirmishGridModel" cX9_lives 2 G A) (hr : meth.sig.returnType = (some .boolean)) (hex : ∀ x ∈ c.exceptionTable.toList, False) (Q : Int32 → MS → Prop) (QX : String → MS → Prop) (S : MS) (a0 : Nat) (x1 : Int32) (p_a0 : pI S 9 a0) (P : PW G A s H locs S0 S) (hl : lv_has ls 2 [(0, .ref a0), (1, .int x1)]) (hcc : cells + 0 ≤ 0) (hss : slots + 0 ≤ 0) (hw : wX9_lives_0 Q QX S a0 x1) : W p l e rmX9_lives s m args below meth c H locs cells slots (vx_MQ below (QI G S0 A Q) (XX G S0 A QX) args s 0 0 A) (F0 m 0 ls []) := by
  have hx := CF_x C
  have hb := CF_b C
  unfold wX9_lives_0 at hw
  refine lv_aload_n hx hb dX9_lives_0 rfl (lv_at hl 0 rfl) ?_
  refine lv_iload_n hx hb dX9_lives_1 rfl (lv_at hl 1 rfl) ?_
  refine lv_iconst (v := 3) hx hb dX9_lives_2 (by decide) ?_
  refine cl_i C P (run_V C P hl.1 (kd := 9) (met_X9_of (CF_n C) G H.size _ _ S a0 x1 3 p_a0 hw) p_a0 (by decide) rfl q_1457 q_1459 q_p34 q_10 q_1460 cd_X9_of ⟨(Nat.le_of_ble_eq_true rfl), (Nat.le_of_ble_eq_true rfl)⟩ rfl rfl (As := [.int x1, .int 3]) (rest := []) rfl rfl (Nat.le_of_ble_eq_true rfl) dX9_lives_3 ⟨by show cells + 0 ≤ 0; omega, by show slots + 0 ≤ 0; omega⟩) (kx_out C hex (fun _ _ _ h => h) (by omega) (by omega)) (fun r2 S1 H locs P hE hw => ?_)
  have p_a0 : pI S1 9 a0 := pI_x hE p_a0
  refine lv_if_le (tgt := 13) hx hb dX9_lives_6 (by decide) (fun hc => ?_) (fun hc => ?_)
  · have hw := hw.1 hc
    refine lv_iconst (v := 0) hx hb dX9_lives_13 (by decide) ?_
    exact e_i C hr (by decide +kernel) P hw (by omega) (by omega) dX9_lives_14
  · have hw := hw.2 hc
    refine lv_iconst (v := 1) hx hb dX9_lives_9 (by decide) ?_
    refine lv_goto (tgt := 14) hx hb dX9_lives_10 (by decide) ?_
    exact e_i C hr (by decide +kernel) P hw (by omega) (by omega) dX9_lives_14
def wp_X9_lives (Q : Int32 → MS → Prop) (QX : String → MS → Prop) (S : MS) (a0 : Nat) (x1 : Int32) : Prop := wX9_lives_0 Q QX S a0 x1
set_option maxHeartbeats 4000000 in
set_option maxRecDepth 100000 in
theorem met_X9_lives {l : Launch} (hst : l.stackTraces = false) (G : GP) (sz : Nat) (Q : Int32 → MS → Prop) (QX : String → MS → Prop) (S : MS) (a0 : Nat) (x1 : Int32) (p_a0 : pI S 9 a0) (hw : wp_X9_lives Q QX S a0 x1) : vx_Met l yX9_lives (.code yX9_lives cX9_lives 2 (some .boolean) :: GW) rmX9_lives (va_Pc [.ref a0, .int x1] (PR G S sz)) (QI G S (FA G S sz) Q) (XX G S (FA G S sz) QX) 0 0 (FA G S sz) := by
  refine st_m (by decide +kernel) hst (fun p e s m below meth c C hr hnm hex P => ?_)
  refine en_m (Nat.le_of_ble_eq_true rfl) (lv := [(0, .ref a0), (1, .int x1)]) rfl (fun ls hl => ?_)
  have C : CF p l s m _ meth c "SkirmishGridModel" cX9_lives 2 G (FA G S sz) := C
  exact tX9_lives_0 C hr hex Q QX S a0 x1 p_a0 P hl (by omega) (by omega) hw
theorem cd_X9_lives : yX9_lives.cls = RX9 ∧ yX9_lives.cls ≠ "java/lang/invoke/MethodHandle" ∧ yX9_lives.cls ≠ "java/lang/invoke/VarHandle" ∧ (parseMethodDescriptor yX9_lives.desc).map (fun d => d.parameters.length) = some 1 := by decide +kernel
abbrev rmX9_isUnit : Room := { frames := 1, cells := 0, slots := 0, locals := 22 }
def wX9_isUnit_0 (Q : Int32 → MS → Prop) (QX : String → MS → Prop) (S : MS) (a0 : Nat) (x1 : Int32) : Prop := (∃ a1, mR S a0 1 = some a1 ∧ (vp_in 66 (mN S a1) ∧ wp_X9_isIn (fun r3 S2 => (isZ r3 ∧ Q r3 S2)) QX S x1 0 ((mI S a1 (66 : Int32).toNatClampNeg) - 1)))
set_option maxHeartbeats 4000000 in
set_option maxRecDepth 100000 in
theorem tX9_isUnit_0 {p : Program} {l : Launch} {e : Env} {s : State} {m : MethodId} {args : Array Value} {below : List Frame} {meth : Method} {c : Code} {H : Heap} {locs : List Loc} {cells slots : Nat} {G : GP} {A : Nat → Prop} {S0 : MS} {ls : Array Slot} (C : CF p l s m args meth c "SkirmishGridModel" cX9_isUnit 2 G A) (hr : meth.sig.returnType = (some .boolean)) (hex : ∀ x ∈ c.exceptionTable.toList, False) (Q : Int32 → MS → Prop) (QX : String → MS → Prop) (S : MS) (a0 : Nat) (x1 : Int32) (p_a0 : pI S 9 a0) (P : PW G A s H locs S0 S) (hl : lv_has ls 2 [(0, .ref a0), (1, .int x1)]) (hcc : cells + 0 ≤ 0) (hss : slots + 0 ≤ 0) (hw : wX9_isUnit_0 Q QX S a0 x1) : W p l e rmX9_isUnit s m args below meth c H locs cells slots (vx_MQ below (QI G S0 A Q) (XX G S0 A QX) args s 0 0 A) (F0 m 0 ls []) := by
  have hx := CF_x C
  have hb := CF_b C
  unfold wX9_isUnit_0 at hw
  refine lv_iload_n hx hb dX9_isUnit_0 rfl (lv_at hl 1 rfl) ?_
  refine lv_iconst (v := 0) hx hb dX9_isUnit_1 (by decide) ?_
  refine lv_aload_n hx hb dX9_isUnit_2 rfl (lv_at hl 0 rfl) ?_
  obtain ⟨a1, e1, hw⟩ := hw
  have p_a1 : pI S 12 a1 := wf_r P.2.2.2.1 p_a0 e1
  refine gf_9_1 C P p_a0 e1 q_1306 dX9_isUnit_3 ?_
  refine lv_bipush (v := 66) hx hb dX9_isUnit_6 (by decide) ?_
  obtain ⟨h1, hw⟩ := hw
  refine ra_i C P p_a1 h1 dX9_isUnit_8 ?_
  refine lv_iconst (v := 1) hx hb dX9_isUnit_9 (by decide) ?_
  refine lv_isub hx hb dX9_isUnit_10 ?_
  refine cl_i C P (run_S C P hl.1 (met_X9_isIn (CF_n C) G H.size _ _ S x1 0 ((mI S a1 (66 : Int32).toNatClampNeg) - 1) hw) q_1383 q_1384 q_10 q_1385 cd_X9_isIn.2 ⟨(Nat.le_of_ble_eq_true rfl), (Nat.le_of_ble_eq_true rfl)⟩ rfl rfl (As := [.int x1, .int 0, .int ((mI S a1 (66 : Int32).toNatClampNeg) - 1)]) (rest := []) rfl rfl (Nat.le_of_ble_eq_true rfl) dX9_isUnit_11 ⟨by show cells + 0 ≤ 0; omega, by show slots + 0 ≤ 0; omega⟩) (kx_out C hex (fun _ _ _ h => h) (by omega) (by omega)) (fun r3 S2 H locs P hE hw => ?_)
  obtain ⟨h1, hw⟩ := hw
  exact e_i C hr (nz h1) P hw (by omega) (by omega) dX9_isUnit_14
def wp_X9_isUnit (Q : Int32 → MS → Prop) (QX : String → MS → Prop) (S : MS) (a0 : Nat) (x1 : Int32) : Prop := wX9_isUnit_0 Q QX S a0 x1
set_option maxHeartbeats 4000000 in
set_option maxRecDepth 100000 in
theorem met_X9_isUnit {l : Launch} (hst : l.stackTraces = false) (G : GP) (sz : Nat) (Q : Int32 → MS → Prop) (QX : String → MS → Prop) (S : MS) (a0 : Nat) (x1 : Int32) (p_a0 : pI S 9 a0) (hw : wp_X9_isUnit Q QX S a0 x1) : vx_Met l yX9_isUnit (.code yX9_isUnit cX9_isUnit 2 (some .boolean) :: GW) rmX9_isUnit (va_Pc [.ref a0, .int x1] (PR G S sz)) (QI G S (FA G S sz) Q) (XX G S (FA G S sz) QX) 0 0 (FA G S sz) := by
  refine st_m (by decide +kernel) hst (fun p e s m below meth c C hr hnm hex P => ?_)
  refine en_m (Nat.le_of_ble_eq_true rfl) (lv := [(0, .ref a0), (1, .int x1)]) rfl (fun ls hl => ?_)
  have C : CF p l s m _ meth c "SkirmishGridModel" cX9_isUnit 2 G (FA G S sz) := C
  exact tX9_isUnit_0 C hr hex Q QX S a0 x1 p_a0 P hl (by omega) (by omega) hw
theorem cd_X9_isUnit : yX9_isUnit.cls = RX9 ∧ yX9_isUnit.cls ≠ "java/lang/invoke/MethodHandle" ∧ yX9_isUnit.cls ≠ "java/lang/invoke/VarHandle" ∧ (parseMethodDescriptor yX9_isUnit.desc).map (fun d => d.parameters.length) = some 1 := by decide +kernel
abbrev rmX9_isCell : Room := { frames := 1, cells := 0, slots := 0, locals := 22 }
def wX9_isCell_0 (Q : Int32 → MS → Prop) (QX : String → MS → Prop) (S : MS) (a0 : Nat) (x1 : Int32) : Prop := (∃ a1, mR S a0 1 = some a1 ∧ (vp_in 0 (mN S a1) ∧ (∃ a2, mR S a0 1 = some a2 ∧ (vp_in 1 (mN S a2) ∧ wp_X9_isIn (fun r4 S3 => (isZ r4 ∧ Q r4 S3)) QX S x1 0 (((mI S a1 (0 : Int32).toNatClampNeg) * (mI S a2 (1 : Int32).toNatClampNeg)) - 1)))))
set_option maxHeartbeats 4000000 in
set_option maxRecDepth 100000 in
theorem tX9_isCell_0 {p : Program} {l : Launch} {e : Env} {s : State} {m : MethodId} {args : Array Value} {below : List Frame} {meth : Method} {c : Code} {H : Heap} {locs : List Loc} {cells slots : Nat} {G : GP} {A : Nat → Prop} {S0 : MS} {ls : Array Slot} (C : CF p l s m args meth c "SkirmishGridModel" cX9_isCell 2 G A) (hr : meth.sig.returnType = (some .boolean)) (hex : ∀ x ∈ c.exceptionTable.toList, False) (Q : Int32 → MS → Prop) (QX : String → MS → Prop) (S : MS) (a0 : Nat) (x1 : Int32) (p_a0 : pI S 9 a0) (P : PW G A s H locs S0 S) (hl : lv_has ls 2 [(0, .ref a0), (1, .int x1)]) (hcc : cells + 0 ≤ 0) (hss : slots + 0 ≤ 0) (hw : wX9_isCell_0 Q QX S a0 x1) : W p l e rmX9_isCell s m args below meth c H locs cells slots (vx_MQ below (QI G S0 A Q) (XX G S0 A QX) args s 0 0 A) (F0 m 0 ls []) := by
  have hx := CF_x C
  have hb := CF_b C
  unfold wX9_isCell_0 at hw
  refine lv_iload_n hx hb dX9_isCell_0 rfl (lv_at hl 1 rfl) ?_
  refine lv_iconst (v := 0) hx hb dX9_isCell_1 (by decide) ?_
  refine lv_aload_n hx hb dX9_isCell_2 rfl (lv_at hl 0 rfl) ?_
  obtain ⟨a1, e1, hw⟩ := hw
  have p_a1 : pI S 12 a1 := wf_r P.2.2.2.1 p_a0 e1
  refine gf_9_1 C P p_a0 e1 q_1306 dX9_isCell_3 ?_
  refine lv_iconst (v := 0) hx hb dX9_isCell_6 (by decide) ?_
  obtain ⟨h1, hw⟩ := hw
  refine ra_i C P p_a1 h1 dX9_isCell_7 ?_
  refine lv_aload_n hx hb dX9_isCell_8 rfl (lv_at hl 0 rfl) ?_
  obtain ⟨a2, e1, hw⟩ := hw
  have p_a2 : pI S 12 a2 := wf_r P.2.2.2.1 p_a0 e1
  refine gf_9_1 C P p_a0 e1 q_1306 dX9_isCell_9 ?_
  refine lv_iconst (v := 1) hx hb dX9_isCell_12 (by decide) ?_
  obtain ⟨h1, hw⟩ := hw
  refine ra_i C P p_a2 h1 dX9_isCell_13 ?_
  refine lv_imul hx hb dX9_isCell_14 ?_
  refine lv_iconst (v := 1) hx hb dX9_isCell_15 (by decide) ?_
  refine lv_isub hx hb dX9_isCell_16 ?_
  refine cl_i C P (run_S C P hl.1 (met_X9_isIn (CF_n C) G H.size _ _ S x1 0 (((mI S a1 (0 : Int32).toNatClampNeg) * (mI S a2 (1 : Int32).toNatClampNeg)) - 1) hw) q_1383 q_1384 q_10 q_1385 cd_X9_isIn.2 ⟨(Nat.le_of_ble_eq_true rfl), (Nat.le_of_ble_eq_true rfl)⟩ rfl rfl (As := [.int x1, .int 0, .int (((mI S a1 (0 : Int32).toNatClampNeg) * (mI S a2 (1 : Int32).toNatClampNeg)) - 1)]) (rest := []) rfl rfl (Nat.le_of_ble_eq_true rfl) dX9_isCell_17 ⟨by show cells + 0 ≤ 0; omega, by show slots + 0 ≤ 0; omega⟩) (kx_out C hex (fun _ _ _ h => h) (by omega) (by omega)) (fun r4 S3 H locs P hE hw => ?_)
  obtain ⟨h1, hw⟩ := hw
  exact e_i C hr (nz h1) P hw (by omega) (by omega) dX9_isCell_20
def wp_X9_isCell (Q : Int32 → MS → Prop) (QX : String → MS → Prop) (S : MS) (a0 : Nat) (x1 : Int32) : Prop := wX9_isCell_0 Q QX S a0 x1
set_option maxHeartbeats 4000000 in
set_option maxRecDepth 100000 in
theorem met_X9_isCell {l : Launch} (hst : l.stackTraces = false) (G : GP) (sz : Nat) (Q : Int32 → MS → Prop) (QX : String → MS → Prop) (S : MS) (a0 : Nat) (x1 : Int32) (p_a0 : pI S 9 a0) (hw : wp_X9_isCell Q QX S a0 x1) : vx_Met l yX9_isCell (.code yX9_isCell cX9_isCell 2 (some .boolean) :: GW) rmX9_isCell (va_Pc [.ref a0, .int x1] (PR G S sz)) (QI G S (FA G S sz) Q) (XX G S (FA G S sz) QX) 0 0 (FA G S sz) := by
  refine st_m (by decide +kernel) hst (fun p e s m below meth c C hr hnm hex P => ?_)
  refine en_m (Nat.le_of_ble_eq_true rfl) (lv := [(0, .ref a0), (1, .int x1)]) rfl (fun ls hl => ?_)
  have C : CF p l s m _ meth c "SkirmishGridModel" cX9_isCell 2 G (FA G S sz) := C
  exact tX9_isCell_0 C hr hex Q QX S a0 x1 p_a0 P hl (by omega) (by omega) hw
theorem cd_X9_isCell : yX9_isCell.cls = RX9 ∧ yX9_isCell.cls ≠ "java/lang/invoke/MethodHandle" ∧ yX9_isCell.cls ≠ "java/lang/invoke/VarHandle" ∧ (parseMethodDescriptor yX9_isCell.desc).map (fun d => d.parameters.length) = some 1 := by decide +kernel
abbrev rmX9_row : Room := { frames := 0, cells := 0, slots := 0, locals := 0 }
def wX9_row_0 (Q : Int32 → MS → Prop) (QX : String → MS → Prop) (S : MS) (a0 : Nat) (x1 : Int32) : Prop := (∃ a1, mR S a0 1 = some a1 ∧ (vp_in 1 (mN S a1) ∧ (¬ (mI S a1 (1 : Int32).toNatClampNeg) = 0 ∧ Q (x1 / (mI S a1 (1 : Int32).toNatClampNeg)) S)))
set_option maxHeartbeats 4000000 in
set_option maxRecDepth 100000 in
theorem tX9_row_0 {p : Program} {l : Launch} {e : Env} {s : State} {m : MethodId} {args : Array Value} {below : List Frame} {meth : Method} {c : Code} {H : Heap} {locs : List Loc} {cells slots : Nat} {G : GP} {A : Nat → Prop} {S0 : MS} {ls : Array Slot} (C : CF p l s m args meth c "SkirmishGridModel" cX9_row 2 G A) (hr : meth.sig.returnType = (some .int)) (hex : ∀ x ∈ c.exceptionTable.toList, False) (Q : Int32 → MS → Prop) (QX : String → MS → Prop) (S : MS) (a0 : Nat) (x1 : Int32) (p_a0 : pI S 9 a0) (P : PW G A s H locs S0 S) (hl : lv_has ls 2 [(0, .ref a0), (1, .int x1)]) (hcc : cells + 0 ≤ 0) (hss : slots + 0 ≤ 0) (hw : wX9_row_0 Q QX S a0 x1) : W p l e rmX9_row s m args below meth c H locs cells slots (vx_MQ below (QI G S0 A Q) (XX G S0 A QX) args s 0 0 A) (F0 m 0 ls []) := by
  have hx := CF_x C
  have hb := CF_b C
  unfold wX9_row_0 at hw
  refine lv_iload_n hx hb dX9_row_0 rfl (lv_at hl 1 rfl) ?_
  refine lv_aload_n hx hb dX9_row_1 rfl (lv_at hl 0 rfl) ?_
  obtain ⟨a1, e1, hw⟩ := hw
  have p_a1 : pI S 12 a1 := wf_r P.2.2.2.1 p_a0 e1
  refine gf_9_1 C P p_a0 e1 q_1306 dX9_row_2 ?_
  refine lv_iconst (v := 1) hx hb dX9_row_5 (by decide) ?_
  obtain ⟨h1, hw⟩ := hw
  refine ra_i C P p_a1 h1 dX9_row_6 ?_
  obtain ⟨h1, hw⟩ := hw
  refine lv_idiv hx hb dX9_row_7 h1 ?_
  exact e_i C hr rfl P hw (by omega) (by omega) dX9_row_8
def wp_X9_row (Q : Int32 → MS → Prop) (QX : String → MS → Prop) (S : MS) (a0 : Nat) (x1 : Int32) : Prop := wX9_row_0 Q QX S a0 x1
set_option maxHeartbeats 4000000 in
set_option maxRecDepth 100000 in
theorem met_X9_row {l : Launch} (hst : l.stackTraces = false) (G : GP) (sz : Nat) (Q : Int32 → MS → Prop) (QX : String → MS → Prop) (S : MS) (a0 : Nat) (x1 : Int32) (p_a0 : pI S 9 a0) (hw : wp_X9_row Q QX S a0 x1) : vx_Met l yX9_row (.code yX9_row cX9_row 2 (some .int) :: GW) rmX9_row (va_Pc [.ref a0, .int x1] (PR G S sz)) (QI G S (FA G S sz) Q) (XX G S (FA G S sz) QX) 0 0 (FA G S sz) := by
  refine st_m (by decide +kernel) hst (fun p e s m below meth c C hr hnm hex P => ?_)
  refine en_m (Nat.le_of_ble_eq_true rfl) (lv := [(0, .ref a0), (1, .int x1)]) rfl (fun ls hl => ?_)
  have C : CF p l s m _ meth c "SkirmishGridModel" cX9_row 2 G (FA G S sz) := C
  exact tX9_row_0 C hr hex Q QX S a0 x1 p_a0 P hl (by omega) (by omega) hw
theorem cd_X9_row : yX9_row.cls = RX9 ∧ yX9_row.cls ≠ "java/lang/invoke/MethodHandle" ∧ yX9_row.cls ≠ "java/lang/invoke/VarHandle" ∧ (parseMethodDescriptor yX9_row.desc).map (fun d => d.parameters.length) = some 1 := by decide +kernel
abbrev rmX9_column : Room := { frames := 0, cells := 0, slots := 0, locals := 0 }
def wX9_column_0 (Q : Int32 → MS → Prop) (QX : String → MS → Prop) (S : MS) (a0 : Nat) (x1 : Int32) : Prop := (∃ a1, mR S a0 1 = some a1 ∧ (vp_in 1 (mN S a1) ∧ (¬ (mI S a1 (1 : Int32).toNatClampNeg) = 0 ∧ Q (x1 - x1 / (mI S a1 (1 : Int32).toNatClampNeg) * (mI S a1 (1 : Int32).toNatClampNeg)) S)))
set_option maxHeartbeats 4000000 in
set_option maxRecDepth 100000 in
theorem tX9_column_0 {p : Program} {l : Launch} {e : Env} {s : State} {m : MethodId} {args : Array Value} {below : List Frame} {meth : Method} {c : Code} {H : Heap} {locs : List Loc} {cells slots : Nat} {G : GP} {A : Nat → Prop} {S0 : MS} {ls : Array Slot} (C : CF p l s m args meth c "SkirmishGridModel" cX9_column 2 G A) (hr : meth.sig.returnType = (some .int)) (hex : ∀ x ∈ c.exceptionTable.toList, False) (Q : Int32 → MS → Prop) (QX : String → MS → Prop) (S : MS) (a0 : Nat) (x1 : Int32) (p_a0 : pI S 9 a0) (P : PW G A s H locs S0 S) (hl : lv_has ls 2 [(0, .ref a0), (1, .int x1)]) (hcc : cells + 0 ≤ 0) (hss : slots + 0 ≤ 0) (hw : wX9_column_0 Q QX S a0 x1) : W p l e rmX9_column s m args below meth c H locs cells slots (vx_MQ below (QI G S0 A Q) (XX G S0 A QX) args s 0 0 A) (F0 m 0 ls []) := by
  have hx := CF_x C
  have hb := CF_b C
  unfold wX9_column_0 at hw
  refine lv_iload_n hx hb dX9_column_0 rfl (lv_at hl 1 rfl) ?_
  refine lv_aload_n hx hb dX9_column_1 rfl (lv_at hl 0 rfl) ?_
  obtain ⟨a1, e1, hw⟩ := hw
  have p_a1 : pI S 12 a1 := wf_r P.2.2.2.1 p_a0 e1
  refine gf_9_1 C P p_a0 e1 q_1306 dX9_column_2 ?_
  refine lv_iconst (v := 1) hx hb dX9_column_5 (by decide) ?_
  obtain ⟨h1, hw⟩ := hw
  refine ra_i C P p_a1 h1 dX9_column_6 ?_
  obtain ⟨h1, hw⟩ := hw
  refine lv_irem hx hb dX9_column_7 h1 ?_
  exact e_i C hr rfl P hw (by omega) (by omega) dX9_column_8
def wp_X9_column (Q : Int32 → MS → Prop) (QX : String → MS → Prop) (S : MS) (a0 : Nat) (x1 : Int32) : Prop := wX9_column_0 Q QX S a0 x1
set_option maxHeartbeats 4000000 in
set_option maxRecDepth 100000 in
theorem met_X9_column {l : Launch} (hst : l.stackTraces = false) (G : GP) (sz : Nat) (Q : Int32 → MS → Prop) (QX : String → MS → Prop) (S : MS) (a0 : Nat) (x1 : Int32) (p_a0 : pI S 9 a0) (hw : wp_X9_column Q QX S a0 x1) : vx_Met l yX9_column (.code yX9_column cX9_column 2 (some .int) :: GW) rmX9_column (va_Pc [.ref a0, .int x1] (PR G S sz)) (QI G S (FA G S sz) Q) (XX G S (FA G S sz) QX) 0 0 (FA G S sz) := by
  refine st_m (by decide +kernel) hst (fun p e s m below meth c C hr hnm hex P => ?_)
  refine en_m (Nat.le_of_ble_eq_true rfl) (lv := [(0, .ref a0), (1, .int x1)]) rfl (fun ls hl => ?_)
  have C : CF p l s m _ meth c "SkirmishGridModel" cX9_column 2 G (FA G S sz) := C
  exact tX9_column_0 C hr hex Q QX S a0 x1 p_a0 P hl (by omega) (by omega) hw
theorem cd_X9_column : yX9_column.cls = RX9 ∧ yX9_column.cls ≠ "java/lang/invoke/MethodHandle" ∧ yX9_column.cls ≠ "java/lang/invoke/VarHandle" ∧ (parseMethodDescriptor yX9_column.desc).map (fun d => d.parameters.length) = some 1 := by decide +kernel
abbrev rmX9_apart : Room := { frames := 1, cells := 0, slots := 0, locals := 21 }
def wX9_apart_77 (Q : Int32 → MS → Prop) (QX : String → MS → Prop) (S : MS) (y3 : Int32) (z0 : Int32) : Prop := ((y3 ≤ z0 → Q z0 S) ∧ (¬ y3 ≤ z0 → Q y3 S))
set_option maxHeartbeats 4000000 in
set_option maxRecDepth 100000 in
theorem tX9_apart_77 {p : Program} {l : Launch} {e : Env} {s : State} {m : MethodId} {args : Array Value} {below : List Frame} {meth : Method} {c : Code} {H : Heap} {locs : List Loc} {cells slots : Nat} {G : GP} {A : Nat → Prop} {S0 : MS} {ls : Array Slot} (C : CF p l s m args meth c "SkirmishGridModel" cX9_apart 5 G A) (hr : meth.sig.returnType = (some .int)) (hex : ∀ x ∈ c.exceptionTable.toList, False) (Q : Int32 → MS → Prop) (QX : String → MS → Prop) (S : MS) (y3 : Int32) (z0 : Int32) (P : PW G A s H locs S0 S) (hl : lv_has ls 5 [(3, .int y3)]) (hcc : cells + 0 ≤ 0) (hss : slots + 0 ≤ 0) (hw : wX9_apart_77 Q QX S y3 z0) : W p l e rmX9_apart s m args below meth c H locs cells slots (vx_MQ below (QI G S0 A Q) (XX G S0 A QX) args s 0 0 A) (F0 m 77 ls [.int z0]) := by
  have hx := CF_x C
  have hb := CF_b C
  unfold wX9_apart_77 at hw
  refine lv_istore (lv' := [(4, .int z0), (3, .int y3)]) hx hb dX9_apart_77 hl (by decide) rfl (fun ls hl => ?_)
  refine lv_iload_n hx hb dX9_apart_79 rfl (lv_at hl 1 rfl) ?_
  refine lv_iload hx hb dX9_apart_80 (lv_at hl 0 rfl) ?_
  refine lv_icmp_le (tgt := 89) hx hb dX9_apart_82 (by decide) (fun hc => ?_) (fun hc => ?_)
  · have hw := hw.1 hc
    refine lv_iload hx hb dX9_apart_89 (lv_at hl 0 rfl) ?_
    exact e_i C hr rfl P hw (by omega) (by omega) dX9_apart_91
  · have hw := hw.2 hc
    refine lv_iload_n hx hb dX9_apart_85 rfl (lv_at hl 1 rfl) ?_
    refine lv_goto (tgt := 91) hx hb dX9_apart_86 (by decide) ?_
    exact e_i C hr rfl P hw (by omega) (by omega) dX9_apart_91
def wX9_apart_38 (Q : Int32 → MS → Prop) (QX : String → MS → Prop) (S : MS) (a0 : Nat) (y1 : Int32) (y2 : Int32) (z0 : Int32) : Prop := wp_X9_column (fun r2 S1 => wp_X9_column (fun r4 S3 => ((r2 ≤ r4 → wp_X9_column (fun r6 S5 => wp_X9_column (fun r8 S7 => wX9_apart_77 Q QX S7 z0 (r6 - r8)) QX S5 a0 y1) QX S3 a0 y2) ∧ (¬ r2 ≤ r4 → wp_X9_column (fun r10 S9 => wp_X9_column (fun r12 S11 => wX9_apart_77 Q QX S11 z0 (r10 - r12)) QX S9 a0 y2) QX S3 a0 y1))) QX S1 a0 y2) QX S a0 y1
set_option maxHeartbeats 4000000 in
set_option maxRecDepth 100000 in
theorem tX9_apart_38 {p : Program} {l : Launch} {e : Env} {s : State} {m : MethodId} {args : Array Value} {below : List Frame} {meth : Method} {c : Code} {H : Heap} {locs : List Loc} {cells slots : Nat} {G : GP} {A : Nat → Prop} {S0 : MS} {ls : Array Slot} (C : CF p l s m args meth c "SkirmishGridModel" cX9_apart 5 G A) (hr : meth.sig.returnType = (some .int)) (hex : ∀ x ∈ c.exceptionTable.toList, False) (Q : Int32 → MS → Prop) (QX : String → MS → Prop) (S : MS) (a0 : Nat) (y1 : Int32) (y2 : Int32) (z0 : Int32) (p_a0 : pI S 9 a0) (P : PW G A s H locs S0 S) (hl : lv_has ls 5 [(0, .ref a0), (1, .int y1), (2, .int y2)]) (hcc : cells + 0 ≤ 0) (hss : slots + 0 ≤ 0) (hw : wX9_apart_38 Q QX S a0 y1 y2 z0) : W p l e rmX9_apart s m args below meth c H locs cells slots (vx_MQ below (QI G S0 A Q) (XX G S0 A QX) args s 0 0 A) (F0 m 38 ls [.int z0]) := by
  have hx := CF_x C
  have hb := CF_b C
  unfold wX9_apart_38 at hw
  refine lv_istore_n (lv' := [(3, .int z0), (0, .ref a0), (1, .int y1), (2, .int y2)]) hx hb dX9_apart_38 rfl hl (by decide) rfl (fun ls hl => ?_)
  refine lv_aload_n hx hb dX9_apart_39 rfl (lv_at hl 1 rfl) ?_
  refine lv_iload_n hx hb dX9_apart_40 rfl (lv_at hl 2 rfl) ?_
  refine cl_i C P (run_V C P hl.1 (kd := 9) (met_X9_column (CF_n C) G H.size _ _ S a0 y1 p_a0 hw) p_a0 (by decide) rfl q_1429 q_1431 q_p29 q_10 q_1432 cd_X9_column ⟨(Nat.le_of_ble_eq_true rfl), (Nat.le_of_ble_eq_true rfl)⟩ rfl rfl (As := [.int y1]) (rest := []) rfl rfl (Nat.le_of_ble_eq_true rfl) dX9_apart_41 ⟨by show cells + 0 ≤ 0; omega, by show slots + 0 ≤ 0; omega⟩) (kx_out C hex (fun _ _ _ h => h) (by omega) (by omega)) (fun r2 S1 H locs P hE hw => ?_)
  have p_a0 : pI S1 9 a0 := pI_x hE p_a0
  refine lv_aload_n hx hb dX9_apart_44 rfl (lv_at hl 1 rfl) ?_
  refine lv_iload_n hx hb dX9_apart_45 rfl (lv_at hl 3 rfl) ?_
  refine cl_i C P (run_V C P hl.1 (kd := 9) (met_X9_column (CF_n C) G H.size _ _ S1 a0 y2 p_a0 hw) p_a0 (by decide) rfl q_1429 q_1431 q_p29 q_10 q_1432 cd_X9_column ⟨(Nat.le_of_ble_eq_true rfl), (Nat.le_of_ble_eq_true rfl)⟩ rfl rfl (As := [.int y2]) (rest := [.int r2]) rfl rfl (Nat.le_of_ble_eq_true rfl) dX9_apart_46 ⟨by show cells + 0 ≤ 0; omega, by show slots + 0 ≤ 0; omega⟩) (kx_out C hex (fun _ _ _ h => h) (by omega) (by omega)) (fun r4 S3 H locs P hE hw => ?_)
  have p_a0 : pI S3 9 a0 := pI_x hE p_a0
  refine lv_icmp_le (tgt := 66) hx hb dX9_apart_49 (by decide) (fun hc => ?_) (fun hc => ?_)
  · have hw := hw.1 hc
    refine lv_aload_n hx hb dX9_apart_66 rfl (lv_at hl 1 rfl) ?_
    refine lv_iload_n hx hb dX9_apart_67 rfl (lv_at hl 3 rfl) ?_
    refine cl_i C P (run_V C P hl.1 (kd := 9) (met_X9_column (CF_n C) G H.size _ _ S3 a0 y2 p_a0 hw) p_a0 (by decide) rfl q_1429 q_1431 q_p29 q_10 q_1432 cd_X9_column ⟨(Nat.le_of_ble_eq_true rfl), (Nat.le_of_ble_eq_true rfl)⟩ rfl rfl (As := [.int y2]) (rest := []) rfl rfl (Nat.le_of_ble_eq_true rfl) dX9_apart_68 ⟨by show cells + 0 ≤ 0; omega, by show slots + 0 ≤ 0; omega⟩) (kx_out C hex (fun _ _ _ h => h) (by omega) (by omega)) (fun r6 S5 H locs P hE hw => ?_)
    have p_a0 : pI S5 9 a0 := pI_x hE p_a0
    refine lv_aload_n hx hb dX9_apart_71 rfl (lv_at hl 1 rfl) ?_
    refine lv_iload_n hx hb dX9_apart_72 rfl (lv_at hl 2 rfl) ?_
    refine cl_i C P (run_V C P hl.1 (kd := 9) (met_X9_column (CF_n C) G H.size _ _ S5 a0 y1 p_a0 hw) p_a0 (by decide) rfl q_1429 q_1431 q_p29 q_10 q_1432 cd_X9_column ⟨(Nat.le_of_ble_eq_true rfl), (Nat.le_of_ble_eq_true rfl)⟩ rfl rfl (As := [.int y1]) (rest := [.int r6]) rfl rfl (Nat.le_of_ble_eq_true rfl) dX9_apart_73 ⟨by show cells + 0 ≤ 0; omega, by show slots + 0 ≤ 0; omega⟩) (kx_out C hex (fun _ _ _ h => h) (by omega) (by omega)) (fun r8 S7 H locs P hE hw => ?_)
    have p_a0 : pI S7 9 a0 := pI_x hE p_a0
    refine lv_isub hx hb dX9_apart_76 ?_
    exact tX9_apart_77 C hr hex Q QX S7 z0 (r6 - r8) P (lv_sub hl [0] rfl) (by omega) (by omega) hw
  · have hw := hw.2 hc
    refine lv_aload_n hx hb dX9_apart_52 rfl (lv_at hl 1 rfl) ?_
    refine lv_iload_n hx hb dX9_apart_53 rfl (lv_at hl 2 rfl) ?_
    refine cl_i C P (run_V C P hl.1 (kd := 9) (met_X9_column (CF_n C) G H.size _ _ S3 a0 y1 p_a0 hw) p_a0 (by decide) rfl q_1429 q_1431 q_p29 q_10 q_1432 cd_X9_column ⟨(Nat.le_of_ble_eq_true rfl), (Nat.le_of_ble_eq_true rfl)⟩ rfl rfl (As := [.int y1]) (rest := []) rfl rfl (Nat.le_of_ble_eq_true rfl) dX9_apart_54 ⟨by show cells + 0 ≤ 0; omega, by show slots + 0 ≤ 0; omega⟩) (kx_out C hex (fun _ _ _ h => h) (by omega) (by omega)) (fun r10 S9 H locs P hE hw => ?_)
    have p_a0 : pI S9 9 a0 := pI_x hE p_a0
    refine lv_aload_n hx hb dX9_apart_57 rfl (lv_at hl 1 rfl) ?_
    refine lv_iload_n hx hb dX9_apart_58 rfl (lv_at hl 3 rfl) ?_
    refine cl_i C P (run_V C P hl.1 (kd := 9) (met_X9_column (CF_n C) G H.size _ _ S9 a0 y2 p_a0 hw) p_a0 (by decide) rfl q_1429 q_1431 q_p29 q_10 q_1432 cd_X9_column ⟨(Nat.le_of_ble_eq_true rfl), (Nat.le_of_ble_eq_true rfl)⟩ rfl rfl (As := [.int y2]) (rest := [.int r10]) rfl rfl (Nat.le_of_ble_eq_true rfl) dX9_apart_59 ⟨by show cells + 0 ≤ 0; omega, by show slots + 0 ≤ 0; omega⟩) (kx_out C hex (fun _ _ _ h => h) (by omega) (by omega)) (fun r12 S11 H locs P hE hw => ?_)
    have p_a0 : pI S11 9 a0 := pI_x hE p_a0
    refine lv_isub hx hb dX9_apart_62 ?_
    refine lv_goto (tgt := 77) hx hb dX9_apart_63 (by decide) ?_
    exact tX9_apart_77 C hr hex Q QX S11 z0 (r10 - r12) P (lv_sub hl [0] rfl) (by omega) (by omega) hw
def wX9_apart_0 (Q : Int32 → MS → Prop) (QX : String → MS → Prop) (S : MS) (a0 : Nat) (x1 : Int32) (x2 : Int32) : Prop := wp_X9_row (fun r2 S1 => wp_X9_row (fun r4 S3 => ((r2 ≤ r4 → wp_X9_row (fun r6 S5 => wp_X9_row (fun r8 S7 => wX9_apart_38 Q QX S7 a0 x1 x2 (r6 - r8)) QX S5 a0 x1) QX S3 a0 x2) ∧ (¬ r2 ≤ r4 → wp_X9_row (fun r10 S9 => wp_X9_row (fun r12 S11 => wX9_apart_38 Q QX S11 a0 x1 x2 (r10 - r12)) QX S9 a0 x2) QX S3 a0 x1))) QX S1 a0 x2) QX S a0 x1
set_option maxHeartbeats 4000000 in
set_option maxRecDepth 100000 in
theorem tX9_apart_0 {p : Program} {l : Launch} {e : Env} {s : State} {m : MethodId} {args : Array Value} {below : List Frame} {meth : Method} {c : Code} {H : Heap} {locs : List Loc} {cells slots : Nat} {G : GP} {A : Nat → Prop} {S0 : MS} {ls : Array Slot} (C : CF p l s m args meth c "SkirmishGridModel" cX9_apart 5 G A) (hr : meth.sig.returnType = (some .int)) (hex : ∀ x ∈ c.exceptionTable.toList, False) (Q : Int32 → MS → Prop) (QX : String → MS → Prop) (S : MS) (a0 : Nat) (x1 : Int32) (x2 : Int32) (p_a0 : pI S 9 a0) (P : PW G A s H locs S0 S) (hl : lv_has ls 5 [(0, .ref a0), (1, .int x1), (2, .int x2)]) (hcc : cells + 0 ≤ 0) (hss : slots + 0 ≤ 0) (hw : wX9_apart_0 Q QX S a0 x1 x2) : W p l e rmX9_apart s m args below meth c H locs cells slots (vx_MQ below (QI G S0 A Q) (XX G S0 A QX) args s 0 0 A) (F0 m 0 ls []) := by
  have hx := CF_x C
  have hb := CF_b C
  unfold wX9_apart_0 at hw
  refine lv_aload_n hx hb dX9_apart_0 rfl (lv_at hl 0 rfl) ?_
  refine lv_iload_n hx hb dX9_apart_1 rfl (lv_at hl 1 rfl) ?_
  refine cl_i C P (run_V C P hl.1 (kd := 9) (met_X9_row (CF_n C) G H.size _ _ S a0 x1 p_a0 hw) p_a0 (by decide) rfl q_1433 q_1435 q_p30 q_10 q_1436 cd_X9_row ⟨(Nat.le_of_ble_eq_true rfl), (Nat.le_of_ble_eq_true rfl)⟩ rfl rfl (As := [.int x1]) (rest := []) rfl rfl (Nat.le_of_ble_eq_true rfl) dX9_apart_2 ⟨by show cells + 0 ≤ 0; omega, by show slots + 0 ≤ 0; omega⟩) (kx_out C hex (fun _ _ _ h => h) (by omega) (by omega)) (fun r2 S1 H locs P hE hw => ?_)
  have p_a0 : pI S1 9 a0 := pI_x hE p_a0
  refine lv_aload_n hx hb dX9_apart_5 rfl (lv_at hl 0 rfl) ?_
  refine lv_iload_n hx hb dX9_apart_6 rfl (lv_at hl 2 rfl) ?_
  refine cl_i C P (run_V C P hl.1 (kd := 9) (met_X9_row (CF_n C) G H.size _ _ S1 a0 x2 p_a0 hw) p_a0 (by decide) rfl q_1433 q_1435 q_p30 q_10 q_1436 cd_X9_row ⟨(Nat.le_of_ble_eq_true rfl), (Nat.le_of_ble_eq_true rfl)⟩ rfl rfl (As := [.int x2]) (rest := [.int r2]) rfl rfl (Nat.le_of_ble_eq_true rfl) dX9_apart_7 ⟨by show cells + 0 ≤ 0; omega, by show slots + 0 ≤ 0; omega⟩) (kx_out C hex (fun _ _ _ h => h) (by omega) (by omega)) (fun r4 S3 H locs P hE hw => ?_)
  have p_a0 : pI S3 9 a0 := pI_x hE p_a0
  refine lv_icmp_le (tgt := 27) hx hb dX9_apart_10 (by decide) (fun hc => ?_) (fun hc => ?_)
  · have hw := hw.1 hc
    refine lv_aload_n hx hb dX9_apart_27 rfl (lv_at hl 0 rfl) ?_
    refine lv_iload_n hx hb dX9_apart_28 rfl (lv_at hl 2 rfl) ?_
    refine cl_i C P (run_V C P hl.1 (kd := 9) (met_X9_row (CF_n C) G H.size _ _ S3 a0 x2 p_a0 hw) p_a0 (by decide) rfl q_1433 q_1435 q_p30 q_10 q_1436 cd_X9_row ⟨(Nat.le_of_ble_eq_true rfl), (Nat.le_of_ble_eq_true rfl)⟩ rfl rfl (As := [.int x2]) (rest := []) rfl rfl (Nat.le_of_ble_eq_true rfl) dX9_apart_29 ⟨by show cells + 0 ≤ 0; omega, by show slots + 0 ≤ 0; omega⟩) (kx_out C hex (fun _ _ _ h => h) (by omega) (by omega)) (fun r6 S5 H locs P hE hw => ?_)
    have p_a0 : pI S5 9 a0 := pI_x hE p_a0
    refine lv_aload_n hx hb dX9_apart_32 rfl (lv_at hl 0 rfl) ?_
    refine lv_iload_n hx hb dX9_apart_33 rfl (lv_at hl 1 rfl) ?_
    refine cl_i C P (run_V C P hl.1 (kd := 9) (met_X9_row (CF_n C) G H.size _ _ S5 a0 x1 p_a0 hw) p_a0 (by decide) rfl q_1433 q_1435 q_p30 q_10 q_1436 cd_X9_row ⟨(Nat.le_of_ble_eq_true rfl), (Nat.le_of_ble_eq_true rfl)⟩ rfl rfl (As := [.int x1]) (rest := [.int r6]) rfl rfl (Nat.le_of_ble_eq_true rfl) dX9_apart_34 ⟨by show cells + 0 ≤ 0; omega, by show slots + 0 ≤ 0; omega⟩) (kx_out C hex (fun _ _ _ h => h) (by omega) (by omega)) (fun r8 S7 H locs P hE hw => ?_)
    have p_a0 : pI S7 9 a0 := pI_x hE p_a0
    refine lv_isub hx hb dX9_apart_37 ?_
    exact tX9_apart_38 C hr hex Q QX S7 a0 x1 x2 (r6 - r8) p_a0 P (lv_sub hl [0, 1, 2] rfl) (by omega) (by omega) hw
  · have hw := hw.2 hc
    refine lv_aload_n hx hb dX9_apart_13 rfl (lv_at hl 0 rfl) ?_
    refine lv_iload_n hx hb dX9_apart_14 rfl (lv_at hl 1 rfl) ?_
    refine cl_i C P (run_V C P hl.1 (kd := 9) (met_X9_row (CF_n C) G H.size _ _ S3 a0 x1 p_a0 hw) p_a0 (by decide) rfl q_1433 q_1435 q_p30 q_10 q_1436 cd_X9_row ⟨(Nat.le_of_ble_eq_true rfl), (Nat.le_of_ble_eq_true rfl)⟩ rfl rfl (As := [.int x1]) (rest := []) rfl rfl (Nat.le_of_ble_eq_true rfl) dX9_apart_15 ⟨by show cells + 0 ≤ 0; omega, by show slots + 0 ≤ 0; omega⟩) (kx_out C hex (fun _ _ _ h => h) (by omega) (by omega)) (fun r10 S9 H locs P hE hw => ?_)
    have p_a0 : pI S9 9 a0 := pI_x hE p_a0
    refine lv_aload_n hx hb dX9_apart_18 rfl (lv_at hl 0 rfl) ?_
    refine lv_iload_n hx hb dX9_apart_19 rfl (lv_at hl 2 rfl) ?_
    refine cl_i C P (run_V C P hl.1 (kd := 9) (met_X9_row (CF_n C) G H.size _ _ S9 a0 x2 p_a0 hw) p_a0 (by decide) rfl q_1433 q_1435 q_p30 q_10 q_1436 cd_X9_row ⟨(Nat.le_of_ble_eq_true rfl), (Nat.le_of_ble_eq_true rfl)⟩ rfl rfl (As := [.int x2]) (rest := [.int r10]) rfl rfl (Nat.le_of_ble_eq_true rfl) dX9_apart_20 ⟨by show cells + 0 ≤ 0; omega, by show slots + 0 ≤ 0; omega⟩) (kx_out C hex (fun _ _ _ h => h) (by omega) (by omega)) (fun r12 S11 H locs P hE hw => ?_)
    have p_a0 : pI S11 9 a0 := pI_x hE p_a0
    refine lv_isub hx hb dX9_apart_23 ?_
    refine lv_goto (tgt := 38) hx hb dX9_apart_24 (by decide) ?_
    exact tX9_apart_38 C hr hex Q QX S11 a0 x1 x2 (r10 - r12) p_a0 P (lv_sub hl [0, 1, 2] rfl) (by omega) (by omega) hw
def wp_X9_apart (Q : Int32 → MS → Prop) (QX : String → MS → Prop) (S : MS) (a0 : Nat) (x1 : Int32) (x2 : Int32) : Prop := wX9_apart_0 Q QX S a0 x1 x2
set_option maxHeartbeats 4000000 in
set_option maxRecDepth 100000 in
theorem met_X9_apart {l : Launch} (hst : l.stackTraces = false) (G : GP) (sz : Nat) (Q : Int32 → MS → Prop) (QX : String → MS → Prop) (S : MS) (a0 : Nat) (x1 : Int32) (x2 : Int32) (p_a0 : pI S 9 a0) (hw : wp_X9_apart Q QX S a0 x1 x2) : vx_Met l yX9_apart (.code yX9_apart cX9_apart 5 (some .int) :: GW) rmX9_apart (va_Pc [.ref a0, .int x1, .int x2] (PR G S sz)) (QI G S (FA G S sz) Q) (XX G S (FA G S sz) QX) 0 0 (FA G S sz) := by
  refine st_m (by decide +kernel) hst (fun p e s m below meth c C hr hnm hex P => ?_)
  refine en_m (Nat.le_of_ble_eq_true rfl) (lv := [(0, .ref a0), (1, .int x1), (2, .int x2)]) rfl (fun ls hl => ?_)
  have C : CF p l s m _ meth c "SkirmishGridModel" cX9_apart 5 G (FA G S sz) := C
  exact tX9_apart_0 C hr hex Q QX S a0 x1 x2 p_a0 P hl (by omega) (by omega) hw
theorem cd_X9_apart : yX9_apart.cls = RX9 ∧ yX9_apart.cls ≠ "java/lang/invoke/MethodHandle" ∧ yX9_apart.cls ≠ "java/lang/invoke/VarHandle" ∧ (parseMethodDescriptor yX9_apart.desc).map (fun d => d.parameters.length) = some 2 := by decide +kernel
abbrev rmX9_append : Room := { frames := 1, cells := 0, slots := 0, locals := 22 }
def wX9_append_0 (Q : Int32 → MS → Prop) (QX : String → MS → Prop) (S : MS) (a0 : Nat) (x1 : Int32) : Prop := (∀ S1, S1 = (sI S a0 0 0) → wp_X9_isIn (fun r3 S2 => ((¬ r3 = 0 → ((¬ (mI S2 a0 12) = 71 → (∃ a4, mR S2 a0 11 = some a4 ∧ (vp_in (mI S2 a0 12) (mN S2 a4) ∧ (∀ S5, S5 = (sI S2 a4 ((mI S2 a0 12) : Int32).toNatClampNeg x1) → (∀ S6, S6 = (sI S5 a0 12 ((mI S5 a0 12) + 1)) → Q (mI S6 a0 12) S6))))) ∧ ((mI S2 a0 12) = 71 → wp_X9_no (fun r8 S7 => Q r8 S7) QX S2 a0 2))) ∧ (r3 = 0 → wp_X9_no (fun r10 S9 => Q r10 S9) QX S2 a0 1))) QX S1 x1 32 126)
set_option maxHeartbeats 4000000 in
set_option maxRecDepth 100000 in
theorem tX9_append_0 {p : Program} {l : Launch} {e : Env} {s : State} {m : MethodId} {args : Array Value} {below : List Frame} {meth : Method} {c : Code} {H : Heap} {locs : List Loc} {cells slots : Nat} {G : GP} {A : Nat → Prop} {S0 : MS} {ls : Array Slot} (C : CF p l s m args meth c "SkirmishGridModel" cX9_append 2 G A) (hr : meth.sig.returnType = (some .int)) (hex : ∀ x ∈ c.exceptionTable.toList, False) (Q : Int32 → MS → Prop) (QX : String → MS → Prop) (S : MS) (a0 : Nat) (x1 : Int32) (p_a0 : pI S 9 a0) (P : PW G A s H locs S0 S) (hl : lv_has ls 2 [(0, .ref a0), (1, .int x1)]) (hcc : cells + 0 ≤ 0) (hss : slots + 0 ≤ 0) (hw : wX9_append_0 Q QX S a0 x1) : W p l e rmX9_append s m args below meth c H locs cells slots (vx_MQ below (QI G S0 A Q) (XX G S0 A QX) args s 0 0 A) (F0 m 0 ls []) := by
  have hx := CF_x C
  have hb := CF_b C
  unfold wX9_append_0 at hw
  refine lv_aload_n hx hb dX9_append_0 rfl (lv_at hl 0 rfl) ?_
  refine lv_iconst (v := 0) hx hb dX9_append_1 (by decide) ?_
  refine pf_9_0 C P p_a0 q_1305 dX9_append_2 (fun H locs P => ?_)
  obtain ⟨S1, hS⟩ : ∃ z, z = (sI S a0 0 0) := ⟨_, rfl⟩
  have P : PW G A s H locs S0 S1 := by rw [hS]; exact P
  have p_a0 : pI S1 9 a0 := by rw [hS]; exact pI_x ext_sI p_a0
  have hw := hw S1 hS
  refine lv_iload_n hx hb dX9_append_5 rfl (lv_at hl 1 rfl) ?_
  refine lv_bipush (v := 32) hx hb dX9_append_6 (by decide) ?_
  refine lv_bipush (v := 126) hx hb dX9_append_8 (by decide) ?_
  refine cl_i C P (run_S C P hl.1 (met_X9_isIn (CF_n C) G H.size _ _ S1 x1 32 126 hw) q_1383 q_1384 q_10 q_1385 cd_X9_isIn.2 ⟨(Nat.le_of_ble_eq_true rfl), (Nat.le_of_ble_eq_true rfl)⟩ rfl rfl (As := [.int x1, .int 32, .int 126]) (rest := []) rfl rfl (Nat.le_of_ble_eq_true rfl) dX9_append_10 ⟨by show cells + 0 ≤ 0; omega, by show slots + 0 ≤ 0; omega⟩) (kx_out C hex (fun _ _ _ h => h) (by omega) (by omega)) (fun r3 S2 H locs P hE hw => ?_)
  have p_a0 : pI S2 9 a0 := pI_x hE p_a0
  refine lv_if_ne (tgt := 22) hx hb dX9_append_13 (by decide) (fun hc => ?_) (fun hc => ?_)
  · have hw := hw.1 hc
    refine lv_aload_n hx hb dX9_append_22 rfl (lv_at hl 0 rfl) ?_
    refine gf_9_12 C P p_a0 q_1317 dX9_append_23 ?_
    refine lv_bipush (v := 71) hx hb dX9_append_26 (by decide) ?_
    refine lv_icmp_ne (tgt := 37) hx hb dX9_append_28 (by decide) (fun hc => ?_) (fun hc => ?_)
    · have hw := hw.1 hc
      refine lv_aload_n hx hb dX9_append_37 rfl (lv_at hl 0 rfl) ?_
      obtain ⟨a4, e1, hw⟩ := hw
      have p_a4 : pI S2 12 a4 := wf_r P.2.2.2.1 p_a0 e1
      refine gf_9_11 C P p_a0 e1 q_1316 dX9_append_38 ?_
      refine lv_aload_n hx hb dX9_append_41 rfl (lv_at hl 0 rfl) ?_
      refine gf_9_12 C P p_a0 q_1317 dX9_append_42 ?_
      refine lv_iload_n hx hb dX9_append_45 rfl (lv_at hl 1 rfl) ?_
      obtain ⟨h1, hw⟩ := hw
      refine rs_i C P p_a4 h1 dX9_append_46 (fun H locs P => ?_)
      obtain ⟨S5, hS⟩ : ∃ z, z = (sI S2 a4 ((mI S2 a0 12) : Int32).toNatClampNeg x1) := ⟨_, rfl⟩
      have P : PW G A s H locs S0 S5 := by rw [hS]; exact P
      have p_a0 : pI S5 9 a0 := by rw [hS]; exact pI_x ext_sI p_a0
      have p_a4 : pI S5 12 a4 := by rw [hS]; exact pI_x ext_sI p_a4
      have hw := hw S5 hS
      refine lv_aload_n hx hb dX9_append_47 rfl (lv_at hl 0 rfl) ?_
      refine lv_dup hx hb dX9_append_48 rfl ?_
      refine gf_9_12 C P p_a0 q_1317 dX9_append_49 ?_
      refine lv_iconst (v := 1) hx hb dX9_append_52 (by decide) ?_
      refine lv_iadd hx hb dX9_append_53 ?_
      refine pf_9_12 C P p_a0 q_1317 dX9_append_54 (fun H locs P => ?_)
      obtain ⟨S6, hS⟩ : ∃ z, z = (sI S5 a0 12 ((mI S5 a0 12) + 1)) := ⟨_, rfl⟩
      have P : PW G A s H locs S0 S6 := by rw [hS]; exact P
      have p_a0 : pI S6 9 a0 := by rw [hS]; exact pI_x ext_sI p_a0
      have hw := hw S6 hS
      refine lv_aload_n hx hb dX9_append_57 rfl (lv_at hl 0 rfl) ?_
      refine gf_9_12 C P p_a0 q_1317 dX9_append_58 ?_
      exact e_i C hr rfl P hw (by omega) (by omega) dX9_append_61
    · have hw := hw.2 hc
      refine lv_aload_n hx hb dX9_append_31 rfl (lv_at hl 0 rfl) ?_
      refine lv_iconst (v := 2) hx hb dX9_append_32 (by decide) ?_
      refine cl_i C P (run_V C P hl.1 (kd := 9) (met_X9_no (CF_n C) G H.size _ _ S2 a0 2 p_a0 hw) p_a0 (by decide) rfl q_1386 q_1388 q_p23 q_10 q_1389 cd_X9_no ⟨(Nat.le_of_ble_eq_true rfl), (Nat.le_of_ble_eq_true rfl)⟩ rfl rfl (As := [.int 2]) (rest := []) rfl rfl (Nat.le_of_ble_eq_true rfl) dX9_append_33 ⟨by show cells + 0 ≤ 0; omega, by show slots + 0 ≤ 0; omega⟩) (kx_out C hex (fun _ _ _ h => h) (by omega) (by omega)) (fun r8 S7 H locs P hE hw => ?_)
      have p_a0 : pI S7 9 a0 := pI_x hE p_a0
      exact e_i C hr rfl P hw (by omega) (by omega) dX9_append_36
  · have hw := hw.2 hc
    refine lv_aload_n hx hb dX9_append_16 rfl (lv_at hl 0 rfl) ?_
    refine lv_iconst (v := 1) hx hb dX9_append_17 (by decide) ?_
    refine cl_i C P (run_V C P hl.1 (kd := 9) (met_X9_no (CF_n C) G H.size _ _ S2 a0 1 p_a0 hw) p_a0 (by decide) rfl q_1386 q_1388 q_p23 q_10 q_1389 cd_X9_no ⟨(Nat.le_of_ble_eq_true rfl), (Nat.le_of_ble_eq_true rfl)⟩ rfl rfl (As := [.int 1]) (rest := []) rfl rfl (Nat.le_of_ble_eq_true rfl) dX9_append_18 ⟨by show cells + 0 ≤ 0; omega, by show slots + 0 ≤ 0; omega⟩) (kx_out C hex (fun _ _ _ h => h) (by omega) (by omega)) (fun r10 S9 H locs P hE hw => ?_)
    have p_a0 : pI S9 9 a0 := pI_x hE p_a0
    exact e_i C hr rfl P hw (by omega) (by omega) dX9_append_21
def wp_X9_append (Q : Int32 → MS → Prop) (QX : String → MS → Prop) (S : MS) (a0 : Nat) (x1 : Int32) : Prop := wX9_append_0 Q QX S a0 x1
set_option maxHeartbeats 4000000 in
set_option maxRecDepth 100000 in
theorem met_X9_append {l : Launch} (hst : l.stackTraces = false) (G : GP) (sz : Nat) (Q : Int32 → MS → Prop) (QX : String → MS → Prop) (S : MS) (a0 : Nat) (x1 : Int32) (p_a0 : pI S 9 a0) (hw : wp_X9_append Q QX S a0 x1) : vx_Met l yX9_append (.code yX9_append cX9_append 2 (some .int) :: GW) rmX9_append (va_Pc [.ref a0, .int x1] (PR G S sz)) (QI G S (FA G S sz) Q) (XX G S (FA G S sz) QX) 0 0 (FA G S sz) := by
  refine st_m (by decide +kernel) hst (fun p e s m below meth c C hr hnm hex P => ?_)
  refine en_m (Nat.le_of_ble_eq_true rfl) (lv := [(0, .ref a0), (1, .int x1)]) rfl (fun ls hl => ?_)
  have C : CF p l s m _ meth c "SkirmishGridModel" cX9_append 2 G (FA G S sz) := C
  exact tX9_append_0 C hr hex Q QX S a0 x1 p_a0 P hl (by omega) (by omega) hw
theorem cd_X9_append : yX9_append.cls = RX9 ∧ yX9_append.cls ≠ "java/lang/invoke/MethodHandle" ∧ yX9_append.cls ≠ "java/lang/invoke/VarHandle" ∧ (parseMethodDescriptor yX9_append.desc).map (fun d => d.parameters.length) = some 1 := by decide +kernel
abbrev rmX9_terrainOf : Room := { frames := 0, cells := 0, slots := 0, locals := 0 }
def wX9_terrainOf_0 (Q : Int32 → MS → Prop) (QX : String → MS → Prop) (S : MS) (x1 : Int32) : Prop := ((¬ x1 = 46 → ((¬ x1 = 35 → ((¬ x1 = 111 → ((¬ x1 = 126 → ((¬ x1 = 94 → Q (-1) S) ∧ (x1 = 94 → Q 4 S))) ∧ (x1 = 126 → Q 3 S))) ∧ (x1 = 111 → Q 2 S))) ∧ (x1 = 35 → Q 1 S))) ∧ (x1 = 46 → Q 0 S))
set_option maxHeartbeats 4000000 in
set_option maxRecDepth 100000 in
theorem tX9_terrainOf_0 {p : Program} {l : Launch} {e : Env} {s : State} {m : MethodId} {args : Array Value} {below : List Frame} {meth : Method} {c : Code} {H : Heap} {locs : List Loc} {cells slots : Nat} {G : GP} {A : Nat → Prop} {S0 : MS} {ls : Array Slot} (C : CF p l s m args meth c "SkirmishGridModel" cX9_terrainOf 1 G A) (hr : meth.sig.returnType = (some .int)) (hex : ∀ x ∈ c.exceptionTable.toList, False) (Q : Int32 → MS → Prop) (QX : String → MS → Prop) (S : MS) (x1 : Int32) (P : PW G A s H locs S0 S) (hl : lv_has ls 1 [(0, .int x1)]) (hcc : cells + 0 ≤ 0) (hss : slots + 0 ≤ 0) (hw : wX9_terrainOf_0 Q QX S x1) : W p l e rmX9_terrainOf s m args below meth c H locs cells slots (vx_MQ below (QI G S0 A Q) (XX G S0 A QX) args s 0 0 A) (F0 m 0 ls []) := by
  have hx := CF_x C
  have hb := CF_b C
  unfold wX9_terrainOf_0 at hw
  refine lv_iload_n hx hb dX9_terrainOf_0 rfl (lv_at hl 0 rfl) ?_
  refine lv_bipush (v := 46) hx hb dX9_terrainOf_1 (by decide) ?_
  refine lv_icmp_ne (tgt := 10) hx hb dX9_terrainOf_3 (by decide) (fun hc => ?_) (fun hc => ?_)
  · have hw := hw.1 hc
    refine lv_iload_n hx hb dX9_terrainOf_10 rfl (lv_at hl 0 rfl) ?_
    refine lv_bipush (v := 35) hx hb dX9_terrainOf_11 (by decide) ?_
    refine lv_icmp_ne (tgt := 20) hx hb dX9_terrainOf_13 (by decide) (fun hc => ?_) (fun hc => ?_)
    · have hw := hw.1 hc
      refine lv_iload_n hx hb dX9_terrainOf_20 rfl (lv_at hl 0 rfl) ?_
      refine lv_bipush (v := 111) hx hb dX9_terrainOf_21 (by decide) ?_
      refine lv_icmp_ne (tgt := 30) hx hb dX9_terrainOf_23 (by decide) (fun hc => ?_) (fun hc => ?_)
      · have hw := hw.1 hc
        refine lv_iload_n hx hb dX9_terrainOf_30 rfl (lv_at hl 0 rfl) ?_
        refine lv_bipush (v := 126) hx hb dX9_terrainOf_31 (by decide) ?_
        refine lv_icmp_ne (tgt := 40) hx hb dX9_terrainOf_33 (by decide) (fun hc => ?_) (fun hc => ?_)
        · have hw := hw.1 hc
          refine lv_iload_n hx hb dX9_terrainOf_40 rfl (lv_at hl 0 rfl) ?_
          refine lv_bipush (v := 94) hx hb dX9_terrainOf_41 (by decide) ?_
          refine lv_icmp_ne (tgt := 50) hx hb dX9_terrainOf_43 (by decide) (fun hc => ?_) (fun hc => ?_)
          · have hw := hw.1 hc
            refine lv_iconst (v := (-1)) hx hb dX9_terrainOf_50 (by decide) ?_
            exact e_i C hr rfl P hw (by omega) (by omega) dX9_terrainOf_51
          · have hw := hw.2 hc
            refine lv_iconst (v := 4) hx hb dX9_terrainOf_46 (by decide) ?_
            refine lv_goto (tgt := 51) hx hb dX9_terrainOf_47 (by decide) ?_
            exact e_i C hr rfl P hw (by omega) (by omega) dX9_terrainOf_51
        · have hw := hw.2 hc
          refine lv_iconst (v := 3) hx hb dX9_terrainOf_36 (by decide) ?_
          refine lv_goto (tgt := 51) hx hb dX9_terrainOf_37 (by decide) ?_
          exact e_i C hr rfl P hw (by omega) (by omega) dX9_terrainOf_51
      · have hw := hw.2 hc
        refine lv_iconst (v := 2) hx hb dX9_terrainOf_26 (by decide) ?_
        refine lv_goto (tgt := 51) hx hb dX9_terrainOf_27 (by decide) ?_
        exact e_i C hr rfl P hw (by omega) (by omega) dX9_terrainOf_51
    · have hw := hw.2 hc
      refine lv_iconst (v := 1) hx hb dX9_terrainOf_16 (by decide) ?_
      refine lv_goto (tgt := 51) hx hb dX9_terrainOf_17 (by decide) ?_
      exact e_i C hr rfl P hw (by omega) (by omega) dX9_terrainOf_51
  · have hw := hw.2 hc
    refine lv_iconst (v := 0) hx hb dX9_terrainOf_6 (by decide) ?_
    refine lv_goto (tgt := 51) hx hb dX9_terrainOf_7 (by decide) ?_
    exact e_i C hr rfl P hw (by omega) (by omega) dX9_terrainOf_51
def wp_X9_terrainOf (Q : Int32 → MS → Prop) (QX : String → MS → Prop) (S : MS) (x1 : Int32) : Prop := wX9_terrainOf_0 Q QX S x1
set_option maxHeartbeats 4000000 in
set_option maxRecDepth 100000 in
theorem met_X9_terrainOf {l : Launch} (hst : l.stackTraces = false) (G : GP) (sz : Nat) (Q : Int32 → MS → Prop) (QX : String → MS → Prop) (S : MS) (x1 : Int32) (hw : wp_X9_terrainOf Q QX S x1) : vx_Met l yX9_terrainOf (.code yX9_terrainOf cX9_terrainOf 1 (some .int) :: GW) rmX9_terrainOf (va_Pc [.int x1] (PR G S sz)) (QI G S (FA G S sz) Q) (XX G S (FA G S sz) QX) 0 0 (FA G S sz) := by
  refine st_m (by decide +kernel) hst (fun p e s m below meth c C hr hnm hex P => ?_)
  refine en_m (Nat.le_of_ble_eq_true rfl) (lv := [(0, .int x1)]) rfl (fun ls hl => ?_)
  have C : CF p l s m _ meth c "SkirmishGridModel" cX9_terrainOf 1 G (FA G S sz) := C
  exact tX9_terrainOf_0 C hr hex Q QX S x1 P hl (by omega) (by omega) hw
theorem cd_X9_terrainOf : yX9_terrainOf.cls = RX9 ∧ yX9_terrainOf.cls ≠ "java/lang/invoke/MethodHandle" ∧ yX9_terrainOf.cls ≠ "java/lang/invoke/VarHandle" ∧ (parseMethodDescriptor yX9_terrainOf.desc).map (fun d => d.parameters.length) = some 1 := by decide +kernel
abbrev rmX9_wrong : Room := { frames := 1, cells := 0, slots := 0, locals := 20 }
def wX9_wrong_46 (Q : Int32 → MS → Prop) (QX : String → MS → Prop) (k9 : MS → Nat → Int32 → Int32 → Int32 → Int32 → Prop) (S : MS) (a0 : Nat) (y2 : Int32) (y3 : Int32) (y4 : Int32) : Prop := k9 S a0 y2 0 (y3 + 1) (y4 + 1)
set_option maxHeartbeats 4000000 in
set_option maxRecDepth 100000 in
theorem tX9_wrong_46 {p : Program} {l : Launch} {e : Env} {s : State} {m : MethodId} {args : Array Value} {below : List Frame} {meth : Method} {c : Code} {H : Heap} {locs : List Loc} {cells slots : Nat} {G : GP} {A : Nat → Prop} {S0 : MS} {ls : Array Slot} (C : CF p l s m args meth c "SkirmishGridModel" cX9_wrong 5 G A) (hr : meth.sig.returnType = (some .int)) (hex : ∀ x ∈ c.exceptionTable.toList, False) (Q : Int32 → MS → Prop) (QX : String → MS → Prop) (k9 : MS → Nat → Int32 → Int32 → Int32 → Int32 → Prop) (kh9 : ∀ (S : MS) (a0 : Nat) (y1 : Int32) (y2 : Int32) (y3 : Int32) (y4 : Int32) (cells slots : Nat) (H : Heap) (locs : List Loc) (ls : Array Slot), pI S 9 a0 → PW G A s H locs S0 S → lv_has ls 5 [(0, .ref a0), (1, .int y1), (2, .int y2), (3, .int y3), (4, .int y4)] → cells + 0 ≤ 0 → slots + 0 ≤ 0 → k9 S a0 y1 y2 y3 y4 → W p l e rmX9_wrong s m args below meth c H locs cells slots (vx_MQ below (QI G S0 A Q) (XX G S0 A QX) args s 0 0 A) (F0 m 9 ls [])) (S : MS) (a0 : Nat) (y2 : Int32) (y3 : Int32) (y4 : Int32) (p_a0 : pI S 9 a0) (P : PW G A s H locs S0 S) (hl : lv_has ls 5 [(0, .ref a0), (2, .int y2), (3, .int y3), (4, .int y4)]) (hcc : cells + 0 ≤ 0) (hss : slots + 0 ≤ 0) (hw : wX9_wrong_46 Q QX k9 S a0 y2 y3 y4) : W p l e rmX9_wrong s m args below meth c H locs cells slots (vx_MQ below (QI G S0 A Q) (XX G S0 A QX) args s 0 0 A) (F0 m 46 ls []) := by
  have hx := CF_x C
  have hb := CF_b C
  unfold wX9_wrong_46 at hw
  refine lv_iload_n hx hb dX9_wrong_46 rfl (lv_at hl 1 rfl) ?_
  refine lv_istore_n (lv' := [(1, .int y2), (0, .ref a0), (2, .int y2), (3, .int y3), (4, .int y4)]) hx hb dX9_wrong_47 rfl hl (by decide) rfl (fun ls hl => ?_)
  refine lv_iconst (v := 0) hx hb dX9_wrong_48 (by decide) ?_
  refine lv_istore_n (lv' := [(2, .int 0), (1, .int y2), (0, .ref a0), (3, .int y3), (4, .int y4)]) hx hb dX9_wrong_49 rfl hl (by decide) rfl (fun ls hl => ?_)
  refine lv_iinc (v := (y3 + 1)) (lv' := [(3, .int (y3 + 1)), (2, .int 0), (1, .int y2), (0, .ref a0), (4, .int y4)]) hx hb dX9_wrong_50 hl (k := 3) rfl (by rfl) (by decide) rfl (fun ls hl => ?_)
  refine lv_goto (tgt := 80) hx hb dX9_wrong_53 (by decide) ?_
  refine lv_iinc (v := (y4 + 1)) (lv' := [(4, .int (y4 + 1)), (3, .int (y3 + 1)), (2, .int 0), (1, .int y2), (0, .ref a0)]) hx hb dX9_wrong_80 hl (k := 4) rfl (by rfl) (by decide) rfl (fun ls hl => ?_)
  refine lv_goto (tgt := 9) hx hb dX9_wrong_83 (by decide) ?_
  exact kh9 S a0 y2 0 (y3 + 1) (y4 + 1) _ _ _ _ _ p_a0 P (lv_sub hl [4, 3, 2, 1, 0] rfl) (by omega) (by omega) hw
def wX9_wrong_9 (Q : Int32 → MS → Prop) (QX : String → MS → Prop) (k9 : MS → Nat → Int32 → Int32 → Int32 → Int32 → Prop) (S : MS) (a0 : Nat) (y1 : Int32) (y2 : Int32) (y3 : Int32) (y4 : Int32) : Prop := (((mI S a0 12) ≤ y4 → (∀ S1, S1 = (sI S a0 14 y3) → (∀ S2, S2 = (sI S1 a0 15 y2) → ((y2 = 0 → Q (mI S2 a0 12) S2) ∧ (¬ y2 = 0 → ((y1 < 0 → Q (-1) S2) ∧ (¬ y1 < 0 → ((y1 ≤ y2 → Q (-1) S2) ∧ (¬ y1 ≤ y2 → Q (mI S2 a0 12) S2))))))))) ∧ (¬ (mI S a0 12) ≤ y4 → (∃ a3, mR S a0 11 = some a3 ∧ (vp_in y4 (mN S a3) ∧ ((¬ (mI S a3 (y4 : Int32).toNatClampNeg) = 47 → (∃ a4, mR S a0 11 = some a4 ∧ (vp_in y4 (mN S a4) ∧ wp_X9_terrainOf (fun r6 S5 => ((r6 < 0 → Q y4 S5) ∧ (¬ r6 < 0 → ((¬ y2 = y1 → k9 S5 a0 y1 (y2 + 1) y3 (y4 + 1)) ∧ (y2 = y1 → Q y4 S5))))) QX S (mI S a4 (y4 : Int32).toNatClampNeg)))) ∧ ((mI S a3 (y4 : Int32).toNatClampNeg) = 47 → ((y2 = 0 → Q y4 S) ∧ (¬ y2 = 0 → ((y1 < 0 → wX9_wrong_46 Q QX k9 S a0 y2 y3 y4) ∧ (¬ y1 < 0 → ((y1 ≤ y2 → wX9_wrong_46 Q QX k9 S a0 y2 y3 y4) ∧ (¬ y1 ≤ y2 → Q y4 S))))))))))))
set_option maxHeartbeats 4000000 in
set_option maxRecDepth 100000 in
theorem tX9_wrong_9 {p : Program} {l : Launch} {e : Env} {s : State} {m : MethodId} {args : Array Value} {below : List Frame} {meth : Method} {c : Code} {H : Heap} {locs : List Loc} {cells slots : Nat} {G : GP} {A : Nat → Prop} {S0 : MS} {ls : Array Slot} (C : CF p l s m args meth c "SkirmishGridModel" cX9_wrong 5 G A) (hr : meth.sig.returnType = (some .int)) (hex : ∀ x ∈ c.exceptionTable.toList, False) (Q : Int32 → MS → Prop) (QX : String → MS → Prop) (k9 : MS → Nat → Int32 → Int32 → Int32 → Int32 → Prop) (kh9 : ∀ (S : MS) (a0 : Nat) (y1 : Int32) (y2 : Int32) (y3 : Int32) (y4 : Int32) (cells slots : Nat) (H : Heap) (locs : List Loc) (ls : Array Slot), pI S 9 a0 → PW G A s H locs S0 S → lv_has ls 5 [(0, .ref a0), (1, .int y1), (2, .int y2), (3, .int y3), (4, .int y4)] → cells + 0 ≤ 0 → slots + 0 ≤ 0 → k9 S a0 y1 y2 y3 y4 → W p l e rmX9_wrong s m args below meth c H locs cells slots (vx_MQ below (QI G S0 A Q) (XX G S0 A QX) args s 0 0 A) (F0 m 9 ls [])) (S : MS) (a0 : Nat) (y1 : Int32) (y2 : Int32) (y3 : Int32) (y4 : Int32) (p_a0 : pI S 9 a0) (P : PW G A s H locs S0 S) (hl : lv_has ls 5 [(0, .ref a0), (1, .int y1), (2, .int y2), (3, .int y3), (4, .int y4)]) (hcc : cells + 0 ≤ 0) (hss : slots + 0 ≤ 0) (hw : wX9_wrong_9 Q QX k9 S a0 y1 y2 y3 y4) : W p l e rmX9_wrong s m args below meth c H locs cells slots (vx_MQ below (QI G S0 A Q) (XX G S0 A QX) args s 0 0 A) (F0 m 9 ls []) := by
  have hx := CF_x C
  have hb := CF_b C
  unfold wX9_wrong_9 at hw
  refine lv_iload hx hb dX9_wrong_9 (lv_at hl 4 rfl) ?_
  refine lv_aload_n hx hb dX9_wrong_11 rfl (lv_at hl 0 rfl) ?_
  refine gf_9_12 C P p_a0 q_1317 dX9_wrong_12 ?_
  refine lv_icmp_ge (tgt := 86) hx hb dX9_wrong_15 (by decide) (fun hc => ?_) (fun hc => ?_)
  · have hw := hw.1 hc
    refine lv_aload_n hx hb dX9_wrong_86 rfl (lv_at hl 0 rfl) ?_
    refine lv_iload_n hx hb dX9_wrong_87 rfl (lv_at hl 3 rfl) ?_
    refine pf_9_14 C P p_a0 q_1319 dX9_wrong_88 (fun H locs P => ?_)
    obtain ⟨S1, hS⟩ : ∃ z, z = (sI S a0 14 y3) := ⟨_, rfl⟩
    have P : PW G A s H locs S0 S1 := by rw [hS]; exact P
    have p_a0 : pI S1 9 a0 := by rw [hS]; exact pI_x ext_sI p_a0
    have hw := hw S1 hS
    refine lv_aload_n hx hb dX9_wrong_91 rfl (lv_at hl 0 rfl) ?_
    refine lv_iload_n hx hb dX9_wrong_92 rfl (lv_at hl 2 rfl) ?_
    refine pf_9_15 C P p_a0 q_1320 dX9_wrong_93 (fun H locs P => ?_)
    obtain ⟨S2, hS⟩ : ∃ z, z = (sI S1 a0 15 y2) := ⟨_, rfl⟩
    have P : PW G A s H locs S0 S2 := by rw [hS]; exact P
    have p_a0 : pI S2 9 a0 := by rw [hS]; exact pI_x ext_sI p_a0
    have hw := hw S2 hS
    refine lv_iload_n hx hb dX9_wrong_96 rfl (lv_at hl 2 rfl) ?_
    refine lv_if_eq (tgt := 109) hx hb dX9_wrong_97 (by decide) (fun hc => ?_) (fun hc => ?_)
    · have hw := hw.1 hc
      refine lv_aload_n hx hb dX9_wrong_109 rfl (lv_at hl 0 rfl) ?_
      refine gf_9_12 C P p_a0 q_1317 dX9_wrong_110 ?_
      refine lv_goto (tgt := 117) hx hb dX9_wrong_113 (by decide) ?_
      exact e_i C hr rfl P hw (by omega) (by omega) dX9_wrong_117
    · have hw := hw.2 hc
      refine lv_iload_n hx hb dX9_wrong_100 rfl (lv_at hl 1 rfl) ?_
      refine lv_if_lt (tgt := 116) hx hb dX9_wrong_101 (by decide) (fun hc => ?_) (fun hc => ?_)
      · have hw := hw.1 hc
        refine lv_iconst (v := (-1)) hx hb dX9_wrong_116 (by decide) ?_
        exact e_i C hr rfl P hw (by omega) (by omega) dX9_wrong_117
      · have hw := hw.2 hc
        refine lv_iload_n hx hb dX9_wrong_104 rfl (lv_at hl 2 rfl) ?_
        refine lv_iload_n hx hb dX9_wrong_105 rfl (lv_at hl 1 rfl) ?_
        refine lv_icmp_ge (tgt := 116) hx hb dX9_wrong_106 (by decide) (fun hc => ?_) (fun hc => ?_)
        · have hw := hw.1 hc
          refine lv_iconst (v := (-1)) hx hb dX9_wrong_116 (by decide) ?_
          exact e_i C hr rfl P hw (by omega) (by omega) dX9_wrong_117
        · have hw := hw.2 hc
          refine lv_aload_n hx hb dX9_wrong_109 rfl (lv_at hl 0 rfl) ?_
          refine gf_9_12 C P p_a0 q_1317 dX9_wrong_110 ?_
          refine lv_goto (tgt := 117) hx hb dX9_wrong_113 (by decide) ?_
          exact e_i C hr rfl P hw (by omega) (by omega) dX9_wrong_117
  · have hw := hw.2 hc
    refine lv_aload_n hx hb dX9_wrong_18 rfl (lv_at hl 0 rfl) ?_
    obtain ⟨a3, e1, hw⟩ := hw
    have p_a3 : pI S 12 a3 := wf_r P.2.2.2.1 p_a0 e1
    refine gf_9_11 C P p_a0 e1 q_1316 dX9_wrong_19 ?_
    refine lv_iload hx hb dX9_wrong_22 (lv_at hl 4 rfl) ?_
    obtain ⟨h1, hw⟩ := hw
    refine ra_i C P p_a3 h1 dX9_wrong_24 ?_
    refine lv_bipush (v := 47) hx hb dX9_wrong_25 (by decide) ?_
    refine lv_icmp_ne (tgt := 56) hx hb dX9_wrong_27 (by decide) (fun hc => ?_) (fun hc => ?_)
    · have hw := hw.1 hc
      refine lv_aload_n hx hb dX9_wrong_56 rfl (lv_at hl 0 rfl) ?_
      obtain ⟨a4, e1, hw⟩ := hw
      have p_a4 : pI S 12 a4 := wf_r P.2.2.2.1 p_a0 e1
      refine gf_9_11 C P p_a0 e1 q_1316 dX9_wrong_57 ?_
      refine lv_iload hx hb dX9_wrong_60 (lv_at hl 4 rfl) ?_
      obtain ⟨h1, hw⟩ := hw
      refine ra_i C P p_a4 h1 dX9_wrong_62 ?_
      refine cl_i C P (run_S C P hl.1 (met_X9_terrainOf (CF_n C) G H.size _ _ S (mI S a4 (y4 : Int32).toNatClampNeg) hw) q_1398 q_1399 q_10 q_1400 cd_X9_terrainOf.2 ⟨(Nat.le_of_ble_eq_true rfl), (Nat.le_of_ble_eq_true rfl)⟩ rfl rfl (As := [.int (mI S a4 (y4 : Int32).toNatClampNeg)]) (rest := []) rfl rfl (Nat.le_of_ble_eq_true rfl) dX9_wrong_63 ⟨by show cells + 0 ≤ 0; omega, by show slots + 0 ≤ 0; omega⟩) (kx_out C hex (fun _ _ _ h => h) (by omega) (by omega)) (fun r6 S5 H locs P hE hw => ?_)
      have p_a0 : pI S5 9 a0 := pI_x hE p_a0
      refine lv_if_lt (tgt := 74) hx hb dX9_wrong_66 (by decide) (fun hc => ?_) (fun hc => ?_)
      · have hw := hw.1 hc
        refine lv_iload hx hb dX9_wrong_74 (lv_at hl 4 rfl) ?_
        exact e_i C hr rfl P hw (by omega) (by omega) dX9_wrong_76
      · have hw := hw.2 hc
        refine lv_iload_n hx hb dX9_wrong_69 rfl (lv_at hl 2 rfl) ?_
        refine lv_iload_n hx hb dX9_wrong_70 rfl (lv_at hl 1 rfl) ?_
        refine lv_icmp_ne (tgt := 77) hx hb dX9_wrong_71 (by decide) (fun hc => ?_) (fun hc => ?_)
        · have hw := hw.1 hc
          refine lv_iinc (v := (y2 + 1)) (lv' := [(2, .int (y2 + 1)), (0, .ref a0), (1, .int y1), (3, .int y3), (4, .int y4)]) hx hb dX9_wrong_77 hl (k := 2) rfl (by rfl) (by decide) rfl (fun ls hl => ?_)
          refine lv_iinc (v := (y4 + 1)) (lv' := [(4, .int (y4 + 1)), (2, .int (y2 + 1)), (0, .ref a0), (1, .int y1), (3, .int y3)]) hx hb dX9_wrong_80 hl (k := 4) rfl (by rfl) (by decide) rfl (fun ls hl => ?_)
          refine lv_goto (tgt := 9) hx hb dX9_wrong_83 (by decide) ?_
          exact kh9 S5 a0 y1 (y2 + 1) y3 (y4 + 1) _ _ _ _ _ p_a0 P (lv_sub hl [2, 3, 1, 4, 0] rfl) (by omega) (by omega) hw
        · have hw := hw.2 hc
          refine lv_iload hx hb dX9_wrong_74 (lv_at hl 4 rfl) ?_
          exact e_i C hr rfl P hw (by omega) (by omega) dX9_wrong_76
    · have hw := hw.2 hc
      refine lv_iload_n hx hb dX9_wrong_30 rfl (lv_at hl 2 rfl) ?_
      refine lv_if_eq (tgt := 43) hx hb dX9_wrong_31 (by decide) (fun hc => ?_) (fun hc => ?_)
      · have hw := hw.1 hc
        refine lv_iload hx hb dX9_wrong_43 (lv_at hl 4 rfl) ?_
        exact e_i C hr rfl P hw (by omega) (by omega) dX9_wrong_45
      · have hw := hw.2 hc
        refine lv_iload_n hx hb dX9_wrong_34 rfl (lv_at hl 1 rfl) ?_
        refine lv_if_lt (tgt := 46) hx hb dX9_wrong_35 (by decide) (fun hc => ?_) (fun hc => ?_)
        · have hw := hw.1 hc
          exact tX9_wrong_46 C hr hex Q QX k9 kh9 S a0 y2 y3 y4 p_a0 P (lv_sub hl [0, 2, 3, 4] rfl) (by omega) (by omega) hw
        · have hw := hw.2 hc
          refine lv_iload_n hx hb dX9_wrong_38 rfl (lv_at hl 2 rfl) ?_
          refine lv_iload_n hx hb dX9_wrong_39 rfl (lv_at hl 1 rfl) ?_
          refine lv_icmp_ge (tgt := 46) hx hb dX9_wrong_40 (by decide) (fun hc => ?_) (fun hc => ?_)
          · have hw := hw.1 hc
            exact tX9_wrong_46 C hr hex Q QX k9 kh9 S a0 y2 y3 y4 p_a0 P (lv_sub hl [0, 2, 3, 4] rfl) (by omega) (by omega) hw
          · have hw := hw.2 hc
            refine lv_iload hx hb dX9_wrong_43 (lv_at hl 4 rfl) ?_
            exact e_i C hr rfl P hw (by omega) (by omega) dX9_wrong_45
def lX9_wrong_9 (Q : Int32 → MS → Prop) (QX : String → MS → Prop) : Nat → MS → Nat → Int32 → Int32 → Int32 → Int32 → Prop
  | 0 => fun _ _ _ _ _ _ => False
  | n + 1 => fun S a0 y1 y2 y3 y4 => wX9_wrong_9 Q QX (lX9_wrong_9 Q QX n) S a0 y1 y2 y3 y4
theorem tlX9_wrong_9 {p : Program} {l : Launch} {e : Env} {s : State} {m : MethodId} {args : Array Value} {below : List Frame} {meth : Method} {c : Code} {G : GP} {A : Nat → Prop} {S0 : MS} (C : CF p l s m args meth c "SkirmishGridModel" cX9_wrong 5 G A) (hr : meth.sig.returnType = (some .int)) (hex : ∀ x ∈ c.exceptionTable.toList, False) (Q : Int32 → MS → Prop) (QX : String → MS → Prop) : ∀ (n : Nat), ∀ (S : MS) (a0 : Nat) (y1 : Int32) (y2 : Int32) (y3 : Int32) (y4 : Int32) (cells slots : Nat) (H : Heap) (locs : List Loc) (ls : Array Slot), pI S 9 a0 → PW G A s H locs S0 S → lv_has ls 5 [(0, .ref a0), (1, .int y1), (2, .int y2), (3, .int y3), (4, .int y4)] → cells + 0 ≤ 0 → slots + 0 ≤ 0 → lX9_wrong_9 Q QX n S a0 y1 y2 y3 y4 → W p l e rmX9_wrong s m args below meth c H locs cells slots (vx_MQ below (QI G S0 A Q) (XX G S0 A QX) args s 0 0 A) (F0 m 9 ls []) := by
  intro n
  induction n with
  | zero => intro S a0 y1 y2 y3 y4 cells slots H locs ls p_a0 P hl hcc hss hw; exact hw.elim
  | succ n ih => intro S a0 y1 y2 y3 y4 cells slots H locs ls p_a0 P hl hcc hss hw; exact tX9_wrong_9 C hr hex Q QX (lX9_wrong_9 Q QX n) ih S a0 y1 y2 y3 y4 p_a0 P hl hcc hss hw
def wX9_wrong_0 (Q : Int32 → MS → Prop) (QX : String → MS → Prop) (S : MS) (a0 : Nat) : Prop := (∃ n, lX9_wrong_9 Q QX n S a0 (-1) 0 1 0)
set_option maxHeartbeats 4000000 in
set_option maxRecDepth 100000 in
theorem tX9_wrong_0 {p : Program} {l : Launch} {e : Env} {s : State} {m : MethodId} {args : Array Value} {below : List Frame} {meth : Method} {c : Code} {H : Heap} {locs : List Loc} {cells slots : Nat} {G : GP} {A : Nat → Prop} {S0 : MS} {ls : Array Slot} (C : CF p l s m args meth c "SkirmishGridModel" cX9_wrong 5 G A) (hr : meth.sig.returnType = (some .int)) (hex : ∀ x ∈ c.exceptionTable.toList, False) (Q : Int32 → MS → Prop) (QX : String → MS → Prop) (S : MS) (a0 : Nat) (p_a0 : pI S 9 a0) (P : PW G A s H locs S0 S) (hl : lv_has ls 5 [(0, .ref a0)]) (hcc : cells + 0 ≤ 0) (hss : slots + 0 ≤ 0) (hw : wX9_wrong_0 Q QX S a0) : W p l e rmX9_wrong s m args below meth c H locs cells slots (vx_MQ below (QI G S0 A Q) (XX G S0 A QX) args s 0 0 A) (F0 m 0 ls []) := by
  have hx := CF_x C
  have hb := CF_b C
  unfold wX9_wrong_0 at hw
  refine lv_iconst (v := (-1)) hx hb dX9_wrong_0 (by decide) ?_
  refine lv_istore_n (lv' := [(1, .int (-1)), (0, .ref a0)]) hx hb dX9_wrong_1 rfl hl (by decide) rfl (fun ls hl => ?_)
  refine lv_iconst (v := 0) hx hb dX9_wrong_2 (by decide) ?_
  refine lv_istore_n (lv' := [(2, .int 0), (1, .int (-1)), (0, .ref a0)]) hx hb dX9_wrong_3 rfl hl (by decide) rfl (fun ls hl => ?_)
  refine lv_iconst (v := 1) hx hb dX9_wrong_4 (by decide) ?_
  refine lv_istore_n (lv' := [(3, .int 1), (2, .int 0), (1, .int (-1)), (0, .ref a0)]) hx hb dX9_wrong_5 rfl hl (by decide) rfl (fun ls hl => ?_)
  refine lv_iconst (v := 0) hx hb dX9_wrong_6 (by decide) ?_
  refine lv_istore (lv' := [(4, .int 0), (3, .int 1), (2, .int 0), (1, .int (-1)), (0, .ref a0)]) hx hb dX9_wrong_7 hl (by decide) rfl (fun ls hl => ?_)
  obtain ⟨n, hw⟩ := hw
  exact tlX9_wrong_9 C hr hex Q QX n S a0 (-1) 0 1 0 _ _ _ _ _ p_a0 P (lv_sub hl [4, 3, 2, 1, 0] rfl) (by omega) (by omega) hw
def wp_X9_wrong (Q : Int32 → MS → Prop) (QX : String → MS → Prop) (S : MS) (a0 : Nat) : Prop := wX9_wrong_0 Q QX S a0
set_option maxHeartbeats 4000000 in
set_option maxRecDepth 100000 in
theorem met_X9_wrong {l : Launch} (hst : l.stackTraces = false) (G : GP) (sz : Nat) (Q : Int32 → MS → Prop) (QX : String → MS → Prop) (S : MS) (a0 : Nat) (p_a0 : pI S 9 a0) (hw : wp_X9_wrong Q QX S a0) : vx_Met l yX9_wrong (.code yX9_wrong cX9_wrong 5 (some .int) :: GW) rmX9_wrong (va_Pc [.ref a0] (PR G S sz)) (QI G S (FA G S sz) Q) (XX G S (FA G S sz) QX) 0 0 (FA G S sz) := by
  refine st_m (by decide +kernel) hst (fun p e s m below meth c C hr hnm hex P => ?_)
  refine en_m (Nat.le_of_ble_eq_true rfl) (lv := [(0, .ref a0)]) rfl (fun ls hl => ?_)
  have C : CF p l s m _ meth c "SkirmishGridModel" cX9_wrong 5 G (FA G S sz) := C
  exact tX9_wrong_0 C hr hex Q QX S a0 p_a0 P hl (by omega) (by omega) hw
theorem cd_X9_wrong : yX9_wrong.cls = RX9 ∧ yX9_wrong.cls ≠ "java/lang/invoke/MethodHandle" ∧ yX9_wrong.cls ≠ "java/lang/invoke/VarHandle" ∧ (parseMethodDescriptor yX9_wrong.desc).map (fun d => d.parameters.length) = some 0 := by decide +kernel
abbrev rmX9_load : Room := { frames := 2, cells := 0, slots := 0, locals := 44 }
def wX9_load_61 (Q : Int32 → MS → Prop) (QX : String → MS → Prop) (S : MS) (a0 : Nat) : Prop := wp_X9_no (fun r2 S1 => Q r2 S1) QX S a0 2
set_option maxHeartbeats 4000000 in
set_option maxRecDepth 100000 in
theorem tX9_load_61 {p : Program} {l : Launch} {e : Env} {s : State} {m : MethodId} {args : Array Value} {below : List Frame} {meth : Method} {c : Code} {H : Heap} {locs : List Loc} {cells slots : Nat} {G : GP} {A : Nat → Prop} {S0 : MS} {ls : Array Slot} (C : CF p l s m args meth c "SkirmishGridModel" cX9_load 6 G A) (hr : meth.sig.returnType = (some .int)) (hex : ∀ x ∈ c.exceptionTable.toList, False) (Q : Int32 → MS → Prop) (QX : String → MS → Prop) (S : MS) (a0 : Nat) (p_a0 : pI S 9 a0) (P : PW G A s H locs S0 S) (hl : lv_has ls 6 [(0, .ref a0)]) (hcc : cells + 0 ≤ 0) (hss : slots + 0 ≤ 0) (hw : wX9_load_61 Q QX S a0) : W p l e rmX9_load s m args below meth c H locs cells slots (vx_MQ below (QI G S0 A Q) (XX G S0 A QX) args s 0 0 A) (F0 m 61 ls []) := by
  have hx := CF_x C
  have hb := CF_b C
  unfold wX9_load_61 at hw
  refine lv_aload_n hx hb dX9_load_61 rfl (lv_at hl 0 rfl) ?_
  refine lv_iconst (v := 2) hx hb dX9_load_62 (by decide) ?_
  refine cl_i C P (run_V C P hl.1 (kd := 9) (met_X9_no (CF_n C) G H.size _ _ S a0 2 p_a0 hw) p_a0 (by decide) rfl q_1386 q_1388 q_p23 q_10 q_1389 cd_X9_no ⟨(Nat.le_of_ble_eq_true rfl), (Nat.le_of_ble_eq_true rfl)⟩ rfl rfl (As := [.int 2]) (rest := []) rfl rfl (Nat.le_of_ble_eq_true rfl) dX9_load_63 ⟨by show cells + 0 ≤ 0; omega, by show slots + 0 ≤ 0; omega⟩) (kx_out C hex (fun _ _ _ h => h) (by omega) (by omega)) (fun r2 S1 H locs P hE hw => ?_)
  have p_a0 : pI S1 9 a0 := pI_x hE p_a0
  exact e_i C hr rfl P hw (by omega) (by omega) dX9_load_66
def wX9_load_98 (Q : Int32 → MS → Prop) (QX : String → MS → Prop) (k98 : MS → Nat → Int32 → Int32 → Int32 → Int32 → Prop) (S : MS) (a0 : Nat) (y1 : Int32) (y3 : Int32) (y4 : Int32) (y5 : Int32) : Prop := ((y3 ≤ y5 → (∃ a1, mR S a0 1 = some a1 ∧ (vp_in 0 (mN S a1) ∧ (∀ S2, S2 = (sI S a1 (0 : Int32).toNatClampNeg (mI S a0 14)) → (∃ a3, mR S2 a0 1 = some a3 ∧ (vp_in 1 (mN S2 a3) ∧ (∀ S4, S4 = (sI S2 a3 (1 : Int32).toNatClampNeg (mI S2 a0 15)) → (∃ a5, mR S4 a0 1 = some a5 ∧ (vp_in 155 (mN S4 a5) ∧ (∀ S6, S6 = (sI S4 a5 (155 : Int32).toNatClampNeg y1) → (∃ a7, mR S6 a0 1 = some a7 ∧ (vp_in 166 (mN S6 a7) ∧ (∀ S8, S8 = (sI S6 a7 (166 : Int32).toNatClampNeg (-1)) → (∀ S9, S9 = (sI S8 a0 9 0) → Q ((10 * (mI S9 a0 14)) + (mI S9 a0 15)) S9)))))))))))))) ∧ (¬ y3 ≤ y5 → (∃ a10, mR S a0 11 = some a10 ∧ (vp_in y5 (mN S a10) ∧ ((¬ (mI S a10 (y5 : Int32).toNatClampNeg) = 47 → (∃ a11, mR S a0 1 = some a11 ∧ (∃ a12, mR S a0 11 = some a12 ∧ (vp_in y5 (mN S a12) ∧ wp_X9_terrainOf (fun r14 S13 => (vp_in y4 (mN S13 a11) ∧ (∀ S15, S15 = (sI S13 a11 (y4 : Int32).toNatClampNeg r14) → k98 S15 a0 y1 y3 (y4 + 1) (y5 + 1)))) QX S (mI S a12 (y5 : Int32).toNatClampNeg))))) ∧ ((mI S a10 (y5 : Int32).toNatClampNeg) = 47 → k98 S a0 y1 y3 y4 (y5 + 1)))))))
set_option maxHeartbeats 4000000 in
set_option maxRecDepth 100000 in
theorem tX9_load_98 {p : Program} {l : Launch} {e : Env} {s : State} {m : MethodId} {args : Array Value} {below : List Frame} {meth : Method} {c : Code} {H : Heap} {locs : List Loc} {cells slots : Nat} {G : GP} {A : Nat → Prop} {S0 : MS} {ls : Array Slot} (C : CF p l s m args meth c "SkirmishGridModel" cX9_load 6 G A) (hr : meth.sig.returnType = (some .int)) (hex : ∀ x ∈ c.exceptionTable.toList, False) (Q : Int32 → MS → Prop) (QX : String → MS → Prop) (k98 : MS → Nat → Int32 → Int32 → Int32 → Int32 → Prop) (kh98 : ∀ (S : MS) (a0 : Nat) (y1 : Int32) (y3 : Int32) (y4 : Int32) (y5 : Int32) (cells slots : Nat) (H : Heap) (locs : List Loc) (ls : Array Slot), pI S 9 a0 → PW G A s H locs S0 S → lv_has ls 6 [(0, .ref a0), (1, .int y1), (3, .int y3), (4, .int y4), (5, .int y5)] → cells + 0 ≤ 0 → slots + 0 ≤ 0 → k98 S a0 y1 y3 y4 y5 → W p l e rmX9_load s m args below meth c H locs cells slots (vx_MQ below (QI G S0 A Q) (XX G S0 A QX) args s 0 0 A) (F0 m 98 ls [])) (S : MS) (a0 : Nat) (y1 : Int32) (y3 : Int32) (y4 : Int32) (y5 : Int32) (p_a0 : pI S 9 a0) (P : PW G A s H locs S0 S) (hl : lv_has ls 6 [(0, .ref a0), (1, .int y1), (3, .int y3), (4, .int y4), (5, .int y5)]) (hcc : cells + 0 ≤ 0) (hss : slots + 0 ≤ 0) (hw : wX9_load_98 Q QX k98 S a0 y1 y3 y4 y5) : W p l e rmX9_load s m args below meth c H locs cells slots (vx_MQ below (QI G S0 A Q) (XX G S0 A QX) args s 0 0 A) (F0 m 98 ls []) := by
  have hx := CF_x C
  have hb := CF_b C
  unfold wX9_load_98 at hw
  refine lv_iload hx hb dX9_load_98 (lv_at hl 4 rfl) ?_
  refine lv_iload_n hx hb dX9_load_100 rfl (lv_at hl 2 rfl) ?_
  refine lv_icmp_ge (tgt := 145) hx hb dX9_load_101 (by decide) (fun hc => ?_) (fun hc => ?_)
  · have hw := hw.1 hc
    refine lv_aload_n hx hb dX9_load_145 rfl (lv_at hl 0 rfl) ?_
    obtain ⟨a1, e1, hw⟩ := hw
    have p_a1 : pI S 12 a1 := wf_r P.2.2.2.1 p_a0 e1
    refine gf_9_1 C P p_a0 e1 q_1306 dX9_load_146 ?_
    refine lv_iconst (v := 0) hx hb dX9_load_149 (by decide) ?_
    refine lv_aload_n hx hb dX9_load_150 rfl (lv_at hl 0 rfl) ?_
    refine gf_9_14 C P p_a0 q_1319 dX9_load_151 ?_
    obtain ⟨h1, hw⟩ := hw
    refine rs_i C P p_a1 h1 dX9_load_154 (fun H locs P => ?_)
    obtain ⟨S2, hS⟩ : ∃ z, z = (sI S a1 (0 : Int32).toNatClampNeg (mI S a0 14)) := ⟨_, rfl⟩
    have P : PW G A s H locs S0 S2 := by rw [hS]; exact P
    have p_a0 : pI S2 9 a0 := by rw [hS]; exact pI_x ext_sI p_a0
    have p_a1 : pI S2 12 a1 := by rw [hS]; exact pI_x ext_sI p_a1
    have hw := hw S2 hS
    refine lv_aload_n hx hb dX9_load_155 rfl (lv_at hl 0 rfl) ?_
    obtain ⟨a3, e1, hw⟩ := hw
    have p_a3 : pI S2 12 a3 := wf_r P.2.2.2.1 p_a0 e1
    refine gf_9_1 C P p_a0 e1 q_1306 dX9_load_156 ?_
    refine lv_iconst (v := 1) hx hb dX9_load_159 (by decide) ?_
    refine lv_aload_n hx hb dX9_load_160 rfl (lv_at hl 0 rfl) ?_
    refine gf_9_15 C P p_a0 q_1320 dX9_load_161 ?_
    obtain ⟨h1, hw⟩ := hw
    refine rs_i C P p_a3 h1 dX9_load_164 (fun H locs P => ?_)
    obtain ⟨S4, hS⟩ : ∃ z, z = (sI S2 a3 (1 : Int32).toNatClampNeg (mI S2 a0 15)) := ⟨_, rfl⟩
    have P : PW G A s H locs S0 S4 := by rw [hS]; exact P
    have p_a0 : pI S4 9 a0 := by rw [hS]; exact pI_x ext_sI p_a0
    have p_a3 : pI S4 12 a3 := by rw [hS]; exact pI_x ext_sI p_a3
    have hw := hw S4 hS
    refine lv_aload_n hx hb dX9_load_165 rfl (lv_at hl 0 rfl) ?_
    obtain ⟨a5, e1, hw⟩ := hw
    have p_a5 : pI S4 12 a5 := wf_r P.2.2.2.1 p_a0 e1
    refine gf_9_1 C P p_a0 e1 q_1306 dX9_load_166 ?_
    refine lv_sipush (v := 155) hx hb dX9_load_169 (by decide) ?_
    refine lv_iload_n hx hb dX9_load_172 rfl (lv_at hl 1 rfl) ?_
    obtain ⟨h1, hw⟩ := hw
    refine rs_i C P p_a5 h1 dX9_load_173 (fun H locs P => ?_)
    obtain ⟨S6, hS⟩ : ∃ z, z = (sI S4 a5 (155 : Int32).toNatClampNeg y1) := ⟨_, rfl⟩
    have P : PW G A s H locs S0 S6 := by rw [hS]; exact P
    have p_a0 : pI S6 9 a0 := by rw [hS]; exact pI_x ext_sI p_a0
    have p_a5 : pI S6 12 a5 := by rw [hS]; exact pI_x ext_sI p_a5
    have hw := hw S6 hS
    refine lv_aload_n hx hb dX9_load_174 rfl (lv_at hl 0 rfl) ?_
    obtain ⟨a7, e1, hw⟩ := hw
    have p_a7 : pI S6 12 a7 := wf_r P.2.2.2.1 p_a0 e1
    refine gf_9_1 C P p_a0 e1 q_1306 dX9_load_175 ?_
    refine lv_sipush (v := 166) hx hb dX9_load_178 (by decide) ?_
    refine lv_iconst (v := (-1)) hx hb dX9_load_181 (by decide) ?_
    obtain ⟨h1, hw⟩ := hw
    refine rs_i C P p_a7 h1 dX9_load_182 (fun H locs P => ?_)
    obtain ⟨S8, hS⟩ : ∃ z, z = (sI S6 a7 (166 : Int32).toNatClampNeg (-1)) := ⟨_, rfl⟩
    have P : PW G A s H locs S0 S8 := by rw [hS]; exact P
    have p_a0 : pI S8 9 a0 := by rw [hS]; exact pI_x ext_sI p_a0
    have p_a7 : pI S8 12 a7 := by rw [hS]; exact pI_x ext_sI p_a7
    have hw := hw S8 hS
    refine lv_aload_n hx hb dX9_load_183 rfl (lv_at hl 0 rfl) ?_
    refine lv_iconst (v := 0) hx hb dX9_load_184 (by decide) ?_
    refine pf_9_9 C P p_a0 q_1314 dX9_load_185 (fun H locs P => ?_)
    obtain ⟨S9, hS⟩ : ∃ z, z = (sI S8 a0 9 0) := ⟨_, rfl⟩
    have P : PW G A s H locs S0 S9 := by rw [hS]; exact P
    have p_a0 : pI S9 9 a0 := by rw [hS]; exact pI_x ext_sI p_a0
    have hw := hw S9 hS
    refine lv_bipush (v := 10) hx hb dX9_load_188 (by decide) ?_
    refine lv_aload_n hx hb dX9_load_190 rfl (lv_at hl 0 rfl) ?_
    refine gf_9_14 C P p_a0 q_1319 dX9_load_191 ?_
    refine lv_imul hx hb dX9_load_194 ?_
    refine lv_aload_n hx hb dX9_load_195 rfl (lv_at hl 0 rfl) ?_
    refine gf_9_15 C P p_a0 q_1320 dX9_load_196 ?_
    refine lv_iadd hx hb dX9_load_199 ?_
    exact e_i C hr rfl P hw (by omega) (by omega) dX9_load_200
  · have hw := hw.2 hc
    refine lv_aload_n hx hb dX9_load_104 rfl (lv_at hl 0 rfl) ?_
    obtain ⟨a10, e1, hw⟩ := hw
    have p_a10 : pI S 12 a10 := wf_r P.2.2.2.1 p_a0 e1
    refine gf_9_11 C P p_a0 e1 q_1316 dX9_load_105 ?_
    refine lv_iload hx hb dX9_load_108 (lv_at hl 4 rfl) ?_
    obtain ⟨h1, hw⟩ := hw
    refine ra_i C P p_a10 h1 dX9_load_110 ?_
    refine lv_bipush (v := 47) hx hb dX9_load_111 (by decide) ?_
    refine lv_icmp_ne (tgt := 119) hx hb dX9_load_113 (by decide) (fun hc => ?_) (fun hc => ?_)
    · have hw := hw.1 hc
      refine lv_aload_n hx hb dX9_load_119 rfl (lv_at hl 0 rfl) ?_
      obtain ⟨a11, e1, hw⟩ := hw
      have p_a11 : pI S 12 a11 := wf_r P.2.2.2.1 p_a0 e1
      refine gf_9_1 C P p_a0 e1 q_1306 dX9_load_120 ?_
      refine lv_iload hx hb dX9_load_123 (lv_at hl 3 rfl) ?_
      refine lv_aload_n hx hb dX9_load_125 rfl (lv_at hl 0 rfl) ?_
      obtain ⟨a12, e1, hw⟩ := hw
      have p_a12 : pI S 12 a12 := wf_r P.2.2.2.1 p_a0 e1
      refine gf_9_11 C P p_a0 e1 q_1316 dX9_load_126 ?_
      refine lv_iload hx hb dX9_load_129 (lv_at hl 4 rfl) ?_
      obtain ⟨h1, hw⟩ := hw
      refine ra_i C P p_a12 h1 dX9_load_131 ?_
      refine cl_i C P (run_S C P hl.1 (met_X9_terrainOf (CF_n C) G H.size _ _ S (mI S a12 (y5 : Int32).toNatClampNeg) hw) q_1398 q_1399 q_10 q_1400 cd_X9_terrainOf.2 ⟨(Nat.le_of_ble_eq_true rfl), (Nat.le_of_ble_eq_true rfl)⟩ rfl rfl (As := [.int (mI S a12 (y5 : Int32).toNatClampNeg)]) (rest := [.int y4, .ref a11]) rfl rfl (Nat.le_of_ble_eq_true rfl) dX9_load_132 ⟨by show cells + 0 ≤ 0; omega, by show slots + 0 ≤ 0; omega⟩) (kx_out C hex (fun _ _ _ h => h) (by omega) (by omega)) (fun r14 S13 H locs P hE hw => ?_)
      have p_a0 : pI S13 9 a0 := pI_x hE p_a0
      have p_a11 : pI S13 12 a11 := pI_x hE p_a11
      obtain ⟨h1, hw⟩ := hw
      refine rs_i C P p_a11 h1 dX9_load_135 (fun H locs P => ?_)
      obtain ⟨S15, hS⟩ : ∃ z, z = (sI S13 a11 (y4 : Int32).toNatClampNeg r14) := ⟨_, rfl⟩
      have P : PW G A s H locs S0 S15 := by rw [hS]; exact P
      have p_a0 : pI S15 9 a0 := by rw [hS]; exact pI_x ext_sI p_a0
      have p_a11 : pI S15 12 a11 := by rw [hS]; exact pI_x ext_sI p_a11
      have hw := hw S15 hS
      refine lv_iinc (v := (y4 + 1)) (lv' := [(4, .int (y4 + 1)), (0, .ref a0), (1, .int y1), (3, .int y3), (5, .int y5)]) hx hb dX9_load_136 hl (k := 3) rfl (by rfl) (by decide) rfl (fun ls hl => ?_)
      refine lv_iinc (v := (y5 + 1)) (lv' := [(5, .int (y5 + 1)), (4, .int (y4 + 1)), (0, .ref a0), (1, .int y1), (3, .int y3)]) hx hb dX9_load_139 hl (k := 4) rfl (by rfl) (by decide) rfl (fun ls hl => ?_)
      refine lv_goto (tgt := 98) hx hb dX9_load_142 (by decide) ?_
      exact kh98 S15 a0 y1 y3 (y4 + 1) (y5 + 1) _ _ _ _ _ p_a0 P (lv_sub hl [2, 3, 4, 1, 0] rfl) (by omega) (by omega) hw
    · have hw := hw.2 hc
      refine lv_goto (tgt := 139) hx hb dX9_load_116 (by decide) ?_
      refine lv_iinc (v := (y5 + 1)) (lv' := [(5, .int (y5 + 1)), (0, .ref a0), (1, .int y1), (3, .int y3), (4, .int y4)]) hx hb dX9_load_139 hl (k := 4) rfl (by rfl) (by decide) rfl (fun ls hl => ?_)
      refine lv_goto (tgt := 98) hx hb dX9_load_142 (by decide) ?_
      exact kh98 S a0 y1 y3 y4 (y5 + 1) _ _ _ _ _ p_a0 P (lv_sub hl [1, 2, 3, 4, 0] rfl) (by omega) (by omega) hw
def lX9_load_98 (Q : Int32 → MS → Prop) (QX : String → MS → Prop) : Nat → MS → Nat → Int32 → Int32 → Int32 → Int32 → Prop
  | 0 => fun _ _ _ _ _ _ => False
  | n + 1 => fun S a0 y1 y3 y4 y5 => wX9_load_98 Q QX (lX9_load_98 Q QX n) S a0 y1 y3 y4 y5
theorem tlX9_load_98 {p : Program} {l : Launch} {e : Env} {s : State} {m : MethodId} {args : Array Value} {below : List Frame} {meth : Method} {c : Code} {G : GP} {A : Nat → Prop} {S0 : MS} (C : CF p l s m args meth c "SkirmishGridModel" cX9_load 6 G A) (hr : meth.sig.returnType = (some .int)) (hex : ∀ x ∈ c.exceptionTable.toList, False) (Q : Int32 → MS → Prop) (QX : String → MS → Prop) : ∀ (n : Nat), ∀ (S : MS) (a0 : Nat) (y1 : Int32) (y3 : Int32) (y4 : Int32) (y5 : Int32) (cells slots : Nat) (H : Heap) (locs : List Loc) (ls : Array Slot), pI S 9 a0 → PW G A s H locs S0 S → lv_has ls 6 [(0, .ref a0), (1, .int y1), (3, .int y3), (4, .int y4), (5, .int y5)] → cells + 0 ≤ 0 → slots + 0 ≤ 0 → lX9_load_98 Q QX n S a0 y1 y3 y4 y5 → W p l e rmX9_load s m args below meth c H locs cells slots (vx_MQ below (QI G S0 A Q) (XX G S0 A QX) args s 0 0 A) (F0 m 98 ls []) := by
  intro n
  induction n with
  | zero => intro S a0 y1 y3 y4 y5 cells slots H locs ls p_a0 P hl hcc hss hw; exact hw.elim
  | succ n ih => intro S a0 y1 y3 y4 y5 cells slots H locs ls p_a0 P hl hcc hss hw; exact tX9_load_98 C hr hex Q QX (lX9_load_98 Q QX n) ih S a0 y1 y3 y4 y5 p_a0 P hl hcc hss hw
def wX9_load_70 (Q : Int32 → MS → Prop) (QX : String → MS → Prop) (k70 : MS → Nat → Int32 → Int32 → Int32 → Prop) (S : MS) (a0 : Nat) (y1 : Int32) (y3 : Int32) (y4 : Int32) : Prop := ((290 ≤ y4 → (∃ n, lX9_load_98 Q QX n S a0 y1 y3 2 0)) ∧ (¬ 290 ≤ y4 → (∃ a1, mR S a0 1 = some a1 ∧ (vp_in y4 (mN S a1) ∧ (∀ S2, S2 = (sI S a1 (y4 : Int32).toNatClampNeg 0) → k70 S2 a0 y1 y3 (y4 + 1))))))
set_option maxHeartbeats 4000000 in
set_option maxRecDepth 100000 in
theorem tX9_load_70 {p : Program} {l : Launch} {e : Env} {s : State} {m : MethodId} {args : Array Value} {below : List Frame} {meth : Method} {c : Code} {H : Heap} {locs : List Loc} {cells slots : Nat} {G : GP} {A : Nat → Prop} {S0 : MS} {ls : Array Slot} (C : CF p l s m args meth c "SkirmishGridModel" cX9_load 6 G A) (hr : meth.sig.returnType = (some .int)) (hex : ∀ x ∈ c.exceptionTable.toList, False) (Q : Int32 → MS → Prop) (QX : String → MS → Prop) (k70 : MS → Nat → Int32 → Int32 → Int32 → Prop) (kh70 : ∀ (S : MS) (a0 : Nat) (y1 : Int32) (y3 : Int32) (y4 : Int32) (cells slots : Nat) (H : Heap) (locs : List Loc) (ls : Array Slot), pI S 9 a0 → PW G A s H locs S0 S → lv_has ls 6 [(0, .ref a0), (1, .int y1), (3, .int y3), (4, .int y4)] → cells + 0 ≤ 0 → slots + 0 ≤ 0 → k70 S a0 y1 y3 y4 → W p l e rmX9_load s m args below meth c H locs cells slots (vx_MQ below (QI G S0 A Q) (XX G S0 A QX) args s 0 0 A) (F0 m 70 ls [])) (S : MS) (a0 : Nat) (y1 : Int32) (y3 : Int32) (y4 : Int32) (p_a0 : pI S 9 a0) (P : PW G A s H locs S0 S) (hl : lv_has ls 6 [(0, .ref a0), (1, .int y1), (3, .int y3), (4, .int y4)]) (hcc : cells + 0 ≤ 0) (hss : slots + 0 ≤ 0) (hw : wX9_load_70 Q QX k70 S a0 y1 y3 y4) : W p l e rmX9_load s m args below meth c H locs cells slots (vx_MQ below (QI G S0 A Q) (XX G S0 A QX) args s 0 0 A) (F0 m 70 ls []) := by
  have hx := CF_x C
  have hb := CF_b C
  unfold wX9_load_70 at hw
  refine lv_iload hx hb dX9_load_70 (lv_at hl 3 rfl) ?_
  refine lv_sipush (v := 290) hx hb dX9_load_72 (by decide) ?_
  refine lv_icmp_ge (tgt := 92) hx hb dX9_load_75 (by decide) (fun hc => ?_) (fun hc => ?_)
  · have hw := hw.1 hc
    refine lv_iconst (v := 2) hx hb dX9_load_92 (by decide) ?_
    refine lv_istore (lv' := [(4, .int 2), (0, .ref a0), (1, .int y1), (3, .int y3)]) hx hb dX9_load_93 hl (by decide) rfl (fun ls hl => ?_)
    refine lv_iconst (v := 0) hx hb dX9_load_95 (by decide) ?_
    refine lv_istore (lv' := [(5, .int 0), (4, .int 2), (0, .ref a0), (1, .int y1), (3, .int y3)]) hx hb dX9_load_96 hl (by decide) rfl (fun ls hl => ?_)
    obtain ⟨n, hw⟩ := hw
    exact tlX9_load_98 C hr hex Q QX n S a0 y1 y3 2 0 _ _ _ _ _ p_a0 P (lv_sub hl [2, 3, 4, 1, 0] rfl) (by omega) (by omega) hw
  · have hw := hw.2 hc
    refine lv_aload_n hx hb dX9_load_78 rfl (lv_at hl 0 rfl) ?_
    obtain ⟨a1, e1, hw⟩ := hw
    have p_a1 : pI S 12 a1 := wf_r P.2.2.2.1 p_a0 e1
    refine gf_9_1 C P p_a0 e1 q_1306 dX9_load_79 ?_
    refine lv_iload hx hb dX9_load_82 (lv_at hl 3 rfl) ?_
    refine lv_iconst (v := 0) hx hb dX9_load_84 (by decide) ?_
    obtain ⟨h1, hw⟩ := hw
    refine rs_i C P p_a1 h1 dX9_load_85 (fun H locs P => ?_)
    obtain ⟨S2, hS⟩ : ∃ z, z = (sI S a1 (y4 : Int32).toNatClampNeg 0) := ⟨_, rfl⟩
    have P : PW G A s H locs S0 S2 := by rw [hS]; exact P
    have p_a0 : pI S2 9 a0 := by rw [hS]; exact pI_x ext_sI p_a0
    have p_a1 : pI S2 12 a1 := by rw [hS]; exact pI_x ext_sI p_a1
    have hw := hw S2 hS
    refine lv_iinc (v := (y4 + 1)) (lv' := [(4, .int (y4 + 1)), (0, .ref a0), (1, .int y1), (3, .int y3)]) hx hb dX9_load_86 hl (k := 3) rfl (by rfl) (by decide) rfl (fun ls hl => ?_)
    refine lv_goto (tgt := 70) hx hb dX9_load_89 (by decide) ?_
    exact kh70 S2 a0 y1 y3 (y4 + 1) _ _ _ _ _ p_a0 P (lv_sub hl [1, 2, 3, 0] rfl) (by omega) (by omega) hw
def lX9_load_70 (Q : Int32 → MS → Prop) (QX : String → MS → Prop) : Nat → MS → Nat → Int32 → Int32 → Int32 → Prop
  | 0 => fun _ _ _ _ _ => False
  | n + 1 => fun S a0 y1 y3 y4 => wX9_load_70 Q QX (lX9_load_70 Q QX n) S a0 y1 y3 y4
theorem tlX9_load_70 {p : Program} {l : Launch} {e : Env} {s : State} {m : MethodId} {args : Array Value} {below : List Frame} {meth : Method} {c : Code} {G : GP} {A : Nat → Prop} {S0 : MS} (C : CF p l s m args meth c "SkirmishGridModel" cX9_load 6 G A) (hr : meth.sig.returnType = (some .int)) (hex : ∀ x ∈ c.exceptionTable.toList, False) (Q : Int32 → MS → Prop) (QX : String → MS → Prop) : ∀ (n : Nat), ∀ (S : MS) (a0 : Nat) (y1 : Int32) (y3 : Int32) (y4 : Int32) (cells slots : Nat) (H : Heap) (locs : List Loc) (ls : Array Slot), pI S 9 a0 → PW G A s H locs S0 S → lv_has ls 6 [(0, .ref a0), (1, .int y1), (3, .int y3), (4, .int y4)] → cells + 0 ≤ 0 → slots + 0 ≤ 0 → lX9_load_70 Q QX n S a0 y1 y3 y4 → W p l e rmX9_load s m args below meth c H locs cells slots (vx_MQ below (QI G S0 A Q) (XX G S0 A QX) args s 0 0 A) (F0 m 70 ls []) := by
  intro n
  induction n with
  | zero => intro S a0 y1 y3 y4 cells slots H locs ls p_a0 P hl hcc hss hw; exact hw.elim
  | succ n ih => intro S a0 y1 y3 y4 cells slots H locs ls p_a0 P hl hcc hss hw; exact tX9_load_70 C hr hex Q QX (lX9_load_70 Q QX n) ih S a0 y1 y3 y4 p_a0 P hl hcc hss hw
def wX9_load_0 (Q : Int32 → MS → Prop) (QX : String → MS → Prop) (S : MS) (a0 : Nat) (x1 : Int32) : Prop := (∀ S1, S1 = (sI S a0 0 0) → wp_X9_wrong (fun r3 S2 => (∀ S4, S4 = (sI S2 a0 12 0) → ((r3 < 0 → wp_X9_isIn (fun r6 S5 => ((r6 = 0 → wX9_load_61 Q QX S5 a0) ∧ (¬ r6 = 0 → wp_X9_isIn (fun r8 S7 => ((¬ r8 = 0 → (∃ n, lX9_load_70 Q QX n S7 a0 x1 (mI S2 a0 12) 0)) ∧ (r8 = 0 → wX9_load_61 Q QX S7 a0))) QX S5 (mI S5 a0 15) 3 8))) QX S4 (mI S4 a0 14) 3 8) ∧ (¬ r3 < 0 → (∀ S9, S9 = (sI S4 a0 13 r3) → wp_X9_no (fun r11 S10 => Q r11 S10) QX S9 a0 1))))) QX S1 a0)
set_option maxHeartbeats 4000000 in
set_option maxRecDepth 100000 in
theorem tX9_load_0 {p : Program} {l : Launch} {e : Env} {s : State} {m : MethodId} {args : Array Value} {below : List Frame} {meth : Method} {c : Code} {H : Heap} {locs : List Loc} {cells slots : Nat} {G : GP} {A : Nat → Prop} {S0 : MS} {ls : Array Slot} (C : CF p l s m args meth c "SkirmishGridModel" cX9_load 6 G A) (hr : meth.sig.returnType = (some .int)) (hex : ∀ x ∈ c.exceptionTable.toList, False) (Q : Int32 → MS → Prop) (QX : String → MS → Prop) (S : MS) (a0 : Nat) (x1 : Int32) (p_a0 : pI S 9 a0) (P : PW G A s H locs S0 S) (hl : lv_has ls 6 [(0, .ref a0), (1, .int x1)]) (hcc : cells + 0 ≤ 0) (hss : slots + 0 ≤ 0) (hw : wX9_load_0 Q QX S a0 x1) : W p l e rmX9_load s m args below meth c H locs cells slots (vx_MQ below (QI G S0 A Q) (XX G S0 A QX) args s 0 0 A) (F0 m 0 ls []) := by
  have hx := CF_x C
  have hb := CF_b C
  unfold wX9_load_0 at hw
  refine lv_aload_n hx hb dX9_load_0 rfl (lv_at hl 0 rfl) ?_
  refine lv_iconst (v := 0) hx hb dX9_load_1 (by decide) ?_
  refine pf_9_0 C P p_a0 q_1305 dX9_load_2 (fun H locs P => ?_)
  obtain ⟨S1, hS⟩ : ∃ z, z = (sI S a0 0 0) := ⟨_, rfl⟩
  have P : PW G A s H locs S0 S1 := by rw [hS]; exact P
  have p_a0 : pI S1 9 a0 := by rw [hS]; exact pI_x ext_sI p_a0
  have hw := hw S1 hS
  refine lv_aload_n hx hb dX9_load_5 rfl (lv_at hl 0 rfl) ?_
  refine cl_i C P (run_V C P hl.1 (kd := 9) (met_X9_wrong (CF_n C) G H.size _ _ S1 a0 p_a0 hw) p_a0 (by decide) rfl q_1394 q_1396 q_p24 q_10 q_1397 cd_X9_wrong ⟨(Nat.le_of_ble_eq_true rfl), (Nat.le_of_ble_eq_true rfl)⟩ rfl rfl (As := []) (rest := []) rfl rfl (Nat.le_of_ble_eq_true rfl) dX9_load_6 ⟨by show cells + 0 ≤ 0; omega, by show slots + 0 ≤ 0; omega⟩) (kx_out C hex (fun _ _ _ h => h) (by omega) (by omega)) (fun r3 S2 H locs P hE hw => ?_)
  have p_a0 : pI S2 9 a0 := pI_x hE p_a0
  refine lv_istore_n (lv' := [(2, .int r3), (0, .ref a0), (1, .int x1)]) hx hb dX9_load_9 rfl hl (by decide) rfl (fun ls hl => ?_)
  refine lv_aload_n hx hb dX9_load_10 rfl (lv_at hl 1 rfl) ?_
  refine gf_9_12 C P p_a0 q_1317 dX9_load_11 ?_
  refine lv_istore_n (lv' := [(3, .int (mI S2 a0 12)), (2, .int r3), (0, .ref a0), (1, .int x1)]) hx hb dX9_load_14 rfl hl (by decide) rfl (fun ls hl => ?_)
  refine lv_aload_n hx hb dX9_load_15 rfl (lv_at hl 2 rfl) ?_
  refine lv_iconst (v := 0) hx hb dX9_load_16 (by decide) ?_
  refine pf_9_12 C P p_a0 q_1317 dX9_load_17 (fun H locs P => ?_)
  obtain ⟨S4, hS⟩ : ∃ z, z = (sI S2 a0 12 0) := ⟨_, rfl⟩
  have P : PW G A s H locs S0 S4 := by rw [hS]; exact P
  have p_a0 : pI S4 9 a0 := by rw [hS]; exact pI_x ext_sI p_a0
  have hw := hw S4 hS
  refine lv_iload_n hx hb dX9_load_20 rfl (lv_at hl 1 rfl) ?_
  refine lv_if_lt (tgt := 35) hx hb dX9_load_21 (by decide) (fun hc => ?_) (fun hc => ?_)
  · have hw := hw.1 hc
    refine lv_aload_n hx hb dX9_load_35 rfl (lv_at hl 2 rfl) ?_
    refine gf_9_14 C P p_a0 q_1319 dX9_load_36 ?_
    refine lv_iconst (v := 3) hx hb dX9_load_39 (by decide) ?_
    refine lv_bipush (v := 8) hx hb dX9_load_40 (by decide) ?_
    refine cl_i C P (run_S C P hl.1 (met_X9_isIn (CF_n C) G H.size _ _ S4 (mI S4 a0 14) 3 8 hw) q_1383 q_1384 q_10 q_1385 cd_X9_isIn.2 ⟨(Nat.le_of_ble_eq_true rfl), (Nat.le_of_ble_eq_true rfl)⟩ rfl rfl (As := [.int (mI S4 a0 14), .int 3, .int 8]) (rest := []) rfl rfl (Nat.le_of_ble_eq_true rfl) dX9_load_42 ⟨by show cells + 0 ≤ 0; omega, by show slots + 0 ≤ 0; omega⟩) (kx_out C hex (fun _ _ _ h => h) (by omega) (by omega)) (fun r6 S5 H locs P hE hw => ?_)
    have p_a0 : pI S5 9 a0 := pI_x hE p_a0
    refine lv_if_eq (tgt := 61) hx hb dX9_load_45 (by decide) (fun hc => ?_) (fun hc => ?_)
    · have hw := hw.1 hc
      exact tX9_load_61 C hr hex Q QX S5 a0 p_a0 P (lv_sub hl [2] rfl) (by omega) (by omega) hw
    · have hw := hw.2 hc
      refine lv_aload_n hx hb dX9_load_48 rfl (lv_at hl 2 rfl) ?_
      refine gf_9_15 C P p_a0 q_1320 dX9_load_49 ?_
      refine lv_iconst (v := 3) hx hb dX9_load_52 (by decide) ?_
      refine lv_bipush (v := 8) hx hb dX9_load_53 (by decide) ?_
      refine cl_i C P (run_S C P hl.1 (met_X9_isIn (CF_n C) G H.size _ _ S5 (mI S5 a0 15) 3 8 hw) q_1383 q_1384 q_10 q_1385 cd_X9_isIn.2 ⟨(Nat.le_of_ble_eq_true rfl), (Nat.le_of_ble_eq_true rfl)⟩ rfl rfl (As := [.int (mI S5 a0 15), .int 3, .int 8]) (rest := []) rfl rfl (Nat.le_of_ble_eq_true rfl) dX9_load_55 ⟨by show cells + 0 ≤ 0; omega, by show slots + 0 ≤ 0; omega⟩) (kx_out C hex (fun _ _ _ h => h) (by omega) (by omega)) (fun r8 S7 H locs P hE hw => ?_)
      have p_a0 : pI S7 9 a0 := pI_x hE p_a0
      refine lv_if_ne (tgt := 67) hx hb dX9_load_58 (by decide) (fun hc => ?_) (fun hc => ?_)
      · have hw := hw.1 hc
        refine lv_iconst (v := 0) hx hb dX9_load_67 (by decide) ?_
        refine lv_istore (lv' := [(4, .int 0), (3, .int (mI S2 a0 12)), (2, .int r3), (0, .ref a0), (1, .int x1)]) hx hb dX9_load_68 hl (by decide) rfl (fun ls hl => ?_)
        obtain ⟨n, hw⟩ := hw
        exact tlX9_load_70 C hr hex Q QX n S7 a0 x1 (mI S2 a0 12) 0 _ _ _ _ _ p_a0 P (lv_sub hl [3, 4, 1, 0] rfl) (by omega) (by omega) hw
      · have hw := hw.2 hc
        exact tX9_load_61 C hr hex Q QX S7 a0 p_a0 P (lv_sub hl [2] rfl) (by omega) (by omega) hw
  · have hw := hw.2 hc
    refine lv_aload_n hx hb dX9_load_24 rfl (lv_at hl 2 rfl) ?_
    refine lv_iload_n hx hb dX9_load_25 rfl (lv_at hl 1 rfl) ?_
    refine pf_9_13 C P p_a0 q_1318 dX9_load_26 (fun H locs P => ?_)
    obtain ⟨S9, hS⟩ : ∃ z, z = (sI S4 a0 13 r3) := ⟨_, rfl⟩
    have P : PW G A s H locs S0 S9 := by rw [hS]; exact P
    have p_a0 : pI S9 9 a0 := by rw [hS]; exact pI_x ext_sI p_a0
    have hw := hw S9 hS
    refine lv_aload_n hx hb dX9_load_29 rfl (lv_at hl 2 rfl) ?_
    refine lv_iconst (v := 1) hx hb dX9_load_30 (by decide) ?_
    refine cl_i C P (run_V C P hl.1 (kd := 9) (met_X9_no (CF_n C) G H.size _ _ S9 a0 1 p_a0 hw) p_a0 (by decide) rfl q_1386 q_1388 q_p23 q_10 q_1389 cd_X9_no ⟨(Nat.le_of_ble_eq_true rfl), (Nat.le_of_ble_eq_true rfl)⟩ rfl rfl (As := [.int 1]) (rest := []) rfl rfl (Nat.le_of_ble_eq_true rfl) dX9_load_31 ⟨by show cells + 0 ≤ 0; omega, by show slots + 0 ≤ 0; omega⟩) (kx_out C hex (fun _ _ _ h => h) (by omega) (by omega)) (fun r11 S10 H locs P hE hw => ?_)
    have p_a0 : pI S10 9 a0 := pI_x hE p_a0
    exact e_i C hr rfl P hw (by omega) (by omega) dX9_load_34
def wp_X9_load (Q : Int32 → MS → Prop) (QX : String → MS → Prop) (S : MS) (a0 : Nat) (x1 : Int32) : Prop := wX9_load_0 Q QX S a0 x1
set_option maxHeartbeats 4000000 in
set_option maxRecDepth 100000 in
theorem met_X9_load {l : Launch} (hst : l.stackTraces = false) (G : GP) (sz : Nat) (Q : Int32 → MS → Prop) (QX : String → MS → Prop) (S : MS) (a0 : Nat) (x1 : Int32) (p_a0 : pI S 9 a0) (hw : wp_X9_load Q QX S a0 x1) : vx_Met l yX9_load (.code yX9_load cX9_load 6 (some .int) :: GW) rmX9_load (va_Pc [.ref a0, .int x1] (PR G S sz)) (QI G S (FA G S sz) Q) (XX G S (FA G S sz) QX) 0 0 (FA G S sz) := by
  refine st_m (by decide +kernel) hst (fun p e s m below meth c C hr hnm hex P => ?_)
  refine en_m (Nat.le_of_ble_eq_true rfl) (lv := [(0, .ref a0), (1, .int x1)]) rfl (fun ls hl => ?_)
  have C : CF p l s m _ meth c "SkirmishGridModel" cX9_load 6 G (FA G S sz) := C
  exact tX9_load_0 C hr hex Q QX S a0 x1 p_a0 P hl (by omega) (by omega) hw
theorem cd_X9_load : yX9_load.cls = RX9 ∧ yX9_load.cls ≠ "java/lang/invoke/MethodHandle" ∧ yX9_load.cls ≠ "java/lang/invoke/VarHandle" ∧ (parseMethodDescriptor yX9_load.desc).map (fun d => d.parameters.length) = some 1 := by decide +kernel
abbrev rmX9_errorPosition : Room := { frames := 0, cells := 0, slots := 0, locals := 0 }
def wX9_errorPosition_13 (Q : Int32 → MS → Prop) (QX : String → MS → Prop) (S : MS) (a0 : Nat) (z0 : Int32) (w1 : Nat) : Prop := (∀ S1, S1 = (sI S w1 0 z0) → ((0 ≤ (mI S1 a0 13) → Q (mI S1 a0 13) S1) ∧ (¬ 0 ≤ (mI S1 a0 13) → Q 0 S1)))
set_option maxHeartbeats 4000000 in
set_option maxRecDepth 100000 in
theorem tX9_errorPosition_13 {p : Program} {l : Launch} {e : Env} {s : State} {m : MethodId} {args : Array Value} {below : List Frame} {meth : Method} {c : Code} {H : Heap} {locs : List Loc} {cells slots : Nat} {G : GP} {A : Nat → Prop} {S0 : MS} {ls : Array Slot} (C : CF p l s m args meth c "SkirmishGridModel" cX9_errorPosition 1 G A) (hr : meth.sig.returnType = (some .int)) (hex : ∀ x ∈ c.exceptionTable.toList, False) (Q : Int32 → MS → Prop) (QX : String → MS → Prop) (S : MS) (a0 : Nat) (z0 : Int32) (w1 : Nat) (p_a0 : pI S 9 a0) (p_w1 : pI S 9 w1) (P : PW G A s H locs S0 S) (hl : lv_has ls 1 [(0, .ref a0)]) (hcc : cells + 0 ≤ 0) (hss : slots + 0 ≤ 0) (hw : wX9_errorPosition_13 Q QX S a0 z0 w1) : W p l e rmX9_errorPosition s m args below meth c H locs cells slots (vx_MQ below (QI G S0 A Q) (XX G S0 A QX) args s 0 0 A) (F0 m 13 ls [.int z0, .ref w1]) := by
  have hx := CF_x C
  have hb := CF_b C
  unfold wX9_errorPosition_13 at hw
  refine pf_9_0 C P p_w1 q_1305 dX9_errorPosition_13 (fun H locs P => ?_)
  obtain ⟨S1, hS⟩ : ∃ z, z = (sI S w1 0 z0) := ⟨_, rfl⟩
  have P : PW G A s H locs S0 S1 := by rw [hS]; exact P
  have p_a0 : pI S1 9 a0 := by rw [hS]; exact pI_x ext_sI p_a0
  have p_w1 : pI S1 9 w1 := by rw [hS]; exact pI_x ext_sI p_w1
  have hw := hw S1 hS
  refine lv_aload_n hx hb dX9_errorPosition_16 rfl (lv_at hl 0 rfl) ?_
  refine gf_9_13 C P p_a0 q_1318 dX9_errorPosition_17 ?_
  refine lv_if_ge (tgt := 27) hx hb dX9_errorPosition_20 (by decide) (fun hc => ?_) (fun hc => ?_)
  · have hw := hw.1 hc
    refine lv_aload_n hx hb dX9_errorPosition_27 rfl (lv_at hl 0 rfl) ?_
    refine gf_9_13 C P p_a0 q_1318 dX9_errorPosition_28 ?_
    exact e_i C hr rfl P hw (by omega) (by omega) dX9_errorPosition_31
  · have hw := hw.2 hc
    refine lv_iconst (v := 0) hx hb dX9_errorPosition_23 (by decide) ?_
    refine lv_goto (tgt := 31) hx hb dX9_errorPosition_24 (by decide) ?_
    exact e_i C hr rfl P hw (by omega) (by omega) dX9_errorPosition_31
def wX9_errorPosition_0 (Q : Int32 → MS → Prop) (QX : String → MS → Prop) (S : MS) (a0 : Nat) : Prop := ((0 ≤ (mI S a0 13) → wX9_errorPosition_13 Q QX S a0 0 a0) ∧ (¬ 0 ≤ (mI S a0 13) → wX9_errorPosition_13 Q QX S a0 1 a0))
set_option maxHeartbeats 4000000 in
set_option maxRecDepth 100000 in
theorem tX9_errorPosition_0 {p : Program} {l : Launch} {e : Env} {s : State} {m : MethodId} {args : Array Value} {below : List Frame} {meth : Method} {c : Code} {H : Heap} {locs : List Loc} {cells slots : Nat} {G : GP} {A : Nat → Prop} {S0 : MS} {ls : Array Slot} (C : CF p l s m args meth c "SkirmishGridModel" cX9_errorPosition 1 G A) (hr : meth.sig.returnType = (some .int)) (hex : ∀ x ∈ c.exceptionTable.toList, False) (Q : Int32 → MS → Prop) (QX : String → MS → Prop) (S : MS) (a0 : Nat) (p_a0 : pI S 9 a0) (P : PW G A s H locs S0 S) (hl : lv_has ls 1 [(0, .ref a0)]) (hcc : cells + 0 ≤ 0) (hss : slots + 0 ≤ 0) (hw : wX9_errorPosition_0 Q QX S a0) : W p l e rmX9_errorPosition s m args below meth c H locs cells slots (vx_MQ below (QI G S0 A Q) (XX G S0 A QX) args s 0 0 A) (F0 m 0 ls []) := by
  have hx := CF_x C
  have hb := CF_b C
  unfold wX9_errorPosition_0 at hw
  refine lv_aload_n hx hb dX9_errorPosition_0 rfl (lv_at hl 0 rfl) ?_
  refine lv_aload_n hx hb dX9_errorPosition_1 rfl (lv_at hl 0 rfl) ?_
  refine gf_9_13 C P p_a0 q_1318 dX9_errorPosition_2 ?_
  refine lv_if_ge (tgt := 12) hx hb dX9_errorPosition_5 (by decide) (fun hc => ?_) (fun hc => ?_)
  · have hw := hw.1 hc
    refine lv_iconst (v := 0) hx hb dX9_errorPosition_12 (by decide) ?_
    exact tX9_errorPosition_13 C hr hex Q QX S a0 0 a0 p_a0 p_a0 P (lv_sub hl [0] rfl) (by omega) (by omega) hw
  · have hw := hw.2 hc
    refine lv_iconst (v := 1) hx hb dX9_errorPosition_8 (by decide) ?_
    refine lv_goto (tgt := 13) hx hb dX9_errorPosition_9 (by decide) ?_
    exact tX9_errorPosition_13 C hr hex Q QX S a0 1 a0 p_a0 p_a0 P (lv_sub hl [0] rfl) (by omega) (by omega) hw
def wp_X9_errorPosition (Q : Int32 → MS → Prop) (QX : String → MS → Prop) (S : MS) (a0 : Nat) : Prop := wX9_errorPosition_0 Q QX S a0
set_option maxHeartbeats 4000000 in
set_option maxRecDepth 100000 in
theorem met_X9_errorPosition {l : Launch} (hst : l.stackTraces = false) (G : GP) (sz : Nat) (Q : Int32 → MS → Prop) (QX : String → MS → Prop) (S : MS) (a0 : Nat) (p_a0 : pI S 9 a0) (hw : wp_X9_errorPosition Q QX S a0) : vx_Met l yX9_errorPosition (.code yX9_errorPosition cX9_errorPosition 1 (some .int) :: GW) rmX9_errorPosition (va_Pc [.ref a0] (PR G S sz)) (QI G S (FA G S sz) Q) (XX G S (FA G S sz) QX) 0 0 (FA G S sz) := by
  refine st_m (by decide +kernel) hst (fun p e s m below meth c C hr hnm hex P => ?_)
  refine en_m (Nat.le_of_ble_eq_true rfl) (lv := [(0, .ref a0)]) rfl (fun ls hl => ?_)
  have C : CF p l s m _ meth c "SkirmishGridModel" cX9_errorPosition 1 G (FA G S sz) := C
  exact tX9_errorPosition_0 C hr hex Q QX S a0 p_a0 P hl (by omega) (by omega) hw
theorem cd_X9_errorPosition : yX9_errorPosition.cls = RX9 ∧ yX9_errorPosition.cls ≠ "java/lang/invoke/MethodHandle" ∧ yX9_errorPosition.cls ≠ "java/lang/invoke/VarHandle" ∧ (parseMethodDescriptor yX9_errorPosition.desc).map (fun d => d.parameters.length) = some 0 := by decide +kernel
abbrev rmX9_terrain : Room := { frames := 1, cells := 0, slots := 0, locals := 22 }
def wX9_terrain_38 (Q : Int32 → MS → Prop) (QX : String → MS → Prop) (S : MS) (a0 : Nat) (y1 : Int32) (y2 : Int32) (z0 : Int32) (w1 : Nat) : Prop := (∀ S1, S1 = (sI S w1 0 z0) → ((¬ (mI S1 a0 0) = 1 → (∃ a2, mR S1 a0 1 = some a2 ∧ (∃ a3, mR S1 a0 1 = some a3 ∧ (vp_in 1 (mN S1 a3) ∧ (vp_in ((2 + (y1 * (mI S1 a3 (1 : Int32).toNatClampNeg))) + y2) (mN S1 a2) ∧ ((¬ (mI S1 a2 (((2 + (y1 * (mI S1 a3 (1 : Int32).toNatClampNeg))) + y2) : Int32).toNatClampNeg) = 0 → ((¬ (mI S1 a2 (((2 + (y1 * (mI S1 a3 (1 : Int32).toNatClampNeg))) + y2) : Int32).toNatClampNeg) = 1 → ((¬ (mI S1 a2 (((2 + (y1 * (mI S1 a3 (1 : Int32).toNatClampNeg))) + y2) : Int32).toNatClampNeg) = 2 → ((¬ (mI S1 a2 (((2 + (y1 * (mI S1 a3 (1 : Int32).toNatClampNeg))) + y2) : Int32).toNatClampNeg) = 3 → Q 94 S1) ∧ ((mI S1 a2 (((2 + (y1 * (mI S1 a3 (1 : Int32).toNatClampNeg))) + y2) : Int32).toNatClampNeg) = 3 → Q 126 S1))) ∧ ((mI S1 a2 (((2 + (y1 * (mI S1 a3 (1 : Int32).toNatClampNeg))) + y2) : Int32).toNatClampNeg) = 2 → Q 111 S1))) ∧ ((mI S1 a2 (((2 + (y1 * (mI S1 a3 (1 : Int32).toNatClampNeg))) + y2) : Int32).toNatClampNeg) = 1 → Q 35 S1))) ∧ ((mI S1 a2 (((2 + (y1 * (mI S1 a3 (1 : Int32).toNatClampNeg))) + y2) : Int32).toNatClampNeg) = 0 → Q 46 S1))))))) ∧ ((mI S1 a0 0) = 1 → Q 0 S1)))
set_option maxHeartbeats 4000000 in
set_option maxRecDepth 100000 in
theorem tX9_terrain_38 {p : Program} {l : Launch} {e : Env} {s : State} {m : MethodId} {args : Array Value} {below : List Frame} {meth : Method} {c : Code} {H : Heap} {locs : List Loc} {cells slots : Nat} {G : GP} {A : Nat → Prop} {S0 : MS} {ls : Array Slot} (C : CF p l s m args meth c "SkirmishGridModel" cX9_terrain 4 G A) (hr : meth.sig.returnType = (some .char)) (hex : ∀ x ∈ c.exceptionTable.toList, False) (Q : Int32 → MS → Prop) (QX : String → MS → Prop) (S : MS) (a0 : Nat) (y1 : Int32) (y2 : Int32) (z0 : Int32) (w1 : Nat) (p_a0 : pI S 9 a0) (p_w1 : pI S 9 w1) (P : PW G A s H locs S0 S) (hl : lv_has ls 4 [(0, .ref a0), (1, .int y1), (2, .int y2)]) (hcc : cells + 0 ≤ 0) (hss : slots + 0 ≤ 0) (hw : wX9_terrain_38 Q QX S a0 y1 y2 z0 w1) : W p l e rmX9_terrain s m args below meth c H locs cells slots (vx_MQ below (QI G S0 A Q) (XX G S0 A QX) args s 0 0 A) (F0 m 38 ls [.int z0, .ref w1]) := by
  have hx := CF_x C
  have hb := CF_b C
  unfold wX9_terrain_38 at hw
  refine pf_9_0 C P p_w1 q_1305 dX9_terrain_38 (fun H locs P => ?_)
  obtain ⟨S1, hS⟩ : ∃ z, z = (sI S w1 0 z0) := ⟨_, rfl⟩
  have P : PW G A s H locs S0 S1 := by rw [hS]; exact P
  have p_a0 : pI S1 9 a0 := by rw [hS]; exact pI_x ext_sI p_a0
  have p_w1 : pI S1 9 w1 := by rw [hS]; exact pI_x ext_sI p_w1
  have hw := hw S1 hS
  refine lv_aload_n hx hb dX9_terrain_41 rfl (lv_at hl 0 rfl) ?_
  refine gf_9_0 C P p_a0 q_1305 dX9_terrain_42 ?_
  refine lv_iconst (v := 1) hx hb dX9_terrain_45 (by decide) ?_
  refine lv_icmp_ne (tgt := 51) hx hb dX9_terrain_46 (by decide) (fun hc => ?_) (fun hc => ?_)
  · have hw := hw.1 hc
    refine lv_aload_n hx hb dX9_terrain_51 rfl (lv_at hl 0 rfl) ?_
    obtain ⟨a2, e1, hw⟩ := hw
    have p_a2 : pI S1 12 a2 := wf_r P.2.2.2.1 p_a0 e1
    refine gf_9_1 C P p_a0 e1 q_1306 dX9_terrain_52 ?_
    refine lv_iconst (v := 2) hx hb dX9_terrain_55 (by decide) ?_
    refine lv_iload_n hx hb dX9_terrain_56 rfl (lv_at hl 1 rfl) ?_
    refine lv_aload_n hx hb dX9_terrain_57 rfl (lv_at hl 0 rfl) ?_
    obtain ⟨a3, e1, hw⟩ := hw
    have p_a3 : pI S1 12 a3 := wf_r P.2.2.2.1 p_a0 e1
    refine gf_9_1 C P p_a0 e1 q_1306 dX9_terrain_58 ?_
    refine lv_iconst (v := 1) hx hb dX9_terrain_61 (by decide) ?_
    obtain ⟨h1, hw⟩ := hw
    refine ra_i C P p_a3 h1 dX9_terrain_62 ?_
    refine lv_imul hx hb dX9_terrain_63 ?_
    refine lv_iadd hx hb dX9_terrain_64 ?_
    refine lv_iload_n hx hb dX9_terrain_65 rfl (lv_at hl 2 rfl) ?_
    refine lv_iadd hx hb dX9_terrain_66 ?_
    obtain ⟨h1, hw⟩ := hw
    refine ra_i C P p_a2 h1 dX9_terrain_67 ?_
    refine lv_istore_n (lv' := [(3, .int (mI S1 a2 (((2 + (y1 * (mI S1 a3 (1 : Int32).toNatClampNeg))) + y2) : Int32).toNatClampNeg)), (0, .ref a0), (1, .int y1), (2, .int y2)]) hx hb dX9_terrain_68 rfl hl (by decide) rfl (fun ls hl => ?_)
    refine lv_iload_n hx hb dX9_terrain_69 rfl (lv_at hl 0 rfl) ?_
    refine lv_if_ne (tgt := 78) hx hb dX9_terrain_70 (by decide) (fun hc => ?_) (fun hc => ?_)
    · have hw := hw.1 hc
      refine lv_iload_n hx hb dX9_terrain_78 rfl (lv_at hl 0 rfl) ?_
      refine lv_iconst (v := 1) hx hb dX9_terrain_79 (by decide) ?_
      refine lv_icmp_ne (tgt := 88) hx hb dX9_terrain_80 (by decide) (fun hc => ?_) (fun hc => ?_)
      · have hw := hw.1 hc
        refine lv_iload_n hx hb dX9_terrain_88 rfl (lv_at hl 0 rfl) ?_
        refine lv_iconst (v := 2) hx hb dX9_terrain_89 (by decide) ?_
        refine lv_icmp_ne (tgt := 98) hx hb dX9_terrain_90 (by decide) (fun hc => ?_) (fun hc => ?_)
        · have hw := hw.1 hc
          refine lv_iload_n hx hb dX9_terrain_98 rfl (lv_at hl 0 rfl) ?_
          refine lv_iconst (v := 3) hx hb dX9_terrain_99 (by decide) ?_
          refine lv_icmp_ne (tgt := 108) hx hb dX9_terrain_100 (by decide) (fun hc => ?_) (fun hc => ?_)
          · have hw := hw.1 hc
            refine lv_bipush (v := 94) hx hb dX9_terrain_108 (by decide) ?_
            exact e_i C hr (by decide +kernel) P hw (by omega) (by omega) dX9_terrain_110
          · have hw := hw.2 hc
            refine lv_bipush (v := 126) hx hb dX9_terrain_103 (by decide) ?_
            refine lv_goto (tgt := 110) hx hb dX9_terrain_105 (by decide) ?_
            exact e_i C hr (by decide +kernel) P hw (by omega) (by omega) dX9_terrain_110
        · have hw := hw.2 hc
          refine lv_bipush (v := 111) hx hb dX9_terrain_93 (by decide) ?_
          refine lv_goto (tgt := 110) hx hb dX9_terrain_95 (by decide) ?_
          exact e_i C hr (by decide +kernel) P hw (by omega) (by omega) dX9_terrain_110
      · have hw := hw.2 hc
        refine lv_bipush (v := 35) hx hb dX9_terrain_83 (by decide) ?_
        refine lv_goto (tgt := 110) hx hb dX9_terrain_85 (by decide) ?_
        exact e_i C hr (by decide +kernel) P hw (by omega) (by omega) dX9_terrain_110
    · have hw := hw.2 hc
      refine lv_bipush (v := 46) hx hb dX9_terrain_73 (by decide) ?_
      refine lv_goto (tgt := 110) hx hb dX9_terrain_75 (by decide) ?_
      exact e_i C hr (by decide +kernel) P hw (by omega) (by omega) dX9_terrain_110
  · have hw := hw.2 hc
    refine lv_iconst (v := 0) hx hb dX9_terrain_49 (by decide) ?_
    exact e_i C hr (by decide +kernel) P hw (by omega) (by omega) dX9_terrain_50
def wX9_terrain_37 (Q : Int32 → MS → Prop) (QX : String → MS → Prop) (S : MS) (a0 : Nat) (y1 : Int32) (y2 : Int32) (w0 : Nat) : Prop := wX9_terrain_38 Q QX S a0 y1 y2 1 w0
set_option maxHeartbeats 4000000 in
set_option maxRecDepth 100000 in
theorem tX9_terrain_37 {p : Program} {l : Launch} {e : Env} {s : State} {m : MethodId} {args : Array Value} {below : List Frame} {meth : Method} {c : Code} {H : Heap} {locs : List Loc} {cells slots : Nat} {G : GP} {A : Nat → Prop} {S0 : MS} {ls : Array Slot} (C : CF p l s m args meth c "SkirmishGridModel" cX9_terrain 4 G A) (hr : meth.sig.returnType = (some .char)) (hex : ∀ x ∈ c.exceptionTable.toList, False) (Q : Int32 → MS → Prop) (QX : String → MS → Prop) (S : MS) (a0 : Nat) (y1 : Int32) (y2 : Int32) (w0 : Nat) (p_a0 : pI S 9 a0) (p_w0 : pI S 9 w0) (P : PW G A s H locs S0 S) (hl : lv_has ls 4 [(0, .ref a0), (1, .int y1), (2, .int y2)]) (hcc : cells + 0 ≤ 0) (hss : slots + 0 ≤ 0) (hw : wX9_terrain_37 Q QX S a0 y1 y2 w0) : W p l e rmX9_terrain s m args below meth c H locs cells slots (vx_MQ below (QI G S0 A Q) (XX G S0 A QX) args s 0 0 A) (F0 m 37 ls [.ref w0]) := by
  have hx := CF_x C
  have hb := CF_b C
  unfold wX9_terrain_37 at hw
  refine lv_iconst (v := 1) hx hb dX9_terrain_37 (by decide) ?_
  exact tX9_terrain_38 C hr hex Q QX S a0 y1 y2 1 w0 p_a0 p_w0 P (lv_sub hl [0, 1, 2] rfl) (by omega) (by omega) hw
def wX9_terrain_0 (Q : Int32 → MS → Prop) (QX : String → MS → Prop) (S : MS) (a0 : Nat) (x1 : Int32) (x2 : Int32) : Prop := (∃ a1, mR S a0 1 = some a1 ∧ (vp_in 0 (mN S a1) ∧ wp_X9_isIn (fun r3 S2 => ((r3 = 0 → wX9_terrain_37 Q QX S2 a0 x1 x2 a0) ∧ (¬ r3 = 0 → (∃ a4, mR S2 a0 1 = some a4 ∧ (vp_in 1 (mN S2 a4) ∧ wp_X9_isIn (fun r6 S5 => ((r6 = 0 → wX9_terrain_37 Q QX S5 a0 x1 x2 a0) ∧ (¬ r6 = 0 → wX9_terrain_38 Q QX S5 a0 x1 x2 0 a0))) QX S2 x2 0 ((mI S2 a4 (1 : Int32).toNatClampNeg) - 1)))))) QX S x1 0 ((mI S a1 (0 : Int32).toNatClampNeg) - 1)))
set_option maxHeartbeats 4000000 in
set_option maxRecDepth 100000 in
theorem tX9_terrain_0 {p : Program} {l : Launch} {e : Env} {s : State} {m : MethodId} {args : Array Value} {below : List Frame} {meth : Method} {c : Code} {H : Heap} {locs : List Loc} {cells slots : Nat} {G : GP} {A : Nat → Prop} {S0 : MS} {ls : Array Slot} (C : CF p l s m args meth c "SkirmishGridModel" cX9_terrain 4 G A) (hr : meth.sig.returnType = (some .char)) (hex : ∀ x ∈ c.exceptionTable.toList, False) (Q : Int32 → MS → Prop) (QX : String → MS → Prop) (S : MS) (a0 : Nat) (x1 : Int32) (x2 : Int32) (p_a0 : pI S 9 a0) (P : PW G A s H locs S0 S) (hl : lv_has ls 4 [(0, .ref a0), (1, .int x1), (2, .int x2)]) (hcc : cells + 0 ≤ 0) (hss : slots + 0 ≤ 0) (hw : wX9_terrain_0 Q QX S a0 x1 x2) : W p l e rmX9_terrain s m args below meth c H locs cells slots (vx_MQ below (QI G S0 A Q) (XX G S0 A QX) args s 0 0 A) (F0 m 0 ls []) := by
  have hx := CF_x C
  have hb := CF_b C
  unfold wX9_terrain_0 at hw
  refine lv_aload_n hx hb dX9_terrain_0 rfl (lv_at hl 0 rfl) ?_
  refine lv_iload_n hx hb dX9_terrain_1 rfl (lv_at hl 1 rfl) ?_
  refine lv_iconst (v := 0) hx hb dX9_terrain_2 (by decide) ?_
  refine lv_aload_n hx hb dX9_terrain_3 rfl (lv_at hl 0 rfl) ?_
  obtain ⟨a1, e1, hw⟩ := hw
  have p_a1 : pI S 12 a1 := wf_r P.2.2.2.1 p_a0 e1
  refine gf_9_1 C P p_a0 e1 q_1306 dX9_terrain_4 ?_
  refine lv_iconst (v := 0) hx hb dX9_terrain_7 (by decide) ?_
  obtain ⟨h1, hw⟩ := hw
  refine ra_i C P p_a1 h1 dX9_terrain_8 ?_
  refine lv_iconst (v := 1) hx hb dX9_terrain_9 (by decide) ?_
  refine lv_isub hx hb dX9_terrain_10 ?_
  refine cl_i C P (run_S C P hl.1 (met_X9_isIn (CF_n C) G H.size _ _ S x1 0 ((mI S a1 (0 : Int32).toNatClampNeg) - 1) hw) q_1383 q_1384 q_10 q_1385 cd_X9_isIn.2 ⟨(Nat.le_of_ble_eq_true rfl), (Nat.le_of_ble_eq_true rfl)⟩ rfl rfl (As := [.int x1, .int 0, .int ((mI S a1 (0 : Int32).toNatClampNeg) - 1)]) (rest := [.ref a0]) rfl rfl (Nat.le_of_ble_eq_true rfl) dX9_terrain_11 ⟨by show cells + 0 ≤ 0; omega, by show slots + 0 ≤ 0; omega⟩) (kx_out C hex (fun _ _ _ h => h) (by omega) (by omega)) (fun r3 S2 H locs P hE hw => ?_)
  have p_a0 : pI S2 9 a0 := pI_x hE p_a0
  refine lv_if_eq (tgt := 37) hx hb dX9_terrain_14 (by decide) (fun hc => ?_) (fun hc => ?_)
  · have hw := hw.1 hc
    exact tX9_terrain_37 C hr hex Q QX S2 a0 x1 x2 a0 p_a0 p_a0 P (lv_sub hl [0, 1, 2] rfl) (by omega) (by omega) hw
  · have hw := hw.2 hc
    refine lv_iload_n hx hb dX9_terrain_17 rfl (lv_at hl 2 rfl) ?_
    refine lv_iconst (v := 0) hx hb dX9_terrain_18 (by decide) ?_
    refine lv_aload_n hx hb dX9_terrain_19 rfl (lv_at hl 0 rfl) ?_
    obtain ⟨a4, e1, hw⟩ := hw
    have p_a4 : pI S2 12 a4 := wf_r P.2.2.2.1 p_a0 e1
    refine gf_9_1 C P p_a0 e1 q_1306 dX9_terrain_20 ?_
    refine lv_iconst (v := 1) hx hb dX9_terrain_23 (by decide) ?_
    obtain ⟨h1, hw⟩ := hw
    refine ra_i C P p_a4 h1 dX9_terrain_24 ?_
    refine lv_iconst (v := 1) hx hb dX9_terrain_25 (by decide) ?_
    refine lv_isub hx hb dX9_terrain_26 ?_
    refine cl_i C P (run_S C P hl.1 (met_X9_isIn (CF_n C) G H.size _ _ S2 x2 0 ((mI S2 a4 (1 : Int32).toNatClampNeg) - 1) hw) q_1383 q_1384 q_10 q_1385 cd_X9_isIn.2 ⟨(Nat.le_of_ble_eq_true rfl), (Nat.le_of_ble_eq_true rfl)⟩ rfl rfl (As := [.int x2, .int 0, .int ((mI S2 a4 (1 : Int32).toNatClampNeg) - 1)]) (rest := [.ref a0]) rfl rfl (Nat.le_of_ble_eq_true rfl) dX9_terrain_27 ⟨by show cells + 0 ≤ 0; omega, by show slots + 0 ≤ 0; omega⟩) (kx_out C hex (fun _ _ _ h => h) (by omega) (by omega)) (fun r6 S5 H locs P hE hw => ?_)
    have p_a0 : pI S5 9 a0 := pI_x hE p_a0
    refine lv_if_eq (tgt := 37) hx hb dX9_terrain_30 (by decide) (fun hc => ?_) (fun hc => ?_)
    · have hw := hw.1 hc
      exact tX9_terrain_37 C hr hex Q QX S5 a0 x1 x2 a0 p_a0 p_a0 P (lv_sub hl [0, 1, 2] rfl) (by omega) (by omega) hw
    · have hw := hw.2 hc
      refine lv_iconst (v := 0) hx hb dX9_terrain_33 (by decide) ?_
      refine lv_goto (tgt := 38) hx hb dX9_terrain_34 (by decide) ?_
      exact tX9_terrain_38 C hr hex Q QX S5 a0 x1 x2 0 a0 p_a0 p_a0 P (lv_sub hl [0, 1, 2] rfl) (by omega) (by omega) hw
def wp_X9_terrain (Q : Int32 → MS → Prop) (QX : String → MS → Prop) (S : MS) (a0 : Nat) (x1 : Int32) (x2 : Int32) : Prop := wX9_terrain_0 Q QX S a0 x1 x2
set_option maxHeartbeats 4000000 in
set_option maxRecDepth 100000 in
theorem met_X9_terrain {l : Launch} (hst : l.stackTraces = false) (G : GP) (sz : Nat) (Q : Int32 → MS → Prop) (QX : String → MS → Prop) (S : MS) (a0 : Nat) (x1 : Int32) (x2 : Int32) (p_a0 : pI S 9 a0) (hw : wp_X9_terrain Q QX S a0 x1 x2) : vx_Met l yX9_terrain (.code yX9_terrain cX9_terrain 4 (some .char) :: GW) rmX9_terrain (va_Pc [.ref a0, .int x1, .int x2] (PR G S sz)) (QI G S (FA G S sz) Q) (XX G S (FA G S sz) QX) 0 0 (FA G S sz) := by
  refine st_m (by decide +kernel) hst (fun p e s m below meth c C hr hnm hex P => ?_)
  refine en_m (Nat.le_of_ble_eq_true rfl) (lv := [(0, .ref a0), (1, .int x1), (2, .int x2)]) rfl (fun ls hl => ?_)
  have C : CF p l s m _ meth c "SkirmishGridModel" cX9_terrain 4 G (FA G S sz) := C
  exact tX9_terrain_0 C hr hex Q QX S a0 x1 x2 p_a0 P hl (by omega) (by omega) hw
theorem cd_X9_terrain : yX9_terrain.cls = RX9 ∧ yX9_terrain.cls ≠ "java/lang/invoke/MethodHandle" ∧ yX9_terrain.cls ≠ "java/lang/invoke/VarHandle" ∧ (parseMethodDescriptor yX9_terrain.desc).map (fun d => d.parameters.length) = some 2 := by decide +kernel
abbrev rmX9_isMet : Room := { frames := 1, cells := 0, slots := 0, locals := 21 }
def wX9_isMet_209 (Q : Int32 → MS → Prop) (QX : String → MS → Prop) (k137 : MS → Int32 → Int32 → Int32 → Int32 → Int32 → Int32 → Int32 → Int32 → Int32 → Prop) (S : MS) (y4 : Int32) (y5 : Int32) (y6 : Int32) (y7 : Int32) (y8 : Int32) (y9 : Int32) (y10 : Int32) (y12 : Int32) (z0 : Int32) (z1 : Int32) : Prop := k137 S y4 y5 y6 y7 y8 y9 y10 (z1 + z0) (y12 + 1)
set_option maxHeartbeats 4000000 in
set_option maxRecDepth 100000 in
theorem tX9_isMet_209 {p : Program} {l : Launch} {e : Env} {s : State} {m : MethodId} {args : Array Value} {below : List Frame} {meth : Method} {c : Code} {H : Heap} {locs : List Loc} {cells slots : Nat} {G : GP} {A : Nat → Prop} {S0 : MS} {ls : Array Slot} (C : CF p l s m args meth c "SkirmishGridModel" cX9_isMet 14 G A) (hr : meth.sig.returnType = (some .boolean)) (hex : ∀ x ∈ c.exceptionTable.toList, False) (Q : Int32 → MS → Prop) (QX : String → MS → Prop) (k137 : MS → Int32 → Int32 → Int32 → Int32 → Int32 → Int32 → Int32 → Int32 → Int32 → Prop) (kh137 : ∀ (S : MS) (y4 : Int32) (y5 : Int32) (y6 : Int32) (y7 : Int32) (y8 : Int32) (y9 : Int32) (y10 : Int32) (y11 : Int32) (y12 : Int32) (cells slots : Nat) (H : Heap) (locs : List Loc) (ls : Array Slot), PW G A s H locs S0 S → lv_has ls 14 [(4, .int y4), (5, .int y5), (6, .int y6), (7, .int y7), (8, .int y8), (9, .int y9), (10, .int y10), (11, .int y11), (12, .int y12)] → cells + 0 ≤ 0 → slots + 0 ≤ 0 → k137 S y4 y5 y6 y7 y8 y9 y10 y11 y12 → W p l e rmX9_isMet s m args below meth c H locs cells slots (vx_MQ below (QI G S0 A Q) (XX G S0 A QX) args s 0 0 A) (F0 m 137 ls [])) (S : MS) (y4 : Int32) (y5 : Int32) (y6 : Int32) (y7 : Int32) (y8 : Int32) (y9 : Int32) (y10 : Int32) (y12 : Int32) (z0 : Int32) (z1 : Int32) (P : PW G A s H locs S0 S) (hl : lv_has ls 14 [(4, .int y4), (5, .int y5), (6, .int y6), (7, .int y7), (8, .int y8), (9, .int y9), (10, .int y10), (12, .int y12)]) (hcc : cells + 0 ≤ 0) (hss : slots + 0 ≤ 0) (hw : wX9_isMet_209 Q QX k137 S y4 y5 y6 y7 y8 y9 y10 y12 z0 z1) : W p l e rmX9_isMet s m args below meth c H locs cells slots (vx_MQ below (QI G S0 A Q) (XX G S0 A QX) args s 0 0 A) (F0 m 209 ls [.int z0, .int z1]) := by
  have hx := CF_x C
  have hb := CF_b C
  unfold wX9_isMet_209 at hw
  refine lv_iadd hx hb dX9_isMet_209 ?_
  refine lv_istore (lv' := [(11, .int (z1 + z0)), (4, .int y4), (5, .int y5), (6, .int y6), (7, .int y7), (8, .int y8), (9, .int y9), (10, .int y10), (12, .int y12)]) hx hb dX9_isMet_210 hl (by decide) rfl (fun ls hl => ?_)
  refine lv_iinc (v := (y12 + 1)) (lv' := [(12, .int (y12 + 1)), (11, .int (z1 + z0)), (4, .int y4), (5, .int y5), (6, .int y6), (7, .int y7), (8, .int y8), (9, .int y9), (10, .int y10)]) hx hb dX9_isMet_212 hl (k := 8) rfl (by rfl) (by decide) rfl (fun ls hl => ?_)
  refine lv_goto (tgt := 137) hx hb dX9_isMet_215 (by decide) ?_
  exact kh137 S y4 y5 y6 y7 y8 y9 y10 (z1 + z0) (y12 + 1) _ _ _ _ _ P (lv_sub hl [2, 3, 4, 5, 6, 7, 8, 1, 0] rfl) (by omega) (by omega) hw
def wX9_isMet_194 (Q : Int32 → MS → Prop) (QX : String → MS → Prop) (k137 : MS → Int32 → Int32 → Int32 → Int32 → Int32 → Int32 → Int32 → Int32 → Int32 → Prop) (S : MS) (y4 : Int32) (y5 : Int32) (y6 : Int32) (y7 : Int32) (y8 : Int32) (y9 : Int32) (y11 : Int32) (y12 : Int32) (y13 : Int32) (z0 : Int32) (z1 : Int32) : Prop := ((0 ≤ y13 → wX9_isMet_209 Q QX k137 S y4 y5 y6 y7 y8 y9 (z1 + z0) y12 0 y11) ∧ (¬ 0 ≤ y13 → wX9_isMet_209 Q QX k137 S y4 y5 y6 y7 y8 y9 (z1 + z0) y12 1 y11))
set_option maxHeartbeats 4000000 in
set_option maxRecDepth 100000 in
theorem tX9_isMet_194 {p : Program} {l : Launch} {e : Env} {s : State} {m : MethodId} {args : Array Value} {below : List Frame} {meth : Method} {c : Code} {H : Heap} {locs : List Loc} {cells slots : Nat} {G : GP} {A : Nat → Prop} {S0 : MS} {ls : Array Slot} (C : CF p l s m args meth c "SkirmishGridModel" cX9_isMet 14 G A) (hr : meth.sig.returnType = (some .boolean)) (hex : ∀ x ∈ c.exceptionTable.toList, False) (Q : Int32 → MS → Prop) (QX : String → MS → Prop) (k137 : MS → Int32 → Int32 → Int32 → Int32 → Int32 → Int32 → Int32 → Int32 → Int32 → Prop) (kh137 : ∀ (S : MS) (y4 : Int32) (y5 : Int32) (y6 : Int32) (y7 : Int32) (y8 : Int32) (y9 : Int32) (y10 : Int32) (y11 : Int32) (y12 : Int32) (cells slots : Nat) (H : Heap) (locs : List Loc) (ls : Array Slot), PW G A s H locs S0 S → lv_has ls 14 [(4, .int y4), (5, .int y5), (6, .int y6), (7, .int y7), (8, .int y8), (9, .int y9), (10, .int y10), (11, .int y11), (12, .int y12)] → cells + 0 ≤ 0 → slots + 0 ≤ 0 → k137 S y4 y5 y6 y7 y8 y9 y10 y11 y12 → W p l e rmX9_isMet s m args below meth c H locs cells slots (vx_MQ below (QI G S0 A Q) (XX G S0 A QX) args s 0 0 A) (F0 m 137 ls [])) (S : MS) (y4 : Int32) (y5 : Int32) (y6 : Int32) (y7 : Int32) (y8 : Int32) (y9 : Int32) (y11 : Int32) (y12 : Int32) (y13 : Int32) (z0 : Int32) (z1 : Int32) (P : PW G A s H locs S0 S) (hl : lv_has ls 14 [(4, .int y4), (5, .int y5), (6, .int y6), (7, .int y7), (8, .int y8), (9, .int y9), (11, .int y11), (12, .int y12), (13, .int y13)]) (hcc : cells + 0 ≤ 0) (hss : slots + 0 ≤ 0) (hw : wX9_isMet_194 Q QX k137 S y4 y5 y6 y7 y8 y9 y11 y12 y13 z0 z1) : W p l e rmX9_isMet s m args below meth c H locs cells slots (vx_MQ below (QI G S0 A Q) (XX G S0 A QX) args s 0 0 A) (F0 m 194 ls [.int z0, .int z1]) := by
  have hx := CF_x C
  have hb := CF_b C
  unfold wX9_isMet_194 at hw
  refine lv_iadd hx hb dX9_isMet_194 ?_
  refine lv_istore (lv' := [(10, .int (z1 + z0)), (4, .int y4), (5, .int y5), (6, .int y6), (7, .int y7), (8, .int y8), (9, .int y9), (11, .int y11), (12, .int y12), (13, .int y13)]) hx hb dX9_isMet_195 hl (by decide) rfl (fun ls hl => ?_)
  refine lv_iload hx hb dX9_isMet_197 (lv_at hl 7 rfl) ?_
  refine lv_iload hx hb dX9_isMet_199 (lv_at hl 9 rfl) ?_
  refine lv_if_ge (tgt := 208) hx hb dX9_isMet_201 (by decide) (fun hc => ?_) (fun hc => ?_)
  · have hw := hw.1 hc
    refine lv_iconst (v := 0) hx hb dX9_isMet_208 (by decide) ?_
    exact tX9_isMet_209 C hr hex Q QX k137 kh137 S y4 y5 y6 y7 y8 y9 (z1 + z0) y12 0 y11 P (lv_sub hl [1, 2, 3, 4, 5, 6, 0, 8] rfl) (by omega) (by omega) hw
  · have hw := hw.2 hc
    refine lv_iconst (v := 1) hx hb dX9_isMet_204 (by decide) ?_
    refine lv_goto (tgt := 209) hx hb dX9_isMet_205 (by decide) ?_
    exact tX9_isMet_209 C hr hex Q QX k137 kh137 S y4 y5 y6 y7 y8 y9 (z1 + z0) y12 1 y11 P (lv_sub hl [1, 2, 3, 4, 5, 6, 0, 8] rfl) (by omega) (by omega) hw
def wX9_isMet_137 (Q : Int32 → MS → Prop) (QX : String → MS → Prop) (k137 : MS → Int32 → Int32 → Int32 → Int32 → Int32 → Int32 → Int32 → Int32 → Int32 → Prop) (S : MS) (y4 : Int32) (y5 : Int32) (y6 : Int32) (y7 : Int32) (y8 : Int32) (y9 : Int32) (y10 : Int32) (y11 : Int32) (y12 : Int32) : Prop := ((4 ≤ y12 → ((y10 ≤ 0 → Q 0 S) ∧ (¬ y10 ≤ 0 → ((y11 ≤ 0 → Q 0 S) ∧ (¬ y11 ≤ 0 → Q 1 S))))) ∧ (¬ 4 ≤ y12 → (((((y6 - y4) * ((y9 + ((y12 / 2) * 2)) - y5)) - ((y7 - y5) * ((y8 + ((y12 - y12 / 2 * 2) * 2)) - y4))) ≤ 0 → wX9_isMet_194 Q QX k137 S y4 y5 y6 y7 y8 y9 y11 y12 (((y6 - y4) * ((y9 + ((y12 / 2) * 2)) - y5)) - ((y7 - y5) * ((y8 + ((y12 - y12 / 2 * 2) * 2)) - y4))) 0 y10) ∧ (¬ (((y6 - y4) * ((y9 + ((y12 / 2) * 2)) - y5)) - ((y7 - y5) * ((y8 + ((y12 - y12 / 2 * 2) * 2)) - y4))) ≤ 0 → wX9_isMet_194 Q QX k137 S y4 y5 y6 y7 y8 y9 y11 y12 (((y6 - y4) * ((y9 + ((y12 / 2) * 2)) - y5)) - ((y7 - y5) * ((y8 + ((y12 - y12 / 2 * 2) * 2)) - y4))) 1 y10))))
set_option maxHeartbeats 4000000 in
set_option maxRecDepth 100000 in
theorem tX9_isMet_137 {p : Program} {l : Launch} {e : Env} {s : State} {m : MethodId} {args : Array Value} {below : List Frame} {meth : Method} {c : Code} {H : Heap} {locs : List Loc} {cells slots : Nat} {G : GP} {A : Nat → Prop} {S0 : MS} {ls : Array Slot} (C : CF p l s m args meth c "SkirmishGridModel" cX9_isMet 14 G A) (hr : meth.sig.returnType = (some .boolean)) (hex : ∀ x ∈ c.exceptionTable.toList, False) (Q : Int32 → MS → Prop) (QX : String → MS → Prop) (k137 : MS → Int32 → Int32 → Int32 → Int32 → Int32 → Int32 → Int32 → Int32 → Int32 → Prop) (kh137 : ∀ (S : MS) (y4 : Int32) (y5 : Int32) (y6 : Int32) (y7 : Int32) (y8 : Int32) (y9 : Int32) (y10 : Int32) (y11 : Int32) (y12 : Int32) (cells slots : Nat) (H : Heap) (locs : List Loc) (ls : Array Slot), PW G A s H locs S0 S → lv_has ls 14 [(4, .int y4), (5, .int y5), (6, .int y6), (7, .int y7), (8, .int y8), (9, .int y9), (10, .int y10), (11, .int y11), (12, .int y12)] → cells + 0 ≤ 0 → slots + 0 ≤ 0 → k137 S y4 y5 y6 y7 y8 y9 y10 y11 y12 → W p l e rmX9_isMet s m args below meth c H locs cells slots (vx_MQ below (QI G S0 A Q) (XX G S0 A QX) args s 0 0 A) (F0 m 137 ls [])) (S : MS) (y4 : Int32) (y5 : Int32) (y6 : Int32) (y7 : Int32) (y8 : Int32) (y9 : Int32) (y10 : Int32) (y11 : Int32) (y12 : Int32) (P : PW G A s H locs S0 S) (hl : lv_has ls 14 [(4, .int y4), (5, .int y5), (6, .int y6), (7, .int y7), (8, .int y8), (9, .int y9), (10, .int y10), (11, .int y11), (12, .int y12)]) (hcc : cells + 0 ≤ 0) (hss : slots + 0 ≤ 0) (hw : wX9_isMet_137 Q QX k137 S y4 y5 y6 y7 y8 y9 y10 y11 y12) : W p l e rmX9_isMet s m args below meth c H locs cells slots (vx_MQ below (QI G S0 A Q) (XX G S0 A QX) args s 0 0 A) (F0 m 137 ls []) := by
  have hx := CF_x C
  have hb := CF_b C
  unfold wX9_isMet_137 at hw
  refine lv_iload hx hb dX9_isMet_137 (lv_at hl 8 rfl) ?_
  refine lv_iconst (v := 4) hx hb dX9_isMet_139 (by decide) ?_
  refine lv_icmp_ge (tgt := 218) hx hb dX9_isMet_140 (by decide) (fun hc => ?_) (fun hc => ?_)
  · have hw := hw.1 hc
    refine lv_iload hx hb dX9_isMet_218 (lv_at hl 6 rfl) ?_
    refine lv_if_le (tgt := 232) hx hb dX9_isMet_220 (by decide) (fun hc => ?_) (fun hc => ?_)
    · have hw := hw.1 hc
      refine lv_iconst (v := 0) hx hb dX9_isMet_232 (by decide) ?_
      exact e_i C hr (by decide +kernel) P hw (by omega) (by omega) dX9_isMet_233
    · have hw := hw.2 hc
      refine lv_iload hx hb dX9_isMet_223 (lv_at hl 7 rfl) ?_
      refine lv_if_le (tgt := 232) hx hb dX9_isMet_225 (by decide) (fun hc => ?_) (fun hc => ?_)
      · have hw := hw.1 hc
        refine lv_iconst (v := 0) hx hb dX9_isMet_232 (by decide) ?_
        exact e_i C hr (by decide +kernel) P hw (by omega) (by omega) dX9_isMet_233
      · have hw := hw.2 hc
        refine lv_iconst (v := 1) hx hb dX9_isMet_228 (by decide) ?_
        refine lv_goto (tgt := 233) hx hb dX9_isMet_229 (by decide) ?_
        exact e_i C hr (by decide +kernel) P hw (by omega) (by omega) dX9_isMet_233
  · have hw := hw.2 hc
    refine lv_iload hx hb dX9_isMet_143 (lv_at hl 2 rfl) ?_
    refine lv_iload hx hb dX9_isMet_145 (lv_at hl 0 rfl) ?_
    refine lv_isub hx hb dX9_isMet_147 ?_
    refine lv_iload hx hb dX9_isMet_148 (lv_at hl 5 rfl) ?_
    refine lv_iload hx hb dX9_isMet_150 (lv_at hl 8 rfl) ?_
    refine lv_iconst (v := 2) hx hb dX9_isMet_152 (by decide) ?_
    refine lv_idiv hx hb dX9_isMet_153 (by decide) ?_
    refine lv_iconst (v := 2) hx hb dX9_isMet_154 (by decide) ?_
    refine lv_imul hx hb dX9_isMet_155 ?_
    refine lv_iadd hx hb dX9_isMet_156 ?_
    refine lv_iload hx hb dX9_isMet_157 (lv_at hl 1 rfl) ?_
    refine lv_isub hx hb dX9_isMet_159 ?_
    refine lv_imul hx hb dX9_isMet_160 ?_
    refine lv_iload hx hb dX9_isMet_161 (lv_at hl 3 rfl) ?_
    refine lv_iload hx hb dX9_isMet_163 (lv_at hl 1 rfl) ?_
    refine lv_isub hx hb dX9_isMet_165 ?_
    refine lv_iload hx hb dX9_isMet_166 (lv_at hl 4 rfl) ?_
    refine lv_iload hx hb dX9_isMet_168 (lv_at hl 8 rfl) ?_
    refine lv_iconst (v := 2) hx hb dX9_isMet_170 (by decide) ?_
    refine lv_irem hx hb dX9_isMet_171 (by decide) ?_
    refine lv_iconst (v := 2) hx hb dX9_isMet_172 (by decide) ?_
    refine lv_imul hx hb dX9_isMet_173 ?_
    refine lv_iadd hx hb dX9_isMet_174 ?_
    refine lv_iload hx hb dX9_isMet_175 (lv_at hl 0 rfl) ?_
    refine lv_isub hx hb dX9_isMet_177 ?_
    refine lv_imul hx hb dX9_isMet_178 ?_
    refine lv_isub hx hb dX9_isMet_179 ?_
    refine lv_istore (lv' := [(13, .int (((y6 - y4) * ((y9 + ((y12 / 2) * 2)) - y5)) - ((y7 - y5) * ((y8 + ((y12 - y12 / 2 * 2) * 2)) - y4)))), (4, .int y4), (5, .int y5), (6, .int y6), (7, .int y7), (8, .int y8), (9, .int y9), (10, .int y10), (11, .int y11), (12, .int y12)]) hx hb dX9_isMet_180 hl (by decide) rfl (fun ls hl => ?_)
    refine lv_iload hx hb dX9_isMet_182 (lv_at hl 7 rfl) ?_
    refine lv_iload hx hb dX9_isMet_184 (lv_at hl 0 rfl) ?_
    refine lv_if_le (tgt := 193) hx hb dX9_isMet_186 (by decide) (fun hc => ?_) (fun hc => ?_)
    · have hw := hw.1 hc
      refine lv_iconst (v := 0) hx hb dX9_isMet_193 (by decide) ?_
      exact tX9_isMet_194 C hr hex Q QX k137 kh137 S y4 y5 y6 y7 y8 y9 y11 y12 (((y6 - y4) * ((y9 + ((y12 / 2) * 2)) - y5)) - ((y7 - y5) * ((y8 + ((y12 - y12 / 2 * 2) * 2)) - y4))) 0 y10 P (lv_sub hl [1, 2, 3, 4, 5, 6, 8, 9, 0] rfl) (by omega) (by omega) hw
    · have hw := hw.2 hc
      refine lv_iconst (v := 1) hx hb dX9_isMet_189 (by decide) ?_
      refine lv_goto (tgt := 194) hx hb dX9_isMet_190 (by decide) ?_
      exact tX9_isMet_194 C hr hex Q QX k137 kh137 S y4 y5 y6 y7 y8 y9 y11 y12 (((y6 - y4) * ((y9 + ((y12 / 2) * 2)) - y5)) - ((y7 - y5) * ((y8 + ((y12 - y12 / 2 * 2) * 2)) - y4))) 1 y10 P (lv_sub hl [1, 2, 3, 4, 5, 6, 8, 9, 0] rfl) (by omega) (by omega) hw
def lX9_isMet_137 (Q : Int32 → MS → Prop) (QX : String → MS → Prop) : Nat → MS → Int32 → Int32 → Int32 → Int32 → Int32 → Int32 → Int32 → Int32 → Int32 → Prop
  | 0 => fun _ _ _ _ _ _ _ _ _ _ => False
  | n + 1 => fun S y4 y5 y6 y7 y8 y9 y10 y11 y12 => wX9_isMet_137 Q QX (lX9_isMet_137 Q QX n) S y4 y5 y6 y7 y8 y9 y10 y11 y12
theorem tlX9_isMet_137 {p : Program} {l : Launch} {e : Env} {s : State} {m : MethodId} {args : Array Value} {below : List Frame} {meth : Method} {c : Code} {G : GP} {A : Nat → Prop} {S0 : MS} (C : CF p l s m args meth c "SkirmishGridModel" cX9_isMet 14 G A) (hr : meth.sig.returnType = (some .boolean)) (hex : ∀ x ∈ c.exceptionTable.toList, False) (Q : Int32 → MS → Prop) (QX : String → MS → Prop) : ∀ (n : Nat), ∀ (S : MS) (y4 : Int32) (y5 : Int32) (y6 : Int32) (y7 : Int32) (y8 : Int32) (y9 : Int32) (y10 : Int32) (y11 : Int32) (y12 : Int32) (cells slots : Nat) (H : Heap) (locs : List Loc) (ls : Array Slot), PW G A s H locs S0 S → lv_has ls 14 [(4, .int y4), (5, .int y5), (6, .int y6), (7, .int y7), (8, .int y8), (9, .int y9), (10, .int y10), (11, .int y11), (12, .int y12)] → cells + 0 ≤ 0 → slots + 0 ≤ 0 → lX9_isMet_137 Q QX n S y4 y5 y6 y7 y8 y9 y10 y11 y12 → W p l e rmX9_isMet s m args below meth c H locs cells slots (vx_MQ below (QI G S0 A Q) (XX G S0 A QX) args s 0 0 A) (F0 m 137 ls []) := by
  intro n
  induction n with
  | zero => intro S y4 y5 y6 y7 y8 y9 y10 y11 y12 cells slots H locs ls P hl hcc hss hw; exact hw.elim
  | succ n ih => intro S y4 y5 y6 y7 y8 y9 y10 y11 y12 cells slots H locs ls P hl hcc hss hw; exact tX9_isMet_137 C hr hex Q QX (lX9_isMet_137 Q QX n) ih S y4 y5 y6 y7 y8 y9 y10 y11 y12 P hl hcc hss hw
def wX9_isMet_128 (Q : Int32 → MS → Prop) (QX : String → MS → Prop) (S : MS) (y4 : Int32) (y5 : Int32) (y6 : Int32) (y7 : Int32) (y8 : Int32) (y9 : Int32) : Prop := (∃ n, lX9_isMet_137 Q QX n S y4 y5 y6 y7 y8 y9 0 0 0)
set_option maxHeartbeats 4000000 in
set_option maxRecDepth 100000 in
theorem tX9_isMet_128 {p : Program} {l : Launch} {e : Env} {s : State} {m : MethodId} {args : Array Value} {below : List Frame} {meth : Method} {c : Code} {H : Heap} {locs : List Loc} {cells slots : Nat} {G : GP} {A : Nat → Prop} {S0 : MS} {ls : Array Slot} (C : CF p l s m args meth c "SkirmishGridModel" cX9_isMet 14 G A) (hr : meth.sig.returnType = (some .boolean)) (hex : ∀ x ∈ c.exceptionTable.toList, False) (Q : Int32 → MS → Prop) (QX : String → MS → Prop) (S : MS) (y4 : Int32) (y5 : Int32) (y6 : Int32) (y7 : Int32) (y8 : Int32) (y9 : Int32) (P : PW G A s H locs S0 S) (hl : lv_has ls 14 [(4, .int y4), (5, .int y5), (6, .int y6), (7, .int y7), (8, .int y8), (9, .int y9)]) (hcc : cells + 0 ≤ 0) (hss : slots + 0 ≤ 0) (hw : wX9_isMet_128 Q QX S y4 y5 y6 y7 y8 y9) : W p l e rmX9_isMet s m args below meth c H locs cells slots (vx_MQ below (QI G S0 A Q) (XX G S0 A QX) args s 0 0 A) (F0 m 128 ls []) := by
  have hx := CF_x C
  have hb := CF_b C
  unfold wX9_isMet_128 at hw
  refine lv_iconst (v := 0) hx hb dX9_isMet_128 (by decide) ?_
  refine lv_istore (lv' := [(10, .int 0), (4, .int y4), (5, .int y5), (6, .int y6), (7, .int y7), (8, .int y8), (9, .int y9)]) hx hb dX9_isMet_129 hl (by decide) rfl (fun ls hl => ?_)
  refine lv_iconst (v := 0) hx hb dX9_isMet_131 (by decide) ?_
  refine lv_istore (lv' := [(11, .int 0), (10, .int 0), (4, .int y4), (5, .int y5), (6, .int y6), (7, .int y7), (8, .int y8), (9, .int y9)]) hx hb dX9_isMet_132 hl (by decide) rfl (fun ls hl => ?_)
  refine lv_iconst (v := 0) hx hb dX9_isMet_134 (by decide) ?_
  refine lv_istore (lv' := [(12, .int 0), (11, .int 0), (10, .int 0), (4, .int y4), (5, .int y5), (6, .int y6), (7, .int y7), (8, .int y8), (9, .int y9)]) hx hb dX9_isMet_135 hl (by decide) rfl (fun ls hl => ?_)
  obtain ⟨n, hw⟩ := hw
  exact tlX9_isMet_137 C hr hex Q QX n S y4 y5 y6 y7 y8 y9 0 0 0 _ _ _ _ _ P (lv_sub hl [3, 4, 5, 6, 7, 8, 2, 1, 0] rfl) (by omega) (by omega) hw
def wX9_isMet_108 (Q : Int32 → MS → Prop) (QX : String → MS → Prop) (S : MS) (y4 : Int32) (y5 : Int32) (y6 : Int32) (y7 : Int32) (y8 : Int32) (y9 : Int32) : Prop := ((y5 < (y9 + 2) → wX9_isMet_128 Q QX S y4 y5 y6 y7 y8 y9) ∧ (¬ y5 < (y9 + 2) → ((y7 < (y9 + 2) → wX9_isMet_128 Q QX S y4 y5 y6 y7 y8 y9) ∧ (¬ y7 < (y9 + 2) → Q 0 S))))
set_option maxHeartbeats 4000000 in
set_option maxRecDepth 100000 in
theorem tX9_isMet_108 {p : Program} {l : Launch} {e : Env} {s : State} {m : MethodId} {args : Array Value} {below : List Frame} {meth : Method} {c : Code} {H : Heap} {locs : List Loc} {cells slots : Nat} {G : GP} {A : Nat → Prop} {S0 : MS} {ls : Array Slot} (C : CF p l s m args meth c "SkirmishGridModel" cX9_isMet 14 G A) (hr : meth.sig.returnType = (some .boolean)) (hex : ∀ x ∈ c.exceptionTable.toList, False) (Q : Int32 → MS → Prop) (QX : String → MS → Prop) (S : MS) (y4 : Int32) (y5 : Int32) (y6 : Int32) (y7 : Int32) (y8 : Int32) (y9 : Int32) (P : PW G A s H locs S0 S) (hl : lv_has ls 14 [(4, .int y4), (5, .int y5), (6, .int y6), (7, .int y7), (8, .int y8), (9, .int y9)]) (hcc : cells + 0 ≤ 0) (hss : slots + 0 ≤ 0) (hw : wX9_isMet_108 Q QX S y4 y5 y6 y7 y8 y9) : W p l e rmX9_isMet s m args below meth c H locs cells slots (vx_MQ below (QI G S0 A Q) (XX G S0 A QX) args s 0 0 A) (F0 m 108 ls []) := by
  have hx := CF_x C
  have hb := CF_b C
  unfold wX9_isMet_108 at hw
  refine lv_iload hx hb dX9_isMet_108 (lv_at hl 1 rfl) ?_
  refine lv_iload hx hb dX9_isMet_110 (lv_at hl 5 rfl) ?_
  refine lv_iconst (v := 2) hx hb dX9_isMet_112 (by decide) ?_
  refine lv_iadd hx hb dX9_isMet_113 ?_
  refine lv_icmp_lt (tgt := 128) hx hb dX9_isMet_114 (by decide) (fun hc => ?_) (fun hc => ?_)
  · have hw := hw.1 hc
    exact tX9_isMet_128 C hr hex Q QX S y4 y5 y6 y7 y8 y9 P (lv_sub hl [0, 1, 2, 3, 4, 5] rfl) (by omega) (by omega) hw
  · have hw := hw.2 hc
    refine lv_iload hx hb dX9_isMet_117 (lv_at hl 3 rfl) ?_
    refine lv_iload hx hb dX9_isMet_119 (lv_at hl 5 rfl) ?_
    refine lv_iconst (v := 2) hx hb dX9_isMet_121 (by decide) ?_
    refine lv_iadd hx hb dX9_isMet_122 ?_
    refine lv_icmp_lt (tgt := 128) hx hb dX9_isMet_123 (by decide) (fun hc => ?_) (fun hc => ?_)
    · have hw := hw.1 hc
      exact tX9_isMet_128 C hr hex Q QX S y4 y5 y6 y7 y8 y9 P (lv_sub hl [0, 1, 2, 3, 4, 5] rfl) (by omega) (by omega) hw
    · have hw := hw.2 hc
      refine lv_iconst (v := 0) hx hb dX9_isMet_126 (by decide) ?_
      exact e_i C hr (by decide +kernel) P hw (by omega) (by omega) dX9_isMet_127
def wX9_isMet_94 (Q : Int32 → MS → Prop) (QX : String → MS → Prop) (S : MS) (y4 : Int32) (y5 : Int32) (y6 : Int32) (y7 : Int32) (y8 : Int32) (y9 : Int32) : Prop := ((y9 < y5 → wX9_isMet_108 Q QX S y4 y5 y6 y7 y8 y9) ∧ (¬ y9 < y5 → ((y7 ≤ y9 → Q 0 S) ∧ (¬ y7 ≤ y9 → wX9_isMet_108 Q QX S y4 y5 y6 y7 y8 y9))))
set_option maxHeartbeats 4000000 in
set_option maxRecDepth 100000 in
theorem tX9_isMet_94 {p : Program} {l : Launch} {e : Env} {s : State} {m : MethodId} {args : Array Value} {below : List Frame} {meth : Method} {c : Code} {H : Heap} {locs : List Loc} {cells slots : Nat} {G : GP} {A : Nat → Prop} {S0 : MS} {ls : Array Slot} (C : CF p l s m args meth c "SkirmishGridModel" cX9_isMet 14 G A) (hr : meth.sig.returnType = (some .boolean)) (hex : ∀ x ∈ c.exceptionTable.toList, False) (Q : Int32 → MS → Prop) (QX : String → MS → Prop) (S : MS) (y4 : Int32) (y5 : Int32) (y6 : Int32) (y7 : Int32) (y8 : Int32) (y9 : Int32) (P : PW G A s H locs S0 S) (hl : lv_has ls 14 [(4, .int y4), (5, .int y5), (6, .int y6), (7, .int y7), (8, .int y8), (9, .int y9)]) (hcc : cells + 0 ≤ 0) (hss : slots + 0 ≤ 0) (hw : wX9_isMet_94 Q QX S y4 y5 y6 y7 y8 y9) : W p l e rmX9_isMet s m args below meth c H locs cells slots (vx_MQ below (QI G S0 A Q) (XX G S0 A QX) args s 0 0 A) (F0 m 94 ls []) := by
  have hx := CF_x C
  have hb := CF_b C
  unfold wX9_isMet_94 at hw
  refine lv_iload hx hb dX9_isMet_94 (lv_at hl 1 rfl) ?_
  refine lv_iload hx hb dX9_isMet_96 (lv_at hl 5 rfl) ?_
  refine lv_icmp_gt (tgt := 108) hx hb dX9_isMet_98 (by decide) (fun hc => ?_) (fun hc => ?_)
  · have hw := hw.1 hc
    exact tX9_isMet_108 C hr hex Q QX S y4 y5 y6 y7 y8 y9 P (lv_sub hl [0, 1, 2, 3, 4, 5] rfl) (by omega) (by omega) hw
  · have hw := hw.2 hc
    refine lv_iload hx hb dX9_isMet_101 (lv_at hl 3 rfl) ?_
    refine lv_iload hx hb dX9_isMet_103 (lv_at hl 5 rfl) ?_
    refine lv_icmp_le (tgt := 126) hx hb dX9_isMet_105 (by decide) (fun hc => ?_) (fun hc => ?_)
    · have hw := hw.1 hc
      refine lv_iconst (v := 0) hx hb dX9_isMet_126 (by decide) ?_
      exact e_i C hr (by decide +kernel) P hw (by omega) (by omega) dX9_isMet_127
    · have hw := hw.2 hc
      exact tX9_isMet_108 C hr hex Q QX S y4 y5 y6 y7 y8 y9 P (lv_sub hl [0, 1, 2, 3, 4, 5] rfl) (by omega) (by omega) hw
def wX9_isMet_76 (Q : Int32 → MS → Prop) (QX : String → MS → Prop) (S : MS) (y4 : Int32) (y5 : Int32) (y6 : Int32) (y7 : Int32) (y8 : Int32) (y9 : Int32) : Prop := ((y4 < (y8 + 2) → wX9_isMet_94 Q QX S y4 y5 y6 y7 y8 y9) ∧ (¬ y4 < (y8 + 2) → (((y8 + 2) ≤ y6 → Q 0 S) ∧ (¬ (y8 + 2) ≤ y6 → wX9_isMet_94 Q QX S y4 y5 y6 y7 y8 y9))))
set_option maxHeartbeats 4000000 in
set_option maxRecDepth 100000 in
theorem tX9_isMet_76 {p : Program} {l : Launch} {e : Env} {s : State} {m : MethodId} {args : Array Value} {below : List Frame} {meth : Method} {c : Code} {H : Heap} {locs : List Loc} {cells slots : Nat} {G : GP} {A : Nat → Prop} {S0 : MS} {ls : Array Slot} (C : CF p l s m args meth c "SkirmishGridModel" cX9_isMet 14 G A) (hr : meth.sig.returnType = (some .boolean)) (hex : ∀ x ∈ c.exceptionTable.toList, False) (Q : Int32 → MS → Prop) (QX : String → MS → Prop) (S : MS) (y4 : Int32) (y5 : Int32) (y6 : Int32) (y7 : Int32) (y8 : Int32) (y9 : Int32) (P : PW G A s H locs S0 S) (hl : lv_has ls 14 [(4, .int y4), (5, .int y5), (6, .int y6), (7, .int y7), (8, .int y8), (9, .int y9)]) (hcc : cells + 0 ≤ 0) (hss : slots + 0 ≤ 0) (hw : wX9_isMet_76 Q QX S y4 y5 y6 y7 y8 y9) : W p l e rmX9_isMet s m args below meth c H locs cells slots (vx_MQ below (QI G S0 A Q) (XX G S0 A QX) args s 0 0 A) (F0 m 76 ls []) := by
  have hx := CF_x C
  have hb := CF_b C
  unfold wX9_isMet_76 at hw
  refine lv_iload hx hb dX9_isMet_76 (lv_at hl 0 rfl) ?_
  refine lv_iload hx hb dX9_isMet_78 (lv_at hl 4 rfl) ?_
  refine lv_iconst (v := 2) hx hb dX9_isMet_80 (by decide) ?_
  refine lv_iadd hx hb dX9_isMet_81 ?_
  refine lv_icmp_lt (tgt := 94) hx hb dX9_isMet_82 (by decide) (fun hc => ?_) (fun hc => ?_)
  · have hw := hw.1 hc
    exact tX9_isMet_94 C hr hex Q QX S y4 y5 y6 y7 y8 y9 P (lv_sub hl [0, 1, 2, 3, 4, 5] rfl) (by omega) (by omega) hw
  · have hw := hw.2 hc
    refine lv_iload hx hb dX9_isMet_85 (lv_at hl 2 rfl) ?_
    refine lv_iload hx hb dX9_isMet_87 (lv_at hl 4 rfl) ?_
    refine lv_iconst (v := 2) hx hb dX9_isMet_89 (by decide) ?_
    refine lv_iadd hx hb dX9_isMet_90 ?_
    refine lv_icmp_ge (tgt := 126) hx hb dX9_isMet_91 (by decide) (fun hc => ?_) (fun hc => ?_)
    · have hw := hw.1 hc
      refine lv_iconst (v := 0) hx hb dX9_isMet_126 (by decide) ?_
      exact e_i C hr (by decide +kernel) P hw (by omega) (by omega) dX9_isMet_127
    · have hw := hw.2 hc
      exact tX9_isMet_94 C hr hex Q QX S y4 y5 y6 y7 y8 y9 P (lv_sub hl [0, 1, 2, 3, 4, 5] rfl) (by omega) (by omega) hw
def wX9_isMet_0 (Q : Int32 → MS → Prop) (QX : String → MS → Prop) (S : MS) (a0 : Nat) (x1 : Int32) (x2 : Int32) (x3 : Int32) : Prop := wp_X9_column (fun r2 S1 => wp_X9_row (fun r4 S3 => wp_X9_column (fun r6 S5 => wp_X9_row (fun r8 S7 => wp_X9_column (fun r10 S9 => wp_X9_row (fun r12 S11 => (((2 * r10) < ((2 * r2) + 1) → wX9_isMet_76 Q QX S11 ((2 * r2) + 1) ((2 * r4) + 1) ((2 * r6) + 1) ((2 * r8) + 1) (2 * r10) (2 * r12)) ∧ (¬ (2 * r10) < ((2 * r2) + 1) → ((((2 * r6) + 1) ≤ (2 * r10) → Q 0 S11) ∧ (¬ ((2 * r6) + 1) ≤ (2 * r10) → wX9_isMet_76 Q QX S11 ((2 * r2) + 1) ((2 * r4) + 1) ((2 * r6) + 1) ((2 * r8) + 1) (2 * r10) (2 * r12)))))) QX S9 a0 x1) QX S7 a0 x1) QX S5 a0 x3) QX S3 a0 x3) QX S1 a0 x2) QX S a0 x2
set_option maxHeartbeats 4000000 in
set_option maxRecDepth 100000 in
theorem tX9_isMet_0 {p : Program} {l : Launch} {e : Env} {s : State} {m : MethodId} {args : Array Value} {below : List Frame} {meth : Method} {c : Code} {H : Heap} {locs : List Loc} {cells slots : Nat} {G : GP} {A : Nat → Prop} {S0 : MS} {ls : Array Slot} (C : CF p l s m args meth c "SkirmishGridModel" cX9_isMet 14 G A) (hr : meth.sig.returnType = (some .boolean)) (hex : ∀ x ∈ c.exceptionTable.toList, False) (Q : Int32 → MS → Prop) (QX : String → MS → Prop) (S : MS) (a0 : Nat) (x1 : Int32) (x2 : Int32) (x3 : Int32) (p_a0 : pI S 9 a0) (P : PW G A s H locs S0 S) (hl : lv_has ls 14 [(0, .ref a0), (1, .int x1), (2, .int x2), (3, .int x3)]) (hcc : cells + 0 ≤ 0) (hss : slots + 0 ≤ 0) (hw : wX9_isMet_0 Q QX S a0 x1 x2 x3) : W p l e rmX9_isMet s m args below meth c H locs cells slots (vx_MQ below (QI G S0 A Q) (XX G S0 A QX) args s 0 0 A) (F0 m 0 ls []) := by
  have hx := CF_x C
  have hb := CF_b C
  unfold wX9_isMet_0 at hw
  refine lv_iconst (v := 2) hx hb dX9_isMet_0 (by decide) ?_
  refine lv_aload_n hx hb dX9_isMet_1 rfl (lv_at hl 0 rfl) ?_
  refine lv_iload_n hx hb dX9_isMet_2 rfl (lv_at hl 2 rfl) ?_
  refine cl_i C P (run_V C P hl.1 (kd := 9) (met_X9_column (CF_n C) G H.size _ _ S a0 x2 p_a0 hw) p_a0 (by decide) rfl q_1429 q_1431 q_p29 q_10 q_1432 cd_X9_column ⟨(Nat.le_of_ble_eq_true rfl), (Nat.le_of_ble_eq_true rfl)⟩ rfl rfl (As := [.int x2]) (rest := [.int 2]) rfl rfl (Nat.le_of_ble_eq_true rfl) dX9_isMet_3 ⟨by show cells + 0 ≤ 0; omega, by show slots + 0 ≤ 0; omega⟩) (kx_out C hex (fun _ _ _ h => h) (by omega) (by omega)) (fun r2 S1 H locs P hE hw => ?_)
  have p_a0 : pI S1 9 a0 := pI_x hE p_a0
  refine lv_imul hx hb dX9_isMet_6 ?_
  refine lv_iconst (v := 1) hx hb dX9_isMet_7 (by decide) ?_
  refine lv_iadd hx hb dX9_isMet_8 ?_
  refine lv_istore (lv' := [(4, .int ((2 * r2) + 1)), (0, .ref a0), (1, .int x1), (2, .int x2), (3, .int x3)]) hx hb dX9_isMet_9 hl (by decide) rfl (fun ls hl => ?_)
  refine lv_iconst (v := 2) hx hb dX9_isMet_11 (by decide) ?_
  refine lv_aload_n hx hb dX9_isMet_12 rfl (lv_at hl 1 rfl) ?_
  refine lv_iload_n hx hb dX9_isMet_13 rfl (lv_at hl 3 rfl) ?_
  refine cl_i C P (run_V C P hl.1 (kd := 9) (met_X9_row (CF_n C) G H.size _ _ S1 a0 x2 p_a0 hw) p_a0 (by decide) rfl q_1433 q_1435 q_p30 q_10 q_1436 cd_X9_row ⟨(Nat.le_of_ble_eq_true rfl), (Nat.le_of_ble_eq_true rfl)⟩ rfl rfl (As := [.int x2]) (rest := [.int 2]) rfl rfl (Nat.le_of_ble_eq_true rfl) dX9_isMet_14 ⟨by show cells + 0 ≤ 0; omega, by show slots + 0 ≤ 0; omega⟩) (kx_out C hex (fun _ _ _ h => h) (by omega) (by omega)) (fun r4 S3 H locs P hE hw => ?_)
  have p_a0 : pI S3 9 a0 := pI_x hE p_a0
  refine lv_imul hx hb dX9_isMet_17 ?_
  refine lv_iconst (v := 1) hx hb dX9_isMet_18 (by decide) ?_
  refine lv_iadd hx hb dX9_isMet_19 ?_
  refine lv_istore (lv' := [(5, .int ((2 * r4) + 1)), (4, .int ((2 * r2) + 1)), (0, .ref a0), (1, .int x1), (2, .int x2), (3, .int x3)]) hx hb dX9_isMet_20 hl (by decide) rfl (fun ls hl => ?_)
  refine lv_iconst (v := 2) hx hb dX9_isMet_22 (by decide) ?_
  refine lv_aload_n hx hb dX9_isMet_23 rfl (lv_at hl 2 rfl) ?_
  refine lv_iload_n hx hb dX9_isMet_24 rfl (lv_at hl 5 rfl) ?_
  refine cl_i C P (run_V C P hl.1 (kd := 9) (met_X9_column (CF_n C) G H.size _ _ S3 a0 x3 p_a0 hw) p_a0 (by decide) rfl q_1429 q_1431 q_p29 q_10 q_1432 cd_X9_column ⟨(Nat.le_of_ble_eq_true rfl), (Nat.le_of_ble_eq_true rfl)⟩ rfl rfl (As := [.int x3]) (rest := [.int 2]) rfl rfl (Nat.le_of_ble_eq_true rfl) dX9_isMet_25 ⟨by show cells + 0 ≤ 0; omega, by show slots + 0 ≤ 0; omega⟩) (kx_out C hex (fun _ _ _ h => h) (by omega) (by omega)) (fun r6 S5 H locs P hE hw => ?_)
  have p_a0 : pI S5 9 a0 := pI_x hE p_a0
  refine lv_imul hx hb dX9_isMet_28 ?_
  refine lv_iconst (v := 1) hx hb dX9_isMet_29 (by decide) ?_
  refine lv_iadd hx hb dX9_isMet_30 ?_
  refine lv_istore (lv' := [(6, .int ((2 * r6) + 1)), (5, .int ((2 * r4) + 1)), (4, .int ((2 * r2) + 1)), (0, .ref a0), (1, .int x1), (2, .int x2), (3, .int x3)]) hx hb dX9_isMet_31 hl (by decide) rfl (fun ls hl => ?_)
  refine lv_iconst (v := 2) hx hb dX9_isMet_33 (by decide) ?_
  refine lv_aload_n hx hb dX9_isMet_34 rfl (lv_at hl 3 rfl) ?_
  refine lv_iload_n hx hb dX9_isMet_35 rfl (lv_at hl 6 rfl) ?_
  refine cl_i C P (run_V C P hl.1 (kd := 9) (met_X9_row (CF_n C) G H.size _ _ S5 a0 x3 p_a0 hw) p_a0 (by decide) rfl q_1433 q_1435 q_p30 q_10 q_1436 cd_X9_row ⟨(Nat.le_of_ble_eq_true rfl), (Nat.le_of_ble_eq_true rfl)⟩ rfl rfl (As := [.int x3]) (rest := [.int 2]) rfl rfl (Nat.le_of_ble_eq_true rfl) dX9_isMet_36 ⟨by show cells + 0 ≤ 0; omega, by show slots + 0 ≤ 0; omega⟩) (kx_out C hex (fun _ _ _ h => h) (by omega) (by omega)) (fun r8 S7 H locs P hE hw => ?_)
  have p_a0 : pI S7 9 a0 := pI_x hE p_a0
  refine lv_imul hx hb dX9_isMet_39 ?_
  refine lv_iconst (v := 1) hx hb dX9_isMet_40 (by decide) ?_
  refine lv_iadd hx hb dX9_isMet_41 ?_
  refine lv_istore (lv' := [(7, .int ((2 * r8) + 1)), (6, .int ((2 * r6) + 1)), (5, .int ((2 * r4) + 1)), (4, .int ((2 * r2) + 1)), (0, .ref a0), (1, .int x1), (2, .int x2), (3, .int x3)]) hx hb dX9_isMet_42 hl (by decide) rfl (fun ls hl => ?_)
  refine lv_iconst (v := 2) hx hb dX9_isMet_44 (by decide) ?_
  refine lv_aload_n hx hb dX9_isMet_45 rfl (lv_at hl 4 rfl) ?_
  refine lv_iload_n hx hb dX9_isMet_46 rfl (lv_at hl 5 rfl) ?_
  refine cl_i C P (run_V C P hl.1 (kd := 9) (met_X9_column (CF_n C) G H.size _ _ S7 a0 x1 p_a0 hw) p_a0 (by decide) rfl q_1429 q_1431 q_p29 q_10 q_1432 cd_X9_column ⟨(Nat.le_of_ble_eq_true rfl), (Nat.le_of_ble_eq_true rfl)⟩ rfl rfl (As := [.int x1]) (rest := [.int 2]) rfl rfl (Nat.le_of_ble_eq_true rfl) dX9_isMet_47 ⟨by show cells + 0 ≤ 0; omega, by show slots + 0 ≤ 0; omega⟩) (kx_out C hex (fun _ _ _ h => h) (by omega) (by omega)) (fun r10 S9 H locs P hE hw => ?_)
  have p_a0 : pI S9 9 a0 := pI_x hE p_a0
  refine lv_imul hx hb dX9_isMet_50 ?_
  refine lv_istore (lv' := [(8, .int (2 * r10)), (7, .int ((2 * r8) + 1)), (6, .int ((2 * r6) + 1)), (5, .int ((2 * r4) + 1)), (4, .int ((2 * r2) + 1)), (0, .ref a0), (1, .int x1), (2, .int x2), (3, .int x3)]) hx hb dX9_isMet_51 hl (by decide) rfl (fun ls hl => ?_)
  refine lv_iconst (v := 2) hx hb dX9_isMet_53 (by decide) ?_
  refine lv_aload_n hx hb dX9_isMet_54 rfl (lv_at hl 5 rfl) ?_
  refine lv_iload_n hx hb dX9_isMet_55 rfl (lv_at hl 6 rfl) ?_
  refine cl_i C P (run_V C P hl.1 (kd := 9) (met_X9_row (CF_n C) G H.size _ _ S9 a0 x1 p_a0 hw) p_a0 (by decide) rfl q_1433 q_1435 q_p30 q_10 q_1436 cd_X9_row ⟨(Nat.le_of_ble_eq_true rfl), (Nat.le_of_ble_eq_true rfl)⟩ rfl rfl (As := [.int x1]) (rest := [.int 2]) rfl rfl (Nat.le_of_ble_eq_true rfl) dX9_isMet_56 ⟨by show cells + 0 ≤ 0; omega, by show slots + 0 ≤ 0; omega⟩) (kx_out C hex (fun _ _ _ h => h) (by omega) (by omega)) (fun r12 S11 H locs P hE hw => ?_)
  have p_a0 : pI S11 9 a0 := pI_x hE p_a0
  refine lv_imul hx hb dX9_isMet_59 ?_
  refine lv_istore (lv' := [(9, .int (2 * r12)), (8, .int (2 * r10)), (7, .int ((2 * r8) + 1)), (6, .int ((2 * r6) + 1)), (5, .int ((2 * r4) + 1)), (4, .int ((2 * r2) + 1)), (0, .ref a0), (1, .int x1), (2, .int x2), (3, .int x3)]) hx hb dX9_isMet_60 hl (by decide) rfl (fun ls hl => ?_)
  refine lv_iload hx hb dX9_isMet_62 (lv_at hl 5 rfl) ?_
  refine lv_iload hx hb dX9_isMet_64 (lv_at hl 1 rfl) ?_
  refine lv_icmp_gt (tgt := 76) hx hb dX9_isMet_66 (by decide) (fun hc => ?_) (fun hc => ?_)
  · have hw := hw.1 hc
    exact tX9_isMet_76 C hr hex Q QX S11 ((2 * r2) + 1) ((2 * r4) + 1) ((2 * r6) + 1) ((2 * r8) + 1) (2 * r10) (2 * r12) P (lv_sub hl [5, 4, 3, 2, 1, 0] rfl) (by omega) (by omega) hw
  · have hw := hw.2 hc
    refine lv_iload hx hb dX9_isMet_69 (lv_at hl 3 rfl) ?_
    refine lv_iload hx hb dX9_isMet_71 (lv_at hl 1 rfl) ?_
    refine lv_icmp_le (tgt := 126) hx hb dX9_isMet_73 (by decide) (fun hc => ?_) (fun hc => ?_)
    · have hw := hw.1 hc
      refine lv_iconst (v := 0) hx hb dX9_isMet_126 (by decide) ?_
      exact e_i C hr (by decide +kernel) P hw (by omega) (by omega) dX9_isMet_127
    · have hw := hw.2 hc
      exact tX9_isMet_76 C hr hex Q QX S11 ((2 * r2) + 1) ((2 * r4) + 1) ((2 * r6) + 1) ((2 * r8) + 1) (2 * r10) (2 * r12) P (lv_sub hl [5, 4, 3, 2, 1, 0] rfl) (by omega) (by omega) hw
def wp_X9_isMet (Q : Int32 → MS → Prop) (QX : String → MS → Prop) (S : MS) (a0 : Nat) (x1 : Int32) (x2 : Int32) (x3 : Int32) : Prop := wX9_isMet_0 Q QX S a0 x1 x2 x3
set_option maxHeartbeats 4000000 in
set_option maxRecDepth 100000 in
theorem met_X9_isMet {l : Launch} (hst : l.stackTraces = false) (G : GP) (sz : Nat) (Q : Int32 → MS → Prop) (QX : String → MS → Prop) (S : MS) (a0 : Nat) (x1 : Int32) (x2 : Int32) (x3 : Int32) (p_a0 : pI S 9 a0) (hw : wp_X9_isMet Q QX S a0 x1 x2 x3) : vx_Met l yX9_isMet (.code yX9_isMet cX9_isMet 14 (some .boolean) :: GW) rmX9_isMet (va_Pc [.ref a0, .int x1, .int x2, .int x3] (PR G S sz)) (QI G S (FA G S sz) Q) (XX G S (FA G S sz) QX) 0 0 (FA G S sz) := by
  refine st_m (by decide +kernel) hst (fun p e s m below meth c C hr hnm hex P => ?_)
  refine en_m (Nat.le_of_ble_eq_true rfl) (lv := [(0, .ref a0), (1, .int x1), (2, .int x2), (3, .int x3)]) rfl (fun ls hl => ?_)
  have C : CF p l s m _ meth c "SkirmishGridModel" cX9_isMet 14 G (FA G S sz) := C
  exact tX9_isMet_0 C hr hex Q QX S a0 x1 x2 x3 p_a0 P hl (by omega) (by omega) hw
theorem cd_X9_isMet : yX9_isMet.cls = RX9 ∧ yX9_isMet.cls ≠ "java/lang/invoke/MethodHandle" ∧ yX9_isMet.cls ≠ "java/lang/invoke/VarHandle" ∧ (parseMethodDescriptor yX9_isMet.desc).map (fun d => d.parameters.length) = some 3 := by decide +kernel
