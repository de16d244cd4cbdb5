theorem q_1245 : Cond.classLink "SkirmishGrid" 394 "java/lang/ArithmeticException" ∈ GW := gw_t 1245 (by decide +kernel) (by decide +kernel)
theorem q_27 : Cond.initialized "java/lang/ArithmeticException" ∈ GW := gw_t 27 (by decide +kernel) (by decide +kernel)
theorem q_167 : Cond.fieldLink "SkirmishGrid" 390 "SkirmishGrid$Fight" "units" "[LSkirmishGrid$Unit;" ∈ GW := gw_t 167 (by decide +kernel) (by decide +kernel)
theorem q_1255 : Cond.methodLink "SkirmishGrid" 399 yX8_requireRow ∈ GW := gw_t 1255 (by decide +kernel) (by decide +kernel)
theorem q_1257 : Cond.instanceMethod yX8_requireRow ∈ GW := gw_t 1257 (by decide +kernel) (by decide +kernel)
theorem q_p22 : Cond.selects "SkirmishGrid" yX8_requireRow yX8_requireRow ∈ GW := gw_p 22 (by decide +kernel) (by decide +kernel)
theorem q_1258 : Cond.code yX8_requireRow cX8_requireRow 2 (some (.object "SkirmishGrid$Row")) ∈ GW := gw_t 1258 (by decide +kernel) (by decide +kernel)
theorem q_1260 : Cond.methodLink "SkirmishGrid" 403 yX6_store ∈ GW := gw_t 1260 (by decide +kernel) (by decide +kernel)
theorem q_1261 : Cond.instanceMethod yX6_store ∈ GW := gw_t 1261 (by decide +kernel) (by decide +kernel)
theorem q_1262 : Cond.selects "SkirmishGrid$Row" yX6_store yX6_store ∈ GW := gw_t 1262 (by decide +kernel) (by decide +kernel)
theorem q_1263 : Cond.code yX6_store cX6_store 5 none ∈ GW := gw_t 1263 (by decide +kernel) (by decide +kernel)
theorem q_286 : Cond.fieldLink "SkirmishGrid" 407 "SkirmishGrid$Row" "length" "I" ∈ GW := gw_t 286 (by decide +kernel) (by decide +kernel)
theorem q_282 : Cond.fieldLink "SkirmishGrid" 409 "SkirmishGrid$Row" "isStored" "Z" ∈ GW := gw_t 282 (by decide +kernel) (by decide +kernel)
theorem q_284 : Cond.fieldLink "SkirmishGrid" 414 "SkirmishGrid$Row" "isExact" "Z" ∈ GW := gw_t 284 (by decide +kernel) (by decide +kernel)
theorem q_1275 : Cond.methodLink "SkirmishGrid" 421 yX6_takeFrom ∈ GW := gw_t 1275 (by decide +kernel) (by decide +kernel)
theorem q_1276 : Cond.instanceMethod yX6_takeFrom ∈ GW := gw_t 1276 (by decide +kernel) (by decide +kernel)
theorem q_1277 : Cond.selects "SkirmishGrid$Row" yX6_takeFrom yX6_takeFrom ∈ GW := gw_t 1277 (by decide +kernel) (by decide +kernel)
theorem q_1278 : Cond.code yX6_takeFrom cX6_takeFrom 5 (some .boolean) ∈ GW := gw_t 1278 (by decide +kernel) (by decide +kernel)
theorem q_1290 : Cond.constantFloat "SkirmishGrid" 483 1258291200 ∈ GW := gw_t 1290 (by decide +kernel) (by decide +kernel)
theorem q_1287 : Cond.methodLink "SkirmishGrid" 434 yX8_bitsOf ∈ GW := gw_t 1287 (by decide +kernel) (by decide +kernel)
theorem q_1288 : Cond.static yX8_bitsOf ∈ GW := gw_t 1288 (by decide +kernel) (by decide +kernel)
theorem q_1289 : Cond.code yX8_bitsOf cX8_bitsOf 4 (some .int) ∈ GW := gw_t 1289 (by decide +kernel) (by decide +kernel)
theorem q_280 : Cond.fieldLink "SkirmishGrid" 430 "SkirmishGrid$Row" "parts" "[F" ∈ GW := gw_t 280 (by decide +kernel) (by decide +kernel)
theorem q_278 : Cond.fieldLink "SkirmishGrid" 427 "SkirmishGrid$Row" "whole" "[I" ∈ GW := gw_t 278 (by decide +kernel) (by decide +kernel)
theorem q_375 : Cond.methodLink "SkirmishGrid" 438 yX2_copyFrom ∈ GW := gw_t 375 (by decide +kernel) (by decide +kernel)
theorem q_396 : Cond.methodLink "SkirmishGrid" 441 yX0_copyFrom ∈ GW := gw_t 396 (by decide +kernel) (by decide +kernel)
theorem q_397 : Cond.instanceMethod yX0_copyFrom ∈ GW := gw_t 397 (by decide +kernel) (by decide +kernel)
theorem q_398 : Cond.selects "SkirmishGrid$Commands" yX0_copyFrom yX0_copyFrom ∈ GW := gw_t 398 (by decide +kernel) (by decide +kernel)
theorem q_399 : Cond.code yX0_copyFrom cX0_copyFrom 2 none ∈ GW := gw_t 399 (by decide +kernel) (by decide +kernel)
theorem q_307 : Cond.fieldLink "SkirmishGrid" 444 "SkirmishGrid" "isKept" "Z" ∈ GW := gw_t 307 (by decide +kernel) (by decide +kernel)
theorem dX8_meanHealth_0 : decode cX8_meanHealth 0 = .ok (.iload_n 1, 1) := by decide +kernel
theorem dX8_meanHealth_1 : decode cX8_meanHealth 1 = .ok (.invokestatic 160, 3) := by decide +kernel
theorem dX8_meanHealth_4 : decode cX8_meanHealth 4 = .ok (.iconst 0, 1) := by decide +kernel
theorem dX8_meanHealth_5 : decode cX8_meanHealth 5 = .ok (.istore_n 2, 1) := by decide +kernel
theorem dX8_meanHealth_6 : decode cX8_meanHealth 6 = .ok (.iconst 0, 1) := by decide +kernel
theorem dX8_meanHealth_7 : decode cX8_meanHealth 7 = .ok (.istore_n 3, 1) := by decide +kernel
theorem dX8_meanHealth_8 : decode cX8_meanHealth 8 = .ok (.iconst 0, 1) := by decide +kernel
theorem dX8_meanHealth_9 : decode cX8_meanHealth 9 = .ok (.istore 4, 2) := by decide +kernel
theorem dX8_meanHealth_11 : decode cX8_meanHealth 11 = .ok (.iload 4, 2) := by decide +kernel
theorem dX8_meanHealth_13 : decode cX8_meanHealth 13 = .ok (.aload_n 0, 1) := by decide +kernel
theorem dX8_meanHealth_14 : decode cX8_meanHealth 14 = .ok (.getfield 20, 3) := by decide +kernel
theorem dX8_meanHealth_17 : decode cX8_meanHealth 17 = .ok (.getfield 174, 3) := by decide +kernel
theorem dX8_meanHealth_20 : decode cX8_meanHealth 20 = .ok (.if_icmp .ge 41, 3) := by decide +kernel
theorem dX8_meanHealth_23 : decode cX8_meanHealth 23 = .ok (.aload_n 0, 1) := by decide +kernel
theorem dX8_meanHealth_24 : decode cX8_meanHealth 24 = .ok (.getfield 20, 3) := by decide +kernel
theorem dX8_meanHealth_27 : decode cX8_meanHealth 27 = .ok (.getfield 390, 3) := by decide +kernel
theorem dX8_meanHealth_30 : decode cX8_meanHealth 30 = .ok (.iload 4, 2) := by decide +kernel
theorem dX8_meanHealth_32 : decode cX8_meanHealth 32 = .ok (.aaload, 1) := by decide +kernel
theorem dX8_meanHealth_33 : decode cX8_meanHealth 33 = .ok (.astore 5, 2) := by decide +kernel
theorem dX8_meanHealth_35 : decode cX8_meanHealth 35 = .ok (.aload 5, 2) := by decide +kernel
theorem dX8_meanHealth_37 : decode cX8_meanHealth 37 = .ok (.getfield 187, 3) := by decide +kernel
theorem dX8_meanHealth_40 : decode cX8_meanHealth 40 = .ok (.iload_n 1, 1) := by decide +kernel
theorem dX8_meanHealth_41 : decode cX8_meanHealth 41 = .ok (.if_icmp .ne 14, 3) := by decide +kernel
theorem dX8_meanHealth_44 : decode cX8_meanHealth 44 = .ok (.iload_n 2, 1) := by decide +kernel
theorem dX8_meanHealth_45 : decode cX8_meanHealth 45 = .ok (.aload 5, 2) := by decide +kernel
theorem dX8_meanHealth_47 : decode cX8_meanHealth 47 = .ok (.getfield 198, 3) := by decide +kernel
theorem dX8_meanHealth_50 : decode cX8_meanHealth 50 = .ok (.iadd, 1) := by decide +kernel
theorem dX8_meanHealth_51 : decode cX8_meanHealth 51 = .ok (.istore_n 2, 1) := by decide +kernel
theorem dX8_meanHealth_52 : decode cX8_meanHealth 52 = .ok (.iinc 3 1, 3) := by decide +kernel
theorem dX8_meanHealth_55 : decode cX8_meanHealth 55 = .ok (.iinc 4 1, 3) := by decide +kernel
theorem dX8_meanHealth_58 : decode cX8_meanHealth 58 = .ok (.goto (-47), 3) := by decide +kernel
theorem dX8_meanHealth_61 : decode cX8_meanHealth 61 = .ok (.iload_n 3, 1) := by decide +kernel
theorem dX8_meanHealth_62 : decode cX8_meanHealth 62 = .ok (.ifCond .ne 14, 3) := by decide +kernel
theorem dX8_meanHealth_65 : decode cX8_meanHealth 65 = .ok (.new 394, 3) := by decide +kernel
theorem dX8_meanHealth_68 : decode cX8_meanHealth 68 = .ok (.dup, 1) := by decide +kernel
theorem dX8_meanHealth_69 : decode cX8_meanHealth 69 = .ok (.ldc_w 396, 3) := by decide +kernel
theorem dX8_meanHealth_72 : decode cX8_meanHealth 72 = .ok (.invokespecial 398, 3) := by decide +kernel
theorem dX8_meanHealth_75 : decode cX8_meanHealth 75 = .ok (.athrow, 1) := by decide +kernel
theorem dX8_meanHealth_76 : decode cX8_meanHealth 76 = .ok (.iload_n 2, 1) := by decide +kernel
theorem dX8_meanHealth_77 : decode cX8_meanHealth 77 = .ok (.i2f, 1) := by decide +kernel
theorem dX8_meanHealth_78 : decode cX8_meanHealth 78 = .ok (.iload_n 3, 1) := by decide +kernel
theorem dX8_meanHealth_79 : decode cX8_meanHealth 79 = .ok (.i2f, 1) := by decide +kernel
theorem dX8_meanHealth_80 : decode cX8_meanHealth 80 = .ok (.fdiv, 1) := by decide +kernel
theorem dX8_meanHealth_81 : decode cX8_meanHealth 81 = .ok (.freturn, 1) := by decide +kernel
theorem dX8_requireRow_0 : decode cX8_requireRow 0 = .ok (.iload_n 1, 1) := by decide +kernel
theorem dX8_requireRow_1 : decode cX8_requireRow 1 = .ok (.ifCond .eq 19, 3) := by decide +kernel
theorem dX8_requireRow_4 : decode cX8_requireRow 4 = .ok (.iload_n 1, 1) := by decide +kernel
theorem dX8_requireRow_5 : decode cX8_requireRow 5 = .ok (.iconst 1, 1) := by decide +kernel
theorem dX8_requireRow_6 : decode cX8_requireRow 6 = .ok (.if_icmp .eq 14, 3) := by decide +kernel
theorem dX8_requireRow_9 : decode cX8_requireRow 9 = .ok (.new 128, 3) := by decide +kernel
theorem dX8_requireRow_12 : decode cX8_requireRow 12 = .ok (.dup, 1) := by decide +kernel
theorem dX8_requireRow_13 : decode cX8_requireRow 13 = .ok (.ldc_w 472, 3) := by decide +kernel
theorem dX8_requireRow_16 : decode cX8_requireRow 16 = .ok (.invokespecial 132, 3) := by decide +kernel
theorem dX8_requireRow_19 : decode cX8_requireRow 19 = .ok (.athrow, 1) := by decide +kernel
theorem dX8_requireRow_20 : decode cX8_requireRow 20 = .ok (.iload_n 1, 1) := by decide +kernel
theorem dX8_requireRow_21 : decode cX8_requireRow 21 = .ok (.ifCond .ne 10, 3) := by decide +kernel
theorem dX8_requireRow_24 : decode cX8_requireRow 24 = .ok (.aload_n 0, 1) := by decide +kernel
theorem dX8_requireRow_25 : decode cX8_requireRow 25 = .ok (.getfield 57, 3) := by decide +kernel
theorem dX8_requireRow_28 : decode cX8_requireRow 28 = .ok (.goto 7, 3) := by decide +kernel
theorem dX8_requireRow_31 : decode cX8_requireRow 31 = .ok (.aload_n 0, 1) := by decide +kernel
theorem dX8_requireRow_32 : decode cX8_requireRow 32 = .ok (.getfield 61, 3) := by decide +kernel
theorem dX8_requireRow_35 : decode cX8_requireRow 35 = .ok (.areturn, 1) := by decide +kernel
theorem dX8_storeHealths_0 : decode cX8_storeHealths 0 = .ok (.aload_n 0, 1) := by decide +kernel
theorem dX8_storeHealths_1 : decode cX8_storeHealths 1 = .ok (.iload_n 1, 1) := by decide +kernel
theorem dX8_storeHealths_2 : decode cX8_storeHealths 2 = .ok (.invokevirtual 399, 3) := by decide +kernel
theorem dX8_storeHealths_5 : decode cX8_storeHealths 5 = .ok (.astore_n 3, 1) := by decide +kernel
theorem dX8_storeHealths_6 : decode cX8_storeHealths 6 = .ok (.aload_n 3, 1) := by decide +kernel
theorem dX8_storeHealths_7 : decode cX8_storeHealths 7 = .ok (.aload_n 0, 1) := by decide +kernel
theorem dX8_storeHealths_8 : decode cX8_storeHealths 8 = .ok (.getfield 20, 3) := by decide +kernel
theorem dX8_storeHealths_11 : decode cX8_storeHealths 11 = .ok (.iload_n 2, 1) := by decide +kernel
theorem dX8_storeHealths_12 : decode cX8_storeHealths 12 = .ok (.invokevirtual 403, 3) := by decide +kernel
theorem dX8_storeHealths_15 : decode cX8_storeHealths 15 = .ok (.aload_n 3, 1) := by decide +kernel
theorem dX8_storeHealths_16 : decode cX8_storeHealths 16 = .ok (.getfield 407, 3) := by decide +kernel
theorem dX8_storeHealths_19 : decode cX8_storeHealths 19 = .ok (.ireturn, 1) := by decide +kernel
theorem dX8_copyHealths_0 : decode cX8_copyHealths 0 = .ok (.aload_n 0, 1) := by decide +kernel
theorem dX8_copyHealths_1 : decode cX8_copyHealths 1 = .ok (.iload_n 1, 1) := by decide +kernel
theorem dX8_copyHealths_2 : decode cX8_copyHealths 2 = .ok (.invokevirtual 399, 3) := by decide +kernel
theorem dX8_copyHealths_5 : decode cX8_copyHealths 5 = .ok (.astore_n 3, 1) := by decide +kernel
theorem dX8_copyHealths_6 : decode cX8_copyHealths 6 = .ok (.aload_n 0, 1) := by decide +kernel
theorem dX8_copyHealths_7 : decode cX8_copyHealths 7 = .ok (.iconst 1, 1) := by decide +kernel
theorem dX8_copyHealths_8 : decode cX8_copyHealths 8 = .ok (.iload_n 1, 1) := by decide +kernel
theorem dX8_copyHealths_9 : decode cX8_copyHealths 9 = .ok (.isub, 1) := by decide +kernel
theorem dX8_copyHealths_10 : decode cX8_copyHealths 10 = .ok (.invokevirtual 399, 3) := by decide +kernel
theorem dX8_copyHealths_13 : decode cX8_copyHealths 13 = .ok (.astore 4, 2) := by decide +kernel
theorem dX8_copyHealths_15 : decode cX8_copyHealths 15 = .ok (.aload_n 3, 1) := by decide +kernel
theorem dX8_copyHealths_16 : decode cX8_copyHealths 16 = .ok (.getfield 409, 3) := by decide +kernel
theorem dX8_copyHealths_19 : decode cX8_copyHealths 19 = .ok (.ifCond .eq 11, 3) := by decide +kernel
theorem dX8_copyHealths_22 : decode cX8_copyHealths 22 = .ok (.aload 4, 2) := by decide +kernel
theorem dX8_copyHealths_24 : decode cX8_copyHealths 24 = .ok (.getfield 409, 3) := by decide +kernel
theorem dX8_copyHealths_27 : decode cX8_copyHealths 27 = .ok (.ifCond .ne 14, 3) := by decide +kernel
theorem dX8_copyHealths_30 : decode cX8_copyHealths 30 = .ok (.new 117, 3) := by decide +kernel
theorem dX8_copyHealths_33 : decode cX8_copyHealths 33 = .ok (.dup, 1) := by decide +kernel
theorem dX8_copyHealths_34 : decode cX8_copyHealths 34 = .ok (.ldc_w 412, 3) := by decide +kernel
theorem dX8_copyHealths_37 : decode cX8_copyHealths 37 = .ok (.invokespecial 121, 3) := by decide +kernel
theorem dX8_copyHealths_40 : decode cX8_copyHealths 40 = .ok (.athrow, 1) := by decide +kernel
theorem dX8_copyHealths_41 : decode cX8_copyHealths 41 = .ok (.aload_n 3, 1) := by decide +kernel
theorem dX8_copyHealths_42 : decode cX8_copyHealths 42 = .ok (.getfield 414, 3) := by decide +kernel
theorem dX8_copyHealths_45 : decode cX8_copyHealths 45 = .ok (.aload 4, 2) := by decide +kernel
theorem dX8_copyHealths_47 : decode cX8_copyHealths 47 = .ok (.getfield 414, 3) := by decide +kernel
theorem dX8_copyHealths_50 : decode cX8_copyHealths 50 = .ok (.if_icmp .eq 14, 3) := by decide +kernel
theorem dX8_copyHealths_53 : decode cX8_copyHealths 53 = .ok (.new 92, 3) := by decide +kernel
theorem dX8_copyHealths_56 : decode cX8_copyHealths 56 = .ok (.dup, 1) := by decide +kernel
theorem dX8_copyHealths_57 : decode cX8_copyHealths 57 = .ok (.ldc_w 417, 3) := by decide +kernel
theorem dX8_copyHealths_60 : decode cX8_copyHealths 60 = .ok (.invokespecial 96, 3) := by decide +kernel
theorem dX8_copyHealths_63 : decode cX8_copyHealths 63 = .ok (.athrow, 1) := by decide +kernel
theorem dX8_copyHealths_64 : decode cX8_copyHealths 64 = .ok (.iload_n 2, 1) := by decide +kernel
theorem dX8_copyHealths_65 : decode cX8_copyHealths 65 = .ok (.ifCond .lt 20, 3) := by decide +kernel
theorem dX8_copyHealths_68 : decode cX8_copyHealths 68 = .ok (.iload_n 2, 1) := by decide +kernel
theorem dX8_copyHealths_69 : decode cX8_copyHealths 69 = .ok (.aload_n 3, 1) := by decide +kernel
theorem dX8_copyHealths_70 : decode cX8_copyHealths 70 = .ok (.getfield 407, 3) := by decide +kernel
theorem dX8_copyHealths_73 : decode cX8_copyHealths 73 = .ok (.if_icmp .gt 12, 3) := by decide +kernel
theorem dX8_copyHealths_76 : decode cX8_copyHealths 76 = .ok (.iload_n 2, 1) := by decide +kernel
theorem dX8_copyHealths_77 : decode cX8_copyHealths 77 = .ok (.aload 4, 2) := by decide +kernel
theorem dX8_copyHealths_79 : decode cX8_copyHealths 79 = .ok (.getfield 407, 3) := by decide +kernel
theorem dX8_copyHealths_82 : decode cX8_copyHealths 82 = .ok (.if_icmp .le 14, 3) := by decide +kernel
theorem dX8_copyHealths_85 : decode cX8_copyHealths 85 = .ok (.new 64, 3) := by decide +kernel
theorem dX8_copyHealths_88 : decode cX8_copyHealths 88 = .ok (.dup, 1) := by decide +kernel
theorem dX8_copyHealths_89 : decode cX8_copyHealths 89 = .ok (.ldc_w 419, 3) := by decide +kernel
theorem dX8_copyHealths_92 : decode cX8_copyHealths 92 = .ok (.invokespecial 68, 3) := by decide +kernel
theorem dX8_copyHealths_95 : decode cX8_copyHealths 95 = .ok (.athrow, 1) := by decide +kernel
theorem dX8_copyHealths_96 : decode cX8_copyHealths 96 = .ok (.aload 4, 2) := by decide +kernel
theorem dX8_copyHealths_98 : decode cX8_copyHealths 98 = .ok (.aload_n 3, 1) := by decide +kernel
theorem dX8_copyHealths_99 : decode cX8_copyHealths 99 = .ok (.iload_n 2, 1) := by decide +kernel
theorem dX8_copyHealths_100 : decode cX8_copyHealths 100 = .ok (.invokevirtual 421, 3) := by decide +kernel
theorem dX8_copyHealths_103 : decode cX8_copyHealths 103 = .ok (.ireturn, 1) := by decide +kernel
theorem dX8_bitsOf_0 : decode cX8_bitsOf 0 = .ok (.fload_n 0, 1) := by decide +kernel
theorem dX8_bitsOf_1 : decode cX8_bitsOf 1 = .ok (.fconst 0, 1) := by decide +kernel
theorem dX8_bitsOf_2 : decode cX8_bitsOf 2 = .ok (.fcmp .l, 1) := by decide +kernel
theorem dX8_bitsOf_3 : decode cX8_bitsOf 3 = .ok (.ifCond .ne 5, 3) := by decide +kernel
theorem dX8_bitsOf_6 : decode cX8_bitsOf 6 = .ok (.iconst 0, 1) := by decide +kernel
theorem dX8_bitsOf_7 : decode cX8_bitsOf 7 = .ok (.ireturn, 1) := by decide +kernel
theorem dX8_bitsOf_8 : decode cX8_bitsOf 8 = .ok (.fload_n 0, 1) := by decide +kernel
theorem dX8_bitsOf_9 : decode cX8_bitsOf 9 = .ok (.fstore_n 1, 1) := by decide +kernel
theorem dX8_bitsOf_10 : decode cX8_bitsOf 10 = .ok (.bipush 127, 2) := by decide +kernel
theorem dX8_bitsOf_12 : decode cX8_bitsOf 12 = .ok (.istore_n 2, 1) := by decide +kernel
theorem dX8_bitsOf_13 : decode cX8_bitsOf 13 = .ok (.iconst 0, 1) := by decide +kernel
theorem dX8_bitsOf_14 : decode cX8_bitsOf 14 = .ok (.istore_n 3, 1) := by decide +kernel
theorem dX8_bitsOf_15 : decode cX8_bitsOf 15 = .ok (.iload_n 3, 1) := by decide +kernel
theorem dX8_bitsOf_16 : decode cX8_bitsOf 16 = .ok (.bipush 127, 2) := by decide +kernel
theorem dX8_bitsOf_18 : decode cX8_bitsOf 18 = .ok (.if_icmp .ge 22, 3) := by decide +kernel
theorem dX8_bitsOf_21 : decode cX8_bitsOf 21 = .ok (.fload_n 1, 1) := by decide +kernel
theorem dX8_bitsOf_22 : decode cX8_bitsOf 22 = .ok (.fconst 2, 1) := by decide +kernel
theorem dX8_bitsOf_23 : decode cX8_bitsOf 23 = .ok (.fcmp .l, 1) := by decide +kernel
theorem dX8_bitsOf_24 : decode cX8_bitsOf 24 = .ok (.ifCond .lt 16, 3) := by decide +kernel
theorem dX8_bitsOf_27 : decode cX8_bitsOf 27 = .ok (.fload_n 1, 1) := by decide +kernel
theorem dX8_bitsOf_28 : decode cX8_bitsOf 28 = .ok (.fconst 2, 1) := by decide +kernel
theorem dX8_bitsOf_29 : decode cX8_bitsOf 29 = .ok (.fdiv, 1) := by decide +kernel
theorem dX8_bitsOf_30 : decode cX8_bitsOf 30 = .ok (.fstore_n 1, 1) := by decide +kernel
theorem dX8_bitsOf_31 : decode cX8_bitsOf 31 = .ok (.iinc 2 1, 3) := by decide +kernel
theorem dX8_bitsOf_34 : decode cX8_bitsOf 34 = .ok (.iinc 3 1, 3) := by decide +kernel
theorem dX8_bitsOf_37 : decode cX8_bitsOf 37 = .ok (.goto (-22), 3) := by decide +kernel
theorem dX8_bitsOf_40 : decode cX8_bitsOf 40 = .ok (.iconst 0, 1) := by decide +kernel
theorem dX8_bitsOf_41 : decode cX8_bitsOf 41 = .ok (.istore_n 3, 1) := by decide +kernel
theorem dX8_bitsOf_42 : decode cX8_bitsOf 42 = .ok (.iload_n 3, 1) := by decide +kernel
theorem dX8_bitsOf_43 : decode cX8_bitsOf 43 = .ok (.bipush 126, 2) := by decide +kernel
theorem dX8_bitsOf_45 : decode cX8_bitsOf 45 = .ok (.if_icmp .ge 22, 3) := by decide +kernel
theorem dX8_bitsOf_48 : decode cX8_bitsOf 48 = .ok (.fload_n 1, 1) := by decide +kernel
theorem dX8_bitsOf_49 : decode cX8_bitsOf 49 = .ok (.fconst 1, 1) := by decide +kernel
theorem dX8_bitsOf_50 : decode cX8_bitsOf 50 = .ok (.fcmp .g, 1) := by decide +kernel
theorem dX8_bitsOf_51 : decode cX8_bitsOf 51 = .ok (.ifCond .ge 16, 3) := by decide +kernel
theorem dX8_bitsOf_54 : decode cX8_bitsOf 54 = .ok (.fload_n 1, 1) := by decide +kernel
theorem dX8_bitsOf_55 : decode cX8_bitsOf 55 = .ok (.fconst 2, 1) := by decide +kernel
theorem dX8_bitsOf_56 : decode cX8_bitsOf 56 = .ok (.fmul, 1) := by decide +kernel
theorem dX8_bitsOf_57 : decode cX8_bitsOf 57 = .ok (.fstore_n 1, 1) := by decide +kernel
theorem dX8_bitsOf_58 : decode cX8_bitsOf 58 = .ok (.iinc 2 (-1), 3) := by decide +kernel
theorem dX8_bitsOf_61 : decode cX8_bitsOf 61 = .ok (.iinc 3 1, 3) := by decide +kernel
theorem dX8_bitsOf_64 : decode cX8_bitsOf 64 = .ok (.goto (-22), 3) := by decide +kernel
theorem dX8_bitsOf_67 : decode cX8_bitsOf 67 = .ok (.iload_n 2, 1) := by decide +kernel
theorem dX8_bitsOf_68 : decode cX8_bitsOf 68 = .ok (.bipush 23, 2) := by decide +kernel
theorem dX8_bitsOf_70 : decode cX8_bitsOf 70 = .ok (.ishl, 1) := by decide +kernel
theorem dX8_bitsOf_71 : decode cX8_bitsOf 71 = .ok (.fload_n 1, 1) := by decide +kernel
theorem dX8_bitsOf_72 : decode cX8_bitsOf 72 = .ok (.fconst 1, 1) := by decide +kernel
theorem dX8_bitsOf_73 : decode cX8_bitsOf 73 = .ok (.fsub, 1) := by decide +kernel
theorem dX8_bitsOf_74 : decode cX8_bitsOf 74 = .ok (.ldc_w 483, 3) := by decide +kernel
theorem dX8_bitsOf_77 : decode cX8_bitsOf 77 = .ok (.fmul, 1) := by decide +kernel
theorem dX8_bitsOf_78 : decode cX8_bitsOf 78 = .ok (.f2i, 1) := by decide +kernel
theorem dX8_bitsOf_79 : decode cX8_bitsOf 79 = .ok (.ior, 1) := by decide +kernel
theorem dX8_bitsOf_80 : decode cX8_bitsOf 80 = .ok (.ireturn, 1) := by decide +kernel
theorem dX8_storedBits_0 : decode cX8_storedBits 0 = .ok (.aload_n 0, 1) := by decide +kernel
theorem dX8_storedBits_1 : decode cX8_storedBits 1 = .ok (.iload_n 1, 1) := by decide +kernel
theorem dX8_storedBits_2 : decode cX8_storedBits 2 = .ok (.invokevirtual 399, 3) := by decide +kernel
theorem dX8_storedBits_5 : decode cX8_storedBits 5 = .ok (.astore_n 3, 1) := by decide +kernel
theorem dX8_storedBits_6 : decode cX8_storedBits 6 = .ok (.aload_n 3, 1) := by decide +kernel
theorem dX8_storedBits_7 : decode cX8_storedBits 7 = .ok (.getfield 409, 3) := by decide +kernel
theorem dX8_storedBits_10 : decode cX8_storedBits 10 = .ok (.ifCond .eq 15, 3) := by decide +kernel
theorem dX8_storedBits_13 : decode cX8_storedBits 13 = .ok (.iload_n 2, 1) := by decide +kernel
theorem dX8_storedBits_14 : decode cX8_storedBits 14 = .ok (.ifCond .lt 11, 3) := by decide +kernel
theorem dX8_storedBits_17 : decode cX8_storedBits 17 = .ok (.iload_n 2, 1) := by decide +kernel
theorem dX8_storedBits_18 : decode cX8_storedBits 18 = .ok (.aload_n 3, 1) := by decide +kernel
theorem dX8_storedBits_19 : decode cX8_storedBits 19 = .ok (.getfield 407, 3) := by decide +kernel
theorem dX8_storedBits_22 : decode cX8_storedBits 22 = .ok (.if_icmp .lt 14, 3) := by decide +kernel
theorem dX8_storedBits_25 : decode cX8_storedBits 25 = .ok (.new 117, 3) := by decide +kernel
theorem dX8_storedBits_28 : decode cX8_storedBits 28 = .ok (.dup, 1) := by decide +kernel
theorem dX8_storedBits_29 : decode cX8_storedBits 29 = .ok (.ldc_w 425, 3) := by decide +kernel
theorem dX8_storedBits_32 : decode cX8_storedBits 32 = .ok (.invokespecial 121, 3) := by decide +kernel
theorem dX8_storedBits_35 : decode cX8_storedBits 35 = .ok (.athrow, 1) := by decide +kernel
theorem dX8_storedBits_36 : decode cX8_storedBits 36 = .ok (.aload_n 3, 1) := by decide +kernel
theorem dX8_storedBits_37 : decode cX8_storedBits 37 = .ok (.getfield 414, 3) := by decide +kernel
theorem dX8_storedBits_40 : decode cX8_storedBits 40 = .ok (.ifCond .eq 13, 3) := by decide +kernel
theorem dX8_storedBits_43 : decode cX8_storedBits 43 = .ok (.aload_n 3, 1) := by decide +kernel
theorem dX8_storedBits_44 : decode cX8_storedBits 44 = .ok (.getfield 427, 3) := by decide +kernel
theorem dX8_storedBits_47 : decode cX8_storedBits 47 = .ok (.iload_n 2, 1) := by decide +kernel
theorem dX8_storedBits_48 : decode cX8_storedBits 48 = .ok (.iaload, 1) := by decide +kernel
theorem dX8_storedBits_49 : decode cX8_storedBits 49 = .ok (.i2f, 1) := by decide +kernel
theorem dX8_storedBits_50 : decode cX8_storedBits 50 = .ok (.goto 9, 3) := by decide +kernel
theorem dX8_storedBits_53 : decode cX8_storedBits 53 = .ok (.aload_n 3, 1) := by decide +kernel
theorem dX8_storedBits_54 : decode cX8_storedBits 54 = .ok (.getfield 430, 3) := by decide +kernel
theorem dX8_storedBits_57 : decode cX8_storedBits 57 = .ok (.iload_n 2, 1) := by decide +kernel
theorem dX8_storedBits_58 : decode cX8_storedBits 58 = .ok (.faload, 1) := by decide +kernel
theorem dX8_storedBits_59 : decode cX8_storedBits 59 = .ok (.invokestatic 434, 3) := by decide +kernel
theorem dX8_storedBits_62 : decode cX8_storedBits 62 = .ok (.ireturn, 1) := by decide +kernel
theorem dX8_snapshot_0 : decode cX8_snapshot 0 = .ok (.aload_n 0, 1) := by decide +kernel
theorem dX8_snapshot_1 : decode cX8_snapshot 1 = .ok (.getfield 38, 3) := by decide +kernel
theorem dX8_snapshot_4 : decode cX8_snapshot 4 = .ok (.aload_n 0, 1) := by decide +kernel
theorem dX8_snapshot_5 : decode cX8_snapshot 5 = .ok (.getfield 20, 3) := by decide +kernel
theorem dX8_snapshot_8 : decode cX8_snapshot 8 = .ok (.invokevirtual 438, 3) := by decide +kernel
theorem dX8_snapshot_11 : decode cX8_snapshot 11 = .ok (.aload_n 0, 1) := by decide +kernel
theorem dX8_snapshot_12 : decode cX8_snapshot 12 = .ok (.getfield 41, 3) := by decide +kernel
theorem dX8_snapshot_15 : decode cX8_snapshot 15 = .ok (.aload_n 0, 1) := by decide +kernel
theorem dX8_snapshot_16 : decode cX8_snapshot 16 = .ok (.getfield 27, 3) := by decide +kernel
theorem dX8_snapshot_19 : decode cX8_snapshot 19 = .ok (.invokevirtual 441, 3) := by decide +kernel
theorem dX8_snapshot_22 : decode cX8_snapshot 22 = .ok (.aload_n 0, 1) := by decide +kernel
theorem dX8_snapshot_23 : decode cX8_snapshot 23 = .ok (.iconst 1, 1) := by decide +kernel
theorem dX8_snapshot_24 : decode cX8_snapshot 24 = .ok (.putfield 444, 3) := by decide +kernel
theorem dX8_snapshot_27 : decode cX8_snapshot 27 = .ok (.aload_n 0, 1) := by decide +kernel
theorem dX8_snapshot_28 : decode cX8_snapshot 28 = .ok (.getfield 20, 3) := by decide +kernel
theorem dX8_snapshot_31 : decode cX8_snapshot 31 = .ok (.getfield 174, 3) := by decide +kernel
theorem dX8_snapshot_34 : decode cX8_snapshot 34 = .ok (.ireturn, 1) := by decide +kernel
theorem dX8_restore_0 : decode cX8_restore 0 = .ok (.aload_n 0, 1) := by decide +kernel
theorem dX8_restore_1 : decode cX8_restore 1 = .ok (.getfield 444, 3) := by decide +kernel
theorem dX8_restore_4 : decode cX8_restore 4 = .ok (.ifCond .ne 14, 3) := by decide +kernel
theorem dX8_restore_7 : decode cX8_restore 7 = .ok (.new 74, 3) := by decide +kernel
theorem dX8_restore_10 : decode cX8_restore 10 = .ok (.dup, 1) := by decide +kernel
theorem dX8_restore_11 : decode cX8_restore 11 = .ok (.ldc_w 447, 3) := by decide +kernel
theorem dX8_restore_14 : decode cX8_restore 14 = .ok (.invokespecial 78, 3) := by decide +kernel
theorem dX8_restore_17 : decode cX8_restore 17 = .ok (.athrow, 1) := by decide +kernel
theorem dX8_restore_18 : decode cX8_restore 18 = .ok (.aload_n 0, 1) := by decide +kernel
theorem dX8_restore_19 : decode cX8_restore 19 = .ok (.getfield 20, 3) := by decide +kernel
theorem dX8_restore_22 : decode cX8_restore 22 = .ok (.aload_n 0, 1) := by decide +kernel
theorem dX8_restore_23 : decode cX8_restore 23 = .ok (.getfield 38, 3) := by decide +kernel
theorem dX8_restore_26 : decode cX8_restore 26 = .ok (.invokevirtual 438, 3) := by decide +kernel
theorem dX8_restore_29 : decode cX8_restore 29 = .ok (.aload_n 0, 1) := by decide +kernel
theorem dX8_restore_30 : decode cX8_restore 30 = .ok (.getfield 27, 3) := by decide +kernel
theorem dX8_restore_33 : decode cX8_restore 33 = .ok (.aload_n 0, 1) := by decide +kernel
theorem dX8_restore_34 : decode cX8_restore 34 = .ok (.getfield 41, 3) := by decide +kernel
theorem dX8_restore_37 : decode cX8_restore 37 = .ok (.invokevirtual 441, 3) := by decide +kernel
theorem dX8_restore_40 : decode cX8_restore 40 = .ok (.aload_n 0, 1) := by decide +kernel
theorem dX8_restore_41 : decode cX8_restore 41 = .ok (.getfield 34, 3) := by decide +kernel
theorem dX8_restore_44 : decode cX8_restore 44 = .ok (.invokevirtual 114, 3) := by decide +kernel
theorem dX8_restore_47 : decode cX8_restore 47 = .ok (.aload_n 0, 1) := by decide +kernel
theorem dX8_restore_48 : decode cX8_restore 48 = .ok (.getfield 20, 3) := by decide +kernel
theorem dX8_restore_51 : decode cX8_restore 51 = .ok (.getfield 174, 3) := by decide +kernel
theorem dX8_restore_54 : decode cX8_restore 54 = .ok (.ireturn, 1) := by decide +kernel
abbrev rmX8_meanHealth : Room := { frames := 7, cells := 2, slots := 12, locals := 130 }
def wX8_meanHealth_11 (Q : UInt32 → MS → Prop) (QX : String → MS → Prop) (k11 : MS → Nat → Int32 → Int32 → Int32 → Int32 → Prop) (S : MS) (a0 : Nat) (y1 : Int32) (y2 : Int32) (y3 : Int32) (y4 : Int32) : Prop := (∃ a1, mR S a0 3 = some a1 ∧ (((mI S a1 2) ≤ y4 → ((¬ y3 = 0 → (vf_n32 (FP.fdiv (FP.i2f y2) (FP.i2f y3)) ∧ Q (FP.fdiv (FP.i2f y2) (FP.i2f y3)) S)) ∧ (y3 = 0 → QX "java/lang/ArithmeticException" S))) ∧ (¬ (mI S a1 2) ≤ y4 → (∃ a2, mR S a0 3 = some a2 ∧ (∃ a3, mR S a2 1 = some a3 ∧ (vp_in y4 (mN S a3) ∧ (∃ a4, mR S a3 (y4 : Int32).toNatClampNeg = some a4 ∧ ((¬ (mI S a4 1) = y1 → k11 S a0 y1 y2 y3 (y4 + 1)) ∧ ((mI S a4 1) = y1 → k11 S a0 y1 (y2 + (mI S a4 5)) (y3 + 1) (y4 + 1))))))))))
set_option maxHeartbeats 4000000 in
set_option maxRecDepth 100000 in
theorem tX8_meanHealth_11 {p : Program} {l : Launch} {e : Env} {s : State} {m : MethodId} {args : Array Value} {below : List Frame} {meth : Method} {c : Code} {H : Heap} {locs : List Loc} {cells slots : Nat} {G : GP} {A : Nat → Prop} {S0 : MS} {ls : Array Slot} (C : CF p l s m args meth c "SkirmishGrid" cX8_meanHealth 6 G A) (hr : meth.sig.returnType = (some .float)) (hex : ∀ x ∈ c.exceptionTable.toList, False) (Q : UInt32 → MS → Prop) (QX : String → MS → Prop) (k11 : MS → Nat → Int32 → Int32 → Int32 → Int32 → Prop) (kh11 : ∀ (S : MS) (a0 : Nat) (y1 : Int32) (y2 : Int32) (y3 : Int32) (y4 : Int32) (cells slots : Nat) (H : Heap) (locs : List Loc) (ls : Array Slot), pI S 8 a0 → PW G A s H locs S0 S → lv_has ls 6 [(0, .ref a0), (1, .int y1), (2, .int y2), (3, .int y3), (4, .int y4)] → cells + 1 ≤ 2 → slots + 6 ≤ 12 → k11 S a0 y1 y2 y3 y4 → W p l e rmX8_meanHealth s m args below meth c H locs cells slots (vx_MQ below (QF G S0 A Q) (XX G S0 A QX) args s 2 12 A) (F0 m 11 ls [])) (S : MS) (a0 : Nat) (y1 : Int32) (y2 : Int32) (y3 : Int32) (y4 : Int32) (p_a0 : pI S 8 a0) (P : PW G A s H locs S0 S) (hl : lv_has ls 6 [(0, .ref a0), (1, .int y1), (2, .int y2), (3, .int y3), (4, .int y4)]) (hcc : cells + 1 ≤ 2) (hss : slots + 6 ≤ 12) (hw : wX8_meanHealth_11 Q QX k11 S a0 y1 y2 y3 y4) : W p l e rmX8_meanHealth s m args below meth c H locs cells slots (vx_MQ below (QF G S0 A Q) (XX G S0 A QX) args s 2 12 A) (F0 m 11 ls []) := by
  have hx := CF_x C
  have hb := CF_b C
  unfold wX8_meanHealth_11 at hw
  refine lv_iload hx hb dX8_meanHealth_11 (lv_at hl 4 rfl) ?_
  refine lv_aload_n hx hb dX8_meanHealth_13 rfl (lv_at hl 0 rfl) ?_
  obtain ⟨a1, e1, hw⟩ := hw
  have p_a1 : pI S 2 a1 := wf_r P.2.2.2.1 p_a0 e1
  refine gf_8_3 C P p_a0 e1 q_302 dX8_meanHealth_14 ?_
  refine gf_2_2 C P p_a1 q_171 dX8_meanHealth_17 ?_
  refine lv_icmp_ge (tgt := 61) hx hb dX8_meanHealth_20 (by decide) (fun hc => ?_) (fun hc => ?_)
  · have hw := hw.1 hc
    refine lv_iload_n hx hb dX8_meanHealth_61 rfl (lv_at hl 3 rfl) ?_
    refine lv_if_ne (tgt := 76) hx hb dX8_meanHealth_62 (by decide) (fun hc => ?_) (fun hc => ?_)
    · have hw := hw.1 hc
      refine lv_iload_n hx hb dX8_meanHealth_76 rfl (lv_at hl 2 rfl) ?_
      refine lv_i2f hx hb dX8_meanHealth_77 ?_
      refine lv_iload_n hx hb dX8_meanHealth_78 rfl (lv_at hl 3 rfl) ?_
      refine lv_i2f hx hb dX8_meanHealth_79 ?_
      obtain ⟨h1, hw⟩ := hw
      refine lv_fdiv hx hb dX8_meanHealth_80 h1 ?_
      exact e_f C hr P hw (by omega) (by omega) dX8_meanHealth_81
    · have hw := hw.2 hc
      exact th_W C hex P hl.1 (E := "java/lang/ArithmeticException") (text := "the team has no units") (by decide +kernel) (by decide +kernel) (by decide +kernel) q_1245 q_27 xw_AEX xb_AEX xg_AEX dX8_meanHealth_65 dX8_meanHealth_68 dX8_meanHealth_69 dX8_meanHealth_72 dX8_meanHealth_75 (Nat.le_of_ble_eq_true rfl) (Nat.le_of_ble_eq_true rfl) (by show cells + 1 ≤ 2; omega) (by show slots + 6 ≤ 12; omega) hw (by omega) (by omega)
  · have hw := hw.2 hc
    refine lv_aload_n hx hb dX8_meanHealth_23 rfl (lv_at hl 0 rfl) ?_
    obtain ⟨a2, e1, hw⟩ := hw
    have p_a2 : pI S 2 a2 := wf_r P.2.2.2.1 p_a0 e1
    refine gf_8_3 C P p_a0 e1 q_302 dX8_meanHealth_24 ?_
    obtain ⟨a3, e1, hw⟩ := hw
    have p_a3 : pI S 15 a3 := wf_r P.2.2.2.1 p_a2 e1
    refine gf_2_1 C P p_a2 e1 q_167 dX8_meanHealth_27 ?_
    refine lv_iload hx hb dX8_meanHealth_30 (lv_at hl 4 rfl) ?_
    obtain ⟨h1, hw⟩ := hw
    obtain ⟨a4, e1, hw⟩ := hw
    have p_a4 : pI S 7 a4 := wf_r P.2.2.2.1 p_a3 e1
    refine ra_a5 C P p_a3 h1 e1 dX8_meanHealth_32 ?_
    refine lv_astore (lv' := [(5, .ref a4), (0, .ref a0), (1, .int y1), (2, .int y2), (3, .int y3), (4, .int y4)]) hx hb dX8_meanHealth_33 hl (by decide) rfl (fun ls hl => ?_)
    refine lv_aload hx hb dX8_meanHealth_35 (lv_at hl 0 rfl) ?_
    refine gf_7_1 C P p_a4 q_98 dX8_meanHealth_37 ?_
    refine lv_iload_n hx hb dX8_meanHealth_40 rfl (lv_at hl 2 rfl) ?_
    refine lv_icmp_ne (tgt := 55) hx hb dX8_meanHealth_41 (by decide) (fun hc => ?_) (fun hc => ?_)
    · have hw := hw.1 hc
      refine lv_iinc (v := (y4 + 1)) (lv' := [(4, .int (y4 + 1)), (5, .ref a4), (0, .ref a0), (1, .int y1), (2, .int y2), (3, .int y3)]) hx hb dX8_meanHealth_55 hl (k := 5) rfl (by rfl) (by decide) rfl (fun ls hl => ?_)
      refine lv_goto (tgt := 11) hx hb dX8_meanHealth_58 (by decide) ?_
      exact kh11 S a0 y1 y2 y3 (y4 + 1) _ _ _ _ _ p_a0 P (lv_sub hl [2, 3, 4, 5, 0] rfl) (by omega) (by omega) hw
    · have hw := hw.2 hc
      refine lv_iload_n hx hb dX8_meanHealth_44 rfl (lv_at hl 3 rfl) ?_
      refine lv_aload hx hb dX8_meanHealth_45 (lv_at hl 0 rfl) ?_
      refine gf_7_5 C P p_a4 q_111 dX8_meanHealth_47 ?_
      refine lv_iadd hx hb dX8_meanHealth_50 ?_
      refine lv_istore_n (lv' := [(2, .int (y2 + (mI S a4 5))), (5, .ref a4), (0, .ref a0), (1, .int y1), (3, .int y3), (4, .int y4)]) hx hb dX8_meanHealth_51 rfl hl (by decide) rfl (fun ls hl => ?_)
      refine lv_iinc (v := (y3 + 1)) (lv' := [(3, .int (y3 + 1)), (2, .int (y2 + (mI S a4 5))), (5, .ref a4), (0, .ref a0), (1, .int y1), (4, .int y4)]) hx hb dX8_meanHealth_52 hl (k := 4) rfl (by rfl) (by decide) rfl (fun ls hl => ?_)
      refine lv_iinc (v := (y4 + 1)) (lv' := [(4, .int (y4 + 1)), (3, .int (y3 + 1)), (2, .int (y2 + (mI S a4 5))), (5, .ref a4), (0, .ref a0), (1, .int y1)]) hx hb dX8_meanHealth_55 hl (k := 5) rfl (by rfl) (by decide) rfl (fun ls hl => ?_)
      refine lv_goto (tgt := 11) hx hb dX8_meanHealth_58 (by decide) ?_
      exact kh11 S a0 y1 (y2 + (mI S a4 5)) (y3 + 1) (y4 + 1) _ _ _ _ _ p_a0 P (lv_sub hl [4, 5, 2, 1, 0] rfl) (by omega) (by omega) hw
def lX8_meanHealth_11 (Q : UInt32 → MS → Prop) (QX : String → MS → Prop) : Nat → MS → Nat → Int32 → Int32 → Int32 → Int32 → Prop
  | 0 => fun _ _ _ _ _ _ => False
  | n + 1 => fun S a0 y1 y2 y3 y4 => wX8_meanHealth_11 Q QX (lX8_meanHealth_11 Q QX n) S a0 y1 y2 y3 y4
theorem tlX8_meanHealth_11 {p : Program} {l : Launch} {e : Env} {s : State} {m : MethodId} {args : Array Value} {below : List Frame} {meth : Method} {c : Code} {G : GP} {A : Nat → Prop} {S0 : MS} (C : CF p l s m args meth c "SkirmishGrid" cX8_meanHealth 6 G A) (hr : meth.sig.returnType = (some .float)) (hex : ∀ x ∈ c.exceptionTable.toList, False) (Q : UInt32 → MS → Prop) (QX : String → MS → Prop) : ∀ (n : Nat), ∀ (S : MS) (a0 : Nat) (y1 : Int32) (y2 : Int32) (y3 : Int32) (y4 : Int32) (cells slots : Nat) (H : Heap) (locs : List Loc) (ls : Array Slot), pI S 8 a0 → PW G A s H locs S0 S → lv_has ls 6 [(0, .ref a0), (1, .int y1), (2, .int y2), (3, .int y3), (4, .int y4)] → cells + 1 ≤ 2 → slots + 6 ≤ 12 → lX8_meanHealth_11 Q QX n S a0 y1 y2 y3 y4 → W p l e rmX8_meanHealth s m args below meth c H locs cells slots (vx_MQ below (QF G S0 A Q) (XX G S0 A QX) args s 2 12 A) (F0 m 11 ls []) := by
  intro n
  induction n with
  | zero => intro S a0 y1 y2 y3 y4 cells slots H locs ls p_a0 P hl hcc hss hw; exact hw.elim
  | succ n ih => intro S a0 y1 y2 y3 y4 cells slots H locs ls p_a0 P hl hcc hss hw; exact tX8_meanHealth_11 C hr hex Q QX (lX8_meanHealth_11 Q QX n) ih S a0 y1 y2 y3 y4 p_a0 P hl hcc hss hw
def wX8_meanHealth_0 (Q : UInt32 → MS → Prop) (QX : String → MS → Prop) (S : MS) (a0 : Nat) (x1 : Int32) : Prop := wp_X8_requireTeam (fun S1 => (∃ n, lX8_meanHealth_11 Q QX n S1 a0 x1 0 0 0)) QX S x1
set_option maxHeartbeats 4000000 in
set_option maxRecDepth 100000 in
theorem tX8_meanHealth_0 {p : Program} {l : Launch} {e : Env} {s : State} {m : MethodId} {args : Array Value} {below : List Frame} {meth : Method} {c : Code} {H : Heap} {locs : List Loc} {cells slots : Nat} {G : GP} {A : Nat → Prop} {S0 : MS} {ls : Array Slot} (C : CF p l s m args meth c "SkirmishGrid" cX8_meanHealth 6 G A) (hr : meth.sig.returnType = (some .float)) (hex : ∀ x ∈ c.exceptionTable.toList, False) (Q : UInt32 → MS → Prop) (QX : String → MS → Prop) (S : MS) (a0 : Nat) (x1 : Int32) (p_a0 : pI S 8 a0) (P : PW G A s H locs S0 S) (hl : lv_has ls 6 [(0, .ref a0), (1, .int x1)]) (hcc : cells + 2 ≤ 2) (hss : slots + 12 ≤ 12) (hw : wX8_meanHealth_0 Q QX S a0 x1) : W p l e rmX8_meanHealth s m args below meth c H locs cells slots (vx_MQ below (QF G S0 A Q) (XX G S0 A QX) args s 2 12 A) (F0 m 0 ls []) := by
  have hx := CF_x C
  have hb := CF_b C
  unfold wX8_meanHealth_0 at hw
  refine lv_iload_n hx hb dX8_meanHealth_0 rfl (lv_at hl 1 rfl) ?_
  refine cl_v C P (run_S C P hl.1 (met_X8_requireTeam (CF_n C) G H.size _ _ S x1 hw) q_780 q_781 q_1 q_782 cd_X8_requireTeam.2 ⟨(Nat.le_of_ble_eq_true rfl), (Nat.le_of_ble_eq_true rfl)⟩ rfl rfl (As := [.int x1]) (rest := []) rfl rfl (Nat.le_of_ble_eq_true rfl) dX8_meanHealth_1 ⟨by show cells + 1 ≤ 2; omega, by show slots + 6 ≤ 12; omega⟩) (kx_out C hex (fun _ _ _ h => h) (by omega) (by omega)) (fun S1 H locs P hE hw => ?_)
  have p_a0 : pI S1 8 a0 := pI_x hE p_a0
  refine lv_iconst (v := 0) hx hb dX8_meanHealth_4 (by decide) ?_
  refine lv_istore_n (lv' := [(2, .int 0), (0, .ref a0), (1, .int x1)]) hx hb dX8_meanHealth_5 rfl hl (by decide) rfl (fun ls hl => ?_)
  refine lv_iconst (v := 0) hx hb dX8_meanHealth_6 (by decide) ?_
  refine lv_istore_n (lv' := [(3, .int 0), (2, .int 0), (0, .ref a0), (1, .int x1)]) hx hb dX8_meanHealth_7 rfl hl (by decide) rfl (fun ls hl => ?_)
  refine lv_iconst (v := 0) hx hb dX8_meanHealth_8 (by decide) ?_
  refine lv_istore (lv' := [(4, .int 0), (3, .int 0), (2, .int 0), (0, .ref a0), (1, .int x1)]) hx hb dX8_meanHealth_9 hl (by decide) rfl (fun ls hl => ?_)
  obtain ⟨n, hw⟩ := hw
  exact tlX8_meanHealth_11 C hr hex Q QX n S1 a0 x1 0 0 0 _ _ _ _ _ p_a0 P (lv_sub hl [3, 4, 2, 1, 0] rfl) (by omega) (by omega) hw
def wp_X8_meanHealth (Q : UInt32 → MS → Prop) (QX : String → MS → Prop) (S : MS) (a0 : Nat) (x1 : Int32) : Prop := wX8_meanHealth_0 Q QX S a0 x1
set_option maxHeartbeats 4000000 in
set_option maxRecDepth 100000 in
theorem met_X8_meanHealth {l : Launch} (hst : l.stackTraces = false) (G : GP) (sz : Nat) (Q : UInt32 → MS → Prop) (QX : String → MS → Prop) (S : MS) (a0 : Nat) (x1 : Int32) (p_a0 : pI S 8 a0) (hw : wp_X8_meanHealth Q QX S a0 x1) : vx_Met l yX8_meanHealth (.code yX8_meanHealth cX8_meanHealth 6 (some .float) :: GW) rmX8_meanHealth (va_Pc [.ref a0, .int x1] (PR G S sz)) (QF G S (FA G S sz) Q) (XX G S (FA G S sz) QX) 2 12 (FA G S sz) := by
  refine st_m (by decide +kernel) hst (fun p e s m below meth c C hr hnm hex P => ?_)
  refine en_m (Nat.le_of_ble_eq_true rfl) (lv := [(0, .ref a0), (1, .int x1)]) rfl (fun ls hl => ?_)
  have C : CF p l s m _ meth c "SkirmishGrid" cX8_meanHealth 6 G (FA G S sz) := C
  exact tX8_meanHealth_0 C hr hex Q QX S a0 x1 p_a0 P hl (by omega) (by omega) hw
theorem cd_X8_meanHealth : yX8_meanHealth.cls = RX8 ∧ yX8_meanHealth.cls ≠ "java/lang/invoke/MethodHandle" ∧ yX8_meanHealth.cls ≠ "java/lang/invoke/VarHandle" ∧ (parseMethodDescriptor yX8_meanHealth.desc).map (fun d => d.parameters.length) = some 1 := by decide +kernel
abbrev rmX8_requireRow : Room := { frames := 6, cells := 1, slots := 6, locals := 110 }
def wX8_requireRow_20 (Q : Option Nat → MS → Prop) (QX : String → MS → Prop) (S : MS) (a0 : Nat) (y1 : Int32) : Prop := ((¬ y1 = 0 → (∃ a1, mR S a0 12 = some a1 ∧ Q (some a1) S)) ∧ (y1 = 0 → (∃ a2, mR S a0 11 = some a2 ∧ Q (some a2) S)))
set_option maxHeartbeats 4000000 in
set_option maxRecDepth 100000 in
theorem tX8_requireRow_20 {p : Program} {l : Launch} {e : Env} {s : State} {m : MethodId} {args : Array Value} {below : List Frame} {meth : Method} {c : Code} {H : Heap} {locs : List Loc} {cells slots : Nat} {G : GP} {A : Nat → Prop} {S0 : MS} {ls : Array Slot} (C : CF p l s m args meth c "SkirmishGrid" cX8_requireRow 2 G A) (hr : meth.sig.returnType = (some (.object "SkirmishGrid$Row"))) (hex : ∀ x ∈ c.exceptionTable.toList, False) (Q : Option Nat → MS → Prop) (QX : String → MS → Prop) (S : MS) (a0 : Nat) (y1 : Int32) (p_a0 : pI S 8 a0) (P : PW G A s H locs S0 S) (hl : lv_has ls 2 [(0, .ref a0), (1, .int y1)]) (hcc : cells + 0 ≤ 1) (hss : slots + 0 ≤ 6) (hw : wX8_requireRow_20 Q QX S a0 y1) : W p l e rmX8_requireRow s m args below meth c H locs cells slots (vx_MQ below (QQ G S0 A 6 Q) (XX G S0 A QX) args s 1 6 A) (F0 m 20 ls []) := by
  have hx := CF_x C
  have hb := CF_b C
  unfold wX8_requireRow_20 at hw
  refine lv_iload_n hx hb dX8_requireRow_20 rfl (lv_at hl 1 rfl) ?_
  refine lv_if_ne (tgt := 31) hx hb dX8_requireRow_21 (by decide) (fun hc => ?_) (fun hc => ?_)
  · have hw := hw.1 hc
    refine lv_aload_n hx hb dX8_requireRow_31 rfl (lv_at hl 0 rfl) ?_
    obtain ⟨a1, e1, hw⟩ := hw
    have p_a1 : pI S 6 a1 := wf_r P.2.2.2.1 p_a0 e1
    refine gf_8_12 C P p_a0 e1 q_311 dX8_requireRow_32 ?_
    exact e_q (v := some a1) C hr P hw (pQ_s p_a1) (by omega) (by omega) dX8_requireRow_35
  · have hw := hw.2 hc
    refine lv_aload_n hx hb dX8_requireRow_24 rfl (lv_at hl 0 rfl) ?_
    obtain ⟨a2, e1, hw⟩ := hw
    have p_a2 : pI S 6 a2 := wf_r P.2.2.2.1 p_a0 e1
    refine gf_8_11 C P p_a0 e1 q_310 dX8_requireRow_25 ?_
    refine lv_goto (tgt := 35) hx hb dX8_requireRow_28 (by decide) ?_
    exact e_q (v := some a2) C hr P hw (pQ_s p_a2) (by omega) (by omega) dX8_requireRow_35
def wX8_requireRow_0 (Q : Option Nat → MS → Prop) (QX : String → MS → Prop) (S : MS) (a0 : Nat) (x1 : Int32) : Prop := ((x1 = 0 → wX8_requireRow_20 Q QX S a0 x1) ∧ (¬ x1 = 0 → ((x1 = 1 → wX8_requireRow_20 Q QX S a0 x1) ∧ (¬ x1 = 1 → QX "java/lang/IndexOutOfBoundsException" S))))
set_option maxHeartbeats 4000000 in
set_option maxRecDepth 100000 in
theorem tX8_requireRow_0 {p : Program} {l : Launch} {e : Env} {s : State} {m : MethodId} {args : Array Value} {below : List Frame} {meth : Method} {c : Code} {H : Heap} {locs : List Loc} {cells slots : Nat} {G : GP} {A : Nat → Prop} {S0 : MS} {ls : Array Slot} (C : CF p l s m args meth c "SkirmishGrid" cX8_requireRow 2 G A) (hr : meth.sig.returnType = (some (.object "SkirmishGrid$Row"))) (hex : ∀ x ∈ c.exceptionTable.toList, False) (Q : Option Nat → MS → Prop) (QX : String → MS → Prop) (S : MS) (a0 : Nat) (x1 : Int32) (p_a0 : pI S 8 a0) (P : PW G A s H locs S0 S) (hl : lv_has ls 2 [(0, .ref a0), (1, .int x1)]) (hcc : cells + 1 ≤ 1) (hss : slots + 6 ≤ 6) (hw : wX8_requireRow_0 Q QX S a0 x1) : W p l e rmX8_requireRow s m args below meth c H locs cells slots (vx_MQ below (QQ G S0 A 6 Q) (XX G S0 A QX) args s 1 6 A) (F0 m 0 ls []) := by
  have hx := CF_x C
  have hb := CF_b C
  unfold wX8_requireRow_0 at hw
  refine lv_iload_n hx hb dX8_requireRow_0 rfl (lv_at hl 1 rfl) ?_
  refine lv_if_eq (tgt := 20) hx hb dX8_requireRow_1 (by decide) (fun hc => ?_) (fun hc => ?_)
  · have hw := hw.1 hc
    exact tX8_requireRow_20 C hr hex Q QX S a0 x1 p_a0 P (lv_sub hl [0, 1] rfl) (by omega) (by omega) hw
  · have hw := hw.2 hc
    refine lv_iload_n hx hb dX8_requireRow_4 rfl (lv_at hl 1 rfl) ?_
    refine lv_iconst (v := 1) hx hb dX8_requireRow_5 (by decide) ?_
    refine lv_icmp_eq (tgt := 20) hx hb dX8_requireRow_6 (by decide) (fun hc => ?_) (fun hc => ?_)
    · have hw := hw.1 hc
      exact tX8_requireRow_20 C hr hex Q QX S a0 x1 p_a0 P (lv_sub hl [0, 1] rfl) (by omega) (by omega) hw
    · have hw := hw.2 hc
      exact th_W C hex P hl.1 (E := "java/lang/IndexOutOfBoundsException") (text := "no such row") (by decide +kernel) (by decide +kernel) (by decide +kernel) q_688 q_24 xw_IOB xb_IOB xg_IOB dX8_requireRow_9 dX8_requireRow_12 dX8_requireRow_13 dX8_requireRow_16 dX8_requireRow_19 (Nat.le_of_ble_eq_true rfl) (Nat.le_of_ble_eq_true rfl) (by show cells + 1 ≤ 1; omega) (by show slots + 6 ≤ 6; omega) hw (by omega) (by omega)
def wp_X8_requireRow (Q : Option Nat → MS → Prop) (QX : String → MS → Prop) (S : MS) (a0 : Nat) (x1 : Int32) : Prop := wX8_requireRow_0 Q QX S a0 x1
set_option maxHeartbeats 4000000 in
set_option maxRecDepth 100000 in
theorem met_X8_requireRow {l : Launch} (hst : l.stackTraces = false) (G : GP) (sz : Nat) (Q : Option Nat → MS → Prop) (QX : String → MS → Prop) (S : MS) (a0 : Nat) (x1 : Int32) (p_a0 : pI S 8 a0) (hw : wp_X8_requireRow Q QX S a0 x1) : vx_Met l yX8_requireRow (.code yX8_requireRow cX8_requireRow 2 (some (.object "SkirmishGrid$Row")) :: GW) rmX8_requireRow (va_Pc [.ref a0, .int x1] (PR G S sz)) (QQ G S (FA G S sz) 6 Q) (XX G S (FA G S sz) QX) 1 6 (FA G S sz) := by
  refine st_m (by decide +kernel) hst (fun p e s m below meth c C hr hnm hex P => ?_)
  refine en_m (Nat.le_of_ble_eq_true rfl) (lv := [(0, .ref a0), (1, .int x1)]) rfl (fun ls hl => ?_)
  have C : CF p l s m _ meth c "SkirmishGrid" cX8_requireRow 2 G (FA G S sz) := C
  exact tX8_requireRow_0 C hr hex Q QX S a0 x1 p_a0 P hl (by omega) (by omega) hw
theorem cd_X8_requireRow : yX8_requireRow.cls = RX8 ∧ yX8_requireRow.cls ≠ "java/lang/invoke/MethodHandle" ∧ yX8_requireRow.cls ≠ "java/lang/invoke/VarHandle" ∧ (parseMethodDescriptor yX8_requireRow.desc).map (fun d => d.parameters.length) = some 1 := by decide +kernel
abbrev rmX8_storeHealths : Room := { frames := 7, cells := 1, slots := 6, locals := 131 }
def wX8_storeHealths_0 (Q : Int32 → MS → Prop) (QX : String → MS → Prop) (S : MS) (a0 : Nat) (x1 : Int32) (x2 : Int32) : Prop := wp_X8_requireRow (fun r2 S1 => (∃ a3, r2 = some a3 ∧ (∃ a4, mR S1 a0 3 = some a4 ∧ wp_X6_store (fun S5 => Q (mI S5 a3 4) S5) QX S1 a3 a4 x2))) QX S a0 x1
set_option maxHeartbeats 4000000 in
set_option maxRecDepth 100000 in
theorem tX8_storeHealths_0 {p : Program} {l : Launch} {e : Env} {s : State} {m : MethodId} {args : Array Value} {below : List Frame} {meth : Method} {c : Code} {H : Heap} {locs : List Loc} {cells slots : Nat} {G : GP} {A : Nat → Prop} {S0 : MS} {ls : Array Slot} (C : CF p l s m args meth c "SkirmishGrid" cX8_storeHealths 4 G A) (hr : meth.sig.returnType = (some .int)) (hex : ∀ x ∈ c.exceptionTable.toList, False) (Q : Int32 → MS → Prop) (QX : String → MS → Prop) (S : MS) (a0 : Nat) (x1 : Int32) (x2 : Int32) (p_a0 : pI S 8 a0) (P : PW G A s H locs S0 S) (hl : lv_has ls 4 [(0, .ref a0), (1, .int x1), (2, .int x2)]) (hcc : cells + 1 ≤ 1) (hss : slots + 6 ≤ 6) (hw : wX8_storeHealths_0 Q QX S a0 x1 x2) : W p l e rmX8_storeHealths s m args below meth c H locs cells slots (vx_MQ below (QI G S0 A Q) (XX G S0 A QX) args s 1 6 A) (F0 m 0 ls []) := by
  have hx := CF_x C
  have hb := CF_b C
  unfold wX8_storeHealths_0 at hw
  refine lv_aload_n hx hb dX8_storeHealths_0 rfl (lv_at hl 0 rfl) ?_
  refine lv_iload_n hx hb dX8_storeHealths_1 rfl (lv_at hl 1 rfl) ?_
  refine cl_q C P (run_V C P hl.1 (kd := 8) (met_X8_requireRow (CF_n C) G H.size _ _ S a0 x1 p_a0 hw) p_a0 (by decide) rfl q_1255 q_1257 q_p22 q_1 q_1258 cd_X8_requireRow ⟨(Nat.le_of_ble_eq_true rfl), (Nat.le_of_ble_eq_true rfl)⟩ rfl rfl (As := [.int x1]) (rest := []) rfl rfl (Nat.le_of_ble_eq_true rfl) dX8_storeHealths_2 ⟨by show cells + 1 ≤ 1; omega, by show slots + 6 ≤ 6; omega⟩) (kx_out C hex (fun _ _ _ h => h) (by omega) (by omega)) (fun r2 S1 H locs P hE hw hR => ?_)
  have p_a0 : pI S1 8 a0 := pI_x hE p_a0
  obtain ⟨a3, rfl, hw⟩ := hw
  have p_a3 : pI S1 6 a3 := hR a3 rfl
  refine lv_astore_n (lv' := [(3, .ref a3), (0, .ref a0), (1, .int x1), (2, .int x2)]) hx hb dX8_storeHealths_5 rfl hl (by decide) rfl (fun ls hl => ?_)
  refine lv_aload_n hx hb dX8_storeHealths_6 rfl (lv_at hl 0 rfl) ?_
  refine lv_aload_n hx hb dX8_storeHealths_7 rfl (lv_at hl 1 rfl) ?_
  obtain ⟨a4, e1, hw⟩ := hw
  have p_a4 : pI S1 2 a4 := wf_r P.2.2.2.1 p_a0 e1
  refine gf_8_3 C P p_a0 e1 q_302 dX8_storeHealths_8 ?_
  refine lv_iload_n hx hb dX8_storeHealths_11 rfl (lv_at hl 3 rfl) ?_
  refine cl_v C P (run_V C P hl.1 (kd := 6) (met_X6_store (CF_n C) G H.size _ _ S1 a3 a4 x2 p_a3 p_a4 hw) p_a3 (by decide) rfl q_1260 q_1261 q_1262 q_9 q_1263 cd_X6_store ⟨(Nat.le_of_ble_eq_true rfl), (Nat.le_of_ble_eq_true rfl)⟩ rfl rfl (As := [.ref a4, .int x2]) (rest := []) rfl rfl (Nat.le_of_ble_eq_true rfl) dX8_storeHealths_12 ⟨by show cells + 1 + 0 ≤ 1; omega, by show slots + 6 + 0 ≤ 6; omega⟩) (kx_out C hex (fun _ _ _ h => h) (by omega) (by omega)) (fun S5 H locs P hE hw => ?_)
  have p_a3 : pI S5 6 a3 := pI_x hE p_a3
  have p_a4 : pI S5 2 a4 := pI_x hE p_a4
  refine lv_aload_n hx hb dX8_storeHealths_15 rfl (lv_at hl 0 rfl) ?_
  refine gf_6_4 C P p_a3 q_286 dX8_storeHealths_16 ?_
  exact e_i C hr rfl P hw (by omega) (by omega) dX8_storeHealths_19
def wp_X8_storeHealths (Q : Int32 → MS → Prop) (QX : String → MS → Prop) (S : MS) (a0 : Nat) (x1 : Int32) (x2 : Int32) : Prop := wX8_storeHealths_0 Q QX S a0 x1 x2
set_option maxHeartbeats 4000000 in
set_option maxRecDepth 100000 in
theorem met_X8_storeHealths {l : Launch} (hst : l.stackTraces = false) (G : GP) (sz : Nat) (Q : Int32 → MS → Prop) (QX : String → MS → Prop) (S : MS) (a0 : Nat) (x1 : Int32) (x2 : Int32) (p_a0 : pI S 8 a0) (hw : wp_X8_storeHealths Q QX S a0 x1 x2) : vx_Met l yX8_storeHealths (.code yX8_storeHealths cX8_storeHealths 4 (some .int) :: GW) rmX8_storeHealths (va_Pc [.ref a0, .int x1, .int x2] (PR G S sz)) (QI G S (FA G S sz) Q) (XX G S (FA G S sz) QX) 1 6 (FA G S sz) := by
  refine st_m (by decide +kernel) hst (fun p e s m below meth c C hr hnm hex P => ?_)
  refine en_m (Nat.le_of_ble_eq_true rfl) (lv := [(0, .ref a0), (1, .int x1), (2, .int x2)]) rfl (fun ls hl => ?_)
  have C : CF p l s m _ meth c "SkirmishGrid" cX8_storeHealths 4 G (FA G S sz) := C
  exact tX8_storeHealths_0 C hr hex Q QX S a0 x1 x2 p_a0 P hl (by omega) (by omega) hw
theorem cd_X8_storeHealths : yX8_storeHealths.cls = RX8 ∧ yX8_storeHealths.cls ≠ "java/lang/invoke/MethodHandle" ∧ yX8_storeHealths.cls ≠ "java/lang/invoke/VarHandle" ∧ (parseMethodDescriptor yX8_storeHealths.desc).map (fun d => d.parameters.length) = some 2 := by decide +kernel
abbrev rmX8_copyHealths : Room := { frames := 7, cells := 3, slots := 18, locals := 131 }
def wX8_copyHealths_30 (Q : Int32 → MS → Prop) (QX : String → MS → Prop) (S : MS) : Prop := QX "java/util/NoSuchElementException" S
set_option maxHeartbeats 4000000 in
set_option maxRecDepth 100000 in
theorem tX8_copyHealths_30 {p : Program} {l : Launch} {e : Env} {s : State} {m : MethodId} {args : Array Value} {below : List Frame} {meth : Method} {c : Code} {H : Heap} {locs : List Loc} {cells slots : Nat} {G : GP} {A : Nat → Prop} {S0 : MS} {ls : Array Slot} (C : CF p l s m args meth c "SkirmishGrid" cX8_copyHealths 5 G A) (hr : meth.sig.returnType = (some .boolean)) (hex : ∀ x ∈ c.exceptionTable.toList, False) (Q : Int32 → MS → Prop) (QX : String → MS → Prop) (S : MS) (P : PW G A s H locs S0 S) (hl : lv_has ls 5 []) (hcc : cells + 1 ≤ 3) (hss : slots + 6 ≤ 18) (hw : wX8_copyHealths_30 Q QX S) : W p l e rmX8_copyHealths s m args below meth c H locs cells slots (vx_MQ below (QI G S0 A Q) (XX G S0 A QX) args s 3 18 A) (F0 m 30 ls []) := by
  have hx := CF_x C
  have hb := CF_b C
  unfold wX8_copyHealths_30 at hw
  exact th_NW C hex P hl.1 (text := "a row was not stored yet") (by decide +kernel) q_641 q_23 xw_NSE xb_NSE xg_NSE dX8_copyHealths_30 dX8_copyHealths_33 dX8_copyHealths_34 dX8_copyHealths_37 dX8_copyHealths_40 (Nat.le_of_ble_eq_true rfl) (Nat.le_of_ble_eq_true rfl) (by show cells + 1 ≤ 3; omega) (by show slots + 6 ≤ 18; omega) hw (by omega) (by omega)
def wX8_copyHealths_85 (Q : Int32 → MS → Prop) (QX : String → MS → Prop) (S : MS) : Prop := QX "java/lang/IllegalArgumentException" S
set_option maxHeartbeats 4000000 in
set_option maxRecDepth 100000 in
theorem tX8_copyHealths_85 {p : Program} {l : Launch} {e : Env} {s : State} {m : MethodId} {args : Array Value} {below : List Frame} {meth : Method} {c : Code} {H : Heap} {locs : List Loc} {cells slots : Nat} {G : GP} {A : Nat → Prop} {S0 : MS} {ls : Array Slot} (C : CF p l s m args meth c "SkirmishGrid" cX8_copyHealths 5 G A) (hr : meth.sig.returnType = (some .boolean)) (hex : ∀ x ∈ c.exceptionTable.toList, False) (Q : Int32 → MS → Prop) (QX : String → MS → Prop) (S : MS) (P : PW G A s H locs S0 S) (hl : lv_has ls 5 []) (hcc : cells + 1 ≤ 3) (hss : slots + 6 ≤ 18) (hw : wX8_copyHealths_85 Q QX S) : W p l e rmX8_copyHealths s m args below meth c H locs cells slots (vx_MQ below (QI G S0 A Q) (XX G S0 A QX) args s 3 18 A) (F0 m 85 ls []) := by
  have hx := CF_x C
  have hb := CF_b C
  unfold wX8_copyHealths_85 at hw
  exact th_W C hex P hl.1 (E := "java/lang/IllegalArgumentException") (text := "no such number of elements") (by decide +kernel) (by decide +kernel) (by decide +kernel) q_410 q_14 xw_IAE xb_IAE xg_IAE dX8_copyHealths_85 dX8_copyHealths_88 dX8_copyHealths_89 dX8_copyHealths_92 dX8_copyHealths_95 (Nat.le_of_ble_eq_true rfl) (Nat.le_of_ble_eq_true rfl) (by show cells + 1 ≤ 3; omega) (by show slots + 6 ≤ 18; omega) hw (by omega) (by omega)
def wX8_copyHealths_0 (Q : Int32 → MS → Prop) (QX : String → MS → Prop) (S : MS) (a0 : Nat) (x1 : Int32) (x2 : Int32) : Prop := wp_X8_requireRow (fun r2 S1 => (∃ a3, r2 = some a3 ∧ wp_X8_requireRow (fun r5 S4 => (∃ a6, r5 = some a6 ∧ (((mI S4 a3 2) = 0 → wX8_copyHealths_30 Q QX S4) ∧ (¬ (mI S4 a3 2) = 0 → ((¬ (mI S4 a6 2) = 0 → (((mI S4 a3 3) = (mI S4 a6 3) → ((x2 < 0 → wX8_copyHealths_85 Q QX S4) ∧ (¬ x2 < 0 → (((mI S4 a3 4) < x2 → wX8_copyHealths_85 Q QX S4) ∧ (¬ (mI S4 a3 4) < x2 → ((x2 ≤ (mI S4 a6 4) → wp_X6_takeFrom (fun r8 S7 => (isZ r8 ∧ Q r8 S7)) QX S4 a6 a3 x2) ∧ (¬ x2 ≤ (mI S4 a6 4) → wX8_copyHealths_85 Q QX S4))))))) ∧ (¬ (mI S4 a3 3) = (mI S4 a6 3) → QX "java/lang/UnsupportedOperationException" S4))) ∧ ((mI S4 a6 2) = 0 → wX8_copyHealths_30 Q QX S4)))))) QX S1 a0 (1 - x1))) QX S a0 x1
set_option maxHeartbeats 4000000 in
set_option maxRecDepth 100000 in
theorem tX8_copyHealths_0 {p : Program} {l : Launch} {e : Env} {s : State} {m : MethodId} {args : Array Value} {below : List Frame} {meth : Method} {c : Code} {H : Heap} {locs : List Loc} {cells slots : Nat} {G : GP} {A : Nat → Prop} {S0 : MS} {ls : Array Slot} (C : CF p l s m args meth c "SkirmishGrid" cX8_copyHealths 5 G A) (hr : meth.sig.returnType = (some .boolean)) (hex : ∀ x ∈ c.exceptionTable.toList, False) (Q : Int32 → MS → Prop) (QX : String → MS → Prop) (S : MS) (a0 : Nat) (x1 : Int32) (x2 : Int32) (p_a0 : pI S 8 a0) (P : PW G A s H locs S0 S) (hl : lv_has ls 5 [(0, .ref a0), (1, .int x1), (2, .int x2)]) (hcc : cells + 3 ≤ 3) (hss : slots + 18 ≤ 18) (hw : wX8_copyHealths_0 Q QX S a0 x1 x2) : W p l e rmX8_copyHealths s m args below meth c H locs cells slots (vx_MQ below (QI G S0 A Q) (XX G S0 A QX) args s 3 18 A) (F0 m 0 ls []) := by
  have hx := CF_x C
  have hb := CF_b C
  unfold wX8_copyHealths_0 at hw
  refine lv_aload_n hx hb dX8_copyHealths_0 rfl (lv_at hl 0 rfl) ?_
  refine lv_iload_n hx hb dX8_copyHealths_1 rfl (lv_at hl 1 rfl) ?_
  refine cl_q C P (run_V C P hl.1 (kd := 8) (met_X8_requireRow (CF_n C) G H.size _ _ S a0 x1 p_a0 hw) p_a0 (by decide) rfl q_1255 q_1257 q_p22 q_1 q_1258 cd_X8_requireRow ⟨(Nat.le_of_ble_eq_true rfl), (Nat.le_of_ble_eq_true rfl)⟩ rfl rfl (As := [.int x1]) (rest := []) rfl rfl (Nat.le_of_ble_eq_true rfl) dX8_copyHealths_2 ⟨by show cells + 1 ≤ 3; omega, by show slots + 6 ≤ 18; omega⟩) (kx_out C hex (fun _ _ _ h => h) (by omega) (by omega)) (fun r2 S1 H locs P hE hw hR => ?_)
  have p_a0 : pI S1 8 a0 := pI_x hE p_a0
  obtain ⟨a3, rfl, hw⟩ := hw
  have p_a3 : pI S1 6 a3 := hR a3 rfl
  refine lv_astore_n (lv' := [(3, .ref a3), (0, .ref a0), (1, .int x1), (2, .int x2)]) hx hb dX8_copyHealths_5 rfl hl (by decide) rfl (fun ls hl => ?_)
  refine lv_aload_n hx hb dX8_copyHealths_6 rfl (lv_at hl 1 rfl) ?_
  refine lv_iconst (v := 1) hx hb dX8_copyHealths_7 (by decide) ?_
  refine lv_iload_n hx hb dX8_copyHealths_8 rfl (lv_at hl 2 rfl) ?_
  refine lv_isub hx hb dX8_copyHealths_9 ?_
  refine cl_q C P (run_V C P hl.1 (kd := 8) (met_X8_requireRow (CF_n C) G H.size _ _ S1 a0 (1 - x1) p_a0 hw) p_a0 (by decide) rfl q_1255 q_1257 q_p22 q_1 q_1258 cd_X8_requireRow ⟨(Nat.le_of_ble_eq_true rfl), (Nat.le_of_ble_eq_true rfl)⟩ rfl rfl (As := [.int (1 - x1)]) (rest := []) rfl rfl (Nat.le_of_ble_eq_true rfl) dX8_copyHealths_10 ⟨by show cells + 1 + 1 ≤ 3; omega, by show slots + 6 + 6 ≤ 18; omega⟩) (kx_out C hex (fun _ _ _ h => h) (by omega) (by omega)) (fun r5 S4 H locs P hE hw hR => ?_)
  have p_a0 : pI S4 8 a0 := pI_x hE p_a0
  have p_a3 : pI S4 6 a3 := pI_x hE p_a3
  obtain ⟨a6, rfl, hw⟩ := hw
  have p_a6 : pI S4 6 a6 := hR a6 rfl
  refine lv_astore (lv' := [(4, .ref a6), (3, .ref a3), (0, .ref a0), (1, .int x1), (2, .int x2)]) hx hb dX8_copyHealths_13 hl (by decide) rfl (fun ls hl => ?_)
  refine lv_aload_n hx hb dX8_copyHealths_15 rfl (lv_at hl 1 rfl) ?_
  refine gf_6_2 C P p_a3 q_282 dX8_copyHealths_16 ?_
  refine lv_if_eq (tgt := 30) hx hb dX8_copyHealths_19 (by decide) (fun hc => ?_) (fun hc => ?_)
  · have hw := hw.1 hc
    exact tX8_copyHealths_30 C hr hex Q QX S4 P (lv_sub hl [] rfl) (by omega) (by omega) hw
  · have hw := hw.2 hc
    refine lv_aload hx hb dX8_copyHealths_22 (lv_at hl 0 rfl) ?_
    refine gf_6_2 C P p_a6 q_282 dX8_copyHealths_24 ?_
    refine lv_if_ne (tgt := 41) hx hb dX8_copyHealths_27 (by decide) (fun hc => ?_) (fun hc => ?_)
    · have hw := hw.1 hc
      refine lv_aload_n hx hb dX8_copyHealths_41 rfl (lv_at hl 1 rfl) ?_
      refine gf_6_3 C P p_a3 q_284 dX8_copyHealths_42 ?_
      refine lv_aload hx hb dX8_copyHealths_45 (lv_at hl 0 rfl) ?_
      refine gf_6_3 C P p_a6 q_284 dX8_copyHealths_47 ?_
      refine lv_icmp_eq (tgt := 64) hx hb dX8_copyHealths_50 (by decide) (fun hc => ?_) (fun hc => ?_)
      · have hw := hw.1 hc
        refine lv_iload_n hx hb dX8_copyHealths_64 rfl (lv_at hl 4 rfl) ?_
        refine lv_if_lt (tgt := 85) hx hb dX8_copyHealths_65 (by decide) (fun hc => ?_) (fun hc => ?_)
        · have hw := hw.1 hc
          exact tX8_copyHealths_85 C hr hex Q QX S4 P (lv_sub hl [] rfl) (by omega) (by omega) hw
        · have hw := hw.2 hc
          refine lv_iload_n hx hb dX8_copyHealths_68 rfl (lv_at hl 4 rfl) ?_
          refine lv_aload_n hx hb dX8_copyHealths_69 rfl (lv_at hl 1 rfl) ?_
          refine gf_6_4 C P p_a3 q_286 dX8_copyHealths_70 ?_
          refine lv_icmp_gt (tgt := 85) hx hb dX8_copyHealths_73 (by decide) (fun hc => ?_) (fun hc => ?_)
          · have hw := hw.1 hc
            exact tX8_copyHealths_85 C hr hex Q QX S4 P (lv_sub hl [] rfl) (by omega) (by omega) hw
          · have hw := hw.2 hc
            refine lv_iload_n hx hb dX8_copyHealths_76 rfl (lv_at hl 4 rfl) ?_
            refine lv_aload hx hb dX8_copyHealths_77 (lv_at hl 0 rfl) ?_
            refine gf_6_4 C P p_a6 q_286 dX8_copyHealths_79 ?_
            refine lv_icmp_le (tgt := 96) hx hb dX8_copyHealths_82 (by decide) (fun hc => ?_) (fun hc => ?_)
            · have hw := hw.1 hc
              refine lv_aload hx hb dX8_copyHealths_96 (lv_at hl 0 rfl) ?_
              refine lv_aload_n hx hb dX8_copyHealths_98 rfl (lv_at hl 1 rfl) ?_
              refine lv_iload_n hx hb dX8_copyHealths_99 rfl (lv_at hl 4 rfl) ?_
              refine cl_i C P (run_V C P hl.1 (kd := 6) (met_X6_takeFrom (CF_n C) G H.size _ _ S4 a6 a3 x2 p_a6 p_a3 hw) p_a6 (by decide) rfl q_1275 q_1276 q_1277 q_9 q_1278 cd_X6_takeFrom ⟨(Nat.le_of_ble_eq_true rfl), (Nat.le_of_ble_eq_true rfl)⟩ rfl rfl (As := [.ref a3, .int x2]) (rest := []) rfl rfl (Nat.le_of_ble_eq_true rfl) dX8_copyHealths_100 ⟨by show cells + 1 + 1 + 0 ≤ 3; omega, by show slots + 6 + 6 + 0 ≤ 18; omega⟩) (kx_out C hex (fun _ _ _ h => h) (by omega) (by omega)) (fun r8 S7 H locs P hE hw => ?_)
              have p_a3 : pI S7 6 a3 := pI_x hE p_a3
              have p_a6 : pI S7 6 a6 := pI_x hE p_a6
              obtain ⟨h1, hw⟩ := hw
              exact e_i C hr (nz h1) P hw (by omega) (by omega) dX8_copyHealths_103
            · have hw := hw.2 hc
              exact tX8_copyHealths_85 C hr hex Q QX S4 P (lv_sub hl [] rfl) (by omega) (by omega) hw
      · have hw := hw.2 hc
        exact th_W C hex P hl.1 (E := "java/lang/UnsupportedOperationException") (text := "the rows have different element types") (by decide +kernel) (by decide +kernel) (by decide +kernel) q_603 q_22 xw_UOE xb_UOE xg_UOE dX8_copyHealths_53 dX8_copyHealths_56 dX8_copyHealths_57 dX8_copyHealths_60 dX8_copyHealths_63 (Nat.le_of_ble_eq_true rfl) (Nat.le_of_ble_eq_true rfl) (by show cells + 1 + 1 + 1 ≤ 3; omega) (by show slots + 6 + 6 + 6 ≤ 18; omega) hw (by omega) (by omega)
    · have hw := hw.2 hc
      exact tX8_copyHealths_30 C hr hex Q QX S4 P (lv_sub hl [] rfl) (by omega) (by omega) hw
def wp_X8_copyHealths (Q : Int32 → MS → Prop) (QX : String → MS → Prop) (S : MS) (a0 : Nat) (x1 : Int32) (x2 : Int32) : Prop := wX8_copyHealths_0 Q QX S a0 x1 x2
set_option maxHeartbeats 4000000 in
set_option maxRecDepth 100000 in
theorem met_X8_copyHealths {l : Launch} (hst : l.stackTraces = false) (G : GP) (sz : Nat) (Q : Int32 → MS → Prop) (QX : String → MS → Prop) (S : MS) (a0 : Nat) (x1 : Int32) (x2 : Int32) (p_a0 : pI S 8 a0) (hw : wp_X8_copyHealths Q QX S a0 x1 x2) : vx_Met l yX8_copyHealths (.code yX8_copyHealths cX8_copyHealths 5 (some .boolean) :: GW) rmX8_copyHealths (va_Pc [.ref a0, .int x1, .int x2] (PR G S sz)) (QI G S (FA G S sz) Q) (XX G S (FA G S sz) QX) 3 18 (FA G S sz) := by
  refine st_m (by decide +kernel) hst (fun p e s m below meth c C hr hnm hex P => ?_)
  refine en_m (Nat.le_of_ble_eq_true rfl) (lv := [(0, .ref a0), (1, .int x1), (2, .int x2)]) rfl (fun ls hl => ?_)
  have C : CF p l s m _ meth c "SkirmishGrid" cX8_copyHealths 5 G (FA G S sz) := C
  exact tX8_copyHealths_0 C hr hex Q QX S a0 x1 x2 p_a0 P hl (by omega) (by omega) hw
theorem cd_X8_copyHealths : yX8_copyHealths.cls = RX8 ∧ yX8_copyHealths.cls ≠ "java/lang/invoke/MethodHandle" ∧ yX8_copyHealths.cls ≠ "java/lang/invoke/VarHandle" ∧ (parseMethodDescriptor yX8_copyHealths.desc).map (fun d => d.parameters.length) = some 2 := by decide +kernel
abbrev rmX8_bitsOf : Room := { frames := 0, cells := 0, slots := 0, locals := 0 }
def wX8_bitsOf_67 (Q : Int32 → MS → Prop) (QX : String → MS → Prop) (S : MS) (y1 : UInt32) (y2 : Int32) : Prop := (vf_n32 (FP.fsub y1 FP.fconst1) ∧ (vf_n32 (FP.fmul (FP.fsub y1 FP.fconst1) (1258291200 : UInt32)) ∧ Q ((y2 <<< (23 &&& 31)) ||| (FP.f2i (FP.fmul (FP.fsub y1 FP.fconst1) (1258291200 : UInt32)))) S))
set_option maxHeartbeats 4000000 in
set_option maxRecDepth 100000 in
theorem tX8_bitsOf_67 {p : Program} {l : Launch} {e : Env} {s : State} {m : MethodId} {args : Array Value} {below : List Frame} {meth : Method} {c : Code} {H : Heap} {locs : List Loc} {cells slots : Nat} {G : GP} {A : Nat → Prop} {S0 : MS} {ls : Array Slot} (C : CF p l s m args meth c "SkirmishGrid" cX8_bitsOf 4 G A) (hr : meth.sig.returnType = (some .int)) (hex : ∀ x ∈ c.exceptionTable.toList, False) (Q : Int32 → MS → Prop) (QX : String → MS → Prop) (S : MS) (y1 : UInt32) (y2 : Int32) (P : PW G A s H locs S0 S) (hl : lv_has ls 4 [(1, .float y1), (2, .int y2)]) (hcc : cells + 0 ≤ 0) (hss : slots + 0 ≤ 0) (hw : wX8_bitsOf_67 Q QX S y1 y2) : W p l e rmX8_bitsOf s m args below meth c H locs cells slots (vx_MQ below (QI G S0 A Q) (XX G S0 A QX) args s 0 0 A) (F0 m 67 ls []) := by
  have hx := CF_x C
  have hb := CF_b C
  unfold wX8_bitsOf_67 at hw
  refine lv_iload_n hx hb dX8_bitsOf_67 rfl (lv_at hl 1 rfl) ?_
  refine lv_bipush (v := 23) hx hb dX8_bitsOf_68 (by decide) ?_
  refine lv_ishl hx hb dX8_bitsOf_70 ?_
  refine lv_fload_n hx hb dX8_bitsOf_71 rfl (lv_at hl 0 rfl) ?_
  refine lv_fconst1 hx hb dX8_bitsOf_72 ?_
  obtain ⟨h1, hw⟩ := hw
  refine lv_fsub hx hb dX8_bitsOf_73 h1 ?_
  refine rf_ldcw (v := 1258291200) hx hb (CF_o C) (CF_t C _ q_1290) dX8_bitsOf_74 ?_
  obtain ⟨h1, hw⟩ := hw
  refine lv_fmul hx hb dX8_bitsOf_77 h1 ?_
  refine lv_f2i hx hb dX8_bitsOf_78 ?_
  refine lv_ior hx hb dX8_bitsOf_79 ?_
  exact e_i C hr rfl P hw (by omega) (by omega) dX8_bitsOf_80
def wX8_bitsOf_42 (Q : Int32 → MS → Prop) (QX : String → MS → Prop) (k42 : MS → UInt32 → Int32 → Int32 → Prop) (S : MS) (y1 : UInt32) (y2 : Int32) (y3 : Int32) : Prop := ((126 ≤ y3 → wX8_bitsOf_67 Q QX S y1 y2) ∧ (¬ 126 ≤ y3 → ((0 ≤ (Op.cmpValue (FP.fcmp y1 FP.fconst1) CmpOp.g) → wX8_bitsOf_67 Q QX S y1 y2) ∧ (¬ 0 ≤ (Op.cmpValue (FP.fcmp y1 FP.fconst1) CmpOp.g) → (vf_n32 (FP.fmul y1 FP.fconst2) ∧ k42 S (FP.fmul y1 FP.fconst2) (y2 + (-1)) (y3 + 1))))))
set_option maxHeartbeats 4000000 in
set_option maxRecDepth 100000 in
theorem tX8_bitsOf_42 {p : Program} {l : Launch} {e : Env} {s : State} {m : MethodId} {args : Array Value} {below : List Frame} {meth : Method} {c : Code} {H : Heap} {locs : List Loc} {cells slots : Nat} {G : GP} {A : Nat → Prop} {S0 : MS} {ls : Array Slot} (C : CF p l s m args meth c "SkirmishGrid" cX8_bitsOf 4 G A) (hr : meth.sig.returnType = (some .int)) (hex : ∀ x ∈ c.exceptionTable.toList, False) (Q : Int32 → MS → Prop) (QX : String → MS → Prop) (k42 : MS → UInt32 → Int32 → Int32 → Prop) (kh42 : ∀ (S : MS) (y1 : UInt32) (y2 : Int32) (y3 : Int32) (cells slots : Nat) (H : Heap) (locs : List Loc) (ls : Array Slot), PW G A s H locs S0 S → lv_has ls 4 [(1, .float y1), (2, .int y2), (3, .int y3)] → cells + 0 ≤ 0 → slots + 0 ≤ 0 → k42 S y1 y2 y3 → W p l e rmX8_bitsOf s m args below meth c H locs cells slots (vx_MQ below (QI G S0 A Q) (XX G S0 A QX) args s 0 0 A) (F0 m 42 ls [])) (S : MS) (y1 : UInt32) (y2 : Int32) (y3 : Int32) (P : PW G A s H locs S0 S) (hl : lv_has ls 4 [(1, .float y1), (2, .int y2), (3, .int y3)]) (hcc : cells + 0 ≤ 0) (hss : slots + 0 ≤ 0) (hw : wX8_bitsOf_42 Q QX k42 S y1 y2 y3) : W p l e rmX8_bitsOf s m args below meth c H locs cells slots (vx_MQ below (QI G S0 A Q) (XX G S0 A QX) args s 0 0 A) (F0 m 42 ls []) := by
  have hx := CF_x C
  have hb := CF_b C
  unfold wX8_bitsOf_42 at hw
  refine lv_iload_n hx hb dX8_bitsOf_42 rfl (lv_at hl 2 rfl) ?_
  refine lv_bipush (v := 126) hx hb dX8_bitsOf_43 (by decide) ?_
  refine lv_icmp_ge (tgt := 67) hx hb dX8_bitsOf_45 (by decide) (fun hc => ?_) (fun hc => ?_)
  · have hw := hw.1 hc
    exact tX8_bitsOf_67 C hr hex Q QX S y1 y2 P (lv_sub hl [0, 1] rfl) (by omega) (by omega) hw
  · have hw := hw.2 hc
    refine lv_fload_n hx hb dX8_bitsOf_48 rfl (lv_at hl 0 rfl) ?_
    refine lv_fconst1 hx hb dX8_bitsOf_49 ?_
    refine lv_fcmp hx hb dX8_bitsOf_50 ?_
    refine lv_if_ge (tgt := 67) hx hb dX8_bitsOf_51 (by decide) (fun hc => ?_) (fun hc => ?_)
    · have hw := hw.1 hc
      exact tX8_bitsOf_67 C hr hex Q QX S y1 y2 P (lv_sub hl [0, 1] rfl) (by omega) (by omega) hw
    · have hw := hw.2 hc
      refine lv_fload_n hx hb dX8_bitsOf_54 rfl (lv_at hl 0 rfl) ?_
      refine lv_fconst2 hx hb dX8_bitsOf_55 ?_
      obtain ⟨h1, hw⟩ := hw
      refine lv_fmul hx hb dX8_bitsOf_56 h1 ?_
      refine lv_fstore_n (lv' := [(1, .float (FP.fmul y1 FP.fconst2)), (2, .int y2), (3, .int y3)]) hx hb dX8_bitsOf_57 rfl hl (by decide) rfl (fun ls hl => ?_)
      refine lv_iinc (v := (y2 + (-1))) (lv' := [(2, .int (y2 + (-1))), (1, .float (FP.fmul y1 FP.fconst2)), (3, .int y3)]) hx hb dX8_bitsOf_58 hl (k := 1) rfl (by rfl) (by decide) rfl (fun ls hl => ?_)
      refine lv_iinc (v := (y3 + 1)) (lv' := [(3, .int (y3 + 1)), (2, .int (y2 + (-1))), (1, .float (FP.fmul y1 FP.fconst2))]) hx hb dX8_bitsOf_61 hl (k := 2) rfl (by rfl) (by decide) rfl (fun ls hl => ?_)
      refine lv_goto (tgt := 42) hx hb dX8_bitsOf_64 (by decide) ?_
      exact kh42 S (FP.fmul y1 FP.fconst2) (y2 + (-1)) (y3 + 1) _ _ _ _ _ P (lv_sub hl [2, 1, 0] rfl) (by omega) (by omega) hw
def lX8_bitsOf_42 (Q : Int32 → MS → Prop) (QX : String → MS → Prop) : Nat → MS → UInt32 → Int32 → Int32 → Prop
  | 0 => fun _ _ _ _ => False
  | n + 1 => fun S y1 y2 y3 => wX8_bitsOf_42 Q QX (lX8_bitsOf_42 Q QX n) S y1 y2 y3
theorem tlX8_bitsOf_42 {p : Program} {l : Launch} {e : Env} {s : State} {m : MethodId} {args : Array Value} {below : List Frame} {meth : Method} {c : Code} {G : GP} {A : Nat → Prop} {S0 : MS} (C : CF p l s m args meth c "SkirmishGrid" cX8_bitsOf 4 G A) (hr : meth.sig.returnType = (some .int)) (hex : ∀ x ∈ c.exceptionTable.toList, False) (Q : Int32 → MS → Prop) (QX : String → MS → Prop) : ∀ (n : Nat), ∀ (S : MS) (y1 : UInt32) (y2 : Int32) (y3 : Int32) (cells slots : Nat) (H : Heap) (locs : List Loc) (ls : Array Slot), PW G A s H locs S0 S → lv_has ls 4 [(1, .float y1), (2, .int y2), (3, .int y3)] → cells + 0 ≤ 0 → slots + 0 ≤ 0 → lX8_bitsOf_42 Q QX n S y1 y2 y3 → W p l e rmX8_bitsOf s m args below meth c H locs cells slots (vx_MQ below (QI G S0 A Q) (XX G S0 A QX) args s 0 0 A) (F0 m 42 ls []) := by
  intro n
  induction n with
  | zero => intro S y1 y2 y3 cells slots H locs ls P hl hcc hss hw; exact hw.elim
  | succ n ih => intro S y1 y2 y3 cells slots H locs ls P hl hcc hss hw; exact tX8_bitsOf_42 C hr hex Q QX (lX8_bitsOf_42 Q QX n) ih S y1 y2 y3 P hl hcc hss hw
def wX8_bitsOf_15 (Q : Int32 → MS → Prop) (QX : String → MS → Prop) (k15 : MS → UInt32 → Int32 → Int32 → Prop) (S : MS) (y1 : UInt32) (y2 : Int32) (y3 : Int32) : Prop := ((127 ≤ y3 → (∃ n, lX8_bitsOf_42 Q QX n S y1 y2 0)) ∧ (¬ 127 ≤ y3 → (((Op.cmpValue (FP.fcmp y1 FP.fconst2) CmpOp.l) < 0 → (∃ n, lX8_bitsOf_42 Q QX n S y1 y2 0)) ∧ (¬ (Op.cmpValue (FP.fcmp y1 FP.fconst2) CmpOp.l) < 0 → (vf_n32 (FP.fdiv y1 FP.fconst2) ∧ k15 S (FP.fdiv y1 FP.fconst2) (y2 + 1) (y3 + 1))))))
set_option maxHeartbeats 4000000 in
set_option maxRecDepth 100000 in
theorem tX8_bitsOf_15 {p : Program} {l : Launch} {e : Env} {s : State} {m : MethodId} {args : Array Value} {below : List Frame} {meth : Method} {c : Code} {H : Heap} {locs : List Loc} {cells slots : Nat} {G : GP} {A : Nat → Prop} {S0 : MS} {ls : Array Slot} (C : CF p l s m args meth c "SkirmishGrid" cX8_bitsOf 4 G A) (hr : meth.sig.returnType = (some .int)) (hex : ∀ x ∈ c.exceptionTable.toList, False) (Q : Int32 → MS → Prop) (QX : String → MS → Prop) (k15 : MS → UInt32 → Int32 → Int32 → Prop) (kh15 : ∀ (S : MS) (y1 : UInt32) (y2 : Int32) (y3 : Int32) (cells slots : Nat) (H : Heap) (locs : List Loc) (ls : Array Slot), PW G A s H locs S0 S → lv_has ls 4 [(1, .float y1), (2, .int y2), (3, .int y3)] → cells + 0 ≤ 0 → slots + 0 ≤ 0 → k15 S y1 y2 y3 → W p l e rmX8_bitsOf s m args below meth c H locs cells slots (vx_MQ below (QI G S0 A Q) (XX G S0 A QX) args s 0 0 A) (F0 m 15 ls [])) (S : MS) (y1 : UInt32) (y2 : Int32) (y3 : Int32) (P : PW G A s H locs S0 S) (hl : lv_has ls 4 [(1, .float y1), (2, .int y2), (3, .int y3)]) (hcc : cells + 0 ≤ 0) (hss : slots + 0 ≤ 0) (hw : wX8_bitsOf_15 Q QX k15 S y1 y2 y3) : W p l e rmX8_bitsOf s m args below meth c H locs cells slots (vx_MQ below (QI G S0 A Q) (XX G S0 A QX) args s 0 0 A) (F0 m 15 ls []) := by
  have hx := CF_x C
  have hb := CF_b C
  unfold wX8_bitsOf_15 at hw
  refine lv_iload_n hx hb dX8_bitsOf_15 rfl (lv_at hl 2 rfl) ?_
  refine lv_bipush (v := 127) hx hb dX8_bitsOf_16 (by decide) ?_
  refine lv_icmp_ge (tgt := 40) hx hb dX8_bitsOf_18 (by decide) (fun hc => ?_) (fun hc => ?_)
  · have hw := hw.1 hc
    refine lv_iconst (v := 0) hx hb dX8_bitsOf_40 (by decide) ?_
    refine lv_istore_n (lv' := [(3, .int 0), (1, .float y1), (2, .int y2)]) hx hb dX8_bitsOf_41 rfl hl (by decide) rfl (fun ls hl => ?_)
    obtain ⟨n, hw⟩ := hw
    exact tlX8_bitsOf_42 C hr hex Q QX n S y1 y2 0 _ _ _ _ _ P (lv_sub hl [1, 2, 0] rfl) (by omega) (by omega) hw
  · have hw := hw.2 hc
    refine lv_fload_n hx hb dX8_bitsOf_21 rfl (lv_at hl 0 rfl) ?_
    refine lv_fconst2 hx hb dX8_bitsOf_22 ?_
    refine lv_fcmp hx hb dX8_bitsOf_23 ?_
    refine lv_if_lt (tgt := 40) hx hb dX8_bitsOf_24 (by decide) (fun hc => ?_) (fun hc => ?_)
    · have hw := hw.1 hc
      refine lv_iconst (v := 0) hx hb dX8_bitsOf_40 (by decide) ?_
      refine lv_istore_n (lv' := [(3, .int 0), (1, .float y1), (2, .int y2)]) hx hb dX8_bitsOf_41 rfl hl (by decide) rfl (fun ls hl => ?_)
      obtain ⟨n, hw⟩ := hw
      exact tlX8_bitsOf_42 C hr hex Q QX n S y1 y2 0 _ _ _ _ _ P (lv_sub hl [1, 2, 0] rfl) (by omega) (by omega) hw
    · have hw := hw.2 hc
      refine lv_fload_n hx hb dX8_bitsOf_27 rfl (lv_at hl 0 rfl) ?_
      refine lv_fconst2 hx hb dX8_bitsOf_28 ?_
      obtain ⟨h1, hw⟩ := hw
      refine lv_fdiv hx hb dX8_bitsOf_29 h1 ?_
      refine lv_fstore_n (lv' := [(1, .float (FP.fdiv y1 FP.fconst2)), (2, .int y2), (3, .int y3)]) hx hb dX8_bitsOf_30 rfl hl (by decide) rfl (fun ls hl => ?_)
      refine lv_iinc (v := (y2 + 1)) (lv' := [(2, .int (y2 + 1)), (1, .float (FP.fdiv y1 FP.fconst2)), (3, .int y3)]) hx hb dX8_bitsOf_31 hl (k := 1) rfl (by rfl) (by decide) rfl (fun ls hl => ?_)
      refine lv_iinc (v := (y3 + 1)) (lv' := [(3, .int (y3 + 1)), (2, .int (y2 + 1)), (1, .float (FP.fdiv y1 FP.fconst2))]) hx hb dX8_bitsOf_34 hl (k := 2) rfl (by rfl) (by decide) rfl (fun ls hl => ?_)
      refine lv_goto (tgt := 15) hx hb dX8_bitsOf_37 (by decide) ?_
      exact kh15 S (FP.fdiv y1 FP.fconst2) (y2 + 1) (y3 + 1) _ _ _ _ _ P (lv_sub hl [2, 1, 0] rfl) (by omega) (by omega) hw
def lX8_bitsOf_15 (Q : Int32 → MS → Prop) (QX : String → MS → Prop) : Nat → MS → UInt32 → Int32 → Int32 → Prop
  | 0 => fun _ _ _ _ => False
  | n + 1 => fun S y1 y2 y3 => wX8_bitsOf_15 Q QX (lX8_bitsOf_15 Q QX n) S y1 y2 y3
theorem tlX8_bitsOf_15 {p : Program} {l : Launch} {e : Env} {s : State} {m : MethodId} {args : Array Value} {below : List Frame} {meth : Method} {c : Code} {G : GP} {A : Nat → Prop} {S0 : MS} (C : CF p l s m args meth c "SkirmishGrid" cX8_bitsOf 4 G A) (hr : meth.sig.returnType = (some .int)) (hex : ∀ x ∈ c.exceptionTable.toList, False) (Q : Int32 → MS → Prop) (QX : String → MS → Prop) : ∀ (n : Nat), ∀ (S : MS) (y1 : UInt32) (y2 : Int32) (y3 : Int32) (cells slots : Nat) (H : Heap) (locs : List Loc) (ls : Array Slot), PW G A s H locs S0 S → lv_has ls 4 [(1, .float y1), (2, .int y2), (3, .int y3)] → cells + 0 ≤ 0 → slots + 0 ≤ 0 → lX8_bitsOf_15 Q QX n S y1 y2 y3 → W p l e rmX8_bitsOf s m args below meth c H locs cells slots (vx_MQ below (QI G S0 A Q) (XX G S0 A QX) args s 0 0 A) (F0 m 15 ls []) := by
  intro n
  induction n with
  | zero => intro S y1 y2 y3 cells slots H locs ls P hl hcc hss hw; exact hw.elim
  | succ n ih => intro S y1 y2 y3 cells slots H locs ls P hl hcc hss hw; exact tX8_bitsOf_15 C hr hex Q QX (lX8_bitsOf_15 Q QX n) ih S y1 y2 y3 P hl hcc hss hw
def wX8_bitsOf_0 (Q : Int32 → MS → Prop) (QX : String → MS → Prop) (S : MS) (x1 : UInt32) : Prop := ((¬ (Op.cmpValue (FP.fcmp x1 FP.fconst0) CmpOp.l) = 0 → (∃ n, lX8_bitsOf_15 Q QX n S x1 127 0)) ∧ ((Op.cmpValue (FP.fcmp x1 FP.fconst0) CmpOp.l) = 0 → Q 0 S))
set_option maxHeartbeats 4000000 in
set_option maxRecDepth 100000 in
theorem tX8_bitsOf_0 {p : Program} {l : Launch} {e : Env} {s : State} {m : MethodId} {args : Array Value} {below : List Frame} {meth : Method} {c : Code} {H : Heap} {locs : List Loc} {cells slots : Nat} {G : GP} {A : Nat → Prop} {S0 : MS} {ls : Array Slot} (C : CF p l s m args meth c "SkirmishGrid" cX8_bitsOf 4 G A) (hr : meth.sig.returnType = (some .int)) (hex : ∀ x ∈ c.exceptionTable.toList, False) (Q : Int32 → MS → Prop) (QX : String → MS → Prop) (S : MS) (x1 : UInt32) (P : PW G A s H locs S0 S) (hl : lv_has ls 4 [(0, .float x1)]) (hcc : cells + 0 ≤ 0) (hss : slots + 0 ≤ 0) (hw : wX8_bitsOf_0 Q QX S x1) : W p l e rmX8_bitsOf s m args below meth c H locs cells slots (vx_MQ below (QI G S0 A Q) (XX G S0 A QX) args s 0 0 A) (F0 m 0 ls []) := by
  have hx := CF_x C
  have hb := CF_b C
  unfold wX8_bitsOf_0 at hw
  refine lv_fload_n hx hb dX8_bitsOf_0 rfl (lv_at hl 0 rfl) ?_
  refine lv_fconst0 hx hb dX8_bitsOf_1 ?_
  refine lv_fcmp hx hb dX8_bitsOf_2 ?_
  refine lv_if_ne (tgt := 8) hx hb dX8_bitsOf_3 (by decide) (fun hc => ?_) (fun hc => ?_)
  · have hw := hw.1 hc
    refine lv_fload_n hx hb dX8_bitsOf_8 rfl (lv_at hl 0 rfl) ?_
    refine lv_fstore_n (lv' := [(1, .float x1), (0, .float x1)]) hx hb dX8_bitsOf_9 rfl hl (by decide) rfl (fun ls hl => ?_)
    refine lv_bipush (v := 127) hx hb dX8_bitsOf_10 (by decide) ?_
    refine lv_istore_n (lv' := [(2, .int 127), (1, .float x1), (0, .float x1)]) hx hb dX8_bitsOf_12 rfl hl (by decide) rfl (fun ls hl => ?_)
    refine lv_iconst (v := 0) hx hb dX8_bitsOf_13 (by decide) ?_
    refine lv_istore_n (lv' := [(3, .int 0), (2, .int 127), (1, .float x1), (0, .float x1)]) hx hb dX8_bitsOf_14 rfl hl (by decide) rfl (fun ls hl => ?_)
    obtain ⟨n, hw⟩ := hw
    exact tlX8_bitsOf_15 C hr hex Q QX n S x1 127 0 _ _ _ _ _ P (lv_sub hl [2, 1, 0] rfl) (by omega) (by omega) hw
  · have hw := hw.2 hc
    refine lv_iconst (v := 0) hx hb dX8_bitsOf_6 (by decide) ?_
    exact e_i C hr rfl P hw (by omega) (by omega) dX8_bitsOf_7
def wp_X8_bitsOf (Q : Int32 → MS → Prop) (QX : String → MS → Prop) (S : MS) (x1 : UInt32) : Prop := wX8_bitsOf_0 Q QX S x1
set_option maxHeartbeats 4000000 in
set_option maxRecDepth 100000 in
theorem met_X8_bitsOf {l : Launch} (hst : l.stackTraces = false) (G : GP) (sz : Nat) (Q : Int32 → MS → Prop) (QX : String → MS → Prop) (S : MS) (x1 : UInt32) (hw : wp_X8_bitsOf Q QX S x1) : vx_Met l yX8_bitsOf (.code yX8_bitsOf cX8_bitsOf 4 (some .int) :: GW) rmX8_bitsOf (va_Pc [.float x1] (PR G S sz)) (QI G S (FA G S sz) Q) (XX G S (FA G S sz) QX) 0 0 (FA G S sz) := by
  refine st_m (by decide +kernel) hst (fun p e s m below meth c C hr hnm hex P => ?_)
  refine en_m (Nat.le_of_ble_eq_true rfl) (lv := [(0, .float x1)]) rfl (fun ls hl => ?_)
  have C : CF p l s m _ meth c "SkirmishGrid" cX8_bitsOf 4 G (FA G S sz) := C
  exact tX8_bitsOf_0 C hr hex Q QX S x1 P hl (by omega) (by omega) hw
theorem cd_X8_bitsOf : yX8_bitsOf.cls = RX8 ∧ yX8_bitsOf.cls ≠ "java/lang/invoke/MethodHandle" ∧ yX8_bitsOf.cls ≠ "java/lang/invoke/VarHandle" ∧ (parseMethodDescriptor yX8_bitsOf.desc).map (fun d => d.parameters.length) = some 1 := by decide +kernel
abbrev rmX8_storedBits : Room := { frames := 7, cells := 2, slots := 12, locals := 131 }
def wX8_storedBits_25 (Q : Int32 → MS → Prop) (QX : String → MS → Prop) (S : MS) : Prop := QX "java/util/NoSuchElementException" S
set_option maxHeartbeats 4000000 in
set_option maxRecDepth 100000 in
theorem tX8_storedBits_25 {p : Program} {l : Launch} {e : Env} {s : State} {m : MethodId} {args : Array Value} {below : List Frame} {meth : Method} {c : Code} {H : Heap} {locs : List Loc} {cells slots : Nat} {G : GP} {A : Nat → Prop} {S0 : MS} {ls : Array Slot} (C : CF p l s m args meth c "SkirmishGrid" cX8_storedBits 4 G A) (hr : meth.sig.returnType = (some .int)) (hex : ∀ x ∈ c.exceptionTable.toList, False) (Q : Int32 → MS → Prop) (QX : String → MS → Prop) (S : MS) (P : PW G A s H locs S0 S) (hl : lv_has ls 4 []) (hcc : cells + 1 ≤ 2) (hss : slots + 6 ≤ 12) (hw : wX8_storedBits_25 Q QX S) : W p l e rmX8_storedBits s m args below meth c H locs cells slots (vx_MQ below (QI G S0 A Q) (XX G S0 A QX) args s 2 12 A) (F0 m 25 ls []) := by
  have hx := CF_x C
  have hb := CF_b C
  unfold wX8_storedBits_25 at hw
  exact th_NW C hex P hl.1 (text := "the row has no such element") (by decide +kernel) q_641 q_23 xw_NSE xb_NSE xg_NSE dX8_storedBits_25 dX8_storedBits_28 dX8_storedBits_29 dX8_storedBits_32 dX8_storedBits_35 (Nat.le_of_ble_eq_true rfl) (Nat.le_of_ble_eq_true rfl) (by show cells + 1 ≤ 2; omega) (by show slots + 6 ≤ 12; omega) hw (by omega) (by omega)
def wX8_storedBits_59 (Q : Int32 → MS → Prop) (QX : String → MS → Prop) (S : MS) (z0 : UInt32) : Prop := wp_X8_bitsOf (fun r2 S1 => Q r2 S1) QX S z0
set_option maxHeartbeats 4000000 in
set_option maxRecDepth 100000 in
theorem tX8_storedBits_59 {p : Program} {l : Launch} {e : Env} {s : State} {m : MethodId} {args : Array Value} {below : List Frame} {meth : Method} {c : Code} {H : Heap} {locs : List Loc} {cells slots : Nat} {G : GP} {A : Nat → Prop} {S0 : MS} {ls : Array Slot} (C : CF p l s m args meth c "SkirmishGrid" cX8_storedBits 4 G A) (hr : meth.sig.returnType = (some .int)) (hex : ∀ x ∈ c.exceptionTable.toList, False) (Q : Int32 → MS → Prop) (QX : String → MS → Prop) (S : MS) (z0 : UInt32) (P : PW G A s H locs S0 S) (hl : lv_has ls 4 []) (hcc : cells + 0 ≤ 2) (hss : slots + 0 ≤ 12) (hw : wX8_storedBits_59 Q QX S z0) : W p l e rmX8_storedBits s m args below meth c H locs cells slots (vx_MQ below (QI G S0 A Q) (XX G S0 A QX) args s 2 12 A) (F0 m 59 ls [.float z0]) := by
  have hx := CF_x C
  have hb := CF_b C
  unfold wX8_storedBits_59 at hw
  refine cl_i C P (run_S C P hl.1 (met_X8_bitsOf (CF_n C) G H.size _ _ S z0 hw) q_1287 q_1288 q_1 q_1289 cd_X8_bitsOf.2 ⟨(Nat.le_of_ble_eq_true rfl), (Nat.le_of_ble_eq_true rfl)⟩ rfl rfl (As := [.float z0]) (rest := []) rfl rfl (Nat.le_of_ble_eq_true rfl) dX8_storedBits_59 ⟨by show cells + 0 ≤ 2; omega, by show slots + 0 ≤ 12; omega⟩) (kx_out C hex (fun _ _ _ h => h) (by omega) (by omega)) (fun r2 S1 H locs P hE hw => ?_)
  exact e_i C hr rfl P hw (by omega) (by omega) dX8_storedBits_62
def wX8_storedBits_0 (Q : Int32 → MS → Prop) (QX : String → MS → Prop) (S : MS) (a0 : Nat) (x1 : Int32) (x2 : Int32) : Prop := wp_X8_requireRow (fun r2 S1 => (∃ a3, r2 = some a3 ∧ (((mI S1 a3 2) = 0 → wX8_storedBits_25 Q QX S1) ∧ (¬ (mI S1 a3 2) = 0 → ((x2 < 0 → wX8_storedBits_25 Q QX S1) ∧ (¬ x2 < 0 → ((x2 < (mI S1 a3 4) → (((mI S1 a3 3) = 0 → (∃ a4, mR S1 a3 1 = some a4 ∧ (vp_in x2 (mN S1 a4) ∧ wX8_storedBits_59 Q QX S1 (mF S1 a4 (x2 : Int32).toNatClampNeg)))) ∧ (¬ (mI S1 a3 3) = 0 → (∃ a5, mR S1 a3 0 = some a5 ∧ (vp_in x2 (mN S1 a5) ∧ wX8_storedBits_59 Q QX S1 (FP.i2f (mI S1 a5 (x2 : Int32).toNatClampNeg))))))) ∧ (¬ x2 < (mI S1 a3 4) → wX8_storedBits_25 Q QX S1)))))))) QX S a0 x1
set_option maxHeartbeats 4000000 in
set_option maxRecDepth 100000 in
theorem tX8_storedBits_0 {p : Program} {l : Launch} {e : Env} {s : State} {m : MethodId} {args : Array Value} {below : List Frame} {meth : Method} {c : Code} {H : Heap} {locs : List Loc} {cells slots : Nat} {G : GP} {A : Nat → Prop} {S0 : MS} {ls : Array Slot} (C : CF p l s m args meth c "SkirmishGrid" cX8_storedBits 4 G A) (hr : meth.sig.returnType = (some .int)) (hex : ∀ x ∈ c.exceptionTable.toList, False) (Q : Int32 → MS → Prop) (QX : String → MS → Prop) (S : MS) (a0 : Nat) (x1 : Int32) (x2 : Int32) (p_a0 : pI S 8 a0) (P : PW G A s H locs S0 S) (hl : lv_has ls 4 [(0, .ref a0), (1, .int x1), (2, .int x2)]) (hcc : cells + 2 ≤ 2) (hss : slots + 12 ≤ 12) (hw : wX8_storedBits_0 Q QX S a0 x1 x2) : W p l e rmX8_storedBits s m args below meth c H locs cells slots (vx_MQ below (QI G S0 A Q) (XX G S0 A QX) args s 2 12 A) (F0 m 0 ls []) := by
  have hx := CF_x C
  have hb := CF_b C
  unfold wX8_storedBits_0 at hw
  refine lv_aload_n hx hb dX8_storedBits_0 rfl (lv_at hl 0 rfl) ?_
  refine lv_iload_n hx hb dX8_storedBits_1 rfl (lv_at hl 1 rfl) ?_
  refine cl_q C P (run_V C P hl.1 (kd := 8) (met_X8_requireRow (CF_n C) G H.size _ _ S a0 x1 p_a0 hw) p_a0 (by decide) rfl q_1255 q_1257 q_p22 q_1 q_1258 cd_X8_requireRow ⟨(Nat.le_of_ble_eq_true rfl), (Nat.le_of_ble_eq_true rfl)⟩ rfl rfl (As := [.int x1]) (rest := []) rfl rfl (Nat.le_of_ble_eq_true rfl) dX8_storedBits_2 ⟨by show cells + 1 ≤ 2; omega, by show slots + 6 ≤ 12; omega⟩) (kx_out C hex (fun _ _ _ h => h) (by omega) (by omega)) (fun r2 S1 H locs P hE hw hR => ?_)
  have p_a0 : pI S1 8 a0 := pI_x hE p_a0
  obtain ⟨a3, rfl, hw⟩ := hw
  have p_a3 : pI S1 6 a3 := hR a3 rfl
  refine lv_astore_n (lv' := [(3, .ref a3), (0, .ref a0), (1, .int x1), (2, .int x2)]) hx hb dX8_storedBits_5 rfl hl (by decide) rfl (fun ls hl => ?_)
  refine lv_aload_n hx hb dX8_storedBits_6 rfl (lv_at hl 0 rfl) ?_
  refine gf_6_2 C P p_a3 q_282 dX8_storedBits_7 ?_
  refine lv_if_eq (tgt := 25) hx hb dX8_storedBits_10 (by decide) (fun hc => ?_) (fun hc => ?_)
  · have hw := hw.1 hc
    exact tX8_storedBits_25 C hr hex Q QX S1 P (lv_sub hl [] rfl) (by omega) (by omega) hw
  · have hw := hw.2 hc
    refine lv_iload_n hx hb dX8_storedBits_13 rfl (lv_at hl 3 rfl) ?_
    refine lv_if_lt (tgt := 25) hx hb dX8_storedBits_14 (by decide) (fun hc => ?_) (fun hc => ?_)
    · have hw := hw.1 hc
      exact tX8_storedBits_25 C hr hex Q QX S1 P (lv_sub hl [] rfl) (by omega) (by omega) hw
    · have hw := hw.2 hc
      refine lv_iload_n hx hb dX8_storedBits_17 rfl (lv_at hl 3 rfl) ?_
      refine lv_aload_n hx hb dX8_storedBits_18 rfl (lv_at hl 0 rfl) ?_
      refine gf_6_4 C P p_a3 q_286 dX8_storedBits_19 ?_
      refine lv_icmp_lt (tgt := 36) hx hb dX8_storedBits_22 (by decide) (fun hc => ?_) (fun hc => ?_)
      · have hw := hw.1 hc
        refine lv_aload_n hx hb dX8_storedBits_36 rfl (lv_at hl 0 rfl) ?_
        refine gf_6_3 C P p_a3 q_284 dX8_storedBits_37 ?_
        refine lv_if_eq (tgt := 53) hx hb dX8_storedBits_40 (by decide) (fun hc => ?_) (fun hc => ?_)
        · have hw := hw.1 hc
          refine lv_aload_n hx hb dX8_storedBits_53 rfl (lv_at hl 0 rfl) ?_
          obtain ⟨a4, e1, hw⟩ := hw
          have p_a4 : pI S1 11 a4 := wf_r P.2.2.2.1 p_a3 e1
          refine gf_6_1 C P p_a3 e1 q_280 dX8_storedBits_54 ?_
          refine lv_iload_n hx hb dX8_storedBits_57 rfl (lv_at hl 3 rfl) ?_
          obtain ⟨h1, hw⟩ := hw
          refine ra_f C P p_a4 h1 dX8_storedBits_58 ?_
          exact tX8_storedBits_59 C hr hex Q QX S1 (mF S1 a4 (x2 : Int32).toNatClampNeg) P (lv_sub hl [] rfl) (by omega) (by omega) hw
        · have hw := hw.2 hc
          refine lv_aload_n hx hb dX8_storedBits_43 rfl (lv_at hl 0 rfl) ?_
          obtain ⟨a5, e1, hw⟩ := hw
          have p_a5 : pI S1 12 a5 := wf_r P.2.2.2.1 p_a3 e1
          refine gf_6_0 C P p_a3 e1 q_278 dX8_storedBits_44 ?_
          refine lv_iload_n hx hb dX8_storedBits_47 rfl (lv_at hl 3 rfl) ?_
          obtain ⟨h1, hw⟩ := hw
          refine ra_i C P p_a5 h1 dX8_storedBits_48 ?_
          refine lv_i2f hx hb dX8_storedBits_49 ?_
          refine lv_goto (tgt := 59) hx hb dX8_storedBits_50 (by decide) ?_
          exact tX8_storedBits_59 C hr hex Q QX S1 (FP.i2f (mI S1 a5 (x2 : Int32).toNatClampNeg)) P (lv_sub hl [] rfl) (by omega) (by omega) hw
      · have hw := hw.2 hc
        exact tX8_storedBits_25 C hr hex Q QX S1 P (lv_sub hl [] rfl) (by omega) (by omega) hw
def wp_X8_storedBits (Q : Int32 → MS → Prop) (QX : String → MS → Prop) (S : MS) (a0 : Nat) (x1 : Int32) (x2 : Int32) : Prop := wX8_storedBits_0 Q QX S a0 x1 x2
set_option maxHeartbeats 4000000 in
set_option maxRecDepth 100000 in
theorem met_X8_storedBits {l : Launch} (hst : l.stackTraces = false) (G : GP) (sz : Nat) (Q : Int32 → MS → Prop) (QX : String → MS → Prop) (S : MS) (a0 : Nat) (x1 : Int32) (x2 : Int32) (p_a0 : pI S 8 a0) (hw : wp_X8_storedBits Q QX S a0 x1 x2) : vx_Met l yX8_storedBits (.code yX8_storedBits cX8_storedBits 4 (some .int) :: GW) rmX8_storedBits (va_Pc [.ref a0, .int x1, .int x2] (PR G S sz)) (QI G S (FA G S sz) Q) (XX G S (FA G S sz) QX) 2 12 (FA G S sz) := by
  refine st_m (by decide +kernel) hst (fun p e s m below meth c C hr hnm hex P => ?_)
  refine en_m (Nat.le_of_ble_eq_true rfl) (lv := [(0, .ref a0), (1, .int x1), (2, .int x2)]) rfl (fun ls hl => ?_)
  have C : CF p l s m _ meth c "SkirmishGrid" cX8_storedBits 4 G (FA G S sz) := C
  exact tX8_storedBits_0 C hr hex Q QX S a0 x1 x2 p_a0 P hl (by omega) (by omega) hw
theorem cd_X8_storedBits : yX8_storedBits.cls = RX8 ∧ yX8_storedBits.cls ≠ "java/lang/invoke/MethodHandle" ∧ yX8_storedBits.cls ≠ "java/lang/invoke/VarHandle" ∧ (parseMethodDescriptor yX8_storedBits.desc).map (fun d => d.parameters.length) = some 2 := by decide +kernel
abbrev rmX8_snapshot : Room := { frames := 3, cells := 0, slots := 0, locals := 103 }
def wX8_snapshot_0 (Q : Int32 → MS → Prop) (QX : String → MS → Prop) (S : MS) (a0 : Nat) : Prop := (∃ a1, mR S a0 6 = some a1 ∧ (∃ a2, mR S a0 3 = some a2 ∧ wp_X2_copyFrom (fun S3 => (∃ a4, mR S3 a0 7 = some a4 ∧ (∃ a5, mR S3 a0 4 = some a5 ∧ wp_X0_copyFrom (fun S6 => (∀ S7, S7 = (sI S6 a0 8 1) → (∃ a8, mR S7 a0 3 = some a8 ∧ Q (mI S7 a8 2) S7))) QX S3 a4 a5))) QX S a1 a2))
set_option maxHeartbeats 4000000 in
set_option maxRecDepth 100000 in
theorem tX8_snapshot_0 {p : Program} {l : Launch} {e : Env} {s : State} {m : MethodId} {args : Array Value} {below : List Frame} {meth : Method} {c : Code} {H : Heap} {locs : List Loc} {cells slots : Nat} {G : GP} {A : Nat → Prop} {S0 : MS} {ls : Array Slot} (C : CF p l s m args meth c "SkirmishGrid" cX8_snapshot 1 G A) (hr : meth.sig.returnType = (some .int)) (hex : ∀ x ∈ c.exceptionTable.toList, False) (Q : Int32 → MS → Prop) (QX : String → MS → Prop) (S : MS) (a0 : Nat) (p_a0 : pI S 8 a0) (P : PW G A s H locs S0 S) (hl : lv_has ls 1 [(0, .ref a0)]) (hcc : cells + 0 ≤ 0) (hss : slots + 0 ≤ 0) (hw : wX8_snapshot_0 Q QX S a0) : W p l e rmX8_snapshot s m args below meth c H locs cells slots (vx_MQ below (QI G S0 A Q) (XX G S0 A QX) args s 0 0 A) (F0 m 0 ls []) := by
  have hx := CF_x C
  have hb := CF_b C
  unfold wX8_snapshot_0 at hw
  refine lv_aload_n hx hb dX8_snapshot_0 rfl (lv_at hl 0 rfl) ?_
  obtain ⟨a1, e1, hw⟩ := hw
  have p_a1 : pI S 2 a1 := wf_r P.2.2.2.1 p_a0 e1
  refine gf_8_6 C P p_a0 e1 q_305 dX8_snapshot_1 ?_
  refine lv_aload_n hx hb dX8_snapshot_4 rfl (lv_at hl 0 rfl) ?_
  obtain ⟨a2, e1, hw⟩ := hw
  have p_a2 : pI S 2 a2 := wf_r P.2.2.2.1 p_a0 e1
  refine gf_8_3 C P p_a0 e1 q_302 dX8_snapshot_5 ?_
  refine cl_v C P (run_V C P hl.1 (kd := 2) (met_X2_copyFrom (CF_n C) G H.size _ _ S a1 a2 p_a1 p_a2 hw) p_a1 (by decide) rfl q_375 q_376 q_377 q_2 q_378 cd_X2_copyFrom ⟨(Nat.le_of_ble_eq_true rfl), (Nat.le_of_ble_eq_true rfl)⟩ rfl rfl (As := [.ref a2]) (rest := []) rfl rfl (Nat.le_of_ble_eq_true rfl) dX8_snapshot_8 ⟨by show cells + 0 ≤ 0; omega, by show slots + 0 ≤ 0; omega⟩) (kx_out C hex (fun _ _ _ h => h) (by omega) (by omega)) (fun S3 H locs P hE hw => ?_)
  have p_a0 : pI S3 8 a0 := pI_x hE p_a0
  have p_a1 : pI S3 2 a1 := pI_x hE p_a1
  have p_a2 : pI S3 2 a2 := pI_x hE p_a2
  refine lv_aload_n hx hb dX8_snapshot_11 rfl (lv_at hl 0 rfl) ?_
  obtain ⟨a4, e1, hw⟩ := hw
  have p_a4 : pI S3 0 a4 := wf_r P.2.2.2.1 p_a0 e1
  refine gf_8_7 C P p_a0 e1 q_306 dX8_snapshot_12 ?_
  refine lv_aload_n hx hb dX8_snapshot_15 rfl (lv_at hl 0 rfl) ?_
  obtain ⟨a5, e1, hw⟩ := hw
  have p_a5 : pI S3 0 a5 := wf_r P.2.2.2.1 p_a0 e1
  refine gf_8_4 C P p_a0 e1 q_303 dX8_snapshot_16 ?_
  refine cl_v C P (run_V C P hl.1 (kd := 0) (met_X0_copyFrom (CF_n C) G H.size _ _ S3 a4 a5 p_a4 p_a5 hw) p_a4 (by decide) rfl q_396 q_397 q_398 q_6 q_399 cd_X0_copyFrom ⟨(Nat.le_of_ble_eq_true rfl), (Nat.le_of_ble_eq_true rfl)⟩ rfl rfl (As := [.ref a5]) (rest := []) rfl rfl (Nat.le_of_ble_eq_true rfl) dX8_snapshot_19 ⟨by show cells + 0 ≤ 0; omega, by show slots + 0 ≤ 0; omega⟩) (kx_out C hex (fun _ _ _ h => h) (by omega) (by omega)) (fun S6 H locs P hE hw => ?_)
  have p_a0 : pI S6 8 a0 := pI_x hE p_a0
  have p_a4 : pI S6 0 a4 := pI_x hE p_a4
  have p_a5 : pI S6 0 a5 := pI_x hE p_a5
  refine lv_aload_n hx hb dX8_snapshot_22 rfl (lv_at hl 0 rfl) ?_
  refine lv_iconst (v := 1) hx hb dX8_snapshot_23 (by decide) ?_
  refine pf_8_8 C P p_a0 (isZ_dec (by decide)) q_307 dX8_snapshot_24 (fun H locs P => ?_)
  obtain ⟨S7, hS⟩ : ∃ z, z = (sI S6 a0 8 1) := ⟨_, rfl⟩
  have P : PW G A s H locs S0 S7 := by rw [hS]; exact P
  have p_a0 : pI S7 8 a0 := by rw [hS]; exact pI_x ext_sI p_a0
  have hw := hw S7 hS
  refine lv_aload_n hx hb dX8_snapshot_27 rfl (lv_at hl 0 rfl) ?_
  obtain ⟨a8, e1, hw⟩ := hw
  have p_a8 : pI S7 2 a8 := wf_r P.2.2.2.1 p_a0 e1
  refine gf_8_3 C P p_a0 e1 q_302 dX8_snapshot_28 ?_
  refine gf_2_2 C P p_a8 q_171 dX8_snapshot_31 ?_
  exact e_i C hr rfl P hw (by omega) (by omega) dX8_snapshot_34
def wp_X8_snapshot (Q : Int32 → MS → Prop) (QX : String → MS → Prop) (S : MS) (a0 : Nat) : Prop := wX8_snapshot_0 Q QX S a0
set_option maxHeartbeats 4000000 in
set_option maxRecDepth 100000 in
theorem met_X8_snapshot {l : Launch} (hst : l.stackTraces = false) (G : GP) (sz : Nat) (Q : Int32 → MS → Prop) (QX : String → MS → Prop) (S : MS) (a0 : Nat) (p_a0 : pI S 8 a0) (hw : wp_X8_snapshot Q QX S a0) : vx_Met l yX8_snapshot (.code yX8_snapshot cX8_snapshot 1 (some .int) :: GW) rmX8_snapshot (va_Pc [.ref a0] (PR G S sz)) (QI G S (FA G S sz) Q) (XX G S (FA G S sz) QX) 0 0 (FA G S sz) := by
  refine st_m (by decide +kernel) hst (fun p e s m below meth c C hr hnm hex P => ?_)
  refine en_m (Nat.le_of_ble_eq_true rfl) (lv := [(0, .ref a0)]) rfl (fun ls hl => ?_)
  have C : CF p l s m _ meth c "SkirmishGrid" cX8_snapshot 1 G (FA G S sz) := C
  exact tX8_snapshot_0 C hr hex Q QX S a0 p_a0 P hl (by omega) (by omega) hw
theorem cd_X8_snapshot : yX8_snapshot.cls = RX8 ∧ yX8_snapshot.cls ≠ "java/lang/invoke/MethodHandle" ∧ yX8_snapshot.cls ≠ "java/lang/invoke/VarHandle" ∧ (parseMethodDescriptor yX8_snapshot.desc).map (fun d => d.parameters.length) = some 0 := by decide +kernel
abbrev rmX8_restore : Room := { frames := 6, cells := 1, slots := 6, locals := 110 }
def wX8_restore_0 (Q : Int32 → MS → Prop) (QX : String → MS → Prop) (S : MS) (a0 : Nat) : Prop := ((¬ (mI S a0 8) = 0 → (∃ a1, mR S a0 3 = some a1 ∧ (∃ a2, mR S a0 6 = some a2 ∧ wp_X2_copyFrom (fun S3 => (∃ a4, mR S3 a0 4 = some a4 ∧ (∃ a5, mR S3 a0 7 = some a5 ∧ wp_X0_copyFrom (fun S6 => (∃ a7, mR S6 a0 5 = some a7 ∧ wp_X4_clear (fun S8 => (∃ a9, mR S8 a0 3 = some a9 ∧ Q (mI S8 a9 2) S8)) QX S6 a7)) QX S3 a4 a5))) QX S a1 a2))) ∧ ((mI S a0 8) = 0 → QX "java/lang/IllegalStateException" S))
set_option maxHeartbeats 4000000 in
set_option maxRecDepth 100000 in
theorem tX8_restore_0 {p : Program} {l : Launch} {e : Env} {s : State} {m : MethodId} {args : Array Value} {below : List Frame} {meth : Method} {c : Code} {H : Heap} {locs : List Loc} {cells slots : Nat} {G : GP} {A : Nat → Prop} {S0 : MS} {ls : Array Slot} (C : CF p l s m args meth c "SkirmishGrid" cX8_restore 1 G A) (hr : meth.sig.returnType = (some .int)) (hex : ∀ x ∈ c.exceptionTable.toList, False) (Q : Int32 → MS → Prop) (QX : String → MS → Prop) (S : MS) (a0 : Nat) (p_a0 : pI S 8 a0) (P : PW G A s H locs S0 S) (hl : lv_has ls 1 [(0, .ref a0)]) (hcc : cells + 1 ≤ 1) (hss : slots + 6 ≤ 6) (hw : wX8_restore_0 Q QX S a0) : W p l e rmX8_restore s m args below meth c H locs cells slots (vx_MQ below (QI G S0 A Q) (XX G S0 A QX) args s 1 6 A) (F0 m 0 ls []) := by
  have hx := CF_x C
  have hb := CF_b C
  unfold wX8_restore_0 at hw
  refine lv_aload_n hx hb dX8_restore_0 rfl (lv_at hl 0 rfl) ?_
  refine gf_8_8 C P p_a0 q_307 dX8_restore_1 ?_
  refine lv_if_ne (tgt := 18) hx hb dX8_restore_4 (by decide) (fun hc => ?_) (fun hc => ?_)
  · have hw := hw.1 hc
    refine lv_aload_n hx hb dX8_restore_18 rfl (lv_at hl 0 rfl) ?_
    obtain ⟨a1, e1, hw⟩ := hw
    have p_a1 : pI S 2 a1 := wf_r P.2.2.2.1 p_a0 e1
    refine gf_8_3 C P p_a0 e1 q_302 dX8_restore_19 ?_
    refine lv_aload_n hx hb dX8_restore_22 rfl (lv_at hl 0 rfl) ?_
    obtain ⟨a2, e1, hw⟩ := hw
    have p_a2 : pI S 2 a2 := wf_r P.2.2.2.1 p_a0 e1
    refine gf_8_6 C P p_a0 e1 q_305 dX8_restore_23 ?_
    refine cl_v C P (run_V C P hl.1 (kd := 2) (met_X2_copyFrom (CF_n C) G H.size _ _ S a1 a2 p_a1 p_a2 hw) p_a1 (by decide) rfl q_375 q_376 q_377 q_2 q_378 cd_X2_copyFrom ⟨(Nat.le_of_ble_eq_true rfl), (Nat.le_of_ble_eq_true rfl)⟩ rfl rfl (As := [.ref a2]) (rest := []) rfl rfl (Nat.le_of_ble_eq_true rfl) dX8_restore_26 ⟨by show cells + 0 ≤ 1; omega, by show slots + 0 ≤ 6; omega⟩) (kx_out C hex (fun _ _ _ h => h) (by omega) (by omega)) (fun S3 H locs P hE hw => ?_)
    have p_a0 : pI S3 8 a0 := pI_x hE p_a0
    have p_a1 : pI S3 2 a1 := pI_x hE p_a1
    have p_a2 : pI S3 2 a2 := pI_x hE p_a2
    refine lv_aload_n hx hb dX8_restore_29 rfl (lv_at hl 0 rfl) ?_
    obtain ⟨a4, e1, hw⟩ := hw
    have p_a4 : pI S3 0 a4 := wf_r P.2.2.2.1 p_a0 e1
    refine gf_8_4 C P p_a0 e1 q_303 dX8_restore_30 ?_
    refine lv_aload_n hx hb dX8_restore_33 rfl (lv_at hl 0 rfl) ?_
    obtain ⟨a5, e1, hw⟩ := hw
    have p_a5 : pI S3 0 a5 := wf_r P.2.2.2.1 p_a0 e1
    refine gf_8_7 C P p_a0 e1 q_306 dX8_restore_34 ?_
    refine cl_v C P (run_V C P hl.1 (kd := 0) (met_X0_copyFrom (CF_n C) G H.size _ _ S3 a4 a5 p_a4 p_a5 hw) p_a4 (by decide) rfl q_396 q_397 q_398 q_6 q_399 cd_X0_copyFrom ⟨(Nat.le_of_ble_eq_true rfl), (Nat.le_of_ble_eq_true rfl)⟩ rfl rfl (As := [.ref a5]) (rest := []) rfl rfl (Nat.le_of_ble_eq_true rfl) dX8_restore_37 ⟨by show cells + 0 ≤ 1; omega, by show slots + 0 ≤ 6; omega⟩) (kx_out C hex (fun _ _ _ h => h) (by omega) (by omega)) (fun S6 H locs P hE hw => ?_)
    have p_a0 : pI S6 8 a0 := pI_x hE p_a0
    have p_a4 : pI S6 0 a4 := pI_x hE p_a4
    have p_a5 : pI S6 0 a5 := pI_x hE p_a5
    refine lv_aload_n hx hb dX8_restore_40 rfl (lv_at hl 0 rfl) ?_
    obtain ⟨a7, e1, hw⟩ := hw
    have p_a7 : pI S6 4 a7 := wf_r P.2.2.2.1 p_a0 e1
    refine gf_8_5 C P p_a0 e1 q_304 dX8_restore_41 ?_
    refine cl_v C P (run_V C P hl.1 (kd := 4) (met_X4_clear (CF_n C) G H.size _ _ S6 a7 p_a7 hw) p_a7 (by decide) rfl q_629 q_630 q_631 q_7 q_632 cd_X4_clear ⟨(Nat.le_of_ble_eq_true rfl), (Nat.le_of_ble_eq_true rfl)⟩ rfl rfl (As := []) (rest := []) rfl rfl (Nat.le_of_ble_eq_true rfl) dX8_restore_44 ⟨by show cells + 0 ≤ 1; omega, by show slots + 0 ≤ 6; omega⟩) (kx_out C hex (fun _ _ _ h => h) (by omega) (by omega)) (fun S8 H locs P hE hw => ?_)
    have p_a0 : pI S8 8 a0 := pI_x hE p_a0
    have p_a7 : pI S8 4 a7 := pI_x hE p_a7
    refine lv_aload_n hx hb dX8_restore_47 rfl (lv_at hl 0 rfl) ?_
    obtain ⟨a9, e1, hw⟩ := hw
    have p_a9 : pI S8 2 a9 := wf_r P.2.2.2.1 p_a0 e1
    refine gf_8_3 C P p_a0 e1 q_302 dX8_restore_48 ?_
    refine gf_2_2 C P p_a9 q_171 dX8_restore_51 ?_
    exact e_i C hr rfl P hw (by omega) (by omega) dX8_restore_54
  · have hw := hw.2 hc
    exact th_W C hex P hl.1 (E := "java/lang/IllegalStateException") (text := "there is no snapshot") (by decide +kernel) (by decide +kernel) (by decide +kernel) q_482 q_15 xw_ISE xb_ISE xg_ISE dX8_restore_7 dX8_restore_10 dX8_restore_11 dX8_restore_14 dX8_restore_17 (Nat.le_of_ble_eq_true rfl) (Nat.le_of_ble_eq_true rfl) (by show cells + 1 ≤ 1; omega) (by show slots + 6 ≤ 6; omega) hw (by omega) (by omega)
def wp_X8_restore (Q : Int32 → MS → Prop) (QX : String → MS → Prop) (S : MS) (a0 : Nat) : Prop := wX8_restore_0 Q QX S a0
set_option maxHeartbeats 4000000 in
set_option maxRecDepth 100000 in
theorem met_X8_restore {l : Launch} (hst : l.stackTraces = false) (G : GP) (sz : Nat) (Q : Int32 → MS → Prop) (QX : String → MS → Prop) (S : MS) (a0 : Nat) (p_a0 : pI S 8 a0) (hw : wp_X8_restore Q QX S a0) : vx_Met l yX8_restore (.code yX8_restore cX8_restore 1 (some .int) :: GW) rmX8_restore (va_Pc [.ref a0] (PR G S sz)) (QI G S (FA G S sz) Q) (XX G S (FA G S sz) QX) 1 6 (FA G S sz) := by
  refine st_m (by decide +kernel) hst (fun p e s m below meth c C hr hnm hex P => ?_)
  refine en_m (Nat.le_of_ble_eq_true rfl) (lv := [(0, .ref a0)]) rfl (fun ls hl => ?_)
  have C : CF p l s m _ meth c "SkirmishGrid" cX8_restore 1 G (FA G S sz) := C
  exact tX8_restore_0 C hr hex Q QX S a0 p_a0 P hl (by omega) (by omega) hw
theorem cd_X8_restore : yX8_restore.cls = RX8 ∧ yX8_restore.cls ≠ "java/lang/invoke/MethodHandle" ∧ yX8_restore.cls ≠ "java/lang/invoke/VarHandle" ∧ (parseMethodDescriptor yX8_restore.desc).map (fun d => d.parameters.length) = some 0 := by decide +kernel
