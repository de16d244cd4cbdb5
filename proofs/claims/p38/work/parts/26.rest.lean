theorem q_236 : Cond.methodLink "SkirmishGrid$History" 3 objectInit ∈ GW := gw_t 236 (by decide +kernel) (by decide +kernel)
theorem q_237 : Cond.classLink "SkirmishGrid$History" 9 "SkirmishGrid$Fight" ∈ GW := gw_t 237 (by decide +kernel) (by decide +kernel)
theorem q_240 : Cond.fieldLink "SkirmishGrid$History" 11 "SkirmishGrid$History" "before" "[LSkirmishGrid$Fight;" ∈ GW := gw_t 240 (by decide +kernel) (by decide +kernel)
theorem q_39 : Cond.instantiable "SkirmishGrid$Fight" 12 ∈ GW := gw_t 39 (by decide +kernel) (by decide +kernel)
theorem q_239 : Cond.methodLink "SkirmishGrid$History" 17 yX2_init ∈ GW := gw_t 239 (by decide +kernel) (by decide +kernel)
theorem q_41 : Cond.instanceMethod yX2_init ∈ GW := gw_t 41 (by decide +kernel) (by decide +kernel)
theorem q_42 : Cond.code yX2_init cX2_init 2 none ∈ GW := gw_t 42 (by decide +kernel) (by decide +kernel)
theorem q_242 : Cond.fieldLink "SkirmishGrid$History" 18 "SkirmishGrid$History" "count" "I" ∈ GW := gw_t 242 (by decide +kernel) (by decide +kernel)
theorem q_241 : Cond.fieldLink "SkirmishGrid$History" 22 "SkirmishGrid$History" "newest" "I" ∈ GW := gw_t 241 (by decide +kernel) (by decide +kernel)
theorem q_1046 : Cond.methodLink "SkirmishGrid$History" 25 yX2_copyFrom ∈ GW := gw_t 1046 (by decide +kernel) (by decide +kernel)
theorem q_376 : Cond.instanceMethod yX2_copyFrom ∈ GW := gw_t 376 (by decide +kernel) (by decide +kernel)
theorem q_377 : Cond.selects "SkirmishGrid$Fight" yX2_copyFrom yX2_copyFrom ∈ GW := gw_t 377 (by decide +kernel) (by decide +kernel)
theorem q_378 : Cond.code yX2_copyFrom cX2_copyFrom 3 none ∈ GW := gw_t 378 (by decide +kernel) (by decide +kernel)
theorem q_1047 : Cond.methodLink "SkirmishGrid$History" 29 Lib.Math.min.name ∈ GW := gw_t 1047 (by decide +kernel) (by decide +kernel)
theorem q_276 : Cond.methodLink "SkirmishGrid$Row" 3 objectInit ∈ GW := gw_t 276 (by decide +kernel) (by decide +kernel)
theorem q_277 : Cond.fieldLink "SkirmishGrid$Row" 9 "SkirmishGrid$Row" "whole" "[I" ∈ GW := gw_t 277 (by decide +kernel) (by decide +kernel)
theorem q_298 : Cond.arrayClass .float ∈ GW := gw_t 298 (by decide +kernel) (by decide +kernel)
theorem q_279 : Cond.fieldLink "SkirmishGrid$Row" 15 "SkirmishGrid$Row" "parts" "[F" ∈ GW := gw_t 279 (by decide +kernel) (by decide +kernel)
theorem q_285 : Cond.fieldLink "SkirmishGrid$Row" 32 "SkirmishGrid$Row" "length" "I" ∈ GW := gw_t 285 (by decide +kernel) (by decide +kernel)
theorem q_165 : Cond.fieldLink "SkirmishGrid$Row" 35 "SkirmishGrid$Fight" "units" "[LSkirmishGrid$Unit;" ∈ GW := gw_t 165 (by decide +kernel) (by decide +kernel)
theorem q_110 : Cond.fieldLink "SkirmishGrid$Row" 39 "SkirmishGrid$Unit" "health" "I" ∈ GW := gw_t 110 (by decide +kernel) (by decide +kernel)
theorem q_100 : Cond.fieldLink "SkirmishGrid$Row" 47 "SkirmishGrid$Unit" "kind" "I" ∈ GW := gw_t 100 (by decide +kernel) (by decide +kernel)
theorem q_281 : Cond.fieldLink "SkirmishGrid$Row" 19 "SkirmishGrid$Row" "isStored" "Z" ∈ GW := gw_t 281 (by decide +kernel) (by decide +kernel)
theorem q_283 : Cond.fieldLink "SkirmishGrid$Row" 23 "SkirmishGrid$Row" "isExact" "Z" ∈ GW := gw_t 283 (by decide +kernel) (by decide +kernel)
theorem q_169 : Cond.fieldLink "SkirmishGrid$Row" 26 "SkirmishGrid$Fight" "unitCount" "I" ∈ GW := gw_t 169 (by decide +kernel) (by decide +kernel)
theorem dX4_init_0 : decode cX4_init 0 = .ok (.aload_n 0, 1) := by decide +kernel
theorem dX4_init_1 : decode cX4_init 1 = .ok (.invokespecial 3, 3) := by decide +kernel
theorem dX4_init_4 : decode cX4_init 4 = .ok (.aload_n 0, 1) := by decide +kernel
theorem dX4_init_5 : decode cX4_init 5 = .ok (.bipush 8, 2) := by decide +kernel
theorem dX4_init_7 : decode cX4_init 7 = .ok (.anewarray 9, 3) := by decide +kernel
theorem dX4_init_10 : decode cX4_init 10 = .ok (.putfield 11, 3) := by decide +kernel
theorem dX4_init_13 : decode cX4_init 13 = .ok (.iconst 0, 1) := by decide +kernel
theorem dX4_init_14 : decode cX4_init 14 = .ok (.istore_n 1, 1) := by decide +kernel
theorem dX4_init_15 : decode cX4_init 15 = .ok (.iload_n 1, 1) := by decide +kernel
theorem dX4_init_16 : decode cX4_init 16 = .ok (.bipush 8, 2) := by decide +kernel
theorem dX4_init_18 : decode cX4_init 18 = .ok (.if_icmp .ge 22, 3) := by decide +kernel
theorem dX4_init_21 : decode cX4_init 21 = .ok (.aload_n 0, 1) := by decide +kernel
theorem dX4_init_22 : decode cX4_init 22 = .ok (.getfield 11, 3) := by decide +kernel
theorem dX4_init_25 : decode cX4_init 25 = .ok (.iload_n 1, 1) := by decide +kernel
theorem dX4_init_26 : decode cX4_init 26 = .ok (.new 9, 3) := by decide +kernel
theorem dX4_init_29 : decode cX4_init 29 = .ok (.dup, 1) := by decide +kernel
theorem dX4_init_30 : decode cX4_init 30 = .ok (.invokespecial 17, 3) := by decide +kernel
theorem dX4_init_33 : decode cX4_init 33 = .ok (.aastore, 1) := by decide +kernel
theorem dX4_init_34 : decode cX4_init 34 = .ok (.iinc 1 1, 3) := by decide +kernel
theorem dX4_init_37 : decode cX4_init 37 = .ok (.goto (-22), 3) := by decide +kernel
theorem dX4_init_40 : decode cX4_init 40 = .ok (.return_, 1) := by decide +kernel
theorem dX4_clear_0 : decode cX4_clear 0 = .ok (.aload_n 0, 1) := by decide +kernel
theorem dX4_clear_1 : decode cX4_clear 1 = .ok (.iconst 0, 1) := by decide +kernel
theorem dX4_clear_2 : decode cX4_clear 2 = .ok (.putfield 18, 3) := by decide +kernel
theorem dX4_clear_5 : decode cX4_clear 5 = .ok (.return_, 1) := by decide +kernel
theorem dX4_save_0 : decode cX4_save 0 = .ok (.aload_n 0, 1) := by decide +kernel
theorem dX4_save_1 : decode cX4_save 1 = .ok (.aload_n 0, 1) := by decide +kernel
theorem dX4_save_2 : decode cX4_save 2 = .ok (.getfield 22, 3) := by decide +kernel
theorem dX4_save_5 : decode cX4_save 5 = .ok (.iconst 1, 1) := by decide +kernel
theorem dX4_save_6 : decode cX4_save 6 = .ok (.iadd, 1) := by decide +kernel
theorem dX4_save_7 : decode cX4_save 7 = .ok (.bipush 8, 2) := by decide +kernel
theorem dX4_save_9 : decode cX4_save 9 = .ok (.irem, 1) := by decide +kernel
theorem dX4_save_10 : decode cX4_save 10 = .ok (.putfield 22, 3) := by decide +kernel
theorem dX4_save_13 : decode cX4_save 13 = .ok (.aload_n 0, 1) := by decide +kernel
theorem dX4_save_14 : decode cX4_save 14 = .ok (.getfield 11, 3) := by decide +kernel
theorem dX4_save_17 : decode cX4_save 17 = .ok (.aload_n 0, 1) := by decide +kernel
theorem dX4_save_18 : decode cX4_save 18 = .ok (.getfield 22, 3) := by decide +kernel
theorem dX4_save_21 : decode cX4_save 21 = .ok (.aaload, 1) := by decide +kernel
theorem dX4_save_22 : decode cX4_save 22 = .ok (.aload_n 1, 1) := by decide +kernel
theorem dX4_save_23 : decode cX4_save 23 = .ok (.invokevirtual 25, 3) := by decide +kernel
theorem dX4_save_26 : decode cX4_save 26 = .ok (.aload_n 0, 1) := by decide +kernel
theorem dX4_save_27 : decode cX4_save 27 = .ok (.aload_n 0, 1) := by decide +kernel
theorem dX4_save_28 : decode cX4_save 28 = .ok (.getfield 18, 3) := by decide +kernel
theorem dX4_save_31 : decode cX4_save 31 = .ok (.iconst 1, 1) := by decide +kernel
theorem dX4_save_32 : decode cX4_save 32 = .ok (.iadd, 1) := by decide +kernel
theorem dX4_save_33 : decode cX4_save 33 = .ok (.bipush 8, 2) := by decide +kernel
theorem dX4_save_35 : decode cX4_save 35 = .ok (.invokestatic 29, 3) := by decide +kernel
theorem dX4_save_38 : decode cX4_save 38 = .ok (.putfield 18, 3) := by decide +kernel
theorem dX4_save_41 : decode cX4_save 41 = .ok (.return_, 1) := by decide +kernel
theorem dX4_takeBack_0 : decode cX4_takeBack 0 = .ok (.aload_n 1, 1) := by decide +kernel
theorem dX4_takeBack_1 : decode cX4_takeBack 1 = .ok (.aload_n 0, 1) := by decide +kernel
theorem dX4_takeBack_2 : decode cX4_takeBack 2 = .ok (.getfield 11, 3) := by decide +kernel
theorem dX4_takeBack_5 : decode cX4_takeBack 5 = .ok (.aload_n 0, 1) := by decide +kernel
theorem dX4_takeBack_6 : decode cX4_takeBack 6 = .ok (.getfield 22, 3) := by decide +kernel
theorem dX4_takeBack_9 : decode cX4_takeBack 9 = .ok (.aaload, 1) := by decide +kernel
theorem dX4_takeBack_10 : decode cX4_takeBack 10 = .ok (.invokevirtual 25, 3) := by decide +kernel
theorem dX4_takeBack_13 : decode cX4_takeBack 13 = .ok (.aload_n 0, 1) := by decide +kernel
theorem dX4_takeBack_14 : decode cX4_takeBack 14 = .ok (.aload_n 0, 1) := by decide +kernel
theorem dX4_takeBack_15 : decode cX4_takeBack 15 = .ok (.getfield 22, 3) := by decide +kernel
theorem dX4_takeBack_18 : decode cX4_takeBack 18 = .ok (.bipush 8, 2) := by decide +kernel
theorem dX4_takeBack_20 : decode cX4_takeBack 20 = .ok (.iadd, 1) := by decide +kernel
theorem dX4_takeBack_21 : decode cX4_takeBack 21 = .ok (.iconst 1, 1) := by decide +kernel
theorem dX4_takeBack_22 : decode cX4_takeBack 22 = .ok (.isub, 1) := by decide +kernel
theorem dX4_takeBack_23 : decode cX4_takeBack 23 = .ok (.bipush 8, 2) := by decide +kernel
theorem dX4_takeBack_25 : decode cX4_takeBack 25 = .ok (.irem, 1) := by decide +kernel
theorem dX4_takeBack_26 : decode cX4_takeBack 26 = .ok (.putfield 22, 3) := by decide +kernel
theorem dX4_takeBack_29 : decode cX4_takeBack 29 = .ok (.aload_n 0, 1) := by decide +kernel
theorem dX4_takeBack_30 : decode cX4_takeBack 30 = .ok (.dup, 1) := by decide +kernel
theorem dX4_takeBack_31 : decode cX4_takeBack 31 = .ok (.getfield 18, 3) := by decide +kernel
theorem dX4_takeBack_34 : decode cX4_takeBack 34 = .ok (.iconst 1, 1) := by decide +kernel
theorem dX4_takeBack_35 : decode cX4_takeBack 35 = .ok (.isub, 1) := by decide +kernel
theorem dX4_takeBack_36 : decode cX4_takeBack 36 = .ok (.putfield 18, 3) := by decide +kernel
theorem dX4_takeBack_39 : decode cX4_takeBack 39 = .ok (.return_, 1) := by decide +kernel
theorem dX6_init_0 : decode cX6_init 0 = .ok (.aload_n 0, 1) := by decide +kernel
theorem dX6_init_1 : decode cX6_init 1 = .ok (.invokespecial 3, 3) := by decide +kernel
theorem dX6_init_4 : decode cX6_init 4 = .ok (.aload_n 0, 1) := by decide +kernel
theorem dX6_init_5 : decode cX6_init 5 = .ok (.bipush 8, 2) := by decide +kernel
theorem dX6_init_7 : decode cX6_init 7 = .ok (.newarray .int, 2) := by decide +kernel
theorem dX6_init_9 : decode cX6_init 9 = .ok (.putfield 9, 3) := by decide +kernel
theorem dX6_init_12 : decode cX6_init 12 = .ok (.aload_n 0, 1) := by decide +kernel
theorem dX6_init_13 : decode cX6_init 13 = .ok (.bipush 8, 2) := by decide +kernel
theorem dX6_init_15 : decode cX6_init 15 = .ok (.newarray .float, 2) := by decide +kernel
theorem dX6_init_17 : decode cX6_init 17 = .ok (.putfield 15, 3) := by decide +kernel
theorem dX6_init_20 : decode cX6_init 20 = .ok (.return_, 1) := by decide +kernel
theorem dX6_store_0 : decode cX6_store 0 = .ok (.aload_n 0, 1) := by decide +kernel
theorem dX6_store_1 : decode cX6_store 1 = .ok (.iconst 1, 1) := by decide +kernel
theorem dX6_store_2 : decode cX6_store 2 = .ok (.putfield 19, 3) := by decide +kernel
theorem dX6_store_5 : decode cX6_store 5 = .ok (.aload_n 0, 1) := by decide +kernel
theorem dX6_store_6 : decode cX6_store 6 = .ok (.iload_n 2, 1) := by decide +kernel
theorem dX6_store_7 : decode cX6_store 7 = .ok (.putfield 23, 3) := by decide +kernel
theorem dX6_store_10 : decode cX6_store 10 = .ok (.aload_n 0, 1) := by decide +kernel
theorem dX6_store_11 : decode cX6_store 11 = .ok (.aload_n 1, 1) := by decide +kernel
theorem dX6_store_12 : decode cX6_store 12 = .ok (.getfield 26, 3) := by decide +kernel
theorem dX6_store_15 : decode cX6_store 15 = .ok (.putfield 32, 3) := by decide +kernel
theorem dX6_store_18 : decode cX6_store 18 = .ok (.iconst 0, 1) := by decide +kernel
theorem dX6_store_19 : decode cX6_store 19 = .ok (.istore_n 3, 1) := by decide +kernel
theorem dX6_store_20 : decode cX6_store 20 = .ok (.iload_n 3, 1) := by decide +kernel
theorem dX6_store_21 : decode cX6_store 21 = .ok (.aload_n 0, 1) := by decide +kernel
theorem dX6_store_22 : decode cX6_store 22 = .ok (.getfield 32, 3) := by decide +kernel
theorem dX6_store_25 : decode cX6_store 25 = .ok (.if_icmp .ge 51, 3) := by decide +kernel
theorem dX6_store_28 : decode cX6_store 28 = .ok (.aload_n 1, 1) := by decide +kernel
theorem dX6_store_29 : decode cX6_store 29 = .ok (.getfield 35, 3) := by decide +kernel
theorem dX6_store_32 : decode cX6_store 32 = .ok (.iload_n 3, 1) := by decide +kernel
theorem dX6_store_33 : decode cX6_store 33 = .ok (.aaload, 1) := by decide +kernel
theorem dX6_store_34 : decode cX6_store 34 = .ok (.astore 4, 2) := by decide +kernel
theorem dX6_store_36 : decode cX6_store 36 = .ok (.aload_n 0, 1) := by decide +kernel
theorem dX6_store_37 : decode cX6_store 37 = .ok (.getfield 9, 3) := by decide +kernel
theorem dX6_store_40 : decode cX6_store 40 = .ok (.iload_n 3, 1) := by decide +kernel
theorem dX6_store_41 : decode cX6_store 41 = .ok (.aload 4, 2) := by decide +kernel
theorem dX6_store_43 : decode cX6_store 43 = .ok (.getfield 39, 3) := by decide +kernel
theorem dX6_store_46 : decode cX6_store 46 = .ok (.iastore, 1) := by decide +kernel
theorem dX6_store_47 : decode cX6_store 47 = .ok (.aload_n 0, 1) := by decide +kernel
theorem dX6_store_48 : decode cX6_store 48 = .ok (.getfield 15, 3) := by decide +kernel
theorem dX6_store_51 : decode cX6_store 51 = .ok (.iload_n 3, 1) := by decide +kernel
theorem dX6_store_52 : decode cX6_store 52 = .ok (.aload 4, 2) := by decide +kernel
theorem dX6_store_54 : decode cX6_store 54 = .ok (.getfield 39, 3) := by decide +kernel
theorem dX6_store_57 : decode cX6_store 57 = .ok (.i2f, 1) := by decide +kernel
theorem dX6_store_58 : decode cX6_store 58 = .ok (.getstatic 44, 3) := by decide +kernel
theorem dX6_store_61 : decode cX6_store 61 = .ok (.aload 4, 2) := by decide +kernel
theorem dX6_store_63 : decode cX6_store 63 = .ok (.getfield 47, 3) := by decide +kernel
theorem dX6_store_66 : decode cX6_store 66 = .ok (.iaload, 1) := by decide +kernel
theorem dX6_store_67 : decode cX6_store 67 = .ok (.i2f, 1) := by decide +kernel
theorem dX6_store_68 : decode cX6_store 68 = .ok (.fdiv, 1) := by decide +kernel
theorem dX6_store_69 : decode cX6_store 69 = .ok (.fastore, 1) := by decide +kernel
theorem dX6_store_70 : decode cX6_store 70 = .ok (.iinc 3 1, 3) := by decide +kernel
theorem dX6_store_73 : decode cX6_store 73 = .ok (.goto (-53), 3) := by decide +kernel
theorem dX6_store_76 : decode cX6_store 76 = .ok (.return_, 1) := by decide +kernel
theorem dX6_takeFrom_0 : decode cX6_takeFrom 0 = .ok (.iconst 0, 1) := by decide +kernel
theorem dX6_takeFrom_1 : decode cX6_takeFrom 1 = .ok (.istore_n 3, 1) := by decide +kernel
theorem dX6_takeFrom_2 : decode cX6_takeFrom 2 = .ok (.iconst 0, 1) := by decide +kernel
theorem dX6_takeFrom_3 : decode cX6_takeFrom 3 = .ok (.istore 4, 2) := by decide +kernel
theorem dX6_takeFrom_5 : decode cX6_takeFrom 5 = .ok (.iload 4, 2) := by decide +kernel
theorem dX6_takeFrom_7 : decode cX6_takeFrom 7 = .ok (.iload_n 2, 1) := by decide +kernel
theorem dX6_takeFrom_8 : decode cX6_takeFrom 8 = .ok (.if_icmp .ge 84, 3) := by decide +kernel
theorem dX6_takeFrom_11 : decode cX6_takeFrom 11 = .ok (.aload_n 0, 1) := by decide +kernel
theorem dX6_takeFrom_12 : decode cX6_takeFrom 12 = .ok (.getfield 23, 3) := by decide +kernel
theorem dX6_takeFrom_15 : decode cX6_takeFrom 15 = .ok (.ifCond .eq 23, 3) := by decide +kernel
theorem dX6_takeFrom_18 : decode cX6_takeFrom 18 = .ok (.aload_n 0, 1) := by decide +kernel
theorem dX6_takeFrom_19 : decode cX6_takeFrom 19 = .ok (.getfield 9, 3) := by decide +kernel
theorem dX6_takeFrom_22 : decode cX6_takeFrom 22 = .ok (.iload 4, 2) := by decide +kernel
theorem dX6_takeFrom_24 : decode cX6_takeFrom 24 = .ok (.iaload, 1) := by decide +kernel
theorem dX6_takeFrom_25 : decode cX6_takeFrom 25 = .ok (.aload_n 1, 1) := by decide +kernel
theorem dX6_takeFrom_26 : decode cX6_takeFrom 26 = .ok (.getfield 9, 3) := by decide +kernel
theorem dX6_takeFrom_29 : decode cX6_takeFrom 29 = .ok (.iload 4, 2) := by decide +kernel
theorem dX6_takeFrom_31 : decode cX6_takeFrom 31 = .ok (.iaload, 1) := by decide +kernel
theorem dX6_takeFrom_32 : decode cX6_takeFrom 32 = .ok (.if_icmp .eq 26, 3) := by decide +kernel
theorem dX6_takeFrom_35 : decode cX6_takeFrom 35 = .ok (.goto 21, 3) := by decide +kernel
theorem dX6_takeFrom_38 : decode cX6_takeFrom 38 = .ok (.aload_n 0, 1) := by decide +kernel
theorem dX6_takeFrom_39 : decode cX6_takeFrom 39 = .ok (.getfield 15, 3) := by decide +kernel
theorem dX6_takeFrom_42 : decode cX6_takeFrom 42 = .ok (.iload 4, 2) := by decide +kernel
theorem dX6_takeFrom_44 : decode cX6_takeFrom 44 = .ok (.faload, 1) := by decide +kernel
theorem dX6_takeFrom_45 : decode cX6_takeFrom 45 = .ok (.aload_n 1, 1) := by decide +kernel
theorem dX6_takeFrom_46 : decode cX6_takeFrom 46 = .ok (.getfield 15, 3) := by decide +kernel
theorem dX6_takeFrom_49 : decode cX6_takeFrom 49 = .ok (.iload 4, 2) := by decide +kernel
theorem dX6_takeFrom_51 : decode cX6_takeFrom 51 = .ok (.faload, 1) := by decide +kernel
theorem dX6_takeFrom_52 : decode cX6_takeFrom 52 = .ok (.fcmp .l, 1) := by decide +kernel
theorem dX6_takeFrom_53 : decode cX6_takeFrom 53 = .ok (.ifCond .eq 5, 3) := by decide +kernel
theorem dX6_takeFrom_56 : decode cX6_takeFrom 56 = .ok (.iconst 1, 1) := by decide +kernel
theorem dX6_takeFrom_57 : decode cX6_takeFrom 57 = .ok (.istore_n 3, 1) := by decide +kernel
theorem dX6_takeFrom_58 : decode cX6_takeFrom 58 = .ok (.aload_n 0, 1) := by decide +kernel
theorem dX6_takeFrom_59 : decode cX6_takeFrom 59 = .ok (.getfield 9, 3) := by decide +kernel
theorem dX6_takeFrom_62 : decode cX6_takeFrom 62 = .ok (.iload 4, 2) := by decide +kernel
theorem dX6_takeFrom_64 : decode cX6_takeFrom 64 = .ok (.aload_n 1, 1) := by decide +kernel
theorem dX6_takeFrom_65 : decode cX6_takeFrom 65 = .ok (.getfield 9, 3) := by decide +kernel
theorem dX6_takeFrom_68 : decode cX6_takeFrom 68 = .ok (.iload 4, 2) := by decide +kernel
theorem dX6_takeFrom_70 : decode cX6_takeFrom 70 = .ok (.iaload, 1) := by decide +kernel
theorem dX6_takeFrom_71 : decode cX6_takeFrom 71 = .ok (.iastore, 1) := by decide +kernel
theorem dX6_takeFrom_72 : decode cX6_takeFrom 72 = .ok (.aload_n 0, 1) := by decide +kernel
theorem dX6_takeFrom_73 : decode cX6_takeFrom 73 = .ok (.getfield 15, 3) := by decide +kernel
theorem dX6_takeFrom_76 : decode cX6_takeFrom 76 = .ok (.iload 4, 2) := by decide +kernel
theorem dX6_takeFrom_78 : decode cX6_takeFrom 78 = .ok (.aload_n 1, 1) := by decide +kernel
theorem dX6_takeFrom_79 : decode cX6_takeFrom 79 = .ok (.getfield 15, 3) := by decide +kernel
theorem dX6_takeFrom_82 : decode cX6_takeFrom 82 = .ok (.iload 4, 2) := by decide +kernel
theorem dX6_takeFrom_84 : decode cX6_takeFrom 84 = .ok (.faload, 1) := by decide +kernel
theorem dX6_takeFrom_85 : decode cX6_takeFrom 85 = .ok (.fastore, 1) := by decide +kernel
theorem dX6_takeFrom_86 : decode cX6_takeFrom 86 = .ok (.iinc 4 1, 3) := by decide +kernel
theorem dX6_takeFrom_89 : decode cX6_takeFrom 89 = .ok (.goto (-84), 3) := by decide +kernel
theorem dX6_takeFrom_92 : decode cX6_takeFrom 92 = .ok (.iload_n 3, 1) := by decide +kernel
theorem dX6_takeFrom_93 : decode cX6_takeFrom 93 = .ok (.ireturn, 1) := by decide +kernel
abbrev rmX4_init : Room := { frames := 3, cells := 137, slots := 2592, locals := 82 }
def wX4_init_0 (Q : MS → Prop) (QX : String → MS → Prop) (S : MS) (a0 : Nat) : Prop := (∀ a1, a1 ∉ mL S → (∀ S2, S2 = (nw S a1 14 8) → (∀ S3, S3 = (sR S2 a0 0 (some a1)) → (∃ a4, mR S3 a0 0 = some a4 ∧ (∀ a5, a5 ∉ mL S3 → (∀ S6, S6 = (nw S3 a5 2 0) → wp_X2_init (fun S7 => (vp_in 0 (mN S7 a4) ∧ (∀ S8, S8 = (sR S7 a4 (0 : Int32).toNatClampNeg (some a5)) → (∃ a9, mR S8 a0 0 = some a9 ∧ (∀ a10, a10 ∉ mL S8 → (∀ S11, S11 = (nw S8 a10 2 0) → wp_X2_init (fun S12 => (vp_in 1 (mN S12 a9) ∧ (∀ S13, S13 = (sR S12 a9 (1 : Int32).toNatClampNeg (some a10)) → (∃ a14, mR S13 a0 0 = some a14 ∧ (∀ a15, a15 ∉ mL S13 → (∀ S16, S16 = (nw S13 a15 2 0) → wp_X2_init (fun S17 => (vp_in 2 (mN S17 a14) ∧ (∀ S18, S18 = (sR S17 a14 (2 : Int32).toNatClampNeg (some a15)) → (∃ a19, mR S18 a0 0 = some a19 ∧ (∀ a20, a20 ∉ mL S18 → (∀ S21, S21 = (nw S18 a20 2 0) → wp_X2_init (fun S22 => (vp_in 3 (mN S22 a19) ∧ (∀ S23, S23 = (sR S22 a19 (3 : Int32).toNatClampNeg (some a20)) → (∃ a24, mR S23 a0 0 = some a24 ∧ (∀ a25, a25 ∉ mL S23 → (∀ S26, S26 = (nw S23 a25 2 0) → wp_X2_init (fun S27 => (vp_in 4 (mN S27 a24) ∧ (∀ S28, S28 = (sR S27 a24 (4 : Int32).toNatClampNeg (some a25)) → (∃ a29, mR S28 a0 0 = some a29 ∧ (∀ a30, a30 ∉ mL S28 → (∀ S31, S31 = (nw S28 a30 2 0) → wp_X2_init (fun S32 => (vp_in 5 (mN S32 a29) ∧ (∀ S33, S33 = (sR S32 a29 (5 : Int32).toNatClampNeg (some a30)) → (∃ a34, mR S33 a0 0 = some a34 ∧ (∀ a35, a35 ∉ mL S33 → (∀ S36, S36 = (nw S33 a35 2 0) → wp_X2_init (fun S37 => (vp_in 6 (mN S37 a34) ∧ (∀ S38, S38 = (sR S37 a34 (6 : Int32).toNatClampNeg (some a35)) → (∃ a39, mR S38 a0 0 = some a39 ∧ (∀ a40, a40 ∉ mL S38 → (∀ S41, S41 = (nw S38 a40 2 0) → wp_X2_init (fun S42 => (vp_in 7 (mN S42 a39) ∧ (∀ S43, S43 = (sR S42 a39 (7 : Int32).toNatClampNeg (some a40)) → Q S43))) QX S41 a40)))))) QX S36 a35)))))) QX S31 a30)))))) QX S26 a25)))))) QX S21 a20)))))) QX S16 a15)))))) QX S11 a10)))))) QX S6 a5))))))
set_option maxHeartbeats 4000000 in
set_option maxRecDepth 100000 in
theorem tX4_init_0 {p : Program} {l : Launch} {e : Env} {s : State} {m : MethodId} {args : Array Value} {below : List Frame} {meth : Method} {c : Code} {H : Heap} {locs : List Loc} {cells slots : Nat} {G : GP} {A : Nat → Prop} {S0 : MS} {ls : Array Slot} (C : CF p l s m args meth c "SkirmishGrid$History" cX4_init 2 G A) (hr : meth.sig.returnType = none) (hin2 : meth.name = "<init>") (hex : ∀ x ∈ c.exceptionTable.toList, False) (Q : MS → Prop) (QX : String → MS → Prop) (S : MS) (a0 : Nat) (p_a0 : pI S 4 a0) (P : PW G A s H locs S0 S) (hl : lv_has ls 2 [(0, .ref a0)]) (hcc : cells + 137 ≤ 137) (hss : slots + 2592 ≤ 2592) (hw : wX4_init_0 Q QX S a0) : W p l e rmX4_init s m args below meth c H locs cells slots (vx_MQ below (QV G S0 A Q) (XX G S0 A QX) args s 137 2592 A) (F0 m 0 ls []) := by
  have hx := CF_x C
  have hb := CF_b C
  unfold wX4_init_0 at hw
  refine lv_aload_n hx hb dX4_init_0 rfl (lv_at hl 0 rfl) ?_
  refine W.objInit hx hb (CF_o C) (CF_t C _ q_236) (CF_t C _ q_36) (CF_t C _ q_37) rfl (hl.1.trans (CF_m C).symm) rfl dX4_init_1 (Nat.le_of_ble_eq_true rfl) (Nat.le_of_ble_eq_true rfl) ?_
  refine W.eq (g2 := F0 m 4 ls []) rfl ?_
  refine lv_aload_n hx hb dX4_init_4 rfl (lv_at hl 0 rfl) ?_
  refine lv_bipush (v := 8) hx hb dX4_init_5 (by decide) ?_
  refine rn_q C P 4 (N' := 8) (E := "SkirmishGrid$Fight") rfl (ao_4 C) q_237 (fun S q => aE_nw (d := 4)) (by decide) (by decide) (by decide) (by show cells + 1 ≤ 137; omega) (by show slots + 8 ≤ 2592; omega) dX4_init_7 (fun a1 H hq P => ?_)
  have hw := hw a1 hq
  obtain ⟨S2, hS⟩ : ∃ z, z = (nw S a1 14 8) := ⟨_, rfl⟩
  have P : PW G A s H locs S0 S2 := by rw [hS]; exact P
  have p_a0 : pI S2 4 a0 := by rw [hS]; exact pI_x (ext_nw hq) p_a0
  have hw := hw S2 hS
  have p_a1 : pI S2 14 a1 := by rw [hS]; exact pI_nw
  refine pf_4_0 C hin2 P p_a0 p_a1 q_240 dX4_init_10 (fun H locs P => ?_)
  obtain ⟨S3, hS⟩ : ∃ z, z = (sR S2 a0 0 (some a1)) := ⟨_, rfl⟩
  have P : PW G A s H locs S0 S3 := by rw [hS]; exact P
  have p_a0 : pI S3 4 a0 := by rw [hS]; exact pI_x ext_sR p_a0
  have p_a1 : pI S3 14 a1 := by rw [hS]; exact pI_x ext_sR p_a1
  have hw := hw S3 hS
  refine lv_iconst (v := 0) hx hb dX4_init_13 (by decide) ?_
  refine lv_istore_n (lv' := [(1, .int 0), (0, .ref a0)]) hx hb dX4_init_14 rfl hl (by decide) rfl (fun ls hl => ?_)
  refine lv_iload_n hx hb dX4_init_15 rfl (lv_at hl 0 rfl) ?_
  refine lv_bipush (v := 8) hx hb dX4_init_16 (by decide) ?_
  refine lv_icmp_ge (tgt := 40) hx hb dX4_init_18 (by decide) (fun hf => absurd hf (by decide)) (fun _ => ?_)
  refine lv_aload_n hx hb dX4_init_21 rfl (lv_at hl 1 rfl) ?_
  obtain ⟨a4, e1, hw⟩ := hw
  have p_a4 : pI S3 14 a4 := wf_r P.2.2.2.1 p_a0 e1
  refine gf_4_0 C P p_a0 e1 q_240 dX4_init_22 ?_
  refine lv_iload_n hx hb dX4_init_25 rfl (lv_at hl 0 rfl) ?_
  refine no_2 C P q_237 q_39 q_2 (by show cells + 1 + 1 ≤ 137; omega) (by show slots + 8 + 12 ≤ 2592; omega) dX4_init_26 (fun a5 H hq P => ?_)
  have hw := hw a5 hq
  obtain ⟨S6, hS⟩ : ∃ z, z = (nw S3 a5 2 0) := ⟨_, rfl⟩
  have P : PW G A s H locs S0 S6 := by rw [hS]; exact P
  have p_a0 : pI S6 4 a0 := by rw [hS]; exact pI_x (ext_nw hq) p_a0
  have p_a4 : pI S6 14 a4 := by rw [hS]; exact pI_x (ext_nw hq) p_a4
  have hw := hw S6 hS
  have p_a5 : pI S6 2 a5 := by rw [hS]; exact pI_nw
  refine lv_dup hx hb dX4_init_29 rfl ?_
  refine cl_v C P (run_I C P hl.1 (met_X2_init (CF_n C) G H.size _ _ S6 a5 p_a5 hw) q_239 q_41 q_2 q_42 rfl cd_X2_init.2 ⟨(Nat.le_of_ble_eq_true rfl), (Nat.le_of_ble_eq_true rfl)⟩ rfl rfl (As := []) (rest := [.ref a5, .int 0, .ref a4]) rfl rfl (Nat.le_of_ble_eq_true rfl) dX4_init_30 ⟨by show cells + 1 + 1 + 16 ≤ 137; omega, by show slots + 8 + 12 + 311 ≤ 2592; omega⟩) (kx_out C hex (fun _ _ _ h => h) (by omega) (by omega)) (fun S7 H locs P hE hw => ?_)
  have p_a0 : pI S7 4 a0 := pI_x hE p_a0
  have p_a4 : pI S7 14 a4 := pI_x hE p_a4
  have p_a5 : pI S7 2 a5 := pI_x hE p_a5
  obtain ⟨h1, hw⟩ := hw
  refine rs_a C P 4 (kv := 2) p_a4 p_a5 (by decide) rfl rfl rfl (fun _ => rfl) h1 dX4_init_33 (fun H locs P => ?_)
  obtain ⟨S8, hS⟩ : ∃ z, z = (sR S7 a4 (0 : Int32).toNatClampNeg (some a5)) := ⟨_, rfl⟩
  have P : PW G A s H locs S0 S8 := by rw [hS]; exact P
  have p_a0 : pI S8 4 a0 := by rw [hS]; exact pI_x ext_sR p_a0
  have p_a4 : pI S8 14 a4 := by rw [hS]; exact pI_x ext_sR p_a4
  have p_a5 : pI S8 2 a5 := by rw [hS]; exact pI_x ext_sR p_a5
  have hw := hw S8 hS
  refine lv_iinc (v := 1) (lv' := [(1, .int 1), (0, .ref a0)]) hx hb dX4_init_34 hl (k := 0) rfl (by decide) (by decide) rfl (fun ls hl => ?_)
  refine lv_goto (tgt := 15) hx hb dX4_init_37 (by decide) ?_
  refine lv_iload_n hx hb dX4_init_15 rfl (lv_at hl 0 rfl) ?_
  refine lv_bipush (v := 8) hx hb dX4_init_16 (by decide) ?_
  refine lv_icmp_ge (tgt := 40) hx hb dX4_init_18 (by decide) (fun hf => absurd hf (by decide)) (fun _ => ?_)
  refine lv_aload_n hx hb dX4_init_21 rfl (lv_at hl 1 rfl) ?_
  obtain ⟨a9, e1, hw⟩ := hw
  have p_a9 : pI S8 14 a9 := wf_r P.2.2.2.1 p_a0 e1
  refine gf_4_0 C P p_a0 e1 q_240 dX4_init_22 ?_
  refine lv_iload_n hx hb dX4_init_25 rfl (lv_at hl 0 rfl) ?_
  refine no_2 C P q_237 q_39 q_2 (by show cells + 1 + 1 + 16 + 1 ≤ 137; omega) (by show slots + 8 + 12 + 311 + 12 ≤ 2592; omega) dX4_init_26 (fun a10 H hq P => ?_)
  have hw := hw a10 hq
  obtain ⟨S11, hS⟩ : ∃ z, z = (nw S8 a10 2 0) := ⟨_, rfl⟩
  have P : PW G A s H locs S0 S11 := by rw [hS]; exact P
  have p_a0 : pI S11 4 a0 := by rw [hS]; exact pI_x (ext_nw hq) p_a0
  have p_a9 : pI S11 14 a9 := by rw [hS]; exact pI_x (ext_nw hq) p_a9
  have hw := hw S11 hS
  have p_a10 : pI S11 2 a10 := by rw [hS]; exact pI_nw
  refine lv_dup hx hb dX4_init_29 rfl ?_
  refine cl_v C P (run_I C P hl.1 (met_X2_init (CF_n C) G H.size _ _ S11 a10 p_a10 hw) q_239 q_41 q_2 q_42 rfl cd_X2_init.2 ⟨(Nat.le_of_ble_eq_true rfl), (Nat.le_of_ble_eq_true rfl)⟩ rfl rfl (As := []) (rest := [.ref a10, .int 1, .ref a9]) rfl rfl (Nat.le_of_ble_eq_true rfl) dX4_init_30 ⟨by show cells + 1 + 1 + 16 + 1 + 16 ≤ 137; omega, by show slots + 8 + 12 + 311 + 12 + 311 ≤ 2592; omega⟩) (kx_out C hex (fun _ _ _ h => h) (by omega) (by omega)) (fun S12 H locs P hE hw => ?_)
  have p_a0 : pI S12 4 a0 := pI_x hE p_a0
  have p_a9 : pI S12 14 a9 := pI_x hE p_a9
  have p_a10 : pI S12 2 a10 := pI_x hE p_a10
  obtain ⟨h1, hw⟩ := hw
  refine rs_a C P 4 (kv := 2) p_a9 p_a10 (by decide) rfl rfl rfl (fun _ => rfl) h1 dX4_init_33 (fun H locs P => ?_)
  obtain ⟨S13, hS⟩ : ∃ z, z = (sR S12 a9 (1 : Int32).toNatClampNeg (some a10)) := ⟨_, rfl⟩
  have P : PW G A s H locs S0 S13 := by rw [hS]; exact P
  have p_a0 : pI S13 4 a0 := by rw [hS]; exact pI_x ext_sR p_a0
  have p_a9 : pI S13 14 a9 := by rw [hS]; exact pI_x ext_sR p_a9
  have p_a10 : pI S13 2 a10 := by rw [hS]; exact pI_x ext_sR p_a10
  have hw := hw S13 hS
  refine lv_iinc (v := 2) (lv' := [(1, .int 2), (0, .ref a0)]) hx hb dX4_init_34 hl (k := 0) rfl (by decide) (by decide) rfl (fun ls hl => ?_)
  refine lv_goto (tgt := 15) hx hb dX4_init_37 (by decide) ?_
  refine lv_iload_n hx hb dX4_init_15 rfl (lv_at hl 0 rfl) ?_
  refine lv_bipush (v := 8) hx hb dX4_init_16 (by decide) ?_
  refine lv_icmp_ge (tgt := 40) hx hb dX4_init_18 (by decide) (fun hf => absurd hf (by decide)) (fun _ => ?_)
  refine lv_aload_n hx hb dX4_init_21 rfl (lv_at hl 1 rfl) ?_
  obtain ⟨a14, e1, hw⟩ := hw
  have p_a14 : pI S13 14 a14 := wf_r P.2.2.2.1 p_a0 e1
  refine gf_4_0 C P p_a0 e1 q_240 dX4_init_22 ?_
  refine lv_iload_n hx hb dX4_init_25 rfl (lv_at hl 0 rfl) ?_
  refine no_2 C P q_237 q_39 q_2 (by show cells + 1 + 1 + 16 + 1 + 16 + 1 ≤ 137; omega) (by show slots + 8 + 12 + 311 + 12 + 311 + 12 ≤ 2592; omega) dX4_init_26 (fun a15 H hq P => ?_)
  have hw := hw a15 hq
  obtain ⟨S16, hS⟩ : ∃ z, z = (nw S13 a15 2 0) := ⟨_, rfl⟩
  have P : PW G A s H locs S0 S16 := by rw [hS]; exact P
  have p_a0 : pI S16 4 a0 := by rw [hS]; exact pI_x (ext_nw hq) p_a0
  have p_a14 : pI S16 14 a14 := by rw [hS]; exact pI_x (ext_nw hq) p_a14
  have hw := hw S16 hS
  have p_a15 : pI S16 2 a15 := by rw [hS]; exact pI_nw
  refine lv_dup hx hb dX4_init_29 rfl ?_
  refine cl_v C P (run_I C P hl.1 (met_X2_init (CF_n C) G H.size _ _ S16 a15 p_a15 hw) q_239 q_41 q_2 q_42 rfl cd_X2_init.2 ⟨(Nat.le_of_ble_eq_true rfl), (Nat.le_of_ble_eq_true rfl)⟩ rfl rfl (As := []) (rest := [.ref a15, .int 2, .ref a14]) rfl rfl (Nat.le_of_ble_eq_true rfl) dX4_init_30 ⟨by show cells + 1 + 1 + 16 + 1 + 16 + 1 + 16 ≤ 137; omega, by show slots + 8 + 12 + 311 + 12 + 311 + 12 + 311 ≤ 2592; omega⟩) (kx_out C hex (fun _ _ _ h => h) (by omega) (by omega)) (fun S17 H locs P hE hw => ?_)
  have p_a0 : pI S17 4 a0 := pI_x hE p_a0
  have p_a14 : pI S17 14 a14 := pI_x hE p_a14
  have p_a15 : pI S17 2 a15 := pI_x hE p_a15
  obtain ⟨h1, hw⟩ := hw
  refine rs_a C P 4 (kv := 2) p_a14 p_a15 (by decide) rfl rfl rfl (fun _ => rfl) h1 dX4_init_33 (fun H locs P => ?_)
  obtain ⟨S18, hS⟩ : ∃ z, z = (sR S17 a14 (2 : Int32).toNatClampNeg (some a15)) := ⟨_, rfl⟩
  have P : PW G A s H locs S0 S18 := by rw [hS]; exact P
  have p_a0 : pI S18 4 a0 := by rw [hS]; exact pI_x ext_sR p_a0
  have p_a14 : pI S18 14 a14 := by rw [hS]; exact pI_x ext_sR p_a14
  have p_a15 : pI S18 2 a15 := by rw [hS]; exact pI_x ext_sR p_a15
  have hw := hw S18 hS
  refine lv_iinc (v := 3) (lv' := [(1, .int 3), (0, .ref a0)]) hx hb dX4_init_34 hl (k := 0) rfl (by decide) (by decide) rfl (fun ls hl => ?_)
  refine lv_goto (tgt := 15) hx hb dX4_init_37 (by decide) ?_
  refine lv_iload_n hx hb dX4_init_15 rfl (lv_at hl 0 rfl) ?_
  refine lv_bipush (v := 8) hx hb dX4_init_16 (by decide) ?_
  refine lv_icmp_ge (tgt := 40) hx hb dX4_init_18 (by decide) (fun hf => absurd hf (by decide)) (fun _ => ?_)
  refine lv_aload_n hx hb dX4_init_21 rfl (lv_at hl 1 rfl) ?_
  obtain ⟨a19, e1, hw⟩ := hw
  have p_a19 : pI S18 14 a19 := wf_r P.2.2.2.1 p_a0 e1
  refine gf_4_0 C P p_a0 e1 q_240 dX4_init_22 ?_
  refine lv_iload_n hx hb dX4_init_25 rfl (lv_at hl 0 rfl) ?_
  refine no_2 C P q_237 q_39 q_2 (by show cells + 1 + 1 + 16 + 1 + 16 + 1 + 16 + 1 ≤ 137; omega) (by show slots + 8 + 12 + 311 + 12 + 311 + 12 + 311 + 12 ≤ 2592; omega) dX4_init_26 (fun a20 H hq P => ?_)
  have hw := hw a20 hq
  obtain ⟨S21, hS⟩ : ∃ z, z = (nw S18 a20 2 0) := ⟨_, rfl⟩
  have P : PW G A s H locs S0 S21 := by rw [hS]; exact P
  have p_a0 : pI S21 4 a0 := by rw [hS]; exact pI_x (ext_nw hq) p_a0
  have p_a19 : pI S21 14 a19 := by rw [hS]; exact pI_x (ext_nw hq) p_a19
  have hw := hw S21 hS
  have p_a20 : pI S21 2 a20 := by rw [hS]; exact pI_nw
  refine lv_dup hx hb dX4_init_29 rfl ?_
  refine cl_v C P (run_I C P hl.1 (met_X2_init (CF_n C) G H.size _ _ S21 a20 p_a20 hw) q_239 q_41 q_2 q_42 rfl cd_X2_init.2 ⟨(Nat.le_of_ble_eq_true rfl), (Nat.le_of_ble_eq_true rfl)⟩ rfl rfl (As := []) (rest := [.ref a20, .int 3, .ref a19]) rfl rfl (Nat.le_of_ble_eq_true rfl) dX4_init_30 ⟨by show cells + 1 + 1 + 16 + 1 + 16 + 1 + 16 + 1 + 16 ≤ 137; omega, by show slots + 8 + 12 + 311 + 12 + 311 + 12 + 311 + 12 + 311 ≤ 2592; omega⟩) (kx_out C hex (fun _ _ _ h => h) (by omega) (by omega)) (fun S22 H locs P hE hw => ?_)
  have p_a0 : pI S22 4 a0 := pI_x hE p_a0
  have p_a19 : pI S22 14 a19 := pI_x hE p_a19
  have p_a20 : pI S22 2 a20 := pI_x hE p_a20
  obtain ⟨h1, hw⟩ := hw
  refine rs_a C P 4 (kv := 2) p_a19 p_a20 (by decide) rfl rfl rfl (fun _ => rfl) h1 dX4_init_33 (fun H locs P => ?_)
  obtain ⟨S23, hS⟩ : ∃ z, z = (sR S22 a19 (3 : Int32).toNatClampNeg (some a20)) := ⟨_, rfl⟩
  have P : PW G A s H locs S0 S23 := by rw [hS]; exact P
  have p_a0 : pI S23 4 a0 := by rw [hS]; exact pI_x ext_sR p_a0
  have p_a19 : pI S23 14 a19 := by rw [hS]; exact pI_x ext_sR p_a19
  have p_a20 : pI S23 2 a20 := by rw [hS]; exact pI_x ext_sR p_a20
  have hw := hw S23 hS
  refine lv_iinc (v := 4) (lv' := [(1, .int 4), (0, .ref a0)]) hx hb dX4_init_34 hl (k := 0) rfl (by decide) (by decide) rfl (fun ls hl => ?_)
  refine lv_goto (tgt := 15) hx hb dX4_init_37 (by decide) ?_
  refine lv_iload_n hx hb dX4_init_15 rfl (lv_at hl 0 rfl) ?_
  refine lv_bipush (v := 8) hx hb dX4_init_16 (by decide) ?_
  refine lv_icmp_ge (tgt := 40) hx hb dX4_init_18 (by decide) (fun hf => absurd hf (by decide)) (fun _ => ?_)
  refine lv_aload_n hx hb dX4_init_21 rfl (lv_at hl 1 rfl) ?_
  obtain ⟨a24, e1, hw⟩ := hw
  have p_a24 : pI S23 14 a24 := wf_r P.2.2.2.1 p_a0 e1
  refine gf_4_0 C P p_a0 e1 q_240 dX4_init_22 ?_
  refine lv_iload_n hx hb dX4_init_25 rfl (lv_at hl 0 rfl) ?_
  refine no_2 C P q_237 q_39 q_2 (by show cells + 1 + 1 + 16 + 1 + 16 + 1 + 16 + 1 + 16 + 1 ≤ 137; omega) (by show slots + 8 + 12 + 311 + 12 + 311 + 12 + 311 + 12 + 311 + 12 ≤ 2592; omega) dX4_init_26 (fun a25 H hq P => ?_)
  have hw := hw a25 hq
  obtain ⟨S26, hS⟩ : ∃ z, z = (nw S23 a25 2 0) := ⟨_, rfl⟩
  have P : PW G A s H locs S0 S26 := by rw [hS]; exact P
  have p_a0 : pI S26 4 a0 := by rw [hS]; exact pI_x (ext_nw hq) p_a0
  have p_a24 : pI S26 14 a24 := by rw [hS]; exact pI_x (ext_nw hq) p_a24
  have hw := hw S26 hS
  have p_a25 : pI S26 2 a25 := by rw [hS]; exact pI_nw
  refine lv_dup hx hb dX4_init_29 rfl ?_
  refine cl_v C P (run_I C P hl.1 (met_X2_init (CF_n C) G H.size _ _ S26 a25 p_a25 hw) q_239 q_41 q_2 q_42 rfl cd_X2_init.2 ⟨(Nat.le_of_ble_eq_true rfl), (Nat.le_of_ble_eq_true rfl)⟩ rfl rfl (As := []) (rest := [.ref a25, .int 4, .ref a24]) rfl rfl (Nat.le_of_ble_eq_true rfl) dX4_init_30 ⟨by show cells + 1 + 1 + 16 + 1 + 16 + 1 + 16 + 1 + 16 + 1 + 16 ≤ 137; omega, by show slots + 8 + 12 + 311 + 12 + 311 + 12 + 311 + 12 + 311 + 12 + 311 ≤ 2592; omega⟩) (kx_out C hex (fun _ _ _ h => h) (by omega) (by omega)) (fun S27 H locs P hE hw => ?_)
  have p_a0 : pI S27 4 a0 := pI_x hE p_a0
  have p_a24 : pI S27 14 a24 := pI_x hE p_a24
  have p_a25 : pI S27 2 a25 := pI_x hE p_a25
  obtain ⟨h1, hw⟩ := hw
  refine rs_a C P 4 (kv := 2) p_a24 p_a25 (by decide) rfl rfl rfl (fun _ => rfl) h1 dX4_init_33 (fun H locs P => ?_)
  obtain ⟨S28, hS⟩ : ∃ z, z = (sR S27 a24 (4 : Int32).toNatClampNeg (some a25)) := ⟨_, rfl⟩
  have P : PW G A s H locs S0 S28 := by rw [hS]; exact P
  have p_a0 : pI S28 4 a0 := by rw [hS]; exact pI_x ext_sR p_a0
  have p_a24 : pI S28 14 a24 := by rw [hS]; exact pI_x ext_sR p_a24
  have p_a25 : pI S28 2 a25 := by rw [hS]; exact pI_x ext_sR p_a25
  have hw := hw S28 hS
  refine lv_iinc (v := 5) (lv' := [(1, .int 5), (0, .ref a0)]) hx hb dX4_init_34 hl (k := 0) rfl (by decide) (by decide) rfl (fun ls hl => ?_)
  refine lv_goto (tgt := 15) hx hb dX4_init_37 (by decide) ?_
  refine lv_iload_n hx hb dX4_init_15 rfl (lv_at hl 0 rfl) ?_
  refine lv_bipush (v := 8) hx hb dX4_init_16 (by decide) ?_
  refine lv_icmp_ge (tgt := 40) hx hb dX4_init_18 (by decide) (fun hf => absurd hf (by decide)) (fun _ => ?_)
  refine lv_aload_n hx hb dX4_init_21 rfl (lv_at hl 1 rfl) ?_
  obtain ⟨a29, e1, hw⟩ := hw
  have p_a29 : pI S28 14 a29 := wf_r P.2.2.2.1 p_a0 e1
  refine gf_4_0 C P p_a0 e1 q_240 dX4_init_22 ?_
  refine lv_iload_n hx hb dX4_init_25 rfl (lv_at hl 0 rfl) ?_
  refine no_2 C P q_237 q_39 q_2 (by show cells + 1 + 1 + 16 + 1 + 16 + 1 + 16 + 1 + 16 + 1 + 16 + 1 ≤ 137; omega) (by show slots + 8 + 12 + 311 + 12 + 311 + 12 + 311 + 12 + 311 + 12 + 311 + 12 ≤ 2592; omega) dX4_init_26 (fun a30 H hq P => ?_)
  have hw := hw a30 hq
  obtain ⟨S31, hS⟩ : ∃ z, z = (nw S28 a30 2 0) := ⟨_, rfl⟩
  have P : PW G A s H locs S0 S31 := by rw [hS]; exact P
  have p_a0 : pI S31 4 a0 := by rw [hS]; exact pI_x (ext_nw hq) p_a0
  have p_a29 : pI S31 14 a29 := by rw [hS]; exact pI_x (ext_nw hq) p_a29
  have hw := hw S31 hS
  have p_a30 : pI S31 2 a30 := by rw [hS]; exact pI_nw
  refine lv_dup hx hb dX4_init_29 rfl ?_
  refine cl_v C P (run_I C P hl.1 (met_X2_init (CF_n C) G H.size _ _ S31 a30 p_a30 hw) q_239 q_41 q_2 q_42 rfl cd_X2_init.2 ⟨(Nat.le_of_ble_eq_true rfl), (Nat.le_of_ble_eq_true rfl)⟩ rfl rfl (As := []) (rest := [.ref a30, .int 5, .ref a29]) rfl rfl (Nat.le_of_ble_eq_true rfl) dX4_init_30 ⟨by show cells + 1 + 1 + 16 + 1 + 16 + 1 + 16 + 1 + 16 + 1 + 16 + 1 + 16 ≤ 137; omega, by show slots + 8 + 12 + 311 + 12 + 311 + 12 + 311 + 12 + 311 + 12 + 311 + 12 + 311 ≤ 2592; omega⟩) (kx_out C hex (fun _ _ _ h => h) (by omega) (by omega)) (fun S32 H locs P hE hw => ?_)
  have p_a0 : pI S32 4 a0 := pI_x hE p_a0
  have p_a29 : pI S32 14 a29 := pI_x hE p_a29
  have p_a30 : pI S32 2 a30 := pI_x hE p_a30
  obtain ⟨h1, hw⟩ := hw
  refine rs_a C P 4 (kv := 2) p_a29 p_a30 (by decide) rfl rfl rfl (fun _ => rfl) h1 dX4_init_33 (fun H locs P => ?_)
  obtain ⟨S33, hS⟩ : ∃ z, z = (sR S32 a29 (5 : Int32).toNatClampNeg (some a30)) := ⟨_, rfl⟩
  have P : PW G A s H locs S0 S33 := by rw [hS]; exact P
  have p_a0 : pI S33 4 a0 := by rw [hS]; exact pI_x ext_sR p_a0
  have p_a29 : pI S33 14 a29 := by rw [hS]; exact pI_x ext_sR p_a29
  have p_a30 : pI S33 2 a30 := by rw [hS]; exact pI_x ext_sR p_a30
  have hw := hw S33 hS
  refine lv_iinc (v := 6) (lv' := [(1, .int 6), (0, .ref a0)]) hx hb dX4_init_34 hl (k := 0) rfl (by decide) (by decide) rfl (fun ls hl => ?_)
  refine lv_goto (tgt := 15) hx hb dX4_init_37 (by decide) ?_
  refine lv_iload_n hx hb dX4_init_15 rfl (lv_at hl 0 rfl) ?_
  refine lv_bipush (v := 8) hx hb dX4_init_16 (by decide) ?_
  refine lv_icmp_ge (tgt := 40) hx hb dX4_init_18 (by decide) (fun hf => absurd hf (by decide)) (fun _ => ?_)
  refine lv_aload_n hx hb dX4_init_21 rfl (lv_at hl 1 rfl) ?_
  obtain ⟨a34, e1, hw⟩ := hw
  have p_a34 : pI S33 14 a34 := wf_r P.2.2.2.1 p_a0 e1
  refine gf_4_0 C P p_a0 e1 q_240 dX4_init_22 ?_
  refine lv_iload_n hx hb dX4_init_25 rfl (lv_at hl 0 rfl) ?_
  refine no_2 C P q_237 q_39 q_2 (by show cells + 1 + 1 + 16 + 1 + 16 + 1 + 16 + 1 + 16 + 1 + 16 + 1 + 16 + 1 ≤ 137; omega) (by show slots + 8 + 12 + 311 + 12 + 311 + 12 + 311 + 12 + 311 + 12 + 311 + 12 + 311 + 12 ≤ 2592; omega) dX4_init_26 (fun a35 H hq P => ?_)
  have hw := hw a35 hq
  obtain ⟨S36, hS⟩ : ∃ z, z = (nw S33 a35 2 0) := ⟨_, rfl⟩
  have P : PW G A s H locs S0 S36 := by rw [hS]; exact P
  have p_a0 : pI S36 4 a0 := by rw [hS]; exact pI_x (ext_nw hq) p_a0
  have p_a34 : pI S36 14 a34 := by rw [hS]; exact pI_x (ext_nw hq) p_a34
  have hw := hw S36 hS
  have p_a35 : pI S36 2 a35 := by rw [hS]; exact pI_nw
  refine lv_dup hx hb dX4_init_29 rfl ?_
  refine cl_v C P (run_I C P hl.1 (met_X2_init (CF_n C) G H.size _ _ S36 a35 p_a35 hw) q_239 q_41 q_2 q_42 rfl cd_X2_init.2 ⟨(Nat.le_of_ble_eq_true rfl), (Nat.le_of_ble_eq_true rfl)⟩ rfl rfl (As := []) (rest := [.ref a35, .int 6, .ref a34]) rfl rfl (Nat.le_of_ble_eq_true rfl) dX4_init_30 ⟨by show cells + 1 + 1 + 16 + 1 + 16 + 1 + 16 + 1 + 16 + 1 + 16 + 1 + 16 + 1 + 16 ≤ 137; omega, by show slots + 8 + 12 + 311 + 12 + 311 + 12 + 311 + 12 + 311 + 12 + 311 + 12 + 311 + 12 + 311 ≤ 2592; omega⟩) (kx_out C hex (fun _ _ _ h => h) (by omega) (by omega)) (fun S37 H locs P hE hw => ?_)
  have p_a0 : pI S37 4 a0 := pI_x hE p_a0
  have p_a34 : pI S37 14 a34 := pI_x hE p_a34
  have p_a35 : pI S37 2 a35 := pI_x hE p_a35
  obtain ⟨h1, hw⟩ := hw
  refine rs_a C P 4 (kv := 2) p_a34 p_a35 (by decide) rfl rfl rfl (fun _ => rfl) h1 dX4_init_33 (fun H locs P => ?_)
  obtain ⟨S38, hS⟩ : ∃ z, z = (sR S37 a34 (6 : Int32).toNatClampNeg (some a35)) := ⟨_, rfl⟩
  have P : PW G A s H locs S0 S38 := by rw [hS]; exact P
  have p_a0 : pI S38 4 a0 := by rw [hS]; exact pI_x ext_sR p_a0
  have p_a34 : pI S38 14 a34 := by rw [hS]; exact pI_x ext_sR p_a34
  have p_a35 : pI S38 2 a35 := by rw [hS]; exact pI_x ext_sR p_a35
  have hw := hw S38 hS
  refine lv_iinc (v := 7) (lv' := [(1, .int 7), (0, .ref a0)]) hx hb dX4_init_34 hl (k := 0) rfl (by decide) (by decide) rfl (fun ls hl => ?_)
  refine lv_goto (tgt := 15) hx hb dX4_init_37 (by decide) ?_
  refine lv_iload_n hx hb dX4_init_15 rfl (lv_at hl 0 rfl) ?_
  refine lv_bipush (v := 8) hx hb dX4_init_16 (by decide) ?_
  refine lv_icmp_ge (tgt := 40) hx hb dX4_init_18 (by decide) (fun hf => absurd hf (by decide)) (fun _ => ?_)
  refine lv_aload_n hx hb dX4_init_21 rfl (lv_at hl 1 rfl) ?_
  obtain ⟨a39, e1, hw⟩ := hw
  have p_a39 : pI S38 14 a39 := wf_r P.2.2.2.1 p_a0 e1
  refine gf_4_0 C P p_a0 e1 q_240 dX4_init_22 ?_
  refine lv_iload_n hx hb dX4_init_25 rfl (lv_at hl 0 rfl) ?_
  refine no_2 C P q_237 q_39 q_2 (by show cells + 1 + 1 + 16 + 1 + 16 + 1 + 16 + 1 + 16 + 1 + 16 + 1 + 16 + 1 + 16 + 1 ≤ 137; omega) (by show slots + 8 + 12 + 311 + 12 + 311 + 12 + 311 + 12 + 311 + 12 + 311 + 12 + 311 + 12 + 311 + 12 ≤ 2592; omega) dX4_init_26 (fun a40 H hq P => ?_)
  have hw := hw a40 hq
  obtain ⟨S41, hS⟩ : ∃ z, z = (nw S38 a40 2 0) := ⟨_, rfl⟩
  have P : PW G A s H locs S0 S41 := by rw [hS]; exact P
  have p_a0 : pI S41 4 a0 := by rw [hS]; exact pI_x (ext_nw hq) p_a0
  have p_a39 : pI S41 14 a39 := by rw [hS]; exact pI_x (ext_nw hq) p_a39
  have hw := hw S41 hS
  have p_a40 : pI S41 2 a40 := by rw [hS]; exact pI_nw
  refine lv_dup hx hb dX4_init_29 rfl ?_
  refine cl_v C P (run_I C P hl.1 (met_X2_init (CF_n C) G H.size _ _ S41 a40 p_a40 hw) q_239 q_41 q_2 q_42 rfl cd_X2_init.2 ⟨(Nat.le_of_ble_eq_true rfl), (Nat.le_of_ble_eq_true rfl)⟩ rfl rfl (As := []) (rest := [.ref a40, .int 7, .ref a39]) rfl rfl (Nat.le_of_ble_eq_true rfl) dX4_init_30 ⟨by show cells + 1 + 1 + 16 + 1 + 16 + 1 + 16 + 1 + 16 + 1 + 16 + 1 + 16 + 1 + 16 + 1 + 16 ≤ 137; omega, by show slots + 8 + 12 + 311 + 12 + 311 + 12 + 311 + 12 + 311 + 12 + 311 + 12 + 311 + 12 + 311 + 12 + 311 ≤ 2592; omega⟩) (kx_out C hex (fun _ _ _ h => h) (by omega) (by omega)) (fun S42 H locs P hE hw => ?_)
  have p_a0 : pI S42 4 a0 := pI_x hE p_a0
  have p_a39 : pI S42 14 a39 := pI_x hE p_a39
  have p_a40 : pI S42 2 a40 := pI_x hE p_a40
  obtain ⟨h1, hw⟩ := hw
  refine rs_a C P 4 (kv := 2) p_a39 p_a40 (by decide) rfl rfl rfl (fun _ => rfl) h1 dX4_init_33 (fun H locs P => ?_)
  obtain ⟨S43, hS⟩ : ∃ z, z = (sR S42 a39 (7 : Int32).toNatClampNeg (some a40)) := ⟨_, rfl⟩
  have P : PW G A s H locs S0 S43 := by rw [hS]; exact P
  have p_a0 : pI S43 4 a0 := by rw [hS]; exact pI_x ext_sR p_a0
  have p_a39 : pI S43 14 a39 := by rw [hS]; exact pI_x ext_sR p_a39
  have p_a40 : pI S43 2 a40 := by rw [hS]; exact pI_x ext_sR p_a40
  have hw := hw S43 hS
  refine lv_iinc (v := 8) (lv' := [(1, .int 8), (0, .ref a0)]) hx hb dX4_init_34 hl (k := 0) rfl (by decide) (by decide) rfl (fun ls hl => ?_)
  refine lv_goto (tgt := 15) hx hb dX4_init_37 (by decide) ?_
  refine lv_iload_n hx hb dX4_init_15 rfl (lv_at hl 0 rfl) ?_
  refine lv_bipush (v := 8) hx hb dX4_init_16 (by decide) ?_
  refine lv_icmp_ge (tgt := 40) hx hb dX4_init_18 (by decide) (fun _ => ?_) (fun hf => absurd hf (by decide))
  exact e_v C hr P hw (by omega) (by omega) dX4_init_40
def wp_X4_init (Q : MS → Prop) (QX : String → MS → Prop) (S : MS) (a0 : Nat) : Prop := wX4_init_0 Q QX S a0
set_option maxHeartbeats 4000000 in
set_option maxRecDepth 100000 in
theorem met_X4_init {l : Launch} (hst : l.stackTraces = false) (G : GP) (sz : Nat) (Q : MS → Prop) (QX : String → MS → Prop) (S : MS) (a0 : Nat) (p_a0 : pI S 4 a0) (hw : wp_X4_init Q QX S a0) : vx_Met l yX4_init (.code yX4_init cX4_init 2 none :: GW) rmX4_init (va_Pc [.ref a0] (PR G S sz)) (QV G S (FA G S sz) Q) (XX G S (FA G S sz) QX) 137 2592 (FA G S sz) := by
  refine st_m (by decide +kernel) hst (fun p e s m below meth c C hr hnm hex P => ?_)
  refine en_m (Nat.le_of_ble_eq_true rfl) (lv := [(0, .ref a0)]) rfl (fun ls hl => ?_)
  have C : CF p l s m _ meth c "SkirmishGrid$History" cX4_init 2 G (FA G S sz) := C
  exact tX4_init_0 C hr hnm hex Q QX S a0 p_a0 P hl (by omega) (by omega) hw
theorem cd_X4_init : yX4_init.cls = RX4 ∧ yX4_init.cls ≠ "java/lang/invoke/MethodHandle" ∧ yX4_init.cls ≠ "java/lang/invoke/VarHandle" ∧ (parseMethodDescriptor yX4_init.desc).map (fun d => d.parameters.length) = some 0 := by decide +kernel
abbrev rmX4_clear : Room := { frames := 0, cells := 0, slots := 0, locals := 0 }
def wX4_clear_0 (Q : MS → Prop) (QX : String → MS → Prop) (S : MS) (a0 : Nat) : Prop := (∀ S1, S1 = (sI S a0 2 0) → Q S1)
set_option maxHeartbeats 4000000 in
set_option maxRecDepth 100000 in
theorem tX4_clear_0 {p : Program} {l : Launch} {e : Env} {s : State} {m : MethodId} {args : Array Value} {below : List Frame} {meth : Method} {c : Code} {H : Heap} {locs : List Loc} {cells slots : Nat} {G : GP} {A : Nat → Prop} {S0 : MS} {ls : Array Slot} (C : CF p l s m args meth c "SkirmishGrid$History" cX4_clear 1 G A) (hr : meth.sig.returnType = none) (hex : ∀ x ∈ c.exceptionTable.toList, False) (Q : MS → Prop) (QX : String → MS → Prop) (S : MS) (a0 : Nat) (p_a0 : pI S 4 a0) (P : PW G A s H locs S0 S) (hl : lv_has ls 1 [(0, .ref a0)]) (hcc : cells + 0 ≤ 0) (hss : slots + 0 ≤ 0) (hw : wX4_clear_0 Q QX S a0) : W p l e rmX4_clear s m args below meth c H locs cells slots (vx_MQ below (QV G S0 A Q) (XX G S0 A QX) args s 0 0 A) (F0 m 0 ls []) := by
  have hx := CF_x C
  have hb := CF_b C
  unfold wX4_clear_0 at hw
  refine lv_aload_n hx hb dX4_clear_0 rfl (lv_at hl 0 rfl) ?_
  refine lv_iconst (v := 0) hx hb dX4_clear_1 (by decide) ?_
  refine pf_4_2 C P p_a0 q_242 dX4_clear_2 (fun H locs P => ?_)
  obtain ⟨S1, hS⟩ : ∃ z, z = (sI S a0 2 0) := ⟨_, rfl⟩
  have P : PW G A s H locs S0 S1 := by rw [hS]; exact P
  have p_a0 : pI S1 4 a0 := by rw [hS]; exact pI_x ext_sI p_a0
  have hw := hw S1 hS
  exact e_v C hr P hw (by omega) (by omega) dX4_clear_5
def wp_X4_clear (Q : MS → Prop) (QX : String → MS → Prop) (S : MS) (a0 : Nat) : Prop := wX4_clear_0 Q QX S a0
set_option maxHeartbeats 4000000 in
set_option maxRecDepth 100000 in
theorem met_X4_clear {l : Launch} (hst : l.stackTraces = false) (G : GP) (sz : Nat) (Q : MS → Prop) (QX : String → MS → Prop) (S : MS) (a0 : Nat) (p_a0 : pI S 4 a0) (hw : wp_X4_clear Q QX S a0) : vx_Met l yX4_clear (.code yX4_clear cX4_clear 1 none :: GW) rmX4_clear (va_Pc [.ref a0] (PR G S sz)) (QV G S (FA G S sz) Q) (XX G S (FA G S sz) QX) 0 0 (FA G S sz) := by
  refine st_m (by decide +kernel) hst (fun p e s m below meth c C hr hnm hex P => ?_)
  refine en_m (Nat.le_of_ble_eq_true rfl) (lv := [(0, .ref a0)]) rfl (fun ls hl => ?_)
  have C : CF p l s m _ meth c "SkirmishGrid$History" cX4_clear 1 G (FA G S sz) := C
  exact tX4_clear_0 C hr hex Q QX S a0 p_a0 P hl (by omega) (by omega) hw
theorem cd_X4_clear : yX4_clear.cls = RX4 ∧ yX4_clear.cls ≠ "java/lang/invoke/MethodHandle" ∧ yX4_clear.cls ≠ "java/lang/invoke/VarHandle" ∧ (parseMethodDescriptor yX4_clear.desc).map (fun d => d.parameters.length) = some 0 := by decide +kernel
abbrev rmX4_save : Room := { frames := 3, cells := 0, slots := 0, locals := 103 }
def wX4_save_0 (Q : MS → Prop) (QX : String → MS → Prop) (S : MS) (a0 : Nat) (b1 : Nat) : Prop := (∀ S1, S1 = (sI S a0 1 (((mI S a0 1) + 1) - ((mI S a0 1) + 1) / 8 * 8)) → (∃ a2, mR S1 a0 0 = some a2 ∧ (vp_in (mI S1 a0 1) (mN S1 a2) ∧ (∃ a3, mR S1 a2 ((mI S1 a0 1) : Int32).toNatClampNeg = some a3 ∧ wp_X2_copyFrom (fun S4 => (∀ S5, S5 = (sI S4 a0 2 (if 8 < ((mI S4 a0 2) + 1) then 8 else ((mI S4 a0 2) + 1))) → Q S5)) QX S1 a3 b1))))
set_option maxHeartbeats 4000000 in
set_option maxRecDepth 100000 in
theorem tX4_save_0 {p : Program} {l : Launch} {e : Env} {s : State} {m : MethodId} {args : Array Value} {below : List Frame} {meth : Method} {c : Code} {H : Heap} {locs : List Loc} {cells slots : Nat} {G : GP} {A : Nat → Prop} {S0 : MS} {ls : Array Slot} (C : CF p l s m args meth c "SkirmishGrid$History" cX4_save 2 G A) (hr : meth.sig.returnType = none) (hex : ∀ x ∈ c.exceptionTable.toList, False) (Q : MS → Prop) (QX : String → MS → Prop) (S : MS) (a0 : Nat) (b1 : Nat) (p_a0 : pI S 4 a0) (p_b1 : pI S 2 b1) (P : PW G A s H locs S0 S) (hl : lv_has ls 2 [(0, .ref a0), (1, .ref b1)]) (hcc : cells + 0 ≤ 0) (hss : slots + 0 ≤ 0) (hw : wX4_save_0 Q QX S a0 b1) : W p l e rmX4_save s m args below meth c H locs cells slots (vx_MQ below (QV G S0 A Q) (XX G S0 A QX) args s 0 0 A) (F0 m 0 ls []) := by
  have hx := CF_x C
  have hb := CF_b C
  unfold wX4_save_0 at hw
  refine lv_aload_n hx hb dX4_save_0 rfl (lv_at hl 0 rfl) ?_
  refine lv_aload_n hx hb dX4_save_1 rfl (lv_at hl 0 rfl) ?_
  refine gf_4_1 C P p_a0 q_241 dX4_save_2 ?_
  refine lv_iconst (v := 1) hx hb dX4_save_5 (by decide) ?_
  refine lv_iadd hx hb dX4_save_6 ?_
  refine lv_bipush (v := 8) hx hb dX4_save_7 (by decide) ?_
  refine lv_irem hx hb dX4_save_9 (by decide) ?_
  refine pf_4_1 C P p_a0 q_241 dX4_save_10 (fun H locs P => ?_)
  obtain ⟨S1, hS⟩ : ∃ z, z = (sI S a0 1 (((mI S a0 1) + 1) - ((mI S a0 1) + 1) / 8 * 8)) := ⟨_, rfl⟩
  have P : PW G A s H locs S0 S1 := by rw [hS]; exact P
  have p_a0 : pI S1 4 a0 := by rw [hS]; exact pI_x ext_sI p_a0
  have p_b1 : pI S1 2 b1 := by rw [hS]; exact pI_x ext_sI p_b1
  have hw := hw S1 hS
  refine lv_aload_n hx hb dX4_save_13 rfl (lv_at hl 0 rfl) ?_
  obtain ⟨a2, e1, hw⟩ := hw
  have p_a2 : pI S1 14 a2 := wf_r P.2.2.2.1 p_a0 e1
  refine gf_4_0 C P p_a0 e1 q_240 dX4_save_14 ?_
  refine lv_aload_n hx hb dX4_save_17 rfl (lv_at hl 0 rfl) ?_
  refine gf_4_1 C P p_a0 q_241 dX4_save_18 ?_
  obtain ⟨h1, hw⟩ := hw
  obtain ⟨a3, e1, hw⟩ := hw
  have p_a3 : pI S1 2 a3 := wf_r P.2.2.2.1 p_a2 e1
  refine ra_a4 C P p_a2 h1 e1 dX4_save_21 ?_
  refine lv_aload_n hx hb dX4_save_22 rfl (lv_at hl 1 rfl) ?_
  refine cl_v C P (run_V C P hl.1 (kd := 2) (met_X2_copyFrom (CF_n C) G H.size _ _ S1 a3 b1 p_a3 p_b1 hw) p_a3 (by decide) rfl q_1046 q_376 q_377 q_2 q_378 cd_X2_copyFrom ⟨(Nat.le_of_ble_eq_true rfl), (Nat.le_of_ble_eq_true rfl)⟩ rfl rfl (As := [.ref b1]) (rest := []) rfl rfl (Nat.le_of_ble_eq_true rfl) dX4_save_23 ⟨by show cells + 0 ≤ 0; omega, by show slots + 0 ≤ 0; omega⟩) (kx_out C hex (fun _ _ _ h => h) (by omega) (by omega)) (fun S4 H locs P hE hw => ?_)
  have p_a0 : pI S4 4 a0 := pI_x hE p_a0
  have p_b1 : pI S4 2 b1 := pI_x hE p_b1
  have p_a3 : pI S4 2 a3 := pI_x hE p_a3
  refine lv_aload_n hx hb dX4_save_26 rfl (lv_at hl 0 rfl) ?_
  refine lv_aload_n hx hb dX4_save_27 rfl (lv_at hl 0 rfl) ?_
  refine gf_4_2 C P p_a0 q_242 dX4_save_28 ?_
  refine lv_iconst (v := 1) hx hb dX4_save_31 (by decide) ?_
  refine lv_iadd hx hb dX4_save_32 ?_
  refine lv_bipush (v := 8) hx hb dX4_save_33 (by decide) ?_
  refine va_mmin hx hb ((CF_m C).trans hl.1.symm) (CF_o C) (CF_t C _ q_1047) (CF_t C _ q_542) (CF_t C _ q_18) (CF_t C _ q_543) (Nat.le_of_ble_eq_true rfl) (Nat.le_of_ble_eq_true rfl) (by show cells ≤ 0; omega) (by show slots ≤ 0; omega) dX4_save_35 ?_
  refine pf_4_2 C P p_a0 q_242 dX4_save_38 (fun H locs P => ?_)
  obtain ⟨S5, hS⟩ : ∃ z, z = (sI S4 a0 2 (if 8 < ((mI S4 a0 2) + 1) then 8 else ((mI S4 a0 2) + 1))) := ⟨_, rfl⟩
  have P : PW G A s H locs S0 S5 := by rw [hS]; exact P
  have p_a0 : pI S5 4 a0 := by rw [hS]; exact pI_x ext_sI p_a0
  have hw := hw S5 hS
  exact e_v C hr P hw (by omega) (by omega) dX4_save_41
def wp_X4_save (Q : MS → Prop) (QX : String → MS → Prop) (S : MS) (a0 : Nat) (b1 : Nat) : Prop := wX4_save_0 Q QX S a0 b1
set_option maxHeartbeats 4000000 in
set_option maxRecDepth 100000 in
theorem met_X4_save {l : Launch} (hst : l.stackTraces = false) (G : GP) (sz : Nat) (Q : MS → Prop) (QX : String → MS → Prop) (S : MS) (a0 : Nat) (b1 : Nat) (p_a0 : pI S 4 a0) (p_b1 : pI S 2 b1) (hw : wp_X4_save Q QX S a0 b1) : vx_Met l yX4_save (.code yX4_save cX4_save 2 none :: GW) rmX4_save (va_Pc [.ref a0, .ref b1] (PR G S sz)) (QV G S (FA G S sz) Q) (XX G S (FA G S sz) QX) 0 0 (FA G S sz) := by
  refine st_m (by decide +kernel) hst (fun p e s m below meth c C hr hnm hex P => ?_)
  refine en_m (Nat.le_of_ble_eq_true rfl) (lv := [(0, .ref a0), (1, .ref b1)]) rfl (fun ls hl => ?_)
  have C : CF p l s m _ meth c "SkirmishGrid$History" cX4_save 2 G (FA G S sz) := C
  exact tX4_save_0 C hr hex Q QX S a0 b1 p_a0 p_b1 P hl (by omega) (by omega) hw
theorem cd_X4_save : yX4_save.cls = RX4 ∧ yX4_save.cls ≠ "java/lang/invoke/MethodHandle" ∧ yX4_save.cls ≠ "java/lang/invoke/VarHandle" ∧ (parseMethodDescriptor yX4_save.desc).map (fun d => d.parameters.length) = some 1 := by decide +kernel
abbrev rmX4_takeBack : Room := { frames := 3, cells := 0, slots := 0, locals := 103 }
def wX4_takeBack_0 (Q : MS → Prop) (QX : String → MS → Prop) (S : MS) (a0 : Nat) (b1 : Nat) : Prop := (∃ a1, mR S a0 0 = some a1 ∧ (vp_in (mI S a0 1) (mN S a1) ∧ (∃ a2, mR S a1 ((mI S a0 1) : Int32).toNatClampNeg = some a2 ∧ wp_X2_copyFrom (fun S3 => (∀ S4, S4 = (sI S3 a0 1 ((((mI S3 a0 1) + 8) - 1) - (((mI S3 a0 1) + 8) - 1) / 8 * 8)) → (∀ S5, S5 = (sI S4 a0 2 ((mI S4 a0 2) - 1)) → Q S5))) QX S b1 a2)))
set_option maxHeartbeats 4000000 in
set_option maxRecDepth 100000 in
theorem tX4_takeBack_0 {p : Program} {l : Launch} {e : Env} {s : State} {m : MethodId} {args : Array Value} {below : List Frame} {meth : Method} {c : Code} {H : Heap} {locs : List Loc} {cells slots : Nat} {G : GP} {A : Nat → Prop} {S0 : MS} {ls : Array Slot} (C : CF p l s m args meth c "SkirmishGrid$History" cX4_takeBack 2 G A) (hr : meth.sig.returnType = none) (hex : ∀ x ∈ c.exceptionTable.toList, False) (Q : MS → Prop) (QX : String → MS → Prop) (S : MS) (a0 : Nat) (b1 : Nat) (p_a0 : pI S 4 a0) (p_b1 : pI S 2 b1) (P : PW G A s H locs S0 S) (hl : lv_has ls 2 [(0, .ref a0), (1, .ref b1)]) (hcc : cells + 0 ≤ 0) (hss : slots + 0 ≤ 0) (hw : wX4_takeBack_0 Q QX S a0 b1) : W p l e rmX4_takeBack s m args below meth c H locs cells slots (vx_MQ below (QV G S0 A Q) (XX G S0 A QX) args s 0 0 A) (F0 m 0 ls []) := by
  have hx := CF_x C
  have hb := CF_b C
  unfold wX4_takeBack_0 at hw
  refine lv_aload_n hx hb dX4_takeBack_0 rfl (lv_at hl 1 rfl) ?_
  refine lv_aload_n hx hb dX4_takeBack_1 rfl (lv_at hl 0 rfl) ?_
  obtain ⟨a1, e1, hw⟩ := hw
  have p_a1 : pI S 14 a1 := wf_r P.2.2.2.1 p_a0 e1
  refine gf_4_0 C P p_a0 e1 q_240 dX4_takeBack_2 ?_
  refine lv_aload_n hx hb dX4_takeBack_5 rfl (lv_at hl 0 rfl) ?_
  refine gf_4_1 C P p_a0 q_241 dX4_takeBack_6 ?_
  obtain ⟨h1, hw⟩ := hw
  obtain ⟨a2, e1, hw⟩ := hw
  have p_a2 : pI S 2 a2 := wf_r P.2.2.2.1 p_a1 e1
  refine ra_a4 C P p_a1 h1 e1 dX4_takeBack_9 ?_
  refine cl_v C P (run_V C P hl.1 (kd := 2) (met_X2_copyFrom (CF_n C) G H.size _ _ S b1 a2 p_b1 p_a2 hw) p_b1 (by decide) rfl q_1046 q_376 q_377 q_2 q_378 cd_X2_copyFrom ⟨(Nat.le_of_ble_eq_true rfl), (Nat.le_of_ble_eq_true rfl)⟩ rfl rfl (As := [.ref a2]) (rest := []) rfl rfl (Nat.le_of_ble_eq_true rfl) dX4_takeBack_10 ⟨by show cells + 0 ≤ 0; omega, by show slots + 0 ≤ 0; omega⟩) (kx_out C hex (fun _ _ _ h => h) (by omega) (by omega)) (fun S3 H locs P hE hw => ?_)
  have p_a0 : pI S3 4 a0 := pI_x hE p_a0
  have p_b1 : pI S3 2 b1 := pI_x hE p_b1
  have p_a2 : pI S3 2 a2 := pI_x hE p_a2
  refine lv_aload_n hx hb dX4_takeBack_13 rfl (lv_at hl 0 rfl) ?_
  refine lv_aload_n hx hb dX4_takeBack_14 rfl (lv_at hl 0 rfl) ?_
  refine gf_4_1 C P p_a0 q_241 dX4_takeBack_15 ?_
  refine lv_bipush (v := 8) hx hb dX4_takeBack_18 (by decide) ?_
  refine lv_iadd hx hb dX4_takeBack_20 ?_
  refine lv_iconst (v := 1) hx hb dX4_takeBack_21 (by decide) ?_
  refine lv_isub hx hb dX4_takeBack_22 ?_
  refine lv_bipush (v := 8) hx hb dX4_takeBack_23 (by decide) ?_
  refine lv_irem hx hb dX4_takeBack_25 (by decide) ?_
  refine pf_4_1 C P p_a0 q_241 dX4_takeBack_26 (fun H locs P => ?_)
  obtain ⟨S4, hS⟩ : ∃ z, z = (sI S3 a0 1 ((((mI S3 a0 1) + 8) - 1) - (((mI S3 a0 1) + 8) - 1) / 8 * 8)) := ⟨_, rfl⟩
  have P : PW G A s H locs S0 S4 := by rw [hS]; exact P
  have p_a0 : pI S4 4 a0 := by rw [hS]; exact pI_x ext_sI p_a0
  have hw := hw S4 hS
  refine lv_aload_n hx hb dX4_takeBack_29 rfl (lv_at hl 0 rfl) ?_
  refine lv_dup hx hb dX4_takeBack_30 rfl ?_
  refine gf_4_2 C P p_a0 q_242 dX4_takeBack_31 ?_
  refine lv_iconst (v := 1) hx hb dX4_takeBack_34 (by decide) ?_
  refine lv_isub hx hb dX4_takeBack_35 ?_
  refine pf_4_2 C P p_a0 q_242 dX4_takeBack_36 (fun H locs P => ?_)
  obtain ⟨S5, hS⟩ : ∃ z, z = (sI S4 a0 2 ((mI S4 a0 2) - 1)) := ⟨_, rfl⟩
  have P : PW G A s H locs S0 S5 := by rw [hS]; exact P
  have p_a0 : pI S5 4 a0 := by rw [hS]; exact pI_x ext_sI p_a0
  have hw := hw S5 hS
  exact e_v C hr P hw (by omega) (by omega) dX4_takeBack_39
def wp_X4_takeBack (Q : MS → Prop) (QX : String → MS → Prop) (S : MS) (a0 : Nat) (b1 : Nat) : Prop := wX4_takeBack_0 Q QX S a0 b1
set_option maxHeartbeats 4000000 in
set_option maxRecDepth 100000 in
theorem met_X4_takeBack {l : Launch} (hst : l.stackTraces = false) (G : GP) (sz : Nat) (Q : MS → Prop) (QX : String → MS → Prop) (S : MS) (a0 : Nat) (b1 : Nat) (p_a0 : pI S 4 a0) (p_b1 : pI S 2 b1) (hw : wp_X4_takeBack Q QX S a0 b1) : vx_Met l yX4_takeBack (.code yX4_takeBack cX4_takeBack 2 none :: GW) rmX4_takeBack (va_Pc [.ref a0, .ref b1] (PR G S sz)) (QV G S (FA G S sz) Q) (XX G S (FA G S sz) QX) 0 0 (FA G S sz) := by
  refine st_m (by decide +kernel) hst (fun p e s m below meth c C hr hnm hex P => ?_)
  refine en_m (Nat.le_of_ble_eq_true rfl) (lv := [(0, .ref a0), (1, .ref b1)]) rfl (fun ls hl => ?_)
  have C : CF p l s m _ meth c "SkirmishGrid$History" cX4_takeBack 2 G (FA G S sz) := C
  exact tX4_takeBack_0 C hr hex Q QX S a0 b1 p_a0 p_b1 P hl (by omega) (by omega) hw
theorem cd_X4_takeBack : yX4_takeBack.cls = RX4 ∧ yX4_takeBack.cls ≠ "java/lang/invoke/MethodHandle" ∧ yX4_takeBack.cls ≠ "java/lang/invoke/VarHandle" ∧ (parseMethodDescriptor yX4_takeBack.desc).map (fun d => d.parameters.length) = some 1 := by decide +kernel
abbrev rmX6_init : Room := { frames := 1, cells := 2, slots := 16, locals := 40 }
def wX6_init_0 (Q : MS → Prop) (QX : String → MS → Prop) (S : MS) (a0 : Nat) : Prop := (∀ a1, a1 ∉ mL S → (∀ S2, S2 = (nw S a1 12 8) → (∀ S3, S3 = (sR S2 a0 0 (some a1)) → (∀ a4, a4 ∉ mL S3 → (∀ S5, S5 = (nw S3 a4 11 8) → (∀ S6, S6 = (sR S5 a0 1 (some a4)) → Q S6))))))
set_option maxHeartbeats 4000000 in
set_option maxRecDepth 100000 in
theorem tX6_init_0 {p : Program} {l : Launch} {e : Env} {s : State} {m : MethodId} {args : Array Value} {below : List Frame} {meth : Method} {c : Code} {H : Heap} {locs : List Loc} {cells slots : Nat} {G : GP} {A : Nat → Prop} {S0 : MS} {ls : Array Slot} (C : CF p l s m args meth c "SkirmishGrid$Row" cX6_init 1 G A) (hr : meth.sig.returnType = none) (hin2 : meth.name = "<init>") (hex : ∀ x ∈ c.exceptionTable.toList, False) (Q : MS → Prop) (QX : String → MS → Prop) (S : MS) (a0 : Nat) (p_a0 : pI S 6 a0) (P : PW G A s H locs S0 S) (hl : lv_has ls 1 [(0, .ref a0)]) (hcc : cells + 2 ≤ 2) (hss : slots + 16 ≤ 16) (hw : wX6_init_0 Q QX S a0) : W p l e rmX6_init s m args below meth c H locs cells slots (vx_MQ below (QV G S0 A Q) (XX G S0 A QX) args s 2 16 A) (F0 m 0 ls []) := by
  have hx := CF_x C
  have hb := CF_b C
  unfold wX6_init_0 at hw
  refine lv_aload_n hx hb dX6_init_0 rfl (lv_at hl 0 rfl) ?_
  refine W.objInit hx hb (CF_o C) (CF_t C _ q_276) (CF_t C _ q_36) (CF_t C _ q_37) rfl (hl.1.trans (CF_m C).symm) rfl dX6_init_1 (Nat.le_of_ble_eq_true rfl) (Nat.le_of_ble_eq_true rfl) ?_
  refine W.eq (g2 := F0 m 4 ls []) rfl ?_
  refine lv_aload_n hx hb dX6_init_4 rfl (lv_at hl 0 rfl) ?_
  refine lv_bipush (v := 8) hx hb dX6_init_5 (by decide) ?_
  refine rn_a (atype := .int) C P 2 (N' := 8) (8, .inl (fun _ => 0)) rfl (fun _ h => by cases h) q_65 rfl (fun _ => rfl) (fun S q => aE_nw (d := 2)) (by decide) (by decide) (by decide) (by show cells + 1 ≤ 2; omega) (by show slots + 8 ≤ 16; omega) dX6_init_7 (fun a1 H hq P => ?_)
  have hw := hw a1 hq
  obtain ⟨S2, hS⟩ : ∃ z, z = (nw S a1 12 8) := ⟨_, rfl⟩
  have P : PW G A s H locs S0 S2 := by rw [hS]; exact P
  have p_a0 : pI S2 6 a0 := by rw [hS]; exact pI_x (ext_nw hq) p_a0
  have hw := hw S2 hS
  have p_a1 : pI S2 12 a1 := by rw [hS]; exact pI_nw
  refine pf_6_0 C hin2 P p_a0 p_a1 q_277 dX6_init_9 (fun H locs P => ?_)
  obtain ⟨S3, hS⟩ : ∃ z, z = (sR S2 a0 0 (some a1)) := ⟨_, rfl⟩
  have P : PW G A s H locs S0 S3 := by rw [hS]; exact P
  have p_a0 : pI S3 6 a0 := by rw [hS]; exact pI_x ext_sR p_a0
  have p_a1 : pI S3 12 a1 := by rw [hS]; exact pI_x ext_sR p_a1
  have hw := hw S3 hS
  refine lv_aload_n hx hb dX6_init_12 rfl (lv_at hl 0 rfl) ?_
  refine lv_bipush (v := 8) hx hb dX6_init_13 (by decide) ?_
  refine rn_a (atype := .float) C P 1 (N' := 8) (8, .inr (.inr (.inl (fun _ => 0)))) rfl (fun _ h => by cases h) q_298 rfl (fun _ => rfl) (fun S q => aE_nw (d := 1)) (by decide) (by decide) (by decide) (by show cells + 1 + 1 ≤ 2; omega) (by show slots + 8 + 8 ≤ 16; omega) dX6_init_15 (fun a4 H hq P => ?_)
  have hw := hw a4 hq
  obtain ⟨S5, hS⟩ : ∃ z, z = (nw S3 a4 11 8) := ⟨_, rfl⟩
  have P : PW G A s H locs S0 S5 := by rw [hS]; exact P
  have p_a0 : pI S5 6 a0 := by rw [hS]; exact pI_x (ext_nw hq) p_a0
  have hw := hw S5 hS
  have p_a4 : pI S5 11 a4 := by rw [hS]; exact pI_nw
  refine pf_6_1 C hin2 P p_a0 p_a4 q_279 dX6_init_17 (fun H locs P => ?_)
  obtain ⟨S6, hS⟩ : ∃ z, z = (sR S5 a0 1 (some a4)) := ⟨_, rfl⟩
  have P : PW G A s H locs S0 S6 := by rw [hS]; exact P
  have p_a0 : pI S6 6 a0 := by rw [hS]; exact pI_x ext_sR p_a0
  have p_a4 : pI S6 11 a4 := by rw [hS]; exact pI_x ext_sR p_a4
  have hw := hw S6 hS
  exact e_v C hr P hw (by omega) (by omega) dX6_init_20
def wp_X6_init (Q : MS → Prop) (QX : String → MS → Prop) (S : MS) (a0 : Nat) : Prop := wX6_init_0 Q QX S a0
set_option maxHeartbeats 4000000 in
set_option maxRecDepth 100000 in
theorem met_X6_init {l : Launch} (hst : l.stackTraces = false) (G : GP) (sz : Nat) (Q : MS → Prop) (QX : String → MS → Prop) (S : MS) (a0 : Nat) (p_a0 : pI S 6 a0) (hw : wp_X6_init Q QX S a0) : vx_Met l yX6_init (.code yX6_init cX6_init 1 none :: GW) rmX6_init (va_Pc [.ref a0] (PR G S sz)) (QV G S (FA G S sz) Q) (XX G S (FA G S sz) QX) 2 16 (FA G S sz) := by
  refine st_m (by decide +kernel) hst (fun p e s m below meth c C hr hnm hex P => ?_)
  refine en_m (Nat.le_of_ble_eq_true rfl) (lv := [(0, .ref a0)]) rfl (fun ls hl => ?_)
  have C : CF p l s m _ meth c "SkirmishGrid$Row" cX6_init 1 G (FA G S sz) := C
  exact tX6_init_0 C hr hnm hex Q QX S a0 p_a0 P hl (by omega) (by omega) hw
theorem cd_X6_init : yX6_init.cls = RX6 ∧ yX6_init.cls ≠ "java/lang/invoke/MethodHandle" ∧ yX6_init.cls ≠ "java/lang/invoke/VarHandle" ∧ (parseMethodDescriptor yX6_init.desc).map (fun d => d.parameters.length) = some 0 := by decide +kernel
abbrev rmX6_store : Room := { frames := 0, cells := 0, slots := 0, locals := 0 }
def wX6_store_20 (Q : MS → Prop) (QX : String → MS → Prop) (k20 : MS → Nat → Nat → Int32 → Prop) (S : MS) (a0 : Nat) (u1 : Nat) (y3 : Int32) : Prop := (((mI S a0 4) ≤ y3 → Q S) ∧ (¬ (mI S a0 4) ≤ y3 → (∃ a1, mR S u1 1 = some a1 ∧ (vp_in y3 (mN S a1) ∧ (∃ a2, mR S a1 (y3 : Int32).toNatClampNeg = some a2 ∧ (∃ a3, mR S a0 0 = some a3 ∧ (vp_in y3 (mN S a3) ∧ (∀ S4, S4 = (sI S a3 (y3 : Int32).toNatClampNeg (mI S a2 5)) → (∃ a5, mR S4 a0 1 = some a5 ∧ (vp_in (mI S4 a2 2) 4 ∧ (vf_n32 (FP.fdiv (FP.i2f (mI S4 a2 5)) (FP.i2f (tbI 0 (mI S4 a2 2)))) ∧ (vp_in y3 (mN S4 a5) ∧ (∀ S7, S7 = (sF S4 a5 (y3 : Int32).toNatClampNeg (FP.fdiv (FP.i2f (mI S4 a2 5)) (FP.i2f (tbI 0 (mI S4 a2 2))))) → k20 S7 a0 u1 (y3 + 1))))))))))))))
set_option maxHeartbeats 4000000 in
set_option maxRecDepth 100000 in
theorem tX6_store_20 {p : Program} {l : Launch} {e : Env} {s : State} {m : MethodId} {args : Array Value} {below : List Frame} {meth : Method} {c : Code} {H : Heap} {locs : List Loc} {cells slots : Nat} {G : GP} {A : Nat → Prop} {S0 : MS} {ls : Array Slot} (C : CF p l s m args meth c "SkirmishGrid$Row" cX6_store 5 G A) (hr : meth.sig.returnType = none) (hex : ∀ x ∈ c.exceptionTable.toList, False) (Q : MS → Prop) (QX : String → MS → Prop) (k20 : MS → Nat → Nat → Int32 → Prop) (kh20 : ∀ (S : MS) (a0 : Nat) (u1 : Nat) (y3 : Int32) (cells slots : Nat) (H : Heap) (locs : List Loc) (ls : Array Slot), pI S 6 a0 → pI S 2 u1 → PW G A s H locs S0 S → lv_has ls 5 [(0, .ref a0), (1, .ref u1), (3, .int y3)] → cells + 0 ≤ 0 → slots + 0 ≤ 0 → k20 S a0 u1 y3 → W p l e rmX6_store s m args below meth c H locs cells slots (vx_MQ below (QV G S0 A Q) (XX G S0 A QX) args s 0 0 A) (F0 m 20 ls [])) (S : MS) (a0 : Nat) (u1 : Nat) (y3 : Int32) (p_a0 : pI S 6 a0) (p_u1 : pI S 2 u1) (P : PW G A s H locs S0 S) (hl : lv_has ls 5 [(0, .ref a0), (1, .ref u1), (3, .int y3)]) (hcc : cells + 0 ≤ 0) (hss : slots + 0 ≤ 0) (hw : wX6_store_20 Q QX k20 S a0 u1 y3) : W p l e rmX6_store s m args below meth c H locs cells slots (vx_MQ below (QV G S0 A Q) (XX G S0 A QX) args s 0 0 A) (F0 m 20 ls []) := by
  have hx := CF_x C
  have hb := CF_b C
  unfold wX6_store_20 at hw
  refine lv_iload_n hx hb dX6_store_20 rfl (lv_at hl 2 rfl) ?_
  refine lv_aload_n hx hb dX6_store_21 rfl (lv_at hl 0 rfl) ?_
  refine gf_6_4 C P p_a0 q_285 dX6_store_22 ?_
  refine lv_icmp_ge (tgt := 76) hx hb dX6_store_25 (by decide) (fun hc => ?_) (fun hc => ?_)
  · have hw := hw.1 hc
    exact e_v C hr P hw (by omega) (by omega) dX6_store_76
  · have hw := hw.2 hc
    refine lv_aload_n hx hb dX6_store_28 rfl (lv_at hl 1 rfl) ?_
    obtain ⟨a1, e1, hw⟩ := hw
    have p_a1 : pI S 15 a1 := wf_r P.2.2.2.1 p_u1 e1
    refine gf_2_1 C P p_u1 e1 q_165 dX6_store_29 ?_
    refine lv_iload_n hx hb dX6_store_32 rfl (lv_at hl 2 rfl) ?_
    obtain ⟨h1, hw⟩ := hw
    obtain ⟨a2, e1, hw⟩ := hw
    have p_a2 : pI S 7 a2 := wf_r P.2.2.2.1 p_a1 e1
    refine ra_a5 C P p_a1 h1 e1 dX6_store_33 ?_
    refine lv_astore (lv' := [(4, .ref a2), (0, .ref a0), (1, .ref u1), (3, .int y3)]) hx hb dX6_store_34 hl (by decide) rfl (fun ls hl => ?_)
    refine lv_aload_n hx hb dX6_store_36 rfl (lv_at hl 1 rfl) ?_
    obtain ⟨a3, e1, hw⟩ := hw
    have p_a3 : pI S 12 a3 := wf_r P.2.2.2.1 p_a0 e1
    refine gf_6_0 C P p_a0 e1 q_277 dX6_store_37 ?_
    refine lv_iload_n hx hb dX6_store_40 rfl (lv_at hl 3 rfl) ?_
    refine lv_aload hx hb dX6_store_41 (lv_at hl 0 rfl) ?_
    refine gf_7_5 C P p_a2 q_110 dX6_store_43 ?_
    obtain ⟨h1, hw⟩ := hw
    refine rs_i C P p_a3 h1 dX6_store_46 (fun H locs P => ?_)
    obtain ⟨S4, hS⟩ : ∃ z, z = (sI S a3 (y3 : Int32).toNatClampNeg (mI S a2 5)) := ⟨_, rfl⟩
    have P : PW G A s H locs S0 S4 := by rw [hS]; exact P
    have p_a0 : pI S4 6 a0 := by rw [hS]; exact pI_x ext_sI p_a0
    have p_u1 : pI S4 2 u1 := by rw [hS]; exact pI_x ext_sI p_u1
    have p_a2 : pI S4 7 a2 := by rw [hS]; exact pI_x ext_sI p_a2
    have p_a3 : pI S4 12 a3 := by rw [hS]; exact pI_x ext_sI p_a3
    have hw := hw S4 hS
    refine lv_aload_n hx hb dX6_store_47 rfl (lv_at hl 1 rfl) ?_
    obtain ⟨a5, e1, hw⟩ := hw
    have p_a5 : pI S4 11 a5 := wf_r P.2.2.2.1 p_a0 e1
    refine gf_6_1 C P p_a0 e1 q_279 dX6_store_48 ?_
    refine lv_iload_n hx hb dX6_store_51 rfl (lv_at hl 3 rfl) ?_
    refine lv_aload hx hb dX6_store_52 (lv_at hl 0 rfl) ?_
    refine gf_7_5 C P p_a2 q_110 dX6_store_54 ?_
    refine lv_i2f hx hb dX6_store_57 ?_
    refine rt_gN C P (i := 0) (by decide) rfl (List.mem_of_getElem? (i := 9) rfl) dX6_store_58 (fun t6 ht6 => ?_)
    refine lv_aload hx hb dX6_store_61 (lv_at hl 0 rfl) ?_
    refine gf_7_2 C P p_a2 q_100 dX6_store_63 ?_
    obtain ⟨h1, hw⟩ := hw
    refine rt_l (i := 0) C P ht6 h1 dX6_store_66 ?_
    refine lv_i2f hx hb dX6_store_67 ?_
    obtain ⟨h1, hw⟩ := hw
    refine lv_fdiv hx hb dX6_store_68 h1 ?_
    obtain ⟨h1, hw⟩ := hw
    refine rs_f C P p_a5 h1 dX6_store_69 (fun H locs P => ?_)
    obtain ⟨S7, hS⟩ : ∃ z, z = (sF S4 a5 (y3 : Int32).toNatClampNeg (FP.fdiv (FP.i2f (mI S4 a2 5)) (FP.i2f (tbI 0 (mI S4 a2 2))))) := ⟨_, rfl⟩
    have P : PW G A s H locs S0 S7 := by rw [hS]; exact P
    have p_a0 : pI S7 6 a0 := by rw [hS]; exact pI_x ext_sF p_a0
    have p_u1 : pI S7 2 u1 := by rw [hS]; exact pI_x ext_sF p_u1
    have p_a5 : pI S7 11 a5 := by rw [hS]; exact pI_x ext_sF p_a5
    have hw := hw S7 hS
    refine lv_iinc (v := (y3 + 1)) (lv' := [(3, .int (y3 + 1)), (4, .ref a2), (0, .ref a0), (1, .ref u1)]) hx hb dX6_store_70 hl (k := 3) rfl (by rfl) (by decide) rfl (fun ls hl => ?_)
    refine lv_goto (tgt := 20) hx hb dX6_store_73 (by decide) ?_
    exact kh20 S7 a0 u1 (y3 + 1) _ _ _ _ _ p_a0 p_u1 P (lv_sub hl [2, 3, 0] rfl) (by omega) (by omega) hw
def lX6_store_20 (Q : MS → Prop) (QX : String → MS → Prop) : Nat → MS → Nat → Nat → Int32 → Prop
  | 0 => fun _ _ _ _ => False
  | n + 1 => fun S a0 u1 y3 => wX6_store_20 Q QX (lX6_store_20 Q QX n) S a0 u1 y3
theorem tlX6_store_20 {p : Program} {l : Launch} {e : Env} {s : State} {m : MethodId} {args : Array Value} {below : List Frame} {meth : Method} {c : Code} {G : GP} {A : Nat → Prop} {S0 : MS} (C : CF p l s m args meth c "SkirmishGrid$Row" cX6_store 5 G A) (hr : meth.sig.returnType = none) (hex : ∀ x ∈ c.exceptionTable.toList, False) (Q : MS → Prop) (QX : String → MS → Prop) : ∀ (n : Nat), ∀ (S : MS) (a0 : Nat) (u1 : Nat) (y3 : Int32) (cells slots : Nat) (H : Heap) (locs : List Loc) (ls : Array Slot), pI S 6 a0 → pI S 2 u1 → PW G A s H locs S0 S → lv_has ls 5 [(0, .ref a0), (1, .ref u1), (3, .int y3)] → cells + 0 ≤ 0 → slots + 0 ≤ 0 → lX6_store_20 Q QX n S a0 u1 y3 → W p l e rmX6_store s m args below meth c H locs cells slots (vx_MQ below (QV G S0 A Q) (XX G S0 A QX) args s 0 0 A) (F0 m 20 ls []) := by
  intro n
  induction n with
  | zero => intro S a0 u1 y3 cells slots H locs ls p_a0 p_u1 P hl hcc hss hw; exact hw.elim
  | succ n ih => intro S a0 u1 y3 cells slots H locs ls p_a0 p_u1 P hl hcc hss hw; exact tX6_store_20 C hr hex Q QX (lX6_store_20 Q QX n) ih S a0 u1 y3 p_a0 p_u1 P hl hcc hss hw
def wX6_store_0 (Q : MS → Prop) (QX : String → MS → Prop) (S : MS) (a0 : Nat) (b1 : Nat) (x2 : Int32) : Prop := (∀ S1, S1 = (sI S a0 2 1) → (isZ x2 ∧ (∀ S2, S2 = (sI S1 a0 3 x2) → (∀ S3, S3 = (sI S2 a0 4 (mI S2 b1 2)) → (∃ n, lX6_store_20 Q QX n S3 a0 b1 0)))))
set_option maxHeartbeats 4000000 in
set_option maxRecDepth 100000 in
theorem tX6_store_0 {p : Program} {l : Launch} {e : Env} {s : State} {m : MethodId} {args : Array Value} {below : List Frame} {meth : Method} {c : Code} {H : Heap} {locs : List Loc} {cells slots : Nat} {G : GP} {A : Nat → Prop} {S0 : MS} {ls : Array Slot} (C : CF p l s m args meth c "SkirmishGrid$Row" cX6_store 5 G A) (hr : meth.sig.returnType = none) (hex : ∀ x ∈ c.exceptionTable.toList, False) (Q : MS → Prop) (QX : String → MS → Prop) (S : MS) (a0 : Nat) (b1 : Nat) (x2 : Int32) (p_a0 : pI S 6 a0) (p_b1 : pI S 2 b1) (P : PW G A s H locs S0 S) (hl : lv_has ls 5 [(0, .ref a0), (1, .ref b1), (2, .int x2)]) (hcc : cells + 0 ≤ 0) (hss : slots + 0 ≤ 0) (hw : wX6_store_0 Q QX S a0 b1 x2) : W p l e rmX6_store s m args below meth c H locs cells slots (vx_MQ below (QV G S0 A Q) (XX G S0 A QX) args s 0 0 A) (F0 m 0 ls []) := by
  have hx := CF_x C
  have hb := CF_b C
  unfold wX6_store_0 at hw
  refine lv_aload_n hx hb dX6_store_0 rfl (lv_at hl 0 rfl) ?_
  refine lv_iconst (v := 1) hx hb dX6_store_1 (by decide) ?_
  refine pf_6_2 C P p_a0 (isZ_dec (by decide)) q_281 dX6_store_2 (fun H locs P => ?_)
  obtain ⟨S1, hS⟩ : ∃ z, z = (sI S a0 2 1) := ⟨_, rfl⟩
  have P : PW G A s H locs S0 S1 := by rw [hS]; exact P
  have p_a0 : pI S1 6 a0 := by rw [hS]; exact pI_x ext_sI p_a0
  have p_b1 : pI S1 2 b1 := by rw [hS]; exact pI_x ext_sI p_b1
  have hw := hw S1 hS
  refine lv_aload_n hx hb dX6_store_5 rfl (lv_at hl 0 rfl) ?_
  refine lv_iload_n hx hb dX6_store_6 rfl (lv_at hl 2 rfl) ?_
  obtain ⟨h2, hw⟩ := hw
  refine pf_6_3 C P p_a0 h2 q_283 dX6_store_7 (fun H locs P => ?_)
  obtain ⟨S2, hS⟩ : ∃ z, z = (sI S1 a0 3 x2) := ⟨_, rfl⟩
  have P : PW G A s H locs S0 S2 := by rw [hS]; exact P
  have p_a0 : pI S2 6 a0 := by rw [hS]; exact pI_x ext_sI p_a0
  have p_b1 : pI S2 2 b1 := by rw [hS]; exact pI_x ext_sI p_b1
  have hw := hw S2 hS
  refine lv_aload_n hx hb dX6_store_10 rfl (lv_at hl 0 rfl) ?_
  refine lv_aload_n hx hb dX6_store_11 rfl (lv_at hl 1 rfl) ?_
  refine gf_2_2 C P p_b1 q_169 dX6_store_12 ?_
  refine pf_6_4 C P p_a0 q_285 dX6_store_15 (fun H locs P => ?_)
  obtain ⟨S3, hS⟩ : ∃ z, z = (sI S2 a0 4 (mI S2 b1 2)) := ⟨_, rfl⟩
  have P : PW G A s H locs S0 S3 := by rw [hS]; exact P
  have p_a0 : pI S3 6 a0 := by rw [hS]; exact pI_x ext_sI p_a0
  have p_b1 : pI S3 2 b1 := by rw [hS]; exact pI_x ext_sI p_b1
  have hw := hw S3 hS
  refine lv_iconst (v := 0) hx hb dX6_store_18 (by decide) ?_
  refine lv_istore_n (lv' := [(3, .int 0), (0, .ref a0), (1, .ref b1), (2, .int x2)]) hx hb dX6_store_19 rfl hl (by decide) rfl (fun ls hl => ?_)
  obtain ⟨n, hw⟩ := hw
  exact tlX6_store_20 C hr hex Q QX n S3 a0 b1 0 _ _ _ _ _ p_a0 p_b1 P (lv_sub hl [1, 2, 0] rfl) (by omega) (by omega) hw
def wp_X6_store (Q : MS → Prop) (QX : String → MS → Prop) (S : MS) (a0 : Nat) (b1 : Nat) (x2 : Int32) : Prop := wX6_store_0 Q QX S a0 b1 x2
set_option maxHeartbeats 4000000 in
set_option maxRecDepth 100000 in
theorem met_X6_store {l : Launch} (hst : l.stackTraces = false) (G : GP) (sz : Nat) (Q : MS → Prop) (QX : String → MS → Prop) (S : MS) (a0 : Nat) (b1 : Nat) (x2 : Int32) (p_a0 : pI S 6 a0) (p_b1 : pI S 2 b1) (hw : wp_X6_store Q QX S a0 b1 x2) : vx_Met l yX6_store (.code yX6_store cX6_store 5 none :: GW) rmX6_store (va_Pc [.ref a0, .ref b1, .int x2] (PR G S sz)) (QV G S (FA G S sz) Q) (XX G S (FA G S sz) QX) 0 0 (FA G S sz) := by
  refine st_m (by decide +kernel) hst (fun p e s m below meth c C hr hnm hex P => ?_)
  refine en_m (Nat.le_of_ble_eq_true rfl) (lv := [(0, .ref a0), (1, .ref b1), (2, .int x2)]) rfl (fun ls hl => ?_)
  have C : CF p l s m _ meth c "SkirmishGrid$Row" cX6_store 5 G (FA G S sz) := C
  exact tX6_store_0 C hr hex Q QX S a0 b1 x2 p_a0 p_b1 P hl (by omega) (by omega) hw
theorem cd_X6_store : yX6_store.cls = RX6 ∧ yX6_store.cls ≠ "java/lang/invoke/MethodHandle" ∧ yX6_store.cls ≠ "java/lang/invoke/VarHandle" ∧ (parseMethodDescriptor yX6_store.desc).map (fun d => d.parameters.length) = some 2 := by decide +kernel
abbrev rmX6_takeFrom : Room := { frames := 0, cells := 0, slots := 0, locals := 0 }
def wX6_takeFrom_58 (Q : Int32 → MS → Prop) (QX : String → MS → Prop) (k5 : MS → Nat → Nat → Int32 → Int32 → Int32 → Prop) (S : MS) (a0 : Nat) (u1 : Nat) (y2 : Int32) (y3 : Int32) (y4 : Int32) : Prop := (∃ a1, mR S a0 0 = some a1 ∧ (∃ a2, mR S u1 0 = some a2 ∧ (vp_in y4 (mN S a2) ∧ (vp_in y4 (mN S a1) ∧ (∀ S3, S3 = (sI S a1 (y4 : Int32).toNatClampNeg (mI S a2 (y4 : Int32).toNatClampNeg)) → (∃ a4, mR S3 a0 1 = some a4 ∧ (∃ a5, mR S3 u1 1 = some a5 ∧ (vp_in y4 (mN S3 a5) ∧ (vp_in y4 (mN S3 a4) ∧ (∀ S6, S6 = (sF S3 a4 (y4 : Int32).toNatClampNeg (mF S3 a5 (y4 : Int32).toNatClampNeg)) → k5 S6 a0 u1 y2 y3 (y4 + 1)))))))))))
set_option maxHeartbeats 4000000 in
set_option maxRecDepth 100000 in
theorem tX6_takeFrom_58 {p : Program} {l : Launch} {e : Env} {s : State} {m : MethodId} {args : Array Value} {below : List Frame} {meth : Method} {c : Code} {H : Heap} {locs : List Loc} {cells slots : Nat} {G : GP} {A : Nat → Prop} {S0 : MS} {ls : Array Slot} (C : CF p l s m args meth c "SkirmishGrid$Row" cX6_takeFrom 5 G A) (hr : meth.sig.returnType = (some .boolean)) (hex : ∀ x ∈ c.exceptionTable.toList, False) (Q : Int32 → MS → Prop) (QX : String → MS → Prop) (k5 : MS → Nat → Nat → Int32 → Int32 → Int32 → Prop) (kh5 : ∀ (S : MS) (a0 : Nat) (u1 : Nat) (y2 : Int32) (y3 : Int32) (y4 : Int32) (cells slots : Nat) (H : Heap) (locs : List Loc) (ls : Array Slot), pI S 6 a0 → pI S 6 u1 → PW G A s H locs S0 S → lv_has ls 5 [(0, .ref a0), (1, .ref u1), (2, .int y2), (3, .int y3), (4, .int y4)] → cells + 0 ≤ 0 → slots + 0 ≤ 0 → k5 S a0 u1 y2 y3 y4 → W p l e rmX6_takeFrom s m args below meth c H locs cells slots (vx_MQ below (QI G S0 A Q) (XX G S0 A QX) args s 0 0 A) (F0 m 5 ls [])) (S : MS) (a0 : Nat) (u1 : Nat) (y2 : Int32) (y3 : Int32) (y4 : Int32) (p_a0 : pI S 6 a0) (p_u1 : pI S 6 u1) (P : PW G A s H locs S0 S) (hl : lv_has ls 5 [(0, .ref a0), (1, .ref u1), (2, .int y2), (3, .int y3), (4, .int y4)]) (hcc : cells + 0 ≤ 0) (hss : slots + 0 ≤ 0) (hw : wX6_takeFrom_58 Q QX k5 S a0 u1 y2 y3 y4) : W p l e rmX6_takeFrom s m args below meth c H locs cells slots (vx_MQ below (QI G S0 A Q) (XX G S0 A QX) args s 0 0 A) (F0 m 58 ls []) := by
  have hx := CF_x C
  have hb := CF_b C
  unfold wX6_takeFrom_58 at hw
  refine lv_aload_n hx hb dX6_takeFrom_58 rfl (lv_at hl 0 rfl) ?_
  obtain ⟨a1, e1, hw⟩ := hw
  have p_a1 : pI S 12 a1 := wf_r P.2.2.2.1 p_a0 e1
  refine gf_6_0 C P p_a0 e1 q_277 dX6_takeFrom_59 ?_
  refine lv_iload hx hb dX6_takeFrom_62 (lv_at hl 4 rfl) ?_
  refine lv_aload_n hx hb dX6_takeFrom_64 rfl (lv_at hl 1 rfl) ?_
  obtain ⟨a2, e1, hw⟩ := hw
  have p_a2 : pI S 12 a2 := wf_r P.2.2.2.1 p_u1 e1
  refine gf_6_0 C P p_u1 e1 q_277 dX6_takeFrom_65 ?_
  refine lv_iload hx hb dX6_takeFrom_68 (lv_at hl 4 rfl) ?_
  obtain ⟨h1, hw⟩ := hw
  refine ra_i C P p_a2 h1 dX6_takeFrom_70 ?_
  obtain ⟨h1, hw⟩ := hw
  refine rs_i C P p_a1 h1 dX6_takeFrom_71 (fun H locs P => ?_)
  obtain ⟨S3, hS⟩ : ∃ z, z = (sI S a1 (y4 : Int32).toNatClampNeg (mI S a2 (y4 : Int32).toNatClampNeg)) := ⟨_, rfl⟩
  have P : PW G A s H locs S0 S3 := by rw [hS]; exact P
  have p_a0 : pI S3 6 a0 := by rw [hS]; exact pI_x ext_sI p_a0
  have p_u1 : pI S3 6 u1 := by rw [hS]; exact pI_x ext_sI p_u1
  have p_a1 : pI S3 12 a1 := by rw [hS]; exact pI_x ext_sI p_a1
  have hw := hw S3 hS
  refine lv_aload_n hx hb dX6_takeFrom_72 rfl (lv_at hl 0 rfl) ?_
  obtain ⟨a4, e1, hw⟩ := hw
  have p_a4 : pI S3 11 a4 := wf_r P.2.2.2.1 p_a0 e1
  refine gf_6_1 C P p_a0 e1 q_279 dX6_takeFrom_73 ?_
  refine lv_iload hx hb dX6_takeFrom_76 (lv_at hl 4 rfl) ?_
  refine lv_aload_n hx hb dX6_takeFrom_78 rfl (lv_at hl 1 rfl) ?_
  obtain ⟨a5, e1, hw⟩ := hw
  have p_a5 : pI S3 11 a5 := wf_r P.2.2.2.1 p_u1 e1
  refine gf_6_1 C P p_u1 e1 q_279 dX6_takeFrom_79 ?_
  refine lv_iload hx hb dX6_takeFrom_82 (lv_at hl 4 rfl) ?_
  obtain ⟨h1, hw⟩ := hw
  refine ra_f C P p_a5 h1 dX6_takeFrom_84 ?_
  obtain ⟨h1, hw⟩ := hw
  refine rs_f C P p_a4 h1 dX6_takeFrom_85 (fun H locs P => ?_)
  obtain ⟨S6, hS⟩ : ∃ z, z = (sF S3 a4 (y4 : Int32).toNatClampNeg (mF S3 a5 (y4 : Int32).toNatClampNeg)) := ⟨_, rfl⟩
  have P : PW G A s H locs S0 S6 := by rw [hS]; exact P
  have p_a0 : pI S6 6 a0 := by rw [hS]; exact pI_x ext_sF p_a0
  have p_u1 : pI S6 6 u1 := by rw [hS]; exact pI_x ext_sF p_u1
  have p_a4 : pI S6 11 a4 := by rw [hS]; exact pI_x ext_sF p_a4
  have hw := hw S6 hS
  refine lv_iinc (v := (y4 + 1)) (lv' := [(4, .int (y4 + 1)), (0, .ref a0), (1, .ref u1), (2, .int y2), (3, .int y3)]) hx hb dX6_takeFrom_86 hl (k := 4) rfl (by rfl) (by decide) rfl (fun ls hl => ?_)
  refine lv_goto (tgt := 5) hx hb dX6_takeFrom_89 (by decide) ?_
  exact kh5 S6 a0 u1 y2 y3 (y4 + 1) _ _ _ _ _ p_a0 p_u1 P (lv_sub hl [1, 2, 3, 4, 0] rfl) (by omega) (by omega) hw
def wX6_takeFrom_56 (Q : Int32 → MS → Prop) (QX : String → MS → Prop) (k5 : MS → Nat → Nat → Int32 → Int32 → Int32 → Prop) (S : MS) (a0 : Nat) (u1 : Nat) (y2 : Int32) (y4 : Int32) : Prop := wX6_takeFrom_58 Q QX k5 S a0 u1 y2 1 y4
set_option maxHeartbeats 4000000 in
set_option maxRecDepth 100000 in
theorem tX6_takeFrom_56 {p : Program} {l : Launch} {e : Env} {s : State} {m : MethodId} {args : Array Value} {below : List Frame} {meth : Method} {c : Code} {H : Heap} {locs : List Loc} {cells slots : Nat} {G : GP} {A : Nat → Prop} {S0 : MS} {ls : Array Slot} (C : CF p l s m args meth c "SkirmishGrid$Row" cX6_takeFrom 5 G A) (hr : meth.sig.returnType = (some .boolean)) (hex : ∀ x ∈ c.exceptionTable.toList, False) (Q : Int32 → MS → Prop) (QX : String → MS → Prop) (k5 : MS → Nat → Nat → Int32 → Int32 → Int32 → Prop) (kh5 : ∀ (S : MS) (a0 : Nat) (u1 : Nat) (y2 : Int32) (y3 : Int32) (y4 : Int32) (cells slots : Nat) (H : Heap) (locs : List Loc) (ls : Array Slot), pI S 6 a0 → pI S 6 u1 → PW G A s H locs S0 S → lv_has ls 5 [(0, .ref a0), (1, .ref u1), (2, .int y2), (3, .int y3), (4, .int y4)] → cells + 0 ≤ 0 → slots + 0 ≤ 0 → k5 S a0 u1 y2 y3 y4 → W p l e rmX6_takeFrom s m args below meth c H locs cells slots (vx_MQ below (QI G S0 A Q) (XX G S0 A QX) args s 0 0 A) (F0 m 5 ls [])) (S : MS) (a0 : Nat) (u1 : Nat) (y2 : Int32) (y4 : Int32) (p_a0 : pI S 6 a0) (p_u1 : pI S 6 u1) (P : PW G A s H locs S0 S) (hl : lv_has ls 5 [(0, .ref a0), (1, .ref u1), (2, .int y2), (4, .int y4)]) (hcc : cells + 0 ≤ 0) (hss : slots + 0 ≤ 0) (hw : wX6_takeFrom_56 Q QX k5 S a0 u1 y2 y4) : W p l e rmX6_takeFrom s m args below meth c H locs cells slots (vx_MQ below (QI G S0 A Q) (XX G S0 A QX) args s 0 0 A) (F0 m 56 ls []) := by
  have hx := CF_x C
  have hb := CF_b C
  unfold wX6_takeFrom_56 at hw
  refine lv_iconst (v := 1) hx hb dX6_takeFrom_56 (by decide) ?_
  refine lv_istore_n (lv' := [(3, .int 1), (0, .ref a0), (1, .ref u1), (2, .int y2), (4, .int y4)]) hx hb dX6_takeFrom_57 rfl hl (by decide) rfl (fun ls hl => ?_)
  exact tX6_takeFrom_58 C hr hex Q QX k5 kh5 S a0 u1 y2 1 y4 p_a0 p_u1 P (lv_sub hl [1, 2, 3, 0, 4] rfl) (by omega) (by omega) hw
def wX6_takeFrom_5 (Q : Int32 → MS → Prop) (QX : String → MS → Prop) (k5 : MS → Nat → Nat → Int32 → Int32 → Int32 → Prop) (S : MS) (a0 : Nat) (u1 : Nat) (y2 : Int32) (y3 : Int32) (y4 : Int32) : Prop := ((y2 ≤ y4 → (isZ y3 ∧ Q y3 S)) ∧ (¬ y2 ≤ y4 → (((mI S a0 3) = 0 → (∃ a1, mR S a0 1 = some a1 ∧ (vp_in y4 (mN S a1) ∧ (∃ a2, mR S u1 1 = some a2 ∧ (vp_in y4 (mN S a2) ∧ (((Op.cmpValue (FP.fcmp (mF S a1 (y4 : Int32).toNatClampNeg) (mF S a2 (y4 : Int32).toNatClampNeg)) CmpOp.l) = 0 → wX6_takeFrom_58 Q QX k5 S a0 u1 y2 y3 y4) ∧ (¬ (Op.cmpValue (FP.fcmp (mF S a1 (y4 : Int32).toNatClampNeg) (mF S a2 (y4 : Int32).toNatClampNeg)) CmpOp.l) = 0 → wX6_takeFrom_56 Q QX k5 S a0 u1 y2 y4))))))) ∧ (¬ (mI S a0 3) = 0 → (∃ a3, mR S a0 0 = some a3 ∧ (vp_in y4 (mN S a3) ∧ (∃ a4, mR S u1 0 = some a4 ∧ (vp_in y4 (mN S a4) ∧ (((mI S a3 (y4 : Int32).toNatClampNeg) = (mI S a4 (y4 : Int32).toNatClampNeg) → wX6_takeFrom_58 Q QX k5 S a0 u1 y2 y3 y4) ∧ (¬ (mI S a3 (y4 : Int32).toNatClampNeg) = (mI S a4 (y4 : Int32).toNatClampNeg) → wX6_takeFrom_56 Q QX k5 S a0 u1 y2 y4))))))))))
set_option maxHeartbeats 4000000 in
set_option maxRecDepth 100000 in
theorem tX6_takeFrom_5 {p : Program} {l : Launch} {e : Env} {s : State} {m : MethodId} {args : Array Value} {below : List Frame} {meth : Method} {c : Code} {H : Heap} {locs : List Loc} {cells slots : Nat} {G : GP} {A : Nat → Prop} {S0 : MS} {ls : Array Slot} (C : CF p l s m args meth c "SkirmishGrid$Row" cX6_takeFrom 5 G A) (hr : meth.sig.returnType = (some .boolean)) (hex : ∀ x ∈ c.exceptionTable.toList, False) (Q : Int32 → MS → Prop) (QX : String → MS → Prop) (k5 : MS → Nat → Nat → Int32 → Int32 → Int32 → Prop) (kh5 : ∀ (S : MS) (a0 : Nat) (u1 : Nat) (y2 : Int32) (y3 : Int32) (y4 : Int32) (cells slots : Nat) (H : Heap) (locs : List Loc) (ls : Array Slot), pI S 6 a0 → pI S 6 u1 → PW G A s H locs S0 S → lv_has ls 5 [(0, .ref a0), (1, .ref u1), (2, .int y2), (3, .int y3), (4, .int y4)] → cells + 0 ≤ 0 → slots + 0 ≤ 0 → k5 S a0 u1 y2 y3 y4 → W p l e rmX6_takeFrom s m args below meth c H locs cells slots (vx_MQ below (QI G S0 A Q) (XX G S0 A QX) args s 0 0 A) (F0 m 5 ls [])) (S : MS) (a0 : Nat) (u1 : Nat) (y2 : Int32) (y3 : Int32) (y4 : Int32) (p_a0 : pI S 6 a0) (p_u1 : pI S 6 u1) (P : PW G A s H locs S0 S) (hl : lv_has ls 5 [(0, .ref a0), (1, .ref u1), (2, .int y2), (3, .int y3), (4, .int y4)]) (hcc : cells + 0 ≤ 0) (hss : slots + 0 ≤ 0) (hw : wX6_takeFrom_5 Q QX k5 S a0 u1 y2 y3 y4) : W p l e rmX6_takeFrom s m args below meth c H locs cells slots (vx_MQ below (QI G S0 A Q) (XX G S0 A QX) args s 0 0 A) (F0 m 5 ls []) := by
  have hx := CF_x C
  have hb := CF_b C
  unfold wX6_takeFrom_5 at hw
  refine lv_iload hx hb dX6_takeFrom_5 (lv_at hl 4 rfl) ?_
  refine lv_iload_n hx hb dX6_takeFrom_7 rfl (lv_at hl 2 rfl) ?_
  refine lv_icmp_ge (tgt := 92) hx hb dX6_takeFrom_8 (by decide) (fun hc => ?_) (fun hc => ?_)
  · have hw := hw.1 hc
    refine lv_iload_n hx hb dX6_takeFrom_92 rfl (lv_at hl 3 rfl) ?_
    obtain ⟨h1, hw⟩ := hw
    exact e_i C hr (nz h1) P hw (by omega) (by omega) dX6_takeFrom_93
  · have hw := hw.2 hc
    refine lv_aload_n hx hb dX6_takeFrom_11 rfl (lv_at hl 0 rfl) ?_
    refine gf_6_3 C P p_a0 q_283 dX6_takeFrom_12 ?_
    refine lv_if_eq (tgt := 38) hx hb dX6_takeFrom_15 (by decide) (fun hc => ?_) (fun hc => ?_)
    · have hw := hw.1 hc
      refine lv_aload_n hx hb dX6_takeFrom_38 rfl (lv_at hl 0 rfl) ?_
      obtain ⟨a1, e1, hw⟩ := hw
      have p_a1 : pI S 11 a1 := wf_r P.2.2.2.1 p_a0 e1
      refine gf_6_1 C P p_a0 e1 q_279 dX6_takeFrom_39 ?_
      refine lv_iload hx hb dX6_takeFrom_42 (lv_at hl 4 rfl) ?_
      obtain ⟨h1, hw⟩ := hw
      refine ra_f C P p_a1 h1 dX6_takeFrom_44 ?_
      refine lv_aload_n hx hb dX6_takeFrom_45 rfl (lv_at hl 1 rfl) ?_
      obtain ⟨a2, e1, hw⟩ := hw
      have p_a2 : pI S 11 a2 := wf_r P.2.2.2.1 p_u1 e1
      refine gf_6_1 C P p_u1 e1 q_279 dX6_takeFrom_46 ?_
      refine lv_iload hx hb dX6_takeFrom_49 (lv_at hl 4 rfl) ?_
      obtain ⟨h1, hw⟩ := hw
      refine ra_f C P p_a2 h1 dX6_takeFrom_51 ?_
      refine lv_fcmp hx hb dX6_takeFrom_52 ?_
      refine lv_if_eq (tgt := 58) hx hb dX6_takeFrom_53 (by decide) (fun hc => ?_) (fun hc => ?_)
      · have hw := hw.1 hc
        exact tX6_takeFrom_58 C hr hex Q QX k5 kh5 S a0 u1 y2 y3 y4 p_a0 p_u1 P (lv_sub hl [0, 1, 2, 3, 4] rfl) (by omega) (by omega) hw
      · have hw := hw.2 hc
        exact tX6_takeFrom_56 C hr hex Q QX k5 kh5 S a0 u1 y2 y4 p_a0 p_u1 P (lv_sub hl [0, 1, 2, 4] rfl) (by omega) (by omega) hw
    · have hw := hw.2 hc
      refine lv_aload_n hx hb dX6_takeFrom_18 rfl (lv_at hl 0 rfl) ?_
      obtain ⟨a3, e1, hw⟩ := hw
      have p_a3 : pI S 12 a3 := wf_r P.2.2.2.1 p_a0 e1
      refine gf_6_0 C P p_a0 e1 q_277 dX6_takeFrom_19 ?_
      refine lv_iload hx hb dX6_takeFrom_22 (lv_at hl 4 rfl) ?_
      obtain ⟨h1, hw⟩ := hw
      refine ra_i C P p_a3 h1 dX6_takeFrom_24 ?_
      refine lv_aload_n hx hb dX6_takeFrom_25 rfl (lv_at hl 1 rfl) ?_
      obtain ⟨a4, e1, hw⟩ := hw
      have p_a4 : pI S 12 a4 := wf_r P.2.2.2.1 p_u1 e1
      refine gf_6_0 C P p_u1 e1 q_277 dX6_takeFrom_26 ?_
      refine lv_iload hx hb dX6_takeFrom_29 (lv_at hl 4 rfl) ?_
      obtain ⟨h1, hw⟩ := hw
      refine ra_i C P p_a4 h1 dX6_takeFrom_31 ?_
      refine lv_icmp_eq (tgt := 58) hx hb dX6_takeFrom_32 (by decide) (fun hc => ?_) (fun hc => ?_)
      · have hw := hw.1 hc
        exact tX6_takeFrom_58 C hr hex Q QX k5 kh5 S a0 u1 y2 y3 y4 p_a0 p_u1 P (lv_sub hl [0, 1, 2, 3, 4] rfl) (by omega) (by omega) hw
      · have hw := hw.2 hc
        refine lv_goto (tgt := 56) hx hb dX6_takeFrom_35 (by decide) ?_
        exact tX6_takeFrom_56 C hr hex Q QX k5 kh5 S a0 u1 y2 y4 p_a0 p_u1 P (lv_sub hl [0, 1, 2, 4] rfl) (by omega) (by omega) hw
def lX6_takeFrom_5 (Q : Int32 → MS → Prop) (QX : String → MS → Prop) : Nat → MS → Nat → Nat → Int32 → Int32 → Int32 → Prop
  | 0 => fun _ _ _ _ _ _ => False
  | n + 1 => fun S a0 u1 y2 y3 y4 => wX6_takeFrom_5 Q QX (lX6_takeFrom_5 Q QX n) S a0 u1 y2 y3 y4
theorem tlX6_takeFrom_5 {p : Program} {l : Launch} {e : Env} {s : State} {m : MethodId} {args : Array Value} {below : List Frame} {meth : Method} {c : Code} {G : GP} {A : Nat → Prop} {S0 : MS} (C : CF p l s m args meth c "SkirmishGrid$Row" cX6_takeFrom 5 G A) (hr : meth.sig.returnType = (some .boolean)) (hex : ∀ x ∈ c.exceptionTable.toList, False) (Q : Int32 → MS → Prop) (QX : String → MS → Prop) : ∀ (n : Nat), ∀ (S : MS) (a0 : Nat) (u1 : Nat) (y2 : Int32) (y3 : Int32) (y4 : Int32) (cells slots : Nat) (H : Heap) (locs : List Loc) (ls : Array Slot), pI S 6 a0 → pI S 6 u1 → PW G A s H locs S0 S → lv_has ls 5 [(0, .ref a0), (1, .ref u1), (2, .int y2), (3, .int y3), (4, .int y4)] → cells + 0 ≤ 0 → slots + 0 ≤ 0 → lX6_takeFrom_5 Q QX n S a0 u1 y2 y3 y4 → W p l e rmX6_takeFrom s m args below meth c H locs cells slots (vx_MQ below (QI G S0 A Q) (XX G S0 A QX) args s 0 0 A) (F0 m 5 ls []) := by
  intro n
  induction n with
  | zero => intro S a0 u1 y2 y3 y4 cells slots H locs ls p_a0 p_u1 P hl hcc hss hw; exact hw.elim
  | succ n ih => intro S a0 u1 y2 y3 y4 cells slots H locs ls p_a0 p_u1 P hl hcc hss hw; exact tX6_takeFrom_5 C hr hex Q QX (lX6_takeFrom_5 Q QX n) ih S a0 u1 y2 y3 y4 p_a0 p_u1 P hl hcc hss hw
def wX6_takeFrom_0 (Q : Int32 → MS → Prop) (QX : String → MS → Prop) (S : MS) (a0 : Nat) (b1 : Nat) (x2 : Int32) : Prop := (∃ n, lX6_takeFrom_5 Q QX n S a0 b1 x2 0 0)
set_option maxHeartbeats 4000000 in
set_option maxRecDepth 100000 in
theorem tX6_takeFrom_0 {p : Program} {l : Launch} {e : Env} {s : State} {m : MethodId} {args : Array Value} {below : List Frame} {meth : Method} {c : Code} {H : Heap} {locs : List Loc} {cells slots : Nat} {G : GP} {A : Nat → Prop} {S0 : MS} {ls : Array Slot} (C : CF p l s m args meth c "SkirmishGrid$Row" cX6_takeFrom 5 G A) (hr : meth.sig.returnType = (some .boolean)) (hex : ∀ x ∈ c.exceptionTable.toList, False) (Q : Int32 → MS → Prop) (QX : String → MS → Prop) (S : MS) (a0 : Nat) (b1 : Nat) (x2 : Int32) (p_a0 : pI S 6 a0) (p_b1 : pI S 6 b1) (P : PW G A s H locs S0 S) (hl : lv_has ls 5 [(0, .ref a0), (1, .ref b1), (2, .int x2)]) (hcc : cells + 0 ≤ 0) (hss : slots + 0 ≤ 0) (hw : wX6_takeFrom_0 Q QX S a0 b1 x2) : W p l e rmX6_takeFrom s m args below meth c H locs cells slots (vx_MQ below (QI G S0 A Q) (XX G S0 A QX) args s 0 0 A) (F0 m 0 ls []) := by
  have hx := CF_x C
  have hb := CF_b C
  unfold wX6_takeFrom_0 at hw
  refine lv_iconst (v := 0) hx hb dX6_takeFrom_0 (by decide) ?_
  refine lv_istore_n (lv' := [(3, .int 0), (0, .ref a0), (1, .ref b1), (2, .int x2)]) hx hb dX6_takeFrom_1 rfl hl (by decide) rfl (fun ls hl => ?_)
  refine lv_iconst (v := 0) hx hb dX6_takeFrom_2 (by decide) ?_
  refine lv_istore (lv' := [(4, .int 0), (3, .int 0), (0, .ref a0), (1, .ref b1), (2, .int x2)]) hx hb dX6_takeFrom_3 hl (by decide) rfl (fun ls hl => ?_)
  obtain ⟨n, hw⟩ := hw
  exact tlX6_takeFrom_5 C hr hex Q QX n S a0 b1 x2 0 0 _ _ _ _ _ p_a0 p_b1 P (lv_sub hl [2, 3, 4, 1, 0] rfl) (by omega) (by omega) hw
def wp_X6_takeFrom (Q : Int32 → MS → Prop) (QX : String → MS → Prop) (S : MS) (a0 : Nat) (b1 : Nat) (x2 : Int32) : Prop := wX6_takeFrom_0 Q QX S a0 b1 x2
set_option maxHeartbeats 4000000 in
set_option maxRecDepth 100000 in
theorem met_X6_takeFrom {l : Launch} (hst : l.stackTraces = false) (G : GP) (sz : Nat) (Q : Int32 → MS → Prop) (QX : String → MS → Prop) (S : MS) (a0 : Nat) (b1 : Nat) (x2 : Int32) (p_a0 : pI S 6 a0) (p_b1 : pI S 6 b1) (hw : wp_X6_takeFrom Q QX S a0 b1 x2) : vx_Met l yX6_takeFrom (.code yX6_takeFrom cX6_takeFrom 5 (some .boolean) :: GW) rmX6_takeFrom (va_Pc [.ref a0, .ref b1, .int x2] (PR G S sz)) (QI G S (FA G S sz) Q) (XX G S (FA G S sz) QX) 0 0 (FA G S sz) := by
  refine st_m (by decide +kernel) hst (fun p e s m below meth c C hr hnm hex P => ?_)
  refine en_m (Nat.le_of_ble_eq_true rfl) (lv := [(0, .ref a0), (1, .ref b1), (2, .int x2)]) rfl (fun ls hl => ?_)
  have C : CF p l s m _ meth c "SkirmishGrid$Row" cX6_takeFrom 5 G (FA G S sz) := C
  exact tX6_takeFrom_0 C hr hex Q QX S a0 b1 x2 p_a0 p_b1 P hl (by omega) (by omega) hw
theorem cd_X6_takeFrom : yX6_takeFrom.cls = RX6 ∧ yX6_takeFrom.cls ≠ "java/lang/invoke/MethodHandle" ∧ yX6_takeFrom.cls ≠ "java/lang/invoke/VarHandle" ∧ (parseMethodDescriptor yX6_takeFrom.desc).map (fun d => d.parameters.length) = some 2 := by decide +kernel
