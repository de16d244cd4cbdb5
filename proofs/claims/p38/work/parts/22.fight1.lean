theorem q_43 : Cond.methodLink "SkirmishGrid$Fight" 3 objectInit ∈ GW := gw_t 43 (by decide +kernel) (by decide +kernel)
theorem q_44 : Cond.classLink "SkirmishGrid$Fight" 9 "SkirmishGrid$Grid" ∈ GW := gw_t 44 (by decide +kernel) (by decide +kernel)
theorem q_45 : Cond.instantiable "SkirmishGrid$Grid" 3 ∈ GW := gw_t 45 (by decide +kernel) (by decide +kernel)
theorem q_47 : Cond.instanceMethod yX3_init ∈ GW := gw_t 47 (by decide +kernel) (by decide +kernel)
theorem q_48 : Cond.code yX3_init cX3_init 1 none ∈ GW := gw_t 48 (by decide +kernel) (by decide +kernel)
theorem q_161 : Cond.fieldLink "SkirmishGrid$Fight" 12 "SkirmishGrid$Fight" "grid" "LSkirmishGrid$Grid;" ∈ GW := gw_t 161 (by decide +kernel) (by decide +kernel)
theorem q_66 : Cond.classLink "SkirmishGrid$Fight" 18 "SkirmishGrid$Unit" ∈ GW := gw_t 66 (by decide +kernel) (by decide +kernel)
theorem q_164 : Cond.fieldLink "SkirmishGrid$Fight" 20 "SkirmishGrid$Fight" "units" "[LSkirmishGrid$Unit;" ∈ GW := gw_t 164 (by decide +kernel) (by decide +kernel)
theorem q_172 : Cond.fieldLink "SkirmishGrid$Fight" 24 "SkirmishGrid$Fight" "order" "[I" ∈ GW := gw_t 172 (by decide +kernel) (by decide +kernel)
theorem q_177 : Cond.fieldLink "SkirmishGrid$Fight" 28 "SkirmishGrid$Fight" "current" "I" ∈ GW := gw_t 177 (by decide +kernel) (by decide +kernel)
theorem q_183 : Cond.fieldLink "SkirmishGrid$Fight" 32 "SkirmishGrid$Fight" "seed" "I" ∈ GW := gw_t 183 (by decide +kernel) (by decide +kernel)
theorem q_184 : Cond.fieldLink "SkirmishGrid$Fight" 35 "SkirmishGrid$Fight" "z" "I" ∈ GW := gw_t 184 (by decide +kernel) (by decide +kernel)
theorem q_68 : Cond.classLink "SkirmishGrid$Fight" 38 "SkirmishGrid$Events" ∈ GW := gw_t 68 (by decide +kernel) (by decide +kernel)
theorem q_69 : Cond.instantiable "SkirmishGrid$Events" 4 ∈ GW := gw_t 69 (by decide +kernel) (by decide +kernel)
theorem q_4 : Cond.initialized "SkirmishGrid$Events" ∈ GW := gw_t 4 (by decide +kernel) (by decide +kernel)
theorem q_71 : Cond.instanceMethod yX1_init ∈ GW := gw_t 71 (by decide +kernel) (by decide +kernel)
theorem q_72 : Cond.code yX1_init cX1_init 1 none ∈ GW := gw_t 72 (by decide +kernel) (by decide +kernel)
theorem q_185 : Cond.fieldLink "SkirmishGrid$Fight" 41 "SkirmishGrid$Fight" "events" "LSkirmishGrid$Events;" ∈ GW := gw_t 185 (by decide +kernel) (by decide +kernel)
theorem q_89 : Cond.instantiable "SkirmishGrid$Unit" 13 ∈ GW := gw_t 89 (by decide +kernel) (by decide +kernel)
theorem q_5 : Cond.initialized "SkirmishGrid$Unit" ∈ GW := gw_t 5 (by decide +kernel) (by decide +kernel)
theorem q_90 : Cond.methodLink "SkirmishGrid$Fight" 45 yX7_init ∈ GW := gw_t 90 (by decide +kernel) (by decide +kernel)
theorem q_91 : Cond.instanceMethod yX7_init ∈ GW := gw_t 91 (by decide +kernel) (by decide +kernel)
theorem q_92 : Cond.code yX7_init cX7_init 2 none ∈ GW := gw_t 92 (by decide +kernel) (by decide +kernel)
theorem q_168 : Cond.fieldLink "SkirmishGrid$Fight" 48 "SkirmishGrid$Fight" "unitCount" "I" ∈ GW := gw_t 168 (by decide +kernel) (by decide +kernel)
theorem q_174 : Cond.fieldLink "SkirmishGrid$Fight" 51 "SkirmishGrid$Fight" "orderLength" "I" ∈ GW := gw_t 174 (by decide +kernel) (by decide +kernel)
theorem q_176 : Cond.fieldLink "SkirmishGrid$Fight" 54 "SkirmishGrid$Fight" "turn" "I" ∈ GW := gw_t 176 (by decide +kernel) (by decide +kernel)
theorem q_179 : Cond.fieldLink "SkirmishGrid$Fight" 57 "SkirmishGrid$Fight" "actions" "I" ∈ GW := gw_t 179 (by decide +kernel) (by decide +kernel)
theorem q_181 : Cond.fieldLink "SkirmishGrid$Fight" 60 "SkirmishGrid$Fight" "round" "I" ∈ GW := gw_t 181 (by decide +kernel) (by decide +kernel)
theorem q_78 : Cond.fieldLink "SkirmishGrid$Fight" 63 "SkirmishGrid$Events" "count" "I" ∈ GW := gw_t 78 (by decide +kernel) (by decide +kernel)
theorem q_390 : Cond.methodLink "SkirmishGrid$Fight" 73 arraycopyName ∈ GW := gw_t 390 (by decide +kernel) (by decide +kernel)
theorem q_391 : Cond.methodLink "SkirmishGrid$Fight" 79 yX1_copyFrom ∈ GW := gw_t 391 (by decide +kernel) (by decide +kernel)
theorem q_392 : Cond.instanceMethod yX1_copyFrom ∈ GW := gw_t 392 (by decide +kernel) (by decide +kernel)
theorem q_393 : Cond.selects "SkirmishGrid$Events" yX1_copyFrom yX1_copyFrom ∈ GW := gw_t 393 (by decide +kernel) (by decide +kernel)
theorem q_394 : Cond.code yX1_copyFrom cX1_copyFrom 2 none ∈ GW := gw_t 394 (by decide +kernel) (by decide +kernel)
theorem q_386 : Cond.methodLink "SkirmishGrid$Fight" 70 yX7_copyFrom ∈ GW := gw_t 386 (by decide +kernel) (by decide +kernel)
theorem q_387 : Cond.instanceMethod yX7_copyFrom ∈ GW := gw_t 387 (by decide +kernel) (by decide +kernel)
theorem q_388 : Cond.selects "SkirmishGrid$Unit" yX7_copyFrom yX7_copyFrom ∈ GW := gw_t 388 (by decide +kernel) (by decide +kernel)
theorem q_389 : Cond.code yX7_copyFrom cX7_copyFrom 2 none ∈ GW := gw_t 389 (by decide +kernel) (by decide +kernel)
theorem q_379 : Cond.methodLink "SkirmishGrid$Fight" 66 yX3_copyFrom ∈ GW := gw_t 379 (by decide +kernel) (by decide +kernel)
theorem q_380 : Cond.instanceMethod yX3_copyFrom ∈ GW := gw_t 380 (by decide +kernel) (by decide +kernel)
theorem q_381 : Cond.selects "SkirmishGrid$Grid" yX3_copyFrom yX3_copyFrom ∈ GW := gw_t 381 (by decide +kernel) (by decide +kernel)
theorem q_382 : Cond.code yX3_copyFrom cX3_copyFrom 2 none ∈ GW := gw_t 382 (by decide +kernel) (by decide +kernel)
theorem q_795 : Cond.methodLink "SkirmishGrid$Fight" 116 yX7_enter ∈ GW := gw_t 795 (by decide +kernel) (by decide +kernel)
theorem q_796 : Cond.instanceMethod yX7_enter ∈ GW := gw_t 796 (by decide +kernel) (by decide +kernel)
theorem q_797 : Cond.selects "SkirmishGrid$Unit" yX7_enter yX7_enter ∈ GW := gw_t 797 (by decide +kernel) (by decide +kernel)
theorem q_798 : Cond.code yX7_enter cX7_enter 4 none ∈ GW := gw_t 798 (by decide +kernel) (by decide +kernel)
theorem q_97 : Cond.fieldLink "SkirmishGrid$Fight" 85 "SkirmishGrid$Unit" "team" "I" ∈ GW := gw_t 97 (by decide +kernel) (by decide +kernel)
theorem q_101 : Cond.fieldLink "SkirmishGrid$Fight" 88 "SkirmishGrid$Unit" "kind" "I" ∈ GW := gw_t 101 (by decide +kernel) (by decide +kernel)
theorem q_104 : Cond.fieldLink "SkirmishGrid$Fight" 91 "SkirmishGrid$Unit" "firstCell" "I" ∈ GW := gw_t 104 (by decide +kernel) (by decide +kernel)
theorem q_1200 : Cond.methodLink "SkirmishGrid$Fight" 94 yX2_enlist ∈ GW := gw_t 1200 (by decide +kernel) (by decide +kernel)
theorem q_792 : Cond.instanceMethod yX2_enlist ∈ GW := gw_t 792 (by decide +kernel) (by decide +kernel)
theorem q_793 : Cond.selects "SkirmishGrid$Fight" yX2_enlist yX2_enlist ∈ GW := gw_t 793 (by decide +kernel) (by decide +kernel)
theorem q_2 : Cond.initialized "SkirmishGrid$Fight" ∈ GW := gw_t 2 (by decide +kernel) (by decide +kernel)
theorem q_794 : Cond.code yX2_enlist cX2_enlist 4 (some .int) ∈ GW := gw_t 794 (by decide +kernel) (by decide +kernel)
theorem q_1199 : Cond.methodLink "SkirmishGrid$Fight" 82 yX2_reset ∈ GW := gw_t 1199 (by decide +kernel) (by decide +kernel)
theorem q_620 : Cond.instanceMethod yX2_reset ∈ GW := gw_t 620 (by decide +kernel) (by decide +kernel)
theorem q_621 : Cond.selects "SkirmishGrid$Fight" yX2_reset yX2_reset ∈ GW := gw_t 621 (by decide +kernel) (by decide +kernel)
theorem q_622 : Cond.code yX2_reset cX2_reset 2 none ∈ GW := gw_t 622 (by decide +kernel) (by decide +kernel)
theorem q_1220 : Cond.methodLink "SkirmishGrid$Fight" 102 yX1_isSameAs ∈ GW := gw_t 1220 (by decide +kernel) (by decide +kernel)
theorem q_1221 : Cond.instanceMethod yX1_isSameAs ∈ GW := gw_t 1221 (by decide +kernel) (by decide +kernel)
theorem q_1222 : Cond.selects "SkirmishGrid$Events" yX1_isSameAs yX1_isSameAs ∈ GW := gw_t 1222 (by decide +kernel) (by decide +kernel)
theorem q_1223 : Cond.code yX1_isSameAs cX1_isSameAs 3 (some .boolean) ∈ GW := gw_t 1223 (by decide +kernel) (by decide +kernel)
theorem q_1216 : Cond.methodLink "SkirmishGrid$Fight" 98 yX7_isSameAs ∈ GW := gw_t 1216 (by decide +kernel) (by decide +kernel)
theorem q_1217 : Cond.instanceMethod yX7_isSameAs ∈ GW := gw_t 1217 (by decide +kernel) (by decide +kernel)
theorem q_1218 : Cond.selects "SkirmishGrid$Unit" yX7_isSameAs yX7_isSameAs ∈ GW := gw_t 1218 (by decide +kernel) (by decide +kernel)
theorem q_1219 : Cond.code yX7_isSameAs cX7_isSameAs 2 (some .boolean) ∈ GW := gw_t 1219 (by decide +kernel) (by decide +kernel)
theorem q_355 : Cond.methodLink "SkirmishGrid$Fight" 105 yX7_lives ∈ GW := gw_t 355 (by decide +kernel) (by decide +kernel)
theorem q_356 : Cond.instanceMethod yX7_lives ∈ GW := gw_t 356 (by decide +kernel) (by decide +kernel)
theorem q_357 : Cond.selects "SkirmishGrid$Unit" yX7_lives yX7_lives ∈ GW := gw_t 357 (by decide +kernel) (by decide +kernel)
theorem q_358 : Cond.code yX7_lives cX7_lives 1 (some .boolean) ∈ GW := gw_t 358 (by decide +kernel) (by decide +kernel)
theorem q_833 : Cond.methodLink "SkirmishGrid$Fight" 109 yX2_hasLiving ∈ GW := gw_t 833 (by decide +kernel) (by decide +kernel)
theorem q_352 : Cond.instanceMethod yX2_hasLiving ∈ GW := gw_t 352 (by decide +kernel) (by decide +kernel)
theorem q_353 : Cond.selects "SkirmishGrid$Fight" yX2_hasLiving yX2_hasLiving ∈ GW := gw_t 353 (by decide +kernel) (by decide +kernel)
theorem q_354 : Cond.code yX2_hasLiving cX2_hasLiving 3 (some .boolean) ∈ GW := gw_t 354 (by decide +kernel) (by decide +kernel)
theorem q_107 : Cond.fieldLink "SkirmishGrid$Fight" 113 "SkirmishGrid$Unit" "cell" "I" ∈ GW := gw_t 107 (by decide +kernel) (by decide +kernel)
theorem q_851 : Cond.constant "SkirmishGrid$Fight" 120 1103515245 ∈ GW := gw_t 851 (by decide +kernel) (by decide +kernel)
theorem dX2_init_0 : decode cX2_init 0 = .ok (.aload_n 0, 1) := by decide +kernel
theorem dX2_init_1 : decode cX2_init 1 = .ok (.invokespecial 3, 3) := by decide +kernel
theorem dX2_init_4 : decode cX2_init 4 = .ok (.aload_n 0, 1) := by decide +kernel
theorem dX2_init_5 : decode cX2_init 5 = .ok (.new 9, 3) := by decide +kernel
theorem dX2_init_8 : decode cX2_init 8 = .ok (.dup, 1) := by decide +kernel
theorem dX2_init_9 : decode cX2_init 9 = .ok (.invokespecial 11, 3) := by decide +kernel
theorem dX2_init_12 : decode cX2_init 12 = .ok (.putfield 12, 3) := by decide +kernel
theorem dX2_init_15 : decode cX2_init 15 = .ok (.aload_n 0, 1) := by decide +kernel
theorem dX2_init_16 : decode cX2_init 16 = .ok (.bipush 8, 2) := by decide +kernel
theorem dX2_init_18 : decode cX2_init 18 = .ok (.anewarray 18, 3) := by decide +kernel
theorem dX2_init_21 : decode cX2_init 21 = .ok (.putfield 20, 3) := by decide +kernel
theorem dX2_init_24 : decode cX2_init 24 = .ok (.aload_n 0, 1) := by decide +kernel
theorem dX2_init_25 : decode cX2_init 25 = .ok (.bipush 8, 2) := by decide +kernel
theorem dX2_init_27 : decode cX2_init 27 = .ok (.newarray .int, 2) := by decide +kernel
theorem dX2_init_29 : decode cX2_init 29 = .ok (.putfield 24, 3) := by decide +kernel
theorem dX2_init_32 : decode cX2_init 32 = .ok (.aload_n 0, 1) := by decide +kernel
theorem dX2_init_33 : decode cX2_init 33 = .ok (.iconst (-1), 1) := by decide +kernel
theorem dX2_init_34 : decode cX2_init 34 = .ok (.putfield 28, 3) := by decide +kernel
theorem dX2_init_37 : decode cX2_init 37 = .ok (.aload_n 0, 1) := by decide +kernel
theorem dX2_init_38 : decode cX2_init 38 = .ok (.iconst 1, 1) := by decide +kernel
theorem dX2_init_39 : decode cX2_init 39 = .ok (.putfield 32, 3) := by decide +kernel
theorem dX2_init_42 : decode cX2_init 42 = .ok (.aload_n 0, 1) := by decide +kernel
theorem dX2_init_43 : decode cX2_init 43 = .ok (.iconst 1, 1) := by decide +kernel
theorem dX2_init_44 : decode cX2_init 44 = .ok (.putfield 35, 3) := by decide +kernel
theorem dX2_init_47 : decode cX2_init 47 = .ok (.aload_n 0, 1) := by decide +kernel
theorem dX2_init_48 : decode cX2_init 48 = .ok (.new 38, 3) := by decide +kernel
theorem dX2_init_51 : decode cX2_init 51 = .ok (.dup, 1) := by decide +kernel
theorem dX2_init_52 : decode cX2_init 52 = .ok (.invokespecial 40, 3) := by decide +kernel
theorem dX2_init_55 : decode cX2_init 55 = .ok (.putfield 41, 3) := by decide +kernel
theorem dX2_init_58 : decode cX2_init 58 = .ok (.iconst 0, 1) := by decide +kernel
theorem dX2_init_59 : decode cX2_init 59 = .ok (.istore_n 1, 1) := by decide +kernel
theorem dX2_init_60 : decode cX2_init 60 = .ok (.iload_n 1, 1) := by decide +kernel
theorem dX2_init_61 : decode cX2_init 61 = .ok (.bipush 8, 2) := by decide +kernel
theorem dX2_init_63 : decode cX2_init 63 = .ok (.if_icmp .ge 23, 3) := by decide +kernel
theorem dX2_init_66 : decode cX2_init 66 = .ok (.aload_n 0, 1) := by decide +kernel
theorem dX2_init_67 : decode cX2_init 67 = .ok (.getfield 20, 3) := by decide +kernel
theorem dX2_init_70 : decode cX2_init 70 = .ok (.iload_n 1, 1) := by decide +kernel
theorem dX2_init_71 : decode cX2_init 71 = .ok (.new 18, 3) := by decide +kernel
theorem dX2_init_74 : decode cX2_init 74 = .ok (.dup, 1) := by decide +kernel
theorem dX2_init_75 : decode cX2_init 75 = .ok (.iload_n 1, 1) := by decide +kernel
theorem dX2_init_76 : decode cX2_init 76 = .ok (.invokespecial 45, 3) := by decide +kernel
theorem dX2_init_79 : decode cX2_init 79 = .ok (.aastore, 1) := by decide +kernel
theorem dX2_init_80 : decode cX2_init 80 = .ok (.iinc 1 1, 3) := by decide +kernel
theorem dX2_init_83 : decode cX2_init 83 = .ok (.goto (-23), 3) := by decide +kernel
theorem dX2_init_86 : decode cX2_init 86 = .ok (.return_, 1) := by decide +kernel
theorem dX2_reset_0 : decode cX2_reset 0 = .ok (.aload_n 0, 1) := by decide +kernel
theorem dX2_reset_1 : decode cX2_reset 1 = .ok (.iconst 0, 1) := by decide +kernel
theorem dX2_reset_2 : decode cX2_reset 2 = .ok (.putfield 48, 3) := by decide +kernel
theorem dX2_reset_5 : decode cX2_reset 5 = .ok (.aload_n 0, 1) := by decide +kernel
theorem dX2_reset_6 : decode cX2_reset 6 = .ok (.iconst 0, 1) := by decide +kernel
theorem dX2_reset_7 : decode cX2_reset 7 = .ok (.putfield 51, 3) := by decide +kernel
theorem dX2_reset_10 : decode cX2_reset 10 = .ok (.aload_n 0, 1) := by decide +kernel
theorem dX2_reset_11 : decode cX2_reset 11 = .ok (.iconst 0, 1) := by decide +kernel
theorem dX2_reset_12 : decode cX2_reset 12 = .ok (.putfield 54, 3) := by decide +kernel
theorem dX2_reset_15 : decode cX2_reset 15 = .ok (.aload_n 0, 1) := by decide +kernel
theorem dX2_reset_16 : decode cX2_reset 16 = .ok (.iconst (-1), 1) := by decide +kernel
theorem dX2_reset_17 : decode cX2_reset 17 = .ok (.putfield 28, 3) := by decide +kernel
theorem dX2_reset_20 : decode cX2_reset 20 = .ok (.aload_n 0, 1) := by decide +kernel
theorem dX2_reset_21 : decode cX2_reset 21 = .ok (.iconst 0, 1) := by decide +kernel
theorem dX2_reset_22 : decode cX2_reset 22 = .ok (.putfield 57, 3) := by decide +kernel
theorem dX2_reset_25 : decode cX2_reset 25 = .ok (.aload_n 0, 1) := by decide +kernel
theorem dX2_reset_26 : decode cX2_reset 26 = .ok (.iconst 0, 1) := by decide +kernel
theorem dX2_reset_27 : decode cX2_reset 27 = .ok (.putfield 60, 3) := by decide +kernel
theorem dX2_reset_30 : decode cX2_reset 30 = .ok (.aload_n 0, 1) := by decide +kernel
theorem dX2_reset_31 : decode cX2_reset 31 = .ok (.iload_n 1, 1) := by decide +kernel
theorem dX2_reset_32 : decode cX2_reset 32 = .ok (.putfield 32, 3) := by decide +kernel
theorem dX2_reset_35 : decode cX2_reset 35 = .ok (.aload_n 0, 1) := by decide +kernel
theorem dX2_reset_36 : decode cX2_reset 36 = .ok (.iload_n 1, 1) := by decide +kernel
theorem dX2_reset_37 : decode cX2_reset 37 = .ok (.putfield 35, 3) := by decide +kernel
theorem dX2_reset_40 : decode cX2_reset 40 = .ok (.aload_n 0, 1) := by decide +kernel
theorem dX2_reset_41 : decode cX2_reset 41 = .ok (.getfield 41, 3) := by decide +kernel
theorem dX2_reset_44 : decode cX2_reset 44 = .ok (.iconst 0, 1) := by decide +kernel
theorem dX2_reset_45 : decode cX2_reset 45 = .ok (.putfield 63, 3) := by decide +kernel
theorem dX2_reset_48 : decode cX2_reset 48 = .ok (.return_, 1) := by decide +kernel
theorem dX2_copyFrom_0 : decode cX2_copyFrom 0 = .ok (.aload_n 0, 1) := by decide +kernel
theorem dX2_copyFrom_1 : decode cX2_copyFrom 1 = .ok (.getfield 12, 3) := by decide +kernel
theorem dX2_copyFrom_4 : decode cX2_copyFrom 4 = .ok (.aload_n 1, 1) := by decide +kernel
theorem dX2_copyFrom_5 : decode cX2_copyFrom 5 = .ok (.getfield 12, 3) := by decide +kernel
theorem dX2_copyFrom_8 : decode cX2_copyFrom 8 = .ok (.invokevirtual 66, 3) := by decide +kernel
theorem dX2_copyFrom_11 : decode cX2_copyFrom 11 = .ok (.aload_n 0, 1) := by decide +kernel
theorem dX2_copyFrom_12 : decode cX2_copyFrom 12 = .ok (.aload_n 1, 1) := by decide +kernel
theorem dX2_copyFrom_13 : decode cX2_copyFrom 13 = .ok (.getfield 48, 3) := by decide +kernel
theorem dX2_copyFrom_16 : decode cX2_copyFrom 16 = .ok (.putfield 48, 3) := by decide +kernel
theorem dX2_copyFrom_19 : decode cX2_copyFrom 19 = .ok (.iconst 0, 1) := by decide +kernel
theorem dX2_copyFrom_20 : decode cX2_copyFrom 20 = .ok (.istore_n 2, 1) := by decide +kernel
theorem dX2_copyFrom_21 : decode cX2_copyFrom 21 = .ok (.iload_n 2, 1) := by decide +kernel
theorem dX2_copyFrom_22 : decode cX2_copyFrom 22 = .ok (.aload_n 0, 1) := by decide +kernel
theorem dX2_copyFrom_23 : decode cX2_copyFrom 23 = .ok (.getfield 48, 3) := by decide +kernel
theorem dX2_copyFrom_26 : decode cX2_copyFrom 26 = .ok (.if_icmp .ge 24, 3) := by decide +kernel
theorem dX2_copyFrom_29 : decode cX2_copyFrom 29 = .ok (.aload_n 0, 1) := by decide +kernel
theorem dX2_copyFrom_30 : decode cX2_copyFrom 30 = .ok (.getfield 20, 3) := by decide +kernel
theorem dX2_copyFrom_33 : decode cX2_copyFrom 33 = .ok (.iload_n 2, 1) := by decide +kernel
theorem dX2_copyFrom_34 : decode cX2_copyFrom 34 = .ok (.aaload, 1) := by decide +kernel
theorem dX2_copyFrom_35 : decode cX2_copyFrom 35 = .ok (.aload_n 1, 1) := by decide +kernel
theorem dX2_copyFrom_36 : decode cX2_copyFrom 36 = .ok (.getfield 20, 3) := by decide +kernel
theorem dX2_copyFrom_39 : decode cX2_copyFrom 39 = .ok (.iload_n 2, 1) := by decide +kernel
theorem dX2_copyFrom_40 : decode cX2_copyFrom 40 = .ok (.aaload, 1) := by decide +kernel
theorem dX2_copyFrom_41 : decode cX2_copyFrom 41 = .ok (.invokevirtual 70, 3) := by decide +kernel
theorem dX2_copyFrom_44 : decode cX2_copyFrom 44 = .ok (.iinc 2 1, 3) := by decide +kernel
theorem dX2_copyFrom_47 : decode cX2_copyFrom 47 = .ok (.goto (-26), 3) := by decide +kernel
theorem dX2_copyFrom_50 : decode cX2_copyFrom 50 = .ok (.aload_n 1, 1) := by decide +kernel
theorem dX2_copyFrom_51 : decode cX2_copyFrom 51 = .ok (.getfield 24, 3) := by decide +kernel
theorem dX2_copyFrom_54 : decode cX2_copyFrom 54 = .ok (.iconst 0, 1) := by decide +kernel
theorem dX2_copyFrom_55 : decode cX2_copyFrom 55 = .ok (.aload_n 0, 1) := by decide +kernel
theorem dX2_copyFrom_56 : decode cX2_copyFrom 56 = .ok (.getfield 24, 3) := by decide +kernel
theorem dX2_copyFrom_59 : decode cX2_copyFrom 59 = .ok (.iconst 0, 1) := by decide +kernel
theorem dX2_copyFrom_60 : decode cX2_copyFrom 60 = .ok (.bipush 8, 2) := by decide +kernel
theorem dX2_copyFrom_62 : decode cX2_copyFrom 62 = .ok (.invokestatic 73, 3) := by decide +kernel
theorem dX2_copyFrom_65 : decode cX2_copyFrom 65 = .ok (.aload_n 0, 1) := by decide +kernel
theorem dX2_copyFrom_66 : decode cX2_copyFrom 66 = .ok (.aload_n 1, 1) := by decide +kernel
theorem dX2_copyFrom_67 : decode cX2_copyFrom 67 = .ok (.getfield 51, 3) := by decide +kernel
theorem dX2_copyFrom_70 : decode cX2_copyFrom 70 = .ok (.putfield 51, 3) := by decide +kernel
theorem dX2_copyFrom_73 : decode cX2_copyFrom 73 = .ok (.aload_n 0, 1) := by decide +kernel
theorem dX2_copyFrom_74 : decode cX2_copyFrom 74 = .ok (.aload_n 1, 1) := by decide +kernel
theorem dX2_copyFrom_75 : decode cX2_copyFrom 75 = .ok (.getfield 54, 3) := by decide +kernel
theorem dX2_copyFrom_78 : decode cX2_copyFrom 78 = .ok (.putfield 54, 3) := by decide +kernel
theorem dX2_copyFrom_81 : decode cX2_copyFrom 81 = .ok (.aload_n 0, 1) := by decide +kernel
theorem dX2_copyFrom_82 : decode cX2_copyFrom 82 = .ok (.aload_n 1, 1) := by decide +kernel
theorem dX2_copyFrom_83 : decode cX2_copyFrom 83 = .ok (.getfield 28, 3) := by decide +kernel
theorem dX2_copyFrom_86 : decode cX2_copyFrom 86 = .ok (.putfield 28, 3) := by decide +kernel
theorem dX2_copyFrom_89 : decode cX2_copyFrom 89 = .ok (.aload_n 0, 1) := by decide +kernel
theorem dX2_copyFrom_90 : decode cX2_copyFrom 90 = .ok (.aload_n 1, 1) := by decide +kernel
theorem dX2_copyFrom_91 : decode cX2_copyFrom 91 = .ok (.getfield 57, 3) := by decide +kernel
theorem dX2_copyFrom_94 : decode cX2_copyFrom 94 = .ok (.putfield 57, 3) := by decide +kernel
theorem dX2_copyFrom_97 : decode cX2_copyFrom 97 = .ok (.aload_n 0, 1) := by decide +kernel
theorem dX2_copyFrom_98 : decode cX2_copyFrom 98 = .ok (.aload_n 1, 1) := by decide +kernel
theorem dX2_copyFrom_99 : decode cX2_copyFrom 99 = .ok (.getfield 60, 3) := by decide +kernel
theorem dX2_copyFrom_102 : decode cX2_copyFrom 102 = .ok (.putfield 60, 3) := by decide +kernel
theorem dX2_copyFrom_105 : decode cX2_copyFrom 105 = .ok (.aload_n 0, 1) := by decide +kernel
theorem dX2_copyFrom_106 : decode cX2_copyFrom 106 = .ok (.aload_n 1, 1) := by decide +kernel
theorem dX2_copyFrom_107 : decode cX2_copyFrom 107 = .ok (.getfield 32, 3) := by decide +kernel
theorem dX2_copyFrom_110 : decode cX2_copyFrom 110 = .ok (.putfield 32, 3) := by decide +kernel
theorem dX2_copyFrom_113 : decode cX2_copyFrom 113 = .ok (.aload_n 0, 1) := by decide +kernel
theorem dX2_copyFrom_114 : decode cX2_copyFrom 114 = .ok (.aload_n 1, 1) := by decide +kernel
theorem dX2_copyFrom_115 : decode cX2_copyFrom 115 = .ok (.getfield 35, 3) := by decide +kernel
theorem dX2_copyFrom_118 : decode cX2_copyFrom 118 = .ok (.putfield 35, 3) := by decide +kernel
theorem dX2_copyFrom_121 : decode cX2_copyFrom 121 = .ok (.aload_n 0, 1) := by decide +kernel
theorem dX2_copyFrom_122 : decode cX2_copyFrom 122 = .ok (.getfield 41, 3) := by decide +kernel
theorem dX2_copyFrom_125 : decode cX2_copyFrom 125 = .ok (.aload_n 1, 1) := by decide +kernel
theorem dX2_copyFrom_126 : decode cX2_copyFrom 126 = .ok (.getfield 41, 3) := by decide +kernel
theorem dX2_copyFrom_129 : decode cX2_copyFrom 129 = .ok (.invokevirtual 79, 3) := by decide +kernel
theorem dX2_copyFrom_132 : decode cX2_copyFrom 132 = .ok (.return_, 1) := by decide +kernel
theorem dX2_enlist_0 : decode cX2_enlist 0 = .ok (.aload_n 0, 1) := by decide +kernel
theorem dX2_enlist_1 : decode cX2_enlist 1 = .ok (.getfield 48, 3) := by decide +kernel
theorem dX2_enlist_4 : decode cX2_enlist 4 = .ok (.bipush 8, 2) := by decide +kernel
theorem dX2_enlist_6 : decode cX2_enlist 6 = .ok (.if_icmp .lt 5, 3) := by decide +kernel
theorem dX2_enlist_9 : decode cX2_enlist 9 = .ok (.iconst (-1), 1) := by decide +kernel
theorem dX2_enlist_10 : decode cX2_enlist 10 = .ok (.ireturn, 1) := by decide +kernel
theorem dX2_enlist_11 : decode cX2_enlist 11 = .ok (.aload_n 0, 1) := by decide +kernel
theorem dX2_enlist_12 : decode cX2_enlist 12 = .ok (.getfield 20, 3) := by decide +kernel
theorem dX2_enlist_15 : decode cX2_enlist 15 = .ok (.aload_n 0, 1) := by decide +kernel
theorem dX2_enlist_16 : decode cX2_enlist 16 = .ok (.getfield 48, 3) := by decide +kernel
theorem dX2_enlist_19 : decode cX2_enlist 19 = .ok (.aaload, 1) := by decide +kernel
theorem dX2_enlist_20 : decode cX2_enlist 20 = .ok (.iload_n 1, 1) := by decide +kernel
theorem dX2_enlist_21 : decode cX2_enlist 21 = .ok (.iload_n 2, 1) := by decide +kernel
theorem dX2_enlist_22 : decode cX2_enlist 22 = .ok (.iload_n 3, 1) := by decide +kernel
theorem dX2_enlist_23 : decode cX2_enlist 23 = .ok (.invokevirtual 116, 3) := by decide +kernel
theorem dX2_enlist_26 : decode cX2_enlist 26 = .ok (.aload_n 0, 1) := by decide +kernel
theorem dX2_enlist_27 : decode cX2_enlist 27 = .ok (.dup, 1) := by decide +kernel
theorem dX2_enlist_28 : decode cX2_enlist 28 = .ok (.getfield 48, 3) := by decide +kernel
theorem dX2_enlist_31 : decode cX2_enlist 31 = .ok (.iconst 1, 1) := by decide +kernel
theorem dX2_enlist_32 : decode cX2_enlist 32 = .ok (.iadd, 1) := by decide +kernel
theorem dX2_enlist_33 : decode cX2_enlist 33 = .ok (.putfield 48, 3) := by decide +kernel
theorem dX2_enlist_36 : decode cX2_enlist 36 = .ok (.aload_n 0, 1) := by decide +kernel
theorem dX2_enlist_37 : decode cX2_enlist 37 = .ok (.getfield 48, 3) := by decide +kernel
theorem dX2_enlist_40 : decode cX2_enlist 40 = .ok (.iconst 1, 1) := by decide +kernel
theorem dX2_enlist_41 : decode cX2_enlist 41 = .ok (.isub, 1) := by decide +kernel
theorem dX2_enlist_42 : decode cX2_enlist 42 = .ok (.ireturn, 1) := by decide +kernel
theorem dX2_prepareLike_0 : decode cX2_prepareLike 0 = .ok (.aload_n 0, 1) := by decide +kernel
theorem dX2_prepareLike_1 : decode cX2_prepareLike 1 = .ok (.aload_n 1, 1) := by decide +kernel
theorem dX2_prepareLike_2 : decode cX2_prepareLike 2 = .ok (.getfield 32, 3) := by decide +kernel
theorem dX2_prepareLike_5 : decode cX2_prepareLike 5 = .ok (.invokevirtual 82, 3) := by decide +kernel
theorem dX2_prepareLike_8 : decode cX2_prepareLike 8 = .ok (.aload_n 0, 1) := by decide +kernel
theorem dX2_prepareLike_9 : decode cX2_prepareLike 9 = .ok (.getfield 12, 3) := by decide +kernel
theorem dX2_prepareLike_12 : decode cX2_prepareLike 12 = .ok (.aload_n 1, 1) := by decide +kernel
theorem dX2_prepareLike_13 : decode cX2_prepareLike 13 = .ok (.getfield 12, 3) := by decide +kernel
theorem dX2_prepareLike_16 : decode cX2_prepareLike 16 = .ok (.invokevirtual 66, 3) := by decide +kernel
theorem dX2_prepareLike_19 : decode cX2_prepareLike 19 = .ok (.iconst 0, 1) := by decide +kernel
theorem dX2_prepareLike_20 : decode cX2_prepareLike 20 = .ok (.istore_n 2, 1) := by decide +kernel
theorem dX2_prepareLike_21 : decode cX2_prepareLike 21 = .ok (.iload_n 2, 1) := by decide +kernel
theorem dX2_prepareLike_22 : decode cX2_prepareLike 22 = .ok (.aload_n 1, 1) := by decide +kernel
theorem dX2_prepareLike_23 : decode cX2_prepareLike 23 = .ok (.getfield 48, 3) := by decide +kernel
theorem dX2_prepareLike_26 : decode cX2_prepareLike 26 = .ok (.if_icmp .ge 33, 3) := by decide +kernel
theorem dX2_prepareLike_29 : decode cX2_prepareLike 29 = .ok (.aload_n 1, 1) := by decide +kernel
theorem dX2_prepareLike_30 : decode cX2_prepareLike 30 = .ok (.getfield 20, 3) := by decide +kernel
theorem dX2_prepareLike_33 : decode cX2_prepareLike 33 = .ok (.iload_n 2, 1) := by decide +kernel
theorem dX2_prepareLike_34 : decode cX2_prepareLike 34 = .ok (.aaload, 1) := by decide +kernel
theorem dX2_prepareLike_35 : decode cX2_prepareLike 35 = .ok (.astore_n 3, 1) := by decide +kernel
theorem dX2_prepareLike_36 : decode cX2_prepareLike 36 = .ok (.aload_n 0, 1) := by decide +kernel
theorem dX2_prepareLike_37 : decode cX2_prepareLike 37 = .ok (.aload_n 3, 1) := by decide +kernel
theorem dX2_prepareLike_38 : decode cX2_prepareLike 38 = .ok (.getfield 85, 3) := by decide +kernel
theorem dX2_prepareLike_41 : decode cX2_prepareLike 41 = .ok (.aload_n 3, 1) := by decide +kernel
theorem dX2_prepareLike_42 : decode cX2_prepareLike 42 = .ok (.getfield 88, 3) := by decide +kernel
theorem dX2_prepareLike_45 : decode cX2_prepareLike 45 = .ok (.aload_n 3, 1) := by decide +kernel
theorem dX2_prepareLike_46 : decode cX2_prepareLike 46 = .ok (.getfield 91, 3) := by decide +kernel
theorem dX2_prepareLike_49 : decode cX2_prepareLike 49 = .ok (.invokevirtual 94, 3) := by decide +kernel
theorem dX2_prepareLike_52 : decode cX2_prepareLike 52 = .ok (.pop, 1) := by decide +kernel
theorem dX2_prepareLike_53 : decode cX2_prepareLike 53 = .ok (.iinc 2 1, 3) := by decide +kernel
theorem dX2_prepareLike_56 : decode cX2_prepareLike 56 = .ok (.goto (-35), 3) := by decide +kernel
theorem dX2_prepareLike_59 : decode cX2_prepareLike 59 = .ok (.return_, 1) := by decide +kernel
theorem dX2_isSameAs_0 : decode cX2_isSameAs 0 = .ok (.aload_n 0, 1) := by decide +kernel
theorem dX2_isSameAs_1 : decode cX2_isSameAs 1 = .ok (.getfield 48, 3) := by decide +kernel
theorem dX2_isSameAs_4 : decode cX2_isSameAs 4 = .ok (.aload_n 1, 1) := by decide +kernel
theorem dX2_isSameAs_5 : decode cX2_isSameAs 5 = .ok (.getfield 48, 3) := by decide +kernel
theorem dX2_isSameAs_8 : decode cX2_isSameAs 8 = .ok (.if_icmp .ne 69, 3) := by decide +kernel
theorem dX2_isSameAs_11 : decode cX2_isSameAs 11 = .ok (.aload_n 0, 1) := by decide +kernel
theorem dX2_isSameAs_12 : decode cX2_isSameAs 12 = .ok (.getfield 51, 3) := by decide +kernel
theorem dX2_isSameAs_15 : decode cX2_isSameAs 15 = .ok (.aload_n 1, 1) := by decide +kernel
theorem dX2_isSameAs_16 : decode cX2_isSameAs 16 = .ok (.getfield 51, 3) := by decide +kernel
theorem dX2_isSameAs_19 : decode cX2_isSameAs 19 = .ok (.if_icmp .ne 58, 3) := by decide +kernel
theorem dX2_isSameAs_22 : decode cX2_isSameAs 22 = .ok (.aload_n 0, 1) := by decide +kernel
theorem dX2_isSameAs_23 : decode cX2_isSameAs 23 = .ok (.getfield 54, 3) := by decide +kernel
theorem dX2_isSameAs_26 : decode cX2_isSameAs 26 = .ok (.aload_n 1, 1) := by decide +kernel
theorem dX2_isSameAs_27 : decode cX2_isSameAs 27 = .ok (.getfield 54, 3) := by decide +kernel
theorem dX2_isSameAs_30 : decode cX2_isSameAs 30 = .ok (.if_icmp .ne 47, 3) := by decide +kernel
theorem dX2_isSameAs_33 : decode cX2_isSameAs 33 = .ok (.aload_n 0, 1) := by decide +kernel
theorem dX2_isSameAs_34 : decode cX2_isSameAs 34 = .ok (.getfield 28, 3) := by decide +kernel
theorem dX2_isSameAs_37 : decode cX2_isSameAs 37 = .ok (.aload_n 1, 1) := by decide +kernel
theorem dX2_isSameAs_38 : decode cX2_isSameAs 38 = .ok (.getfield 28, 3) := by decide +kernel
theorem dX2_isSameAs_41 : decode cX2_isSameAs 41 = .ok (.if_icmp .ne 36, 3) := by decide +kernel
theorem dX2_isSameAs_44 : decode cX2_isSameAs 44 = .ok (.aload_n 0, 1) := by decide +kernel
theorem dX2_isSameAs_45 : decode cX2_isSameAs 45 = .ok (.getfield 57, 3) := by decide +kernel
theorem dX2_isSameAs_48 : decode cX2_isSameAs 48 = .ok (.aload_n 1, 1) := by decide +kernel
theorem dX2_isSameAs_49 : decode cX2_isSameAs 49 = .ok (.getfield 57, 3) := by decide +kernel
theorem dX2_isSameAs_52 : decode cX2_isSameAs 52 = .ok (.if_icmp .ne 25, 3) := by decide +kernel
theorem dX2_isSameAs_55 : decode cX2_isSameAs 55 = .ok (.aload_n 0, 1) := by decide +kernel
theorem dX2_isSameAs_56 : decode cX2_isSameAs 56 = .ok (.getfield 60, 3) := by decide +kernel
theorem dX2_isSameAs_59 : decode cX2_isSameAs 59 = .ok (.aload_n 1, 1) := by decide +kernel
theorem dX2_isSameAs_60 : decode cX2_isSameAs 60 = .ok (.getfield 60, 3) := by decide +kernel
theorem dX2_isSameAs_63 : decode cX2_isSameAs 63 = .ok (.if_icmp .ne 14, 3) := by decide +kernel
theorem dX2_isSameAs_66 : decode cX2_isSameAs 66 = .ok (.aload_n 0, 1) := by decide +kernel
theorem dX2_isSameAs_67 : decode cX2_isSameAs 67 = .ok (.getfield 35, 3) := by decide +kernel
theorem dX2_isSameAs_70 : decode cX2_isSameAs 70 = .ok (.aload_n 1, 1) := by decide +kernel
theorem dX2_isSameAs_71 : decode cX2_isSameAs 71 = .ok (.getfield 35, 3) := by decide +kernel
theorem dX2_isSameAs_74 : decode cX2_isSameAs 74 = .ok (.if_icmp .eq 5, 3) := by decide +kernel
theorem dX2_isSameAs_77 : decode cX2_isSameAs 77 = .ok (.iconst 0, 1) := by decide +kernel
theorem dX2_isSameAs_78 : decode cX2_isSameAs 78 = .ok (.ireturn, 1) := by decide +kernel
theorem dX2_isSameAs_79 : decode cX2_isSameAs 79 = .ok (.iconst 0, 1) := by decide +kernel
theorem dX2_isSameAs_80 : decode cX2_isSameAs 80 = .ok (.istore_n 2, 1) := by decide +kernel
theorem dX2_isSameAs_81 : decode cX2_isSameAs 81 = .ok (.iload_n 2, 1) := by decide +kernel
theorem dX2_isSameAs_82 : decode cX2_isSameAs 82 = .ok (.aload_n 0, 1) := by decide +kernel
theorem dX2_isSameAs_83 : decode cX2_isSameAs 83 = .ok (.getfield 48, 3) := by decide +kernel
theorem dX2_isSameAs_86 : decode cX2_isSameAs 86 = .ok (.if_icmp .ge 29, 3) := by decide +kernel
theorem dX2_isSameAs_89 : decode cX2_isSameAs 89 = .ok (.aload_n 0, 1) := by decide +kernel
theorem dX2_isSameAs_90 : decode cX2_isSameAs 90 = .ok (.getfield 20, 3) := by decide +kernel
theorem dX2_isSameAs_93 : decode cX2_isSameAs 93 = .ok (.iload_n 2, 1) := by decide +kernel
theorem dX2_isSameAs_94 : decode cX2_isSameAs 94 = .ok (.aaload, 1) := by decide +kernel
theorem dX2_isSameAs_95 : decode cX2_isSameAs 95 = .ok (.aload_n 1, 1) := by decide +kernel
theorem dX2_isSameAs_96 : decode cX2_isSameAs 96 = .ok (.getfield 20, 3) := by decide +kernel
theorem dX2_isSameAs_99 : decode cX2_isSameAs 99 = .ok (.iload_n 2, 1) := by decide +kernel
theorem dX2_isSameAs_100 : decode cX2_isSameAs 100 = .ok (.aaload, 1) := by decide +kernel
theorem dX2_isSameAs_101 : decode cX2_isSameAs 101 = .ok (.invokevirtual 98, 3) := by decide +kernel
theorem dX2_isSameAs_104 : decode cX2_isSameAs 104 = .ok (.ifCond .ne 5, 3) := by decide +kernel
theorem dX2_isSameAs_107 : decode cX2_isSameAs 107 = .ok (.iconst 0, 1) := by decide +kernel
theorem dX2_isSameAs_108 : decode cX2_isSameAs 108 = .ok (.ireturn, 1) := by decide +kernel
theorem dX2_isSameAs_109 : decode cX2_isSameAs 109 = .ok (.iinc 2 1, 3) := by decide +kernel
theorem dX2_isSameAs_112 : decode cX2_isSameAs 112 = .ok (.goto (-31), 3) := by decide +kernel
theorem dX2_isSameAs_115 : decode cX2_isSameAs 115 = .ok (.iconst 0, 1) := by decide +kernel
theorem dX2_isSameAs_116 : decode cX2_isSameAs 116 = .ok (.istore_n 2, 1) := by decide +kernel
theorem dX2_isSameAs_117 : decode cX2_isSameAs 117 = .ok (.iload_n 2, 1) := by decide +kernel
theorem dX2_isSameAs_118 : decode cX2_isSameAs 118 = .ok (.aload_n 0, 1) := by decide +kernel
theorem dX2_isSameAs_119 : decode cX2_isSameAs 119 = .ok (.getfield 51, 3) := by decide +kernel
theorem dX2_isSameAs_122 : decode cX2_isSameAs 122 = .ok (.if_icmp .ge 26, 3) := by decide +kernel
theorem dX2_isSameAs_125 : decode cX2_isSameAs 125 = .ok (.aload_n 0, 1) := by decide +kernel
theorem dX2_isSameAs_126 : decode cX2_isSameAs 126 = .ok (.getfield 24, 3) := by decide +kernel
theorem dX2_isSameAs_129 : decode cX2_isSameAs 129 = .ok (.iload_n 2, 1) := by decide +kernel
theorem dX2_isSameAs_130 : decode cX2_isSameAs 130 = .ok (.iaload, 1) := by decide +kernel
theorem dX2_isSameAs_131 : decode cX2_isSameAs 131 = .ok (.aload_n 1, 1) := by decide +kernel
theorem dX2_isSameAs_132 : decode cX2_isSameAs 132 = .ok (.getfield 24, 3) := by decide +kernel
theorem dX2_isSameAs_135 : decode cX2_isSameAs 135 = .ok (.iload_n 2, 1) := by decide +kernel
theorem dX2_isSameAs_136 : decode cX2_isSameAs 136 = .ok (.iaload, 1) := by decide +kernel
theorem dX2_isSameAs_137 : decode cX2_isSameAs 137 = .ok (.if_icmp .eq 5, 3) := by decide +kernel
theorem dX2_isSameAs_140 : decode cX2_isSameAs 140 = .ok (.iconst 0, 1) := by decide +kernel
theorem dX2_isSameAs_141 : decode cX2_isSameAs 141 = .ok (.ireturn, 1) := by decide +kernel
theorem dX2_isSameAs_142 : decode cX2_isSameAs 142 = .ok (.iinc 2 1, 3) := by decide +kernel
theorem dX2_isSameAs_145 : decode cX2_isSameAs 145 = .ok (.goto (-28), 3) := by decide +kernel
theorem dX2_isSameAs_148 : decode cX2_isSameAs 148 = .ok (.aload_n 0, 1) := by decide +kernel
theorem dX2_isSameAs_149 : decode cX2_isSameAs 149 = .ok (.getfield 41, 3) := by decide +kernel
theorem dX2_isSameAs_152 : decode cX2_isSameAs 152 = .ok (.aload_n 1, 1) := by decide +kernel
theorem dX2_isSameAs_153 : decode cX2_isSameAs 153 = .ok (.getfield 41, 3) := by decide +kernel
theorem dX2_isSameAs_156 : decode cX2_isSameAs 156 = .ok (.invokevirtual 102, 3) := by decide +kernel
theorem dX2_isSameAs_159 : decode cX2_isSameAs 159 = .ok (.ireturn, 1) := by decide +kernel
theorem dX2_hasBegun_0 : decode cX2_hasBegun 0 = .ok (.aload_n 0, 1) := by decide +kernel
theorem dX2_hasBegun_1 : decode cX2_hasBegun 1 = .ok (.getfield 60, 3) := by decide +kernel
theorem dX2_hasBegun_4 : decode cX2_hasBegun 4 = .ok (.ifCond .le 7, 3) := by decide +kernel
theorem dX2_hasBegun_7 : decode cX2_hasBegun 7 = .ok (.iconst 1, 1) := by decide +kernel
theorem dX2_hasBegun_8 : decode cX2_hasBegun 8 = .ok (.goto 4, 3) := by decide +kernel
theorem dX2_hasBegun_11 : decode cX2_hasBegun 11 = .ok (.iconst 0, 1) := by decide +kernel
theorem dX2_hasBegun_12 : decode cX2_hasBegun 12 = .ok (.ireturn, 1) := by decide +kernel
theorem dX2_hasLiving_0 : decode cX2_hasLiving 0 = .ok (.iconst 0, 1) := by decide +kernel
theorem dX2_hasLiving_1 : decode cX2_hasLiving 1 = .ok (.istore_n 2, 1) := by decide +kernel
theorem dX2_hasLiving_2 : decode cX2_hasLiving 2 = .ok (.iload_n 2, 1) := by decide +kernel
theorem dX2_hasLiving_3 : decode cX2_hasLiving 3 = .ok (.aload_n 0, 1) := by decide +kernel
theorem dX2_hasLiving_4 : decode cX2_hasLiving 4 = .ok (.getfield 48, 3) := by decide +kernel
theorem dX2_hasLiving_7 : decode cX2_hasLiving 7 = .ok (.if_icmp .ge 36, 3) := by decide +kernel
theorem dX2_hasLiving_10 : decode cX2_hasLiving 10 = .ok (.aload_n 0, 1) := by decide +kernel
theorem dX2_hasLiving_11 : decode cX2_hasLiving 11 = .ok (.getfield 20, 3) := by decide +kernel
theorem dX2_hasLiving_14 : decode cX2_hasLiving 14 = .ok (.iload_n 2, 1) := by decide +kernel
theorem dX2_hasLiving_15 : decode cX2_hasLiving 15 = .ok (.aaload, 1) := by decide +kernel
theorem dX2_hasLiving_16 : decode cX2_hasLiving 16 = .ok (.getfield 85, 3) := by decide +kernel
theorem dX2_hasLiving_19 : decode cX2_hasLiving 19 = .ok (.iload_n 1, 1) := by decide +kernel
theorem dX2_hasLiving_20 : decode cX2_hasLiving 20 = .ok (.if_icmp .ne 17, 3) := by decide +kernel
theorem dX2_hasLiving_23 : decode cX2_hasLiving 23 = .ok (.aload_n 0, 1) := by decide +kernel
theorem dX2_hasLiving_24 : decode cX2_hasLiving 24 = .ok (.getfield 20, 3) := by decide +kernel
theorem dX2_hasLiving_27 : decode cX2_hasLiving 27 = .ok (.iload_n 2, 1) := by decide +kernel
theorem dX2_hasLiving_28 : decode cX2_hasLiving 28 = .ok (.aaload, 1) := by decide +kernel
theorem dX2_hasLiving_29 : decode cX2_hasLiving 29 = .ok (.invokevirtual 105, 3) := by decide +kernel
theorem dX2_hasLiving_32 : decode cX2_hasLiving 32 = .ok (.ifCond .eq 5, 3) := by decide +kernel
theorem dX2_hasLiving_35 : decode cX2_hasLiving 35 = .ok (.iconst 1, 1) := by decide +kernel
theorem dX2_hasLiving_36 : decode cX2_hasLiving 36 = .ok (.ireturn, 1) := by decide +kernel
theorem dX2_hasLiving_37 : decode cX2_hasLiving 37 = .ok (.iinc 2 1, 3) := by decide +kernel
theorem dX2_hasLiving_40 : decode cX2_hasLiving 40 = .ok (.goto (-38), 3) := by decide +kernel
theorem dX2_hasLiving_43 : decode cX2_hasLiving 43 = .ok (.iconst 0, 1) := by decide +kernel
theorem dX2_hasLiving_44 : decode cX2_hasLiving 44 = .ok (.ireturn, 1) := by decide +kernel
theorem dX2_goesOn_0 : decode cX2_goesOn 0 = .ok (.aload_n 0, 1) := by decide +kernel
theorem dX2_goesOn_1 : decode cX2_goesOn 1 = .ok (.iconst 0, 1) := by decide +kernel
theorem dX2_goesOn_2 : decode cX2_goesOn 2 = .ok (.invokevirtual 109, 3) := by decide +kernel
theorem dX2_goesOn_5 : decode cX2_goesOn 5 = .ok (.ifCond .eq 15, 3) := by decide +kernel
theorem dX2_goesOn_8 : decode cX2_goesOn 8 = .ok (.aload_n 0, 1) := by decide +kernel
theorem dX2_goesOn_9 : decode cX2_goesOn 9 = .ok (.iconst 1, 1) := by decide +kernel
theorem dX2_goesOn_10 : decode cX2_goesOn 10 = .ok (.invokevirtual 109, 3) := by decide +kernel
theorem dX2_goesOn_13 : decode cX2_goesOn 13 = .ok (.ifCond .eq 7, 3) := by decide +kernel
theorem dX2_goesOn_16 : decode cX2_goesOn 16 = .ok (.iconst 1, 1) := by decide +kernel
theorem dX2_goesOn_17 : decode cX2_goesOn 17 = .ok (.goto 4, 3) := by decide +kernel
theorem dX2_goesOn_20 : decode cX2_goesOn 20 = .ok (.iconst 0, 1) := by decide +kernel
theorem dX2_goesOn_21 : decode cX2_goesOn 21 = .ok (.ireturn, 1) := by decide +kernel
theorem dX2_hasUnitOn_0 : decode cX2_hasUnitOn 0 = .ok (.iconst 0, 1) := by decide +kernel
theorem dX2_hasUnitOn_1 : decode cX2_hasUnitOn 1 = .ok (.istore_n 2, 1) := by decide +kernel
theorem dX2_hasUnitOn_2 : decode cX2_hasUnitOn 2 = .ok (.iload_n 2, 1) := by decide +kernel
theorem dX2_hasUnitOn_3 : decode cX2_hasUnitOn 3 = .ok (.aload_n 0, 1) := by decide +kernel
theorem dX2_hasUnitOn_4 : decode cX2_hasUnitOn 4 = .ok (.getfield 48, 3) := by decide +kernel
theorem dX2_hasUnitOn_7 : decode cX2_hasUnitOn 7 = .ok (.if_icmp .ge 24, 3) := by decide +kernel
theorem dX2_hasUnitOn_10 : decode cX2_hasUnitOn 10 = .ok (.aload_n 0, 1) := by decide +kernel
theorem dX2_hasUnitOn_11 : decode cX2_hasUnitOn 11 = .ok (.getfield 20, 3) := by decide +kernel
theorem dX2_hasUnitOn_14 : decode cX2_hasUnitOn 14 = .ok (.iload_n 2, 1) := by decide +kernel
theorem dX2_hasUnitOn_15 : decode cX2_hasUnitOn 15 = .ok (.aaload, 1) := by decide +kernel
theorem dX2_hasUnitOn_16 : decode cX2_hasUnitOn 16 = .ok (.getfield 113, 3) := by decide +kernel
theorem dX2_hasUnitOn_19 : decode cX2_hasUnitOn 19 = .ok (.iload_n 1, 1) := by decide +kernel
theorem dX2_hasUnitOn_20 : decode cX2_hasUnitOn 20 = .ok (.if_icmp .ne 5, 3) := by decide +kernel
theorem dX2_hasUnitOn_23 : decode cX2_hasUnitOn 23 = .ok (.iconst 1, 1) := by decide +kernel
theorem dX2_hasUnitOn_24 : decode cX2_hasUnitOn 24 = .ok (.ireturn, 1) := by decide +kernel
theorem dX2_hasUnitOn_25 : decode cX2_hasUnitOn 25 = .ok (.iinc 2 1, 3) := by decide +kernel
theorem dX2_hasUnitOn_28 : decode cX2_hasUnitOn 28 = .ok (.goto (-26), 3) := by decide +kernel
theorem dX2_hasUnitOn_31 : decode cX2_hasUnitOn 31 = .ok (.iconst 0, 1) := by decide +kernel
theorem dX2_hasUnitOn_32 : decode cX2_hasUnitOn 32 = .ok (.ireturn, 1) := by decide +kernel
theorem dX2_find_0 : decode cX2_find 0 = .ok (.iload_n 1, 1) := by decide +kernel
theorem dX2_find_1 : decode cX2_find 1 = .ok (.ifCond .lt 20, 3) := by decide +kernel
theorem dX2_find_4 : decode cX2_find 4 = .ok (.iload_n 1, 1) := by decide +kernel
theorem dX2_find_5 : decode cX2_find 5 = .ok (.aload_n 0, 1) := by decide +kernel
theorem dX2_find_6 : decode cX2_find 6 = .ok (.getfield 48, 3) := by decide +kernel
theorem dX2_find_9 : decode cX2_find 9 = .ok (.if_icmp .ge 12, 3) := by decide +kernel
theorem dX2_find_12 : decode cX2_find 12 = .ok (.aload_n 0, 1) := by decide +kernel
theorem dX2_find_13 : decode cX2_find 13 = .ok (.getfield 20, 3) := by decide +kernel
theorem dX2_find_16 : decode cX2_find 16 = .ok (.iload_n 1, 1) := by decide +kernel
theorem dX2_find_17 : decode cX2_find 17 = .ok (.aaload, 1) := by decide +kernel
theorem dX2_find_18 : decode cX2_find 18 = .ok (.goto 4, 3) := by decide +kernel
theorem dX2_find_21 : decode cX2_find 21 = .ok (.aconst_null, 1) := by decide +kernel
theorem dX2_find_22 : decode cX2_find 22 = .ok (.areturn, 1) := by decide +kernel
theorem dX2_onTurn_0 : decode cX2_onTurn 0 = .ok (.aload_n 0, 1) := by decide +kernel
theorem dX2_onTurn_1 : decode cX2_onTurn 1 = .ok (.getfield 28, 3) := by decide +kernel
theorem dX2_onTurn_4 : decode cX2_onTurn 4 = .ok (.ifCond .lt 26, 3) := by decide +kernel
theorem dX2_onTurn_7 : decode cX2_onTurn 7 = .ok (.aload_n 0, 1) := by decide +kernel
theorem dX2_onTurn_8 : decode cX2_onTurn 8 = .ok (.getfield 28, 3) := by decide +kernel
theorem dX2_onTurn_11 : decode cX2_onTurn 11 = .ok (.aload_n 0, 1) := by decide +kernel
theorem dX2_onTurn_12 : decode cX2_onTurn 12 = .ok (.getfield 48, 3) := by decide +kernel
theorem dX2_onTurn_15 : decode cX2_onTurn 15 = .ok (.if_icmp .ge 15, 3) := by decide +kernel
theorem dX2_onTurn_18 : decode cX2_onTurn 18 = .ok (.aload_n 0, 1) := by decide +kernel
theorem dX2_onTurn_19 : decode cX2_onTurn 19 = .ok (.getfield 20, 3) := by decide +kernel
theorem dX2_onTurn_22 : decode cX2_onTurn 22 = .ok (.aload_n 0, 1) := by decide +kernel
theorem dX2_onTurn_23 : decode cX2_onTurn 23 = .ok (.getfield 28, 3) := by decide +kernel
theorem dX2_onTurn_26 : decode cX2_onTurn 26 = .ok (.aaload, 1) := by decide +kernel
theorem dX2_onTurn_27 : decode cX2_onTurn 27 = .ok (.goto 4, 3) := by decide +kernel
theorem dX2_onTurn_30 : decode cX2_onTurn 30 = .ok (.aconst_null, 1) := by decide +kernel
theorem dX2_onTurn_31 : decode cX2_onTurn 31 = .ok (.areturn, 1) := by decide +kernel
theorem dX2_rollDie_0 : decode cX2_rollDie 0 = .ok (.aload_n 0, 1) := by decide +kernel
theorem dX2_rollDie_1 : decode cX2_rollDie 1 = .ok (.aload_n 0, 1) := by decide +kernel
theorem dX2_rollDie_2 : decode cX2_rollDie 2 = .ok (.getfield 35, 3) := by decide +kernel
theorem dX2_rollDie_5 : decode cX2_rollDie 5 = .ok (.ldc 120, 2) := by decide +kernel
theorem dX2_rollDie_7 : decode cX2_rollDie 7 = .ok (.imul, 1) := by decide +kernel
theorem dX2_rollDie_8 : decode cX2_rollDie 8 = .ok (.sipush 12345, 3) := by decide +kernel
theorem dX2_rollDie_11 : decode cX2_rollDie 11 = .ok (.iadd, 1) := by decide +kernel
theorem dX2_rollDie_12 : decode cX2_rollDie 12 = .ok (.putfield 35, 3) := by decide +kernel
theorem dX2_rollDie_15 : decode cX2_rollDie 15 = .ok (.iload_n 1, 1) := by decide +kernel
theorem dX2_rollDie_16 : decode cX2_rollDie 16 = .ok (.iconst 1, 1) := by decide +kernel
theorem dX2_rollDie_17 : decode cX2_rollDie 17 = .ok (.if_icmp .ge 7, 3) := by decide +kernel
theorem dX2_rollDie_20 : decode cX2_rollDie 20 = .ok (.iconst 1, 1) := by decide +kernel
theorem dX2_rollDie_21 : decode cX2_rollDie 21 = .ok (.goto 14, 3) := by decide +kernel
theorem dX2_rollDie_24 : decode cX2_rollDie 24 = .ok (.aload_n 0, 1) := by decide +kernel
theorem dX2_rollDie_25 : decode cX2_rollDie 25 = .ok (.getfield 35, 3) := by decide +kernel
theorem dX2_rollDie_28 : decode cX2_rollDie 28 = .ok (.bipush 16, 2) := by decide +kernel
theorem dX2_rollDie_30 : decode cX2_rollDie 30 = .ok (.iushr, 1) := by decide +kernel
theorem dX2_rollDie_31 : decode cX2_rollDie 31 = .ok (.iload_n 1, 1) := by decide +kernel
theorem dX2_rollDie_32 : decode cX2_rollDie 32 = .ok (.irem, 1) := by decide +kernel
theorem dX2_rollDie_33 : decode cX2_rollDie 33 = .ok (.iconst 1, 1) := by decide +kernel
theorem dX2_rollDie_34 : decode cX2_rollDie 34 = .ok (.iadd, 1) := by decide +kernel
theorem dX2_rollDie_35 : decode cX2_rollDie 35 = .ok (.ireturn, 1) := by decide +kernel
abbrev rmX2_init : Room := { frames := 2, cells := 16, slots := 311, locals := 61 }
def wX2_init_0 (Q : MS → Prop) (QX : String → MS → Prop) (S : MS) (a0 : Nat) : Prop := (∀ a1, a1 ∉ mL S → (∀ S2, S2 = (nw S a1 3 0) → wp_X3_init (fun S3 => (∀ S4, S4 = (sR S3 a0 0 (some a1)) → (∀ a5, a5 ∉ mL S4 → (∀ S6, S6 = (nw S4 a5 15 8) → (∀ S7, S7 = (sR S6 a0 1 (some a5)) → (∀ a8, a8 ∉ mL S7 → (∀ S9, S9 = (nw S7 a8 12 8) → (∀ S10, S10 = (sR S9 a0 3 (some a8)) → (∀ S11, S11 = (sI S10 a0 6 (-1)) → (∀ S12, S12 = (sI S11 a0 9 1) → (∀ S13, S13 = (sI S12 a0 10 1) → (∀ a14, a14 ∉ mL S13 → (∀ S15, S15 = (nw S13 a14 1 0) → wp_X1_init (fun S16 => (∀ S17, S17 = (sR S16 a0 11 (some a14)) → (∃ a18, mR S17 a0 1 = some a18 ∧ (∀ a19, a19 ∉ mL S17 → (∀ S20, S20 = (nw S17 a19 7 0) → wp_X7_init (fun S21 => (vp_in 0 (mN S21 a18) ∧ (∀ S22, S22 = (sR S21 a18 (0 : Int32).toNatClampNeg (some a19)) → (∃ a23, mR S22 a0 1 = some a23 ∧ (∀ a24, a24 ∉ mL S22 → (∀ S25, S25 = (nw S22 a24 7 0) → wp_X7_init (fun S26 => (vp_in 1 (mN S26 a23) ∧ (∀ S27, S27 = (sR S26 a23 (1 : Int32).toNatClampNeg (some a24)) → (∃ a28, mR S27 a0 1 = some a28 ∧ (∀ a29, a29 ∉ mL S27 → (∀ S30, S30 = (nw S27 a29 7 0) → wp_X7_init (fun S31 => (vp_in 2 (mN S31 a28) ∧ (∀ S32, S32 = (sR S31 a28 (2 : Int32).toNatClampNeg (some a29)) → (∃ a33, mR S32 a0 1 = some a33 ∧ (∀ a34, a34 ∉ mL S32 → (∀ S35, S35 = (nw S32 a34 7 0) → wp_X7_init (fun S36 => (vp_in 3 (mN S36 a33) ∧ (∀ S37, S37 = (sR S36 a33 (3 : Int32).toNatClampNeg (some a34)) → (∃ a38, mR S37 a0 1 = some a38 ∧ (∀ a39, a39 ∉ mL S37 → (∀ S40, S40 = (nw S37 a39 7 0) → wp_X7_init (fun S41 => (vp_in 4 (mN S41 a38) ∧ (∀ S42, S42 = (sR S41 a38 (4 : Int32).toNatClampNeg (some a39)) → (∃ a43, mR S42 a0 1 = some a43 ∧ (∀ a44, a44 ∉ mL S42 → (∀ S45, S45 = (nw S42 a44 7 0) → wp_X7_init (fun S46 => (vp_in 5 (mN S46 a43) ∧ (∀ S47, S47 = (sR S46 a43 (5 : Int32).toNatClampNeg (some a44)) → (∃ a48, mR S47 a0 1 = some a48 ∧ (∀ a49, a49 ∉ mL S47 → (∀ S50, S50 = (nw S47 a49 7 0) → wp_X7_init (fun S51 => (vp_in 6 (mN S51 a48) ∧ (∀ S52, S52 = (sR S51 a48 (6 : Int32).toNatClampNeg (some a49)) → (∃ a53, mR S52 a0 1 = some a53 ∧ (∀ a54, a54 ∉ mL S52 → (∀ S55, S55 = (nw S52 a54 7 0) → wp_X7_init (fun S56 => (vp_in 7 (mN S56 a53) ∧ (∀ S57, S57 = (sR S56 a53 (7 : Int32).toNatClampNeg (some a54)) → Q S57))) QX S55 a54 7)))))) QX S50 a49 6)))))) QX S45 a44 5)))))) QX S40 a39 4)))))) QX S35 a34 3)))))) QX S30 a29 2)))))) QX S25 a24 1)))))) QX S20 a19 0))))) QX S15 a14))))))))))))) QX S2 a1))
set_option maxHeartbeats 4000000 in
set_option maxRecDepth 100000 in
theorem tX2_init_0 {p : Program} {l : Launch} {e : Env} {s : State} {m : MethodId} {args : Array Value} {below : List Frame} {meth : Method} {c : Code} {H : Heap} {locs : List Loc} {cells slots : Nat} {G : GP} {A : Nat → Prop} {S0 : MS} {ls : Array Slot} (C : CF p l s m args meth c "SkirmishGrid$Fight" cX2_init 2 G A) (hr : meth.sig.returnType = none) (hin2 : meth.name = "<init>") (hex : ∀ x ∈ c.exceptionTable.toList, False) (Q : MS → Prop) (QX : String → MS → Prop) (S : MS) (a0 : Nat) (p_a0 : pI S 2 a0) (P : PW G A s H locs S0 S) (hl : lv_has ls 2 [(0, .ref a0)]) (hcc : cells + 16 ≤ 16) (hss : slots + 311 ≤ 311) (hw : wX2_init_0 Q QX S a0) : W p l e rmX2_init s m args below meth c H locs cells slots (vx_MQ below (QV G S0 A Q) (XX G S0 A QX) args s 16 311 A) (F0 m 0 ls []) := by
  have hx := CF_x C
  have hb := CF_b C
  unfold wX2_init_0 at hw
  refine lv_aload_n hx hb dX2_init_0 rfl (lv_at hl 0 rfl) ?_
  refine W.objInit hx hb (CF_o C) (CF_t C _ q_43) (CF_t C _ q_36) (CF_t C _ q_37) rfl (hl.1.trans (CF_m C).symm) rfl dX2_init_1 (Nat.le_of_ble_eq_true rfl) (Nat.le_of_ble_eq_true rfl) ?_
  refine W.eq (g2 := F0 m 4 ls []) rfl ?_
  refine lv_aload_n hx hb dX2_init_4 rfl (lv_at hl 0 rfl) ?_
  refine no_3 C P q_44 q_45 q_3 (by show cells + 1 ≤ 16; omega) (by show slots + 3 ≤ 311; omega) dX2_init_5 (fun a1 H hq P => ?_)
  have hw := hw a1 hq
  obtain ⟨S2, hS⟩ : ∃ z, z = (nw S a1 3 0) := ⟨_, rfl⟩
  have P : PW G A s H locs S0 S2 := by rw [hS]; exact P
  have p_a0 : pI S2 2 a0 := by rw [hS]; exact pI_x (ext_nw hq) p_a0
  have hw := hw S2 hS
  have p_a1 : pI S2 3 a1 := by rw [hS]; exact pI_nw
  refine lv_dup hx hb dX2_init_8 rfl ?_
  refine cl_v C P (run_IN C P hl.1 (met_X3_init (CF_n C) G H.size _ _ S2 a1 p_a1 hw) (List.mem_of_getElem? (i := 0) rfl) q_47 q_3 q_48 rfl cd_X3_init.2 ⟨(Nat.le_of_ble_eq_true rfl), (Nat.le_of_ble_eq_true rfl)⟩ rfl rfl (As := []) (rest := [.ref a1, .ref a0]) rfl rfl (Nat.le_of_ble_eq_true rfl) dX2_init_9 ⟨by show cells + 1 + 1 ≤ 16; omega, by show slots + 3 + 64 ≤ 311; omega⟩) (kx_out C hex (fun _ _ _ h => h) (by omega) (by omega)) (fun S3 H locs P hE hw => ?_)
  have p_a0 : pI S3 2 a0 := pI_x hE p_a0
  have p_a1 : pI S3 3 a1 := pI_x hE p_a1
  refine pf_2_0 C hin2 P p_a0 p_a1 q_161 dX2_init_12 (fun H locs P => ?_)
  obtain ⟨S4, hS⟩ : ∃ z, z = (sR S3 a0 0 (some a1)) := ⟨_, rfl⟩
  have P : PW G A s H locs S0 S4 := by rw [hS]; exact P
  have p_a0 : pI S4 2 a0 := by rw [hS]; exact pI_x ext_sR p_a0
  have p_a1 : pI S4 3 a1 := by rw [hS]; exact pI_x ext_sR p_a1
  have hw := hw S4 hS
  refine lv_aload_n hx hb dX2_init_15 rfl (lv_at hl 0 rfl) ?_
  refine lv_bipush (v := 8) hx hb dX2_init_16 (by decide) ?_
  refine rn_q C P 5 (N' := 8) (E := "SkirmishGrid$Unit") rfl (ao_5 C) q_66 (fun S q => aE_nw (d := 5)) (by decide) (by decide) (by decide) (by show cells + 1 + 1 + 1 ≤ 16; omega) (by show slots + 3 + 64 + 8 ≤ 311; omega) dX2_init_18 (fun a5 H hq P => ?_)
  have hw := hw a5 hq
  obtain ⟨S6, hS⟩ : ∃ z, z = (nw S4 a5 15 8) := ⟨_, rfl⟩
  have P : PW G A s H locs S0 S6 := by rw [hS]; exact P
  have p_a0 : pI S6 2 a0 := by rw [hS]; exact pI_x (ext_nw hq) p_a0
  have hw := hw S6 hS
  have p_a5 : pI S6 15 a5 := by rw [hS]; exact pI_nw
  refine pf_2_1 C hin2 P p_a0 p_a5 q_164 dX2_init_21 (fun H locs P => ?_)
  obtain ⟨S7, hS⟩ : ∃ z, z = (sR S6 a0 1 (some a5)) := ⟨_, rfl⟩
  have P : PW G A s H locs S0 S7 := by rw [hS]; exact P
  have p_a0 : pI S7 2 a0 := by rw [hS]; exact pI_x ext_sR p_a0
  have p_a5 : pI S7 15 a5 := by rw [hS]; exact pI_x ext_sR p_a5
  have hw := hw S7 hS
  refine lv_aload_n hx hb dX2_init_24 rfl (lv_at hl 0 rfl) ?_
  refine lv_bipush (v := 8) hx hb dX2_init_25 (by decide) ?_
  refine rn_a (atype := .int) C P 2 (N' := 8) (8, .inl (fun _ => 0)) rfl (fun _ h => by cases h) q_65 rfl (fun _ => rfl) (fun S q => aE_nw (d := 2)) (by decide) (by decide) (by decide) (by show cells + 1 + 1 + 1 + 1 ≤ 16; omega) (by show slots + 3 + 64 + 8 + 8 ≤ 311; omega) dX2_init_27 (fun a8 H hq P => ?_)
  have hw := hw a8 hq
  obtain ⟨S9, hS⟩ : ∃ z, z = (nw S7 a8 12 8) := ⟨_, rfl⟩
  have P : PW G A s H locs S0 S9 := by rw [hS]; exact P
  have p_a0 : pI S9 2 a0 := by rw [hS]; exact pI_x (ext_nw hq) p_a0
  have hw := hw S9 hS
  have p_a8 : pI S9 12 a8 := by rw [hS]; exact pI_nw
  refine pf_2_3 C hin2 P p_a0 p_a8 q_172 dX2_init_29 (fun H locs P => ?_)
  obtain ⟨S10, hS⟩ : ∃ z, z = (sR S9 a0 3 (some a8)) := ⟨_, rfl⟩
  have P : PW G A s H locs S0 S10 := by rw [hS]; exact P
  have p_a0 : pI S10 2 a0 := by rw [hS]; exact pI_x ext_sR p_a0
  have p_a8 : pI S10 12 a8 := by rw [hS]; exact pI_x ext_sR p_a8
  have hw := hw S10 hS
  refine lv_aload_n hx hb dX2_init_32 rfl (lv_at hl 0 rfl) ?_
  refine lv_iconst (v := (-1)) hx hb dX2_init_33 (by decide) ?_
  refine pf_2_6 C P p_a0 q_177 dX2_init_34 (fun H locs P => ?_)
  obtain ⟨S11, hS⟩ : ∃ z, z = (sI S10 a0 6 (-1)) := ⟨_, rfl⟩
  have P : PW G A s H locs S0 S11 := by rw [hS]; exact P
  have p_a0 : pI S11 2 a0 := by rw [hS]; exact pI_x ext_sI p_a0
  have hw := hw S11 hS
  refine lv_aload_n hx hb dX2_init_37 rfl (lv_at hl 0 rfl) ?_
  refine lv_iconst (v := 1) hx hb dX2_init_38 (by decide) ?_
  refine pf_2_9 C P p_a0 q_183 dX2_init_39 (fun H locs P => ?_)
  obtain ⟨S12, hS⟩ : ∃ z, z = (sI S11 a0 9 1) := ⟨_, rfl⟩
  have P : PW G A s H locs S0 S12 := by rw [hS]; exact P
  have p_a0 : pI S12 2 a0 := by rw [hS]; exact pI_x ext_sI p_a0
  have hw := hw S12 hS
  refine lv_aload_n hx hb dX2_init_42 rfl (lv_at hl 0 rfl) ?_
  refine lv_iconst (v := 1) hx hb dX2_init_43 (by decide) ?_
  refine pf_2_10 C P p_a0 q_184 dX2_init_44 (fun H locs P => ?_)
  obtain ⟨S13, hS⟩ : ∃ z, z = (sI S12 a0 10 1) := ⟨_, rfl⟩
  have P : PW G A s H locs S0 S13 := by rw [hS]; exact P
  have p_a0 : pI S13 2 a0 := by rw [hS]; exact pI_x ext_sI p_a0
  have hw := hw S13 hS
  refine lv_aload_n hx hb dX2_init_47 rfl (lv_at hl 0 rfl) ?_
  refine no_1 C P q_68 q_69 q_4 (by show cells + 1 + 1 + 1 + 1 + 1 ≤ 16; omega) (by show slots + 3 + 64 + 8 + 8 + 4 ≤ 311; omega) dX2_init_48 (fun a14 H hq P => ?_)
  have hw := hw a14 hq
  obtain ⟨S15, hS⟩ : ∃ z, z = (nw S13 a14 1 0) := ⟨_, rfl⟩
  have P : PW G A s H locs S0 S15 := by rw [hS]; exact P
  have p_a0 : pI S15 2 a0 := by rw [hS]; exact pI_x (ext_nw hq) p_a0
  have hw := hw S15 hS
  have p_a14 : pI S15 1 a14 := by rw [hS]; exact pI_nw
  refine lv_dup hx hb dX2_init_51 rfl ?_
  refine cl_v C P (run_IN C P hl.1 (met_X1_init (CF_n C) G H.size _ _ S15 a14 p_a14 hw) (List.mem_of_getElem? (i := 1) rfl) q_71 q_4 q_72 rfl cd_X1_init.2 ⟨(Nat.le_of_ble_eq_true rfl), (Nat.le_of_ble_eq_true rfl)⟩ rfl rfl (As := []) (rest := [.ref a14, .ref a0]) rfl rfl (Nat.le_of_ble_eq_true rfl) dX2_init_52 ⟨by show cells + 1 + 1 + 1 + 1 + 1 + 3 ≤ 16; omega, by show slots + 3 + 64 + 8 + 8 + 4 + 120 ≤ 311; omega⟩) (kx_out C hex (fun _ _ _ h => h) (by omega) (by omega)) (fun S16 H locs P hE hw => ?_)
  have p_a0 : pI S16 2 a0 := pI_x hE p_a0
  have p_a14 : pI S16 1 a14 := pI_x hE p_a14
  refine pf_2_11 C hin2 P p_a0 p_a14 q_185 dX2_init_55 (fun H locs P => ?_)
  obtain ⟨S17, hS⟩ : ∃ z, z = (sR S16 a0 11 (some a14)) := ⟨_, rfl⟩
  have P : PW G A s H locs S0 S17 := by rw [hS]; exact P
  have p_a0 : pI S17 2 a0 := by rw [hS]; exact pI_x ext_sR p_a0
  have p_a14 : pI S17 1 a14 := by rw [hS]; exact pI_x ext_sR p_a14
  have hw := hw S17 hS
  refine lv_iconst (v := 0) hx hb dX2_init_58 (by decide) ?_
  refine lv_istore_n (lv' := [(1, .int 0), (0, .ref a0)]) hx hb dX2_init_59 rfl hl (by decide) rfl (fun ls hl => ?_)
  refine lv_iload_n hx hb dX2_init_60 rfl (lv_at hl 0 rfl) ?_
  refine lv_bipush (v := 8) hx hb dX2_init_61 (by decide) ?_
  refine lv_icmp_ge (tgt := 86) hx hb dX2_init_63 (by decide) (fun hf => absurd hf (by decide)) (fun _ => ?_)
  refine lv_aload_n hx hb dX2_init_66 rfl (lv_at hl 1 rfl) ?_
  obtain ⟨a18, e1, hw⟩ := hw
  have p_a18 : pI S17 15 a18 := wf_r P.2.2.2.1 p_a0 e1
  refine gf_2_1 C P p_a0 e1 q_164 dX2_init_67 ?_
  refine lv_iload_n hx hb dX2_init_70 rfl (lv_at hl 0 rfl) ?_
  refine no_7 C P q_66 q_89 q_5 (by show cells + 1 + 1 + 1 + 1 + 1 + 3 + 1 ≤ 16; omega) (by show slots + 3 + 64 + 8 + 8 + 4 + 120 + 13 ≤ 311; omega) dX2_init_71 (fun a19 H hq P => ?_)
  have hw := hw a19 hq
  obtain ⟨S20, hS⟩ : ∃ z, z = (nw S17 a19 7 0) := ⟨_, rfl⟩
  have P : PW G A s H locs S0 S20 := by rw [hS]; exact P
  have p_a0 : pI S20 2 a0 := by rw [hS]; exact pI_x (ext_nw hq) p_a0
  have p_a18 : pI S20 15 a18 := by rw [hS]; exact pI_x (ext_nw hq) p_a18
  have hw := hw S20 hS
  have p_a19 : pI S20 7 a19 := by rw [hS]; exact pI_nw
  refine lv_dup hx hb dX2_init_74 rfl ?_
  refine lv_iload_n hx hb dX2_init_75 rfl (lv_at hl 0 rfl) ?_
  refine cl_v C P (run_I C P hl.1 (met_X7_init (CF_n C) G H.size _ _ S20 a19 0 p_a19 hw) q_90 q_91 q_5 q_92 rfl cd_X7_init.2 ⟨(Nat.le_of_ble_eq_true rfl), (Nat.le_of_ble_eq_true rfl)⟩ rfl rfl (As := [.int 0]) (rest := [.ref a19, .int 0, .ref a18]) rfl rfl (Nat.le_of_ble_eq_true rfl) dX2_init_76 ⟨by show cells + 1 + 1 + 1 + 1 + 1 + 3 + 1 + 0 ≤ 16; omega, by show slots + 3 + 64 + 8 + 8 + 4 + 120 + 13 + 0 ≤ 311; omega⟩) (kx_out C hex (fun _ _ _ h => h) (by omega) (by omega)) (fun S21 H locs P hE hw => ?_)
  have p_a0 : pI S21 2 a0 := pI_x hE p_a0
  have p_a18 : pI S21 15 a18 := pI_x hE p_a18
  have p_a19 : pI S21 7 a19 := pI_x hE p_a19
  obtain ⟨h1, hw⟩ := hw
  refine rs_a C P 5 (kv := 7) p_a18 p_a19 (by decide) rfl rfl rfl (fun _ => rfl) h1 dX2_init_79 (fun H locs P => ?_)
  obtain ⟨S22, hS⟩ : ∃ z, z = (sR S21 a18 (0 : Int32).toNatClampNeg (some a19)) := ⟨_, rfl⟩
  have P : PW G A s H locs S0 S22 := by rw [hS]; exact P
  have p_a0 : pI S22 2 a0 := by rw [hS]; exact pI_x ext_sR p_a0
  have p_a18 : pI S22 15 a18 := by rw [hS]; exact pI_x ext_sR p_a18
  have p_a19 : pI S22 7 a19 := by rw [hS]; exact pI_x ext_sR p_a19
  have hw := hw S22 hS
  refine lv_iinc (v := 1) (lv' := [(1, .int 1), (0, .ref a0)]) hx hb dX2_init_80 hl (k := 0) rfl (by decide) (by decide) rfl (fun ls hl => ?_)
  refine lv_goto (tgt := 60) hx hb dX2_init_83 (by decide) ?_
  refine lv_iload_n hx hb dX2_init_60 rfl (lv_at hl 0 rfl) ?_
  refine lv_bipush (v := 8) hx hb dX2_init_61 (by decide) ?_
  refine lv_icmp_ge (tgt := 86) hx hb dX2_init_63 (by decide) (fun hf => absurd hf (by decide)) (fun _ => ?_)
  refine lv_aload_n hx hb dX2_init_66 rfl (lv_at hl 1 rfl) ?_
  obtain ⟨a23, e1, hw⟩ := hw
  have p_a23 : pI S22 15 a23 := wf_r P.2.2.2.1 p_a0 e1
  refine gf_2_1 C P p_a0 e1 q_164 dX2_init_67 ?_
  refine lv_iload_n hx hb dX2_init_70 rfl (lv_at hl 0 rfl) ?_
  refine no_7 C P q_66 q_89 q_5 (by show cells + 1 + 1 + 1 + 1 + 1 + 3 + 1 + 1 ≤ 16; omega) (by show slots + 3 + 64 + 8 + 8 + 4 + 120 + 13 + 13 ≤ 311; omega) dX2_init_71 (fun a24 H hq P => ?_)
  have hw := hw a24 hq
  obtain ⟨S25, hS⟩ : ∃ z, z = (nw S22 a24 7 0) := ⟨_, rfl⟩
  have P : PW G A s H locs S0 S25 := by rw [hS]; exact P
  have p_a0 : pI S25 2 a0 := by rw [hS]; exact pI_x (ext_nw hq) p_a0
  have p_a23 : pI S25 15 a23 := by rw [hS]; exact pI_x (ext_nw hq) p_a23
  have hw := hw S25 hS
  have p_a24 : pI S25 7 a24 := by rw [hS]; exact pI_nw
  refine lv_dup hx hb dX2_init_74 rfl ?_
  refine lv_iload_n hx hb dX2_init_75 rfl (lv_at hl 0 rfl) ?_
  refine cl_v C P (run_I C P hl.1 (met_X7_init (CF_n C) G H.size _ _ S25 a24 1 p_a24 hw) q_90 q_91 q_5 q_92 rfl cd_X7_init.2 ⟨(Nat.le_of_ble_eq_true rfl), (Nat.le_of_ble_eq_true rfl)⟩ rfl rfl (As := [.int 1]) (rest := [.ref a24, .int 1, .ref a23]) rfl rfl (Nat.le_of_ble_eq_true rfl) dX2_init_76 ⟨by show cells + 1 + 1 + 1 + 1 + 1 + 3 + 1 + 1 + 0 ≤ 16; omega, by show slots + 3 + 64 + 8 + 8 + 4 + 120 + 13 + 13 + 0 ≤ 311; omega⟩) (kx_out C hex (fun _ _ _ h => h) (by omega) (by omega)) (fun S26 H locs P hE hw => ?_)
  have p_a0 : pI S26 2 a0 := pI_x hE p_a0
  have p_a23 : pI S26 15 a23 := pI_x hE p_a23
  have p_a24 : pI S26 7 a24 := pI_x hE p_a24
  obtain ⟨h1, hw⟩ := hw
  refine rs_a C P 5 (kv := 7) p_a23 p_a24 (by decide) rfl rfl rfl (fun _ => rfl) h1 dX2_init_79 (fun H locs P => ?_)
  obtain ⟨S27, hS⟩ : ∃ z, z = (sR S26 a23 (1 : Int32).toNatClampNeg (some a24)) := ⟨_, rfl⟩
  have P : PW G A s H locs S0 S27 := by rw [hS]; exact P
  have p_a0 : pI S27 2 a0 := by rw [hS]; exact pI_x ext_sR p_a0
  have p_a23 : pI S27 15 a23 := by rw [hS]; exact pI_x ext_sR p_a23
  have p_a24 : pI S27 7 a24 := by rw [hS]; exact pI_x ext_sR p_a24
  have hw := hw S27 hS
  refine lv_iinc (v := 2) (lv' := [(1, .int 2), (0, .ref a0)]) hx hb dX2_init_80 hl (k := 0) rfl (by decide) (by decide) rfl (fun ls hl => ?_)
  refine lv_goto (tgt := 60) hx hb dX2_init_83 (by decide) ?_
  refine lv_iload_n hx hb dX2_init_60 rfl (lv_at hl 0 rfl) ?_
  refine lv_bipush (v := 8) hx hb dX2_init_61 (by decide) ?_
  refine lv_icmp_ge (tgt := 86) hx hb dX2_init_63 (by decide) (fun hf => absurd hf (by decide)) (fun _ => ?_)
  refine lv_aload_n hx hb dX2_init_66 rfl (lv_at hl 1 rfl) ?_
  obtain ⟨a28, e1, hw⟩ := hw
  have p_a28 : pI S27 15 a28 := wf_r P.2.2.2.1 p_a0 e1
  refine gf_2_1 C P p_a0 e1 q_164 dX2_init_67 ?_
  refine lv_iload_n hx hb dX2_init_70 rfl (lv_at hl 0 rfl) ?_
  refine no_7 C P q_66 q_89 q_5 (by show cells + 1 + 1 + 1 + 1 + 1 + 3 + 1 + 1 + 1 ≤ 16; omega) (by show slots + 3 + 64 + 8 + 8 + 4 + 120 + 13 + 13 + 13 ≤ 311; omega) dX2_init_71 (fun a29 H hq P => ?_)
  have hw := hw a29 hq
  obtain ⟨S30, hS⟩ : ∃ z, z = (nw S27 a29 7 0) := ⟨_, rfl⟩
  have P : PW G A s H locs S0 S30 := by rw [hS]; exact P
  have p_a0 : pI S30 2 a0 := by rw [hS]; exact pI_x (ext_nw hq) p_a0
  have p_a28 : pI S30 15 a28 := by rw [hS]; exact pI_x (ext_nw hq) p_a28
  have hw := hw S30 hS
  have p_a29 : pI S30 7 a29 := by rw [hS]; exact pI_nw
  refine lv_dup hx hb dX2_init_74 rfl ?_
  refine lv_iload_n hx hb dX2_init_75 rfl (lv_at hl 0 rfl) ?_
  refine cl_v C P (run_I C P hl.1 (met_X7_init (CF_n C) G H.size _ _ S30 a29 2 p_a29 hw) q_90 q_91 q_5 q_92 rfl cd_X7_init.2 ⟨(Nat.le_of_ble_eq_true rfl), (Nat.le_of_ble_eq_true rfl)⟩ rfl rfl (As := [.int 2]) (rest := [.ref a29, .int 2, .ref a28]) rfl rfl (Nat.le_of_ble_eq_true rfl) dX2_init_76 ⟨by show cells + 1 + 1 + 1 + 1 + 1 + 3 + 1 + 1 + 1 + 0 ≤ 16; omega, by show slots + 3 + 64 + 8 + 8 + 4 + 120 + 13 + 13 + 13 + 0 ≤ 311; omega⟩) (kx_out C hex (fun _ _ _ h => h) (by omega) (by omega)) (fun S31 H locs P hE hw => ?_)
  have p_a0 : pI S31 2 a0 := pI_x hE p_a0
  have p_a28 : pI S31 15 a28 := pI_x hE p_a28
  have p_a29 : pI S31 7 a29 := pI_x hE p_a29
  obtain ⟨h1, hw⟩ := hw
  refine rs_a C P 5 (kv := 7) p_a28 p_a29 (by decide) rfl rfl rfl (fun _ => rfl) h1 dX2_init_79 (fun H locs P => ?_)
  obtain ⟨S32, hS⟩ : ∃ z, z = (sR S31 a28 (2 : Int32).toNatClampNeg (some a29)) := ⟨_, rfl⟩
  have P : PW G A s H locs S0 S32 := by rw [hS]; exact P
  have p_a0 : pI S32 2 a0 := by rw [hS]; exact pI_x ext_sR p_a0
  have p_a28 : pI S32 15 a28 := by rw [hS]; exact pI_x ext_sR p_a28
  have p_a29 : pI S32 7 a29 := by rw [hS]; exact pI_x ext_sR p_a29
  have hw := hw S32 hS
  refine lv_iinc (v := 3) (lv' := [(1, .int 3), (0, .ref a0)]) hx hb dX2_init_80 hl (k := 0) rfl (by decide) (by decide) rfl (fun ls hl => ?_)
  refine lv_goto (tgt := 60) hx hb dX2_init_83 (by decide) ?_
  refine lv_iload_n hx hb dX2_init_60 rfl (lv_at hl 0 rfl) ?_
  refine lv_bipush (v := 8) hx hb dX2_init_61 (by decide) ?_
  refine lv_icmp_ge (tgt := 86) hx hb dX2_init_63 (by decide) (fun hf => absurd hf (by decide)) (fun _ => ?_)
  refine lv_aload_n hx hb dX2_init_66 rfl (lv_at hl 1 rfl) ?_
  obtain ⟨a33, e1, hw⟩ := hw
  have p_a33 : pI S32 15 a33 := wf_r P.2.2.2.1 p_a0 e1
  refine gf_2_1 C P p_a0 e1 q_164 dX2_init_67 ?_
  refine lv_iload_n hx hb dX2_init_70 rfl (lv_at hl 0 rfl) ?_
  refine no_7 C P q_66 q_89 q_5 (by show cells + 1 + 1 + 1 + 1 + 1 + 3 + 1 + 1 + 1 + 1 ≤ 16; omega) (by show slots + 3 + 64 + 8 + 8 + 4 + 120 + 13 + 13 + 13 + 13 ≤ 311; omega) dX2_init_71 (fun a34 H hq P => ?_)
  have hw := hw a34 hq
  obtain ⟨S35, hS⟩ : ∃ z, z = (nw S32 a34 7 0) := ⟨_, rfl⟩
  have P : PW G A s H locs S0 S35 := by rw [hS]; exact P
  have p_a0 : pI S35 2 a0 := by rw [hS]; exact pI_x (ext_nw hq) p_a0
  have p_a33 : pI S35 15 a33 := by rw [hS]; exact pI_x (ext_nw hq) p_a33
  have hw := hw S35 hS
  have p_a34 : pI S35 7 a34 := by rw [hS]; exact pI_nw
  refine lv_dup hx hb dX2_init_74 rfl ?_
  refine lv_iload_n hx hb dX2_init_75 rfl (lv_at hl 0 rfl) ?_
  refine cl_v C P (run_I C P hl.1 (met_X7_init (CF_n C) G H.size _ _ S35 a34 3 p_a34 hw) q_90 q_91 q_5 q_92 rfl cd_X7_init.2 ⟨(Nat.le_of_ble_eq_true rfl), (Nat.le_of_ble_eq_true rfl)⟩ rfl rfl (As := [.int 3]) (rest := [.ref a34, .int 3, .ref a33]) rfl rfl (Nat.le_of_ble_eq_true rfl) dX2_init_76 ⟨by show cells + 1 + 1 + 1 + 1 + 1 + 3 + 1 + 1 + 1 + 1 + 0 ≤ 16; omega, by show slots + 3 + 64 + 8 + 8 + 4 + 120 + 13 + 13 + 13 + 13 + 0 ≤ 311; omega⟩) (kx_out C hex (fun _ _ _ h => h) (by omega) (by omega)) (fun S36 H locs P hE hw => ?_)
  have p_a0 : pI S36 2 a0 := pI_x hE p_a0
  have p_a33 : pI S36 15 a33 := pI_x hE p_a33
  have p_a34 : pI S36 7 a34 := pI_x hE p_a34
  obtain ⟨h1, hw⟩ := hw
  refine rs_a C P 5 (kv := 7) p_a33 p_a34 (by decide) rfl rfl rfl (fun _ => rfl) h1 dX2_init_79 (fun H locs P => ?_)
  obtain ⟨S37, hS⟩ : ∃ z, z = (sR S36 a33 (3 : Int32).toNatClampNeg (some a34)) := ⟨_, rfl⟩
  have P : PW G A s H locs S0 S37 := by rw [hS]; exact P
  have p_a0 : pI S37 2 a0 := by rw [hS]; exact pI_x ext_sR p_a0
  have p_a33 : pI S37 15 a33 := by rw [hS]; exact pI_x ext_sR p_a33
  have p_a34 : pI S37 7 a34 := by rw [hS]; exact pI_x ext_sR p_a34
  have hw := hw S37 hS
  refine lv_iinc (v := 4) (lv' := [(1, .int 4), (0, .ref a0)]) hx hb dX2_init_80 hl (k := 0) rfl (by decide) (by decide) rfl (fun ls hl => ?_)
  refine lv_goto (tgt := 60) hx hb dX2_init_83 (by decide) ?_
  refine lv_iload_n hx hb dX2_init_60 rfl (lv_at hl 0 rfl) ?_
  refine lv_bipush (v := 8) hx hb dX2_init_61 (by decide) ?_
  refine lv_icmp_ge (tgt := 86) hx hb dX2_init_63 (by decide) (fun hf => absurd hf (by decide)) (fun _ => ?_)
  refine lv_aload_n hx hb dX2_init_66 rfl (lv_at hl 1 rfl) ?_
  obtain ⟨a38, e1, hw⟩ := hw
  have p_a38 : pI S37 15 a38 := wf_r P.2.2.2.1 p_a0 e1
  refine gf_2_1 C P p_a0 e1 q_164 dX2_init_67 ?_
  refine lv_iload_n hx hb dX2_init_70 rfl (lv_at hl 0 rfl) ?_
  refine no_7 C P q_66 q_89 q_5 (by show cells + 1 + 1 + 1 + 1 + 1 + 3 + 1 + 1 + 1 + 1 + 1 ≤ 16; omega) (by show slots + 3 + 64 + 8 + 8 + 4 + 120 + 13 + 13 + 13 + 13 + 13 ≤ 311; omega) dX2_init_71 (fun a39 H hq P => ?_)
  have hw := hw a39 hq
  obtain ⟨S40, hS⟩ : ∃ z, z = (nw S37 a39 7 0) := ⟨_, rfl⟩
  have P : PW G A s H locs S0 S40 := by rw [hS]; exact P
  have p_a0 : pI S40 2 a0 := by rw [hS]; exact pI_x (ext_nw hq) p_a0
  have p_a38 : pI S40 15 a38 := by rw [hS]; exact pI_x (ext_nw hq) p_a38
  have hw := hw S40 hS
  have p_a39 : pI S40 7 a39 := by rw [hS]; exact pI_nw
  refine lv_dup hx hb dX2_init_74 rfl ?_
  refine lv_iload_n hx hb dX2_init_75 rfl (lv_at hl 0 rfl) ?_
  refine cl_v C P (run_I C P hl.1 (met_X7_init (CF_n C) G H.size _ _ S40 a39 4 p_a39 hw) q_90 q_91 q_5 q_92 rfl cd_X7_init.2 ⟨(Nat.le_of_ble_eq_true rfl), (Nat.le_of_ble_eq_true rfl)⟩ rfl rfl (As := [.int 4]) (rest := [.ref a39, .int 4, .ref a38]) rfl rfl (Nat.le_of_ble_eq_true rfl) dX2_init_76 ⟨by show cells + 1 + 1 + 1 + 1 + 1 + 3 + 1 + 1 + 1 + 1 + 1 + 0 ≤ 16; omega, by show slots + 3 + 64 + 8 + 8 + 4 + 120 + 13 + 13 + 13 + 13 + 13 + 0 ≤ 311; omega⟩) (kx_out C hex (fun _ _ _ h => h) (by omega) (by omega)) (fun S41 H locs P hE hw => ?_)
  have p_a0 : pI S41 2 a0 := pI_x hE p_a0
  have p_a38 : pI S41 15 a38 := pI_x hE p_a38
  have p_a39 : pI S41 7 a39 := pI_x hE p_a39
  obtain ⟨h1, hw⟩ := hw
  refine rs_a C P 5 (kv := 7) p_a38 p_a39 (by decide) rfl rfl rfl (fun _ => rfl) h1 dX2_init_79 (fun H locs P => ?_)
  obtain ⟨S42, hS⟩ : ∃ z, z = (sR S41 a38 (4 : Int32).toNatClampNeg (some a39)) := ⟨_, rfl⟩
  have P : PW G A s H locs S0 S42 := by rw [hS]; exact P
  have p_a0 : pI S42 2 a0 := by rw [hS]; exact pI_x ext_sR p_a0
  have p_a38 : pI S42 15 a38 := by rw [hS]; exact pI_x ext_sR p_a38
  have p_a39 : pI S42 7 a39 := by rw [hS]; exact pI_x ext_sR p_a39
  have hw := hw S42 hS
  refine lv_iinc (v := 5) (lv' := [(1, .int 5), (0, .ref a0)]) hx hb dX2_init_80 hl (k := 0) rfl (by decide) (by decide) rfl (fun ls hl => ?_)
  refine lv_goto (tgt := 60) hx hb dX2_init_83 (by decide) ?_
  refine lv_iload_n hx hb dX2_init_60 rfl (lv_at hl 0 rfl) ?_
  refine lv_bipush (v := 8) hx hb dX2_init_61 (by decide) ?_
  refine lv_icmp_ge (tgt := 86) hx hb dX2_init_63 (by decide) (fun hf => absurd hf (by decide)) (fun _ => ?_)
  refine lv_aload_n hx hb dX2_init_66 rfl (lv_at hl 1 rfl) ?_
  obtain ⟨a43, e1, hw⟩ := hw
  have p_a43 : pI S42 15 a43 := wf_r P.2.2.2.1 p_a0 e1
  refine gf_2_1 C P p_a0 e1 q_164 dX2_init_67 ?_
  refine lv_iload_n hx hb dX2_init_70 rfl (lv_at hl 0 rfl) ?_
  refine no_7 C P q_66 q_89 q_5 (by show cells + 1 + 1 + 1 + 1 + 1 + 3 + 1 + 1 + 1 + 1 + 1 + 1 ≤ 16; omega) (by show slots + 3 + 64 + 8 + 8 + 4 + 120 + 13 + 13 + 13 + 13 + 13 + 13 ≤ 311; omega) dX2_init_71 (fun a44 H hq P => ?_)
  have hw := hw a44 hq
  obtain ⟨S45, hS⟩ : ∃ z, z = (nw S42 a44 7 0) := ⟨_, rfl⟩
  have P : PW G A s H locs S0 S45 := by rw [hS]; exact P
  have p_a0 : pI S45 2 a0 := by rw [hS]; exact pI_x (ext_nw hq) p_a0
  have p_a43 : pI S45 15 a43 := by rw [hS]; exact pI_x (ext_nw hq) p_a43
  have hw := hw S45 hS
  have p_a44 : pI S45 7 a44 := by rw [hS]; exact pI_nw
  refine lv_dup hx hb dX2_init_74 rfl ?_
  refine lv_iload_n hx hb dX2_init_75 rfl (lv_at hl 0 rfl) ?_
  refine cl_v C P (run_I C P hl.1 (met_X7_init (CF_n C) G H.size _ _ S45 a44 5 p_a44 hw) q_90 q_91 q_5 q_92 rfl cd_X7_init.2 ⟨(Nat.le_of_ble_eq_true rfl), (Nat.le_of_ble_eq_true rfl)⟩ rfl rfl (As := [.int 5]) (rest := [.ref a44, .int 5, .ref a43]) rfl rfl (Nat.le_of_ble_eq_true rfl) dX2_init_76 ⟨by show cells + 1 + 1 + 1 + 1 + 1 + 3 + 1 + 1 + 1 + 1 + 1 + 1 + 0 ≤ 16; omega, by show slots + 3 + 64 + 8 + 8 + 4 + 120 + 13 + 13 + 13 + 13 + 13 + 13 + 0 ≤ 311; omega⟩) (kx_out C hex (fun _ _ _ h => h) (by omega) (by omega)) (fun S46 H locs P hE hw => ?_)
  have p_a0 : pI S46 2 a0 := pI_x hE p_a0
  have p_a43 : pI S46 15 a43 := pI_x hE p_a43
  have p_a44 : pI S46 7 a44 := pI_x hE p_a44
  obtain ⟨h1, hw⟩ := hw
  refine rs_a C P 5 (kv := 7) p_a43 p_a44 (by decide) rfl rfl rfl (fun _ => rfl) h1 dX2_init_79 (fun H locs P => ?_)
  obtain ⟨S47, hS⟩ : ∃ z, z = (sR S46 a43 (5 : Int32).toNatClampNeg (some a44)) := ⟨_, rfl⟩
  have P : PW G A s H locs S0 S47 := by rw [hS]; exact P
  have p_a0 : pI S47 2 a0 := by rw [hS]; exact pI_x ext_sR p_a0
  have p_a43 : pI S47 15 a43 := by rw [hS]; exact pI_x ext_sR p_a43
  have p_a44 : pI S47 7 a44 := by rw [hS]; exact pI_x ext_sR p_a44
  have hw := hw S47 hS
  refine lv_iinc (v := 6) (lv' := [(1, .int 6), (0, .ref a0)]) hx hb dX2_init_80 hl (k := 0) rfl (by decide) (by decide) rfl (fun ls hl => ?_)
  refine lv_goto (tgt := 60) hx hb dX2_init_83 (by decide) ?_
  refine lv_iload_n hx hb dX2_init_60 rfl (lv_at hl 0 rfl) ?_
  refine lv_bipush (v := 8) hx hb dX2_init_61 (by decide) ?_
  refine lv_icmp_ge (tgt := 86) hx hb dX2_init_63 (by decide) (fun hf => absurd hf (by decide)) (fun _ => ?_)
  refine lv_aload_n hx hb dX2_init_66 rfl (lv_at hl 1 rfl) ?_
  obtain ⟨a48, e1, hw⟩ := hw
  have p_a48 : pI S47 15 a48 := wf_r P.2.2.2.1 p_a0 e1
  refine gf_2_1 C P p_a0 e1 q_164 dX2_init_67 ?_
  refine lv_iload_n hx hb dX2_init_70 rfl (lv_at hl 0 rfl) ?_
  refine no_7 C P q_66 q_89 q_5 (by show cells + 1 + 1 + 1 + 1 + 1 + 3 + 1 + 1 + 1 + 1 + 1 + 1 + 1 ≤ 16; omega) (by show slots + 3 + 64 + 8 + 8 + 4 + 120 + 13 + 13 + 13 + 13 + 13 + 13 + 13 ≤ 311; omega) dX2_init_71 (fun a49 H hq P => ?_)
  have hw := hw a49 hq
  obtain ⟨S50, hS⟩ : ∃ z, z = (nw S47 a49 7 0) := ⟨_, rfl⟩
  have P : PW G A s H locs S0 S50 := by rw [hS]; exact P
  have p_a0 : pI S50 2 a0 := by rw [hS]; exact pI_x (ext_nw hq) p_a0
  have p_a48 : pI S50 15 a48 := by rw [hS]; exact pI_x (ext_nw hq) p_a48
  have hw := hw S50 hS
  have p_a49 : pI S50 7 a49 := by rw [hS]; exact pI_nw
  refine lv_dup hx hb dX2_init_74 rfl ?_
  refine lv_iload_n hx hb dX2_init_75 rfl (lv_at hl 0 rfl) ?_
  refine cl_v C P (run_I C P hl.1 (met_X7_init (CF_n C) G H.size _ _ S50 a49 6 p_a49 hw) q_90 q_91 q_5 q_92 rfl cd_X7_init.2 ⟨(Nat.le_of_ble_eq_true rfl), (Nat.le_of_ble_eq_true rfl)⟩ rfl rfl (As := [.int 6]) (rest := [.ref a49, .int 6, .ref a48]) rfl rfl (Nat.le_of_ble_eq_true rfl) dX2_init_76 ⟨by show cells + 1 + 1 + 1 + 1 + 1 + 3 + 1 + 1 + 1 + 1 + 1 + 1 + 1 + 0 ≤ 16; omega, by show slots + 3 + 64 + 8 + 8 + 4 + 120 + 13 + 13 + 13 + 13 + 13 + 13 + 13 + 0 ≤ 311; omega⟩) (kx_out C hex (fun _ _ _ h => h) (by omega) (by omega)) (fun S51 H locs P hE hw => ?_)
  have p_a0 : pI S51 2 a0 := pI_x hE p_a0
  have p_a48 : pI S51 15 a48 := pI_x hE p_a48
  have p_a49 : pI S51 7 a49 := pI_x hE p_a49
  obtain ⟨h1, hw⟩ := hw
  refine rs_a C P 5 (kv := 7) p_a48 p_a49 (by decide) rfl rfl rfl (fun _ => rfl) h1 dX2_init_79 (fun H locs P => ?_)
  obtain ⟨S52, hS⟩ : ∃ z, z = (sR S51 a48 (6 : Int32).toNatClampNeg (some a49)) := ⟨_, rfl⟩
  have P : PW G A s H locs S0 S52 := by rw [hS]; exact P
  have p_a0 : pI S52 2 a0 := by rw [hS]; exact pI_x ext_sR p_a0
  have p_a48 : pI S52 15 a48 := by rw [hS]; exact pI_x ext_sR p_a48
  have p_a49 : pI S52 7 a49 := by rw [hS]; exact pI_x ext_sR p_a49
  have hw := hw S52 hS
  refine lv_iinc (v := 7) (lv' := [(1, .int 7), (0, .ref a0)]) hx hb dX2_init_80 hl (k := 0) rfl (by decide) (by decide) rfl (fun ls hl => ?_)
  refine lv_goto (tgt := 60) hx hb dX2_init_83 (by decide) ?_
  refine lv_iload_n hx hb dX2_init_60 rfl (lv_at hl 0 rfl) ?_
  refine lv_bipush (v := 8) hx hb dX2_init_61 (by decide) ?_
  refine lv_icmp_ge (tgt := 86) hx hb dX2_init_63 (by decide) (fun hf => absurd hf (by decide)) (fun _ => ?_)
  refine lv_aload_n hx hb dX2_init_66 rfl (lv_at hl 1 rfl) ?_
  obtain ⟨a53, e1, hw⟩ := hw
  have p_a53 : pI S52 15 a53 := wf_r P.2.2.2.1 p_a0 e1
  refine gf_2_1 C P p_a0 e1 q_164 dX2_init_67 ?_
  refine lv_iload_n hx hb dX2_init_70 rfl (lv_at hl 0 rfl) ?_
  refine no_7 C P q_66 q_89 q_5 (by show cells + 1 + 1 + 1 + 1 + 1 + 3 + 1 + 1 + 1 + 1 + 1 + 1 + 1 + 1 ≤ 16; omega) (by show slots + 3 + 64 + 8 + 8 + 4 + 120 + 13 + 13 + 13 + 13 + 13 + 13 + 13 + 13 ≤ 311; omega) dX2_init_71 (fun a54 H hq P => ?_)
  have hw := hw a54 hq
  obtain ⟨S55, hS⟩ : ∃ z, z = (nw S52 a54 7 0) := ⟨_, rfl⟩
  have P : PW G A s H locs S0 S55 := by rw [hS]; exact P
  have p_a0 : pI S55 2 a0 := by rw [hS]; exact pI_x (ext_nw hq) p_a0
  have p_a53 : pI S55 15 a53 := by rw [hS]; exact pI_x (ext_nw hq) p_a53
  have hw := hw S55 hS
  have p_a54 : pI S55 7 a54 := by rw [hS]; exact pI_nw
  refine lv_dup hx hb dX2_init_74 rfl ?_
  refine lv_iload_n hx hb dX2_init_75 rfl (lv_at hl 0 rfl) ?_
  refine cl_v C P (run_I C P hl.1 (met_X7_init (CF_n C) G H.size _ _ S55 a54 7 p_a54 hw) q_90 q_91 q_5 q_92 rfl cd_X7_init.2 ⟨(Nat.le_of_ble_eq_true rfl), (Nat.le_of_ble_eq_true rfl)⟩ rfl rfl (As := [.int 7]) (rest := [.ref a54, .int 7, .ref a53]) rfl rfl (Nat.le_of_ble_eq_true rfl) dX2_init_76 ⟨by show cells + 1 + 1 + 1 + 1 + 1 + 3 + 1 + 1 + 1 + 1 + 1 + 1 + 1 + 1 + 0 ≤ 16; omega, by show slots + 3 + 64 + 8 + 8 + 4 + 120 + 13 + 13 + 13 + 13 + 13 + 13 + 13 + 13 + 0 ≤ 311; omega⟩) (kx_out C hex (fun _ _ _ h => h) (by omega) (by omega)) (fun S56 H locs P hE hw => ?_)
  have p_a0 : pI S56 2 a0 := pI_x hE p_a0
  have p_a53 : pI S56 15 a53 := pI_x hE p_a53
  have p_a54 : pI S56 7 a54 := pI_x hE p_a54
  obtain ⟨h1, hw⟩ := hw
  refine rs_a C P 5 (kv := 7) p_a53 p_a54 (by decide) rfl rfl rfl (fun _ => rfl) h1 dX2_init_79 (fun H locs P => ?_)
  obtain ⟨S57, hS⟩ : ∃ z, z = (sR S56 a53 (7 : Int32).toNatClampNeg (some a54)) := ⟨_, rfl⟩
  have P : PW G A s H locs S0 S57 := by rw [hS]; exact P
  have p_a0 : pI S57 2 a0 := by rw [hS]; exact pI_x ext_sR p_a0
  have p_a53 : pI S57 15 a53 := by rw [hS]; exact pI_x ext_sR p_a53
  have p_a54 : pI S57 7 a54 := by rw [hS]; exact pI_x ext_sR p_a54
  have hw := hw S57 hS
  refine lv_iinc (v := 8) (lv' := [(1, .int 8), (0, .ref a0)]) hx hb dX2_init_80 hl (k := 0) rfl (by decide) (by decide) rfl (fun ls hl => ?_)
  refine lv_goto (tgt := 60) hx hb dX2_init_83 (by decide) ?_
  refine lv_iload_n hx hb dX2_init_60 rfl (lv_at hl 0 rfl) ?_
  refine lv_bipush (v := 8) hx hb dX2_init_61 (by decide) ?_
  refine lv_icmp_ge (tgt := 86) hx hb dX2_init_63 (by decide) (fun _ => ?_) (fun hf => absurd hf (by decide))
  exact e_v C hr P hw (by omega) (by omega) dX2_init_86
def wp_X2_init (Q : MS → Prop) (QX : String → MS → Prop) (S : MS) (a0 : Nat) : Prop := wX2_init_0 Q QX S a0
set_option maxHeartbeats 4000000 in
set_option maxRecDepth 100000 in
theorem met_X2_init {l : Launch} (hst : l.stackTraces = false) (G : GP) (sz : Nat) (Q : MS → Prop) (QX : String → MS → Prop) (S : MS) (a0 : Nat) (p_a0 : pI S 2 a0) (hw : wp_X2_init Q QX S a0) : vx_Met l yX2_init (.code yX2_init cX2_init 2 none :: GW) rmX2_init (va_Pc [.ref a0] (PR G S sz)) (QV G S (FA G S sz) Q) (XX G S (FA G S sz) QX) 16 311 (FA G S sz) := by
  refine st_m (by decide +kernel) hst (fun p e s m below meth c C hr hnm hex P => ?_)
  refine en_m (Nat.le_of_ble_eq_true rfl) (lv := [(0, .ref a0)]) rfl (fun ls hl => ?_)
  have C : CF p l s m _ meth c "SkirmishGrid$Fight" cX2_init 2 G (FA G S sz) := C
  exact tX2_init_0 C hr hnm hex Q QX S a0 p_a0 P hl (by omega) (by omega) hw
theorem cd_X2_init : yX2_init.cls = RX2 ∧ yX2_init.cls ≠ "java/lang/invoke/MethodHandle" ∧ yX2_init.cls ≠ "java/lang/invoke/VarHandle" ∧ (parseMethodDescriptor yX2_init.desc).map (fun d => d.parameters.length) = some 0 := by decide +kernel
abbrev rmX2_reset : Room := { frames := 0, cells := 0, slots := 0, locals := 0 }
def wX2_reset_0 (Q : MS → Prop) (QX : String → MS → Prop) (S : MS) (a0 : Nat) (x1 : Int32) : Prop := (∀ S1, S1 = (sI S a0 2 0) → (∀ S2, S2 = (sI S1 a0 4 0) → (∀ S3, S3 = (sI S2 a0 5 0) → (∀ S4, S4 = (sI S3 a0 6 (-1)) → (∀ S5, S5 = (sI S4 a0 7 0) → (∀ S6, S6 = (sI S5 a0 8 0) → (∀ S7, S7 = (sI S6 a0 9 x1) → (∀ S8, S8 = (sI S7 a0 10 x1) → (∃ a9, mR S8 a0 11 = some a9 ∧ (∀ S10, S10 = (sI S8 a9 3 0) → Q S10))))))))))
set_option maxHeartbeats 4000000 in
set_option maxRecDepth 100000 in
theorem tX2_reset_0 {p : Program} {l : Launch} {e : Env} {s : State} {m : MethodId} {args : Array Value} {below : List Frame} {meth : Method} {c : Code} {H : Heap} {locs : List Loc} {cells slots : Nat} {G : GP} {A : Nat → Prop} {S0 : MS} {ls : Array Slot} (C : CF p l s m args meth c "SkirmishGrid$Fight" cX2_reset 2 G A) (hr : meth.sig.returnType = none) (hex : ∀ x ∈ c.exceptionTable.toList, False) (Q : MS → Prop) (QX : String → MS → Prop) (S : MS) (a0 : Nat) (x1 : Int32) (p_a0 : pI S 2 a0) (P : PW G A s H locs S0 S) (hl : lv_has ls 2 [(0, .ref a0), (1, .int x1)]) (hcc : cells + 0 ≤ 0) (hss : slots + 0 ≤ 0) (hw : wX2_reset_0 Q QX S a0 x1) : W p l e rmX2_reset s m args below meth c H locs cells slots (vx_MQ below (QV G S0 A Q) (XX G S0 A QX) args s 0 0 A) (F0 m 0 ls []) := by
  have hx := CF_x C
  have hb := CF_b C
  unfold wX2_reset_0 at hw
  refine lv_aload_n hx hb dX2_reset_0 rfl (lv_at hl 0 rfl) ?_
  refine lv_iconst (v := 0) hx hb dX2_reset_1 (by decide) ?_
  refine pf_2_2 C P p_a0 q_168 dX2_reset_2 (fun H locs P => ?_)
  obtain ⟨S1, hS⟩ : ∃ z, z = (sI S a0 2 0) := ⟨_, rfl⟩
  have P : PW G A s H locs S0 S1 := by rw [hS]; exact P
  have p_a0 : pI S1 2 a0 := by rw [hS]; exact pI_x ext_sI p_a0
  have hw := hw S1 hS
  refine lv_aload_n hx hb dX2_reset_5 rfl (lv_at hl 0 rfl) ?_
  refine lv_iconst (v := 0) hx hb dX2_reset_6 (by decide) ?_
  refine pf_2_4 C P p_a0 q_174 dX2_reset_7 (fun H locs P => ?_)
  obtain ⟨S2, hS⟩ : ∃ z, z = (sI S1 a0 4 0) := ⟨_, rfl⟩
  have P : PW G A s H locs S0 S2 := by rw [hS]; exact P
  have p_a0 : pI S2 2 a0 := by rw [hS]; exact pI_x ext_sI p_a0
  have hw := hw S2 hS
  refine lv_aload_n hx hb dX2_reset_10 rfl (lv_at hl 0 rfl) ?_
  refine lv_iconst (v := 0) hx hb dX2_reset_11 (by decide) ?_
  refine pf_2_5 C P p_a0 q_176 dX2_reset_12 (fun H locs P => ?_)
  obtain ⟨S3, hS⟩ : ∃ z, z = (sI S2 a0 5 0) := ⟨_, rfl⟩
  have P : PW G A s H locs S0 S3 := by rw [hS]; exact P
  have p_a0 : pI S3 2 a0 := by rw [hS]; exact pI_x ext_sI p_a0
  have hw := hw S3 hS
  refine lv_aload_n hx hb dX2_reset_15 rfl (lv_at hl 0 rfl) ?_
  refine lv_iconst (v := (-1)) hx hb dX2_reset_16 (by decide) ?_
  refine pf_2_6 C P p_a0 q_177 dX2_reset_17 (fun H locs P => ?_)
  obtain ⟨S4, hS⟩ : ∃ z, z = (sI S3 a0 6 (-1)) := ⟨_, rfl⟩
  have P : PW G A s H locs S0 S4 := by rw [hS]; exact P
  have p_a0 : pI S4 2 a0 := by rw [hS]; exact pI_x ext_sI p_a0
  have hw := hw S4 hS
  refine lv_aload_n hx hb dX2_reset_20 rfl (lv_at hl 0 rfl) ?_
  refine lv_iconst (v := 0) hx hb dX2_reset_21 (by decide) ?_
  refine pf_2_7 C P p_a0 q_179 dX2_reset_22 (fun H locs P => ?_)
  obtain ⟨S5, hS⟩ : ∃ z, z = (sI S4 a0 7 0) := ⟨_, rfl⟩
  have P : PW G A s H locs S0 S5 := by rw [hS]; exact P
  have p_a0 : pI S5 2 a0 := by rw [hS]; exact pI_x ext_sI p_a0
  have hw := hw S5 hS
  refine lv_aload_n hx hb dX2_reset_25 rfl (lv_at hl 0 rfl) ?_
  refine lv_iconst (v := 0) hx hb dX2_reset_26 (by decide) ?_
  refine pf_2_8 C P p_a0 q_181 dX2_reset_27 (fun H locs P => ?_)
  obtain ⟨S6, hS⟩ : ∃ z, z = (sI S5 a0 8 0) := ⟨_, rfl⟩
  have P : PW G A s H locs S0 S6 := by rw [hS]; exact P
  have p_a0 : pI S6 2 a0 := by rw [hS]; exact pI_x ext_sI p_a0
  have hw := hw S6 hS
  refine lv_aload_n hx hb dX2_reset_30 rfl (lv_at hl 0 rfl) ?_
  refine lv_iload_n hx hb dX2_reset_31 rfl (lv_at hl 1 rfl) ?_
  refine pf_2_9 C P p_a0 q_183 dX2_reset_32 (fun H locs P => ?_)
  obtain ⟨S7, hS⟩ : ∃ z, z = (sI S6 a0 9 x1) := ⟨_, rfl⟩
  have P : PW G A s H locs S0 S7 := by rw [hS]; exact P
  have p_a0 : pI S7 2 a0 := by rw [hS]; exact pI_x ext_sI p_a0
  have hw := hw S7 hS
  refine lv_aload_n hx hb dX2_reset_35 rfl (lv_at hl 0 rfl) ?_
  refine lv_iload_n hx hb dX2_reset_36 rfl (lv_at hl 1 rfl) ?_
  refine pf_2_10 C P p_a0 q_184 dX2_reset_37 (fun H locs P => ?_)
  obtain ⟨S8, hS⟩ : ∃ z, z = (sI S7 a0 10 x1) := ⟨_, rfl⟩
  have P : PW G A s H locs S0 S8 := by rw [hS]; exact P
  have p_a0 : pI S8 2 a0 := by rw [hS]; exact pI_x ext_sI p_a0
  have hw := hw S8 hS
  refine lv_aload_n hx hb dX2_reset_40 rfl (lv_at hl 0 rfl) ?_
  obtain ⟨a9, e1, hw⟩ := hw
  have p_a9 : pI S8 1 a9 := wf_r P.2.2.2.1 p_a0 e1
  refine gf_2_11 C P p_a0 e1 q_185 dX2_reset_41 ?_
  refine lv_iconst (v := 0) hx hb dX2_reset_44 (by decide) ?_
  refine pf_1_3 C P p_a9 q_78 dX2_reset_45 (fun H locs P => ?_)
  obtain ⟨S10, hS⟩ : ∃ z, z = (sI S8 a9 3 0) := ⟨_, rfl⟩
  have P : PW G A s H locs S0 S10 := by rw [hS]; exact P
  have p_a9 : pI S10 1 a9 := by rw [hS]; exact pI_x ext_sI p_a9
  have hw := hw S10 hS
  exact e_v C hr P hw (by omega) (by omega) dX2_reset_48
def wp_X2_reset (Q : MS → Prop) (QX : String → MS → Prop) (S : MS) (a0 : Nat) (x1 : Int32) : Prop := wX2_reset_0 Q QX S a0 x1
set_option maxHeartbeats 4000000 in
set_option maxRecDepth 100000 in
theorem met_X2_reset {l : Launch} (hst : l.stackTraces = false) (G : GP) (sz : Nat) (Q : MS → Prop) (QX : String → MS → Prop) (S : MS) (a0 : Nat) (x1 : Int32) (p_a0 : pI S 2 a0) (hw : wp_X2_reset Q QX S a0 x1) : vx_Met l yX2_reset (.code yX2_reset cX2_reset 2 none :: GW) rmX2_reset (va_Pc [.ref a0, .int x1] (PR G S sz)) (QV G S (FA G S sz) Q) (XX G S (FA G S sz) QX) 0 0 (FA G S sz) := by
  refine st_m (by decide +kernel) hst (fun p e s m below meth c C hr hnm hex P => ?_)
  refine en_m (Nat.le_of_ble_eq_true rfl) (lv := [(0, .ref a0), (1, .int x1)]) rfl (fun ls hl => ?_)
  have C : CF p l s m _ meth c "SkirmishGrid$Fight" cX2_reset 2 G (FA G S sz) := C
  exact tX2_reset_0 C hr hex Q QX S a0 x1 p_a0 P hl (by omega) (by omega) hw
theorem cd_X2_reset : yX2_reset.cls = RX2 ∧ yX2_reset.cls ≠ "java/lang/invoke/MethodHandle" ∧ yX2_reset.cls ≠ "java/lang/invoke/VarHandle" ∧ (parseMethodDescriptor yX2_reset.desc).map (fun d => d.parameters.length) = some 1 := by decide +kernel
abbrev rmX2_copyFrom : Room := { frames := 2, cells := 0, slots := 0, locals := 81 }
def wX2_copyFrom_21 (Q : MS → Prop) (QX : String → MS → Prop) (k21 : MS → Nat → Nat → Int32 → Prop) (S : MS) (a0 : Nat) (u1 : Nat) (y2 : Int32) : Prop := (((mI S a0 2) ≤ y2 → (∃ a1, mR S u1 3 = some a1 ∧ (∃ a2, mR S a0 3 = some a2 ∧ ((0 : Int32).toNatClampNeg + (8 : Int32).toNatClampNeg ≤ mN S a1 ∧ ((0 : Int32).toNatClampNeg + (8 : Int32).toNatClampNeg ≤ mN S a2 ∧ (∀ S3, S3 = (sIr S a2 (va_cpy (mI S a1) (mI S a2) (0 : Int32).toNatClampNeg (0 : Int32).toNatClampNeg (8 : Int32).toNatClampNeg)) → (∀ S4, S4 = (sI S3 a0 4 (mI S3 u1 4)) → (∀ S5, S5 = (sI S4 a0 5 (mI S4 u1 5)) → (∀ S6, S6 = (sI S5 a0 6 (mI S5 u1 6)) → (∀ S7, S7 = (sI S6 a0 7 (mI S6 u1 7)) → (∀ S8, S8 = (sI S7 a0 8 (mI S7 u1 8)) → (∀ S9, S9 = (sI S8 a0 9 (mI S8 u1 9)) → (∀ S10, S10 = (sI S9 a0 10 (mI S9 u1 10)) → (∃ a11, mR S10 a0 11 = some a11 ∧ (∃ a12, mR S10 u1 11 = some a12 ∧ wp_X1_copyFrom (fun S13 => Q S13) QX S10 a11 a12))))))))))))))) ∧ (¬ (mI S a0 2) ≤ y2 → (∃ a14, mR S a0 1 = some a14 ∧ (vp_in y2 (mN S a14) ∧ (∃ a15, mR S a14 (y2 : Int32).toNatClampNeg = some a15 ∧ (∃ a16, mR S u1 1 = some a16 ∧ (vp_in y2 (mN S a16) ∧ (∃ a17, mR S a16 (y2 : Int32).toNatClampNeg = some a17 ∧ wp_X7_copyFrom (fun S18 => k21 S18 a0 u1 (y2 + 1)) QX S a15 a17))))))))
set_option maxHeartbeats 4000000 in
set_option maxRecDepth 100000 in
theorem tX2_copyFrom_21 {p : Program} {l : Launch} {e : Env} {s : State} {m : MethodId} {args : Array Value} {below : List Frame} {meth : Method} {c : Code} {H : Heap} {locs : List Loc} {cells slots : Nat} {G : GP} {A : Nat → Prop} {S0 : MS} {ls : Array Slot} (C : CF p l s m args meth c "SkirmishGrid$Fight" cX2_copyFrom 3 G A) (hr : meth.sig.returnType = none) (hex : ∀ x ∈ c.exceptionTable.toList, False) (Q : MS → Prop) (QX : String → MS → Prop) (k21 : MS → Nat → Nat → Int32 → Prop) (kh21 : ∀ (S : MS) (a0 : Nat) (u1 : Nat) (y2 : Int32) (cells slots : Nat) (H : Heap) (locs : List Loc) (ls : Array Slot), pI S 2 a0 → pI S 2 u1 → PW G A s H locs S0 S → lv_has ls 3 [(0, .ref a0), (1, .ref u1), (2, .int y2)] → cells + 0 ≤ 0 → slots + 0 ≤ 0 → k21 S a0 u1 y2 → W p l e rmX2_copyFrom s m args below meth c H locs cells slots (vx_MQ below (QV G S0 A Q) (XX G S0 A QX) args s 0 0 A) (F0 m 21 ls [])) (S : MS) (a0 : Nat) (u1 : Nat) (y2 : Int32) (p_a0 : pI S 2 a0) (p_u1 : pI S 2 u1) (P : PW G A s H locs S0 S) (hl : lv_has ls 3 [(0, .ref a0), (1, .ref u1), (2, .int y2)]) (hcc : cells + 0 ≤ 0) (hss : slots + 0 ≤ 0) (hw : wX2_copyFrom_21 Q QX k21 S a0 u1 y2) : W p l e rmX2_copyFrom s m args below meth c H locs cells slots (vx_MQ below (QV G S0 A Q) (XX G S0 A QX) args s 0 0 A) (F0 m 21 ls []) := by
  have hx := CF_x C
  have hb := CF_b C
  unfold wX2_copyFrom_21 at hw
  refine lv_iload_n hx hb dX2_copyFrom_21 rfl (lv_at hl 2 rfl) ?_
  refine lv_aload_n hx hb dX2_copyFrom_22 rfl (lv_at hl 0 rfl) ?_
  refine gf_2_2 C P p_a0 q_168 dX2_copyFrom_23 ?_
  refine lv_icmp_ge (tgt := 50) hx hb dX2_copyFrom_26 (by decide) (fun hc => ?_) (fun hc => ?_)
  · have hw := hw.1 hc
    refine lv_aload_n hx hb dX2_copyFrom_50 rfl (lv_at hl 1 rfl) ?_
    obtain ⟨a1, e1, hw⟩ := hw
    have p_a1 : pI S 12 a1 := wf_r P.2.2.2.1 p_u1 e1
    refine gf_2_3 C P p_u1 e1 q_172 dX2_copyFrom_51 ?_
    refine lv_iconst (v := 0) hx hb dX2_copyFrom_54 (by decide) ?_
    refine lv_aload_n hx hb dX2_copyFrom_55 rfl (lv_at hl 0 rfl) ?_
    obtain ⟨a2, e1, hw⟩ := hw
    have p_a2 : pI S 12 a2 := wf_r P.2.2.2.1 p_a0 e1
    refine gf_2_3 C P p_a0 e1 q_172 dX2_copyFrom_56 ?_
    refine lv_iconst (v := 0) hx hb dX2_copyFrom_59 (by decide) ?_
    refine lv_bipush (v := 8) hx hb dX2_copyFrom_60 (by decide) ?_
    obtain ⟨h4, hw⟩ := hw
    obtain ⟨h5, hw⟩ := hw
    refine rc_i C P hl.1 p_a1 p_a2 q_390 q_385 q_384 q_26 (by decide) (by decide) (by decide) h4 h5 (Nat.le_of_ble_eq_true rfl) (Nat.le_of_ble_eq_true rfl) dX2_copyFrom_62 (fun H locs P => ?_)
    obtain ⟨S3, hS⟩ : ∃ z, z = (sIr S a2 (va_cpy (mI S a1) (mI S a2) (0 : Int32).toNatClampNeg (0 : Int32).toNatClampNeg (8 : Int32).toNatClampNeg)) := ⟨_, rfl⟩
    have P : PW G A s H locs S0 S3 := by rw [hS]; exact P
    have p_a0 : pI S3 2 a0 := by rw [hS]; exact pI_x ext_sIr p_a0
    have p_u1 : pI S3 2 u1 := by rw [hS]; exact pI_x ext_sIr p_u1
    have p_a1 : pI S3 12 a1 := by rw [hS]; exact pI_x ext_sIr p_a1
    have p_a2 : pI S3 12 a2 := by rw [hS]; exact pI_x ext_sIr p_a2
    have hw := hw S3 hS
    refine lv_aload_n hx hb dX2_copyFrom_65 rfl (lv_at hl 0 rfl) ?_
    refine lv_aload_n hx hb dX2_copyFrom_66 rfl (lv_at hl 1 rfl) ?_
    refine gf_2_4 C P p_u1 q_174 dX2_copyFrom_67 ?_
    refine pf_2_4 C P p_a0 q_174 dX2_copyFrom_70 (fun H locs P => ?_)
    obtain ⟨S4, hS⟩ : ∃ z, z = (sI S3 a0 4 (mI S3 u1 4)) := ⟨_, rfl⟩
    have P : PW G A s H locs S0 S4 := by rw [hS]; exact P
    have p_a0 : pI S4 2 a0 := by rw [hS]; exact pI_x ext_sI p_a0
    have p_u1 : pI S4 2 u1 := by rw [hS]; exact pI_x ext_sI p_u1
    have hw := hw S4 hS
    refine lv_aload_n hx hb dX2_copyFrom_73 rfl (lv_at hl 0 rfl) ?_
    refine lv_aload_n hx hb dX2_copyFrom_74 rfl (lv_at hl 1 rfl) ?_
    refine gf_2_5 C P p_u1 q_176 dX2_copyFrom_75 ?_
    refine pf_2_5 C P p_a0 q_176 dX2_copyFrom_78 (fun H locs P => ?_)
    obtain ⟨S5, hS⟩ : ∃ z, z = (sI S4 a0 5 (mI S4 u1 5)) := ⟨_, rfl⟩
    have P : PW G A s H locs S0 S5 := by rw [hS]; exact P
    have p_a0 : pI S5 2 a0 := by rw [hS]; exact pI_x ext_sI p_a0
    have p_u1 : pI S5 2 u1 := by rw [hS]; exact pI_x ext_sI p_u1
    have hw := hw S5 hS
    refine lv_aload_n hx hb dX2_copyFrom_81 rfl (lv_at hl 0 rfl) ?_
    refine lv_aload_n hx hb dX2_copyFrom_82 rfl (lv_at hl 1 rfl) ?_
    refine gf_2_6 C P p_u1 q_177 dX2_copyFrom_83 ?_
    refine pf_2_6 C P p_a0 q_177 dX2_copyFrom_86 (fun H locs P => ?_)
    obtain ⟨S6, hS⟩ : ∃ z, z = (sI S5 a0 6 (mI S5 u1 6)) := ⟨_, rfl⟩
    have P : PW G A s H locs S0 S6 := by rw [hS]; exact P
    have p_a0 : pI S6 2 a0 := by rw [hS]; exact pI_x ext_sI p_a0
    have p_u1 : pI S6 2 u1 := by rw [hS]; exact pI_x ext_sI p_u1
    have hw := hw S6 hS
    refine lv_aload_n hx hb dX2_copyFrom_89 rfl (lv_at hl 0 rfl) ?_
    refine lv_aload_n hx hb dX2_copyFrom_90 rfl (lv_at hl 1 rfl) ?_
    refine gf_2_7 C P p_u1 q_179 dX2_copyFrom_91 ?_
    refine pf_2_7 C P p_a0 q_179 dX2_copyFrom_94 (fun H locs P => ?_)
    obtain ⟨S7, hS⟩ : ∃ z, z = (sI S6 a0 7 (mI S6 u1 7)) := ⟨_, rfl⟩
    have P : PW G A s H locs S0 S7 := by rw [hS]; exact P
    have p_a0 : pI S7 2 a0 := by rw [hS]; exact pI_x ext_sI p_a0
    have p_u1 : pI S7 2 u1 := by rw [hS]; exact pI_x ext_sI p_u1
    have hw := hw S7 hS
    refine lv_aload_n hx hb dX2_copyFrom_97 rfl (lv_at hl 0 rfl) ?_
    refine lv_aload_n hx hb dX2_copyFrom_98 rfl (lv_at hl 1 rfl) ?_
    refine gf_2_8 C P p_u1 q_181 dX2_copyFrom_99 ?_
    refine pf_2_8 C P p_a0 q_181 dX2_copyFrom_102 (fun H locs P => ?_)
    obtain ⟨S8, hS⟩ : ∃ z, z = (sI S7 a0 8 (mI S7 u1 8)) := ⟨_, rfl⟩
    have P : PW G A s H locs S0 S8 := by rw [hS]; exact P
    have p_a0 : pI S8 2 a0 := by rw [hS]; exact pI_x ext_sI p_a0
    have p_u1 : pI S8 2 u1 := by rw [hS]; exact pI_x ext_sI p_u1
    have hw := hw S8 hS
    refine lv_aload_n hx hb dX2_copyFrom_105 rfl (lv_at hl 0 rfl) ?_
    refine lv_aload_n hx hb dX2_copyFrom_106 rfl (lv_at hl 1 rfl) ?_
    refine gf_2_9 C P p_u1 q_183 dX2_copyFrom_107 ?_
    refine pf_2_9 C P p_a0 q_183 dX2_copyFrom_110 (fun H locs P => ?_)
    obtain ⟨S9, hS⟩ : ∃ z, z = (sI S8 a0 9 (mI S8 u1 9)) := ⟨_, rfl⟩
    have P : PW G A s H locs S0 S9 := by rw [hS]; exact P
    have p_a0 : pI S9 2 a0 := by rw [hS]; exact pI_x ext_sI p_a0
    have p_u1 : pI S9 2 u1 := by rw [hS]; exact pI_x ext_sI p_u1
    have hw := hw S9 hS
    refine lv_aload_n hx hb dX2_copyFrom_113 rfl (lv_at hl 0 rfl) ?_
    refine lv_aload_n hx hb dX2_copyFrom_114 rfl (lv_at hl 1 rfl) ?_
    refine gf_2_10 C P p_u1 q_184 dX2_copyFrom_115 ?_
    refine pf_2_10 C P p_a0 q_184 dX2_copyFrom_118 (fun H locs P => ?_)
    obtain ⟨S10, hS⟩ : ∃ z, z = (sI S9 a0 10 (mI S9 u1 10)) := ⟨_, rfl⟩
    have P : PW G A s H locs S0 S10 := by rw [hS]; exact P
    have p_a0 : pI S10 2 a0 := by rw [hS]; exact pI_x ext_sI p_a0
    have p_u1 : pI S10 2 u1 := by rw [hS]; exact pI_x ext_sI p_u1
    have hw := hw S10 hS
    refine lv_aload_n hx hb dX2_copyFrom_121 rfl (lv_at hl 0 rfl) ?_
    obtain ⟨a11, e1, hw⟩ := hw
    have p_a11 : pI S10 1 a11 := wf_r P.2.2.2.1 p_a0 e1
    refine gf_2_11 C P p_a0 e1 q_185 dX2_copyFrom_122 ?_
    refine lv_aload_n hx hb dX2_copyFrom_125 rfl (lv_at hl 1 rfl) ?_
    obtain ⟨a12, e1, hw⟩ := hw
    have p_a12 : pI S10 1 a12 := wf_r P.2.2.2.1 p_u1 e1
    refine gf_2_11 C P p_u1 e1 q_185 dX2_copyFrom_126 ?_
    refine cl_v C P (run_V C P hl.1 (kd := 1) (met_X1_copyFrom (CF_n C) G H.size _ _ S10 a11 a12 p_a11 p_a12 hw) p_a11 (by decide) rfl q_391 q_392 q_393 q_4 q_394 cd_X1_copyFrom ⟨(Nat.le_of_ble_eq_true rfl), (Nat.le_of_ble_eq_true rfl)⟩ rfl rfl (As := [.ref a12]) (rest := []) rfl rfl (Nat.le_of_ble_eq_true rfl) dX2_copyFrom_129 ⟨by show cells + 0 ≤ 0; omega, by show slots + 0 ≤ 0; omega⟩) (kx_out C hex (fun _ _ _ h => h) (by omega) (by omega)) (fun S13 H locs P hE hw => ?_)
    have p_a11 : pI S13 1 a11 := pI_x hE p_a11
    have p_a12 : pI S13 1 a12 := pI_x hE p_a12
    exact e_v C hr P hw (by omega) (by omega) dX2_copyFrom_132
  · have hw := hw.2 hc
    refine lv_aload_n hx hb dX2_copyFrom_29 rfl (lv_at hl 0 rfl) ?_
    obtain ⟨a14, e1, hw⟩ := hw
    have p_a14 : pI S 15 a14 := wf_r P.2.2.2.1 p_a0 e1
    refine gf_2_1 C P p_a0 e1 q_164 dX2_copyFrom_30 ?_
    refine lv_iload_n hx hb dX2_copyFrom_33 rfl (lv_at hl 2 rfl) ?_
    obtain ⟨h1, hw⟩ := hw
    obtain ⟨a15, e1, hw⟩ := hw
    have p_a15 : pI S 7 a15 := wf_r P.2.2.2.1 p_a14 e1
    refine ra_a5 C P p_a14 h1 e1 dX2_copyFrom_34 ?_
    refine lv_aload_n hx hb dX2_copyFrom_35 rfl (lv_at hl 1 rfl) ?_
    obtain ⟨a16, e1, hw⟩ := hw
    have p_a16 : pI S 15 a16 := wf_r P.2.2.2.1 p_u1 e1
    refine gf_2_1 C P p_u1 e1 q_164 dX2_copyFrom_36 ?_
    refine lv_iload_n hx hb dX2_copyFrom_39 rfl (lv_at hl 2 rfl) ?_
    obtain ⟨h1, hw⟩ := hw
    obtain ⟨a17, e1, hw⟩ := hw
    have p_a17 : pI S 7 a17 := wf_r P.2.2.2.1 p_a16 e1
    refine ra_a5 C P p_a16 h1 e1 dX2_copyFrom_40 ?_
    refine cl_v C P (run_V C P hl.1 (kd := 7) (met_X7_copyFrom (CF_n C) G H.size _ _ S a15 a17 p_a15 p_a17 hw) p_a15 (by decide) rfl q_386 q_387 q_388 q_5 q_389 cd_X7_copyFrom ⟨(Nat.le_of_ble_eq_true rfl), (Nat.le_of_ble_eq_true rfl)⟩ rfl rfl (As := [.ref a17]) (rest := []) rfl rfl (Nat.le_of_ble_eq_true rfl) dX2_copyFrom_41 ⟨by show cells + 0 ≤ 0; omega, by show slots + 0 ≤ 0; omega⟩) (kx_out C hex (fun _ _ _ h => h) (by omega) (by omega)) (fun S18 H locs P hE hw => ?_)
    have p_a0 : pI S18 2 a0 := pI_x hE p_a0
    have p_u1 : pI S18 2 u1 := pI_x hE p_u1
    have p_a15 : pI S18 7 a15 := pI_x hE p_a15
    have p_a17 : pI S18 7 a17 := pI_x hE p_a17
    refine lv_iinc (v := (y2 + 1)) (lv' := [(2, .int (y2 + 1)), (0, .ref a0), (1, .ref u1)]) hx hb dX2_copyFrom_44 hl (k := 2) rfl (by rfl) (by decide) rfl (fun ls hl => ?_)
    refine lv_goto (tgt := 21) hx hb dX2_copyFrom_47 (by decide) ?_
    exact kh21 S18 a0 u1 (y2 + 1) _ _ _ _ _ p_a0 p_u1 P (lv_sub hl [1, 2, 0] rfl) (by omega) (by omega) hw
def lX2_copyFrom_21 (Q : MS → Prop) (QX : String → MS → Prop) : Nat → MS → Nat → Nat → Int32 → Prop
  | 0 => fun _ _ _ _ => False
  | n + 1 => fun S a0 u1 y2 => wX2_copyFrom_21 Q QX (lX2_copyFrom_21 Q QX n) S a0 u1 y2
theorem tlX2_copyFrom_21 {p : Program} {l : Launch} {e : Env} {s : State} {m : MethodId} {args : Array Value} {below : List Frame} {meth : Method} {c : Code} {G : GP} {A : Nat → Prop} {S0 : MS} (C : CF p l s m args meth c "SkirmishGrid$Fight" cX2_copyFrom 3 G A) (hr : meth.sig.returnType = none) (hex : ∀ x ∈ c.exceptionTable.toList, False) (Q : MS → Prop) (QX : String → MS → Prop) : ∀ (n : Nat), ∀ (S : MS) (a0 : Nat) (u1 : Nat) (y2 : Int32) (cells slots : Nat) (H : Heap) (locs : List Loc) (ls : Array Slot), pI S 2 a0 → pI S 2 u1 → PW G A s H locs S0 S → lv_has ls 3 [(0, .ref a0), (1, .ref u1), (2, .int y2)] → cells + 0 ≤ 0 → slots + 0 ≤ 0 → lX2_copyFrom_21 Q QX n S a0 u1 y2 → W p l e rmX2_copyFrom s m args below meth c H locs cells slots (vx_MQ below (QV G S0 A Q) (XX G S0 A QX) args s 0 0 A) (F0 m 21 ls []) := by
  intro n
  induction n with
  | zero => intro S a0 u1 y2 cells slots H locs ls p_a0 p_u1 P hl hcc hss hw; exact hw.elim
  | succ n ih => intro S a0 u1 y2 cells slots H locs ls p_a0 p_u1 P hl hcc hss hw; exact tX2_copyFrom_21 C hr hex Q QX (lX2_copyFrom_21 Q QX n) ih S a0 u1 y2 p_a0 p_u1 P hl hcc hss hw
def wX2_copyFrom_0 (Q : MS → Prop) (QX : String → MS → Prop) (S : MS) (a0 : Nat) (b1 : Nat) : Prop := (∃ a1, mR S a0 0 = some a1 ∧ (∃ a2, mR S b1 0 = some a2 ∧ wp_X3_copyFrom (fun S3 => (∀ S4, S4 = (sI S3 a0 2 (mI S3 b1 2)) → (∃ n, lX2_copyFrom_21 Q QX n S4 a0 b1 0))) QX S a1 a2))
set_option maxHeartbeats 4000000 in
set_option maxRecDepth 100000 in
theorem tX2_copyFrom_0 {p : Program} {l : Launch} {e : Env} {s : State} {m : MethodId} {args : Array Value} {below : List Frame} {meth : Method} {c : Code} {H : Heap} {locs : List Loc} {cells slots : Nat} {G : GP} {A : Nat → Prop} {S0 : MS} {ls : Array Slot} (C : CF p l s m args meth c "SkirmishGrid$Fight" cX2_copyFrom 3 G A) (hr : meth.sig.returnType = none) (hex : ∀ x ∈ c.exceptionTable.toList, False) (Q : MS → Prop) (QX : String → MS → Prop) (S : MS) (a0 : Nat) (b1 : Nat) (p_a0 : pI S 2 a0) (p_b1 : pI S 2 b1) (P : PW G A s H locs S0 S) (hl : lv_has ls 3 [(0, .ref a0), (1, .ref b1)]) (hcc : cells + 0 ≤ 0) (hss : slots + 0 ≤ 0) (hw : wX2_copyFrom_0 Q QX S a0 b1) : W p l e rmX2_copyFrom s m args below meth c H locs cells slots (vx_MQ below (QV G S0 A Q) (XX G S0 A QX) args s 0 0 A) (F0 m 0 ls []) := by
  have hx := CF_x C
  have hb := CF_b C
  unfold wX2_copyFrom_0 at hw
  refine lv_aload_n hx hb dX2_copyFrom_0 rfl (lv_at hl 0 rfl) ?_
  obtain ⟨a1, e1, hw⟩ := hw
  have p_a1 : pI S 3 a1 := wf_r P.2.2.2.1 p_a0 e1
  refine gf_2_0 C P p_a0 e1 q_161 dX2_copyFrom_1 ?_
  refine lv_aload_n hx hb dX2_copyFrom_4 rfl (lv_at hl 1 rfl) ?_
  obtain ⟨a2, e1, hw⟩ := hw
  have p_a2 : pI S 3 a2 := wf_r P.2.2.2.1 p_b1 e1
  refine gf_2_0 C P p_b1 e1 q_161 dX2_copyFrom_5 ?_
  refine cl_v C P (run_V C P hl.1 (kd := 3) (met_X3_copyFrom (CF_n C) G H.size _ _ S a1 a2 p_a1 p_a2 hw) p_a1 (by decide) rfl q_379 q_380 q_381 q_3 q_382 cd_X3_copyFrom ⟨(Nat.le_of_ble_eq_true rfl), (Nat.le_of_ble_eq_true rfl)⟩ rfl rfl (As := [.ref a2]) (rest := []) rfl rfl (Nat.le_of_ble_eq_true rfl) dX2_copyFrom_8 ⟨by show cells + 0 ≤ 0; omega, by show slots + 0 ≤ 0; omega⟩) (kx_out C hex (fun _ _ _ h => h) (by omega) (by omega)) (fun S3 H locs P hE hw => ?_)
  have p_a0 : pI S3 2 a0 := pI_x hE p_a0
  have p_b1 : pI S3 2 b1 := pI_x hE p_b1
  have p_a1 : pI S3 3 a1 := pI_x hE p_a1
  have p_a2 : pI S3 3 a2 := pI_x hE p_a2
  refine lv_aload_n hx hb dX2_copyFrom_11 rfl (lv_at hl 0 rfl) ?_
  refine lv_aload_n hx hb dX2_copyFrom_12 rfl (lv_at hl 1 rfl) ?_
  refine gf_2_2 C P p_b1 q_168 dX2_copyFrom_13 ?_
  refine pf_2_2 C P p_a0 q_168 dX2_copyFrom_16 (fun H locs P => ?_)
  obtain ⟨S4, hS⟩ : ∃ z, z = (sI S3 a0 2 (mI S3 b1 2)) := ⟨_, rfl⟩
  have P : PW G A s H locs S0 S4 := by rw [hS]; exact P
  have p_a0 : pI S4 2 a0 := by rw [hS]; exact pI_x ext_sI p_a0
  have p_b1 : pI S4 2 b1 := by rw [hS]; exact pI_x ext_sI p_b1
  have hw := hw S4 hS
  refine lv_iconst (v := 0) hx hb dX2_copyFrom_19 (by decide) ?_
  refine lv_istore_n (lv' := [(2, .int 0), (0, .ref a0), (1, .ref b1)]) hx hb dX2_copyFrom_20 rfl hl (by decide) rfl (fun ls hl => ?_)
  obtain ⟨n, hw⟩ := hw
  exact tlX2_copyFrom_21 C hr hex Q QX n S4 a0 b1 0 _ _ _ _ _ p_a0 p_b1 P (lv_sub hl [1, 2, 0] rfl) (by omega) (by omega) hw
def wp_X2_copyFrom (Q : MS → Prop) (QX : String → MS → Prop) (S : MS) (a0 : Nat) (b1 : Nat) : Prop := wX2_copyFrom_0 Q QX S a0 b1
set_option maxHeartbeats 4000000 in
set_option maxRecDepth 100000 in
theorem met_X2_copyFrom {l : Launch} (hst : l.stackTraces = false) (G : GP) (sz : Nat) (Q : MS → Prop) (QX : String → MS → Prop) (S : MS) (a0 : Nat) (b1 : Nat) (p_a0 : pI S 2 a0) (p_b1 : pI S 2 b1) (hw : wp_X2_copyFrom Q QX S a0 b1) : vx_Met l yX2_copyFrom (.code yX2_copyFrom cX2_copyFrom 3 none :: GW) rmX2_copyFrom (va_Pc [.ref a0, .ref b1] (PR G S sz)) (QV G S (FA G S sz) Q) (XX G S (FA G S sz) QX) 0 0 (FA G S sz) := by
  refine st_m (by decide +kernel) hst (fun p e s m below meth c C hr hnm hex P => ?_)
  refine en_m (Nat.le_of_ble_eq_true rfl) (lv := [(0, .ref a0), (1, .ref b1)]) rfl (fun ls hl => ?_)
  have C : CF p l s m _ meth c "SkirmishGrid$Fight" cX2_copyFrom 3 G (FA G S sz) := C
  exact tX2_copyFrom_0 C hr hex Q QX S a0 b1 p_a0 p_b1 P hl (by omega) (by omega) hw
theorem cd_X2_copyFrom : yX2_copyFrom.cls = RX2 ∧ yX2_copyFrom.cls ≠ "java/lang/invoke/MethodHandle" ∧ yX2_copyFrom.cls ≠ "java/lang/invoke/VarHandle" ∧ (parseMethodDescriptor yX2_copyFrom.desc).map (fun d => d.parameters.length) = some 1 := by decide +kernel
abbrev rmX2_enlist : Room := { frames := 1, cells := 0, slots := 0, locals := 23 }
def wX2_enlist_0 (Q : Int32 → MS → Prop) (QX : String → MS → Prop) (S : MS) (a0 : Nat) (x1 : Int32) (x2 : Int32) (x3 : Int32) : Prop := (((mI S a0 2) < 8 → (∃ a1, mR S a0 1 = some a1 ∧ (vp_in (mI S a0 2) (mN S a1) ∧ (∃ a2, mR S a1 ((mI S a0 2) : Int32).toNatClampNeg = some a2 ∧ wp_X7_enter (fun S3 => (∀ S4, S4 = (sI S3 a0 2 ((mI S3 a0 2) + 1)) → Q ((mI S4 a0 2) - 1) S4)) QX S a2 x1 x2 x3)))) ∧ (¬ (mI S a0 2) < 8 → Q (-1) S))
set_option maxHeartbeats 4000000 in
set_option maxRecDepth 100000 in
theorem tX2_enlist_0 {p : Program} {l : Launch} {e : Env} {s : State} {m : MethodId} {args : Array Value} {below : List Frame} {meth : Method} {c : Code} {H : Heap} {locs : List Loc} {cells slots : Nat} {G : GP} {A : Nat → Prop} {S0 : MS} {ls : Array Slot} (C : CF p l s m args meth c "SkirmishGrid$Fight" cX2_enlist 4 G A) (hr : meth.sig.returnType = (some .int)) (hex : ∀ x ∈ c.exceptionTable.toList, False) (Q : Int32 → MS → Prop) (QX : String → MS → Prop) (S : MS) (a0 : Nat) (x1 : Int32) (x2 : Int32) (x3 : Int32) (p_a0 : pI S 2 a0) (P : PW G A s H locs S0 S) (hl : lv_has ls 4 [(0, .ref a0), (1, .int x1), (2, .int x2), (3, .int x3)]) (hcc : cells + 0 ≤ 0) (hss : slots + 0 ≤ 0) (hw : wX2_enlist_0 Q QX S a0 x1 x2 x3) : W p l e rmX2_enlist s m args below meth c H locs cells slots (vx_MQ below (QI G S0 A Q) (XX G S0 A QX) args s 0 0 A) (F0 m 0 ls []) := by
  have hx := CF_x C
  have hb := CF_b C
  unfold wX2_enlist_0 at hw
  refine lv_aload_n hx hb dX2_enlist_0 rfl (lv_at hl 0 rfl) ?_
  refine gf_2_2 C P p_a0 q_168 dX2_enlist_1 ?_
  refine lv_bipush (v := 8) hx hb dX2_enlist_4 (by decide) ?_
  refine lv_icmp_lt (tgt := 11) hx hb dX2_enlist_6 (by decide) (fun hc => ?_) (fun hc => ?_)
  · have hw := hw.1 hc
    refine lv_aload_n hx hb dX2_enlist_11 rfl (lv_at hl 0 rfl) ?_
    obtain ⟨a1, e1, hw⟩ := hw
    have p_a1 : pI S 15 a1 := wf_r P.2.2.2.1 p_a0 e1
    refine gf_2_1 C P p_a0 e1 q_164 dX2_enlist_12 ?_
    refine lv_aload_n hx hb dX2_enlist_15 rfl (lv_at hl 0 rfl) ?_
    refine gf_2_2 C P p_a0 q_168 dX2_enlist_16 ?_
    obtain ⟨h1, hw⟩ := hw
    obtain ⟨a2, e1, hw⟩ := hw
    have p_a2 : pI S 7 a2 := wf_r P.2.2.2.1 p_a1 e1
    refine ra_a5 C P p_a1 h1 e1 dX2_enlist_19 ?_
    refine lv_iload_n hx hb dX2_enlist_20 rfl (lv_at hl 1 rfl) ?_
    refine lv_iload_n hx hb dX2_enlist_21 rfl (lv_at hl 2 rfl) ?_
    refine lv_iload_n hx hb dX2_enlist_22 rfl (lv_at hl 3 rfl) ?_
    refine cl_v C P (run_V C P hl.1 (kd := 7) (met_X7_enter (CF_n C) G H.size _ _ S a2 x1 x2 x3 p_a2 hw) p_a2 (by decide) rfl q_795 q_796 q_797 q_5 q_798 cd_X7_enter ⟨(Nat.le_of_ble_eq_true rfl), (Nat.le_of_ble_eq_true rfl)⟩ rfl rfl (As := [.int x1, .int x2, .int x3]) (rest := []) rfl rfl (Nat.le_of_ble_eq_true rfl) dX2_enlist_23 ⟨by show cells + 0 ≤ 0; omega, by show slots + 0 ≤ 0; omega⟩) (kx_out C hex (fun _ _ _ h => h) (by omega) (by omega)) (fun S3 H locs P hE hw => ?_)
    have p_a0 : pI S3 2 a0 := pI_x hE p_a0
    have p_a2 : pI S3 7 a2 := pI_x hE p_a2
    refine lv_aload_n hx hb dX2_enlist_26 rfl (lv_at hl 0 rfl) ?_
    refine lv_dup hx hb dX2_enlist_27 rfl ?_
    refine gf_2_2 C P p_a0 q_168 dX2_enlist_28 ?_
    refine lv_iconst (v := 1) hx hb dX2_enlist_31 (by decide) ?_
    refine lv_iadd hx hb dX2_enlist_32 ?_
    refine pf_2_2 C P p_a0 q_168 dX2_enlist_33 (fun H locs P => ?_)
    obtain ⟨S4, hS⟩ : ∃ z, z = (sI S3 a0 2 ((mI S3 a0 2) + 1)) := ⟨_, rfl⟩
    have P : PW G A s H locs S0 S4 := by rw [hS]; exact P
    have p_a0 : pI S4 2 a0 := by rw [hS]; exact pI_x ext_sI p_a0
    have hw := hw S4 hS
    refine lv_aload_n hx hb dX2_enlist_36 rfl (lv_at hl 0 rfl) ?_
    refine gf_2_2 C P p_a0 q_168 dX2_enlist_37 ?_
    refine lv_iconst (v := 1) hx hb dX2_enlist_40 (by decide) ?_
    refine lv_isub hx hb dX2_enlist_41 ?_
    exact e_i C hr rfl P hw (by omega) (by omega) dX2_enlist_42
  · have hw := hw.2 hc
    refine lv_iconst (v := (-1)) hx hb dX2_enlist_9 (by decide) ?_
    exact e_i C hr rfl P hw (by omega) (by omega) dX2_enlist_10
def wp_X2_enlist (Q : Int32 → MS → Prop) (QX : String → MS → Prop) (S : MS) (a0 : Nat) (x1 : Int32) (x2 : Int32) (x3 : Int32) : Prop := wX2_enlist_0 Q QX S a0 x1 x2 x3
set_option maxHeartbeats 4000000 in
set_option maxRecDepth 100000 in
theorem met_X2_enlist {l : Launch} (hst : l.stackTraces = false) (G : GP) (sz : Nat) (Q : Int32 → MS → Prop) (QX : String → MS → Prop) (S : MS) (a0 : Nat) (x1 : Int32) (x2 : Int32) (x3 : Int32) (p_a0 : pI S 2 a0) (hw : wp_X2_enlist Q QX S a0 x1 x2 x3) : vx_Met l yX2_enlist (.code yX2_enlist cX2_enlist 4 (some .int) :: GW) rmX2_enlist (va_Pc [.ref a0, .int x1, .int x2, .int x3] (PR G S sz)) (QI G S (FA G S sz) Q) (XX G S (FA G S sz) QX) 0 0 (FA G S sz) := by
  refine st_m (by decide +kernel) hst (fun p e s m below meth c C hr hnm hex P => ?_)
  refine en_m (Nat.le_of_ble_eq_true rfl) (lv := [(0, .ref a0), (1, .int x1), (2, .int x2), (3, .int x3)]) rfl (fun ls hl => ?_)
  have C : CF p l s m _ meth c "SkirmishGrid$Fight" cX2_enlist 4 G (FA G S sz) := C
  exact tX2_enlist_0 C hr hex Q QX S a0 x1 x2 x3 p_a0 P hl (by omega) (by omega) hw
theorem cd_X2_enlist : yX2_enlist.cls = RX2 ∧ yX2_enlist.cls ≠ "java/lang/invoke/MethodHandle" ∧ yX2_enlist.cls ≠ "java/lang/invoke/VarHandle" ∧ (parseMethodDescriptor yX2_enlist.desc).map (fun d => d.parameters.length) = some 3 := by decide +kernel
abbrev rmX2_prepareLike : Room := { frames := 2, cells := 0, slots := 0, locals := 81 }
def wX2_prepareLike_21 (Q : MS → Prop) (QX : String → MS → Prop) (k21 : MS → Nat → Nat → Int32 → Prop) (S : MS) (a0 : Nat) (u1 : Nat) (y2 : Int32) : Prop := (((mI S u1 2) ≤ y2 → Q S) ∧ (¬ (mI S u1 2) ≤ y2 → (∃ a1, mR S u1 1 = some a1 ∧ (vp_in y2 (mN S a1) ∧ (∃ a2, mR S a1 (y2 : Int32).toNatClampNeg = some a2 ∧ wp_X2_enlist (fun r4 S3 => k21 S3 a0 u1 (y2 + 1)) QX S a0 (mI S a2 1) (mI S a2 2) (mI S a2 3))))))
set_option maxHeartbeats 4000000 in
set_option maxRecDepth 100000 in
theorem tX2_prepareLike_21 {p : Program} {l : Launch} {e : Env} {s : State} {m : MethodId} {args : Array Value} {below : List Frame} {meth : Method} {c : Code} {H : Heap} {locs : List Loc} {cells slots : Nat} {G : GP} {A : Nat → Prop} {S0 : MS} {ls : Array Slot} (C : CF p l s m args meth c "SkirmishGrid$Fight" cX2_prepareLike 4 G A) (hr : meth.sig.returnType = none) (hex : ∀ x ∈ c.exceptionTable.toList, False) (Q : MS → Prop) (QX : String → MS → Prop) (k21 : MS → Nat → Nat → Int32 → Prop) (kh21 : ∀ (S : MS) (a0 : Nat) (u1 : Nat) (y2 : Int32) (cells slots : Nat) (H : Heap) (locs : List Loc) (ls : Array Slot), pI S 2 a0 → pI S 2 u1 → PW G A s H locs S0 S → lv_has ls 4 [(0, .ref a0), (1, .ref u1), (2, .int y2)] → cells + 0 ≤ 0 → slots + 0 ≤ 0 → k21 S a0 u1 y2 → W p l e rmX2_prepareLike s m args below meth c H locs cells slots (vx_MQ below (QV G S0 A Q) (XX G S0 A QX) args s 0 0 A) (F0 m 21 ls [])) (S : MS) (a0 : Nat) (u1 : Nat) (y2 : Int32) (p_a0 : pI S 2 a0) (p_u1 : pI S 2 u1) (P : PW G A s H locs S0 S) (hl : lv_has ls 4 [(0, .ref a0), (1, .ref u1), (2, .int y2)]) (hcc : cells + 0 ≤ 0) (hss : slots + 0 ≤ 0) (hw : wX2_prepareLike_21 Q QX k21 S a0 u1 y2) : W p l e rmX2_prepareLike s m args below meth c H locs cells slots (vx_MQ below (QV G S0 A Q) (XX G S0 A QX) args s 0 0 A) (F0 m 21 ls []) := by
  have hx := CF_x C
  have hb := CF_b C
  unfold wX2_prepareLike_21 at hw
  refine lv_iload_n hx hb dX2_prepareLike_21 rfl (lv_at hl 2 rfl) ?_
  refine lv_aload_n hx hb dX2_prepareLike_22 rfl (lv_at hl 1 rfl) ?_
  refine gf_2_2 C P p_u1 q_168 dX2_prepareLike_23 ?_
  refine lv_icmp_ge (tgt := 59) hx hb dX2_prepareLike_26 (by decide) (fun hc => ?_) (fun hc => ?_)
  · have hw := hw.1 hc
    exact e_v C hr P hw (by omega) (by omega) dX2_prepareLike_59
  · have hw := hw.2 hc
    refine lv_aload_n hx hb dX2_prepareLike_29 rfl (lv_at hl 1 rfl) ?_
    obtain ⟨a1, e1, hw⟩ := hw
    have p_a1 : pI S 15 a1 := wf_r P.2.2.2.1 p_u1 e1
    refine gf_2_1 C P p_u1 e1 q_164 dX2_prepareLike_30 ?_
    refine lv_iload_n hx hb dX2_prepareLike_33 rfl (lv_at hl 2 rfl) ?_
    obtain ⟨h1, hw⟩ := hw
    obtain ⟨a2, e1, hw⟩ := hw
    have p_a2 : pI S 7 a2 := wf_r P.2.2.2.1 p_a1 e1
    refine ra_a5 C P p_a1 h1 e1 dX2_prepareLike_34 ?_
    refine lv_astore_n (lv' := [(3, .ref a2), (0, .ref a0), (1, .ref u1), (2, .int y2)]) hx hb dX2_prepareLike_35 rfl hl (by decide) rfl (fun ls hl => ?_)
    refine lv_aload_n hx hb dX2_prepareLike_36 rfl (lv_at hl 1 rfl) ?_
    refine lv_aload_n hx hb dX2_prepareLike_37 rfl (lv_at hl 0 rfl) ?_
    refine gf_7_1 C P p_a2 q_97 dX2_prepareLike_38 ?_
    refine lv_aload_n hx hb dX2_prepareLike_41 rfl (lv_at hl 0 rfl) ?_
    refine gf_7_2 C P p_a2 q_101 dX2_prepareLike_42 ?_
    refine lv_aload_n hx hb dX2_prepareLike_45 rfl (lv_at hl 0 rfl) ?_
    refine gf_7_3 C P p_a2 q_104 dX2_prepareLike_46 ?_
    refine cl_i C P (run_V C P hl.1 (kd := 2) (met_X2_enlist (CF_n C) G H.size _ _ S a0 (mI S a2 1) (mI S a2 2) (mI S a2 3) p_a0 hw) p_a0 (by decide) rfl q_1200 q_792 q_793 q_2 q_794 cd_X2_enlist ⟨(Nat.le_of_ble_eq_true rfl), (Nat.le_of_ble_eq_true rfl)⟩ rfl rfl (As := [.int (mI S a2 1), .int (mI S a2 2), .int (mI S a2 3)]) (rest := []) rfl rfl (Nat.le_of_ble_eq_true rfl) dX2_prepareLike_49 ⟨by show cells + 0 ≤ 0; omega, by show slots + 0 ≤ 0; omega⟩) (kx_out C hex (fun _ _ _ h => h) (by omega) (by omega)) (fun r4 S3 H locs P hE hw => ?_)
    have p_a0 : pI S3 2 a0 := pI_x hE p_a0
    have p_u1 : pI S3 2 u1 := pI_x hE p_u1
    refine lv_pop hx hb dX2_prepareLike_52 rfl ?_
    refine lv_iinc (v := (y2 + 1)) (lv' := [(2, .int (y2 + 1)), (3, .ref a2), (0, .ref a0), (1, .ref u1)]) hx hb dX2_prepareLike_53 hl (k := 3) rfl (by rfl) (by decide) rfl (fun ls hl => ?_)
    refine lv_goto (tgt := 21) hx hb dX2_prepareLike_56 (by decide) ?_
    exact kh21 S3 a0 u1 (y2 + 1) _ _ _ _ _ p_a0 p_u1 P (lv_sub hl [2, 3, 0] rfl) (by omega) (by omega) hw
def lX2_prepareLike_21 (Q : MS → Prop) (QX : String → MS → Prop) : Nat → MS → Nat → Nat → Int32 → Prop
  | 0 => fun _ _ _ _ => False
  | n + 1 => fun S a0 u1 y2 => wX2_prepareLike_21 Q QX (lX2_prepareLike_21 Q QX n) S a0 u1 y2
theorem tlX2_prepareLike_21 {p : Program} {l : Launch} {e : Env} {s : State} {m : MethodId} {args : Array Value} {below : List Frame} {meth : Method} {c : Code} {G : GP} {A : Nat → Prop} {S0 : MS} (C : CF p l s m args meth c "SkirmishGrid$Fight" cX2_prepareLike 4 G A) (hr : meth.sig.returnType = none) (hex : ∀ x ∈ c.exceptionTable.toList, False) (Q : MS → Prop) (QX : String → MS → Prop) : ∀ (n : Nat), ∀ (S : MS) (a0 : Nat) (u1 : Nat) (y2 : Int32) (cells slots : Nat) (H : Heap) (locs : List Loc) (ls : Array Slot), pI S 2 a0 → pI S 2 u1 → PW G A s H locs S0 S → lv_has ls 4 [(0, .ref a0), (1, .ref u1), (2, .int y2)] → cells + 0 ≤ 0 → slots + 0 ≤ 0 → lX2_prepareLike_21 Q QX n S a0 u1 y2 → W p l e rmX2_prepareLike s m args below meth c H locs cells slots (vx_MQ below (QV G S0 A Q) (XX G S0 A QX) args s 0 0 A) (F0 m 21 ls []) := by
  intro n
  induction n with
  | zero => intro S a0 u1 y2 cells slots H locs ls p_a0 p_u1 P hl hcc hss hw; exact hw.elim
  | succ n ih => intro S a0 u1 y2 cells slots H locs ls p_a0 p_u1 P hl hcc hss hw; exact tX2_prepareLike_21 C hr hex Q QX (lX2_prepareLike_21 Q QX n) ih S a0 u1 y2 p_a0 p_u1 P hl hcc hss hw
def wX2_prepareLike_0 (Q : MS → Prop) (QX : String → MS → Prop) (S : MS) (a0 : Nat) (b1 : Nat) : Prop := wp_X2_reset (fun S1 => (∃ a2, mR S1 a0 0 = some a2 ∧ (∃ a3, mR S1 b1 0 = some a3 ∧ wp_X3_copyFrom (fun S4 => (∃ n, lX2_prepareLike_21 Q QX n S4 a0 b1 0)) QX S1 a2 a3))) QX S a0 (mI S b1 9)
set_option maxHeartbeats 4000000 in
set_option maxRecDepth 100000 in
theorem tX2_prepareLike_0 {p : Program} {l : Launch} {e : Env} {s : State} {m : MethodId} {args : Array Value} {below : List Frame} {meth : Method} {c : Code} {H : Heap} {locs : List Loc} {cells slots : Nat} {G : GP} {A : Nat → Prop} {S0 : MS} {ls : Array Slot} (C : CF p l s m args meth c "SkirmishGrid$Fight" cX2_prepareLike 4 G A) (hr : meth.sig.returnType = none) (hex : ∀ x ∈ c.exceptionTable.toList, False) (Q : MS → Prop) (QX : String → MS → Prop) (S : MS) (a0 : Nat) (b1 : Nat) (p_a0 : pI S 2 a0) (p_b1 : pI S 2 b1) (P : PW G A s H locs S0 S) (hl : lv_has ls 4 [(0, .ref a0), (1, .ref b1)]) (hcc : cells + 0 ≤ 0) (hss : slots + 0 ≤ 0) (hw : wX2_prepareLike_0 Q QX S a0 b1) : W p l e rmX2_prepareLike s m args below meth c H locs cells slots (vx_MQ below (QV G S0 A Q) (XX G S0 A QX) args s 0 0 A) (F0 m 0 ls []) := by
  have hx := CF_x C
  have hb := CF_b C
  unfold wX2_prepareLike_0 at hw
  refine lv_aload_n hx hb dX2_prepareLike_0 rfl (lv_at hl 0 rfl) ?_
  refine lv_aload_n hx hb dX2_prepareLike_1 rfl (lv_at hl 1 rfl) ?_
  refine gf_2_9 C P p_b1 q_183 dX2_prepareLike_2 ?_
  refine cl_v C P (run_V C P hl.1 (kd := 2) (met_X2_reset (CF_n C) G H.size _ _ S a0 (mI S b1 9) p_a0 hw) p_a0 (by decide) rfl q_1199 q_620 q_621 q_2 q_622 cd_X2_reset ⟨(Nat.le_of_ble_eq_true rfl), (Nat.le_of_ble_eq_true rfl)⟩ rfl rfl (As := [.int (mI S b1 9)]) (rest := []) rfl rfl (Nat.le_of_ble_eq_true rfl) dX2_prepareLike_5 ⟨by show cells + 0 ≤ 0; omega, by show slots + 0 ≤ 0; omega⟩) (kx_out C hex (fun _ _ _ h => h) (by omega) (by omega)) (fun S1 H locs P hE hw => ?_)
  have p_a0 : pI S1 2 a0 := pI_x hE p_a0
  have p_b1 : pI S1 2 b1 := pI_x hE p_b1
  refine lv_aload_n hx hb dX2_prepareLike_8 rfl (lv_at hl 0 rfl) ?_
  obtain ⟨a2, e1, hw⟩ := hw
  have p_a2 : pI S1 3 a2 := wf_r P.2.2.2.1 p_a0 e1
  refine gf_2_0 C P p_a0 e1 q_161 dX2_prepareLike_9 ?_
  refine lv_aload_n hx hb dX2_prepareLike_12 rfl (lv_at hl 1 rfl) ?_
  obtain ⟨a3, e1, hw⟩ := hw
  have p_a3 : pI S1 3 a3 := wf_r P.2.2.2.1 p_b1 e1
  refine gf_2_0 C P p_b1 e1 q_161 dX2_prepareLike_13 ?_
  refine cl_v C P (run_V C P hl.1 (kd := 3) (met_X3_copyFrom (CF_n C) G H.size _ _ S1 a2 a3 p_a2 p_a3 hw) p_a2 (by decide) rfl q_379 q_380 q_381 q_3 q_382 cd_X3_copyFrom ⟨(Nat.le_of_ble_eq_true rfl), (Nat.le_of_ble_eq_true rfl)⟩ rfl rfl (As := [.ref a3]) (rest := []) rfl rfl (Nat.le_of_ble_eq_true rfl) dX2_prepareLike_16 ⟨by show cells + 0 ≤ 0; omega, by show slots + 0 ≤ 0; omega⟩) (kx_out C hex (fun _ _ _ h => h) (by omega) (by omega)) (fun S4 H locs P hE hw => ?_)
  have p_a0 : pI S4 2 a0 := pI_x hE p_a0
  have p_b1 : pI S4 2 b1 := pI_x hE p_b1
  have p_a2 : pI S4 3 a2 := pI_x hE p_a2
  have p_a3 : pI S4 3 a3 := pI_x hE p_a3
  refine lv_iconst (v := 0) hx hb dX2_prepareLike_19 (by decide) ?_
  refine lv_istore_n (lv' := [(2, .int 0), (0, .ref a0), (1, .ref b1)]) hx hb dX2_prepareLike_20 rfl hl (by decide) rfl (fun ls hl => ?_)
  obtain ⟨n, hw⟩ := hw
  exact tlX2_prepareLike_21 C hr hex Q QX n S4 a0 b1 0 _ _ _ _ _ p_a0 p_b1 P (lv_sub hl [1, 2, 0] rfl) (by omega) (by omega) hw
def wp_X2_prepareLike (Q : MS → Prop) (QX : String → MS → Prop) (S : MS) (a0 : Nat) (b1 : Nat) : Prop := wX2_prepareLike_0 Q QX S a0 b1
set_option maxHeartbeats 4000000 in
set_option maxRecDepth 100000 in
theorem met_X2_prepareLike {l : Launch} (hst : l.stackTraces = false) (G : GP) (sz : Nat) (Q : MS → Prop) (QX : String → MS → Prop) (S : MS) (a0 : Nat) (b1 : Nat) (p_a0 : pI S 2 a0) (p_b1 : pI S 2 b1) (hw : wp_X2_prepareLike Q QX S a0 b1) : vx_Met l yX2_prepareLike (.code yX2_prepareLike cX2_prepareLike 4 none :: GW) rmX2_prepareLike (va_Pc [.ref a0, .ref b1] (PR G S sz)) (QV G S (FA G S sz) Q) (XX G S (FA G S sz) QX) 0 0 (FA G S sz) := by
  refine st_m (by decide +kernel) hst (fun p e s m below meth c C hr hnm hex P => ?_)
  refine en_m (Nat.le_of_ble_eq_true rfl) (lv := [(0, .ref a0), (1, .ref b1)]) rfl (fun ls hl => ?_)
  have C : CF p l s m _ meth c "SkirmishGrid$Fight" cX2_prepareLike 4 G (FA G S sz) := C
  exact tX2_prepareLike_0 C hr hex Q QX S a0 b1 p_a0 p_b1 P hl (by omega) (by omega) hw
theorem cd_X2_prepareLike : yX2_prepareLike.cls = RX2 ∧ yX2_prepareLike.cls ≠ "java/lang/invoke/MethodHandle" ∧ yX2_prepareLike.cls ≠ "java/lang/invoke/VarHandle" ∧ (parseMethodDescriptor yX2_prepareLike.desc).map (fun d => d.parameters.length) = some 1 := by decide +kernel
abbrev rmX2_isSameAs : Room := { frames := 1, cells := 0, slots := 0, locals := 22 }
def wX2_isSameAs_117 (Q : Int32 → MS → Prop) (QX : String → MS → Prop) (k117 : MS → Nat → Nat → Int32 → Prop) (S : MS) (a0 : Nat) (u1 : Nat) (y2 : Int32) : Prop := (((mI S a0 4) ≤ y2 → (∃ a1, mR S a0 11 = some a1 ∧ (∃ a2, mR S u1 11 = some a2 ∧ wp_X1_isSameAs (fun r4 S3 => (isZ r4 ∧ Q r4 S3)) QX S a1 a2))) ∧ (¬ (mI S a0 4) ≤ y2 → (∃ a5, mR S a0 3 = some a5 ∧ (vp_in y2 (mN S a5) ∧ (∃ a6, mR S u1 3 = some a6 ∧ (vp_in y2 (mN S a6) ∧ (((mI S a5 (y2 : Int32).toNatClampNeg) = (mI S a6 (y2 : Int32).toNatClampNeg) → k117 S a0 u1 (y2 + 1)) ∧ (¬ (mI S a5 (y2 : Int32).toNatClampNeg) = (mI S a6 (y2 : Int32).toNatClampNeg) → Q 0 S))))))))
set_option maxHeartbeats 4000000 in
set_option maxRecDepth 100000 in
theorem tX2_isSameAs_117 {p : Program} {l : Launch} {e : Env} {s : State} {m : MethodId} {args : Array Value} {below : List Frame} {meth : Method} {c : Code} {H : Heap} {locs : List Loc} {cells slots : Nat} {G : GP} {A : Nat → Prop} {S0 : MS} {ls : Array Slot} (C : CF p l s m args meth c "SkirmishGrid$Fight" cX2_isSameAs 3 G A) (hr : meth.sig.returnType = (some .boolean)) (hex : ∀ x ∈ c.exceptionTable.toList, False) (Q : Int32 → MS → Prop) (QX : String → MS → Prop) (k117 : MS → Nat → Nat → Int32 → Prop) (kh117 : ∀ (S : MS) (a0 : Nat) (u1 : Nat) (y2 : Int32) (cells slots : Nat) (H : Heap) (locs : List Loc) (ls : Array Slot), pI S 2 a0 → pI S 2 u1 → PW G A s H locs S0 S → lv_has ls 3 [(0, .ref a0), (1, .ref u1), (2, .int y2)] → cells + 0 ≤ 0 → slots + 0 ≤ 0 → k117 S a0 u1 y2 → W p l e rmX2_isSameAs s m args below meth c H locs cells slots (vx_MQ below (QI G S0 A Q) (XX G S0 A QX) args s 0 0 A) (F0 m 117 ls [])) (S : MS) (a0 : Nat) (u1 : Nat) (y2 : Int32) (p_a0 : pI S 2 a0) (p_u1 : pI S 2 u1) (P : PW G A s H locs S0 S) (hl : lv_has ls 3 [(0, .ref a0), (1, .ref u1), (2, .int y2)]) (hcc : cells + 0 ≤ 0) (hss : slots + 0 ≤ 0) (hw : wX2_isSameAs_117 Q QX k117 S a0 u1 y2) : W p l e rmX2_isSameAs s m args below meth c H locs cells slots (vx_MQ below (QI G S0 A Q) (XX G S0 A QX) args s 0 0 A) (F0 m 117 ls []) := by
  have hx := CF_x C
  have hb := CF_b C
  unfold wX2_isSameAs_117 at hw
  refine lv_iload_n hx hb dX2_isSameAs_117 rfl (lv_at hl 2 rfl) ?_
  refine lv_aload_n hx hb dX2_isSameAs_118 rfl (lv_at hl 0 rfl) ?_
  refine gf_2_4 C P p_a0 q_174 dX2_isSameAs_119 ?_
  refine lv_icmp_ge (tgt := 148) hx hb dX2_isSameAs_122 (by decide) (fun hc => ?_) (fun hc => ?_)
  · have hw := hw.1 hc
    refine lv_aload_n hx hb dX2_isSameAs_148 rfl (lv_at hl 0 rfl) ?_
    obtain ⟨a1, e1, hw⟩ := hw
    have p_a1 : pI S 1 a1 := wf_r P.2.2.2.1 p_a0 e1
    refine gf_2_11 C P p_a0 e1 q_185 dX2_isSameAs_149 ?_
    refine lv_aload_n hx hb dX2_isSameAs_152 rfl (lv_at hl 1 rfl) ?_
    obtain ⟨a2, e1, hw⟩ := hw
    have p_a2 : pI S 1 a2 := wf_r P.2.2.2.1 p_u1 e1
    refine gf_2_11 C P p_u1 e1 q_185 dX2_isSameAs_153 ?_
    refine cl_i C P (run_V C P hl.1 (kd := 1) (met_X1_isSameAs (CF_n C) G H.size _ _ S a1 a2 p_a1 p_a2 hw) p_a1 (by decide) rfl q_1220 q_1221 q_1222 q_4 q_1223 cd_X1_isSameAs ⟨(Nat.le_of_ble_eq_true rfl), (Nat.le_of_ble_eq_true rfl)⟩ rfl rfl (As := [.ref a2]) (rest := []) rfl rfl (Nat.le_of_ble_eq_true rfl) dX2_isSameAs_156 ⟨by show cells + 0 ≤ 0; omega, by show slots + 0 ≤ 0; omega⟩) (kx_out C hex (fun _ _ _ h => h) (by omega) (by omega)) (fun r4 S3 H locs P hE hw => ?_)
    have p_a1 : pI S3 1 a1 := pI_x hE p_a1
    have p_a2 : pI S3 1 a2 := pI_x hE p_a2
    obtain ⟨h1, hw⟩ := hw
    exact e_i C hr (nz h1) P hw (by omega) (by omega) dX2_isSameAs_159
  · have hw := hw.2 hc
    refine lv_aload_n hx hb dX2_isSameAs_125 rfl (lv_at hl 0 rfl) ?_
    obtain ⟨a5, e1, hw⟩ := hw
    have p_a5 : pI S 12 a5 := wf_r P.2.2.2.1 p_a0 e1
    refine gf_2_3 C P p_a0 e1 q_172 dX2_isSameAs_126 ?_
    refine lv_iload_n hx hb dX2_isSameAs_129 rfl (lv_at hl 2 rfl) ?_
    obtain ⟨h1, hw⟩ := hw
    refine ra_i C P p_a5 h1 dX2_isSameAs_130 ?_
    refine lv_aload_n hx hb dX2_isSameAs_131 rfl (lv_at hl 1 rfl) ?_
    obtain ⟨a6, e1, hw⟩ := hw
    have p_a6 : pI S 12 a6 := wf_r P.2.2.2.1 p_u1 e1
    refine gf_2_3 C P p_u1 e1 q_172 dX2_isSameAs_132 ?_
    refine lv_iload_n hx hb dX2_isSameAs_135 rfl (lv_at hl 2 rfl) ?_
    obtain ⟨h1, hw⟩ := hw
    refine ra_i C P p_a6 h1 dX2_isSameAs_136 ?_
    refine lv_icmp_eq (tgt := 142) hx hb dX2_isSameAs_137 (by decide) (fun hc => ?_) (fun hc => ?_)
    · have hw := hw.1 hc
      refine lv_iinc (v := (y2 + 1)) (lv' := [(2, .int (y2 + 1)), (0, .ref a0), (1, .ref u1)]) hx hb dX2_isSameAs_142 hl (k := 2) rfl (by rfl) (by decide) rfl (fun ls hl => ?_)
      refine lv_goto (tgt := 117) hx hb dX2_isSameAs_145 (by decide) ?_
      exact kh117 S a0 u1 (y2 + 1) _ _ _ _ _ p_a0 p_u1 P (lv_sub hl [1, 2, 0] rfl) (by omega) (by omega) hw
    · have hw := hw.2 hc
      refine lv_iconst (v := 0) hx hb dX2_isSameAs_140 (by decide) ?_
      exact e_i C hr (by decide +kernel) P hw (by omega) (by omega) dX2_isSameAs_141
def lX2_isSameAs_117 (Q : Int32 → MS → Prop) (QX : String → MS → Prop) : Nat → MS → Nat → Nat → Int32 → Prop
  | 0 => fun _ _ _ _ => False
  | n + 1 => fun S a0 u1 y2 => wX2_isSameAs_117 Q QX (lX2_isSameAs_117 Q QX n) S a0 u1 y2
theorem tlX2_isSameAs_117 {p : Program} {l : Launch} {e : Env} {s : State} {m : MethodId} {args : Array Value} {below : List Frame} {meth : Method} {c : Code} {G : GP} {A : Nat → Prop} {S0 : MS} (C : CF p l s m args meth c "SkirmishGrid$Fight" cX2_isSameAs 3 G A) (hr : meth.sig.returnType = (some .boolean)) (hex : ∀ x ∈ c.exceptionTable.toList, False) (Q : Int32 → MS → Prop) (QX : String → MS → Prop) : ∀ (n : Nat), ∀ (S : MS) (a0 : Nat) (u1 : Nat) (y2 : Int32) (cells slots : Nat) (H : Heap) (locs : List Loc) (ls : Array Slot), pI S 2 a0 → pI S 2 u1 → PW G A s H locs S0 S → lv_has ls 3 [(0, .ref a0), (1, .ref u1), (2, .int y2)] → cells + 0 ≤ 0 → slots + 0 ≤ 0 → lX2_isSameAs_117 Q QX n S a0 u1 y2 → W p l e rmX2_isSameAs s m args below meth c H locs cells slots (vx_MQ below (QI G S0 A Q) (XX G S0 A QX) args s 0 0 A) (F0 m 117 ls []) := by
  intro n
  induction n with
  | zero => intro S a0 u1 y2 cells slots H locs ls p_a0 p_u1 P hl hcc hss hw; exact hw.elim
  | succ n ih => intro S a0 u1 y2 cells slots H locs ls p_a0 p_u1 P hl hcc hss hw; exact tX2_isSameAs_117 C hr hex Q QX (lX2_isSameAs_117 Q QX n) ih S a0 u1 y2 p_a0 p_u1 P hl hcc hss hw
def wX2_isSameAs_81 (Q : Int32 → MS → Prop) (QX : String → MS → Prop) (k81 : MS → Nat → Nat → Int32 → Prop) (S : MS) (a0 : Nat) (u1 : Nat) (y2 : Int32) : Prop := (((mI S a0 2) ≤ y2 → (∃ n, lX2_isSameAs_117 Q QX n S a0 u1 0)) ∧ (¬ (mI S a0 2) ≤ y2 → (∃ a1, mR S a0 1 = some a1 ∧ (vp_in y2 (mN S a1) ∧ (∃ a2, mR S a1 (y2 : Int32).toNatClampNeg = some a2 ∧ (∃ a3, mR S u1 1 = some a3 ∧ (vp_in y2 (mN S a3) ∧ (∃ a4, mR S a3 (y2 : Int32).toNatClampNeg = some a4 ∧ wp_X7_isSameAs (fun r6 S5 => ((¬ r6 = 0 → k81 S5 a0 u1 (y2 + 1)) ∧ (r6 = 0 → Q 0 S5))) QX S a2 a4))))))))
set_option maxHeartbeats 4000000 in
set_option maxRecDepth 100000 in
theorem tX2_isSameAs_81 {p : Program} {l : Launch} {e : Env} {s : State} {m : MethodId} {args : Array Value} {below : List Frame} {meth : Method} {c : Code} {H : Heap} {locs : List Loc} {cells slots : Nat} {G : GP} {A : Nat → Prop} {S0 : MS} {ls : Array Slot} (C : CF p l s m args meth c "SkirmishGrid$Fight" cX2_isSameAs 3 G A) (hr : meth.sig.returnType = (some .boolean)) (hex : ∀ x ∈ c.exceptionTable.toList, False) (Q : Int32 → MS → Prop) (QX : String → MS → Prop) (k81 : MS → Nat → Nat → Int32 → Prop) (kh81 : ∀ (S : MS) (a0 : Nat) (u1 : Nat) (y2 : Int32) (cells slots : Nat) (H : Heap) (locs : List Loc) (ls : Array Slot), pI S 2 a0 → pI S 2 u1 → PW G A s H locs S0 S → lv_has ls 3 [(0, .ref a0), (1, .ref u1), (2, .int y2)] → cells + 0 ≤ 0 → slots + 0 ≤ 0 → k81 S a0 u1 y2 → W p l e rmX2_isSameAs s m args below meth c H locs cells slots (vx_MQ below (QI G S0 A Q) (XX G S0 A QX) args s 0 0 A) (F0 m 81 ls [])) (S : MS) (a0 : Nat) (u1 : Nat) (y2 : Int32) (p_a0 : pI S 2 a0) (p_u1 : pI S 2 u1) (P : PW G A s H locs S0 S) (hl : lv_has ls 3 [(0, .ref a0), (1, .ref u1), (2, .int y2)]) (hcc : cells + 0 ≤ 0) (hss : slots + 0 ≤ 0) (hw : wX2_isSameAs_81 Q QX k81 S a0 u1 y2) : W p l e rmX2_isSameAs s m args below meth c H locs cells slots (vx_MQ below (QI G S0 A Q) (XX G S0 A QX) args s 0 0 A) (F0 m 81 ls []) := by
  have hx := CF_x C
  have hb := CF_b C
  unfold wX2_isSameAs_81 at hw
  refine lv_iload_n hx hb dX2_isSameAs_81 rfl (lv_at hl 2 rfl) ?_
  refine lv_aload_n hx hb dX2_isSameAs_82 rfl (lv_at hl 0 rfl) ?_
  refine gf_2_2 C P p_a0 q_168 dX2_isSameAs_83 ?_
  refine lv_icmp_ge (tgt := 115) hx hb dX2_isSameAs_86 (by decide) (fun hc => ?_) (fun hc => ?_)
  · have hw := hw.1 hc
    refine lv_iconst (v := 0) hx hb dX2_isSameAs_115 (by decide) ?_
    refine lv_istore_n (lv' := [(2, .int 0), (0, .ref a0), (1, .ref u1)]) hx hb dX2_isSameAs_116 rfl hl (by decide) rfl (fun ls hl => ?_)
    obtain ⟨n, hw⟩ := hw
    exact tlX2_isSameAs_117 C hr hex Q QX n S a0 u1 0 _ _ _ _ _ p_a0 p_u1 P (lv_sub hl [1, 2, 0] rfl) (by omega) (by omega) hw
  · have hw := hw.2 hc
    refine lv_aload_n hx hb dX2_isSameAs_89 rfl (lv_at hl 0 rfl) ?_
    obtain ⟨a1, e1, hw⟩ := hw
    have p_a1 : pI S 15 a1 := wf_r P.2.2.2.1 p_a0 e1
    refine gf_2_1 C P p_a0 e1 q_164 dX2_isSameAs_90 ?_
    refine lv_iload_n hx hb dX2_isSameAs_93 rfl (lv_at hl 2 rfl) ?_
    obtain ⟨h1, hw⟩ := hw
    obtain ⟨a2, e1, hw⟩ := hw
    have p_a2 : pI S 7 a2 := wf_r P.2.2.2.1 p_a1 e1
    refine ra_a5 C P p_a1 h1 e1 dX2_isSameAs_94 ?_
    refine lv_aload_n hx hb dX2_isSameAs_95 rfl (lv_at hl 1 rfl) ?_
    obtain ⟨a3, e1, hw⟩ := hw
    have p_a3 : pI S 15 a3 := wf_r P.2.2.2.1 p_u1 e1
    refine gf_2_1 C P p_u1 e1 q_164 dX2_isSameAs_96 ?_
    refine lv_iload_n hx hb dX2_isSameAs_99 rfl (lv_at hl 2 rfl) ?_
    obtain ⟨h1, hw⟩ := hw
    obtain ⟨a4, e1, hw⟩ := hw
    have p_a4 : pI S 7 a4 := wf_r P.2.2.2.1 p_a3 e1
    refine ra_a5 C P p_a3 h1 e1 dX2_isSameAs_100 ?_
    refine cl_i C P (run_V C P hl.1 (kd := 7) (met_X7_isSameAs (CF_n C) G H.size _ _ S a2 a4 p_a2 p_a4 hw) p_a2 (by decide) rfl q_1216 q_1217 q_1218 q_5 q_1219 cd_X7_isSameAs ⟨(Nat.le_of_ble_eq_true rfl), (Nat.le_of_ble_eq_true rfl)⟩ rfl rfl (As := [.ref a4]) (rest := []) rfl rfl (Nat.le_of_ble_eq_true rfl) dX2_isSameAs_101 ⟨by show cells + 0 ≤ 0; omega, by show slots + 0 ≤ 0; omega⟩) (kx_out C hex (fun _ _ _ h => h) (by omega) (by omega)) (fun r6 S5 H locs P hE hw => ?_)
    have p_a0 : pI S5 2 a0 := pI_x hE p_a0
    have p_u1 : pI S5 2 u1 := pI_x hE p_u1
    have p_a2 : pI S5 7 a2 := pI_x hE p_a2
    have p_a4 : pI S5 7 a4 := pI_x hE p_a4
    refine lv_if_ne (tgt := 109) hx hb dX2_isSameAs_104 (by decide) (fun hc => ?_) (fun hc => ?_)
    · have hw := hw.1 hc
      refine lv_iinc (v := (y2 + 1)) (lv' := [(2, .int (y2 + 1)), (0, .ref a0), (1, .ref u1)]) hx hb dX2_isSameAs_109 hl (k := 2) rfl (by rfl) (by decide) rfl (fun ls hl => ?_)
      refine lv_goto (tgt := 81) hx hb dX2_isSameAs_112 (by decide) ?_
      exact kh81 S5 a0 u1 (y2 + 1) _ _ _ _ _ p_a0 p_u1 P (lv_sub hl [1, 2, 0] rfl) (by omega) (by omega) hw
    · have hw := hw.2 hc
      refine lv_iconst (v := 0) hx hb dX2_isSameAs_107 (by decide) ?_
      exact e_i C hr (by decide +kernel) P hw (by omega) (by omega) dX2_isSameAs_108
def lX2_isSameAs_81 (Q : Int32 → MS → Prop) (QX : String → MS → Prop) : Nat → MS → Nat → Nat → Int32 → Prop
  | 0 => fun _ _ _ _ => False
  | n + 1 => fun S a0 u1 y2 => wX2_isSameAs_81 Q QX (lX2_isSameAs_81 Q QX n) S a0 u1 y2
theorem tlX2_isSameAs_81 {p : Program} {l : Launch} {e : Env} {s : State} {m : MethodId} {args : Array Value} {below : List Frame} {meth : Method} {c : Code} {G : GP} {A : Nat → Prop} {S0 : MS} (C : CF p l s m args meth c "SkirmishGrid$Fight" cX2_isSameAs 3 G A) (hr : meth.sig.returnType = (some .boolean)) (hex : ∀ x ∈ c.exceptionTable.toList, False) (Q : Int32 → MS → Prop) (QX : String → MS → Prop) : ∀ (n : Nat), ∀ (S : MS) (a0 : Nat) (u1 : Nat) (y2 : Int32) (cells slots : Nat) (H : Heap) (locs : List Loc) (ls : Array Slot), pI S 2 a0 → pI S 2 u1 → PW G A s H locs S0 S → lv_has ls 3 [(0, .ref a0), (1, .ref u1), (2, .int y2)] → cells + 0 ≤ 0 → slots + 0 ≤ 0 → lX2_isSameAs_81 Q QX n S a0 u1 y2 → W p l e rmX2_isSameAs s m args below meth c H locs cells slots (vx_MQ below (QI G S0 A Q) (XX G S0 A QX) args s 0 0 A) (F0 m 81 ls []) := by
  intro n
  induction n with
  | zero => intro S a0 u1 y2 cells slots H locs ls p_a0 p_u1 P hl hcc hss hw; exact hw.elim
  | succ n ih => intro S a0 u1 y2 cells slots H locs ls p_a0 p_u1 P hl hcc hss hw; exact tX2_isSameAs_81 C hr hex Q QX (lX2_isSameAs_81 Q QX n) ih S a0 u1 y2 p_a0 p_u1 P hl hcc hss hw
def wX2_isSameAs_0 (Q : Int32 → MS → Prop) (QX : String → MS → Prop) (S : MS) (a0 : Nat) (b1 : Nat) : Prop := ((¬ (mI S a0 2) = (mI S b1 2) → Q 0 S) ∧ ((mI S a0 2) = (mI S b1 2) → ((¬ (mI S a0 4) = (mI S b1 4) → Q 0 S) ∧ ((mI S a0 4) = (mI S b1 4) → ((¬ (mI S a0 5) = (mI S b1 5) → Q 0 S) ∧ ((mI S a0 5) = (mI S b1 5) → ((¬ (mI S a0 6) = (mI S b1 6) → Q 0 S) ∧ ((mI S a0 6) = (mI S b1 6) → ((¬ (mI S a0 7) = (mI S b1 7) → Q 0 S) ∧ ((mI S a0 7) = (mI S b1 7) → ((¬ (mI S a0 8) = (mI S b1 8) → Q 0 S) ∧ ((mI S a0 8) = (mI S b1 8) → (((mI S a0 10) = (mI S b1 10) → (∃ n, lX2_isSameAs_81 Q QX n S a0 b1 0)) ∧ (¬ (mI S a0 10) = (mI S b1 10) → Q 0 S))))))))))))))
set_option maxHeartbeats 4000000 in
set_option maxRecDepth 100000 in
theorem tX2_isSameAs_0 {p : Program} {l : Launch} {e : Env} {s : State} {m : MethodId} {args : Array Value} {below : List Frame} {meth : Method} {c : Code} {H : Heap} {locs : List Loc} {cells slots : Nat} {G : GP} {A : Nat → Prop} {S0 : MS} {ls : Array Slot} (C : CF p l s m args meth c "SkirmishGrid$Fight" cX2_isSameAs 3 G A) (hr : meth.sig.returnType = (some .boolean)) (hex : ∀ x ∈ c.exceptionTable.toList, False) (Q : Int32 → MS → Prop) (QX : String → MS → Prop) (S : MS) (a0 : Nat) (b1 : Nat) (p_a0 : pI S 2 a0) (p_b1 : pI S 2 b1) (P : PW G A s H locs S0 S) (hl : lv_has ls 3 [(0, .ref a0), (1, .ref b1)]) (hcc : cells + 0 ≤ 0) (hss : slots + 0 ≤ 0) (hw : wX2_isSameAs_0 Q QX S a0 b1) : W p l e rmX2_isSameAs s m args below meth c H locs cells slots (vx_MQ below (QI G S0 A Q) (XX G S0 A QX) args s 0 0 A) (F0 m 0 ls []) := by
  have hx := CF_x C
  have hb := CF_b C
  unfold wX2_isSameAs_0 at hw
  refine lv_aload_n hx hb dX2_isSameAs_0 rfl (lv_at hl 0 rfl) ?_
  refine gf_2_2 C P p_a0 q_168 dX2_isSameAs_1 ?_
  refine lv_aload_n hx hb dX2_isSameAs_4 rfl (lv_at hl 1 rfl) ?_
  refine gf_2_2 C P p_b1 q_168 dX2_isSameAs_5 ?_
  refine lv_icmp_ne (tgt := 77) hx hb dX2_isSameAs_8 (by decide) (fun hc => ?_) (fun hc => ?_)
  · have hw := hw.1 hc
    refine lv_iconst (v := 0) hx hb dX2_isSameAs_77 (by decide) ?_
    exact e_i C hr (by decide +kernel) P hw (by omega) (by omega) dX2_isSameAs_78
  · have hw := hw.2 hc
    refine lv_aload_n hx hb dX2_isSameAs_11 rfl (lv_at hl 0 rfl) ?_
    refine gf_2_4 C P p_a0 q_174 dX2_isSameAs_12 ?_
    refine lv_aload_n hx hb dX2_isSameAs_15 rfl (lv_at hl 1 rfl) ?_
    refine gf_2_4 C P p_b1 q_174 dX2_isSameAs_16 ?_
    refine lv_icmp_ne (tgt := 77) hx hb dX2_isSameAs_19 (by decide) (fun hc => ?_) (fun hc => ?_)
    · have hw := hw.1 hc
      refine lv_iconst (v := 0) hx hb dX2_isSameAs_77 (by decide) ?_
      exact e_i C hr (by decide +kernel) P hw (by omega) (by omega) dX2_isSameAs_78
    · have hw := hw.2 hc
      refine lv_aload_n hx hb dX2_isSameAs_22 rfl (lv_at hl 0 rfl) ?_
      refine gf_2_5 C P p_a0 q_176 dX2_isSameAs_23 ?_
      refine lv_aload_n hx hb dX2_isSameAs_26 rfl (lv_at hl 1 rfl) ?_
      refine gf_2_5 C P p_b1 q_176 dX2_isSameAs_27 ?_
      refine lv_icmp_ne (tgt := 77) hx hb dX2_isSameAs_30 (by decide) (fun hc => ?_) (fun hc => ?_)
      · have hw := hw.1 hc
        refine lv_iconst (v := 0) hx hb dX2_isSameAs_77 (by decide) ?_
        exact e_i C hr (by decide +kernel) P hw (by omega) (by omega) dX2_isSameAs_78
      · have hw := hw.2 hc
        refine lv_aload_n hx hb dX2_isSameAs_33 rfl (lv_at hl 0 rfl) ?_
        refine gf_2_6 C P p_a0 q_177 dX2_isSameAs_34 ?_
        refine lv_aload_n hx hb dX2_isSameAs_37 rfl (lv_at hl 1 rfl) ?_
        refine gf_2_6 C P p_b1 q_177 dX2_isSameAs_38 ?_
        refine lv_icmp_ne (tgt := 77) hx hb dX2_isSameAs_41 (by decide) (fun hc => ?_) (fun hc => ?_)
        · have hw := hw.1 hc
          refine lv_iconst (v := 0) hx hb dX2_isSameAs_77 (by decide) ?_
          exact e_i C hr (by decide +kernel) P hw (by omega) (by omega) dX2_isSameAs_78
        · have hw := hw.2 hc
          refine lv_aload_n hx hb dX2_isSameAs_44 rfl (lv_at hl 0 rfl) ?_
          refine gf_2_7 C P p_a0 q_179 dX2_isSameAs_45 ?_
          refine lv_aload_n hx hb dX2_isSameAs_48 rfl (lv_at hl 1 rfl) ?_
          refine gf_2_7 C P p_b1 q_179 dX2_isSameAs_49 ?_
          refine lv_icmp_ne (tgt := 77) hx hb dX2_isSameAs_52 (by decide) (fun hc => ?_) (fun hc => ?_)
          · have hw := hw.1 hc
            refine lv_iconst (v := 0) hx hb dX2_isSameAs_77 (by decide) ?_
            exact e_i C hr (by decide +kernel) P hw (by omega) (by omega) dX2_isSameAs_78
          · have hw := hw.2 hc
            refine lv_aload_n hx hb dX2_isSameAs_55 rfl (lv_at hl 0 rfl) ?_
            refine gf_2_8 C P p_a0 q_181 dX2_isSameAs_56 ?_
            refine lv_aload_n hx hb dX2_isSameAs_59 rfl (lv_at hl 1 rfl) ?_
            refine gf_2_8 C P p_b1 q_181 dX2_isSameAs_60 ?_
            refine lv_icmp_ne (tgt := 77) hx hb dX2_isSameAs_63 (by decide) (fun hc => ?_) (fun hc => ?_)
            · have hw := hw.1 hc
              refine lv_iconst (v := 0) hx hb dX2_isSameAs_77 (by decide) ?_
              exact e_i C hr (by decide +kernel) P hw (by omega) (by omega) dX2_isSameAs_78
            · have hw := hw.2 hc
              refine lv_aload_n hx hb dX2_isSameAs_66 rfl (lv_at hl 0 rfl) ?_
              refine gf_2_10 C P p_a0 q_184 dX2_isSameAs_67 ?_
              refine lv_aload_n hx hb dX2_isSameAs_70 rfl (lv_at hl 1 rfl) ?_
              refine gf_2_10 C P p_b1 q_184 dX2_isSameAs_71 ?_
              refine lv_icmp_eq (tgt := 79) hx hb dX2_isSameAs_74 (by decide) (fun hc => ?_) (fun hc => ?_)
              · have hw := hw.1 hc
                refine lv_iconst (v := 0) hx hb dX2_isSameAs_79 (by decide) ?_
                refine lv_istore_n (lv' := [(2, .int 0), (0, .ref a0), (1, .ref b1)]) hx hb dX2_isSameAs_80 rfl hl (by decide) rfl (fun ls hl => ?_)
                obtain ⟨n, hw⟩ := hw
                exact tlX2_isSameAs_81 C hr hex Q QX n S a0 b1 0 _ _ _ _ _ p_a0 p_b1 P (lv_sub hl [1, 2, 0] rfl) (by omega) (by omega) hw
              · have hw := hw.2 hc
                refine lv_iconst (v := 0) hx hb dX2_isSameAs_77 (by decide) ?_
                exact e_i C hr (by decide +kernel) P hw (by omega) (by omega) dX2_isSameAs_78
def wp_X2_isSameAs (Q : Int32 → MS → Prop) (QX : String → MS → Prop) (S : MS) (a0 : Nat) (b1 : Nat) : Prop := wX2_isSameAs_0 Q QX S a0 b1
set_option maxHeartbeats 4000000 in
set_option maxRecDepth 100000 in
theorem met_X2_isSameAs {l : Launch} (hst : l.stackTraces = false) (G : GP) (sz : Nat) (Q : Int32 → MS → Prop) (QX : String → MS → Prop) (S : MS) (a0 : Nat) (b1 : Nat) (p_a0 : pI S 2 a0) (p_b1 : pI S 2 b1) (hw : wp_X2_isSameAs Q QX S a0 b1) : vx_Met l yX2_isSameAs (.code yX2_isSameAs cX2_isSameAs 3 (some .boolean) :: GW) rmX2_isSameAs (va_Pc [.ref a0, .ref b1] (PR G S sz)) (QI G S (FA G S sz) Q) (XX G S (FA G S sz) QX) 0 0 (FA G S sz) := by
  refine st_m (by decide +kernel) hst (fun p e s m below meth c C hr hnm hex P => ?_)
  refine en_m (Nat.le_of_ble_eq_true rfl) (lv := [(0, .ref a0), (1, .ref b1)]) rfl (fun ls hl => ?_)
  have C : CF p l s m _ meth c "SkirmishGrid$Fight" cX2_isSameAs 3 G (FA G S sz) := C
  exact tX2_isSameAs_0 C hr hex Q QX S a0 b1 p_a0 p_b1 P hl (by omega) (by omega) hw
theorem cd_X2_isSameAs : yX2_isSameAs.cls = RX2 ∧ yX2_isSameAs.cls ≠ "java/lang/invoke/MethodHandle" ∧ yX2_isSameAs.cls ≠ "java/lang/invoke/VarHandle" ∧ (parseMethodDescriptor yX2_isSameAs.desc).map (fun d => d.parameters.length) = some 1 := by decide +kernel
abbrev rmX2_hasBegun : Room := { frames := 0, cells := 0, slots := 0, locals := 0 }
def wX2_hasBegun_0 (Q : Int32 → MS → Prop) (QX : String → MS → Prop) (S : MS) (a0 : Nat) : Prop := (((mI S a0 8) ≤ 0 → Q 0 S) ∧ (¬ (mI S a0 8) ≤ 0 → Q 1 S))
set_option maxHeartbeats 4000000 in
set_option maxRecDepth 100000 in
theorem tX2_hasBegun_0 {p : Program} {l : Launch} {e : Env} {s : State} {m : MethodId} {args : Array Value} {below : List Frame} {meth : Method} {c : Code} {H : Heap} {locs : List Loc} {cells slots : Nat} {G : GP} {A : Nat → Prop} {S0 : MS} {ls : Array Slot} (C : CF p l s m args meth c "SkirmishGrid$Fight" cX2_hasBegun 1 G A) (hr : meth.sig.returnType = (some .boolean)) (hex : ∀ x ∈ c.exceptionTable.toList, False) (Q : Int32 → MS → Prop) (QX : String → MS → Prop) (S : MS) (a0 : Nat) (p_a0 : pI S 2 a0) (P : PW G A s H locs S0 S) (hl : lv_has ls 1 [(0, .ref a0)]) (hcc : cells + 0 ≤ 0) (hss : slots + 0 ≤ 0) (hw : wX2_hasBegun_0 Q QX S a0) : W p l e rmX2_hasBegun s m args below meth c H locs cells slots (vx_MQ below (QI G S0 A Q) (XX G S0 A QX) args s 0 0 A) (F0 m 0 ls []) := by
  have hx := CF_x C
  have hb := CF_b C
  unfold wX2_hasBegun_0 at hw
  refine lv_aload_n hx hb dX2_hasBegun_0 rfl (lv_at hl 0 rfl) ?_
  refine gf_2_8 C P p_a0 q_181 dX2_hasBegun_1 ?_
  refine lv_if_le (tgt := 11) hx hb dX2_hasBegun_4 (by decide) (fun hc => ?_) (fun hc => ?_)
  · have hw := hw.1 hc
    refine lv_iconst (v := 0) hx hb dX2_hasBegun_11 (by decide) ?_
    exact e_i C hr (by decide +kernel) P hw (by omega) (by omega) dX2_hasBegun_12
  · have hw := hw.2 hc
    refine lv_iconst (v := 1) hx hb dX2_hasBegun_7 (by decide) ?_
    refine lv_goto (tgt := 12) hx hb dX2_hasBegun_8 (by decide) ?_
    exact e_i C hr (by decide +kernel) P hw (by omega) (by omega) dX2_hasBegun_12
def wp_X2_hasBegun (Q : Int32 → MS → Prop) (QX : String → MS → Prop) (S : MS) (a0 : Nat) : Prop := wX2_hasBegun_0 Q QX S a0
set_option maxHeartbeats 4000000 in
set_option maxRecDepth 100000 in
theorem met_X2_hasBegun {l : Launch} (hst : l.stackTraces = false) (G : GP) (sz : Nat) (Q : Int32 → MS → Prop) (QX : String → MS → Prop) (S : MS) (a0 : Nat) (p_a0 : pI S 2 a0) (hw : wp_X2_hasBegun Q QX S a0) : vx_Met l yX2_hasBegun (.code yX2_hasBegun cX2_hasBegun 1 (some .boolean) :: GW) rmX2_hasBegun (va_Pc [.ref a0] (PR G S sz)) (QI G S (FA G S sz) Q) (XX G S (FA G S sz) QX) 0 0 (FA G S sz) := by
  refine st_m (by decide +kernel) hst (fun p e s m below meth c C hr hnm hex P => ?_)
  refine en_m (Nat.le_of_ble_eq_true rfl) (lv := [(0, .ref a0)]) rfl (fun ls hl => ?_)
  have C : CF p l s m _ meth c "SkirmishGrid$Fight" cX2_hasBegun 1 G (FA G S sz) := C
  exact tX2_hasBegun_0 C hr hex Q QX S a0 p_a0 P hl (by omega) (by omega) hw
theorem cd_X2_hasBegun : yX2_hasBegun.cls = RX2 ∧ yX2_hasBegun.cls ≠ "java/lang/invoke/MethodHandle" ∧ yX2_hasBegun.cls ≠ "java/lang/invoke/VarHandle" ∧ (parseMethodDescriptor yX2_hasBegun.desc).map (fun d => d.parameters.length) = some 0 := by decide +kernel
abbrev rmX2_hasLiving : Room := { frames := 1, cells := 0, slots := 0, locals := 20 }
def wX2_hasLiving_2 (Q : Int32 → MS → Prop) (QX : String → MS → Prop) (k2 : MS → Nat → Int32 → Int32 → Prop) (S : MS) (a0 : Nat) (y1 : Int32) (y2 : Int32) : Prop := (((mI S a0 2) ≤ y2 → Q 0 S) ∧ (¬ (mI S a0 2) ≤ y2 → (∃ a1, mR S a0 1 = some a1 ∧ (vp_in y2 (mN S a1) ∧ (∃ a2, mR S a1 (y2 : Int32).toNatClampNeg = some a2 ∧ ((¬ (mI S a2 1) = y1 → k2 S a0 y1 (y2 + 1)) ∧ ((mI S a2 1) = y1 → (∃ a3, mR S a0 1 = some a3 ∧ (vp_in y2 (mN S a3) ∧ (∃ a4, mR S a3 (y2 : Int32).toNatClampNeg = some a4 ∧ wp_X7_lives (fun r6 S5 => ((r6 = 0 → k2 S5 a0 y1 (y2 + 1)) ∧ (¬ r6 = 0 → Q 1 S5))) QX S a4))))))))))
set_option maxHeartbeats 4000000 in
set_option maxRecDepth 100000 in
theorem tX2_hasLiving_2 {p : Program} {l : Launch} {e : Env} {s : State} {m : MethodId} {args : Array Value} {below : List Frame} {meth : Method} {c : Code} {H : Heap} {locs : List Loc} {cells slots : Nat} {G : GP} {A : Nat → Prop} {S0 : MS} {ls : Array Slot} (C : CF p l s m args meth c "SkirmishGrid$Fight" cX2_hasLiving 3 G A) (hr : meth.sig.returnType = (some .boolean)) (hex : ∀ x ∈ c.exceptionTable.toList, False) (Q : Int32 → MS → Prop) (QX : String → MS → Prop) (k2 : MS → Nat → Int32 → Int32 → Prop) (kh2 : ∀ (S : MS) (a0 : Nat) (y1 : Int32) (y2 : Int32) (cells slots : Nat) (H : Heap) (locs : List Loc) (ls : Array Slot), pI S 2 a0 → PW G A s H locs S0 S → lv_has ls 3 [(0, .ref a0), (1, .int y1), (2, .int y2)] → cells + 0 ≤ 0 → slots + 0 ≤ 0 → k2 S a0 y1 y2 → W p l e rmX2_hasLiving s m args below meth c H locs cells slots (vx_MQ below (QI G S0 A Q) (XX G S0 A QX) args s 0 0 A) (F0 m 2 ls [])) (S : MS) (a0 : Nat) (y1 : Int32) (y2 : Int32) (p_a0 : pI S 2 a0) (P : PW G A s H locs S0 S) (hl : lv_has ls 3 [(0, .ref a0), (1, .int y1), (2, .int y2)]) (hcc : cells + 0 ≤ 0) (hss : slots + 0 ≤ 0) (hw : wX2_hasLiving_2 Q QX k2 S a0 y1 y2) : W p l e rmX2_hasLiving s m args below meth c H locs cells slots (vx_MQ below (QI G S0 A Q) (XX G S0 A QX) args s 0 0 A) (F0 m 2 ls []) := by
  have hx := CF_x C
  have hb := CF_b C
  unfold wX2_hasLiving_2 at hw
  refine lv_iload_n hx hb dX2_hasLiving_2 rfl (lv_at hl 2 rfl) ?_
  refine lv_aload_n hx hb dX2_hasLiving_3 rfl (lv_at hl 0 rfl) ?_
  refine gf_2_2 C P p_a0 q_168 dX2_hasLiving_4 ?_
  refine lv_icmp_ge (tgt := 43) hx hb dX2_hasLiving_7 (by decide) (fun hc => ?_) (fun hc => ?_)
  · have hw := hw.1 hc
    refine lv_iconst (v := 0) hx hb dX2_hasLiving_43 (by decide) ?_
    exact e_i C hr (by decide +kernel) P hw (by omega) (by omega) dX2_hasLiving_44
  · have hw := hw.2 hc
    refine lv_aload_n hx hb dX2_hasLiving_10 rfl (lv_at hl 0 rfl) ?_
    obtain ⟨a1, e1, hw⟩ := hw
    have p_a1 : pI S 15 a1 := wf_r P.2.2.2.1 p_a0 e1
    refine gf_2_1 C P p_a0 e1 q_164 dX2_hasLiving_11 ?_
    refine lv_iload_n hx hb dX2_hasLiving_14 rfl (lv_at hl 2 rfl) ?_
    obtain ⟨h1, hw⟩ := hw
    obtain ⟨a2, e1, hw⟩ := hw
    have p_a2 : pI S 7 a2 := wf_r P.2.2.2.1 p_a1 e1
    refine ra_a5 C P p_a1 h1 e1 dX2_hasLiving_15 ?_
    refine gf_7_1 C P p_a2 q_97 dX2_hasLiving_16 ?_
    refine lv_iload_n hx hb dX2_hasLiving_19 rfl (lv_at hl 1 rfl) ?_
    refine lv_icmp_ne (tgt := 37) hx hb dX2_hasLiving_20 (by decide) (fun hc => ?_) (fun hc => ?_)
    · have hw := hw.1 hc
      refine lv_iinc (v := (y2 + 1)) (lv' := [(2, .int (y2 + 1)), (0, .ref a0), (1, .int y1)]) hx hb dX2_hasLiving_37 hl (k := 2) rfl (by rfl) (by decide) rfl (fun ls hl => ?_)
      refine lv_goto (tgt := 2) hx hb dX2_hasLiving_40 (by decide) ?_
      exact kh2 S a0 y1 (y2 + 1) _ _ _ _ _ p_a0 P (lv_sub hl [1, 2, 0] rfl) (by omega) (by omega) hw
    · have hw := hw.2 hc
      refine lv_aload_n hx hb dX2_hasLiving_23 rfl (lv_at hl 0 rfl) ?_
      obtain ⟨a3, e1, hw⟩ := hw
      have p_a3 : pI S 15 a3 := wf_r P.2.2.2.1 p_a0 e1
      refine gf_2_1 C P p_a0 e1 q_164 dX2_hasLiving_24 ?_
      refine lv_iload_n hx hb dX2_hasLiving_27 rfl (lv_at hl 2 rfl) ?_
      obtain ⟨h1, hw⟩ := hw
      obtain ⟨a4, e1, hw⟩ := hw
      have p_a4 : pI S 7 a4 := wf_r P.2.2.2.1 p_a3 e1
      refine ra_a5 C P p_a3 h1 e1 dX2_hasLiving_28 ?_
      refine cl_i C P (run_V C P hl.1 (kd := 7) (met_X7_lives (CF_n C) G H.size _ _ S a4 p_a4 hw) p_a4 (by decide) rfl q_355 q_356 q_357 q_5 q_358 cd_X7_lives ⟨(Nat.le_of_ble_eq_true rfl), (Nat.le_of_ble_eq_true rfl)⟩ rfl rfl (As := []) (rest := []) rfl rfl (Nat.le_of_ble_eq_true rfl) dX2_hasLiving_29 ⟨by show cells + 0 ≤ 0; omega, by show slots + 0 ≤ 0; omega⟩) (kx_out C hex (fun _ _ _ h => h) (by omega) (by omega)) (fun r6 S5 H locs P hE hw => ?_)
      have p_a0 : pI S5 2 a0 := pI_x hE p_a0
      have p_a4 : pI S5 7 a4 := pI_x hE p_a4
      refine lv_if_eq (tgt := 37) hx hb dX2_hasLiving_32 (by decide) (fun hc => ?_) (fun hc => ?_)
      · have hw := hw.1 hc
        refine lv_iinc (v := (y2 + 1)) (lv' := [(2, .int (y2 + 1)), (0, .ref a0), (1, .int y1)]) hx hb dX2_hasLiving_37 hl (k := 2) rfl (by rfl) (by decide) rfl (fun ls hl => ?_)
        refine lv_goto (tgt := 2) hx hb dX2_hasLiving_40 (by decide) ?_
        exact kh2 S5 a0 y1 (y2 + 1) _ _ _ _ _ p_a0 P (lv_sub hl [1, 2, 0] rfl) (by omega) (by omega) hw
      · have hw := hw.2 hc
        refine lv_iconst (v := 1) hx hb dX2_hasLiving_35 (by decide) ?_
        exact e_i C hr (by decide +kernel) P hw (by omega) (by omega) dX2_hasLiving_36
def lX2_hasLiving_2 (Q : Int32 → MS → Prop) (QX : String → MS → Prop) : Nat → MS → Nat → Int32 → Int32 → Prop
  | 0 => fun _ _ _ _ => False
  | n + 1 => fun S a0 y1 y2 => wX2_hasLiving_2 Q QX (lX2_hasLiving_2 Q QX n) S a0 y1 y2
theorem tlX2_hasLiving_2 {p : Program} {l : Launch} {e : Env} {s : State} {m : MethodId} {args : Array Value} {below : List Frame} {meth : Method} {c : Code} {G : GP} {A : Nat → Prop} {S0 : MS} (C : CF p l s m args meth c "SkirmishGrid$Fight" cX2_hasLiving 3 G A) (hr : meth.sig.returnType = (some .boolean)) (hex : ∀ x ∈ c.exceptionTable.toList, False) (Q : Int32 → MS → Prop) (QX : String → MS → Prop) : ∀ (n : Nat), ∀ (S : MS) (a0 : Nat) (y1 : Int32) (y2 : Int32) (cells slots : Nat) (H : Heap) (locs : List Loc) (ls : Array Slot), pI S 2 a0 → PW G A s H locs S0 S → lv_has ls 3 [(0, .ref a0), (1, .int y1), (2, .int y2)] → cells + 0 ≤ 0 → slots + 0 ≤ 0 → lX2_hasLiving_2 Q QX n S a0 y1 y2 → W p l e rmX2_hasLiving s m args below meth c H locs cells slots (vx_MQ below (QI G S0 A Q) (XX G S0 A QX) args s 0 0 A) (F0 m 2 ls []) := by
  intro n
  induction n with
  | zero => intro S a0 y1 y2 cells slots H locs ls p_a0 P hl hcc hss hw; exact hw.elim
  | succ n ih => intro S a0 y1 y2 cells slots H locs ls p_a0 P hl hcc hss hw; exact tX2_hasLiving_2 C hr hex Q QX (lX2_hasLiving_2 Q QX n) ih S a0 y1 y2 p_a0 P hl hcc hss hw
def wX2_hasLiving_0 (Q : Int32 → MS → Prop) (QX : String → MS → Prop) (S : MS) (a0 : Nat) (x1 : Int32) : Prop := (∃ n, lX2_hasLiving_2 Q QX n S a0 x1 0)
set_option maxHeartbeats 4000000 in
set_option maxRecDepth 100000 in
theorem tX2_hasLiving_0 {p : Program} {l : Launch} {e : Env} {s : State} {m : MethodId} {args : Array Value} {below : List Frame} {meth : Method} {c : Code} {H : Heap} {locs : List Loc} {cells slots : Nat} {G : GP} {A : Nat → Prop} {S0 : MS} {ls : Array Slot} (C : CF p l s m args meth c "SkirmishGrid$Fight" cX2_hasLiving 3 G A) (hr : meth.sig.returnType = (some .boolean)) (hex : ∀ x ∈ c.exceptionTable.toList, False) (Q : Int32 → MS → Prop) (QX : String → MS → Prop) (S : MS) (a0 : Nat) (x1 : Int32) (p_a0 : pI S 2 a0) (P : PW G A s H locs S0 S) (hl : lv_has ls 3 [(0, .ref a0), (1, .int x1)]) (hcc : cells + 0 ≤ 0) (hss : slots + 0 ≤ 0) (hw : wX2_hasLiving_0 Q QX S a0 x1) : W p l e rmX2_hasLiving s m args below meth c H locs cells slots (vx_MQ below (QI G S0 A Q) (XX G S0 A QX) args s 0 0 A) (F0 m 0 ls []) := by
  have hx := CF_x C
  have hb := CF_b C
  unfold wX2_hasLiving_0 at hw
  refine lv_iconst (v := 0) hx hb dX2_hasLiving_0 (by decide) ?_
  refine lv_istore_n (lv' := [(2, .int 0), (0, .ref a0), (1, .int x1)]) hx hb dX2_hasLiving_1 rfl hl (by decide) rfl (fun ls hl => ?_)
  obtain ⟨n, hw⟩ := hw
  exact tlX2_hasLiving_2 C hr hex Q QX n S a0 x1 0 _ _ _ _ _ p_a0 P (lv_sub hl [1, 2, 0] rfl) (by omega) (by omega) hw
def wp_X2_hasLiving (Q : Int32 → MS → Prop) (QX : String → MS → Prop) (S : MS) (a0 : Nat) (x1 : Int32) : Prop := wX2_hasLiving_0 Q QX S a0 x1
set_option maxHeartbeats 4000000 in
set_option maxRecDepth 100000 in
theorem met_X2_hasLiving {l : Launch} (hst : l.stackTraces = false) (G : GP) (sz : Nat) (Q : Int32 → MS → Prop) (QX : String → MS → Prop) (S : MS) (a0 : Nat) (x1 : Int32) (p_a0 : pI S 2 a0) (hw : wp_X2_hasLiving Q QX S a0 x1) : vx_Met l yX2_hasLiving (.code yX2_hasLiving cX2_hasLiving 3 (some .boolean) :: GW) rmX2_hasLiving (va_Pc [.ref a0, .int x1] (PR G S sz)) (QI G S (FA G S sz) Q) (XX G S (FA G S sz) QX) 0 0 (FA G S sz) := by
  refine st_m (by decide +kernel) hst (fun p e s m below meth c C hr hnm hex P => ?_)
  refine en_m (Nat.le_of_ble_eq_true rfl) (lv := [(0, .ref a0), (1, .int x1)]) rfl (fun ls hl => ?_)
  have C : CF p l s m _ meth c "SkirmishGrid$Fight" cX2_hasLiving 3 G (FA G S sz) := C
  exact tX2_hasLiving_0 C hr hex Q QX S a0 x1 p_a0 P hl (by omega) (by omega) hw
theorem cd_X2_hasLiving : yX2_hasLiving.cls = RX2 ∧ yX2_hasLiving.cls ≠ "java/lang/invoke/MethodHandle" ∧ yX2_hasLiving.cls ≠ "java/lang/invoke/VarHandle" ∧ (parseMethodDescriptor yX2_hasLiving.desc).map (fun d => d.parameters.length) = some 1 := by decide +kernel
abbrev rmX2_goesOn : Room := { frames := 2, cells := 0, slots := 0, locals := 42 }
def wX2_goesOn_0 (Q : Int32 → MS → Prop) (QX : String → MS → Prop) (S : MS) (a0 : Nat) : Prop := wp_X2_hasLiving (fun r2 S1 => ((r2 = 0 → Q 0 S1) ∧ (¬ r2 = 0 → wp_X2_hasLiving (fun r4 S3 => ((r4 = 0 → Q 0 S3) ∧ (¬ r4 = 0 → Q 1 S3))) QX S1 a0 1))) QX S a0 0
set_option maxHeartbeats 4000000 in
set_option maxRecDepth 100000 in
theorem tX2_goesOn_0 {p : Program} {l : Launch} {e : Env} {s : State} {m : MethodId} {args : Array Value} {below : List Frame} {meth : Method} {c : Code} {H : Heap} {locs : List Loc} {cells slots : Nat} {G : GP} {A : Nat → Prop} {S0 : MS} {ls : Array Slot} (C : CF p l s m args meth c "SkirmishGrid$Fight" cX2_goesOn 1 G A) (hr : meth.sig.returnType = (some .boolean)) (hex : ∀ x ∈ c.exceptionTable.toList, False) (Q : Int32 → MS → Prop) (QX : String → MS → Prop) (S : MS) (a0 : Nat) (p_a0 : pI S 2 a0) (P : PW G A s H locs S0 S) (hl : lv_has ls 1 [(0, .ref a0)]) (hcc : cells + 0 ≤ 0) (hss : slots + 0 ≤ 0) (hw : wX2_goesOn_0 Q QX S a0) : W p l e rmX2_goesOn s m args below meth c H locs cells slots (vx_MQ below (QI G S0 A Q) (XX G S0 A QX) args s 0 0 A) (F0 m 0 ls []) := by
  have hx := CF_x C
  have hb := CF_b C
  unfold wX2_goesOn_0 at hw
  refine lv_aload_n hx hb dX2_goesOn_0 rfl (lv_at hl 0 rfl) ?_
  refine lv_iconst (v := 0) hx hb dX2_goesOn_1 (by decide) ?_
  refine cl_i C P (run_V C P hl.1 (kd := 2) (met_X2_hasLiving (CF_n C) G H.size _ _ S a0 0 p_a0 hw) p_a0 (by decide) rfl q_833 q_352 q_353 q_2 q_354 cd_X2_hasLiving ⟨(Nat.le_of_ble_eq_true rfl), (Nat.le_of_ble_eq_true rfl)⟩ rfl rfl (As := [.int 0]) (rest := []) rfl rfl (Nat.le_of_ble_eq_true rfl) dX2_goesOn_2 ⟨by show cells + 0 ≤ 0; omega, by show slots + 0 ≤ 0; omega⟩) (kx_out C hex (fun _ _ _ h => h) (by omega) (by omega)) (fun r2 S1 H locs P hE hw => ?_)
  have p_a0 : pI S1 2 a0 := pI_x hE p_a0
  refine lv_if_eq (tgt := 20) hx hb dX2_goesOn_5 (by decide) (fun hc => ?_) (fun hc => ?_)
  · have hw := hw.1 hc
    refine lv_iconst (v := 0) hx hb dX2_goesOn_20 (by decide) ?_
    exact e_i C hr (by decide +kernel) P hw (by omega) (by omega) dX2_goesOn_21
  · have hw := hw.2 hc
    refine lv_aload_n hx hb dX2_goesOn_8 rfl (lv_at hl 0 rfl) ?_
    refine lv_iconst (v := 1) hx hb dX2_goesOn_9 (by decide) ?_
    refine cl_i C P (run_V C P hl.1 (kd := 2) (met_X2_hasLiving (CF_n C) G H.size _ _ S1 a0 1 p_a0 hw) p_a0 (by decide) rfl q_833 q_352 q_353 q_2 q_354 cd_X2_hasLiving ⟨(Nat.le_of_ble_eq_true rfl), (Nat.le_of_ble_eq_true rfl)⟩ rfl rfl (As := [.int 1]) (rest := []) rfl rfl (Nat.le_of_ble_eq_true rfl) dX2_goesOn_10 ⟨by show cells + 0 ≤ 0; omega, by show slots + 0 ≤ 0; omega⟩) (kx_out C hex (fun _ _ _ h => h) (by omega) (by omega)) (fun r4 S3 H locs P hE hw => ?_)
    have p_a0 : pI S3 2 a0 := pI_x hE p_a0
    refine lv_if_eq (tgt := 20) hx hb dX2_goesOn_13 (by decide) (fun hc => ?_) (fun hc => ?_)
    · have hw := hw.1 hc
      refine lv_iconst (v := 0) hx hb dX2_goesOn_20 (by decide) ?_
      exact e_i C hr (by decide +kernel) P hw (by omega) (by omega) dX2_goesOn_21
    · have hw := hw.2 hc
      refine lv_iconst (v := 1) hx hb dX2_goesOn_16 (by decide) ?_
      refine lv_goto (tgt := 21) hx hb dX2_goesOn_17 (by decide) ?_
      exact e_i C hr (by decide +kernel) P hw (by omega) (by omega) dX2_goesOn_21
def wp_X2_goesOn (Q : Int32 → MS → Prop) (QX : String → MS → Prop) (S : MS) (a0 : Nat) : Prop := wX2_goesOn_0 Q QX S a0
set_option maxHeartbeats 4000000 in
set_option maxRecDepth 100000 in
theorem met_X2_goesOn {l : Launch} (hst : l.stackTraces = false) (G : GP) (sz : Nat) (Q : Int32 → MS → Prop) (QX : String → MS → Prop) (S : MS) (a0 : Nat) (p_a0 : pI S 2 a0) (hw : wp_X2_goesOn Q QX S a0) : vx_Met l yX2_goesOn (.code yX2_goesOn cX2_goesOn 1 (some .boolean) :: GW) rmX2_goesOn (va_Pc [.ref a0] (PR G S sz)) (QI G S (FA G S sz) Q) (XX G S (FA G S sz) QX) 0 0 (FA G S sz) := by
  refine st_m (by decide +kernel) hst (fun p e s m below meth c C hr hnm hex P => ?_)
  refine en_m (Nat.le_of_ble_eq_true rfl) (lv := [(0, .ref a0)]) rfl (fun ls hl => ?_)
  have C : CF p l s m _ meth c "SkirmishGrid$Fight" cX2_goesOn 1 G (FA G S sz) := C
  exact tX2_goesOn_0 C hr hex Q QX S a0 p_a0 P hl (by omega) (by omega) hw
theorem cd_X2_goesOn : yX2_goesOn.cls = RX2 ∧ yX2_goesOn.cls ≠ "java/lang/invoke/MethodHandle" ∧ yX2_goesOn.cls ≠ "java/lang/invoke/VarHandle" ∧ (parseMethodDescriptor yX2_goesOn.desc).map (fun d => d.parameters.length) = some 0 := by decide +kernel
abbrev rmX2_hasUnitOn : Room := { frames := 0, cells := 0, slots := 0, locals := 0 }
def wX2_hasUnitOn_2 (Q : Int32 → MS → Prop) (QX : String → MS → Prop) (k2 : MS → Nat → Int32 → Int32 → Prop) (S : MS) (a0 : Nat) (y1 : Int32) (y2 : Int32) : Prop := (((mI S a0 2) ≤ y2 → Q 0 S) ∧ (¬ (mI S a0 2) ≤ y2 → (∃ a1, mR S a0 1 = some a1 ∧ (vp_in y2 (mN S a1) ∧ (∃ a2, mR S a1 (y2 : Int32).toNatClampNeg = some a2 ∧ ((¬ (mI S a2 4) = y1 → k2 S a0 y1 (y2 + 1)) ∧ ((mI S a2 4) = y1 → Q 1 S)))))))
set_option maxHeartbeats 4000000 in
set_option maxRecDepth 100000 in
theorem tX2_hasUnitOn_2 {p : Program} {l : Launch} {e : Env} {s : State} {m : MethodId} {args : Array Value} {below : List Frame} {meth : Method} {c : Code} {H : Heap} {locs : List Loc} {cells slots : Nat} {G : GP} {A : Nat → Prop} {S0 : MS} {ls : Array Slot} (C : CF p l s m args meth c "SkirmishGrid$Fight" cX2_hasUnitOn 3 G A) (hr : meth.sig.returnType = (some .boolean)) (hex : ∀ x ∈ c.exceptionTable.toList, False) (Q : Int32 → MS → Prop) (QX : String → MS → Prop) (k2 : MS → Nat → Int32 → Int32 → Prop) (kh2 : ∀ (S : MS) (a0 : Nat) (y1 : Int32) (y2 : Int32) (cells slots : Nat) (H : Heap) (locs : List Loc) (ls : Array Slot), pI S 2 a0 → PW G A s H locs S0 S → lv_has ls 3 [(0, .ref a0), (1, .int y1), (2, .int y2)] → cells + 0 ≤ 0 → slots + 0 ≤ 0 → k2 S a0 y1 y2 → W p l e rmX2_hasUnitOn s m args below meth c H locs cells slots (vx_MQ below (QI G S0 A Q) (XX G S0 A QX) args s 0 0 A) (F0 m 2 ls [])) (S : MS) (a0 : Nat) (y1 : Int32) (y2 : Int32) (p_a0 : pI S 2 a0) (P : PW G A s H locs S0 S) (hl : lv_has ls 3 [(0, .ref a0), (1, .int y1), (2, .int y2)]) (hcc : cells + 0 ≤ 0) (hss : slots + 0 ≤ 0) (hw : wX2_hasUnitOn_2 Q QX k2 S a0 y1 y2) : W p l e rmX2_hasUnitOn s m args below meth c H locs cells slots (vx_MQ below (QI G S0 A Q) (XX G S0 A QX) args s 0 0 A) (F0 m 2 ls []) := by
  have hx := CF_x C
  have hb := CF_b C
  unfold wX2_hasUnitOn_2 at hw
  refine lv_iload_n hx hb dX2_hasUnitOn_2 rfl (lv_at hl 2 rfl) ?_
  refine lv_aload_n hx hb dX2_hasUnitOn_3 rfl (lv_at hl 0 rfl) ?_
  refine gf_2_2 C P p_a0 q_168 dX2_hasUnitOn_4 ?_
  refine lv_icmp_ge (tgt := 31) hx hb dX2_hasUnitOn_7 (by decide) (fun hc => ?_) (fun hc => ?_)
  · have hw := hw.1 hc
    refine lv_iconst (v := 0) hx hb dX2_hasUnitOn_31 (by decide) ?_
    exact e_i C hr (by decide +kernel) P hw (by omega) (by omega) dX2_hasUnitOn_32
  · have hw := hw.2 hc
    refine lv_aload_n hx hb dX2_hasUnitOn_10 rfl (lv_at hl 0 rfl) ?_
    obtain ⟨a1, e1, hw⟩ := hw
    have p_a1 : pI S 15 a1 := wf_r P.2.2.2.1 p_a0 e1
    refine gf_2_1 C P p_a0 e1 q_164 dX2_hasUnitOn_11 ?_
    refine lv_iload_n hx hb dX2_hasUnitOn_14 rfl (lv_at hl 2 rfl) ?_
    obtain ⟨h1, hw⟩ := hw
    obtain ⟨a2, e1, hw⟩ := hw
    have p_a2 : pI S 7 a2 := wf_r P.2.2.2.1 p_a1 e1
    refine ra_a5 C P p_a1 h1 e1 dX2_hasUnitOn_15 ?_
    refine gf_7_4 C P p_a2 q_107 dX2_hasUnitOn_16 ?_
    refine lv_iload_n hx hb dX2_hasUnitOn_19 rfl (lv_at hl 1 rfl) ?_
    refine lv_icmp_ne (tgt := 25) hx hb dX2_hasUnitOn_20 (by decide) (fun hc => ?_) (fun hc => ?_)
    · have hw := hw.1 hc
      refine lv_iinc (v := (y2 + 1)) (lv' := [(2, .int (y2 + 1)), (0, .ref a0), (1, .int y1)]) hx hb dX2_hasUnitOn_25 hl (k := 2) rfl (by rfl) (by decide) rfl (fun ls hl => ?_)
      refine lv_goto (tgt := 2) hx hb dX2_hasUnitOn_28 (by decide) ?_
      exact kh2 S a0 y1 (y2 + 1) _ _ _ _ _ p_a0 P (lv_sub hl [1, 2, 0] rfl) (by omega) (by omega) hw
    · have hw := hw.2 hc
      refine lv_iconst (v := 1) hx hb dX2_hasUnitOn_23 (by decide) ?_
      exact e_i C hr (by decide +kernel) P hw (by omega) (by omega) dX2_hasUnitOn_24
def lX2_hasUnitOn_2 (Q : Int32 → MS → Prop) (QX : String → MS → Prop) : Nat → MS → Nat → Int32 → Int32 → Prop
  | 0 => fun _ _ _ _ => False
  | n + 1 => fun S a0 y1 y2 => wX2_hasUnitOn_2 Q QX (lX2_hasUnitOn_2 Q QX n) S a0 y1 y2
theorem tlX2_hasUnitOn_2 {p : Program} {l : Launch} {e : Env} {s : State} {m : MethodId} {args : Array Value} {below : List Frame} {meth : Method} {c : Code} {G : GP} {A : Nat → Prop} {S0 : MS} (C : CF p l s m args meth c "SkirmishGrid$Fight" cX2_hasUnitOn 3 G A) (hr : meth.sig.returnType = (some .boolean)) (hex : ∀ x ∈ c.exceptionTable.toList, False) (Q : Int32 → MS → Prop) (QX : String → MS → Prop) : ∀ (n : Nat), ∀ (S : MS) (a0 : Nat) (y1 : Int32) (y2 : Int32) (cells slots : Nat) (H : Heap) (locs : List Loc) (ls : Array Slot), pI S 2 a0 → PW G A s H locs S0 S → lv_has ls 3 [(0, .ref a0), (1, .int y1), (2, .int y2)] → cells + 0 ≤ 0 → slots + 0 ≤ 0 → lX2_hasUnitOn_2 Q QX n S a0 y1 y2 → W p l e rmX2_hasUnitOn s m args below meth c H locs cells slots (vx_MQ below (QI G S0 A Q) (XX G S0 A QX) args s 0 0 A) (F0 m 2 ls []) := by
  intro n
  induction n with
  | zero => intro S a0 y1 y2 cells slots H locs ls p_a0 P hl hcc hss hw; exact hw.elim
  | succ n ih => intro S a0 y1 y2 cells slots H locs ls p_a0 P hl hcc hss hw; exact tX2_hasUnitOn_2 C hr hex Q QX (lX2_hasUnitOn_2 Q QX n) ih S a0 y1 y2 p_a0 P hl hcc hss hw
def wX2_hasUnitOn_0 (Q : Int32 → MS → Prop) (QX : String → MS → Prop) (S : MS) (a0 : Nat) (x1 : Int32) : Prop := (∃ n, lX2_hasUnitOn_2 Q QX n S a0 x1 0)
set_option maxHeartbeats 4000000 in
set_option maxRecDepth 100000 in
theorem tX2_hasUnitOn_0 {p : Program} {l : Launch} {e : Env} {s : State} {m : MethodId} {args : Array Value} {below : List Frame} {meth : Method} {c : Code} {H : Heap} {locs : List Loc} {cells slots : Nat} {G : GP} {A : Nat → Prop} {S0 : MS} {ls : Array Slot} (C : CF p l s m args meth c "SkirmishGrid$Fight" cX2_hasUnitOn 3 G A) (hr : meth.sig.returnType = (some .boolean)) (hex : ∀ x ∈ c.exceptionTable.toList, False) (Q : Int32 → MS → Prop) (QX : String → MS → Prop) (S : MS) (a0 : Nat) (x1 : Int32) (p_a0 : pI S 2 a0) (P : PW G A s H locs S0 S) (hl : lv_has ls 3 [(0, .ref a0), (1, .int x1)]) (hcc : cells + 0 ≤ 0) (hss : slots + 0 ≤ 0) (hw : wX2_hasUnitOn_0 Q QX S a0 x1) : W p l e rmX2_hasUnitOn s m args below meth c H locs cells slots (vx_MQ below (QI G S0 A Q) (XX G S0 A QX) args s 0 0 A) (F0 m 0 ls []) := by
  have hx := CF_x C
  have hb := CF_b C
  unfold wX2_hasUnitOn_0 at hw
  refine lv_iconst (v := 0) hx hb dX2_hasUnitOn_0 (by decide) ?_
  refine lv_istore_n (lv' := [(2, .int 0), (0, .ref a0), (1, .int x1)]) hx hb dX2_hasUnitOn_1 rfl hl (by decide) rfl (fun ls hl => ?_)
  obtain ⟨n, hw⟩ := hw
  exact tlX2_hasUnitOn_2 C hr hex Q QX n S a0 x1 0 _ _ _ _ _ p_a0 P (lv_sub hl [1, 2, 0] rfl) (by omega) (by omega) hw
def wp_X2_hasUnitOn (Q : Int32 → MS → Prop) (QX : String → MS → Prop) (S : MS) (a0 : Nat) (x1 : Int32) : Prop := wX2_hasUnitOn_0 Q QX S a0 x1
set_option maxHeartbeats 4000000 in
set_option maxRecDepth 100000 in
theorem met_X2_hasUnitOn {l : Launch} (hst : l.stackTraces = false) (G : GP) (sz : Nat) (Q : Int32 → MS → Prop) (QX : String → MS → Prop) (S : MS) (a0 : Nat) (x1 : Int32) (p_a0 : pI S 2 a0) (hw : wp_X2_hasUnitOn Q QX S a0 x1) : vx_Met l yX2_hasUnitOn (.code yX2_hasUnitOn cX2_hasUnitOn 3 (some .boolean) :: GW) rmX2_hasUnitOn (va_Pc [.ref a0, .int x1] (PR G S sz)) (QI G S (FA G S sz) Q) (XX G S (FA G S sz) QX) 0 0 (FA G S sz) := by
  refine st_m (by decide +kernel) hst (fun p e s m below meth c C hr hnm hex P => ?_)
  refine en_m (Nat.le_of_ble_eq_true rfl) (lv := [(0, .ref a0), (1, .int x1)]) rfl (fun ls hl => ?_)
  have C : CF p l s m _ meth c "SkirmishGrid$Fight" cX2_hasUnitOn 3 G (FA G S sz) := C
  exact tX2_hasUnitOn_0 C hr hex Q QX S a0 x1 p_a0 P hl (by omega) (by omega) hw
theorem cd_X2_hasUnitOn : yX2_hasUnitOn.cls = RX2 ∧ yX2_hasUnitOn.cls ≠ "java/lang/invoke/MethodHandle" ∧ yX2_hasUnitOn.cls ≠ "java/lang/invoke/VarHandle" ∧ (parseMethodDescriptor yX2_hasUnitOn.desc).map (fun d => d.parameters.length) = some 1 := by decide +kernel
abbrev rmX2_find : Room := { frames := 0, cells := 0, slots := 0, locals := 0 }
def wX2_find_0 (Q : Option Nat → MS → Prop) (QX : String → MS → Prop) (S : MS) (a0 : Nat) (x1 : Int32) : Prop := ((x1 < 0 → Q none S) ∧ (¬ x1 < 0 → (((mI S a0 2) ≤ x1 → Q none S) ∧ (¬ (mI S a0 2) ≤ x1 → (∃ a1, mR S a0 1 = some a1 ∧ (vp_in x1 (mN S a1) ∧ (∃ a2, mR S a1 (x1 : Int32).toNatClampNeg = some a2 ∧ Q (some a2) S)))))))
set_option maxHeartbeats 4000000 in
set_option maxRecDepth 100000 in
theorem tX2_find_0 {p : Program} {l : Launch} {e : Env} {s : State} {m : MethodId} {args : Array Value} {below : List Frame} {meth : Method} {c : Code} {H : Heap} {locs : List Loc} {cells slots : Nat} {G : GP} {A : Nat → Prop} {S0 : MS} {ls : Array Slot} (C : CF p l s m args meth c "SkirmishGrid$Fight" cX2_find 2 G A) (hr : meth.sig.returnType = (some (.object "SkirmishGrid$Unit"))) (hex : ∀ x ∈ c.exceptionTable.toList, False) (Q : Option Nat → MS → Prop) (QX : String → MS → Prop) (S : MS) (a0 : Nat) (x1 : Int32) (p_a0 : pI S 2 a0) (P : PW G A s H locs S0 S) (hl : lv_has ls 2 [(0, .ref a0), (1, .int x1)]) (hcc : cells + 0 ≤ 0) (hss : slots + 0 ≤ 0) (hw : wX2_find_0 Q QX S a0 x1) : W p l e rmX2_find s m args below meth c H locs cells slots (vx_MQ below (QQ G S0 A 7 Q) (XX G S0 A QX) args s 0 0 A) (F0 m 0 ls []) := by
  have hx := CF_x C
  have hb := CF_b C
  unfold wX2_find_0 at hw
  refine lv_iload_n hx hb dX2_find_0 rfl (lv_at hl 1 rfl) ?_
  refine lv_if_lt (tgt := 21) hx hb dX2_find_1 (by decide) (fun hc => ?_) (fun hc => ?_)
  · have hw := hw.1 hc
    refine lv_null hx hb dX2_find_21 ?_
    exact e_q (v := none) C hr P hw pQ_n (by omega) (by omega) dX2_find_22
  · have hw := hw.2 hc
    refine lv_iload_n hx hb dX2_find_4 rfl (lv_at hl 1 rfl) ?_
    refine lv_aload_n hx hb dX2_find_5 rfl (lv_at hl 0 rfl) ?_
    refine gf_2_2 C P p_a0 q_168 dX2_find_6 ?_
    refine lv_icmp_ge (tgt := 21) hx hb dX2_find_9 (by decide) (fun hc => ?_) (fun hc => ?_)
    · have hw := hw.1 hc
      refine lv_null hx hb dX2_find_21 ?_
      exact e_q (v := none) C hr P hw pQ_n (by omega) (by omega) dX2_find_22
    · have hw := hw.2 hc
      refine lv_aload_n hx hb dX2_find_12 rfl (lv_at hl 0 rfl) ?_
      obtain ⟨a1, e1, hw⟩ := hw
      have p_a1 : pI S 15 a1 := wf_r P.2.2.2.1 p_a0 e1
      refine gf_2_1 C P p_a0 e1 q_164 dX2_find_13 ?_
      refine lv_iload_n hx hb dX2_find_16 rfl (lv_at hl 1 rfl) ?_
      obtain ⟨h1, hw⟩ := hw
      obtain ⟨a2, e1, hw⟩ := hw
      have p_a2 : pI S 7 a2 := wf_r P.2.2.2.1 p_a1 e1
      refine ra_a5 C P p_a1 h1 e1 dX2_find_17 ?_
      refine lv_goto (tgt := 22) hx hb dX2_find_18 (by decide) ?_
      exact e_q (v := some a2) C hr P hw (pQ_s p_a2) (by omega) (by omega) dX2_find_22
def wp_X2_find (Q : Option Nat → MS → Prop) (QX : String → MS → Prop) (S : MS) (a0 : Nat) (x1 : Int32) : Prop := wX2_find_0 Q QX S a0 x1
set_option maxHeartbeats 4000000 in
set_option maxRecDepth 100000 in
theorem met_X2_find {l : Launch} (hst : l.stackTraces = false) (G : GP) (sz : Nat) (Q : Option Nat → MS → Prop) (QX : String → MS → Prop) (S : MS) (a0 : Nat) (x1 : Int32) (p_a0 : pI S 2 a0) (hw : wp_X2_find Q QX S a0 x1) : vx_Met l yX2_find (.code yX2_find cX2_find 2 (some (.object "SkirmishGrid$Unit")) :: GW) rmX2_find (va_Pc [.ref a0, .int x1] (PR G S sz)) (QQ G S (FA G S sz) 7 Q) (XX G S (FA G S sz) QX) 0 0 (FA G S sz) := by
  refine st_m (by decide +kernel) hst (fun p e s m below meth c C hr hnm hex P => ?_)
  refine en_m (Nat.le_of_ble_eq_true rfl) (lv := [(0, .ref a0), (1, .int x1)]) rfl (fun ls hl => ?_)
  have C : CF p l s m _ meth c "SkirmishGrid$Fight" cX2_find 2 G (FA G S sz) := C
  exact tX2_find_0 C hr hex Q QX S a0 x1 p_a0 P hl (by omega) (by omega) hw
theorem cd_X2_find : yX2_find.cls = RX2 ∧ yX2_find.cls ≠ "java/lang/invoke/MethodHandle" ∧ yX2_find.cls ≠ "java/lang/invoke/VarHandle" ∧ (parseMethodDescriptor yX2_find.desc).map (fun d => d.parameters.length) = some 1 := by decide +kernel
abbrev rmX2_onTurn : Room := { frames := 0, cells := 0, slots := 0, locals := 0 }
def wX2_onTurn_0 (Q : Option Nat → MS → Prop) (QX : String → MS → Prop) (S : MS) (a0 : Nat) : Prop := (((mI S a0 6) < 0 → Q none S) ∧ (¬ (mI S a0 6) < 0 → (((mI S a0 2) ≤ (mI S a0 6) → Q none S) ∧ (¬ (mI S a0 2) ≤ (mI S a0 6) → (∃ a1, mR S a0 1 = some a1 ∧ (vp_in (mI S a0 6) (mN S a1) ∧ (∃ a2, mR S a1 ((mI S a0 6) : Int32).toNatClampNeg = some a2 ∧ Q (some a2) S)))))))
set_option maxHeartbeats 4000000 in
set_option maxRecDepth 100000 in
theorem tX2_onTurn_0 {p : Program} {l : Launch} {e : Env} {s : State} {m : MethodId} {args : Array Value} {below : List Frame} {meth : Method} {c : Code} {H : Heap} {locs : List Loc} {cells slots : Nat} {G : GP} {A : Nat → Prop} {S0 : MS} {ls : Array Slot} (C : CF p l s m args meth c "SkirmishGrid$Fight" cX2_onTurn 1 G A) (hr : meth.sig.returnType = (some (.object "SkirmishGrid$Unit"))) (hex : ∀ x ∈ c.exceptionTable.toList, False) (Q : Option Nat → MS → Prop) (QX : String → MS → Prop) (S : MS) (a0 : Nat) (p_a0 : pI S 2 a0) (P : PW G A s H locs S0 S) (hl : lv_has ls 1 [(0, .ref a0)]) (hcc : cells + 0 ≤ 0) (hss : slots + 0 ≤ 0) (hw : wX2_onTurn_0 Q QX S a0) : W p l e rmX2_onTurn s m args below meth c H locs cells slots (vx_MQ below (QQ G S0 A 7 Q) (XX G S0 A QX) args s 0 0 A) (F0 m 0 ls []) := by
  have hx := CF_x C
  have hb := CF_b C
  unfold wX2_onTurn_0 at hw
  refine lv_aload_n hx hb dX2_onTurn_0 rfl (lv_at hl 0 rfl) ?_
  refine gf_2_6 C P p_a0 q_177 dX2_onTurn_1 ?_
  refine lv_if_lt (tgt := 30) hx hb dX2_onTurn_4 (by decide) (fun hc => ?_) (fun hc => ?_)
  · have hw := hw.1 hc
    refine lv_null hx hb dX2_onTurn_30 ?_
    exact e_q (v := none) C hr P hw pQ_n (by omega) (by omega) dX2_onTurn_31
  · have hw := hw.2 hc
    refine lv_aload_n hx hb dX2_onTurn_7 rfl (lv_at hl 0 rfl) ?_
    refine gf_2_6 C P p_a0 q_177 dX2_onTurn_8 ?_
    refine lv_aload_n hx hb dX2_onTurn_11 rfl (lv_at hl 0 rfl) ?_
    refine gf_2_2 C P p_a0 q_168 dX2_onTurn_12 ?_
    refine lv_icmp_ge (tgt := 30) hx hb dX2_onTurn_15 (by decide) (fun hc => ?_) (fun hc => ?_)
    · have hw := hw.1 hc
      refine lv_null hx hb dX2_onTurn_30 ?_
      exact e_q (v := none) C hr P hw pQ_n (by omega) (by omega) dX2_onTurn_31
    · have hw := hw.2 hc
      refine lv_aload_n hx hb dX2_onTurn_18 rfl (lv_at hl 0 rfl) ?_
      obtain ⟨a1, e1, hw⟩ := hw
      have p_a1 : pI S 15 a1 := wf_r P.2.2.2.1 p_a0 e1
      refine gf_2_1 C P p_a0 e1 q_164 dX2_onTurn_19 ?_
      refine lv_aload_n hx hb dX2_onTurn_22 rfl (lv_at hl 0 rfl) ?_
      refine gf_2_6 C P p_a0 q_177 dX2_onTurn_23 ?_
      obtain ⟨h1, hw⟩ := hw
      obtain ⟨a2, e1, hw⟩ := hw
      have p_a2 : pI S 7 a2 := wf_r P.2.2.2.1 p_a1 e1
      refine ra_a5 C P p_a1 h1 e1 dX2_onTurn_26 ?_
      refine lv_goto (tgt := 31) hx hb dX2_onTurn_27 (by decide) ?_
      exact e_q (v := some a2) C hr P hw (pQ_s p_a2) (by omega) (by omega) dX2_onTurn_31
def wp_X2_onTurn (Q : Option Nat → MS → Prop) (QX : String → MS → Prop) (S : MS) (a0 : Nat) : Prop := wX2_onTurn_0 Q QX S a0
set_option maxHeartbeats 4000000 in
set_option maxRecDepth 100000 in
theorem met_X2_onTurn {l : Launch} (hst : l.stackTraces = false) (G : GP) (sz : Nat) (Q : Option Nat → MS → Prop) (QX : String → MS → Prop) (S : MS) (a0 : Nat) (p_a0 : pI S 2 a0) (hw : wp_X2_onTurn Q QX S a0) : vx_Met l yX2_onTurn (.code yX2_onTurn cX2_onTurn 1 (some (.object "SkirmishGrid$Unit")) :: GW) rmX2_onTurn (va_Pc [.ref a0] (PR G S sz)) (QQ G S (FA G S sz) 7 Q) (XX G S (FA G S sz) QX) 0 0 (FA G S sz) := by
  refine st_m (by decide +kernel) hst (fun p e s m below meth c C hr hnm hex P => ?_)
  refine en_m (Nat.le_of_ble_eq_true rfl) (lv := [(0, .ref a0)]) rfl (fun ls hl => ?_)
  have C : CF p l s m _ meth c "SkirmishGrid$Fight" cX2_onTurn 1 G (FA G S sz) := C
  exact tX2_onTurn_0 C hr hex Q QX S a0 p_a0 P hl (by omega) (by omega) hw
theorem cd_X2_onTurn : yX2_onTurn.cls = RX2 ∧ yX2_onTurn.cls ≠ "java/lang/invoke/MethodHandle" ∧ yX2_onTurn.cls ≠ "java/lang/invoke/VarHandle" ∧ (parseMethodDescriptor yX2_onTurn.desc).map (fun d => d.parameters.length) = some 0 := by decide +kernel
abbrev rmX2_rollDie : Room := { frames := 0, cells := 0, slots := 0, locals := 0 }
def wX2_rollDie_0 (Q : Int32 → MS → Prop) (QX : String → MS → Prop) (S : MS) (a0 : Nat) (x1 : Int32) : Prop := (∀ S1, S1 = (sI S a0 10 (((mI S a0 10) * 1103515245) + 12345)) → ((1 ≤ x1 → (¬ x1 = 0 ∧ Q (((((mI S1 a0 10).toUInt32 >>> ((16 : Int32).toUInt32 &&& Int32.toUInt32 31)).toInt32) - (((mI S1 a0 10).toUInt32 >>> ((16 : Int32).toUInt32 &&& Int32.toUInt32 31)).toInt32) / x1 * x1) + 1) S1)) ∧ (¬ 1 ≤ x1 → Q 1 S1)))
set_option maxHeartbeats 4000000 in
set_option maxRecDepth 100000 in
theorem tX2_rollDie_0 {p : Program} {l : Launch} {e : Env} {s : State} {m : MethodId} {args : Array Value} {below : List Frame} {meth : Method} {c : Code} {H : Heap} {locs : List Loc} {cells slots : Nat} {G : GP} {A : Nat → Prop} {S0 : MS} {ls : Array Slot} (C : CF p l s m args meth c "SkirmishGrid$Fight" cX2_rollDie 2 G A) (hr : meth.sig.returnType = (some .int)) (hex : ∀ x ∈ c.exceptionTable.toList, False) (Q : Int32 → MS → Prop) (QX : String → MS → Prop) (S : MS) (a0 : Nat) (x1 : Int32) (p_a0 : pI S 2 a0) (P : PW G A s H locs S0 S) (hl : lv_has ls 2 [(0, .ref a0), (1, .int x1)]) (hcc : cells + 0 ≤ 0) (hss : slots + 0 ≤ 0) (hw : wX2_rollDie_0 Q QX S a0 x1) : W p l e rmX2_rollDie s m args below meth c H locs cells slots (vx_MQ below (QI G S0 A Q) (XX G S0 A QX) args s 0 0 A) (F0 m 0 ls []) := by
  have hx := CF_x C
  have hb := CF_b C
  unfold wX2_rollDie_0 at hw
  refine lv_aload_n hx hb dX2_rollDie_0 rfl (lv_at hl 0 rfl) ?_
  refine lv_aload_n hx hb dX2_rollDie_1 rfl (lv_at hl 0 rfl) ?_
  refine gf_2_10 C P p_a0 q_184 dX2_rollDie_2 ?_
  refine lv_ldc (v := 1103515245) hx hb (CF_o C) (CF_t C _ q_851) dX2_rollDie_5 ?_
  refine lv_imul hx hb dX2_rollDie_7 ?_
  refine lv_sipush (v := 12345) hx hb dX2_rollDie_8 (by decide) ?_
  refine lv_iadd hx hb dX2_rollDie_11 ?_
  refine pf_2_10 C P p_a0 q_184 dX2_rollDie_12 (fun H locs P => ?_)
  obtain ⟨S1, hS⟩ : ∃ z, z = (sI S a0 10 (((mI S a0 10) * 1103515245) + 12345)) := ⟨_, rfl⟩
  have P : PW G A s H locs S0 S1 := by rw [hS]; exact P
  have p_a0 : pI S1 2 a0 := by rw [hS]; exact pI_x ext_sI p_a0
  have hw := hw S1 hS
  refine lv_iload_n hx hb dX2_rollDie_15 rfl (lv_at hl 1 rfl) ?_
  refine lv_iconst (v := 1) hx hb dX2_rollDie_16 (by decide) ?_
  refine lv_icmp_ge (tgt := 24) hx hb dX2_rollDie_17 (by decide) (fun hc => ?_) (fun hc => ?_)
  · have hw := hw.1 hc
    refine lv_aload_n hx hb dX2_rollDie_24 rfl (lv_at hl 0 rfl) ?_
    refine gf_2_10 C P p_a0 q_184 dX2_rollDie_25 ?_
    refine lv_bipush (v := 16) hx hb dX2_rollDie_28 (by decide) ?_
    refine lv_iushr (v := ((mI S1 a0 10).toUInt32 >>> ((16 : Int32).toUInt32 &&& Int32.toUInt32 31)).toInt32) hx hb dX2_rollDie_30 rfl ?_
    refine lv_iload_n hx hb dX2_rollDie_31 rfl (lv_at hl 1 rfl) ?_
    obtain ⟨h1, hw⟩ := hw
    refine lv_irem hx hb dX2_rollDie_32 h1 ?_
    refine lv_iconst (v := 1) hx hb dX2_rollDie_33 (by decide) ?_
    refine lv_iadd hx hb dX2_rollDie_34 ?_
    exact e_i C hr rfl P hw (by omega) (by omega) dX2_rollDie_35
  · have hw := hw.2 hc
    refine lv_iconst (v := 1) hx hb dX2_rollDie_20 (by decide) ?_
    refine lv_goto (tgt := 35) hx hb dX2_rollDie_21 (by decide) ?_
    exact e_i C hr rfl P hw (by omega) (by omega) dX2_rollDie_35
def wp_X2_rollDie (Q : Int32 → MS → Prop) (QX : String → MS → Prop) (S : MS) (a0 : Nat) (x1 : Int32) : Prop := wX2_rollDie_0 Q QX S a0 x1
set_option maxHeartbeats 4000000 in
set_option maxRecDepth 100000 in
theorem met_X2_rollDie {l : Launch} (hst : l.stackTraces = false) (G : GP) (sz : Nat) (Q : Int32 → MS → Prop) (QX : String → MS → Prop) (S : MS) (a0 : Nat) (x1 : Int32) (p_a0 : pI S 2 a0) (hw : wp_X2_rollDie Q QX S a0 x1) : vx_Met l yX2_rollDie (.code yX2_rollDie cX2_rollDie 2 (some .int) :: GW) rmX2_rollDie (va_Pc [.ref a0, .int x1] (PR G S sz)) (QI G S (FA G S sz) Q) (XX G S (FA G S sz) QX) 0 0 (FA G S sz) := by
  refine st_m (by decide +kernel) hst (fun p e s m below meth c C hr hnm hex P => ?_)
  refine en_m (Nat.le_of_ble_eq_true rfl) (lv := [(0, .ref a0), (1, .int x1)]) rfl (fun ls hl => ?_)
  have C : CF p l s m _ meth c "SkirmishGrid$Fight" cX2_rollDie 2 G (FA G S sz) := C
  exact tX2_rollDie_0 C hr hex Q QX S a0 x1 p_a0 P hl (by omega) (by omega) hw
theorem cd_X2_rollDie : yX2_rollDie.cls = RX2 ∧ yX2_rollDie.cls ≠ "java/lang/invoke/MethodHandle" ∧ yX2_rollDie.cls ≠ "java/lang/invoke/VarHandle" ∧ (parseMethodDescriptor yX2_rollDie.desc).map (fun d => d.parameters.length) = some 1 := by decide +kernel
