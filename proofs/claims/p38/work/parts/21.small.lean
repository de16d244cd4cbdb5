theorem q_217 : Cond.methodLink "SkirmishGrid$Commands" 3 objectInit ∈ GW := gw_t 217 (by decide +kernel) (by decide +kernel)
theorem q_218 : Cond.fieldLink "SkirmishGrid$Commands" 9 "SkirmishGrid$Commands" "kinds" "[I" ∈ GW := gw_t 218 (by decide +kernel) (by decide +kernel)
theorem q_220 : Cond.fieldLink "SkirmishGrid$Commands" 15 "SkirmishGrid$Commands" "arguments" "[I" ∈ GW := gw_t 220 (by decide +kernel) (by decide +kernel)
theorem q_222 : Cond.fieldLink "SkirmishGrid$Commands" 18 "SkirmishGrid$Commands" "count" "I" ∈ GW := gw_t 222 (by decide +kernel) (by decide +kernel)
theorem q_400 : Cond.methodLink "SkirmishGrid$Commands" 22 arraycopyName ∈ GW := gw_t 400 (by decide +kernel) (by decide +kernel)
theorem q_73 : Cond.methodLink "SkirmishGrid$Events" 3 objectInit ∈ GW := gw_t 73 (by decide +kernel) (by decide +kernel)
theorem q_74 : Cond.fieldLink "SkirmishGrid$Events" 9 "SkirmishGrid$Events" "kinds" "[I" ∈ GW := gw_t 74 (by decide +kernel) (by decide +kernel)
theorem q_75 : Cond.fieldLink "SkirmishGrid$Events" 15 "SkirmishGrid$Events" "units" "[I" ∈ GW := gw_t 75 (by decide +kernel) (by decide +kernel)
theorem q_76 : Cond.fieldLink "SkirmishGrid$Events" 18 "SkirmishGrid$Events" "numbers" "[I" ∈ GW := gw_t 76 (by decide +kernel) (by decide +kernel)
theorem q_77 : Cond.fieldLink "SkirmishGrid$Events" 21 "SkirmishGrid$Events" "count" "I" ∈ GW := gw_t 77 (by decide +kernel) (by decide +kernel)
theorem q_395 : Cond.methodLink "SkirmishGrid$Events" 25 arraycopyName ∈ GW := gw_t 395 (by decide +kernel) (by decide +kernel)
theorem q_93 : Cond.methodLink "SkirmishGrid$Unit" 1 objectInit ∈ GW := gw_t 93 (by decide +kernel) (by decide +kernel)
theorem q_94 : Cond.fieldLink "SkirmishGrid$Unit" 7 "SkirmishGrid$Unit" "number" "I" ∈ GW := gw_t 94 (by decide +kernel) (by decide +kernel)
theorem q_96 : Cond.fieldLink "SkirmishGrid$Unit" 13 "SkirmishGrid$Unit" "team" "I" ∈ GW := gw_t 96 (by decide +kernel) (by decide +kernel)
theorem q_99 : Cond.fieldLink "SkirmishGrid$Unit" 16 "SkirmishGrid$Unit" "kind" "I" ∈ GW := gw_t 99 (by decide +kernel) (by decide +kernel)
theorem q_103 : Cond.fieldLink "SkirmishGrid$Unit" 19 "SkirmishGrid$Unit" "firstCell" "I" ∈ GW := gw_t 103 (by decide +kernel) (by decide +kernel)
theorem q_106 : Cond.fieldLink "SkirmishGrid$Unit" 22 "SkirmishGrid$Unit" "cell" "I" ∈ GW := gw_t 106 (by decide +kernel) (by decide +kernel)
theorem q_109 : Cond.fieldLink "SkirmishGrid$Unit" 31 "SkirmishGrid$Unit" "health" "I" ∈ GW := gw_t 109 (by decide +kernel) (by decide +kernel)
theorem q_113 : Cond.fieldLink "SkirmishGrid$Unit" 37 "SkirmishGrid$Unit" "ammunition" "I" ∈ GW := gw_t 113 (by decide +kernel) (by decide +kernel)
theorem q_116 : Cond.fieldLink "SkirmishGrid$Unit" 43 "SkirmishGrid$Unit" "grenades" "I" ∈ GW := gw_t 116 (by decide +kernel) (by decide +kernel)
theorem q_119 : Cond.fieldLink "SkirmishGrid$Unit" 46 "SkirmishGrid$Unit" "roll" "I" ∈ GW := gw_t 119 (by decide +kernel) (by decide +kernel)
theorem q_122 : Cond.fieldLink "SkirmishGrid$Unit" 49 "SkirmishGrid$Unit" "stunned" "I" ∈ GW := gw_t 122 (by decide +kernel) (by decide +kernel)
theorem q_125 : Cond.fieldLink "SkirmishGrid$Unit" 52 "SkirmishGrid$Unit" "burning" "I" ∈ GW := gw_t 125 (by decide +kernel) (by decide +kernel)
theorem q_128 : Cond.fieldLink "SkirmishGrid$Unit" 55 "SkirmishGrid$Unit" "isGuarding" "Z" ∈ GW := gw_t 128 (by decide +kernel) (by decide +kernel)
theorem q_131 : Cond.fieldLink "SkirmishGrid$Unit" 59 "SkirmishGrid$Unit" "isWatching" "Z" ∈ GW := gw_t 131 (by decide +kernel) (by decide +kernel)
theorem dX0_init_0 : decode cX0_init 0 = .ok (.aload_n 0, 1) := by decide +kernel
theorem dX0_init_1 : decode cX0_init 1 = .ok (.invokespecial 3, 3) := by decide +kernel
theorem dX0_init_4 : decode cX0_init 4 = .ok (.aload_n 0, 1) := by decide +kernel
theorem dX0_init_5 : decode cX0_init 5 = .ok (.sipush 512, 3) := by decide +kernel
theorem dX0_init_8 : decode cX0_init 8 = .ok (.newarray .int, 2) := by decide +kernel
theorem dX0_init_10 : decode cX0_init 10 = .ok (.putfield 9, 3) := by decide +kernel
theorem dX0_init_13 : decode cX0_init 13 = .ok (.aload_n 0, 1) := by decide +kernel
theorem dX0_init_14 : decode cX0_init 14 = .ok (.sipush 512, 3) := by decide +kernel
theorem dX0_init_17 : decode cX0_init 17 = .ok (.newarray .int, 2) := by decide +kernel
theorem dX0_init_19 : decode cX0_init 19 = .ok (.putfield 15, 3) := by decide +kernel
theorem dX0_init_22 : decode cX0_init 22 = .ok (.return_, 1) := by decide +kernel
theorem dX0_add_0 : decode cX0_add 0 = .ok (.aload_n 0, 1) := by decide +kernel
theorem dX0_add_1 : decode cX0_add 1 = .ok (.getfield 18, 3) := by decide +kernel
theorem dX0_add_4 : decode cX0_add 4 = .ok (.sipush 512, 3) := by decide +kernel
theorem dX0_add_7 : decode cX0_add 7 = .ok (.if_icmp .ge 33, 3) := by decide +kernel
theorem dX0_add_10 : decode cX0_add 10 = .ok (.aload_n 0, 1) := by decide +kernel
theorem dX0_add_11 : decode cX0_add 11 = .ok (.getfield 9, 3) := by decide +kernel
theorem dX0_add_14 : decode cX0_add 14 = .ok (.aload_n 0, 1) := by decide +kernel
theorem dX0_add_15 : decode cX0_add 15 = .ok (.getfield 18, 3) := by decide +kernel
theorem dX0_add_18 : decode cX0_add 18 = .ok (.iload_n 1, 1) := by decide +kernel
theorem dX0_add_19 : decode cX0_add 19 = .ok (.iastore, 1) := by decide +kernel
theorem dX0_add_20 : decode cX0_add 20 = .ok (.aload_n 0, 1) := by decide +kernel
theorem dX0_add_21 : decode cX0_add 21 = .ok (.getfield 15, 3) := by decide +kernel
theorem dX0_add_24 : decode cX0_add 24 = .ok (.aload_n 0, 1) := by decide +kernel
theorem dX0_add_25 : decode cX0_add 25 = .ok (.getfield 18, 3) := by decide +kernel
theorem dX0_add_28 : decode cX0_add 28 = .ok (.iload_n 2, 1) := by decide +kernel
theorem dX0_add_29 : decode cX0_add 29 = .ok (.iastore, 1) := by decide +kernel
theorem dX0_add_30 : decode cX0_add 30 = .ok (.aload_n 0, 1) := by decide +kernel
theorem dX0_add_31 : decode cX0_add 31 = .ok (.dup, 1) := by decide +kernel
theorem dX0_add_32 : decode cX0_add 32 = .ok (.getfield 18, 3) := by decide +kernel
theorem dX0_add_35 : decode cX0_add 35 = .ok (.iconst 1, 1) := by decide +kernel
theorem dX0_add_36 : decode cX0_add 36 = .ok (.iadd, 1) := by decide +kernel
theorem dX0_add_37 : decode cX0_add 37 = .ok (.putfield 18, 3) := by decide +kernel
theorem dX0_add_40 : decode cX0_add 40 = .ok (.return_, 1) := by decide +kernel
theorem dX0_dropLast_0 : decode cX0_dropLast 0 = .ok (.aload_n 0, 1) := by decide +kernel
theorem dX0_dropLast_1 : decode cX0_dropLast 1 = .ok (.getfield 18, 3) := by decide +kernel
theorem dX0_dropLast_4 : decode cX0_dropLast 4 = .ok (.ifCond .le 13, 3) := by decide +kernel
theorem dX0_dropLast_7 : decode cX0_dropLast 7 = .ok (.aload_n 0, 1) := by decide +kernel
theorem dX0_dropLast_8 : decode cX0_dropLast 8 = .ok (.dup, 1) := by decide +kernel
theorem dX0_dropLast_9 : decode cX0_dropLast 9 = .ok (.getfield 18, 3) := by decide +kernel
theorem dX0_dropLast_12 : decode cX0_dropLast 12 = .ok (.iconst 1, 1) := by decide +kernel
theorem dX0_dropLast_13 : decode cX0_dropLast 13 = .ok (.isub, 1) := by decide +kernel
theorem dX0_dropLast_14 : decode cX0_dropLast 14 = .ok (.putfield 18, 3) := by decide +kernel
theorem dX0_dropLast_17 : decode cX0_dropLast 17 = .ok (.return_, 1) := by decide +kernel
theorem dX0_copyFrom_0 : decode cX0_copyFrom 0 = .ok (.aload_n 0, 1) := by decide +kernel
theorem dX0_copyFrom_1 : decode cX0_copyFrom 1 = .ok (.aload_n 1, 1) := by decide +kernel
theorem dX0_copyFrom_2 : decode cX0_copyFrom 2 = .ok (.getfield 18, 3) := by decide +kernel
theorem dX0_copyFrom_5 : decode cX0_copyFrom 5 = .ok (.putfield 18, 3) := by decide +kernel
theorem dX0_copyFrom_8 : decode cX0_copyFrom 8 = .ok (.aload_n 1, 1) := by decide +kernel
theorem dX0_copyFrom_9 : decode cX0_copyFrom 9 = .ok (.getfield 9, 3) := by decide +kernel
theorem dX0_copyFrom_12 : decode cX0_copyFrom 12 = .ok (.iconst 0, 1) := by decide +kernel
theorem dX0_copyFrom_13 : decode cX0_copyFrom 13 = .ok (.aload_n 0, 1) := by decide +kernel
theorem dX0_copyFrom_14 : decode cX0_copyFrom 14 = .ok (.getfield 9, 3) := by decide +kernel
theorem dX0_copyFrom_17 : decode cX0_copyFrom 17 = .ok (.iconst 0, 1) := by decide +kernel
theorem dX0_copyFrom_18 : decode cX0_copyFrom 18 = .ok (.aload_n 0, 1) := by decide +kernel
theorem dX0_copyFrom_19 : decode cX0_copyFrom 19 = .ok (.getfield 18, 3) := by decide +kernel
theorem dX0_copyFrom_22 : decode cX0_copyFrom 22 = .ok (.invokestatic 22, 3) := by decide +kernel
theorem dX0_copyFrom_25 : decode cX0_copyFrom 25 = .ok (.aload_n 1, 1) := by decide +kernel
theorem dX0_copyFrom_26 : decode cX0_copyFrom 26 = .ok (.getfield 15, 3) := by decide +kernel
theorem dX0_copyFrom_29 : decode cX0_copyFrom 29 = .ok (.iconst 0, 1) := by decide +kernel
theorem dX0_copyFrom_30 : decode cX0_copyFrom 30 = .ok (.aload_n 0, 1) := by decide +kernel
theorem dX0_copyFrom_31 : decode cX0_copyFrom 31 = .ok (.getfield 15, 3) := by decide +kernel
theorem dX0_copyFrom_34 : decode cX0_copyFrom 34 = .ok (.iconst 0, 1) := by decide +kernel
theorem dX0_copyFrom_35 : decode cX0_copyFrom 35 = .ok (.aload_n 0, 1) := by decide +kernel
theorem dX0_copyFrom_36 : decode cX0_copyFrom 36 = .ok (.getfield 18, 3) := by decide +kernel
theorem dX0_copyFrom_39 : decode cX0_copyFrom 39 = .ok (.invokestatic 22, 3) := by decide +kernel
theorem dX0_copyFrom_42 : decode cX0_copyFrom 42 = .ok (.return_, 1) := by decide +kernel
theorem dX1_init_0 : decode cX1_init 0 = .ok (.aload_n 0, 1) := by decide +kernel
theorem dX1_init_1 : decode cX1_init 1 = .ok (.invokespecial 3, 3) := by decide +kernel
theorem dX1_init_4 : decode cX1_init 4 = .ok (.aload_n 0, 1) := by decide +kernel
theorem dX1_init_5 : decode cX1_init 5 = .ok (.bipush 40, 2) := by decide +kernel
theorem dX1_init_7 : decode cX1_init 7 = .ok (.newarray .int, 2) := by decide +kernel
theorem dX1_init_9 : decode cX1_init 9 = .ok (.putfield 9, 3) := by decide +kernel
theorem dX1_init_12 : decode cX1_init 12 = .ok (.aload_n 0, 1) := by decide +kernel
theorem dX1_init_13 : decode cX1_init 13 = .ok (.bipush 40, 2) := by decide +kernel
theorem dX1_init_15 : decode cX1_init 15 = .ok (.newarray .int, 2) := by decide +kernel
theorem dX1_init_17 : decode cX1_init 17 = .ok (.putfield 15, 3) := by decide +kernel
theorem dX1_init_20 : decode cX1_init 20 = .ok (.aload_n 0, 1) := by decide +kernel
theorem dX1_init_21 : decode cX1_init 21 = .ok (.bipush 40, 2) := by decide +kernel
theorem dX1_init_23 : decode cX1_init 23 = .ok (.newarray .int, 2) := by decide +kernel
theorem dX1_init_25 : decode cX1_init 25 = .ok (.putfield 18, 3) := by decide +kernel
theorem dX1_init_28 : decode cX1_init 28 = .ok (.return_, 1) := by decide +kernel
theorem dX1_note_0 : decode cX1_note 0 = .ok (.aload_n 0, 1) := by decide +kernel
theorem dX1_note_1 : decode cX1_note 1 = .ok (.getfield 21, 3) := by decide +kernel
theorem dX1_note_4 : decode cX1_note 4 = .ok (.bipush 40, 2) := by decide +kernel
theorem dX1_note_6 : decode cX1_note 6 = .ok (.if_icmp .lt 60, 3) := by decide +kernel
theorem dX1_note_9 : decode cX1_note 9 = .ok (.aload_n 0, 1) := by decide +kernel
theorem dX1_note_10 : decode cX1_note 10 = .ok (.bipush 39, 2) := by decide +kernel
theorem dX1_note_12 : decode cX1_note 12 = .ok (.putfield 21, 3) := by decide +kernel
theorem dX1_note_15 : decode cX1_note 15 = .ok (.aload_n 0, 1) := by decide +kernel
theorem dX1_note_16 : decode cX1_note 16 = .ok (.getfield 9, 3) := by decide +kernel
theorem dX1_note_19 : decode cX1_note 19 = .ok (.iconst 1, 1) := by decide +kernel
theorem dX1_note_20 : decode cX1_note 20 = .ok (.aload_n 0, 1) := by decide +kernel
theorem dX1_note_21 : decode cX1_note 21 = .ok (.getfield 9, 3) := by decide +kernel
theorem dX1_note_24 : decode cX1_note 24 = .ok (.iconst 0, 1) := by decide +kernel
theorem dX1_note_25 : decode cX1_note 25 = .ok (.aload_n 0, 1) := by decide +kernel
theorem dX1_note_26 : decode cX1_note 26 = .ok (.getfield 21, 3) := by decide +kernel
theorem dX1_note_29 : decode cX1_note 29 = .ok (.invokestatic 25, 3) := by decide +kernel
theorem dX1_note_32 : decode cX1_note 32 = .ok (.aload_n 0, 1) := by decide +kernel
theorem dX1_note_33 : decode cX1_note 33 = .ok (.getfield 15, 3) := by decide +kernel
theorem dX1_note_36 : decode cX1_note 36 = .ok (.iconst 1, 1) := by decide +kernel
theorem dX1_note_37 : decode cX1_note 37 = .ok (.aload_n 0, 1) := by decide +kernel
theorem dX1_note_38 : decode cX1_note 38 = .ok (.getfield 15, 3) := by decide +kernel
theorem dX1_note_41 : decode cX1_note 41 = .ok (.iconst 0, 1) := by decide +kernel
theorem dX1_note_42 : decode cX1_note 42 = .ok (.aload_n 0, 1) := by decide +kernel
theorem dX1_note_43 : decode cX1_note 43 = .ok (.getfield 21, 3) := by decide +kernel
theorem dX1_note_46 : decode cX1_note 46 = .ok (.invokestatic 25, 3) := by decide +kernel
theorem dX1_note_49 : decode cX1_note 49 = .ok (.aload_n 0, 1) := by decide +kernel
theorem dX1_note_50 : decode cX1_note 50 = .ok (.getfield 18, 3) := by decide +kernel
theorem dX1_note_53 : decode cX1_note 53 = .ok (.iconst 1, 1) := by decide +kernel
theorem dX1_note_54 : decode cX1_note 54 = .ok (.aload_n 0, 1) := by decide +kernel
theorem dX1_note_55 : decode cX1_note 55 = .ok (.getfield 18, 3) := by decide +kernel
theorem dX1_note_58 : decode cX1_note 58 = .ok (.iconst 0, 1) := by decide +kernel
theorem dX1_note_59 : decode cX1_note 59 = .ok (.aload_n 0, 1) := by decide +kernel
theorem dX1_note_60 : decode cX1_note 60 = .ok (.getfield 21, 3) := by decide +kernel
theorem dX1_note_63 : decode cX1_note 63 = .ok (.invokestatic 25, 3) := by decide +kernel
theorem dX1_note_66 : decode cX1_note 66 = .ok (.aload_n 0, 1) := by decide +kernel
theorem dX1_note_67 : decode cX1_note 67 = .ok (.getfield 9, 3) := by decide +kernel
theorem dX1_note_70 : decode cX1_note 70 = .ok (.aload_n 0, 1) := by decide +kernel
theorem dX1_note_71 : decode cX1_note 71 = .ok (.getfield 21, 3) := by decide +kernel
theorem dX1_note_74 : decode cX1_note 74 = .ok (.iload_n 1, 1) := by decide +kernel
theorem dX1_note_75 : decode cX1_note 75 = .ok (.iastore, 1) := by decide +kernel
theorem dX1_note_76 : decode cX1_note 76 = .ok (.aload_n 0, 1) := by decide +kernel
theorem dX1_note_77 : decode cX1_note 77 = .ok (.getfield 15, 3) := by decide +kernel
theorem dX1_note_80 : decode cX1_note 80 = .ok (.aload_n 0, 1) := by decide +kernel
theorem dX1_note_81 : decode cX1_note 81 = .ok (.getfield 21, 3) := by decide +kernel
theorem dX1_note_84 : decode cX1_note 84 = .ok (.iload_n 2, 1) := by decide +kernel
theorem dX1_note_85 : decode cX1_note 85 = .ok (.iastore, 1) := by decide +kernel
theorem dX1_note_86 : decode cX1_note 86 = .ok (.aload_n 0, 1) := by decide +kernel
theorem dX1_note_87 : decode cX1_note 87 = .ok (.getfield 18, 3) := by decide +kernel
theorem dX1_note_90 : decode cX1_note 90 = .ok (.aload_n 0, 1) := by decide +kernel
theorem dX1_note_91 : decode cX1_note 91 = .ok (.getfield 21, 3) := by decide +kernel
theorem dX1_note_94 : decode cX1_note 94 = .ok (.iload_n 3, 1) := by decide +kernel
theorem dX1_note_95 : decode cX1_note 95 = .ok (.iastore, 1) := by decide +kernel
theorem dX1_note_96 : decode cX1_note 96 = .ok (.aload_n 0, 1) := by decide +kernel
theorem dX1_note_97 : decode cX1_note 97 = .ok (.dup, 1) := by decide +kernel
theorem dX1_note_98 : decode cX1_note 98 = .ok (.getfield 21, 3) := by decide +kernel
theorem dX1_note_101 : decode cX1_note 101 = .ok (.iconst 1, 1) := by decide +kernel
theorem dX1_note_102 : decode cX1_note 102 = .ok (.iadd, 1) := by decide +kernel
theorem dX1_note_103 : decode cX1_note 103 = .ok (.putfield 21, 3) := by decide +kernel
theorem dX1_note_106 : decode cX1_note 106 = .ok (.return_, 1) := by decide +kernel
theorem dX1_valueAt_0 : decode cX1_valueAt 0 = .ok (.iload_n 2, 1) := by decide +kernel
theorem dX1_valueAt_1 : decode cX1_valueAt 1 = .ok (.lookupswitch 41 #[(0, 27), (1, 34)], 27) := by decide +kernel
theorem dX1_valueAt_28 : decode cX1_valueAt 28 = .ok (.aload_n 0, 1) := by decide +kernel
theorem dX1_valueAt_29 : decode cX1_valueAt 29 = .ok (.getfield 9, 3) := by decide +kernel
theorem dX1_valueAt_32 : decode cX1_valueAt 32 = .ok (.iload_n 1, 1) := by decide +kernel
theorem dX1_valueAt_33 : decode cX1_valueAt 33 = .ok (.iaload, 1) := by decide +kernel
theorem dX1_valueAt_34 : decode cX1_valueAt 34 = .ok (.ireturn, 1) := by decide +kernel
theorem dX1_valueAt_35 : decode cX1_valueAt 35 = .ok (.aload_n 0, 1) := by decide +kernel
theorem dX1_valueAt_36 : decode cX1_valueAt 36 = .ok (.getfield 15, 3) := by decide +kernel
theorem dX1_valueAt_39 : decode cX1_valueAt 39 = .ok (.iload_n 1, 1) := by decide +kernel
theorem dX1_valueAt_40 : decode cX1_valueAt 40 = .ok (.iaload, 1) := by decide +kernel
theorem dX1_valueAt_41 : decode cX1_valueAt 41 = .ok (.ireturn, 1) := by decide +kernel
theorem dX1_valueAt_42 : decode cX1_valueAt 42 = .ok (.aload_n 0, 1) := by decide +kernel
theorem dX1_valueAt_43 : decode cX1_valueAt 43 = .ok (.getfield 18, 3) := by decide +kernel
theorem dX1_valueAt_46 : decode cX1_valueAt 46 = .ok (.iload_n 1, 1) := by decide +kernel
theorem dX1_valueAt_47 : decode cX1_valueAt 47 = .ok (.iaload, 1) := by decide +kernel
theorem dX1_valueAt_48 : decode cX1_valueAt 48 = .ok (.ireturn, 1) := by decide +kernel
theorem dX1_copyFrom_0 : decode cX1_copyFrom 0 = .ok (.aload_n 0, 1) := by decide +kernel
theorem dX1_copyFrom_1 : decode cX1_copyFrom 1 = .ok (.aload_n 1, 1) := by decide +kernel
theorem dX1_copyFrom_2 : decode cX1_copyFrom 2 = .ok (.getfield 21, 3) := by decide +kernel
theorem dX1_copyFrom_5 : decode cX1_copyFrom 5 = .ok (.putfield 21, 3) := by decide +kernel
theorem dX1_copyFrom_8 : decode cX1_copyFrom 8 = .ok (.aload_n 1, 1) := by decide +kernel
theorem dX1_copyFrom_9 : decode cX1_copyFrom 9 = .ok (.getfield 9, 3) := by decide +kernel
theorem dX1_copyFrom_12 : decode cX1_copyFrom 12 = .ok (.iconst 0, 1) := by decide +kernel
theorem dX1_copyFrom_13 : decode cX1_copyFrom 13 = .ok (.aload_n 0, 1) := by decide +kernel
theorem dX1_copyFrom_14 : decode cX1_copyFrom 14 = .ok (.getfield 9, 3) := by decide +kernel
theorem dX1_copyFrom_17 : decode cX1_copyFrom 17 = .ok (.iconst 0, 1) := by decide +kernel
theorem dX1_copyFrom_18 : decode cX1_copyFrom 18 = .ok (.aload_n 0, 1) := by decide +kernel
theorem dX1_copyFrom_19 : decode cX1_copyFrom 19 = .ok (.getfield 21, 3) := by decide +kernel
theorem dX1_copyFrom_22 : decode cX1_copyFrom 22 = .ok (.invokestatic 25, 3) := by decide +kernel
theorem dX1_copyFrom_25 : decode cX1_copyFrom 25 = .ok (.aload_n 1, 1) := by decide +kernel
theorem dX1_copyFrom_26 : decode cX1_copyFrom 26 = .ok (.getfield 15, 3) := by decide +kernel
theorem dX1_copyFrom_29 : decode cX1_copyFrom 29 = .ok (.iconst 0, 1) := by decide +kernel
theorem dX1_copyFrom_30 : decode cX1_copyFrom 30 = .ok (.aload_n 0, 1) := by decide +kernel
theorem dX1_copyFrom_31 : decode cX1_copyFrom 31 = .ok (.getfield 15, 3) := by decide +kernel
theorem dX1_copyFrom_34 : decode cX1_copyFrom 34 = .ok (.iconst 0, 1) := by decide +kernel
theorem dX1_copyFrom_35 : decode cX1_copyFrom 35 = .ok (.aload_n 0, 1) := by decide +kernel
theorem dX1_copyFrom_36 : decode cX1_copyFrom 36 = .ok (.getfield 21, 3) := by decide +kernel
theorem dX1_copyFrom_39 : decode cX1_copyFrom 39 = .ok (.invokestatic 25, 3) := by decide +kernel
theorem dX1_copyFrom_42 : decode cX1_copyFrom 42 = .ok (.aload_n 1, 1) := by decide +kernel
theorem dX1_copyFrom_43 : decode cX1_copyFrom 43 = .ok (.getfield 18, 3) := by decide +kernel
theorem dX1_copyFrom_46 : decode cX1_copyFrom 46 = .ok (.iconst 0, 1) := by decide +kernel
theorem dX1_copyFrom_47 : decode cX1_copyFrom 47 = .ok (.aload_n 0, 1) := by decide +kernel
theorem dX1_copyFrom_48 : decode cX1_copyFrom 48 = .ok (.getfield 18, 3) := by decide +kernel
theorem dX1_copyFrom_51 : decode cX1_copyFrom 51 = .ok (.iconst 0, 1) := by decide +kernel
theorem dX1_copyFrom_52 : decode cX1_copyFrom 52 = .ok (.aload_n 0, 1) := by decide +kernel
theorem dX1_copyFrom_53 : decode cX1_copyFrom 53 = .ok (.getfield 21, 3) := by decide +kernel
theorem dX1_copyFrom_56 : decode cX1_copyFrom 56 = .ok (.invokestatic 25, 3) := by decide +kernel
theorem dX1_copyFrom_59 : decode cX1_copyFrom 59 = .ok (.return_, 1) := by decide +kernel
theorem dX1_isSameAs_0 : decode cX1_isSameAs 0 = .ok (.aload_n 0, 1) := by decide +kernel
theorem dX1_isSameAs_1 : decode cX1_isSameAs 1 = .ok (.getfield 21, 3) := by decide +kernel
theorem dX1_isSameAs_4 : decode cX1_isSameAs 4 = .ok (.aload_n 1, 1) := by decide +kernel
theorem dX1_isSameAs_5 : decode cX1_isSameAs 5 = .ok (.getfield 21, 3) := by decide +kernel
theorem dX1_isSameAs_8 : decode cX1_isSameAs 8 = .ok (.if_icmp .eq 5, 3) := by decide +kernel
theorem dX1_isSameAs_11 : decode cX1_isSameAs 11 = .ok (.iconst 0, 1) := by decide +kernel
theorem dX1_isSameAs_12 : decode cX1_isSameAs 12 = .ok (.ireturn, 1) := by decide +kernel
theorem dX1_isSameAs_13 : decode cX1_isSameAs 13 = .ok (.iconst 0, 1) := by decide +kernel
theorem dX1_isSameAs_14 : decode cX1_isSameAs 14 = .ok (.istore_n 2, 1) := by decide +kernel
theorem dX1_isSameAs_15 : decode cX1_isSameAs 15 = .ok (.iload_n 2, 1) := by decide +kernel
theorem dX1_isSameAs_16 : decode cX1_isSameAs 16 = .ok (.aload_n 0, 1) := by decide +kernel
theorem dX1_isSameAs_17 : decode cX1_isSameAs 17 = .ok (.getfield 21, 3) := by decide +kernel
theorem dX1_isSameAs_20 : decode cX1_isSameAs 20 = .ok (.if_icmp .ge 56, 3) := by decide +kernel
theorem dX1_isSameAs_23 : decode cX1_isSameAs 23 = .ok (.aload_n 0, 1) := by decide +kernel
theorem dX1_isSameAs_24 : decode cX1_isSameAs 24 = .ok (.getfield 9, 3) := by decide +kernel
theorem dX1_isSameAs_27 : decode cX1_isSameAs 27 = .ok (.iload_n 2, 1) := by decide +kernel
theorem dX1_isSameAs_28 : decode cX1_isSameAs 28 = .ok (.iaload, 1) := by decide +kernel
theorem dX1_isSameAs_29 : decode cX1_isSameAs 29 = .ok (.aload_n 1, 1) := by decide +kernel
theorem dX1_isSameAs_30 : decode cX1_isSameAs 30 = .ok (.getfield 9, 3) := by decide +kernel
theorem dX1_isSameAs_33 : decode cX1_isSameAs 33 = .ok (.iload_n 2, 1) := by decide +kernel
theorem dX1_isSameAs_34 : decode cX1_isSameAs 34 = .ok (.iaload, 1) := by decide +kernel
theorem dX1_isSameAs_35 : decode cX1_isSameAs 35 = .ok (.if_icmp .ne 33, 3) := by decide +kernel
theorem dX1_isSameAs_38 : decode cX1_isSameAs 38 = .ok (.aload_n 0, 1) := by decide +kernel
theorem dX1_isSameAs_39 : decode cX1_isSameAs 39 = .ok (.getfield 15, 3) := by decide +kernel
theorem dX1_isSameAs_42 : decode cX1_isSameAs 42 = .ok (.iload_n 2, 1) := by decide +kernel
theorem dX1_isSameAs_43 : decode cX1_isSameAs 43 = .ok (.iaload, 1) := by decide +kernel
theorem dX1_isSameAs_44 : decode cX1_isSameAs 44 = .ok (.aload_n 1, 1) := by decide +kernel
theorem dX1_isSameAs_45 : decode cX1_isSameAs 45 = .ok (.getfield 15, 3) := by decide +kernel
theorem dX1_isSameAs_48 : decode cX1_isSameAs 48 = .ok (.iload_n 2, 1) := by decide +kernel
theorem dX1_isSameAs_49 : decode cX1_isSameAs 49 = .ok (.iaload, 1) := by decide +kernel
theorem dX1_isSameAs_50 : decode cX1_isSameAs 50 = .ok (.if_icmp .ne 18, 3) := by decide +kernel
theorem dX1_isSameAs_53 : decode cX1_isSameAs 53 = .ok (.aload_n 0, 1) := by decide +kernel
theorem dX1_isSameAs_54 : decode cX1_isSameAs 54 = .ok (.getfield 18, 3) := by decide +kernel
theorem dX1_isSameAs_57 : decode cX1_isSameAs 57 = .ok (.iload_n 2, 1) := by decide +kernel
theorem dX1_isSameAs_58 : decode cX1_isSameAs 58 = .ok (.iaload, 1) := by decide +kernel
theorem dX1_isSameAs_59 : decode cX1_isSameAs 59 = .ok (.aload_n 1, 1) := by decide +kernel
theorem dX1_isSameAs_60 : decode cX1_isSameAs 60 = .ok (.getfield 18, 3) := by decide +kernel
theorem dX1_isSameAs_63 : decode cX1_isSameAs 63 = .ok (.iload_n 2, 1) := by decide +kernel
theorem dX1_isSameAs_64 : decode cX1_isSameAs 64 = .ok (.iaload, 1) := by decide +kernel
theorem dX1_isSameAs_65 : decode cX1_isSameAs 65 = .ok (.if_icmp .eq 5, 3) := by decide +kernel
theorem dX1_isSameAs_68 : decode cX1_isSameAs 68 = .ok (.iconst 0, 1) := by decide +kernel
theorem dX1_isSameAs_69 : decode cX1_isSameAs 69 = .ok (.ireturn, 1) := by decide +kernel
theorem dX1_isSameAs_70 : decode cX1_isSameAs 70 = .ok (.iinc 2 1, 3) := by decide +kernel
theorem dX1_isSameAs_73 : decode cX1_isSameAs 73 = .ok (.goto (-58), 3) := by decide +kernel
theorem dX1_isSameAs_76 : decode cX1_isSameAs 76 = .ok (.iconst 1, 1) := by decide +kernel
theorem dX1_isSameAs_77 : decode cX1_isSameAs 77 = .ok (.ireturn, 1) := by decide +kernel
theorem dX7_init_0 : decode cX7_init 0 = .ok (.aload_n 0, 1) := by decide +kernel
theorem dX7_init_1 : decode cX7_init 1 = .ok (.invokespecial 1, 3) := by decide +kernel
theorem dX7_init_4 : decode cX7_init 4 = .ok (.aload_n 0, 1) := by decide +kernel
theorem dX7_init_5 : decode cX7_init 5 = .ok (.iload_n 1, 1) := by decide +kernel
theorem dX7_init_6 : decode cX7_init 6 = .ok (.putfield 7, 3) := by decide +kernel
theorem dX7_init_9 : decode cX7_init 9 = .ok (.return_, 1) := by decide +kernel
theorem dX7_enter_0 : decode cX7_enter 0 = .ok (.aload_n 0, 1) := by decide +kernel
theorem dX7_enter_1 : decode cX7_enter 1 = .ok (.iload_n 1, 1) := by decide +kernel
theorem dX7_enter_2 : decode cX7_enter 2 = .ok (.putfield 13, 3) := by decide +kernel
theorem dX7_enter_5 : decode cX7_enter 5 = .ok (.aload_n 0, 1) := by decide +kernel
theorem dX7_enter_6 : decode cX7_enter 6 = .ok (.iload_n 2, 1) := by decide +kernel
theorem dX7_enter_7 : decode cX7_enter 7 = .ok (.putfield 16, 3) := by decide +kernel
theorem dX7_enter_10 : decode cX7_enter 10 = .ok (.aload_n 0, 1) := by decide +kernel
theorem dX7_enter_11 : decode cX7_enter 11 = .ok (.iload_n 3, 1) := by decide +kernel
theorem dX7_enter_12 : decode cX7_enter 12 = .ok (.putfield 19, 3) := by decide +kernel
theorem dX7_enter_15 : decode cX7_enter 15 = .ok (.aload_n 0, 1) := by decide +kernel
theorem dX7_enter_16 : decode cX7_enter 16 = .ok (.iload_n 3, 1) := by decide +kernel
theorem dX7_enter_17 : decode cX7_enter 17 = .ok (.putfield 22, 3) := by decide +kernel
theorem dX7_enter_20 : decode cX7_enter 20 = .ok (.aload_n 0, 1) := by decide +kernel
theorem dX7_enter_21 : decode cX7_enter 21 = .ok (.getstatic 25, 3) := by decide +kernel
theorem dX7_enter_24 : decode cX7_enter 24 = .ok (.iload_n 2, 1) := by decide +kernel
theorem dX7_enter_25 : decode cX7_enter 25 = .ok (.iaload, 1) := by decide +kernel
theorem dX7_enter_26 : decode cX7_enter 26 = .ok (.putfield 31, 3) := by decide +kernel
theorem dX7_enter_29 : decode cX7_enter 29 = .ok (.aload_n 0, 1) := by decide +kernel
theorem dX7_enter_30 : decode cX7_enter 30 = .ok (.getstatic 34, 3) := by decide +kernel
theorem dX7_enter_33 : decode cX7_enter 33 = .ok (.iload_n 2, 1) := by decide +kernel
theorem dX7_enter_34 : decode cX7_enter 34 = .ok (.iaload, 1) := by decide +kernel
theorem dX7_enter_35 : decode cX7_enter 35 = .ok (.putfield 37, 3) := by decide +kernel
theorem dX7_enter_38 : decode cX7_enter 38 = .ok (.aload_n 0, 1) := by decide +kernel
theorem dX7_enter_39 : decode cX7_enter 39 = .ok (.getstatic 40, 3) := by decide +kernel
theorem dX7_enter_42 : decode cX7_enter 42 = .ok (.iload_n 2, 1) := by decide +kernel
theorem dX7_enter_43 : decode cX7_enter 43 = .ok (.iaload, 1) := by decide +kernel
theorem dX7_enter_44 : decode cX7_enter 44 = .ok (.putfield 43, 3) := by decide +kernel
theorem dX7_enter_47 : decode cX7_enter 47 = .ok (.aload_n 0, 1) := by decide +kernel
theorem dX7_enter_48 : decode cX7_enter 48 = .ok (.iconst 0, 1) := by decide +kernel
theorem dX7_enter_49 : decode cX7_enter 49 = .ok (.putfield 46, 3) := by decide +kernel
theorem dX7_enter_52 : decode cX7_enter 52 = .ok (.aload_n 0, 1) := by decide +kernel
theorem dX7_enter_53 : decode cX7_enter 53 = .ok (.iconst 0, 1) := by decide +kernel
theorem dX7_enter_54 : decode cX7_enter 54 = .ok (.putfield 49, 3) := by decide +kernel
theorem dX7_enter_57 : decode cX7_enter 57 = .ok (.aload_n 0, 1) := by decide +kernel
theorem dX7_enter_58 : decode cX7_enter 58 = .ok (.iconst 0, 1) := by decide +kernel
theorem dX7_enter_59 : decode cX7_enter 59 = .ok (.putfield 52, 3) := by decide +kernel
theorem dX7_enter_62 : decode cX7_enter 62 = .ok (.aload_n 0, 1) := by decide +kernel
theorem dX7_enter_63 : decode cX7_enter 63 = .ok (.iconst 0, 1) := by decide +kernel
theorem dX7_enter_64 : decode cX7_enter 64 = .ok (.putfield 55, 3) := by decide +kernel
theorem dX7_enter_67 : decode cX7_enter 67 = .ok (.aload_n 0, 1) := by decide +kernel
theorem dX7_enter_68 : decode cX7_enter 68 = .ok (.iconst 0, 1) := by decide +kernel
theorem dX7_enter_69 : decode cX7_enter 69 = .ok (.putfield 59, 3) := by decide +kernel
theorem dX7_enter_72 : decode cX7_enter 72 = .ok (.return_, 1) := by decide +kernel
theorem dX7_lives_0 : decode cX7_lives 0 = .ok (.aload_n 0, 1) := by decide +kernel
theorem dX7_lives_1 : decode cX7_lives 1 = .ok (.getfield 31, 3) := by decide +kernel
theorem dX7_lives_4 : decode cX7_lives 4 = .ok (.ifCond .le 7, 3) := by decide +kernel
theorem dX7_lives_7 : decode cX7_lives 7 = .ok (.iconst 1, 1) := by decide +kernel
theorem dX7_lives_8 : decode cX7_lives 8 = .ok (.goto 4, 3) := by decide +kernel
theorem dX7_lives_11 : decode cX7_lives 11 = .ok (.iconst 0, 1) := by decide +kernel
theorem dX7_lives_12 : decode cX7_lives 12 = .ok (.ireturn, 1) := by decide +kernel
theorem dX7_lose_0 : decode cX7_lose 0 = .ok (.aload_n 0, 1) := by decide +kernel
theorem dX7_lose_1 : decode cX7_lose 1 = .ok (.iload_n 1, 1) := by decide +kernel
theorem dX7_lose_2 : decode cX7_lose 2 = .ok (.aload_n 0, 1) := by decide +kernel
theorem dX7_lose_3 : decode cX7_lose 3 = .ok (.getfield 31, 3) := by decide +kernel
theorem dX7_lose_6 : decode cX7_lose 6 = .ok (.if_icmp .ge 12, 3) := by decide +kernel
theorem dX7_lose_9 : decode cX7_lose 9 = .ok (.aload_n 0, 1) := by decide +kernel
theorem dX7_lose_10 : decode cX7_lose 10 = .ok (.getfield 31, 3) := by decide +kernel
theorem dX7_lose_13 : decode cX7_lose 13 = .ok (.iload_n 1, 1) := by decide +kernel
theorem dX7_lose_14 : decode cX7_lose 14 = .ok (.isub, 1) := by decide +kernel
theorem dX7_lose_15 : decode cX7_lose 15 = .ok (.goto 4, 3) := by decide +kernel
theorem dX7_lose_18 : decode cX7_lose 18 = .ok (.iconst 0, 1) := by decide +kernel
theorem dX7_lose_19 : decode cX7_lose 19 = .ok (.putfield 31, 3) := by decide +kernel
theorem dX7_lose_22 : decode cX7_lose 22 = .ok (.return_, 1) := by decide +kernel
theorem dX7_shortenStatuses_0 : decode cX7_shortenStatuses 0 = .ok (.aload_n 0, 1) := by decide +kernel
theorem dX7_shortenStatuses_1 : decode cX7_shortenStatuses 1 = .ok (.aload_n 0, 1) := by decide +kernel
theorem dX7_shortenStatuses_2 : decode cX7_shortenStatuses 2 = .ok (.getfield 49, 3) := by decide +kernel
theorem dX7_shortenStatuses_5 : decode cX7_shortenStatuses 5 = .ok (.ifCond .le 12, 3) := by decide +kernel
theorem dX7_shortenStatuses_8 : decode cX7_shortenStatuses 8 = .ok (.aload_n 0, 1) := by decide +kernel
theorem dX7_shortenStatuses_9 : decode cX7_shortenStatuses 9 = .ok (.getfield 49, 3) := by decide +kernel
theorem dX7_shortenStatuses_12 : decode cX7_shortenStatuses 12 = .ok (.iconst 1, 1) := by decide +kernel
theorem dX7_shortenStatuses_13 : decode cX7_shortenStatuses 13 = .ok (.isub, 1) := by decide +kernel
theorem dX7_shortenStatuses_14 : decode cX7_shortenStatuses 14 = .ok (.goto 4, 3) := by decide +kernel
theorem dX7_shortenStatuses_17 : decode cX7_shortenStatuses 17 = .ok (.iconst 0, 1) := by decide +kernel
theorem dX7_shortenStatuses_18 : decode cX7_shortenStatuses 18 = .ok (.putfield 49, 3) := by decide +kernel
theorem dX7_shortenStatuses_21 : decode cX7_shortenStatuses 21 = .ok (.aload_n 0, 1) := by decide +kernel
theorem dX7_shortenStatuses_22 : decode cX7_shortenStatuses 22 = .ok (.aload_n 0, 1) := by decide +kernel
theorem dX7_shortenStatuses_23 : decode cX7_shortenStatuses 23 = .ok (.getfield 52, 3) := by decide +kernel
theorem dX7_shortenStatuses_26 : decode cX7_shortenStatuses 26 = .ok (.ifCond .le 12, 3) := by decide +kernel
theorem dX7_shortenStatuses_29 : decode cX7_shortenStatuses 29 = .ok (.aload_n 0, 1) := by decide +kernel
theorem dX7_shortenStatuses_30 : decode cX7_shortenStatuses 30 = .ok (.getfield 52, 3) := by decide +kernel
theorem dX7_shortenStatuses_33 : decode cX7_shortenStatuses 33 = .ok (.iconst 1, 1) := by decide +kernel
theorem dX7_shortenStatuses_34 : decode cX7_shortenStatuses 34 = .ok (.isub, 1) := by decide +kernel
theorem dX7_shortenStatuses_35 : decode cX7_shortenStatuses 35 = .ok (.goto 4, 3) := by decide +kernel
theorem dX7_shortenStatuses_38 : decode cX7_shortenStatuses 38 = .ok (.iconst 0, 1) := by decide +kernel
theorem dX7_shortenStatuses_39 : decode cX7_shortenStatuses 39 = .ok (.putfield 52, 3) := by decide +kernel
theorem dX7_shortenStatuses_42 : decode cX7_shortenStatuses 42 = .ok (.return_, 1) := by decide +kernel
theorem dX7_copyFrom_0 : decode cX7_copyFrom 0 = .ok (.aload_n 0, 1) := by decide +kernel
theorem dX7_copyFrom_1 : decode cX7_copyFrom 1 = .ok (.aload_n 1, 1) := by decide +kernel
theorem dX7_copyFrom_2 : decode cX7_copyFrom 2 = .ok (.getfield 13, 3) := by decide +kernel
theorem dX7_copyFrom_5 : decode cX7_copyFrom 5 = .ok (.putfield 13, 3) := by decide +kernel
theorem dX7_copyFrom_8 : decode cX7_copyFrom 8 = .ok (.aload_n 0, 1) := by decide +kernel
theorem dX7_copyFrom_9 : decode cX7_copyFrom 9 = .ok (.aload_n 1, 1) := by decide +kernel
theorem dX7_copyFrom_10 : decode cX7_copyFrom 10 = .ok (.getfield 16, 3) := by decide +kernel
theorem dX7_copyFrom_13 : decode cX7_copyFrom 13 = .ok (.putfield 16, 3) := by decide +kernel
theorem dX7_copyFrom_16 : decode cX7_copyFrom 16 = .ok (.aload_n 0, 1) := by decide +kernel
theorem dX7_copyFrom_17 : decode cX7_copyFrom 17 = .ok (.aload_n 1, 1) := by decide +kernel
theorem dX7_copyFrom_18 : decode cX7_copyFrom 18 = .ok (.getfield 19, 3) := by decide +kernel
theorem dX7_copyFrom_21 : decode cX7_copyFrom 21 = .ok (.putfield 19, 3) := by decide +kernel
theorem dX7_copyFrom_24 : decode cX7_copyFrom 24 = .ok (.aload_n 0, 1) := by decide +kernel
theorem dX7_copyFrom_25 : decode cX7_copyFrom 25 = .ok (.aload_n 1, 1) := by decide +kernel
theorem dX7_copyFrom_26 : decode cX7_copyFrom 26 = .ok (.getfield 22, 3) := by decide +kernel
theorem dX7_copyFrom_29 : decode cX7_copyFrom 29 = .ok (.putfield 22, 3) := by decide +kernel
theorem dX7_copyFrom_32 : decode cX7_copyFrom 32 = .ok (.aload_n 0, 1) := by decide +kernel
theorem dX7_copyFrom_33 : decode cX7_copyFrom 33 = .ok (.aload_n 1, 1) := by decide +kernel
theorem dX7_copyFrom_34 : decode cX7_copyFrom 34 = .ok (.getfield 31, 3) := by decide +kernel
theorem dX7_copyFrom_37 : decode cX7_copyFrom 37 = .ok (.putfield 31, 3) := by decide +kernel
theorem dX7_copyFrom_40 : decode cX7_copyFrom 40 = .ok (.aload_n 0, 1) := by decide +kernel
theorem dX7_copyFrom_41 : decode cX7_copyFrom 41 = .ok (.aload_n 1, 1) := by decide +kernel
theorem dX7_copyFrom_42 : decode cX7_copyFrom 42 = .ok (.getfield 37, 3) := by decide +kernel
theorem dX7_copyFrom_45 : decode cX7_copyFrom 45 = .ok (.putfield 37, 3) := by decide +kernel
theorem dX7_copyFrom_48 : decode cX7_copyFrom 48 = .ok (.aload_n 0, 1) := by decide +kernel
theorem dX7_copyFrom_49 : decode cX7_copyFrom 49 = .ok (.aload_n 1, 1) := by decide +kernel
theorem dX7_copyFrom_50 : decode cX7_copyFrom 50 = .ok (.getfield 43, 3) := by decide +kernel
theorem dX7_copyFrom_53 : decode cX7_copyFrom 53 = .ok (.putfield 43, 3) := by decide +kernel
theorem dX7_copyFrom_56 : decode cX7_copyFrom 56 = .ok (.aload_n 0, 1) := by decide +kernel
theorem dX7_copyFrom_57 : decode cX7_copyFrom 57 = .ok (.aload_n 1, 1) := by decide +kernel
theorem dX7_copyFrom_58 : decode cX7_copyFrom 58 = .ok (.getfield 46, 3) := by decide +kernel
theorem dX7_copyFrom_61 : decode cX7_copyFrom 61 = .ok (.putfield 46, 3) := by decide +kernel
theorem dX7_copyFrom_64 : decode cX7_copyFrom 64 = .ok (.aload_n 0, 1) := by decide +kernel
theorem dX7_copyFrom_65 : decode cX7_copyFrom 65 = .ok (.aload_n 1, 1) := by decide +kernel
theorem dX7_copyFrom_66 : decode cX7_copyFrom 66 = .ok (.getfield 49, 3) := by decide +kernel
theorem dX7_copyFrom_69 : decode cX7_copyFrom 69 = .ok (.putfield 49, 3) := by decide +kernel
theorem dX7_copyFrom_72 : decode cX7_copyFrom 72 = .ok (.aload_n 0, 1) := by decide +kernel
theorem dX7_copyFrom_73 : decode cX7_copyFrom 73 = .ok (.aload_n 1, 1) := by decide +kernel
theorem dX7_copyFrom_74 : decode cX7_copyFrom 74 = .ok (.getfield 52, 3) := by decide +kernel
theorem dX7_copyFrom_77 : decode cX7_copyFrom 77 = .ok (.putfield 52, 3) := by decide +kernel
theorem dX7_copyFrom_80 : decode cX7_copyFrom 80 = .ok (.aload_n 0, 1) := by decide +kernel
theorem dX7_copyFrom_81 : decode cX7_copyFrom 81 = .ok (.aload_n 1, 1) := by decide +kernel
theorem dX7_copyFrom_82 : decode cX7_copyFrom 82 = .ok (.getfield 55, 3) := by decide +kernel
theorem dX7_copyFrom_85 : decode cX7_copyFrom 85 = .ok (.putfield 55, 3) := by decide +kernel
theorem dX7_copyFrom_88 : decode cX7_copyFrom 88 = .ok (.aload_n 0, 1) := by decide +kernel
theorem dX7_copyFrom_89 : decode cX7_copyFrom 89 = .ok (.aload_n 1, 1) := by decide +kernel
theorem dX7_copyFrom_90 : decode cX7_copyFrom 90 = .ok (.getfield 59, 3) := by decide +kernel
theorem dX7_copyFrom_93 : decode cX7_copyFrom 93 = .ok (.putfield 59, 3) := by decide +kernel
theorem dX7_copyFrom_96 : decode cX7_copyFrom 96 = .ok (.return_, 1) := by decide +kernel
theorem dX7_isSameAs_0 : decode cX7_isSameAs 0 = .ok (.aload_n 0, 1) := by decide +kernel
theorem dX7_isSameAs_1 : decode cX7_isSameAs 1 = .ok (.getfield 13, 3) := by decide +kernel
theorem dX7_isSameAs_4 : decode cX7_isSameAs 4 = .ok (.aload_n 1, 1) := by decide +kernel
theorem dX7_isSameAs_5 : decode cX7_isSameAs 5 = .ok (.getfield 13, 3) := by decide +kernel
theorem dX7_isSameAs_8 : decode cX7_isSameAs 8 = .ok (.if_icmp .ne 117, 3) := by decide +kernel
theorem dX7_isSameAs_11 : decode cX7_isSameAs 11 = .ok (.aload_n 0, 1) := by decide +kernel
theorem dX7_isSameAs_12 : decode cX7_isSameAs 12 = .ok (.getfield 16, 3) := by decide +kernel
theorem dX7_isSameAs_15 : decode cX7_isSameAs 15 = .ok (.aload_n 1, 1) := by decide +kernel
theorem dX7_isSameAs_16 : decode cX7_isSameAs 16 = .ok (.getfield 16, 3) := by decide +kernel
theorem dX7_isSameAs_19 : decode cX7_isSameAs 19 = .ok (.if_icmp .ne 106, 3) := by decide +kernel
theorem dX7_isSameAs_22 : decode cX7_isSameAs 22 = .ok (.aload_n 0, 1) := by decide +kernel
theorem dX7_isSameAs_23 : decode cX7_isSameAs 23 = .ok (.getfield 22, 3) := by decide +kernel
theorem dX7_isSameAs_26 : decode cX7_isSameAs 26 = .ok (.aload_n 1, 1) := by decide +kernel
theorem dX7_isSameAs_27 : decode cX7_isSameAs 27 = .ok (.getfield 22, 3) := by decide +kernel
theorem dX7_isSameAs_30 : decode cX7_isSameAs 30 = .ok (.if_icmp .ne 95, 3) := by decide +kernel
theorem dX7_isSameAs_33 : decode cX7_isSameAs 33 = .ok (.aload_n 0, 1) := by decide +kernel
theorem dX7_isSameAs_34 : decode cX7_isSameAs 34 = .ok (.getfield 31, 3) := by decide +kernel
theorem dX7_isSameAs_37 : decode cX7_isSameAs 37 = .ok (.aload_n 1, 1) := by decide +kernel
theorem dX7_isSameAs_38 : decode cX7_isSameAs 38 = .ok (.getfield 31, 3) := by decide +kernel
theorem dX7_isSameAs_41 : decode cX7_isSameAs 41 = .ok (.if_icmp .ne 84, 3) := by decide +kernel
theorem dX7_isSameAs_44 : decode cX7_isSameAs 44 = .ok (.aload_n 0, 1) := by decide +kernel
theorem dX7_isSameAs_45 : decode cX7_isSameAs 45 = .ok (.getfield 37, 3) := by decide +kernel
theorem dX7_isSameAs_48 : decode cX7_isSameAs 48 = .ok (.aload_n 1, 1) := by decide +kernel
theorem dX7_isSameAs_49 : decode cX7_isSameAs 49 = .ok (.getfield 37, 3) := by decide +kernel
theorem dX7_isSameAs_52 : decode cX7_isSameAs 52 = .ok (.if_icmp .ne 73, 3) := by decide +kernel
theorem dX7_isSameAs_55 : decode cX7_isSameAs 55 = .ok (.aload_n 0, 1) := by decide +kernel
theorem dX7_isSameAs_56 : decode cX7_isSameAs 56 = .ok (.getfield 43, 3) := by decide +kernel
theorem dX7_isSameAs_59 : decode cX7_isSameAs 59 = .ok (.aload_n 1, 1) := by decide +kernel
theorem dX7_isSameAs_60 : decode cX7_isSameAs 60 = .ok (.getfield 43, 3) := by decide +kernel
theorem dX7_isSameAs_63 : decode cX7_isSameAs 63 = .ok (.if_icmp .ne 62, 3) := by decide +kernel
theorem dX7_isSameAs_66 : decode cX7_isSameAs 66 = .ok (.aload_n 0, 1) := by decide +kernel
theorem dX7_isSameAs_67 : decode cX7_isSameAs 67 = .ok (.getfield 46, 3) := by decide +kernel
theorem dX7_isSameAs_70 : decode cX7_isSameAs 70 = .ok (.aload_n 1, 1) := by decide +kernel
theorem dX7_isSameAs_71 : decode cX7_isSameAs 71 = .ok (.getfield 46, 3) := by decide +kernel
theorem dX7_isSameAs_74 : decode cX7_isSameAs 74 = .ok (.if_icmp .ne 51, 3) := by decide +kernel
theorem dX7_isSameAs_77 : decode cX7_isSameAs 77 = .ok (.aload_n 0, 1) := by decide +kernel
theorem dX7_isSameAs_78 : decode cX7_isSameAs 78 = .ok (.getfield 49, 3) := by decide +kernel
theorem dX7_isSameAs_81 : decode cX7_isSameAs 81 = .ok (.aload_n 1, 1) := by decide +kernel
theorem dX7_isSameAs_82 : decode cX7_isSameAs 82 = .ok (.getfield 49, 3) := by decide +kernel
theorem dX7_isSameAs_85 : decode cX7_isSameAs 85 = .ok (.if_icmp .ne 40, 3) := by decide +kernel
theorem dX7_isSameAs_88 : decode cX7_isSameAs 88 = .ok (.aload_n 0, 1) := by decide +kernel
theorem dX7_isSameAs_89 : decode cX7_isSameAs 89 = .ok (.getfield 52, 3) := by decide +kernel
theorem dX7_isSameAs_92 : decode cX7_isSameAs 92 = .ok (.aload_n 1, 1) := by decide +kernel
theorem dX7_isSameAs_93 : decode cX7_isSameAs 93 = .ok (.getfield 52, 3) := by decide +kernel
theorem dX7_isSameAs_96 : decode cX7_isSameAs 96 = .ok (.if_icmp .ne 29, 3) := by decide +kernel
theorem dX7_isSameAs_99 : decode cX7_isSameAs 99 = .ok (.aload_n 0, 1) := by decide +kernel
theorem dX7_isSameAs_100 : decode cX7_isSameAs 100 = .ok (.getfield 55, 3) := by decide +kernel
theorem dX7_isSameAs_103 : decode cX7_isSameAs 103 = .ok (.aload_n 1, 1) := by decide +kernel
theorem dX7_isSameAs_104 : decode cX7_isSameAs 104 = .ok (.getfield 55, 3) := by decide +kernel
theorem dX7_isSameAs_107 : decode cX7_isSameAs 107 = .ok (.if_icmp .ne 18, 3) := by decide +kernel
theorem dX7_isSameAs_110 : decode cX7_isSameAs 110 = .ok (.aload_n 0, 1) := by decide +kernel
theorem dX7_isSameAs_111 : decode cX7_isSameAs 111 = .ok (.getfield 59, 3) := by decide +kernel
theorem dX7_isSameAs_114 : decode cX7_isSameAs 114 = .ok (.aload_n 1, 1) := by decide +kernel
theorem dX7_isSameAs_115 : decode cX7_isSameAs 115 = .ok (.getfield 59, 3) := by decide +kernel
theorem dX7_isSameAs_118 : decode cX7_isSameAs 118 = .ok (.if_icmp .ne 7, 3) := by decide +kernel
theorem dX7_isSameAs_121 : decode cX7_isSameAs 121 = .ok (.iconst 1, 1) := by decide +kernel
theorem dX7_isSameAs_122 : decode cX7_isSameAs 122 = .ok (.goto 4, 3) := by decide +kernel
theorem dX7_isSameAs_125 : decode cX7_isSameAs 125 = .ok (.iconst 0, 1) := by decide +kernel
theorem dX7_isSameAs_126 : decode cX7_isSameAs 126 = .ok (.ireturn, 1) := by decide +kernel
abbrev rmX0_init : Room := { frames := 1, cells := 2, slots := 1024, locals := 40 }
def wX0_init_0 (Q : MS → Prop) (QX : String → MS → Prop) (S : MS) (a0 : Nat) : Prop := (∀ a1, a1 ∉ mL S → (∀ S2, S2 = (nw S a1 12 512) → (∀ S3, S3 = (sR S2 a0 0 (some a1)) → (∀ a4, a4 ∉ mL S3 → (∀ S5, S5 = (nw S3 a4 12 512) → (∀ S6, S6 = (sR S5 a0 1 (some a4)) → Q S6))))))
set_option maxHeartbeats 4000000 in
set_option maxRecDepth 100000 in
theorem tX0_init_0 {p : Program} {l : Launch} {e : Env} {s : State} {m : MethodId} {args : Array Value} {below : List Frame} {meth : Method} {c : Code} {H : Heap} {locs : List Loc} {cells slots : Nat} {G : GP} {A : Nat → Prop} {S0 : MS} {ls : Array Slot} (C : CF p l s m args meth c "SkirmishGrid$Commands" cX0_init 1 G A) (hr : meth.sig.returnType = none) (hin2 : meth.name = "<init>") (hex : ∀ x ∈ c.exceptionTable.toList, False) (Q : MS → Prop) (QX : String → MS → Prop) (S : MS) (a0 : Nat) (p_a0 : pI S 0 a0) (P : PW G A s H locs S0 S) (hl : lv_has ls 1 [(0, .ref a0)]) (hcc : cells + 2 ≤ 2) (hss : slots + 1024 ≤ 1024) (hw : wX0_init_0 Q QX S a0) : W p l e rmX0_init s m args below meth c H locs cells slots (vx_MQ below (QV G S0 A Q) (XX G S0 A QX) args s 2 1024 A) (F0 m 0 ls []) := by
  have hx := CF_x C
  have hb := CF_b C
  unfold wX0_init_0 at hw
  refine lv_aload_n hx hb dX0_init_0 rfl (lv_at hl 0 rfl) ?_
  refine W.objInit hx hb (CF_o C) (CF_t C _ q_217) (CF_t C _ q_36) (CF_t C _ q_37) rfl (hl.1.trans (CF_m C).symm) rfl dX0_init_1 (Nat.le_of_ble_eq_true rfl) (Nat.le_of_ble_eq_true rfl) ?_
  refine W.eq (g2 := F0 m 4 ls []) rfl ?_
  refine lv_aload_n hx hb dX0_init_4 rfl (lv_at hl 0 rfl) ?_
  refine lv_sipush (v := 512) hx hb dX0_init_5 (by decide) ?_
  refine rn_a (atype := .int) C P 2 (N' := 512) (512, .inl (fun _ => 0)) rfl (fun _ h => by cases h) q_65 rfl (fun _ => rfl) (fun S q => aE_nw (d := 2)) (by decide) (by decide) (by decide) (by show cells + 1 ≤ 2; omega) (by show slots + 512 ≤ 1024; omega) dX0_init_8 (fun a1 H hq P => ?_)
  have hw := hw a1 hq
  obtain ⟨S2, hS⟩ : ∃ z, z = (nw S a1 12 512) := ⟨_, rfl⟩
  have P : PW G A s H locs S0 S2 := by rw [hS]; exact P
  have p_a0 : pI S2 0 a0 := by rw [hS]; exact pI_x (ext_nw hq) p_a0
  have hw := hw S2 hS
  have p_a1 : pI S2 12 a1 := by rw [hS]; exact pI_nw
  refine pf_0_0 C hin2 P p_a0 p_a1 q_218 dX0_init_10 (fun H locs P => ?_)
  obtain ⟨S3, hS⟩ : ∃ z, z = (sR S2 a0 0 (some a1)) := ⟨_, rfl⟩
  have P : PW G A s H locs S0 S3 := by rw [hS]; exact P
  have p_a0 : pI S3 0 a0 := by rw [hS]; exact pI_x ext_sR p_a0
  have p_a1 : pI S3 12 a1 := by rw [hS]; exact pI_x ext_sR p_a1
  have hw := hw S3 hS
  refine lv_aload_n hx hb dX0_init_13 rfl (lv_at hl 0 rfl) ?_
  refine lv_sipush (v := 512) hx hb dX0_init_14 (by decide) ?_
  refine rn_a (atype := .int) C P 2 (N' := 512) (512, .inl (fun _ => 0)) rfl (fun _ h => by cases h) q_65 rfl (fun _ => rfl) (fun S q => aE_nw (d := 2)) (by decide) (by decide) (by decide) (by show cells + 1 + 1 ≤ 2; omega) (by show slots + 512 + 512 ≤ 1024; omega) dX0_init_17 (fun a4 H hq P => ?_)
  have hw := hw a4 hq
  obtain ⟨S5, hS⟩ : ∃ z, z = (nw S3 a4 12 512) := ⟨_, rfl⟩
  have P : PW G A s H locs S0 S5 := by rw [hS]; exact P
  have p_a0 : pI S5 0 a0 := by rw [hS]; exact pI_x (ext_nw hq) p_a0
  have hw := hw S5 hS
  have p_a4 : pI S5 12 a4 := by rw [hS]; exact pI_nw
  refine pf_0_1 C hin2 P p_a0 p_a4 q_220 dX0_init_19 (fun H locs P => ?_)
  obtain ⟨S6, hS⟩ : ∃ z, z = (sR S5 a0 1 (some a4)) := ⟨_, rfl⟩
  have P : PW G A s H locs S0 S6 := by rw [hS]; exact P
  have p_a0 : pI S6 0 a0 := by rw [hS]; exact pI_x ext_sR p_a0
  have p_a4 : pI S6 12 a4 := by rw [hS]; exact pI_x ext_sR p_a4
  have hw := hw S6 hS
  exact e_v C hr P hw (by omega) (by omega) dX0_init_22
def wp_X0_init (Q : MS → Prop) (QX : String → MS → Prop) (S : MS) (a0 : Nat) : Prop := wX0_init_0 Q QX S a0
set_option maxHeartbeats 4000000 in
set_option maxRecDepth 100000 in
theorem met_X0_init {l : Launch} (hst : l.stackTraces = false) (G : GP) (sz : Nat) (Q : MS → Prop) (QX : String → MS → Prop) (S : MS) (a0 : Nat) (p_a0 : pI S 0 a0) (hw : wp_X0_init Q QX S a0) : vx_Met l yX0_init (.code yX0_init cX0_init 1 none :: GW) rmX0_init (va_Pc [.ref a0] (PR G S sz)) (QV G S (FA G S sz) Q) (XX G S (FA G S sz) QX) 2 1024 (FA G S sz) := by
  refine st_m (by decide +kernel) hst (fun p e s m below meth c C hr hnm hex P => ?_)
  refine en_m (Nat.le_of_ble_eq_true rfl) (lv := [(0, .ref a0)]) rfl (fun ls hl => ?_)
  have C : CF p l s m _ meth c "SkirmishGrid$Commands" cX0_init 1 G (FA G S sz) := C
  exact tX0_init_0 C hr hnm hex Q QX S a0 p_a0 P hl (by omega) (by omega) hw
theorem cd_X0_init : yX0_init.cls = RX0 ∧ yX0_init.cls ≠ "java/lang/invoke/MethodHandle" ∧ yX0_init.cls ≠ "java/lang/invoke/VarHandle" ∧ (parseMethodDescriptor yX0_init.desc).map (fun d => d.parameters.length) = some 0 := by decide +kernel
abbrev rmX0_add : Room := { frames := 0, cells := 0, slots := 0, locals := 0 }
def wX0_add_0 (Q : MS → Prop) (QX : String → MS → Prop) (S : MS) (a0 : Nat) (x1 : Int32) (x2 : Int32) : Prop := ((512 ≤ (mI S a0 2) → Q S) ∧ (¬ 512 ≤ (mI S a0 2) → (∃ a1, mR S a0 0 = some a1 ∧ (vp_in (mI S a0 2) (mN S a1) ∧ (∀ S2, S2 = (sI S a1 ((mI S a0 2) : Int32).toNatClampNeg x1) → (∃ a3, mR S2 a0 1 = some a3 ∧ (vp_in (mI S2 a0 2) (mN S2 a3) ∧ (∀ S4, S4 = (sI S2 a3 ((mI S2 a0 2) : Int32).toNatClampNeg x2) → (∀ S5, S5 = (sI S4 a0 2 ((mI S4 a0 2) + 1)) → Q S5)))))))))
set_option maxHeartbeats 4000000 in
set_option maxRecDepth 100000 in
theorem tX0_add_0 {p : Program} {l : Launch} {e : Env} {s : State} {m : MethodId} {args : Array Value} {below : List Frame} {meth : Method} {c : Code} {H : Heap} {locs : List Loc} {cells slots : Nat} {G : GP} {A : Nat → Prop} {S0 : MS} {ls : Array Slot} (C : CF p l s m args meth c "SkirmishGrid$Commands" cX0_add 3 G A) (hr : meth.sig.returnType = none) (hex : ∀ x ∈ c.exceptionTable.toList, False) (Q : MS → Prop) (QX : String → MS → Prop) (S : MS) (a0 : Nat) (x1 : Int32) (x2 : Int32) (p_a0 : pI S 0 a0) (P : PW G A s H locs S0 S) (hl : lv_has ls 3 [(0, .ref a0), (1, .int x1), (2, .int x2)]) (hcc : cells + 0 ≤ 0) (hss : slots + 0 ≤ 0) (hw : wX0_add_0 Q QX S a0 x1 x2) : W p l e rmX0_add s m args below meth c H locs cells slots (vx_MQ below (QV G S0 A Q) (XX G S0 A QX) args s 0 0 A) (F0 m 0 ls []) := by
  have hx := CF_x C
  have hb := CF_b C
  unfold wX0_add_0 at hw
  refine lv_aload_n hx hb dX0_add_0 rfl (lv_at hl 0 rfl) ?_
  refine gf_0_2 C P p_a0 q_222 dX0_add_1 ?_
  refine lv_sipush (v := 512) hx hb dX0_add_4 (by decide) ?_
  refine lv_icmp_ge (tgt := 40) hx hb dX0_add_7 (by decide) (fun hc => ?_) (fun hc => ?_)
  · have hw := hw.1 hc
    exact e_v C hr P hw (by omega) (by omega) dX0_add_40
  · have hw := hw.2 hc
    refine lv_aload_n hx hb dX0_add_10 rfl (lv_at hl 0 rfl) ?_
    obtain ⟨a1, e1, hw⟩ := hw
    have p_a1 : pI S 12 a1 := wf_r P.2.2.2.1 p_a0 e1
    refine gf_0_0 C P p_a0 e1 q_218 dX0_add_11 ?_
    refine lv_aload_n hx hb dX0_add_14 rfl (lv_at hl 0 rfl) ?_
    refine gf_0_2 C P p_a0 q_222 dX0_add_15 ?_
    refine lv_iload_n hx hb dX0_add_18 rfl (lv_at hl 1 rfl) ?_
    obtain ⟨h1, hw⟩ := hw
    refine rs_i C P p_a1 h1 dX0_add_19 (fun H locs P => ?_)
    obtain ⟨S2, hS⟩ : ∃ z, z = (sI S a1 ((mI S a0 2) : Int32).toNatClampNeg x1) := ⟨_, rfl⟩
    have P : PW G A s H locs S0 S2 := by rw [hS]; exact P
    have p_a0 : pI S2 0 a0 := by rw [hS]; exact pI_x ext_sI p_a0
    have p_a1 : pI S2 12 a1 := by rw [hS]; exact pI_x ext_sI p_a1
    have hw := hw S2 hS
    refine lv_aload_n hx hb dX0_add_20 rfl (lv_at hl 0 rfl) ?_
    obtain ⟨a3, e1, hw⟩ := hw
    have p_a3 : pI S2 12 a3 := wf_r P.2.2.2.1 p_a0 e1
    refine gf_0_1 C P p_a0 e1 q_220 dX0_add_21 ?_
    refine lv_aload_n hx hb dX0_add_24 rfl (lv_at hl 0 rfl) ?_
    refine gf_0_2 C P p_a0 q_222 dX0_add_25 ?_
    refine lv_iload_n hx hb dX0_add_28 rfl (lv_at hl 2 rfl) ?_
    obtain ⟨h1, hw⟩ := hw
    refine rs_i C P p_a3 h1 dX0_add_29 (fun H locs P => ?_)
    obtain ⟨S4, hS⟩ : ∃ z, z = (sI S2 a3 ((mI S2 a0 2) : Int32).toNatClampNeg x2) := ⟨_, rfl⟩
    have P : PW G A s H locs S0 S4 := by rw [hS]; exact P
    have p_a0 : pI S4 0 a0 := by rw [hS]; exact pI_x ext_sI p_a0
    have p_a3 : pI S4 12 a3 := by rw [hS]; exact pI_x ext_sI p_a3
    have hw := hw S4 hS
    refine lv_aload_n hx hb dX0_add_30 rfl (lv_at hl 0 rfl) ?_
    refine lv_dup hx hb dX0_add_31 rfl ?_
    refine gf_0_2 C P p_a0 q_222 dX0_add_32 ?_
    refine lv_iconst (v := 1) hx hb dX0_add_35 (by decide) ?_
    refine lv_iadd hx hb dX0_add_36 ?_
    refine pf_0_2 C P p_a0 q_222 dX0_add_37 (fun H locs P => ?_)
    obtain ⟨S5, hS⟩ : ∃ z, z = (sI S4 a0 2 ((mI S4 a0 2) + 1)) := ⟨_, rfl⟩
    have P : PW G A s H locs S0 S5 := by rw [hS]; exact P
    have p_a0 : pI S5 0 a0 := by rw [hS]; exact pI_x ext_sI p_a0
    have hw := hw S5 hS
    exact e_v C hr P hw (by omega) (by omega) dX0_add_40
def wp_X0_add (Q : MS → Prop) (QX : String → MS → Prop) (S : MS) (a0 : Nat) (x1 : Int32) (x2 : Int32) : Prop := wX0_add_0 Q QX S a0 x1 x2
set_option maxHeartbeats 4000000 in
set_option maxRecDepth 100000 in
theorem met_X0_add {l : Launch} (hst : l.stackTraces = false) (G : GP) (sz : Nat) (Q : MS → Prop) (QX : String → MS → Prop) (S : MS) (a0 : Nat) (x1 : Int32) (x2 : Int32) (p_a0 : pI S 0 a0) (hw : wp_X0_add Q QX S a0 x1 x2) : vx_Met l yX0_add (.code yX0_add cX0_add 3 none :: GW) rmX0_add (va_Pc [.ref a0, .int x1, .int x2] (PR G S sz)) (QV G S (FA G S sz) Q) (XX G S (FA G S sz) QX) 0 0 (FA G S sz) := by
  refine st_m (by decide +kernel) hst (fun p e s m below meth c C hr hnm hex P => ?_)
  refine en_m (Nat.le_of_ble_eq_true rfl) (lv := [(0, .ref a0), (1, .int x1), (2, .int x2)]) rfl (fun ls hl => ?_)
  have C : CF p l s m _ meth c "SkirmishGrid$Commands" cX0_add 3 G (FA G S sz) := C
  exact tX0_add_0 C hr hex Q QX S a0 x1 x2 p_a0 P hl (by omega) (by omega) hw
theorem cd_X0_add : yX0_add.cls = RX0 ∧ yX0_add.cls ≠ "java/lang/invoke/MethodHandle" ∧ yX0_add.cls ≠ "java/lang/invoke/VarHandle" ∧ (parseMethodDescriptor yX0_add.desc).map (fun d => d.parameters.length) = some 2 := by decide +kernel
abbrev rmX0_dropLast : Room := { frames := 0, cells := 0, slots := 0, locals := 0 }
def wX0_dropLast_0 (Q : MS → Prop) (QX : String → MS → Prop) (S : MS) (a0 : Nat) : Prop := (((mI S a0 2) ≤ 0 → Q S) ∧ (¬ (mI S a0 2) ≤ 0 → (∀ S1, S1 = (sI S a0 2 ((mI S a0 2) - 1)) → Q S1)))
set_option maxHeartbeats 4000000 in
set_option maxRecDepth 100000 in
theorem tX0_dropLast_0 {p : Program} {l : Launch} {e : Env} {s : State} {m : MethodId} {args : Array Value} {below : List Frame} {meth : Method} {c : Code} {H : Heap} {locs : List Loc} {cells slots : Nat} {G : GP} {A : Nat → Prop} {S0 : MS} {ls : Array Slot} (C : CF p l s m args meth c "SkirmishGrid$Commands" cX0_dropLast 1 G A) (hr : meth.sig.returnType = none) (hex : ∀ x ∈ c.exceptionTable.toList, False) (Q : MS → Prop) (QX : String → MS → Prop) (S : MS) (a0 : Nat) (p_a0 : pI S 0 a0) (P : PW G A s H locs S0 S) (hl : lv_has ls 1 [(0, .ref a0)]) (hcc : cells + 0 ≤ 0) (hss : slots + 0 ≤ 0) (hw : wX0_dropLast_0 Q QX S a0) : W p l e rmX0_dropLast s m args below meth c H locs cells slots (vx_MQ below (QV G S0 A Q) (XX G S0 A QX) args s 0 0 A) (F0 m 0 ls []) := by
  have hx := CF_x C
  have hb := CF_b C
  unfold wX0_dropLast_0 at hw
  refine lv_aload_n hx hb dX0_dropLast_0 rfl (lv_at hl 0 rfl) ?_
  refine gf_0_2 C P p_a0 q_222 dX0_dropLast_1 ?_
  refine lv_if_le (tgt := 17) hx hb dX0_dropLast_4 (by decide) (fun hc => ?_) (fun hc => ?_)
  · have hw := hw.1 hc
    exact e_v C hr P hw (by omega) (by omega) dX0_dropLast_17
  · have hw := hw.2 hc
    refine lv_aload_n hx hb dX0_dropLast_7 rfl (lv_at hl 0 rfl) ?_
    refine lv_dup hx hb dX0_dropLast_8 rfl ?_
    refine gf_0_2 C P p_a0 q_222 dX0_dropLast_9 ?_
    refine lv_iconst (v := 1) hx hb dX0_dropLast_12 (by decide) ?_
    refine lv_isub hx hb dX0_dropLast_13 ?_
    refine pf_0_2 C P p_a0 q_222 dX0_dropLast_14 (fun H locs P => ?_)
    obtain ⟨S1, hS⟩ : ∃ z, z = (sI S a0 2 ((mI S a0 2) - 1)) := ⟨_, rfl⟩
    have P : PW G A s H locs S0 S1 := by rw [hS]; exact P
    have p_a0 : pI S1 0 a0 := by rw [hS]; exact pI_x ext_sI p_a0
    have hw := hw S1 hS
    exact e_v C hr P hw (by omega) (by omega) dX0_dropLast_17
def wp_X0_dropLast (Q : MS → Prop) (QX : String → MS → Prop) (S : MS) (a0 : Nat) : Prop := wX0_dropLast_0 Q QX S a0
set_option maxHeartbeats 4000000 in
set_option maxRecDepth 100000 in
theorem met_X0_dropLast {l : Launch} (hst : l.stackTraces = false) (G : GP) (sz : Nat) (Q : MS → Prop) (QX : String → MS → Prop) (S : MS) (a0 : Nat) (p_a0 : pI S 0 a0) (hw : wp_X0_dropLast Q QX S a0) : vx_Met l yX0_dropLast (.code yX0_dropLast cX0_dropLast 1 none :: GW) rmX0_dropLast (va_Pc [.ref a0] (PR G S sz)) (QV G S (FA G S sz) Q) (XX G S (FA G S sz) QX) 0 0 (FA G S sz) := by
  refine st_m (by decide +kernel) hst (fun p e s m below meth c C hr hnm hex P => ?_)
  refine en_m (Nat.le_of_ble_eq_true rfl) (lv := [(0, .ref a0)]) rfl (fun ls hl => ?_)
  have C : CF p l s m _ meth c "SkirmishGrid$Commands" cX0_dropLast 1 G (FA G S sz) := C
  exact tX0_dropLast_0 C hr hex Q QX S a0 p_a0 P hl (by omega) (by omega) hw
theorem cd_X0_dropLast : yX0_dropLast.cls = RX0 ∧ yX0_dropLast.cls ≠ "java/lang/invoke/MethodHandle" ∧ yX0_dropLast.cls ≠ "java/lang/invoke/VarHandle" ∧ (parseMethodDescriptor yX0_dropLast.desc).map (fun d => d.parameters.length) = some 0 := by decide +kernel
abbrev rmX0_copyFrom : Room := { frames := 1, cells := 0, slots := 0, locals := 60 }
def wX0_copyFrom_0 (Q : MS → Prop) (QX : String → MS → Prop) (S : MS) (a0 : Nat) (b1 : Nat) : Prop := (∀ S1, S1 = (sI S a0 2 (mI S b1 2)) → (∃ a2, mR S1 b1 0 = some a2 ∧ (∃ a3, mR S1 a0 0 = some a3 ∧ (¬ (mI S1 a0 2) < 0 ∧ ((0 : Int32).toNatClampNeg + ((mI S1 a0 2) : Int32).toNatClampNeg ≤ mN S1 a2 ∧ ((0 : Int32).toNatClampNeg + ((mI S1 a0 2) : Int32).toNatClampNeg ≤ mN S1 a3 ∧ (∀ S4, S4 = (sIr S1 a3 (va_cpy (mI S1 a2) (mI S1 a3) (0 : Int32).toNatClampNeg (0 : Int32).toNatClampNeg ((mI S1 a0 2) : Int32).toNatClampNeg)) → (∃ a5, mR S4 b1 1 = some a5 ∧ (∃ a6, mR S4 a0 1 = some a6 ∧ (¬ (mI S4 a0 2) < 0 ∧ ((0 : Int32).toNatClampNeg + ((mI S4 a0 2) : Int32).toNatClampNeg ≤ mN S4 a5 ∧ ((0 : Int32).toNatClampNeg + ((mI S4 a0 2) : Int32).toNatClampNeg ≤ mN S4 a6 ∧ (∀ S7, S7 = (sIr S4 a6 (va_cpy (mI S4 a5) (mI S4 a6) (0 : Int32).toNatClampNeg (0 : Int32).toNatClampNeg ((mI S4 a0 2) : Int32).toNatClampNeg)) → Q S7)))))))))))))
set_option maxHeartbeats 4000000 in
set_option maxRecDepth 100000 in
theorem tX0_copyFrom_0 {p : Program} {l : Launch} {e : Env} {s : State} {m : MethodId} {args : Array Value} {below : List Frame} {meth : Method} {c : Code} {H : Heap} {locs : List Loc} {cells slots : Nat} {G : GP} {A : Nat → Prop} {S0 : MS} {ls : Array Slot} (C : CF p l s m args meth c "SkirmishGrid$Commands" cX0_copyFrom 2 G A) (hr : meth.sig.returnType = none) (hex : ∀ x ∈ c.exceptionTable.toList, False) (Q : MS → Prop) (QX : String → MS → Prop) (S : MS) (a0 : Nat) (b1 : Nat) (p_a0 : pI S 0 a0) (p_b1 : pI S 0 b1) (P : PW G A s H locs S0 S) (hl : lv_has ls 2 [(0, .ref a0), (1, .ref b1)]) (hcc : cells + 0 ≤ 0) (hss : slots + 0 ≤ 0) (hw : wX0_copyFrom_0 Q QX S a0 b1) : W p l e rmX0_copyFrom s m args below meth c H locs cells slots (vx_MQ below (QV G S0 A Q) (XX G S0 A QX) args s 0 0 A) (F0 m 0 ls []) := by
  have hx := CF_x C
  have hb := CF_b C
  unfold wX0_copyFrom_0 at hw
  refine lv_aload_n hx hb dX0_copyFrom_0 rfl (lv_at hl 0 rfl) ?_
  refine lv_aload_n hx hb dX0_copyFrom_1 rfl (lv_at hl 1 rfl) ?_
  refine gf_0_2 C P p_b1 q_222 dX0_copyFrom_2 ?_
  refine pf_0_2 C P p_a0 q_222 dX0_copyFrom_5 (fun H locs P => ?_)
  obtain ⟨S1, hS⟩ : ∃ z, z = (sI S a0 2 (mI S b1 2)) := ⟨_, rfl⟩
  have P : PW G A s H locs S0 S1 := by rw [hS]; exact P
  have p_a0 : pI S1 0 a0 := by rw [hS]; exact pI_x ext_sI p_a0
  have p_b1 : pI S1 0 b1 := by rw [hS]; exact pI_x ext_sI p_b1
  have hw := hw S1 hS
  refine lv_aload_n hx hb dX0_copyFrom_8 rfl (lv_at hl 1 rfl) ?_
  obtain ⟨a2, e1, hw⟩ := hw
  have p_a2 : pI S1 12 a2 := wf_r P.2.2.2.1 p_b1 e1
  refine gf_0_0 C P p_b1 e1 q_218 dX0_copyFrom_9 ?_
  refine lv_iconst (v := 0) hx hb dX0_copyFrom_12 (by decide) ?_
  refine lv_aload_n hx hb dX0_copyFrom_13 rfl (lv_at hl 0 rfl) ?_
  obtain ⟨a3, e1, hw⟩ := hw
  have p_a3 : pI S1 12 a3 := wf_r P.2.2.2.1 p_a0 e1
  refine gf_0_0 C P p_a0 e1 q_218 dX0_copyFrom_14 ?_
  refine lv_iconst (v := 0) hx hb dX0_copyFrom_17 (by decide) ?_
  refine lv_aload_n hx hb dX0_copyFrom_18 rfl (lv_at hl 0 rfl) ?_
  refine gf_0_2 C P p_a0 q_222 dX0_copyFrom_19 ?_
  obtain ⟨h3, hw⟩ := hw
  obtain ⟨h4, hw⟩ := hw
  obtain ⟨h5, hw⟩ := hw
  refine rc_i C P hl.1 p_a2 p_a3 q_400 q_385 q_384 q_26 (by decide) (by decide) h3 h4 h5 (Nat.le_of_ble_eq_true rfl) (Nat.le_of_ble_eq_true rfl) dX0_copyFrom_22 (fun H locs P => ?_)
  obtain ⟨S4, hS⟩ : ∃ z, z = (sIr S1 a3 (va_cpy (mI S1 a2) (mI S1 a3) (0 : Int32).toNatClampNeg (0 : Int32).toNatClampNeg ((mI S1 a0 2) : Int32).toNatClampNeg)) := ⟨_, rfl⟩
  have P : PW G A s H locs S0 S4 := by rw [hS]; exact P
  have p_a0 : pI S4 0 a0 := by rw [hS]; exact pI_x ext_sIr p_a0
  have p_b1 : pI S4 0 b1 := by rw [hS]; exact pI_x ext_sIr p_b1
  have p_a2 : pI S4 12 a2 := by rw [hS]; exact pI_x ext_sIr p_a2
  have p_a3 : pI S4 12 a3 := by rw [hS]; exact pI_x ext_sIr p_a3
  have hw := hw S4 hS
  refine lv_aload_n hx hb dX0_copyFrom_25 rfl (lv_at hl 1 rfl) ?_
  obtain ⟨a5, e1, hw⟩ := hw
  have p_a5 : pI S4 12 a5 := wf_r P.2.2.2.1 p_b1 e1
  refine gf_0_1 C P p_b1 e1 q_220 dX0_copyFrom_26 ?_
  refine lv_iconst (v := 0) hx hb dX0_copyFrom_29 (by decide) ?_
  refine lv_aload_n hx hb dX0_copyFrom_30 rfl (lv_at hl 0 rfl) ?_
  obtain ⟨a6, e1, hw⟩ := hw
  have p_a6 : pI S4 12 a6 := wf_r P.2.2.2.1 p_a0 e1
  refine gf_0_1 C P p_a0 e1 q_220 dX0_copyFrom_31 ?_
  refine lv_iconst (v := 0) hx hb dX0_copyFrom_34 (by decide) ?_
  refine lv_aload_n hx hb dX0_copyFrom_35 rfl (lv_at hl 0 rfl) ?_
  refine gf_0_2 C P p_a0 q_222 dX0_copyFrom_36 ?_
  obtain ⟨h3, hw⟩ := hw
  obtain ⟨h4, hw⟩ := hw
  obtain ⟨h5, hw⟩ := hw
  refine rc_i C P hl.1 p_a5 p_a6 q_400 q_385 q_384 q_26 (by decide) (by decide) h3 h4 h5 (Nat.le_of_ble_eq_true rfl) (Nat.le_of_ble_eq_true rfl) dX0_copyFrom_39 (fun H locs P => ?_)
  obtain ⟨S7, hS⟩ : ∃ z, z = (sIr S4 a6 (va_cpy (mI S4 a5) (mI S4 a6) (0 : Int32).toNatClampNeg (0 : Int32).toNatClampNeg ((mI S4 a0 2) : Int32).toNatClampNeg)) := ⟨_, rfl⟩
  have P : PW G A s H locs S0 S7 := by rw [hS]; exact P
  have p_a5 : pI S7 12 a5 := by rw [hS]; exact pI_x ext_sIr p_a5
  have p_a6 : pI S7 12 a6 := by rw [hS]; exact pI_x ext_sIr p_a6
  have hw := hw S7 hS
  exact e_v C hr P hw (by omega) (by omega) dX0_copyFrom_42
def wp_X0_copyFrom (Q : MS → Prop) (QX : String → MS → Prop) (S : MS) (a0 : Nat) (b1 : Nat) : Prop := wX0_copyFrom_0 Q QX S a0 b1
set_option maxHeartbeats 4000000 in
set_option maxRecDepth 100000 in
theorem met_X0_copyFrom {l : Launch} (hst : l.stackTraces = false) (G : GP) (sz : Nat) (Q : MS → Prop) (QX : String → MS → Prop) (S : MS) (a0 : Nat) (b1 : Nat) (p_a0 : pI S 0 a0) (p_b1 : pI S 0 b1) (hw : wp_X0_copyFrom Q QX S a0 b1) : vx_Met l yX0_copyFrom (.code yX0_copyFrom cX0_copyFrom 2 none :: GW) rmX0_copyFrom (va_Pc [.ref a0, .ref b1] (PR G S sz)) (QV G S (FA G S sz) Q) (XX G S (FA G S sz) QX) 0 0 (FA G S sz) := by
  refine st_m (by decide +kernel) hst (fun p e s m below meth c C hr hnm hex P => ?_)
  refine en_m (Nat.le_of_ble_eq_true rfl) (lv := [(0, .ref a0), (1, .ref b1)]) rfl (fun ls hl => ?_)
  have C : CF p l s m _ meth c "SkirmishGrid$Commands" cX0_copyFrom 2 G (FA G S sz) := C
  exact tX0_copyFrom_0 C hr hex Q QX S a0 b1 p_a0 p_b1 P hl (by omega) (by omega) hw
theorem cd_X0_copyFrom : yX0_copyFrom.cls = RX0 ∧ yX0_copyFrom.cls ≠ "java/lang/invoke/MethodHandle" ∧ yX0_copyFrom.cls ≠ "java/lang/invoke/VarHandle" ∧ (parseMethodDescriptor yX0_copyFrom.desc).map (fun d => d.parameters.length) = some 1 := by decide +kernel
abbrev rmX1_init : Room := { frames := 1, cells := 3, slots := 120, locals := 40 }
def wX1_init_0 (Q : MS → Prop) (QX : String → MS → Prop) (S : MS) (a0 : Nat) : Prop := (∀ a1, a1 ∉ mL S → (∀ S2, S2 = (nw S a1 12 40) → (∀ S3, S3 = (sR S2 a0 0 (some a1)) → (∀ a4, a4 ∉ mL S3 → (∀ S5, S5 = (nw S3 a4 12 40) → (∀ S6, S6 = (sR S5 a0 1 (some a4)) → (∀ a7, a7 ∉ mL S6 → (∀ S8, S8 = (nw S6 a7 12 40) → (∀ S9, S9 = (sR S8 a0 2 (some a7)) → Q S9)))))))))
set_option maxHeartbeats 4000000 in
set_option maxRecDepth 100000 in
theorem tX1_init_0 {p : Program} {l : Launch} {e : Env} {s : State} {m : MethodId} {args : Array Value} {below : List Frame} {meth : Method} {c : Code} {H : Heap} {locs : List Loc} {cells slots : Nat} {G : GP} {A : Nat → Prop} {S0 : MS} {ls : Array Slot} (C : CF p l s m args meth c "SkirmishGrid$Events" cX1_init 1 G A) (hr : meth.sig.returnType = none) (hin2 : meth.name = "<init>") (hex : ∀ x ∈ c.exceptionTable.toList, False) (Q : MS → Prop) (QX : String → MS → Prop) (S : MS) (a0 : Nat) (p_a0 : pI S 1 a0) (P : PW G A s H locs S0 S) (hl : lv_has ls 1 [(0, .ref a0)]) (hcc : cells + 3 ≤ 3) (hss : slots + 120 ≤ 120) (hw : wX1_init_0 Q QX S a0) : W p l e rmX1_init s m args below meth c H locs cells slots (vx_MQ below (QV G S0 A Q) (XX G S0 A QX) args s 3 120 A) (F0 m 0 ls []) := by
  have hx := CF_x C
  have hb := CF_b C
  unfold wX1_init_0 at hw
  refine lv_aload_n hx hb dX1_init_0 rfl (lv_at hl 0 rfl) ?_
  refine W.objInit hx hb (CF_o C) (CF_t C _ q_73) (CF_t C _ q_36) (CF_t C _ q_37) rfl (hl.1.trans (CF_m C).symm) rfl dX1_init_1 (Nat.le_of_ble_eq_true rfl) (Nat.le_of_ble_eq_true rfl) ?_
  refine W.eq (g2 := F0 m 4 ls []) rfl ?_
  refine lv_aload_n hx hb dX1_init_4 rfl (lv_at hl 0 rfl) ?_
  refine lv_bipush (v := 40) hx hb dX1_init_5 (by decide) ?_
  refine rn_a (atype := .int) C P 2 (N' := 40) (40, .inl (fun _ => 0)) rfl (fun _ h => by cases h) q_65 rfl (fun _ => rfl) (fun S q => aE_nw (d := 2)) (by decide) (by decide) (by decide) (by show cells + 1 ≤ 3; omega) (by show slots + 40 ≤ 120; omega) dX1_init_7 (fun a1 H hq P => ?_)
  have hw := hw a1 hq
  obtain ⟨S2, hS⟩ : ∃ z, z = (nw S a1 12 40) := ⟨_, rfl⟩
  have P : PW G A s H locs S0 S2 := by rw [hS]; exact P
  have p_a0 : pI S2 1 a0 := by rw [hS]; exact pI_x (ext_nw hq) p_a0
  have hw := hw S2 hS
  have p_a1 : pI S2 12 a1 := by rw [hS]; exact pI_nw
  refine pf_1_0 C hin2 P p_a0 p_a1 q_74 dX1_init_9 (fun H locs P => ?_)
  obtain ⟨S3, hS⟩ : ∃ z, z = (sR S2 a0 0 (some a1)) := ⟨_, rfl⟩
  have P : PW G A s H locs S0 S3 := by rw [hS]; exact P
  have p_a0 : pI S3 1 a0 := by rw [hS]; exact pI_x ext_sR p_a0
  have p_a1 : pI S3 12 a1 := by rw [hS]; exact pI_x ext_sR p_a1
  have hw := hw S3 hS
  refine lv_aload_n hx hb dX1_init_12 rfl (lv_at hl 0 rfl) ?_
  refine lv_bipush (v := 40) hx hb dX1_init_13 (by decide) ?_
  refine rn_a (atype := .int) C P 2 (N' := 40) (40, .inl (fun _ => 0)) rfl (fun _ h => by cases h) q_65 rfl (fun _ => rfl) (fun S q => aE_nw (d := 2)) (by decide) (by decide) (by decide) (by show cells + 1 + 1 ≤ 3; omega) (by show slots + 40 + 40 ≤ 120; omega) dX1_init_15 (fun a4 H hq P => ?_)
  have hw := hw a4 hq
  obtain ⟨S5, hS⟩ : ∃ z, z = (nw S3 a4 12 40) := ⟨_, rfl⟩
  have P : PW G A s H locs S0 S5 := by rw [hS]; exact P
  have p_a0 : pI S5 1 a0 := by rw [hS]; exact pI_x (ext_nw hq) p_a0
  have hw := hw S5 hS
  have p_a4 : pI S5 12 a4 := by rw [hS]; exact pI_nw
  refine pf_1_1 C hin2 P p_a0 p_a4 q_75 dX1_init_17 (fun H locs P => ?_)
  obtain ⟨S6, hS⟩ : ∃ z, z = (sR S5 a0 1 (some a4)) := ⟨_, rfl⟩
  have P : PW G A s H locs S0 S6 := by rw [hS]; exact P
  have p_a0 : pI S6 1 a0 := by rw [hS]; exact pI_x ext_sR p_a0
  have p_a4 : pI S6 12 a4 := by rw [hS]; exact pI_x ext_sR p_a4
  have hw := hw S6 hS
  refine lv_aload_n hx hb dX1_init_20 rfl (lv_at hl 0 rfl) ?_
  refine lv_bipush (v := 40) hx hb dX1_init_21 (by decide) ?_
  refine rn_a (atype := .int) C P 2 (N' := 40) (40, .inl (fun _ => 0)) rfl (fun _ h => by cases h) q_65 rfl (fun _ => rfl) (fun S q => aE_nw (d := 2)) (by decide) (by decide) (by decide) (by show cells + 1 + 1 + 1 ≤ 3; omega) (by show slots + 40 + 40 + 40 ≤ 120; omega) dX1_init_23 (fun a7 H hq P => ?_)
  have hw := hw a7 hq
  obtain ⟨S8, hS⟩ : ∃ z, z = (nw S6 a7 12 40) := ⟨_, rfl⟩
  have P : PW G A s H locs S0 S8 := by rw [hS]; exact P
  have p_a0 : pI S8 1 a0 := by rw [hS]; exact pI_x (ext_nw hq) p_a0
  have hw := hw S8 hS
  have p_a7 : pI S8 12 a7 := by rw [hS]; exact pI_nw
  refine pf_1_2 C hin2 P p_a0 p_a7 q_76 dX1_init_25 (fun H locs P => ?_)
  obtain ⟨S9, hS⟩ : ∃ z, z = (sR S8 a0 2 (some a7)) := ⟨_, rfl⟩
  have P : PW G A s H locs S0 S9 := by rw [hS]; exact P
  have p_a0 : pI S9 1 a0 := by rw [hS]; exact pI_x ext_sR p_a0
  have p_a7 : pI S9 12 a7 := by rw [hS]; exact pI_x ext_sR p_a7
  have hw := hw S9 hS
  exact e_v C hr P hw (by omega) (by omega) dX1_init_28
def wp_X1_init (Q : MS → Prop) (QX : String → MS → Prop) (S : MS) (a0 : Nat) : Prop := wX1_init_0 Q QX S a0
set_option maxHeartbeats 4000000 in
set_option maxRecDepth 100000 in
theorem met_X1_init {l : Launch} (hst : l.stackTraces = false) (G : GP) (sz : Nat) (Q : MS → Prop) (QX : String → MS → Prop) (S : MS) (a0 : Nat) (p_a0 : pI S 1 a0) (hw : wp_X1_init Q QX S a0) : vx_Met l yX1_init (.code yX1_init cX1_init 1 none :: GW) rmX1_init (va_Pc [.ref a0] (PR G S sz)) (QV G S (FA G S sz) Q) (XX G S (FA G S sz) QX) 3 120 (FA G S sz) := by
  refine st_m (by decide +kernel) hst (fun p e s m below meth c C hr hnm hex P => ?_)
  refine en_m (Nat.le_of_ble_eq_true rfl) (lv := [(0, .ref a0)]) rfl (fun ls hl => ?_)
  have C : CF p l s m _ meth c "SkirmishGrid$Events" cX1_init 1 G (FA G S sz) := C
  exact tX1_init_0 C hr hnm hex Q QX S a0 p_a0 P hl (by omega) (by omega) hw
theorem cd_X1_init : yX1_init.cls = RX1 ∧ yX1_init.cls ≠ "java/lang/invoke/MethodHandle" ∧ yX1_init.cls ≠ "java/lang/invoke/VarHandle" ∧ (parseMethodDescriptor yX1_init.desc).map (fun d => d.parameters.length) = some 0 := by decide +kernel
abbrev rmX1_note : Room := { frames := 1, cells := 0, slots := 0, locals := 60 }
def wX1_note_66 (Q : MS → Prop) (QX : String → MS → Prop) (S : MS) (a0 : Nat) (y1 : Int32) (y2 : Int32) (y3 : Int32) : Prop := (∃ a1, mR S a0 0 = some a1 ∧ (vp_in (mI S a0 3) (mN S a1) ∧ (∀ S2, S2 = (sI S a1 ((mI S a0 3) : Int32).toNatClampNeg y1) → (∃ a3, mR S2 a0 1 = some a3 ∧ (vp_in (mI S2 a0 3) (mN S2 a3) ∧ (∀ S4, S4 = (sI S2 a3 ((mI S2 a0 3) : Int32).toNatClampNeg y2) → (∃ a5, mR S4 a0 2 = some a5 ∧ (vp_in (mI S4 a0 3) (mN S4 a5) ∧ (∀ S6, S6 = (sI S4 a5 ((mI S4 a0 3) : Int32).toNatClampNeg y3) → (∀ S7, S7 = (sI S6 a0 3 ((mI S6 a0 3) + 1)) → Q S7))))))))))
set_option maxHeartbeats 4000000 in
set_option maxRecDepth 100000 in
theorem tX1_note_66 {p : Program} {l : Launch} {e : Env} {s : State} {m : MethodId} {args : Array Value} {below : List Frame} {meth : Method} {c : Code} {H : Heap} {locs : List Loc} {cells slots : Nat} {G : GP} {A : Nat → Prop} {S0 : MS} {ls : Array Slot} (C : CF p l s m args meth c "SkirmishGrid$Events" cX1_note 4 G A) (hr : meth.sig.returnType = none) (hex : ∀ x ∈ c.exceptionTable.toList, False) (Q : MS → Prop) (QX : String → MS → Prop) (S : MS) (a0 : Nat) (y1 : Int32) (y2 : Int32) (y3 : Int32) (p_a0 : pI S 1 a0) (P : PW G A s H locs S0 S) (hl : lv_has ls 4 [(0, .ref a0), (1, .int y1), (2, .int y2), (3, .int y3)]) (hcc : cells + 0 ≤ 0) (hss : slots + 0 ≤ 0) (hw : wX1_note_66 Q QX S a0 y1 y2 y3) : W p l e rmX1_note s m args below meth c H locs cells slots (vx_MQ below (QV G S0 A Q) (XX G S0 A QX) args s 0 0 A) (F0 m 66 ls []) := by
  have hx := CF_x C
  have hb := CF_b C
  unfold wX1_note_66 at hw
  refine lv_aload_n hx hb dX1_note_66 rfl (lv_at hl 0 rfl) ?_
  obtain ⟨a1, e1, hw⟩ := hw
  have p_a1 : pI S 12 a1 := wf_r P.2.2.2.1 p_a0 e1
  refine gf_1_0 C P p_a0 e1 q_74 dX1_note_67 ?_
  refine lv_aload_n hx hb dX1_note_70 rfl (lv_at hl 0 rfl) ?_
  refine gf_1_3 C P p_a0 q_77 dX1_note_71 ?_
  refine lv_iload_n hx hb dX1_note_74 rfl (lv_at hl 1 rfl) ?_
  obtain ⟨h1, hw⟩ := hw
  refine rs_i C P p_a1 h1 dX1_note_75 (fun H locs P => ?_)
  obtain ⟨S2, hS⟩ : ∃ z, z = (sI S a1 ((mI S a0 3) : Int32).toNatClampNeg y1) := ⟨_, rfl⟩
  have P : PW G A s H locs S0 S2 := by rw [hS]; exact P
  have p_a0 : pI S2 1 a0 := by rw [hS]; exact pI_x ext_sI p_a0
  have p_a1 : pI S2 12 a1 := by rw [hS]; exact pI_x ext_sI p_a1
  have hw := hw S2 hS
  refine lv_aload_n hx hb dX1_note_76 rfl (lv_at hl 0 rfl) ?_
  obtain ⟨a3, e1, hw⟩ := hw
  have p_a3 : pI S2 12 a3 := wf_r P.2.2.2.1 p_a0 e1
  refine gf_1_1 C P p_a0 e1 q_75 dX1_note_77 ?_
  refine lv_aload_n hx hb dX1_note_80 rfl (lv_at hl 0 rfl) ?_
  refine gf_1_3 C P p_a0 q_77 dX1_note_81 ?_
  refine lv_iload_n hx hb dX1_note_84 rfl (lv_at hl 2 rfl) ?_
  obtain ⟨h1, hw⟩ := hw
  refine rs_i C P p_a3 h1 dX1_note_85 (fun H locs P => ?_)
  obtain ⟨S4, hS⟩ : ∃ z, z = (sI S2 a3 ((mI S2 a0 3) : Int32).toNatClampNeg y2) := ⟨_, rfl⟩
  have P : PW G A s H locs S0 S4 := by rw [hS]; exact P
  have p_a0 : pI S4 1 a0 := by rw [hS]; exact pI_x ext_sI p_a0
  have p_a3 : pI S4 12 a3 := by rw [hS]; exact pI_x ext_sI p_a3
  have hw := hw S4 hS
  refine lv_aload_n hx hb dX1_note_86 rfl (lv_at hl 0 rfl) ?_
  obtain ⟨a5, e1, hw⟩ := hw
  have p_a5 : pI S4 12 a5 := wf_r P.2.2.2.1 p_a0 e1
  refine gf_1_2 C P p_a0 e1 q_76 dX1_note_87 ?_
  refine lv_aload_n hx hb dX1_note_90 rfl (lv_at hl 0 rfl) ?_
  refine gf_1_3 C P p_a0 q_77 dX1_note_91 ?_
  refine lv_iload_n hx hb dX1_note_94 rfl (lv_at hl 3 rfl) ?_
  obtain ⟨h1, hw⟩ := hw
  refine rs_i C P p_a5 h1 dX1_note_95 (fun H locs P => ?_)
  obtain ⟨S6, hS⟩ : ∃ z, z = (sI S4 a5 ((mI S4 a0 3) : Int32).toNatClampNeg y3) := ⟨_, rfl⟩
  have P : PW G A s H locs S0 S6 := by rw [hS]; exact P
  have p_a0 : pI S6 1 a0 := by rw [hS]; exact pI_x ext_sI p_a0
  have p_a5 : pI S6 12 a5 := by rw [hS]; exact pI_x ext_sI p_a5
  have hw := hw S6 hS
  refine lv_aload_n hx hb dX1_note_96 rfl (lv_at hl 0 rfl) ?_
  refine lv_dup hx hb dX1_note_97 rfl ?_
  refine gf_1_3 C P p_a0 q_77 dX1_note_98 ?_
  refine lv_iconst (v := 1) hx hb dX1_note_101 (by decide) ?_
  refine lv_iadd hx hb dX1_note_102 ?_
  refine pf_1_3 C P p_a0 q_77 dX1_note_103 (fun H locs P => ?_)
  obtain ⟨S7, hS⟩ : ∃ z, z = (sI S6 a0 3 ((mI S6 a0 3) + 1)) := ⟨_, rfl⟩
  have P : PW G A s H locs S0 S7 := by rw [hS]; exact P
  have p_a0 : pI S7 1 a0 := by rw [hS]; exact pI_x ext_sI p_a0
  have hw := hw S7 hS
  exact e_v C hr P hw (by omega) (by omega) dX1_note_106
def wX1_note_0 (Q : MS → Prop) (QX : String → MS → Prop) (S : MS) (a0 : Nat) (x1 : Int32) (x2 : Int32) (x3 : Int32) : Prop := (((mI S a0 3) < 40 → wX1_note_66 Q QX S a0 x1 x2 x3) ∧ (¬ (mI S a0 3) < 40 → (∀ S1, S1 = (sI S a0 3 39) → (∃ a2, mR S1 a0 0 = some a2 ∧ (∃ a3, mR S1 a0 0 = some a3 ∧ (¬ (mI S1 a0 3) < 0 ∧ ((1 : Int32).toNatClampNeg + ((mI S1 a0 3) : Int32).toNatClampNeg ≤ mN S1 a2 ∧ ((0 : Int32).toNatClampNeg + ((mI S1 a0 3) : Int32).toNatClampNeg ≤ mN S1 a3 ∧ (∀ S4, S4 = (sIr S1 a3 (va_cpy (mI S1 a2) (mI S1 a3) (1 : Int32).toNatClampNeg (0 : Int32).toNatClampNeg ((mI S1 a0 3) : Int32).toNatClampNeg)) → (∃ a5, mR S4 a0 1 = some a5 ∧ (∃ a6, mR S4 a0 1 = some a6 ∧ (¬ (mI S4 a0 3) < 0 ∧ ((1 : Int32).toNatClampNeg + ((mI S4 a0 3) : Int32).toNatClampNeg ≤ mN S4 a5 ∧ ((0 : Int32).toNatClampNeg + ((mI S4 a0 3) : Int32).toNatClampNeg ≤ mN S4 a6 ∧ (∀ S7, S7 = (sIr S4 a6 (va_cpy (mI S4 a5) (mI S4 a6) (1 : Int32).toNatClampNeg (0 : Int32).toNatClampNeg ((mI S4 a0 3) : Int32).toNatClampNeg)) → (∃ a8, mR S7 a0 2 = some a8 ∧ (∃ a9, mR S7 a0 2 = some a9 ∧ (¬ (mI S7 a0 3) < 0 ∧ ((1 : Int32).toNatClampNeg + ((mI S7 a0 3) : Int32).toNatClampNeg ≤ mN S7 a8 ∧ ((0 : Int32).toNatClampNeg + ((mI S7 a0 3) : Int32).toNatClampNeg ≤ mN S7 a9 ∧ (∀ S10, S10 = (sIr S7 a9 (va_cpy (mI S7 a8) (mI S7 a9) (1 : Int32).toNatClampNeg (0 : Int32).toNatClampNeg ((mI S7 a0 3) : Int32).toNatClampNeg)) → wX1_note_66 Q QX S10 a0 x1 x2 x3)))))))))))))))))))))
set_option maxHeartbeats 4000000 in
set_option maxRecDepth 100000 in
theorem tX1_note_0 {p : Program} {l : Launch} {e : Env} {s : State} {m : MethodId} {args : Array Value} {below : List Frame} {meth : Method} {c : Code} {H : Heap} {locs : List Loc} {cells slots : Nat} {G : GP} {A : Nat → Prop} {S0 : MS} {ls : Array Slot} (C : CF p l s m args meth c "SkirmishGrid$Events" cX1_note 4 G A) (hr : meth.sig.returnType = none) (hex : ∀ x ∈ c.exceptionTable.toList, False) (Q : MS → Prop) (QX : String → MS → Prop) (S : MS) (a0 : Nat) (x1 : Int32) (x2 : Int32) (x3 : Int32) (p_a0 : pI S 1 a0) (P : PW G A s H locs S0 S) (hl : lv_has ls 4 [(0, .ref a0), (1, .int x1), (2, .int x2), (3, .int x3)]) (hcc : cells + 0 ≤ 0) (hss : slots + 0 ≤ 0) (hw : wX1_note_0 Q QX S a0 x1 x2 x3) : W p l e rmX1_note s m args below meth c H locs cells slots (vx_MQ below (QV G S0 A Q) (XX G S0 A QX) args s 0 0 A) (F0 m 0 ls []) := by
  have hx := CF_x C
  have hb := CF_b C
  unfold wX1_note_0 at hw
  refine lv_aload_n hx hb dX1_note_0 rfl (lv_at hl 0 rfl) ?_
  refine gf_1_3 C P p_a0 q_77 dX1_note_1 ?_
  refine lv_bipush (v := 40) hx hb dX1_note_4 (by decide) ?_
  refine lv_icmp_lt (tgt := 66) hx hb dX1_note_6 (by decide) (fun hc => ?_) (fun hc => ?_)
  · have hw := hw.1 hc
    exact tX1_note_66 C hr hex Q QX S a0 x1 x2 x3 p_a0 P (lv_sub hl [0, 1, 2, 3] rfl) (by omega) (by omega) hw
  · have hw := hw.2 hc
    refine lv_aload_n hx hb dX1_note_9 rfl (lv_at hl 0 rfl) ?_
    refine lv_bipush (v := 39) hx hb dX1_note_10 (by decide) ?_
    refine pf_1_3 C P p_a0 q_77 dX1_note_12 (fun H locs P => ?_)
    obtain ⟨S1, hS⟩ : ∃ z, z = (sI S a0 3 39) := ⟨_, rfl⟩
    have P : PW G A s H locs S0 S1 := by rw [hS]; exact P
    have p_a0 : pI S1 1 a0 := by rw [hS]; exact pI_x ext_sI p_a0
    have hw := hw S1 hS
    refine lv_aload_n hx hb dX1_note_15 rfl (lv_at hl 0 rfl) ?_
    obtain ⟨a2, e1, hw⟩ := hw
    have p_a2 : pI S1 12 a2 := wf_r P.2.2.2.1 p_a0 e1
    refine gf_1_0 C P p_a0 e1 q_74 dX1_note_16 ?_
    refine lv_iconst (v := 1) hx hb dX1_note_19 (by decide) ?_
    refine lv_aload_n hx hb dX1_note_20 rfl (lv_at hl 0 rfl) ?_
    obtain ⟨a3, e1, hw⟩ := hw
    have p_a3 : pI S1 12 a3 := wf_r P.2.2.2.1 p_a0 e1
    refine gf_1_0 C P p_a0 e1 q_74 dX1_note_21 ?_
    refine lv_iconst (v := 0) hx hb dX1_note_24 (by decide) ?_
    refine lv_aload_n hx hb dX1_note_25 rfl (lv_at hl 0 rfl) ?_
    refine gf_1_3 C P p_a0 q_77 dX1_note_26 ?_
    obtain ⟨h3, hw⟩ := hw
    obtain ⟨h4, hw⟩ := hw
    obtain ⟨h5, hw⟩ := hw
    refine rc_i C P hl.1 p_a2 p_a3 q_395 q_385 q_384 q_26 (by decide) (by decide) h3 h4 h5 (Nat.le_of_ble_eq_true rfl) (Nat.le_of_ble_eq_true rfl) dX1_note_29 (fun H locs P => ?_)
    obtain ⟨S4, hS⟩ : ∃ z, z = (sIr S1 a3 (va_cpy (mI S1 a2) (mI S1 a3) (1 : Int32).toNatClampNeg (0 : Int32).toNatClampNeg ((mI S1 a0 3) : Int32).toNatClampNeg)) := ⟨_, rfl⟩
    have P : PW G A s H locs S0 S4 := by rw [hS]; exact P
    have p_a0 : pI S4 1 a0 := by rw [hS]; exact pI_x ext_sIr p_a0
    have p_a2 : pI S4 12 a2 := by rw [hS]; exact pI_x ext_sIr p_a2
    have p_a3 : pI S4 12 a3 := by rw [hS]; exact pI_x ext_sIr p_a3
    have hw := hw S4 hS
    refine lv_aload_n hx hb dX1_note_32 rfl (lv_at hl 0 rfl) ?_
    obtain ⟨a5, e1, hw⟩ := hw
    have p_a5 : pI S4 12 a5 := wf_r P.2.2.2.1 p_a0 e1
    refine gf_1_1 C P p_a0 e1 q_75 dX1_note_33 ?_
    refine lv_iconst (v := 1) hx hb dX1_note_36 (by decide) ?_
    refine lv_aload_n hx hb dX1_note_37 rfl (lv_at hl 0 rfl) ?_
    obtain ⟨a6, e1, hw⟩ := hw
    have p_a6 : pI S4 12 a6 := wf_r P.2.2.2.1 p_a0 e1
    refine gf_1_1 C P p_a0 e1 q_75 dX1_note_38 ?_
    refine lv_iconst (v := 0) hx hb dX1_note_41 (by decide) ?_
    refine lv_aload_n hx hb dX1_note_42 rfl (lv_at hl 0 rfl) ?_
    refine gf_1_3 C P p_a0 q_77 dX1_note_43 ?_
    obtain ⟨h3, hw⟩ := hw
    obtain ⟨h4, hw⟩ := hw
    obtain ⟨h5, hw⟩ := hw
    refine rc_i C P hl.1 p_a5 p_a6 q_395 q_385 q_384 q_26 (by decide) (by decide) h3 h4 h5 (Nat.le_of_ble_eq_true rfl) (Nat.le_of_ble_eq_true rfl) dX1_note_46 (fun H locs P => ?_)
    obtain ⟨S7, hS⟩ : ∃ z, z = (sIr S4 a6 (va_cpy (mI S4 a5) (mI S4 a6) (1 : Int32).toNatClampNeg (0 : Int32).toNatClampNeg ((mI S4 a0 3) : Int32).toNatClampNeg)) := ⟨_, rfl⟩
    have P : PW G A s H locs S0 S7 := by rw [hS]; exact P
    have p_a0 : pI S7 1 a0 := by rw [hS]; exact pI_x ext_sIr p_a0
    have p_a5 : pI S7 12 a5 := by rw [hS]; exact pI_x ext_sIr p_a5
    have p_a6 : pI S7 12 a6 := by rw [hS]; exact pI_x ext_sIr p_a6
    have hw := hw S7 hS
    refine lv_aload_n hx hb dX1_note_49 rfl (lv_at hl 0 rfl) ?_
    obtain ⟨a8, e1, hw⟩ := hw
    have p_a8 : pI S7 12 a8 := wf_r P.2.2.2.1 p_a0 e1
    refine gf_1_2 C P p_a0 e1 q_76 dX1_note_50 ?_
    refine lv_iconst (v := 1) hx hb dX1_note_53 (by decide) ?_
    refine lv_aload_n hx hb dX1_note_54 rfl (lv_at hl 0 rfl) ?_
    obtain ⟨a9, e1, hw⟩ := hw
    have p_a9 : pI S7 12 a9 := wf_r P.2.2.2.1 p_a0 e1
    refine gf_1_2 C P p_a0 e1 q_76 dX1_note_55 ?_
    refine lv_iconst (v := 0) hx hb dX1_note_58 (by decide) ?_
    refine lv_aload_n hx hb dX1_note_59 rfl (lv_at hl 0 rfl) ?_
    refine gf_1_3 C P p_a0 q_77 dX1_note_60 ?_
    obtain ⟨h3, hw⟩ := hw
    obtain ⟨h4, hw⟩ := hw
    obtain ⟨h5, hw⟩ := hw
    refine rc_i C P hl.1 p_a8 p_a9 q_395 q_385 q_384 q_26 (by decide) (by decide) h3 h4 h5 (Nat.le_of_ble_eq_true rfl) (Nat.le_of_ble_eq_true rfl) dX1_note_63 (fun H locs P => ?_)
    obtain ⟨S10, hS⟩ : ∃ z, z = (sIr S7 a9 (va_cpy (mI S7 a8) (mI S7 a9) (1 : Int32).toNatClampNeg (0 : Int32).toNatClampNeg ((mI S7 a0 3) : Int32).toNatClampNeg)) := ⟨_, rfl⟩
    have P : PW G A s H locs S0 S10 := by rw [hS]; exact P
    have p_a0 : pI S10 1 a0 := by rw [hS]; exact pI_x ext_sIr p_a0
    have p_a8 : pI S10 12 a8 := by rw [hS]; exact pI_x ext_sIr p_a8
    have p_a9 : pI S10 12 a9 := by rw [hS]; exact pI_x ext_sIr p_a9
    have hw := hw S10 hS
    exact tX1_note_66 C hr hex Q QX S10 a0 x1 x2 x3 p_a0 P (lv_sub hl [0, 1, 2, 3] rfl) (by omega) (by omega) hw
def wp_X1_note (Q : MS → Prop) (QX : String → MS → Prop) (S : MS) (a0 : Nat) (x1 : Int32) (x2 : Int32) (x3 : Int32) : Prop := wX1_note_0 Q QX S a0 x1 x2 x3
set_option maxHeartbeats 4000000 in
set_option maxRecDepth 100000 in
theorem met_X1_note {l : Launch} (hst : l.stackTraces = false) (G : GP) (sz : Nat) (Q : MS → Prop) (QX : String → MS → Prop) (S : MS) (a0 : Nat) (x1 : Int32) (x2 : Int32) (x3 : Int32) (p_a0 : pI S 1 a0) (hw : wp_X1_note Q QX S a0 x1 x2 x3) : vx_Met l yX1_note (.code yX1_note cX1_note 4 none :: GW) rmX1_note (va_Pc [.ref a0, .int x1, .int x2, .int x3] (PR G S sz)) (QV G S (FA G S sz) Q) (XX G S (FA G S sz) QX) 0 0 (FA G S sz) := by
  refine st_m (by decide +kernel) hst (fun p e s m below meth c C hr hnm hex P => ?_)
  refine en_m (Nat.le_of_ble_eq_true rfl) (lv := [(0, .ref a0), (1, .int x1), (2, .int x2), (3, .int x3)]) rfl (fun ls hl => ?_)
  have C : CF p l s m _ meth c "SkirmishGrid$Events" cX1_note 4 G (FA G S sz) := C
  exact tX1_note_0 C hr hex Q QX S a0 x1 x2 x3 p_a0 P hl (by omega) (by omega) hw
theorem cd_X1_note : yX1_note.cls = RX1 ∧ yX1_note.cls ≠ "java/lang/invoke/MethodHandle" ∧ yX1_note.cls ≠ "java/lang/invoke/VarHandle" ∧ (parseMethodDescriptor yX1_note.desc).map (fun d => d.parameters.length) = some 3 := by decide +kernel
abbrev rmX1_valueAt : Room := { frames := 0, cells := 0, slots := 0, locals := 0 }
def wX1_valueAt_0 (Q : Int32 → MS → Prop) (QX : String → MS → Prop) (S : MS) (a0 : Nat) (x1 : Int32) (x2 : Int32) : Prop := (((x2 : Int32).toInt = 0 → (∃ a1, mR S a0 0 = some a1 ∧ (vp_in x1 (mN S a1) ∧ Q (mI S a1 (x1 : Int32).toNatClampNeg) S))) ∧ (¬ (x2 : Int32).toInt = 0 → (((x2 : Int32).toInt = 1 → (∃ a2, mR S a0 1 = some a2 ∧ (vp_in x1 (mN S a2) ∧ Q (mI S a2 (x1 : Int32).toNatClampNeg) S))) ∧ (¬ (x2 : Int32).toInt = 1 → (∃ a3, mR S a0 2 = some a3 ∧ (vp_in x1 (mN S a3) ∧ Q (mI S a3 (x1 : Int32).toNatClampNeg) S))))))
set_option maxHeartbeats 4000000 in
set_option maxRecDepth 100000 in
theorem tX1_valueAt_0 {p : Program} {l : Launch} {e : Env} {s : State} {m : MethodId} {args : Array Value} {below : List Frame} {meth : Method} {c : Code} {H : Heap} {locs : List Loc} {cells slots : Nat} {G : GP} {A : Nat → Prop} {S0 : MS} {ls : Array Slot} (C : CF p l s m args meth c "SkirmishGrid$Events" cX1_valueAt 3 G A) (hr : meth.sig.returnType = (some .int)) (hex : ∀ x ∈ c.exceptionTable.toList, False) (Q : Int32 → MS → Prop) (QX : String → MS → Prop) (S : MS) (a0 : Nat) (x1 : Int32) (x2 : Int32) (p_a0 : pI S 1 a0) (P : PW G A s H locs S0 S) (hl : lv_has ls 3 [(0, .ref a0), (1, .int x1), (2, .int x2)]) (hcc : cells + 0 ≤ 0) (hss : slots + 0 ≤ 0) (hw : wX1_valueAt_0 Q QX S a0 x1 x2) : W p l e rmX1_valueAt s m args below meth c H locs cells slots (vx_MQ below (QI G S0 A Q) (XX G S0 A QX) args s 0 0 A) (F0 m 0 ls []) := by
  have hx := CF_x C
  have hb := CF_b C
  unfold wX1_valueAt_0 at hw
  refine lv_iload_n hx hb dX1_valueAt_0 rfl (lv_at hl 2 rfl) ?_
  by_cases hc0 : (x2 : Int32).toInt = 0
  · have hw := hw.1 hc0
    refine lv_lookup (tgt := 28) (off := 27) hx hb dX1_valueAt_1 (by decide) (by rw [hc0]; rfl) (by decide) ?_
    refine lv_aload_n hx hb dX1_valueAt_28 rfl (lv_at hl 0 rfl) ?_
    obtain ⟨a1, e1, hw⟩ := hw
    have p_a1 : pI S 12 a1 := wf_r P.2.2.2.1 p_a0 e1
    refine gf_1_0 C P p_a0 e1 q_74 dX1_valueAt_29 ?_
    refine lv_iload_n hx hb dX1_valueAt_32 rfl (lv_at hl 1 rfl) ?_
    obtain ⟨h1, hw⟩ := hw
    refine ra_i C P p_a1 h1 dX1_valueAt_33 ?_
    exact e_i C hr rfl P hw (by omega) (by omega) dX1_valueAt_34
  have hw := hw.2 hc0
  by_cases hc1 : (x2 : Int32).toInt = 1
  · have hw := hw.1 hc1
    refine lv_lookup (tgt := 35) (off := 34) hx hb dX1_valueAt_1 (by decide) (by rw [hc1]; rfl) (by decide) ?_
    refine lv_aload_n hx hb dX1_valueAt_35 rfl (lv_at hl 0 rfl) ?_
    obtain ⟨a2, e1, hw⟩ := hw
    have p_a2 : pI S 12 a2 := wf_r P.2.2.2.1 p_a0 e1
    refine gf_1_1 C P p_a0 e1 q_75 dX1_valueAt_36 ?_
    refine lv_iload_n hx hb dX1_valueAt_39 rfl (lv_at hl 1 rfl) ?_
    obtain ⟨h1, hw⟩ := hw
    refine ra_i C P p_a2 h1 dX1_valueAt_40 ?_
    exact e_i C hr rfl P hw (by omega) (by omega) dX1_valueAt_41
  have hw := hw.2 hc1
  refine lv_lookup (tgt := 42) (off := 41) hx hb dX1_valueAt_1 (by decide) (ls_out2 hc0 hc1) (by decide) ?_
  refine lv_aload_n hx hb dX1_valueAt_42 rfl (lv_at hl 0 rfl) ?_
  obtain ⟨a3, e1, hw⟩ := hw
  have p_a3 : pI S 12 a3 := wf_r P.2.2.2.1 p_a0 e1
  refine gf_1_2 C P p_a0 e1 q_76 dX1_valueAt_43 ?_
  refine lv_iload_n hx hb dX1_valueAt_46 rfl (lv_at hl 1 rfl) ?_
  obtain ⟨h1, hw⟩ := hw
  refine ra_i C P p_a3 h1 dX1_valueAt_47 ?_
  exact e_i C hr rfl P hw (by omega) (by omega) dX1_valueAt_48
def wp_X1_valueAt (Q : Int32 → MS → Prop) (QX : String → MS → Prop) (S : MS) (a0 : Nat) (x1 : Int32) (x2 : Int32) : Prop := wX1_valueAt_0 Q QX S a0 x1 x2
set_option maxHeartbeats 4000000 in
set_option maxRecDepth 100000 in
theorem met_X1_valueAt {l : Launch} (hst : l.stackTraces = false) (G : GP) (sz : Nat) (Q : Int32 → MS → Prop) (QX : String → MS → Prop) (S : MS) (a0 : Nat) (x1 : Int32) (x2 : Int32) (p_a0 : pI S 1 a0) (hw : wp_X1_valueAt Q QX S a0 x1 x2) : vx_Met l yX1_valueAt (.code yX1_valueAt cX1_valueAt 3 (some .int) :: GW) rmX1_valueAt (va_Pc [.ref a0, .int x1, .int x2] (PR G S sz)) (QI G S (FA G S sz) Q) (XX G S (FA G S sz) QX) 0 0 (FA G S sz) := by
  refine st_m (by decide +kernel) hst (fun p e s m below meth c C hr hnm hex P => ?_)
  refine en_m (Nat.le_of_ble_eq_true rfl) (lv := [(0, .ref a0), (1, .int x1), (2, .int x2)]) rfl (fun ls hl => ?_)
  have C : CF p l s m _ meth c "SkirmishGrid$Events" cX1_valueAt 3 G (FA G S sz) := C
  exact tX1_valueAt_0 C hr hex Q QX S a0 x1 x2 p_a0 P hl (by omega) (by omega) hw
theorem cd_X1_valueAt : yX1_valueAt.cls = RX1 ∧ yX1_valueAt.cls ≠ "java/lang/invoke/MethodHandle" ∧ yX1_valueAt.cls ≠ "java/lang/invoke/VarHandle" ∧ (parseMethodDescriptor yX1_valueAt.desc).map (fun d => d.parameters.length) = some 2 := by decide +kernel
abbrev rmX1_copyFrom : Room := { frames := 1, cells := 0, slots := 0, locals := 60 }
def wX1_copyFrom_0 (Q : MS → Prop) (QX : String → MS → Prop) (S : MS) (a0 : Nat) (b1 : Nat) : Prop := (∀ S1, S1 = (sI S a0 3 (mI S b1 3)) → (∃ a2, mR S1 b1 0 = some a2 ∧ (∃ a3, mR S1 a0 0 = some a3 ∧ (¬ (mI S1 a0 3) < 0 ∧ ((0 : Int32).toNatClampNeg + ((mI S1 a0 3) : Int32).toNatClampNeg ≤ mN S1 a2 ∧ ((0 : Int32).toNatClampNeg + ((mI S1 a0 3) : Int32).toNatClampNeg ≤ mN S1 a3 ∧ (∀ S4, S4 = (sIr S1 a3 (va_cpy (mI S1 a2) (mI S1 a3) (0 : Int32).toNatClampNeg (0 : Int32).toNatClampNeg ((mI S1 a0 3) : Int32).toNatClampNeg)) → (∃ a5, mR S4 b1 1 = some a5 ∧ (∃ a6, mR S4 a0 1 = some a6 ∧ (¬ (mI S4 a0 3) < 0 ∧ ((0 : Int32).toNatClampNeg + ((mI S4 a0 3) : Int32).toNatClampNeg ≤ mN S4 a5 ∧ ((0 : Int32).toNatClampNeg + ((mI S4 a0 3) : Int32).toNatClampNeg ≤ mN S4 a6 ∧ (∀ S7, S7 = (sIr S4 a6 (va_cpy (mI S4 a5) (mI S4 a6) (0 : Int32).toNatClampNeg (0 : Int32).toNatClampNeg ((mI S4 a0 3) : Int32).toNatClampNeg)) → (∃ a8, mR S7 b1 2 = some a8 ∧ (∃ a9, mR S7 a0 2 = some a9 ∧ (¬ (mI S7 a0 3) < 0 ∧ ((0 : Int32).toNatClampNeg + ((mI S7 a0 3) : Int32).toNatClampNeg ≤ mN S7 a8 ∧ ((0 : Int32).toNatClampNeg + ((mI S7 a0 3) : Int32).toNatClampNeg ≤ mN S7 a9 ∧ (∀ S10, S10 = (sIr S7 a9 (va_cpy (mI S7 a8) (mI S7 a9) (0 : Int32).toNatClampNeg (0 : Int32).toNatClampNeg ((mI S7 a0 3) : Int32).toNatClampNeg)) → Q S10)))))))))))))))))))
set_option maxHeartbeats 4000000 in
set_option maxRecDepth 100000 in
theorem tX1_copyFrom_0 {p : Program} {l : Launch} {e : Env} {s : State} {m : MethodId} {args : Array Value} {below : List Frame} {meth : Method} {c : Code} {H : Heap} {locs : List Loc} {cells slots : Nat} {G : GP} {A : Nat → Prop} {S0 : MS} {ls : Array Slot} (C : CF p l s m args meth c "SkirmishGrid$Events" cX1_copyFrom 2 G A) (hr : meth.sig.returnType = none) (hex : ∀ x ∈ c.exceptionTable.toList, False) (Q : MS → Prop) (QX : String → MS → Prop) (S : MS) (a0 : Nat) (b1 : Nat) (p_a0 : pI S 1 a0) (p_b1 : pI S 1 b1) (P : PW G A s H locs S0 S) (hl : lv_has ls 2 [(0, .ref a0), (1, .ref b1)]) (hcc : cells + 0 ≤ 0) (hss : slots + 0 ≤ 0) (hw : wX1_copyFrom_0 Q QX S a0 b1) : W p l e rmX1_copyFrom s m args below meth c H locs cells slots (vx_MQ below (QV G S0 A Q) (XX G S0 A QX) args s 0 0 A) (F0 m 0 ls []) := by
  have hx := CF_x C
  have hb := CF_b C
  unfold wX1_copyFrom_0 at hw
  refine lv_aload_n hx hb dX1_copyFrom_0 rfl (lv_at hl 0 rfl) ?_
  refine lv_aload_n hx hb dX1_copyFrom_1 rfl (lv_at hl 1 rfl) ?_
  refine gf_1_3 C P p_b1 q_77 dX1_copyFrom_2 ?_
  refine pf_1_3 C P p_a0 q_77 dX1_copyFrom_5 (fun H locs P => ?_)
  obtain ⟨S1, hS⟩ : ∃ z, z = (sI S a0 3 (mI S b1 3)) := ⟨_, rfl⟩
  have P : PW G A s H locs S0 S1 := by rw [hS]; exact P
  have p_a0 : pI S1 1 a0 := by rw [hS]; exact pI_x ext_sI p_a0
  have p_b1 : pI S1 1 b1 := by rw [hS]; exact pI_x ext_sI p_b1
  have hw := hw S1 hS
  refine lv_aload_n hx hb dX1_copyFrom_8 rfl (lv_at hl 1 rfl) ?_
  obtain ⟨a2, e1, hw⟩ := hw
  have p_a2 : pI S1 12 a2 := wf_r P.2.2.2.1 p_b1 e1
  refine gf_1_0 C P p_b1 e1 q_74 dX1_copyFrom_9 ?_
  refine lv_iconst (v := 0) hx hb dX1_copyFrom_12 (by decide) ?_
  refine lv_aload_n hx hb dX1_copyFrom_13 rfl (lv_at hl 0 rfl) ?_
  obtain ⟨a3, e1, hw⟩ := hw
  have p_a3 : pI S1 12 a3 := wf_r P.2.2.2.1 p_a0 e1
  refine gf_1_0 C P p_a0 e1 q_74 dX1_copyFrom_14 ?_
  refine lv_iconst (v := 0) hx hb dX1_copyFrom_17 (by decide) ?_
  refine lv_aload_n hx hb dX1_copyFrom_18 rfl (lv_at hl 0 rfl) ?_
  refine gf_1_3 C P p_a0 q_77 dX1_copyFrom_19 ?_
  obtain ⟨h3, hw⟩ := hw
  obtain ⟨h4, hw⟩ := hw
  obtain ⟨h5, hw⟩ := hw
  refine rc_i C P hl.1 p_a2 p_a3 q_395 q_385 q_384 q_26 (by decide) (by decide) h3 h4 h5 (Nat.le_of_ble_eq_true rfl) (Nat.le_of_ble_eq_true rfl) dX1_copyFrom_22 (fun H locs P => ?_)
  obtain ⟨S4, hS⟩ : ∃ z, z = (sIr S1 a3 (va_cpy (mI S1 a2) (mI S1 a3) (0 : Int32).toNatClampNeg (0 : Int32).toNatClampNeg ((mI S1 a0 3) : Int32).toNatClampNeg)) := ⟨_, rfl⟩
  have P : PW G A s H locs S0 S4 := by rw [hS]; exact P
  have p_a0 : pI S4 1 a0 := by rw [hS]; exact pI_x ext_sIr p_a0
  have p_b1 : pI S4 1 b1 := by rw [hS]; exact pI_x ext_sIr p_b1
  have p_a2 : pI S4 12 a2 := by rw [hS]; exact pI_x ext_sIr p_a2
  have p_a3 : pI S4 12 a3 := by rw [hS]; exact pI_x ext_sIr p_a3
  have hw := hw S4 hS
  refine lv_aload_n hx hb dX1_copyFrom_25 rfl (lv_at hl 1 rfl) ?_
  obtain ⟨a5, e1, hw⟩ := hw
  have p_a5 : pI S4 12 a5 := wf_r P.2.2.2.1 p_b1 e1
  refine gf_1_1 C P p_b1 e1 q_75 dX1_copyFrom_26 ?_
  refine lv_iconst (v := 0) hx hb dX1_copyFrom_29 (by decide) ?_
  refine lv_aload_n hx hb dX1_copyFrom_30 rfl (lv_at hl 0 rfl) ?_
  obtain ⟨a6, e1, hw⟩ := hw
  have p_a6 : pI S4 12 a6 := wf_r P.2.2.2.1 p_a0 e1
  refine gf_1_1 C P p_a0 e1 q_75 dX1_copyFrom_31 ?_
  refine lv_iconst (v := 0) hx hb dX1_copyFrom_34 (by decide) ?_
  refine lv_aload_n hx hb dX1_copyFrom_35 rfl (lv_at hl 0 rfl) ?_
  refine gf_1_3 C P p_a0 q_77 dX1_copyFrom_36 ?_
  obtain ⟨h3, hw⟩ := hw
  obtain ⟨h4, hw⟩ := hw
  obtain ⟨h5, hw⟩ := hw
  refine rc_i C P hl.1 p_a5 p_a6 q_395 q_385 q_384 q_26 (by decide) (by decide) h3 h4 h5 (Nat.le_of_ble_eq_true rfl) (Nat.le_of_ble_eq_true rfl) dX1_copyFrom_39 (fun H locs P => ?_)
  obtain ⟨S7, hS⟩ : ∃ z, z = (sIr S4 a6 (va_cpy (mI S4 a5) (mI S4 a6) (0 : Int32).toNatClampNeg (0 : Int32).toNatClampNeg ((mI S4 a0 3) : Int32).toNatClampNeg)) := ⟨_, rfl⟩
  have P : PW G A s H locs S0 S7 := by rw [hS]; exact P
  have p_a0 : pI S7 1 a0 := by rw [hS]; exact pI_x ext_sIr p_a0
  have p_b1 : pI S7 1 b1 := by rw [hS]; exact pI_x ext_sIr p_b1
  have p_a5 : pI S7 12 a5 := by rw [hS]; exact pI_x ext_sIr p_a5
  have p_a6 : pI S7 12 a6 := by rw [hS]; exact pI_x ext_sIr p_a6
  have hw := hw S7 hS
  refine lv_aload_n hx hb dX1_copyFrom_42 rfl (lv_at hl 1 rfl) ?_
  obtain ⟨a8, e1, hw⟩ := hw
  have p_a8 : pI S7 12 a8 := wf_r P.2.2.2.1 p_b1 e1
  refine gf_1_2 C P p_b1 e1 q_76 dX1_copyFrom_43 ?_
  refine lv_iconst (v := 0) hx hb dX1_copyFrom_46 (by decide) ?_
  refine lv_aload_n hx hb dX1_copyFrom_47 rfl (lv_at hl 0 rfl) ?_
  obtain ⟨a9, e1, hw⟩ := hw
  have p_a9 : pI S7 12 a9 := wf_r P.2.2.2.1 p_a0 e1
  refine gf_1_2 C P p_a0 e1 q_76 dX1_copyFrom_48 ?_
  refine lv_iconst (v := 0) hx hb dX1_copyFrom_51 (by decide) ?_
  refine lv_aload_n hx hb dX1_copyFrom_52 rfl (lv_at hl 0 rfl) ?_
  refine gf_1_3 C P p_a0 q_77 dX1_copyFrom_53 ?_
  obtain ⟨h3, hw⟩ := hw
  obtain ⟨h4, hw⟩ := hw
  obtain ⟨h5, hw⟩ := hw
  refine rc_i C P hl.1 p_a8 p_a9 q_395 q_385 q_384 q_26 (by decide) (by decide) h3 h4 h5 (Nat.le_of_ble_eq_true rfl) (Nat.le_of_ble_eq_true rfl) dX1_copyFrom_56 (fun H locs P => ?_)
  obtain ⟨S10, hS⟩ : ∃ z, z = (sIr S7 a9 (va_cpy (mI S7 a8) (mI S7 a9) (0 : Int32).toNatClampNeg (0 : Int32).toNatClampNeg ((mI S7 a0 3) : Int32).toNatClampNeg)) := ⟨_, rfl⟩
  have P : PW G A s H locs S0 S10 := by rw [hS]; exact P
  have p_a8 : pI S10 12 a8 := by rw [hS]; exact pI_x ext_sIr p_a8
  have p_a9 : pI S10 12 a9 := by rw [hS]; exact pI_x ext_sIr p_a9
  have hw := hw S10 hS
  exact e_v C hr P hw (by omega) (by omega) dX1_copyFrom_59
def wp_X1_copyFrom (Q : MS → Prop) (QX : String → MS → Prop) (S : MS) (a0 : Nat) (b1 : Nat) : Prop := wX1_copyFrom_0 Q QX S a0 b1
set_option maxHeartbeats 4000000 in
set_option maxRecDepth 100000 in
theorem met_X1_copyFrom {l : Launch} (hst : l.stackTraces = false) (G : GP) (sz : Nat) (Q : MS → Prop) (QX : String → MS → Prop) (S : MS) (a0 : Nat) (b1 : Nat) (p_a0 : pI S 1 a0) (p_b1 : pI S 1 b1) (hw : wp_X1_copyFrom Q QX S a0 b1) : vx_Met l yX1_copyFrom (.code yX1_copyFrom cX1_copyFrom 2 none :: GW) rmX1_copyFrom (va_Pc [.ref a0, .ref b1] (PR G S sz)) (QV G S (FA G S sz) Q) (XX G S (FA G S sz) QX) 0 0 (FA G S sz) := by
  refine st_m (by decide +kernel) hst (fun p e s m below meth c C hr hnm hex P => ?_)
  refine en_m (Nat.le_of_ble_eq_true rfl) (lv := [(0, .ref a0), (1, .ref b1)]) rfl (fun ls hl => ?_)
  have C : CF p l s m _ meth c "SkirmishGrid$Events" cX1_copyFrom 2 G (FA G S sz) := C
  exact tX1_copyFrom_0 C hr hex Q QX S a0 b1 p_a0 p_b1 P hl (by omega) (by omega) hw
theorem cd_X1_copyFrom : yX1_copyFrom.cls = RX1 ∧ yX1_copyFrom.cls ≠ "java/lang/invoke/MethodHandle" ∧ yX1_copyFrom.cls ≠ "java/lang/invoke/VarHandle" ∧ (parseMethodDescriptor yX1_copyFrom.desc).map (fun d => d.parameters.length) = some 1 := by decide +kernel
abbrev rmX1_isSameAs : Room := { frames := 0, cells := 0, slots := 0, locals := 0 }
def wX1_isSameAs_15 (Q : Int32 → MS → Prop) (QX : String → MS → Prop) (k15 : MS → Nat → Nat → Int32 → Prop) (S : MS) (a0 : Nat) (u1 : Nat) (y2 : Int32) : Prop := (((mI S a0 3) ≤ y2 → Q 1 S) ∧ (¬ (mI S a0 3) ≤ y2 → (∃ a1, mR S a0 0 = some a1 ∧ (vp_in y2 (mN S a1) ∧ (∃ a2, mR S u1 0 = some a2 ∧ (vp_in y2 (mN S a2) ∧ ((¬ (mI S a1 (y2 : Int32).toNatClampNeg) = (mI S a2 (y2 : Int32).toNatClampNeg) → Q 0 S) ∧ ((mI S a1 (y2 : Int32).toNatClampNeg) = (mI S a2 (y2 : Int32).toNatClampNeg) → (∃ a3, mR S a0 1 = some a3 ∧ (vp_in y2 (mN S a3) ∧ (∃ a4, mR S u1 1 = some a4 ∧ (vp_in y2 (mN S a4) ∧ ((¬ (mI S a3 (y2 : Int32).toNatClampNeg) = (mI S a4 (y2 : Int32).toNatClampNeg) → Q 0 S) ∧ ((mI S a3 (y2 : Int32).toNatClampNeg) = (mI S a4 (y2 : Int32).toNatClampNeg) → (∃ a5, mR S a0 2 = some a5 ∧ (vp_in y2 (mN S a5) ∧ (∃ a6, mR S u1 2 = some a6 ∧ (vp_in y2 (mN S a6) ∧ (((mI S a5 (y2 : Int32).toNatClampNeg) = (mI S a6 (y2 : Int32).toNatClampNeg) → k15 S a0 u1 (y2 + 1)) ∧ (¬ (mI S a5 (y2 : Int32).toNatClampNeg) = (mI S a6 (y2 : Int32).toNatClampNeg) → Q 0 S))))))))))))))))))))
set_option maxHeartbeats 4000000 in
set_option maxRecDepth 100000 in
theorem tX1_isSameAs_15 {p : Program} {l : Launch} {e : Env} {s : State} {m : MethodId} {args : Array Value} {below : List Frame} {meth : Method} {c : Code} {H : Heap} {locs : List Loc} {cells slots : Nat} {G : GP} {A : Nat → Prop} {S0 : MS} {ls : Array Slot} (C : CF p l s m args meth c "SkirmishGrid$Events" cX1_isSameAs 3 G A) (hr : meth.sig.returnType = (some .boolean)) (hex : ∀ x ∈ c.exceptionTable.toList, False) (Q : Int32 → MS → Prop) (QX : String → MS → Prop) (k15 : MS → Nat → Nat → Int32 → Prop) (kh15 : ∀ (S : MS) (a0 : Nat) (u1 : Nat) (y2 : Int32) (cells slots : Nat) (H : Heap) (locs : List Loc) (ls : Array Slot), pI S 1 a0 → pI S 1 u1 → PW G A s H locs S0 S → lv_has ls 3 [(0, .ref a0), (1, .ref u1), (2, .int y2)] → cells + 0 ≤ 0 → slots + 0 ≤ 0 → k15 S a0 u1 y2 → W p l e rmX1_isSameAs s m args below meth c H locs cells slots (vx_MQ below (QI G S0 A Q) (XX G S0 A QX) args s 0 0 A) (F0 m 15 ls [])) (S : MS) (a0 : Nat) (u1 : Nat) (y2 : Int32) (p_a0 : pI S 1 a0) (p_u1 : pI S 1 u1) (P : PW G A s H locs S0 S) (hl : lv_has ls 3 [(0, .ref a0), (1, .ref u1), (2, .int y2)]) (hcc : cells + 0 ≤ 0) (hss : slots + 0 ≤ 0) (hw : wX1_isSameAs_15 Q QX k15 S a0 u1 y2) : W p l e rmX1_isSameAs s m args below meth c H locs cells slots (vx_MQ below (QI G S0 A Q) (XX G S0 A QX) args s 0 0 A) (F0 m 15 ls []) := by
  have hx := CF_x C
  have hb := CF_b C
  unfold wX1_isSameAs_15 at hw
  refine lv_iload_n hx hb dX1_isSameAs_15 rfl (lv_at hl 2 rfl) ?_
  refine lv_aload_n hx hb dX1_isSameAs_16 rfl (lv_at hl 0 rfl) ?_
  refine gf_1_3 C P p_a0 q_77 dX1_isSameAs_17 ?_
  refine lv_icmp_ge (tgt := 76) hx hb dX1_isSameAs_20 (by decide) (fun hc => ?_) (fun hc => ?_)
  · have hw := hw.1 hc
    refine lv_iconst (v := 1) hx hb dX1_isSameAs_76 (by decide) ?_
    exact e_i C hr (by decide +kernel) P hw (by omega) (by omega) dX1_isSameAs_77
  · have hw := hw.2 hc
    refine lv_aload_n hx hb dX1_isSameAs_23 rfl (lv_at hl 0 rfl) ?_
    obtain ⟨a1, e1, hw⟩ := hw
    have p_a1 : pI S 12 a1 := wf_r P.2.2.2.1 p_a0 e1
    refine gf_1_0 C P p_a0 e1 q_74 dX1_isSameAs_24 ?_
    refine lv_iload_n hx hb dX1_isSameAs_27 rfl (lv_at hl 2 rfl) ?_
    obtain ⟨h1, hw⟩ := hw
    refine ra_i C P p_a1 h1 dX1_isSameAs_28 ?_
    refine lv_aload_n hx hb dX1_isSameAs_29 rfl (lv_at hl 1 rfl) ?_
    obtain ⟨a2, e1, hw⟩ := hw
    have p_a2 : pI S 12 a2 := wf_r P.2.2.2.1 p_u1 e1
    refine gf_1_0 C P p_u1 e1 q_74 dX1_isSameAs_30 ?_
    refine lv_iload_n hx hb dX1_isSameAs_33 rfl (lv_at hl 2 rfl) ?_
    obtain ⟨h1, hw⟩ := hw
    refine ra_i C P p_a2 h1 dX1_isSameAs_34 ?_
    refine lv_icmp_ne (tgt := 68) hx hb dX1_isSameAs_35 (by decide) (fun hc => ?_) (fun hc => ?_)
    · have hw := hw.1 hc
      refine lv_iconst (v := 0) hx hb dX1_isSameAs_68 (by decide) ?_
      exact e_i C hr (by decide +kernel) P hw (by omega) (by omega) dX1_isSameAs_69
    · have hw := hw.2 hc
      refine lv_aload_n hx hb dX1_isSameAs_38 rfl (lv_at hl 0 rfl) ?_
      obtain ⟨a3, e1, hw⟩ := hw
      have p_a3 : pI S 12 a3 := wf_r P.2.2.2.1 p_a0 e1
      refine gf_1_1 C P p_a0 e1 q_75 dX1_isSameAs_39 ?_
      refine lv_iload_n hx hb dX1_isSameAs_42 rfl (lv_at hl 2 rfl) ?_
      obtain ⟨h1, hw⟩ := hw
      refine ra_i C P p_a3 h1 dX1_isSameAs_43 ?_
      refine lv_aload_n hx hb dX1_isSameAs_44 rfl (lv_at hl 1 rfl) ?_
      obtain ⟨a4, e1, hw⟩ := hw
      have p_a4 : pI S 12 a4 := wf_r P.2.2.2.1 p_u1 e1
      refine gf_1_1 C P p_u1 e1 q_75 dX1_isSameAs_45 ?_
      refine lv_iload_n hx hb dX1_isSameAs_48 rfl (lv_at hl 2 rfl) ?_
      obtain ⟨h1, hw⟩ := hw
      refine ra_i C P p_a4 h1 dX1_isSameAs_49 ?_
      refine lv_icmp_ne (tgt := 68) hx hb dX1_isSameAs_50 (by decide) (fun hc => ?_) (fun hc => ?_)
      · have hw := hw.1 hc
        refine lv_iconst (v := 0) hx hb dX1_isSameAs_68 (by decide) ?_
        exact e_i C hr (by decide +kernel) P hw (by omega) (by omega) dX1_isSameAs_69
      · have hw := hw.2 hc
        refine lv_aload_n hx hb dX1_isSameAs_53 rfl (lv_at hl 0 rfl) ?_
        obtain ⟨a5, e1, hw⟩ := hw
        have p_a5 : pI S 12 a5 := wf_r P.2.2.2.1 p_a0 e1
        refine gf_1_2 C P p_a0 e1 q_76 dX1_isSameAs_54 ?_
        refine lv_iload_n hx hb dX1_isSameAs_57 rfl (lv_at hl 2 rfl) ?_
        obtain ⟨h1, hw⟩ := hw
        refine ra_i C P p_a5 h1 dX1_isSameAs_58 ?_
        refine lv_aload_n hx hb dX1_isSameAs_59 rfl (lv_at hl 1 rfl) ?_
        obtain ⟨a6, e1, hw⟩ := hw
        have p_a6 : pI S 12 a6 := wf_r P.2.2.2.1 p_u1 e1
        refine gf_1_2 C P p_u1 e1 q_76 dX1_isSameAs_60 ?_
        refine lv_iload_n hx hb dX1_isSameAs_63 rfl (lv_at hl 2 rfl) ?_
        obtain ⟨h1, hw⟩ := hw
        refine ra_i C P p_a6 h1 dX1_isSameAs_64 ?_
        refine lv_icmp_eq (tgt := 70) hx hb dX1_isSameAs_65 (by decide) (fun hc => ?_) (fun hc => ?_)
        · have hw := hw.1 hc
          refine lv_iinc (v := (y2 + 1)) (lv' := [(2, .int (y2 + 1)), (0, .ref a0), (1, .ref u1)]) hx hb dX1_isSameAs_70 hl (k := 2) rfl (by rfl) (by decide) rfl (fun ls hl => ?_)
          refine lv_goto (tgt := 15) hx hb dX1_isSameAs_73 (by decide) ?_
          exact kh15 S a0 u1 (y2 + 1) _ _ _ _ _ p_a0 p_u1 P (lv_sub hl [1, 2, 0] rfl) (by omega) (by omega) hw
        · have hw := hw.2 hc
          refine lv_iconst (v := 0) hx hb dX1_isSameAs_68 (by decide) ?_
          exact e_i C hr (by decide +kernel) P hw (by omega) (by omega) dX1_isSameAs_69
def lX1_isSameAs_15 (Q : Int32 → MS → Prop) (QX : String → MS → Prop) : Nat → MS → Nat → Nat → Int32 → Prop
  | 0 => fun _ _ _ _ => False
  | n + 1 => fun S a0 u1 y2 => wX1_isSameAs_15 Q QX (lX1_isSameAs_15 Q QX n) S a0 u1 y2
theorem tlX1_isSameAs_15 {p : Program} {l : Launch} {e : Env} {s : State} {m : MethodId} {args : Array Value} {below : List Frame} {meth : Method} {c : Code} {G : GP} {A : Nat → Prop} {S0 : MS} (C : CF p l s m args meth c "SkirmishGrid$Events" cX1_isSameAs 3 G A) (hr : meth.sig.returnType = (some .boolean)) (hex : ∀ x ∈ c.exceptionTable.toList, False) (Q : Int32 → MS → Prop) (QX : String → MS → Prop) : ∀ (n : Nat), ∀ (S : MS) (a0 : Nat) (u1 : Nat) (y2 : Int32) (cells slots : Nat) (H : Heap) (locs : List Loc) (ls : Array Slot), pI S 1 a0 → pI S 1 u1 → PW G A s H locs S0 S → lv_has ls 3 [(0, .ref a0), (1, .ref u1), (2, .int y2)] → cells + 0 ≤ 0 → slots + 0 ≤ 0 → lX1_isSameAs_15 Q QX n S a0 u1 y2 → W p l e rmX1_isSameAs s m args below meth c H locs cells slots (vx_MQ below (QI G S0 A Q) (XX G S0 A QX) args s 0 0 A) (F0 m 15 ls []) := by
  intro n
  induction n with
  | zero => intro S a0 u1 y2 cells slots H locs ls p_a0 p_u1 P hl hcc hss hw; exact hw.elim
  | succ n ih => intro S a0 u1 y2 cells slots H locs ls p_a0 p_u1 P hl hcc hss hw; exact tX1_isSameAs_15 C hr hex Q QX (lX1_isSameAs_15 Q QX n) ih S a0 u1 y2 p_a0 p_u1 P hl hcc hss hw
def wX1_isSameAs_0 (Q : Int32 → MS → Prop) (QX : String → MS → Prop) (S : MS) (a0 : Nat) (b1 : Nat) : Prop := (((mI S a0 3) = (mI S b1 3) → (∃ n, lX1_isSameAs_15 Q QX n S a0 b1 0)) ∧ (¬ (mI S a0 3) = (mI S b1 3) → Q 0 S))
set_option maxHeartbeats 4000000 in
set_option maxRecDepth 100000 in
theorem tX1_isSameAs_0 {p : Program} {l : Launch} {e : Env} {s : State} {m : MethodId} {args : Array Value} {below : List Frame} {meth : Method} {c : Code} {H : Heap} {locs : List Loc} {cells slots : Nat} {G : GP} {A : Nat → Prop} {S0 : MS} {ls : Array Slot} (C : CF p l s m args meth c "SkirmishGrid$Events" cX1_isSameAs 3 G A) (hr : meth.sig.returnType = (some .boolean)) (hex : ∀ x ∈ c.exceptionTable.toList, False) (Q : Int32 → MS → Prop) (QX : String → MS → Prop) (S : MS) (a0 : Nat) (b1 : Nat) (p_a0 : pI S 1 a0) (p_b1 : pI S 1 b1) (P : PW G A s H locs S0 S) (hl : lv_has ls 3 [(0, .ref a0), (1, .ref b1)]) (hcc : cells + 0 ≤ 0) (hss : slots + 0 ≤ 0) (hw : wX1_isSameAs_0 Q QX S a0 b1) : W p l e rmX1_isSameAs s m args below meth c H locs cells slots (vx_MQ below (QI G S0 A Q) (XX G S0 A QX) args s 0 0 A) (F0 m 0 ls []) := by
  have hx := CF_x C
  have hb := CF_b C
  unfold wX1_isSameAs_0 at hw
  refine lv_aload_n hx hb dX1_isSameAs_0 rfl (lv_at hl 0 rfl) ?_
  refine gf_1_3 C P p_a0 q_77 dX1_isSameAs_1 ?_
  refine lv_aload_n hx hb dX1_isSameAs_4 rfl (lv_at hl 1 rfl) ?_
  refine gf_1_3 C P p_b1 q_77 dX1_isSameAs_5 ?_
  refine lv_icmp_eq (tgt := 13) hx hb dX1_isSameAs_8 (by decide) (fun hc => ?_) (fun hc => ?_)
  · have hw := hw.1 hc
    refine lv_iconst (v := 0) hx hb dX1_isSameAs_13 (by decide) ?_
    refine lv_istore_n (lv' := [(2, .int 0), (0, .ref a0), (1, .ref b1)]) hx hb dX1_isSameAs_14 rfl hl (by decide) rfl (fun ls hl => ?_)
    obtain ⟨n, hw⟩ := hw
    exact tlX1_isSameAs_15 C hr hex Q QX n S a0 b1 0 _ _ _ _ _ p_a0 p_b1 P (lv_sub hl [1, 2, 0] rfl) (by omega) (by omega) hw
  · have hw := hw.2 hc
    refine lv_iconst (v := 0) hx hb dX1_isSameAs_11 (by decide) ?_
    exact e_i C hr (by decide +kernel) P hw (by omega) (by omega) dX1_isSameAs_12
def wp_X1_isSameAs (Q : Int32 → MS → Prop) (QX : String → MS → Prop) (S : MS) (a0 : Nat) (b1 : Nat) : Prop := wX1_isSameAs_0 Q QX S a0 b1
set_option maxHeartbeats 4000000 in
set_option maxRecDepth 100000 in
theorem met_X1_isSameAs {l : Launch} (hst : l.stackTraces = false) (G : GP) (sz : Nat) (Q : Int32 → MS → Prop) (QX : String → MS → Prop) (S : MS) (a0 : Nat) (b1 : Nat) (p_a0 : pI S 1 a0) (p_b1 : pI S 1 b1) (hw : wp_X1_isSameAs Q QX S a0 b1) : vx_Met l yX1_isSameAs (.code yX1_isSameAs cX1_isSameAs 3 (some .boolean) :: GW) rmX1_isSameAs (va_Pc [.ref a0, .ref b1] (PR G S sz)) (QI G S (FA G S sz) Q) (XX G S (FA G S sz) QX) 0 0 (FA G S sz) := by
  refine st_m (by decide +kernel) hst (fun p e s m below meth c C hr hnm hex P => ?_)
  refine en_m (Nat.le_of_ble_eq_true rfl) (lv := [(0, .ref a0), (1, .ref b1)]) rfl (fun ls hl => ?_)
  have C : CF p l s m _ meth c "SkirmishGrid$Events" cX1_isSameAs 3 G (FA G S sz) := C
  exact tX1_isSameAs_0 C hr hex Q QX S a0 b1 p_a0 p_b1 P hl (by omega) (by omega) hw
theorem cd_X1_isSameAs : yX1_isSameAs.cls = RX1 ∧ yX1_isSameAs.cls ≠ "java/lang/invoke/MethodHandle" ∧ yX1_isSameAs.cls ≠ "java/lang/invoke/VarHandle" ∧ (parseMethodDescriptor yX1_isSameAs.desc).map (fun d => d.parameters.length) = some 1 := by decide +kernel
abbrev rmX7_init : Room := { frames := 1, cells := 0, slots := 0, locals := 40 }
def wX7_init_0 (Q : MS → Prop) (QX : String → MS → Prop) (S : MS) (a0 : Nat) (x1 : Int32) : Prop := (∀ S1, S1 = (sI S a0 0 x1) → Q S1)
set_option maxHeartbeats 4000000 in
set_option maxRecDepth 100000 in
theorem tX7_init_0 {p : Program} {l : Launch} {e : Env} {s : State} {m : MethodId} {args : Array Value} {below : List Frame} {meth : Method} {c : Code} {H : Heap} {locs : List Loc} {cells slots : Nat} {G : GP} {A : Nat → Prop} {S0 : MS} {ls : Array Slot} (C : CF p l s m args meth c "SkirmishGrid$Unit" cX7_init 2 G A) (hr : meth.sig.returnType = none) (hin2 : meth.name = "<init>") (hex : ∀ x ∈ c.exceptionTable.toList, False) (Q : MS → Prop) (QX : String → MS → Prop) (S : MS) (a0 : Nat) (x1 : Int32) (p_a0 : pI S 7 a0) (P : PW G A s H locs S0 S) (hl : lv_has ls 2 [(0, .ref a0), (1, .int x1)]) (hcc : cells + 0 ≤ 0) (hss : slots + 0 ≤ 0) (hw : wX7_init_0 Q QX S a0 x1) : W p l e rmX7_init s m args below meth c H locs cells slots (vx_MQ below (QV G S0 A Q) (XX G S0 A QX) args s 0 0 A) (F0 m 0 ls []) := by
  have hx := CF_x C
  have hb := CF_b C
  unfold wX7_init_0 at hw
  refine lv_aload_n hx hb dX7_init_0 rfl (lv_at hl 0 rfl) ?_
  refine W.objInit hx hb (CF_o C) (CF_t C _ q_93) (CF_t C _ q_36) (CF_t C _ q_37) rfl (hl.1.trans (CF_m C).symm) rfl dX7_init_1 (Nat.le_of_ble_eq_true rfl) (Nat.le_of_ble_eq_true rfl) ?_
  refine W.eq (g2 := F0 m 4 ls []) rfl ?_
  refine lv_aload_n hx hb dX7_init_4 rfl (lv_at hl 0 rfl) ?_
  refine lv_iload_n hx hb dX7_init_5 rfl (lv_at hl 1 rfl) ?_
  refine pf_7_0 C hin2 P p_a0 q_94 dX7_init_6 (fun H locs P => ?_)
  obtain ⟨S1, hS⟩ : ∃ z, z = (sI S a0 0 x1) := ⟨_, rfl⟩
  have P : PW G A s H locs S0 S1 := by rw [hS]; exact P
  have p_a0 : pI S1 7 a0 := by rw [hS]; exact pI_x ext_sI p_a0
  have hw := hw S1 hS
  exact e_v C hr P hw (by omega) (by omega) dX7_init_9
def wp_X7_init (Q : MS → Prop) (QX : String → MS → Prop) (S : MS) (a0 : Nat) (x1 : Int32) : Prop := wX7_init_0 Q QX S a0 x1
set_option maxHeartbeats 4000000 in
set_option maxRecDepth 100000 in
theorem met_X7_init {l : Launch} (hst : l.stackTraces = false) (G : GP) (sz : Nat) (Q : MS → Prop) (QX : String → MS → Prop) (S : MS) (a0 : Nat) (x1 : Int32) (p_a0 : pI S 7 a0) (hw : wp_X7_init Q QX S a0 x1) : vx_Met l yX7_init (.code yX7_init cX7_init 2 none :: GW) rmX7_init (va_Pc [.ref a0, .int x1] (PR G S sz)) (QV G S (FA G S sz) Q) (XX G S (FA G S sz) QX) 0 0 (FA G S sz) := by
  refine st_m (by decide +kernel) hst (fun p e s m below meth c C hr hnm hex P => ?_)
  refine en_m (Nat.le_of_ble_eq_true rfl) (lv := [(0, .ref a0), (1, .int x1)]) rfl (fun ls hl => ?_)
  have C : CF p l s m _ meth c "SkirmishGrid$Unit" cX7_init 2 G (FA G S sz) := C
  exact tX7_init_0 C hr hnm hex Q QX S a0 x1 p_a0 P hl (by omega) (by omega) hw
theorem cd_X7_init : yX7_init.cls = RX7 ∧ yX7_init.cls ≠ "java/lang/invoke/MethodHandle" ∧ yX7_init.cls ≠ "java/lang/invoke/VarHandle" ∧ (parseMethodDescriptor yX7_init.desc).map (fun d => d.parameters.length) = some 1 := by decide +kernel
abbrev rmX7_enter : Room := { frames := 0, cells := 0, slots := 0, locals := 0 }
def wX7_enter_0 (Q : MS → Prop) (QX : String → MS → Prop) (S : MS) (a0 : Nat) (x1 : Int32) (x2 : Int32) (x3 : Int32) : Prop := (∀ S1, S1 = (sI S a0 1 x1) → (∀ S2, S2 = (sI S1 a0 2 x2) → (∀ S3, S3 = (sI S2 a0 3 x3) → (∀ S4, S4 = (sI S3 a0 4 x3) → (vp_in x2 4 ∧ (∀ S6, S6 = (sI S4 a0 5 (tbI 0 x2)) → (vp_in x2 4 ∧ (∀ S8, S8 = (sI S6 a0 6 (tbI 7 x2)) → (vp_in x2 4 ∧ (∀ S10, S10 = (sI S8 a0 7 (tbI 8 x2)) → (∀ S11, S11 = (sI S10 a0 8 0) → (∀ S12, S12 = (sI S11 a0 9 0) → (∀ S13, S13 = (sI S12 a0 10 0) → (∀ S14, S14 = (sI S13 a0 11 0) → (∀ S15, S15 = (sI S14 a0 12 0) → Q S15)))))))))))))))
set_option maxHeartbeats 4000000 in
set_option maxRecDepth 100000 in
theorem tX7_enter_0 {p : Program} {l : Launch} {e : Env} {s : State} {m : MethodId} {args : Array Value} {below : List Frame} {meth : Method} {c : Code} {H : Heap} {locs : List Loc} {cells slots : Nat} {G : GP} {A : Nat → Prop} {S0 : MS} {ls : Array Slot} (C : CF p l s m args meth c "SkirmishGrid$Unit" cX7_enter 4 G A) (hr : meth.sig.returnType = none) (hex : ∀ x ∈ c.exceptionTable.toList, False) (Q : MS → Prop) (QX : String → MS → Prop) (S : MS) (a0 : Nat) (x1 : Int32) (x2 : Int32) (x3 : Int32) (p_a0 : pI S 7 a0) (P : PW G A s H locs S0 S) (hl : lv_has ls 4 [(0, .ref a0), (1, .int x1), (2, .int x2), (3, .int x3)]) (hcc : cells + 0 ≤ 0) (hss : slots + 0 ≤ 0) (hw : wX7_enter_0 Q QX S a0 x1 x2 x3) : W p l e rmX7_enter s m args below meth c H locs cells slots (vx_MQ below (QV G S0 A Q) (XX G S0 A QX) args s 0 0 A) (F0 m 0 ls []) := by
  have hx := CF_x C
  have hb := CF_b C
  unfold wX7_enter_0 at hw
  refine lv_aload_n hx hb dX7_enter_0 rfl (lv_at hl 0 rfl) ?_
  refine lv_iload_n hx hb dX7_enter_1 rfl (lv_at hl 1 rfl) ?_
  refine pf_7_1 C P p_a0 q_96 dX7_enter_2 (fun H locs P => ?_)
  obtain ⟨S1, hS⟩ : ∃ z, z = (sI S a0 1 x1) := ⟨_, rfl⟩
  have P : PW G A s H locs S0 S1 := by rw [hS]; exact P
  have p_a0 : pI S1 7 a0 := by rw [hS]; exact pI_x ext_sI p_a0
  have hw := hw S1 hS
  refine lv_aload_n hx hb dX7_enter_5 rfl (lv_at hl 0 rfl) ?_
  refine lv_iload_n hx hb dX7_enter_6 rfl (lv_at hl 2 rfl) ?_
  refine pf_7_2 C P p_a0 q_99 dX7_enter_7 (fun H locs P => ?_)
  obtain ⟨S2, hS⟩ : ∃ z, z = (sI S1 a0 2 x2) := ⟨_, rfl⟩
  have P : PW G A s H locs S0 S2 := by rw [hS]; exact P
  have p_a0 : pI S2 7 a0 := by rw [hS]; exact pI_x ext_sI p_a0
  have hw := hw S2 hS
  refine lv_aload_n hx hb dX7_enter_10 rfl (lv_at hl 0 rfl) ?_
  refine lv_iload_n hx hb dX7_enter_11 rfl (lv_at hl 3 rfl) ?_
  refine pf_7_3 C P p_a0 q_103 dX7_enter_12 (fun H locs P => ?_)
  obtain ⟨S3, hS⟩ : ∃ z, z = (sI S2 a0 3 x3) := ⟨_, rfl⟩
  have P : PW G A s H locs S0 S3 := by rw [hS]; exact P
  have p_a0 : pI S3 7 a0 := by rw [hS]; exact pI_x ext_sI p_a0
  have hw := hw S3 hS
  refine lv_aload_n hx hb dX7_enter_15 rfl (lv_at hl 0 rfl) ?_
  refine lv_iload_n hx hb dX7_enter_16 rfl (lv_at hl 3 rfl) ?_
  refine pf_7_4 C P p_a0 q_106 dX7_enter_17 (fun H locs P => ?_)
  obtain ⟨S4, hS⟩ : ∃ z, z = (sI S3 a0 4 x3) := ⟨_, rfl⟩
  have P : PW G A s H locs S0 S4 := by rw [hS]; exact P
  have p_a0 : pI S4 7 a0 := by rw [hS]; exact pI_x ext_sI p_a0
  have hw := hw S4 hS
  refine lv_aload_n hx hb dX7_enter_20 rfl (lv_at hl 0 rfl) ?_
  refine rt_gN C P (i := 0) (by decide) rfl (List.mem_of_getElem? (i := 0) rfl) dX7_enter_21 (fun t5 ht5 => ?_)
  refine lv_iload_n hx hb dX7_enter_24 rfl (lv_at hl 2 rfl) ?_
  obtain ⟨h1, hw⟩ := hw
  refine rt_l (i := 0) C P ht5 h1 dX7_enter_25 ?_
  refine pf_7_5 C P p_a0 q_109 dX7_enter_26 (fun H locs P => ?_)
  obtain ⟨S6, hS⟩ : ∃ z, z = (sI S4 a0 5 (tbI 0 x2)) := ⟨_, rfl⟩
  have P : PW G A s H locs S0 S6 := by rw [hS]; exact P
  have p_a0 : pI S6 7 a0 := by rw [hS]; exact pI_x ext_sI p_a0
  have hw := hw S6 hS
  refine lv_aload_n hx hb dX7_enter_29 rfl (lv_at hl 0 rfl) ?_
  refine rt_gN C P (i := 7) (by decide) rfl (List.mem_of_getElem? (i := 1) rfl) dX7_enter_30 (fun t7 ht7 => ?_)
  refine lv_iload_n hx hb dX7_enter_33 rfl (lv_at hl 2 rfl) ?_
  obtain ⟨h1, hw⟩ := hw
  refine rt_l (i := 7) C P ht7 h1 dX7_enter_34 ?_
  refine pf_7_6 C P p_a0 q_113 dX7_enter_35 (fun H locs P => ?_)
  obtain ⟨S8, hS⟩ : ∃ z, z = (sI S6 a0 6 (tbI 7 x2)) := ⟨_, rfl⟩
  have P : PW G A s H locs S0 S8 := by rw [hS]; exact P
  have p_a0 : pI S8 7 a0 := by rw [hS]; exact pI_x ext_sI p_a0
  have hw := hw S8 hS
  refine lv_aload_n hx hb dX7_enter_38 rfl (lv_at hl 0 rfl) ?_
  refine rt_gN C P (i := 8) (by decide) rfl (List.mem_of_getElem? (i := 2) rfl) dX7_enter_39 (fun t9 ht9 => ?_)
  refine lv_iload_n hx hb dX7_enter_42 rfl (lv_at hl 2 rfl) ?_
  obtain ⟨h1, hw⟩ := hw
  refine rt_l (i := 8) C P ht9 h1 dX7_enter_43 ?_
  refine pf_7_7 C P p_a0 q_116 dX7_enter_44 (fun H locs P => ?_)
  obtain ⟨S10, hS⟩ : ∃ z, z = (sI S8 a0 7 (tbI 8 x2)) := ⟨_, rfl⟩
  have P : PW G A s H locs S0 S10 := by rw [hS]; exact P
  have p_a0 : pI S10 7 a0 := by rw [hS]; exact pI_x ext_sI p_a0
  have hw := hw S10 hS
  refine lv_aload_n hx hb dX7_enter_47 rfl (lv_at hl 0 rfl) ?_
  refine lv_iconst (v := 0) hx hb dX7_enter_48 (by decide) ?_
  refine pf_7_8 C P p_a0 q_119 dX7_enter_49 (fun H locs P => ?_)
  obtain ⟨S11, hS⟩ : ∃ z, z = (sI S10 a0 8 0) := ⟨_, rfl⟩
  have P : PW G A s H locs S0 S11 := by rw [hS]; exact P
  have p_a0 : pI S11 7 a0 := by rw [hS]; exact pI_x ext_sI p_a0
  have hw := hw S11 hS
  refine lv_aload_n hx hb dX7_enter_52 rfl (lv_at hl 0 rfl) ?_
  refine lv_iconst (v := 0) hx hb dX7_enter_53 (by decide) ?_
  refine pf_7_9 C P p_a0 q_122 dX7_enter_54 (fun H locs P => ?_)
  obtain ⟨S12, hS⟩ : ∃ z, z = (sI S11 a0 9 0) := ⟨_, rfl⟩
  have P : PW G A s H locs S0 S12 := by rw [hS]; exact P
  have p_a0 : pI S12 7 a0 := by rw [hS]; exact pI_x ext_sI p_a0
  have hw := hw S12 hS
  refine lv_aload_n hx hb dX7_enter_57 rfl (lv_at hl 0 rfl) ?_
  refine lv_iconst (v := 0) hx hb dX7_enter_58 (by decide) ?_
  refine pf_7_10 C P p_a0 q_125 dX7_enter_59 (fun H locs P => ?_)
  obtain ⟨S13, hS⟩ : ∃ z, z = (sI S12 a0 10 0) := ⟨_, rfl⟩
  have P : PW G A s H locs S0 S13 := by rw [hS]; exact P
  have p_a0 : pI S13 7 a0 := by rw [hS]; exact pI_x ext_sI p_a0
  have hw := hw S13 hS
  refine lv_aload_n hx hb dX7_enter_62 rfl (lv_at hl 0 rfl) ?_
  refine lv_iconst (v := 0) hx hb dX7_enter_63 (by decide) ?_
  refine pf_7_11 C P p_a0 (isZ_dec (by decide)) q_128 dX7_enter_64 (fun H locs P => ?_)
  obtain ⟨S14, hS⟩ : ∃ z, z = (sI S13 a0 11 0) := ⟨_, rfl⟩
  have P : PW G A s H locs S0 S14 := by rw [hS]; exact P
  have p_a0 : pI S14 7 a0 := by rw [hS]; exact pI_x ext_sI p_a0
  have hw := hw S14 hS
  refine lv_aload_n hx hb dX7_enter_67 rfl (lv_at hl 0 rfl) ?_
  refine lv_iconst (v := 0) hx hb dX7_enter_68 (by decide) ?_
  refine pf_7_12 C P p_a0 (isZ_dec (by decide)) q_131 dX7_enter_69 (fun H locs P => ?_)
  obtain ⟨S15, hS⟩ : ∃ z, z = (sI S14 a0 12 0) := ⟨_, rfl⟩
  have P : PW G A s H locs S0 S15 := by rw [hS]; exact P
  have p_a0 : pI S15 7 a0 := by rw [hS]; exact pI_x ext_sI p_a0
  have hw := hw S15 hS
  exact e_v C hr P hw (by omega) (by omega) dX7_enter_72
def wp_X7_enter (Q : MS → Prop) (QX : String → MS → Prop) (S : MS) (a0 : Nat) (x1 : Int32) (x2 : Int32) (x3 : Int32) : Prop := wX7_enter_0 Q QX S a0 x1 x2 x3
set_option maxHeartbeats 4000000 in
set_option maxRecDepth 100000 in
theorem met_X7_enter {l : Launch} (hst : l.stackTraces = false) (G : GP) (sz : Nat) (Q : MS → Prop) (QX : String → MS → Prop) (S : MS) (a0 : Nat) (x1 : Int32) (x2 : Int32) (x3 : Int32) (p_a0 : pI S 7 a0) (hw : wp_X7_enter Q QX S a0 x1 x2 x3) : vx_Met l yX7_enter (.code yX7_enter cX7_enter 4 none :: GW) rmX7_enter (va_Pc [.ref a0, .int x1, .int x2, .int x3] (PR G S sz)) (QV G S (FA G S sz) Q) (XX G S (FA G S sz) QX) 0 0 (FA G S sz) := by
  refine st_m (by decide +kernel) hst (fun p e s m below meth c C hr hnm hex P => ?_)
  refine en_m (Nat.le_of_ble_eq_true rfl) (lv := [(0, .ref a0), (1, .int x1), (2, .int x2), (3, .int x3)]) rfl (fun ls hl => ?_)
  have C : CF p l s m _ meth c "SkirmishGrid$Unit" cX7_enter 4 G (FA G S sz) := C
  exact tX7_enter_0 C hr hex Q QX S a0 x1 x2 x3 p_a0 P hl (by omega) (by omega) hw
theorem cd_X7_enter : yX7_enter.cls = RX7 ∧ yX7_enter.cls ≠ "java/lang/invoke/MethodHandle" ∧ yX7_enter.cls ≠ "java/lang/invoke/VarHandle" ∧ (parseMethodDescriptor yX7_enter.desc).map (fun d => d.parameters.length) = some 3 := by decide +kernel
abbrev rmX7_lives : Room := { frames := 0, cells := 0, slots := 0, locals := 0 }
def wX7_lives_0 (Q : Int32 → MS → Prop) (QX : String → MS → Prop) (S : MS) (a0 : Nat) : Prop := (((mI S a0 5) ≤ 0 → Q 0 S) ∧ (¬ (mI S a0 5) ≤ 0 → Q 1 S))
set_option maxHeartbeats 4000000 in
set_option maxRecDepth 100000 in
theorem tX7_lives_0 {p : Program} {l : Launch} {e : Env} {s : State} {m : MethodId} {args : Array Value} {below : List Frame} {meth : Method} {c : Code} {H : Heap} {locs : List Loc} {cells slots : Nat} {G : GP} {A : Nat → Prop} {S0 : MS} {ls : Array Slot} (C : CF p l s m args meth c "SkirmishGrid$Unit" cX7_lives 1 G A) (hr : meth.sig.returnType = (some .boolean)) (hex : ∀ x ∈ c.exceptionTable.toList, False) (Q : Int32 → MS → Prop) (QX : String → MS → Prop) (S : MS) (a0 : Nat) (p_a0 : pI S 7 a0) (P : PW G A s H locs S0 S) (hl : lv_has ls 1 [(0, .ref a0)]) (hcc : cells + 0 ≤ 0) (hss : slots + 0 ≤ 0) (hw : wX7_lives_0 Q QX S a0) : W p l e rmX7_lives s m args below meth c H locs cells slots (vx_MQ below (QI G S0 A Q) (XX G S0 A QX) args s 0 0 A) (F0 m 0 ls []) := by
  have hx := CF_x C
  have hb := CF_b C
  unfold wX7_lives_0 at hw
  refine lv_aload_n hx hb dX7_lives_0 rfl (lv_at hl 0 rfl) ?_
  refine gf_7_5 C P p_a0 q_109 dX7_lives_1 ?_
  refine lv_if_le (tgt := 11) hx hb dX7_lives_4 (by decide) (fun hc => ?_) (fun hc => ?_)
  · have hw := hw.1 hc
    refine lv_iconst (v := 0) hx hb dX7_lives_11 (by decide) ?_
    exact e_i C hr (by decide +kernel) P hw (by omega) (by omega) dX7_lives_12
  · have hw := hw.2 hc
    refine lv_iconst (v := 1) hx hb dX7_lives_7 (by decide) ?_
    refine lv_goto (tgt := 12) hx hb dX7_lives_8 (by decide) ?_
    exact e_i C hr (by decide +kernel) P hw (by omega) (by omega) dX7_lives_12
def wp_X7_lives (Q : Int32 → MS → Prop) (QX : String → MS → Prop) (S : MS) (a0 : Nat) : Prop := wX7_lives_0 Q QX S a0
set_option maxHeartbeats 4000000 in
set_option maxRecDepth 100000 in
theorem met_X7_lives {l : Launch} (hst : l.stackTraces = false) (G : GP) (sz : Nat) (Q : Int32 → MS → Prop) (QX : String → MS → Prop) (S : MS) (a0 : Nat) (p_a0 : pI S 7 a0) (hw : wp_X7_lives Q QX S a0) : vx_Met l yX7_lives (.code yX7_lives cX7_lives 1 (some .boolean) :: GW) rmX7_lives (va_Pc [.ref a0] (PR G S sz)) (QI G S (FA G S sz) Q) (XX G S (FA G S sz) QX) 0 0 (FA G S sz) := by
  refine st_m (by decide +kernel) hst (fun p e s m below meth c C hr hnm hex P => ?_)
  refine en_m (Nat.le_of_ble_eq_true rfl) (lv := [(0, .ref a0)]) rfl (fun ls hl => ?_)
  have C : CF p l s m _ meth c "SkirmishGrid$Unit" cX7_lives 1 G (FA G S sz) := C
  exact tX7_lives_0 C hr hex Q QX S a0 p_a0 P hl (by omega) (by omega) hw
theorem cd_X7_lives : yX7_lives.cls = RX7 ∧ yX7_lives.cls ≠ "java/lang/invoke/MethodHandle" ∧ yX7_lives.cls ≠ "java/lang/invoke/VarHandle" ∧ (parseMethodDescriptor yX7_lives.desc).map (fun d => d.parameters.length) = some 0 := by decide +kernel
abbrev rmX7_lose : Room := { frames := 0, cells := 0, slots := 0, locals := 0 }
def wX7_lose_0 (Q : MS → Prop) (QX : String → MS → Prop) (S : MS) (a0 : Nat) (x1 : Int32) : Prop := (((mI S a0 5) ≤ x1 → (∀ S1, S1 = (sI S a0 5 0) → Q S1)) ∧ (¬ (mI S a0 5) ≤ x1 → (∀ S2, S2 = (sI S a0 5 ((mI S a0 5) - x1)) → Q S2)))
set_option maxHeartbeats 4000000 in
set_option maxRecDepth 100000 in
theorem tX7_lose_0 {p : Program} {l : Launch} {e : Env} {s : State} {m : MethodId} {args : Array Value} {below : List Frame} {meth : Method} {c : Code} {H : Heap} {locs : List Loc} {cells slots : Nat} {G : GP} {A : Nat → Prop} {S0 : MS} {ls : Array Slot} (C : CF p l s m args meth c "SkirmishGrid$Unit" cX7_lose 2 G A) (hr : meth.sig.returnType = none) (hex : ∀ x ∈ c.exceptionTable.toList, False) (Q : MS → Prop) (QX : String → MS → Prop) (S : MS) (a0 : Nat) (x1 : Int32) (p_a0 : pI S 7 a0) (P : PW G A s H locs S0 S) (hl : lv_has ls 2 [(0, .ref a0), (1, .int x1)]) (hcc : cells + 0 ≤ 0) (hss : slots + 0 ≤ 0) (hw : wX7_lose_0 Q QX S a0 x1) : W p l e rmX7_lose s m args below meth c H locs cells slots (vx_MQ below (QV G S0 A Q) (XX G S0 A QX) args s 0 0 A) (F0 m 0 ls []) := by
  have hx := CF_x C
  have hb := CF_b C
  unfold wX7_lose_0 at hw
  refine lv_aload_n hx hb dX7_lose_0 rfl (lv_at hl 0 rfl) ?_
  refine lv_iload_n hx hb dX7_lose_1 rfl (lv_at hl 1 rfl) ?_
  refine lv_aload_n hx hb dX7_lose_2 rfl (lv_at hl 0 rfl) ?_
  refine gf_7_5 C P p_a0 q_109 dX7_lose_3 ?_
  refine lv_icmp_ge (tgt := 18) hx hb dX7_lose_6 (by decide) (fun hc => ?_) (fun hc => ?_)
  · have hw := hw.1 hc
    refine lv_iconst (v := 0) hx hb dX7_lose_18 (by decide) ?_
    refine pf_7_5 C P p_a0 q_109 dX7_lose_19 (fun H locs P => ?_)
    obtain ⟨S1, hS⟩ : ∃ z, z = (sI S a0 5 0) := ⟨_, rfl⟩
    have P : PW G A s H locs S0 S1 := by rw [hS]; exact P
    have p_a0 : pI S1 7 a0 := by rw [hS]; exact pI_x ext_sI p_a0
    have hw := hw S1 hS
    exact e_v C hr P hw (by omega) (by omega) dX7_lose_22
  · have hw := hw.2 hc
    refine lv_aload_n hx hb dX7_lose_9 rfl (lv_at hl 0 rfl) ?_
    refine gf_7_5 C P p_a0 q_109 dX7_lose_10 ?_
    refine lv_iload_n hx hb dX7_lose_13 rfl (lv_at hl 1 rfl) ?_
    refine lv_isub hx hb dX7_lose_14 ?_
    refine lv_goto (tgt := 19) hx hb dX7_lose_15 (by decide) ?_
    refine pf_7_5 C P p_a0 q_109 dX7_lose_19 (fun H locs P => ?_)
    obtain ⟨S2, hS⟩ : ∃ z, z = (sI S a0 5 ((mI S a0 5) - x1)) := ⟨_, rfl⟩
    have P : PW G A s H locs S0 S2 := by rw [hS]; exact P
    have p_a0 : pI S2 7 a0 := by rw [hS]; exact pI_x ext_sI p_a0
    have hw := hw S2 hS
    exact e_v C hr P hw (by omega) (by omega) dX7_lose_22
def wp_X7_lose (Q : MS → Prop) (QX : String → MS → Prop) (S : MS) (a0 : Nat) (x1 : Int32) : Prop := wX7_lose_0 Q QX S a0 x1
set_option maxHeartbeats 4000000 in
set_option maxRecDepth 100000 in
theorem met_X7_lose {l : Launch} (hst : l.stackTraces = false) (G : GP) (sz : Nat) (Q : MS → Prop) (QX : String → MS → Prop) (S : MS) (a0 : Nat) (x1 : Int32) (p_a0 : pI S 7 a0) (hw : wp_X7_lose Q QX S a0 x1) : vx_Met l yX7_lose (.code yX7_lose cX7_lose 2 none :: GW) rmX7_lose (va_Pc [.ref a0, .int x1] (PR G S sz)) (QV G S (FA G S sz) Q) (XX G S (FA G S sz) QX) 0 0 (FA G S sz) := by
  refine st_m (by decide +kernel) hst (fun p e s m below meth c C hr hnm hex P => ?_)
  refine en_m (Nat.le_of_ble_eq_true rfl) (lv := [(0, .ref a0), (1, .int x1)]) rfl (fun ls hl => ?_)
  have C : CF p l s m _ meth c "SkirmishGrid$Unit" cX7_lose 2 G (FA G S sz) := C
  exact tX7_lose_0 C hr hex Q QX S a0 x1 p_a0 P hl (by omega) (by omega) hw
theorem cd_X7_lose : yX7_lose.cls = RX7 ∧ yX7_lose.cls ≠ "java/lang/invoke/MethodHandle" ∧ yX7_lose.cls ≠ "java/lang/invoke/VarHandle" ∧ (parseMethodDescriptor yX7_lose.desc).map (fun d => d.parameters.length) = some 1 := by decide +kernel
abbrev rmX7_shortenStatuses : Room := { frames := 0, cells := 0, slots := 0, locals := 0 }
def wX7_shortenStatuses_18 (Q : MS → Prop) (QX : String → MS → Prop) (S : MS) (a0 : Nat) (z0 : Int32) (w1 : Nat) : Prop := (∀ S1, S1 = (sI S w1 9 z0) → (((mI S1 a0 10) ≤ 0 → (∀ S2, S2 = (sI S1 a0 10 0) → Q S2)) ∧ (¬ (mI S1 a0 10) ≤ 0 → (∀ S3, S3 = (sI S1 a0 10 ((mI S1 a0 10) - 1)) → Q S3))))
set_option maxHeartbeats 4000000 in
set_option maxRecDepth 100000 in
theorem tX7_shortenStatuses_18 {p : Program} {l : Launch} {e : Env} {s : State} {m : MethodId} {args : Array Value} {below : List Frame} {meth : Method} {c : Code} {H : Heap} {locs : List Loc} {cells slots : Nat} {G : GP} {A : Nat → Prop} {S0 : MS} {ls : Array Slot} (C : CF p l s m args meth c "SkirmishGrid$Unit" cX7_shortenStatuses 1 G A) (hr : meth.sig.returnType = none) (hex : ∀ x ∈ c.exceptionTable.toList, False) (Q : MS → Prop) (QX : String → MS → Prop) (S : MS) (a0 : Nat) (z0 : Int32) (w1 : Nat) (p_a0 : pI S 7 a0) (p_w1 : pI S 7 w1) (P : PW G A s H locs S0 S) (hl : lv_has ls 1 [(0, .ref a0)]) (hcc : cells + 0 ≤ 0) (hss : slots + 0 ≤ 0) (hw : wX7_shortenStatuses_18 Q QX S a0 z0 w1) : W p l e rmX7_shortenStatuses s m args below meth c H locs cells slots (vx_MQ below (QV G S0 A Q) (XX G S0 A QX) args s 0 0 A) (F0 m 18 ls [.int z0, .ref w1]) := by
  have hx := CF_x C
  have hb := CF_b C
  unfold wX7_shortenStatuses_18 at hw
  refine pf_7_9 C P p_w1 q_122 dX7_shortenStatuses_18 (fun H locs P => ?_)
  obtain ⟨S1, hS⟩ : ∃ z, z = (sI S w1 9 z0) := ⟨_, rfl⟩
  have P : PW G A s H locs S0 S1 := by rw [hS]; exact P
  have p_a0 : pI S1 7 a0 := by rw [hS]; exact pI_x ext_sI p_a0
  have p_w1 : pI S1 7 w1 := by rw [hS]; exact pI_x ext_sI p_w1
  have hw := hw S1 hS
  refine lv_aload_n hx hb dX7_shortenStatuses_21 rfl (lv_at hl 0 rfl) ?_
  refine lv_aload_n hx hb dX7_shortenStatuses_22 rfl (lv_at hl 0 rfl) ?_
  refine gf_7_10 C P p_a0 q_125 dX7_shortenStatuses_23 ?_
  refine lv_if_le (tgt := 38) hx hb dX7_shortenStatuses_26 (by decide) (fun hc => ?_) (fun hc => ?_)
  · have hw := hw.1 hc
    refine lv_iconst (v := 0) hx hb dX7_shortenStatuses_38 (by decide) ?_
    refine pf_7_10 C P p_a0 q_125 dX7_shortenStatuses_39 (fun H locs P => ?_)
    obtain ⟨S2, hS⟩ : ∃ z, z = (sI S1 a0 10 0) := ⟨_, rfl⟩
    have P : PW G A s H locs S0 S2 := by rw [hS]; exact P
    have p_a0 : pI S2 7 a0 := by rw [hS]; exact pI_x ext_sI p_a0
    have hw := hw S2 hS
    exact e_v C hr P hw (by omega) (by omega) dX7_shortenStatuses_42
  · have hw := hw.2 hc
    refine lv_aload_n hx hb dX7_shortenStatuses_29 rfl (lv_at hl 0 rfl) ?_
    refine gf_7_10 C P p_a0 q_125 dX7_shortenStatuses_30 ?_
    refine lv_iconst (v := 1) hx hb dX7_shortenStatuses_33 (by decide) ?_
    refine lv_isub hx hb dX7_shortenStatuses_34 ?_
    refine lv_goto (tgt := 39) hx hb dX7_shortenStatuses_35 (by decide) ?_
    refine pf_7_10 C P p_a0 q_125 dX7_shortenStatuses_39 (fun H locs P => ?_)
    obtain ⟨S3, hS⟩ : ∃ z, z = (sI S1 a0 10 ((mI S1 a0 10) - 1)) := ⟨_, rfl⟩
    have P : PW G A s H locs S0 S3 := by rw [hS]; exact P
    have p_a0 : pI S3 7 a0 := by rw [hS]; exact pI_x ext_sI p_a0
    have hw := hw S3 hS
    exact e_v C hr P hw (by omega) (by omega) dX7_shortenStatuses_42
def wX7_shortenStatuses_0 (Q : MS → Prop) (QX : String → MS → Prop) (S : MS) (a0 : Nat) : Prop := (((mI S a0 9) ≤ 0 → wX7_shortenStatuses_18 Q QX S a0 0 a0) ∧ (¬ (mI S a0 9) ≤ 0 → wX7_shortenStatuses_18 Q QX S a0 ((mI S a0 9) - 1) a0))
set_option maxHeartbeats 4000000 in
set_option maxRecDepth 100000 in
theorem tX7_shortenStatuses_0 {p : Program} {l : Launch} {e : Env} {s : State} {m : MethodId} {args : Array Value} {below : List Frame} {meth : Method} {c : Code} {H : Heap} {locs : List Loc} {cells slots : Nat} {G : GP} {A : Nat → Prop} {S0 : MS} {ls : Array Slot} (C : CF p l s m args meth c "SkirmishGrid$Unit" cX7_shortenStatuses 1 G A) (hr : meth.sig.returnType = none) (hex : ∀ x ∈ c.exceptionTable.toList, False) (Q : MS → Prop) (QX : String → MS → Prop) (S : MS) (a0 : Nat) (p_a0 : pI S 7 a0) (P : PW G A s H locs S0 S) (hl : lv_has ls 1 [(0, .ref a0)]) (hcc : cells + 0 ≤ 0) (hss : slots + 0 ≤ 0) (hw : wX7_shortenStatuses_0 Q QX S a0) : W p l e rmX7_shortenStatuses s m args below meth c H locs cells slots (vx_MQ below (QV G S0 A Q) (XX G S0 A QX) args s 0 0 A) (F0 m 0 ls []) := by
  have hx := CF_x C
  have hb := CF_b C
  unfold wX7_shortenStatuses_0 at hw
  refine lv_aload_n hx hb dX7_shortenStatuses_0 rfl (lv_at hl 0 rfl) ?_
  refine lv_aload_n hx hb dX7_shortenStatuses_1 rfl (lv_at hl 0 rfl) ?_
  refine gf_7_9 C P p_a0 q_122 dX7_shortenStatuses_2 ?_
  refine lv_if_le (tgt := 17) hx hb dX7_shortenStatuses_5 (by decide) (fun hc => ?_) (fun hc => ?_)
  · have hw := hw.1 hc
    refine lv_iconst (v := 0) hx hb dX7_shortenStatuses_17 (by decide) ?_
    exact tX7_shortenStatuses_18 C hr hex Q QX S a0 0 a0 p_a0 p_a0 P (lv_sub hl [0] rfl) (by omega) (by omega) hw
  · have hw := hw.2 hc
    refine lv_aload_n hx hb dX7_shortenStatuses_8 rfl (lv_at hl 0 rfl) ?_
    refine gf_7_9 C P p_a0 q_122 dX7_shortenStatuses_9 ?_
    refine lv_iconst (v := 1) hx hb dX7_shortenStatuses_12 (by decide) ?_
    refine lv_isub hx hb dX7_shortenStatuses_13 ?_
    refine lv_goto (tgt := 18) hx hb dX7_shortenStatuses_14 (by decide) ?_
    exact tX7_shortenStatuses_18 C hr hex Q QX S a0 ((mI S a0 9) - 1) a0 p_a0 p_a0 P (lv_sub hl [0] rfl) (by omega) (by omega) hw
def wp_X7_shortenStatuses (Q : MS → Prop) (QX : String → MS → Prop) (S : MS) (a0 : Nat) : Prop := wX7_shortenStatuses_0 Q QX S a0
set_option maxHeartbeats 4000000 in
set_option maxRecDepth 100000 in
theorem met_X7_shortenStatuses {l : Launch} (hst : l.stackTraces = false) (G : GP) (sz : Nat) (Q : MS → Prop) (QX : String → MS → Prop) (S : MS) (a0 : Nat) (p_a0 : pI S 7 a0) (hw : wp_X7_shortenStatuses Q QX S a0) : vx_Met l yX7_shortenStatuses (.code yX7_shortenStatuses cX7_shortenStatuses 1 none :: GW) rmX7_shortenStatuses (va_Pc [.ref a0] (PR G S sz)) (QV G S (FA G S sz) Q) (XX G S (FA G S sz) QX) 0 0 (FA G S sz) := by
  refine st_m (by decide +kernel) hst (fun p e s m below meth c C hr hnm hex P => ?_)
  refine en_m (Nat.le_of_ble_eq_true rfl) (lv := [(0, .ref a0)]) rfl (fun ls hl => ?_)
  have C : CF p l s m _ meth c "SkirmishGrid$Unit" cX7_shortenStatuses 1 G (FA G S sz) := C
  exact tX7_shortenStatuses_0 C hr hex Q QX S a0 p_a0 P hl (by omega) (by omega) hw
theorem cd_X7_shortenStatuses : yX7_shortenStatuses.cls = RX7 ∧ yX7_shortenStatuses.cls ≠ "java/lang/invoke/MethodHandle" ∧ yX7_shortenStatuses.cls ≠ "java/lang/invoke/VarHandle" ∧ (parseMethodDescriptor yX7_shortenStatuses.desc).map (fun d => d.parameters.length) = some 0 := by decide +kernel
abbrev rmX7_copyFrom : Room := { frames := 0, cells := 0, slots := 0, locals := 0 }
def wX7_copyFrom_0 (Q : MS → Prop) (QX : String → MS → Prop) (S : MS) (a0 : Nat) (b1 : Nat) : Prop := (∀ S1, S1 = (sI S a0 1 (mI S b1 1)) → (∀ S2, S2 = (sI S1 a0 2 (mI S1 b1 2)) → (∀ S3, S3 = (sI S2 a0 3 (mI S2 b1 3)) → (∀ S4, S4 = (sI S3 a0 4 (mI S3 b1 4)) → (∀ S5, S5 = (sI S4 a0 5 (mI S4 b1 5)) → (∀ S6, S6 = (sI S5 a0 6 (mI S5 b1 6)) → (∀ S7, S7 = (sI S6 a0 7 (mI S6 b1 7)) → (∀ S8, S8 = (sI S7 a0 8 (mI S7 b1 8)) → (∀ S9, S9 = (sI S8 a0 9 (mI S8 b1 9)) → (∀ S10, S10 = (sI S9 a0 10 (mI S9 b1 10)) → (isZ (mI S10 b1 11) ∧ (∀ S11, S11 = (sI S10 a0 11 (mI S10 b1 11)) → (isZ (mI S11 b1 12) ∧ (∀ S12, S12 = (sI S11 a0 12 (mI S11 b1 12)) → Q S12))))))))))))))
set_option maxHeartbeats 4000000 in
set_option maxRecDepth 100000 in
theorem tX7_copyFrom_0 {p : Program} {l : Launch} {e : Env} {s : State} {m : MethodId} {args : Array Value} {below : List Frame} {meth : Method} {c : Code} {H : Heap} {locs : List Loc} {cells slots : Nat} {G : GP} {A : Nat → Prop} {S0 : MS} {ls : Array Slot} (C : CF p l s m args meth c "SkirmishGrid$Unit" cX7_copyFrom 2 G A) (hr : meth.sig.returnType = none) (hex : ∀ x ∈ c.exceptionTable.toList, False) (Q : MS → Prop) (QX : String → MS → Prop) (S : MS) (a0 : Nat) (b1 : Nat) (p_a0 : pI S 7 a0) (p_b1 : pI S 7 b1) (P : PW G A s H locs S0 S) (hl : lv_has ls 2 [(0, .ref a0), (1, .ref b1)]) (hcc : cells + 0 ≤ 0) (hss : slots + 0 ≤ 0) (hw : wX7_copyFrom_0 Q QX S a0 b1) : W p l e rmX7_copyFrom s m args below meth c H locs cells slots (vx_MQ below (QV G S0 A Q) (XX G S0 A QX) args s 0 0 A) (F0 m 0 ls []) := by
  have hx := CF_x C
  have hb := CF_b C
  unfold wX7_copyFrom_0 at hw
  refine lv_aload_n hx hb dX7_copyFrom_0 rfl (lv_at hl 0 rfl) ?_
  refine lv_aload_n hx hb dX7_copyFrom_1 rfl (lv_at hl 1 rfl) ?_
  refine gf_7_1 C P p_b1 q_96 dX7_copyFrom_2 ?_
  refine pf_7_1 C P p_a0 q_96 dX7_copyFrom_5 (fun H locs P => ?_)
  obtain ⟨S1, hS⟩ : ∃ z, z = (sI S a0 1 (mI S b1 1)) := ⟨_, rfl⟩
  have P : PW G A s H locs S0 S1 := by rw [hS]; exact P
  have p_a0 : pI S1 7 a0 := by rw [hS]; exact pI_x ext_sI p_a0
  have p_b1 : pI S1 7 b1 := by rw [hS]; exact pI_x ext_sI p_b1
  have hw := hw S1 hS
  refine lv_aload_n hx hb dX7_copyFrom_8 rfl (lv_at hl 0 rfl) ?_
  refine lv_aload_n hx hb dX7_copyFrom_9 rfl (lv_at hl 1 rfl) ?_
  refine gf_7_2 C P p_b1 q_99 dX7_copyFrom_10 ?_
  refine pf_7_2 C P p_a0 q_99 dX7_copyFrom_13 (fun H locs P => ?_)
  obtain ⟨S2, hS⟩ : ∃ z, z = (sI S1 a0 2 (mI S1 b1 2)) := ⟨_, rfl⟩
  have P : PW G A s H locs S0 S2 := by rw [hS]; exact P
  have p_a0 : pI S2 7 a0 := by rw [hS]; exact pI_x ext_sI p_a0
  have p_b1 : pI S2 7 b1 := by rw [hS]; exact pI_x ext_sI p_b1
  have hw := hw S2 hS
  refine lv_aload_n hx hb dX7_copyFrom_16 rfl (lv_at hl 0 rfl) ?_
  refine lv_aload_n hx hb dX7_copyFrom_17 rfl (lv_at hl 1 rfl) ?_
  refine gf_7_3 C P p_b1 q_103 dX7_copyFrom_18 ?_
  refine pf_7_3 C P p_a0 q_103 dX7_copyFrom_21 (fun H locs P => ?_)
  obtain ⟨S3, hS⟩ : ∃ z, z = (sI S2 a0 3 (mI S2 b1 3)) := ⟨_, rfl⟩
  have P : PW G A s H locs S0 S3 := by rw [hS]; exact P
  have p_a0 : pI S3 7 a0 := by rw [hS]; exact pI_x ext_sI p_a0
  have p_b1 : pI S3 7 b1 := by rw [hS]; exact pI_x ext_sI p_b1
  have hw := hw S3 hS
  refine lv_aload_n hx hb dX7_copyFrom_24 rfl (lv_at hl 0 rfl) ?_
  refine lv_aload_n hx hb dX7_copyFrom_25 rfl (lv_at hl 1 rfl) ?_
  refine gf_7_4 C P p_b1 q_106 dX7_copyFrom_26 ?_
  refine pf_7_4 C P p_a0 q_106 dX7_copyFrom_29 (fun H locs P => ?_)
  obtain ⟨S4, hS⟩ : ∃ z, z = (sI S3 a0 4 (mI S3 b1 4)) := ⟨_, rfl⟩
  have P : PW G A s H locs S0 S4 := by rw [hS]; exact P
  have p_a0 : pI S4 7 a0 := by rw [hS]; exact pI_x ext_sI p_a0
  have p_b1 : pI S4 7 b1 := by rw [hS]; exact pI_x ext_sI p_b1
  have hw := hw S4 hS
  refine lv_aload_n hx hb dX7_copyFrom_32 rfl (lv_at hl 0 rfl) ?_
  refine lv_aload_n hx hb dX7_copyFrom_33 rfl (lv_at hl 1 rfl) ?_
  refine gf_7_5 C P p_b1 q_109 dX7_copyFrom_34 ?_
  refine pf_7_5 C P p_a0 q_109 dX7_copyFrom_37 (fun H locs P => ?_)
  obtain ⟨S5, hS⟩ : ∃ z, z = (sI S4 a0 5 (mI S4 b1 5)) := ⟨_, rfl⟩
  have P : PW G A s H locs S0 S5 := by rw [hS]; exact P
  have p_a0 : pI S5 7 a0 := by rw [hS]; exact pI_x ext_sI p_a0
  have p_b1 : pI S5 7 b1 := by rw [hS]; exact pI_x ext_sI p_b1
  have hw := hw S5 hS
  refine lv_aload_n hx hb dX7_copyFrom_40 rfl (lv_at hl 0 rfl) ?_
  refine lv_aload_n hx hb dX7_copyFrom_41 rfl (lv_at hl 1 rfl) ?_
  refine gf_7_6 C P p_b1 q_113 dX7_copyFrom_42 ?_
  refine pf_7_6 C P p_a0 q_113 dX7_copyFrom_45 (fun H locs P => ?_)
  obtain ⟨S6, hS⟩ : ∃ z, z = (sI S5 a0 6 (mI S5 b1 6)) := ⟨_, rfl⟩
  have P : PW G A s H locs S0 S6 := by rw [hS]; exact P
  have p_a0 : pI S6 7 a0 := by rw [hS]; exact pI_x ext_sI p_a0
  have p_b1 : pI S6 7 b1 := by rw [hS]; exact pI_x ext_sI p_b1
  have hw := hw S6 hS
  refine lv_aload_n hx hb dX7_copyFrom_48 rfl (lv_at hl 0 rfl) ?_
  refine lv_aload_n hx hb dX7_copyFrom_49 rfl (lv_at hl 1 rfl) ?_
  refine gf_7_7 C P p_b1 q_116 dX7_copyFrom_50 ?_
  refine pf_7_7 C P p_a0 q_116 dX7_copyFrom_53 (fun H locs P => ?_)
  obtain ⟨S7, hS⟩ : ∃ z, z = (sI S6 a0 7 (mI S6 b1 7)) := ⟨_, rfl⟩
  have P : PW G A s H locs S0 S7 := by rw [hS]; exact P
  have p_a0 : pI S7 7 a0 := by rw [hS]; exact pI_x ext_sI p_a0
  have p_b1 : pI S7 7 b1 := by rw [hS]; exact pI_x ext_sI p_b1
  have hw := hw S7 hS
  refine lv_aload_n hx hb dX7_copyFrom_56 rfl (lv_at hl 0 rfl) ?_
  refine lv_aload_n hx hb dX7_copyFrom_57 rfl (lv_at hl 1 rfl) ?_
  refine gf_7_8 C P p_b1 q_119 dX7_copyFrom_58 ?_
  refine pf_7_8 C P p_a0 q_119 dX7_copyFrom_61 (fun H locs P => ?_)
  obtain ⟨S8, hS⟩ : ∃ z, z = (sI S7 a0 8 (mI S7 b1 8)) := ⟨_, rfl⟩
  have P : PW G A s H locs S0 S8 := by rw [hS]; exact P
  have p_a0 : pI S8 7 a0 := by rw [hS]; exact pI_x ext_sI p_a0
  have p_b1 : pI S8 7 b1 := by rw [hS]; exact pI_x ext_sI p_b1
  have hw := hw S8 hS
  refine lv_aload_n hx hb dX7_copyFrom_64 rfl (lv_at hl 0 rfl) ?_
  refine lv_aload_n hx hb dX7_copyFrom_65 rfl (lv_at hl 1 rfl) ?_
  refine gf_7_9 C P p_b1 q_122 dX7_copyFrom_66 ?_
  refine pf_7_9 C P p_a0 q_122 dX7_copyFrom_69 (fun H locs P => ?_)
  obtain ⟨S9, hS⟩ : ∃ z, z = (sI S8 a0 9 (mI S8 b1 9)) := ⟨_, rfl⟩
  have P : PW G A s H locs S0 S9 := by rw [hS]; exact P
  have p_a0 : pI S9 7 a0 := by rw [hS]; exact pI_x ext_sI p_a0
  have p_b1 : pI S9 7 b1 := by rw [hS]; exact pI_x ext_sI p_b1
  have hw := hw S9 hS
  refine lv_aload_n hx hb dX7_copyFrom_72 rfl (lv_at hl 0 rfl) ?_
  refine lv_aload_n hx hb dX7_copyFrom_73 rfl (lv_at hl 1 rfl) ?_
  refine gf_7_10 C P p_b1 q_125 dX7_copyFrom_74 ?_
  refine pf_7_10 C P p_a0 q_125 dX7_copyFrom_77 (fun H locs P => ?_)
  obtain ⟨S10, hS⟩ : ∃ z, z = (sI S9 a0 10 (mI S9 b1 10)) := ⟨_, rfl⟩
  have P : PW G A s H locs S0 S10 := by rw [hS]; exact P
  have p_a0 : pI S10 7 a0 := by rw [hS]; exact pI_x ext_sI p_a0
  have p_b1 : pI S10 7 b1 := by rw [hS]; exact pI_x ext_sI p_b1
  have hw := hw S10 hS
  refine lv_aload_n hx hb dX7_copyFrom_80 rfl (lv_at hl 0 rfl) ?_
  refine lv_aload_n hx hb dX7_copyFrom_81 rfl (lv_at hl 1 rfl) ?_
  refine gf_7_11 C P p_b1 q_128 dX7_copyFrom_82 ?_
  obtain ⟨h2, hw⟩ := hw
  refine pf_7_11 C P p_a0 h2 q_128 dX7_copyFrom_85 (fun H locs P => ?_)
  obtain ⟨S11, hS⟩ : ∃ z, z = (sI S10 a0 11 (mI S10 b1 11)) := ⟨_, rfl⟩
  have P : PW G A s H locs S0 S11 := by rw [hS]; exact P
  have p_a0 : pI S11 7 a0 := by rw [hS]; exact pI_x ext_sI p_a0
  have p_b1 : pI S11 7 b1 := by rw [hS]; exact pI_x ext_sI p_b1
  have hw := hw S11 hS
  refine lv_aload_n hx hb dX7_copyFrom_88 rfl (lv_at hl 0 rfl) ?_
  refine lv_aload_n hx hb dX7_copyFrom_89 rfl (lv_at hl 1 rfl) ?_
  refine gf_7_12 C P p_b1 q_131 dX7_copyFrom_90 ?_
  obtain ⟨h2, hw⟩ := hw
  refine pf_7_12 C P p_a0 h2 q_131 dX7_copyFrom_93 (fun H locs P => ?_)
  obtain ⟨S12, hS⟩ : ∃ z, z = (sI S11 a0 12 (mI S11 b1 12)) := ⟨_, rfl⟩
  have P : PW G A s H locs S0 S12 := by rw [hS]; exact P
  have p_a0 : pI S12 7 a0 := by rw [hS]; exact pI_x ext_sI p_a0
  have hw := hw S12 hS
  exact e_v C hr P hw (by omega) (by omega) dX7_copyFrom_96
def wp_X7_copyFrom (Q : MS → Prop) (QX : String → MS → Prop) (S : MS) (a0 : Nat) (b1 : Nat) : Prop := wX7_copyFrom_0 Q QX S a0 b1
set_option maxHeartbeats 4000000 in
set_option maxRecDepth 100000 in
theorem met_X7_copyFrom {l : Launch} (hst : l.stackTraces = false) (G : GP) (sz : Nat) (Q : MS → Prop) (QX : String → MS → Prop) (S : MS) (a0 : Nat) (b1 : Nat) (p_a0 : pI S 7 a0) (p_b1 : pI S 7 b1) (hw : wp_X7_copyFrom Q QX S a0 b1) : vx_Met l yX7_copyFrom (.code yX7_copyFrom cX7_copyFrom 2 none :: GW) rmX7_copyFrom (va_Pc [.ref a0, .ref b1] (PR G S sz)) (QV G S (FA G S sz) Q) (XX G S (FA G S sz) QX) 0 0 (FA G S sz) := by
  refine st_m (by decide +kernel) hst (fun p e s m below meth c C hr hnm hex P => ?_)
  refine en_m (Nat.le_of_ble_eq_true rfl) (lv := [(0, .ref a0), (1, .ref b1)]) rfl (fun ls hl => ?_)
  have C : CF p l s m _ meth c "SkirmishGrid$Unit" cX7_copyFrom 2 G (FA G S sz) := C
  exact tX7_copyFrom_0 C hr hex Q QX S a0 b1 p_a0 p_b1 P hl (by omega) (by omega) hw
theorem cd_X7_copyFrom : yX7_copyFrom.cls = RX7 ∧ yX7_copyFrom.cls ≠ "java/lang/invoke/MethodHandle" ∧ yX7_copyFrom.cls ≠ "java/lang/invoke/VarHandle" ∧ (parseMethodDescriptor yX7_copyFrom.desc).map (fun d => d.parameters.length) = some 1 := by decide +kernel
abbrev rmX7_isSameAs : Room := { frames := 0, cells := 0, slots := 0, locals := 0 }
def wX7_isSameAs_0 (Q : Int32 → MS → Prop) (QX : String → MS → Prop) (S : MS) (a0 : Nat) (b1 : Nat) : Prop := ((¬ (mI S a0 1) = (mI S b1 1) → Q 0 S) ∧ ((mI S a0 1) = (mI S b1 1) → ((¬ (mI S a0 2) = (mI S b1 2) → Q 0 S) ∧ ((mI S a0 2) = (mI S b1 2) → ((¬ (mI S a0 4) = (mI S b1 4) → Q 0 S) ∧ ((mI S a0 4) = (mI S b1 4) → ((¬ (mI S a0 5) = (mI S b1 5) → Q 0 S) ∧ ((mI S a0 5) = (mI S b1 5) → ((¬ (mI S a0 6) = (mI S b1 6) → Q 0 S) ∧ ((mI S a0 6) = (mI S b1 6) → ((¬ (mI S a0 7) = (mI S b1 7) → Q 0 S) ∧ ((mI S a0 7) = (mI S b1 7) → ((¬ (mI S a0 8) = (mI S b1 8) → Q 0 S) ∧ ((mI S a0 8) = (mI S b1 8) → ((¬ (mI S a0 9) = (mI S b1 9) → Q 0 S) ∧ ((mI S a0 9) = (mI S b1 9) → ((¬ (mI S a0 10) = (mI S b1 10) → Q 0 S) ∧ ((mI S a0 10) = (mI S b1 10) → ((¬ (mI S a0 11) = (mI S b1 11) → Q 0 S) ∧ ((mI S a0 11) = (mI S b1 11) → ((¬ (mI S a0 12) = (mI S b1 12) → Q 0 S) ∧ ((mI S a0 12) = (mI S b1 12) → Q 1 S))))))))))))))))))))))
set_option maxHeartbeats 4000000 in
set_option maxRecDepth 100000 in
theorem tX7_isSameAs_0 {p : Program} {l : Launch} {e : Env} {s : State} {m : MethodId} {args : Array Value} {below : List Frame} {meth : Method} {c : Code} {H : Heap} {locs : List Loc} {cells slots : Nat} {G : GP} {A : Nat → Prop} {S0 : MS} {ls : Array Slot} (C : CF p l s m args meth c "SkirmishGrid$Unit" cX7_isSameAs 2 G A) (hr : meth.sig.returnType = (some .boolean)) (hex : ∀ x ∈ c.exceptionTable.toList, False) (Q : Int32 → MS → Prop) (QX : String → MS → Prop) (S : MS) (a0 : Nat) (b1 : Nat) (p_a0 : pI S 7 a0) (p_b1 : pI S 7 b1) (P : PW G A s H locs S0 S) (hl : lv_has ls 2 [(0, .ref a0), (1, .ref b1)]) (hcc : cells + 0 ≤ 0) (hss : slots + 0 ≤ 0) (hw : wX7_isSameAs_0 Q QX S a0 b1) : W p l e rmX7_isSameAs s m args below meth c H locs cells slots (vx_MQ below (QI G S0 A Q) (XX G S0 A QX) args s 0 0 A) (F0 m 0 ls []) := by
  have hx := CF_x C
  have hb := CF_b C
  unfold wX7_isSameAs_0 at hw
  refine lv_aload_n hx hb dX7_isSameAs_0 rfl (lv_at hl 0 rfl) ?_
  refine gf_7_1 C P p_a0 q_96 dX7_isSameAs_1 ?_
  refine lv_aload_n hx hb dX7_isSameAs_4 rfl (lv_at hl 1 rfl) ?_
  refine gf_7_1 C P p_b1 q_96 dX7_isSameAs_5 ?_
  refine lv_icmp_ne (tgt := 125) hx hb dX7_isSameAs_8 (by decide) (fun hc => ?_) (fun hc => ?_)
  · have hw := hw.1 hc
    refine lv_iconst (v := 0) hx hb dX7_isSameAs_125 (by decide) ?_
    exact e_i C hr (by decide +kernel) P hw (by omega) (by omega) dX7_isSameAs_126
  · have hw := hw.2 hc
    refine lv_aload_n hx hb dX7_isSameAs_11 rfl (lv_at hl 0 rfl) ?_
    refine gf_7_2 C P p_a0 q_99 dX7_isSameAs_12 ?_
    refine lv_aload_n hx hb dX7_isSameAs_15 rfl (lv_at hl 1 rfl) ?_
    refine gf_7_2 C P p_b1 q_99 dX7_isSameAs_16 ?_
    refine lv_icmp_ne (tgt := 125) hx hb dX7_isSameAs_19 (by decide) (fun hc => ?_) (fun hc => ?_)
    · have hw := hw.1 hc
      refine lv_iconst (v := 0) hx hb dX7_isSameAs_125 (by decide) ?_
      exact e_i C hr (by decide +kernel) P hw (by omega) (by omega) dX7_isSameAs_126
    · have hw := hw.2 hc
      refine lv_aload_n hx hb dX7_isSameAs_22 rfl (lv_at hl 0 rfl) ?_
      refine gf_7_4 C P p_a0 q_106 dX7_isSameAs_23 ?_
      refine lv_aload_n hx hb dX7_isSameAs_26 rfl (lv_at hl 1 rfl) ?_
      refine gf_7_4 C P p_b1 q_106 dX7_isSameAs_27 ?_
      refine lv_icmp_ne (tgt := 125) hx hb dX7_isSameAs_30 (by decide) (fun hc => ?_) (fun hc => ?_)
      · have hw := hw.1 hc
        refine lv_iconst (v := 0) hx hb dX7_isSameAs_125 (by decide) ?_
        exact e_i C hr (by decide +kernel) P hw (by omega) (by omega) dX7_isSameAs_126
      · have hw := hw.2 hc
        refine lv_aload_n hx hb dX7_isSameAs_33 rfl (lv_at hl 0 rfl) ?_
        refine gf_7_5 C P p_a0 q_109 dX7_isSameAs_34 ?_
        refine lv_aload_n hx hb dX7_isSameAs_37 rfl (lv_at hl 1 rfl) ?_
        refine gf_7_5 C P p_b1 q_109 dX7_isSameAs_38 ?_
        refine lv_icmp_ne (tgt := 125) hx hb dX7_isSameAs_41 (by decide) (fun hc => ?_) (fun hc => ?_)
        · have hw := hw.1 hc
          refine lv_iconst (v := 0) hx hb dX7_isSameAs_125 (by decide) ?_
          exact e_i C hr (by decide +kernel) P hw (by omega) (by omega) dX7_isSameAs_126
        · have hw := hw.2 hc
          refine lv_aload_n hx hb dX7_isSameAs_44 rfl (lv_at hl 0 rfl) ?_
          refine gf_7_6 C P p_a0 q_113 dX7_isSameAs_45 ?_
          refine lv_aload_n hx hb dX7_isSameAs_48 rfl (lv_at hl 1 rfl) ?_
          refine gf_7_6 C P p_b1 q_113 dX7_isSameAs_49 ?_
          refine lv_icmp_ne (tgt := 125) hx hb dX7_isSameAs_52 (by decide) (fun hc => ?_) (fun hc => ?_)
          · have hw := hw.1 hc
            refine lv_iconst (v := 0) hx hb dX7_isSameAs_125 (by decide) ?_
            exact e_i C hr (by decide +kernel) P hw (by omega) (by omega) dX7_isSameAs_126
          · have hw := hw.2 hc
            refine lv_aload_n hx hb dX7_isSameAs_55 rfl (lv_at hl 0 rfl) ?_
            refine gf_7_7 C P p_a0 q_116 dX7_isSameAs_56 ?_
            refine lv_aload_n hx hb dX7_isSameAs_59 rfl (lv_at hl 1 rfl) ?_
            refine gf_7_7 C P p_b1 q_116 dX7_isSameAs_60 ?_
            refine lv_icmp_ne (tgt := 125) hx hb dX7_isSameAs_63 (by decide) (fun hc => ?_) (fun hc => ?_)
            · have hw := hw.1 hc
              refine lv_iconst (v := 0) hx hb dX7_isSameAs_125 (by decide) ?_
              exact e_i C hr (by decide +kernel) P hw (by omega) (by omega) dX7_isSameAs_126
            · have hw := hw.2 hc
              refine lv_aload_n hx hb dX7_isSameAs_66 rfl (lv_at hl 0 rfl) ?_
              refine gf_7_8 C P p_a0 q_119 dX7_isSameAs_67 ?_
              refine lv_aload_n hx hb dX7_isSameAs_70 rfl (lv_at hl 1 rfl) ?_
              refine gf_7_8 C P p_b1 q_119 dX7_isSameAs_71 ?_
              refine lv_icmp_ne (tgt := 125) hx hb dX7_isSameAs_74 (by decide) (fun hc => ?_) (fun hc => ?_)
              · have hw := hw.1 hc
                refine lv_iconst (v := 0) hx hb dX7_isSameAs_125 (by decide) ?_
                exact e_i C hr (by decide +kernel) P hw (by omega) (by omega) dX7_isSameAs_126
              · have hw := hw.2 hc
                refine lv_aload_n hx hb dX7_isSameAs_77 rfl (lv_at hl 0 rfl) ?_
                refine gf_7_9 C P p_a0 q_122 dX7_isSameAs_78 ?_
                refine lv_aload_n hx hb dX7_isSameAs_81 rfl (lv_at hl 1 rfl) ?_
                refine gf_7_9 C P p_b1 q_122 dX7_isSameAs_82 ?_
                refine lv_icmp_ne (tgt := 125) hx hb dX7_isSameAs_85 (by decide) (fun hc => ?_) (fun hc => ?_)
                · have hw := hw.1 hc
                  refine lv_iconst (v := 0) hx hb dX7_isSameAs_125 (by decide) ?_
                  exact e_i C hr (by decide +kernel) P hw (by omega) (by omega) dX7_isSameAs_126
                · have hw := hw.2 hc
                  refine lv_aload_n hx hb dX7_isSameAs_88 rfl (lv_at hl 0 rfl) ?_
                  refine gf_7_10 C P p_a0 q_125 dX7_isSameAs_89 ?_
                  refine lv_aload_n hx hb dX7_isSameAs_92 rfl (lv_at hl 1 rfl) ?_
                  refine gf_7_10 C P p_b1 q_125 dX7_isSameAs_93 ?_
                  refine lv_icmp_ne (tgt := 125) hx hb dX7_isSameAs_96 (by decide) (fun hc => ?_) (fun hc => ?_)
                  · have hw := hw.1 hc
                    refine lv_iconst (v := 0) hx hb dX7_isSameAs_125 (by decide) ?_
                    exact e_i C hr (by decide +kernel) P hw (by omega) (by omega) dX7_isSameAs_126
                  · have hw := hw.2 hc
                    refine lv_aload_n hx hb dX7_isSameAs_99 rfl (lv_at hl 0 rfl) ?_
                    refine gf_7_11 C P p_a0 q_128 dX7_isSameAs_100 ?_
                    refine lv_aload_n hx hb dX7_isSameAs_103 rfl (lv_at hl 1 rfl) ?_
                    refine gf_7_11 C P p_b1 q_128 dX7_isSameAs_104 ?_
                    refine lv_icmp_ne (tgt := 125) hx hb dX7_isSameAs_107 (by decide) (fun hc => ?_) (fun hc => ?_)
                    · have hw := hw.1 hc
                      refine lv_iconst (v := 0) hx hb dX7_isSameAs_125 (by decide) ?_
                      exact e_i C hr (by decide +kernel) P hw (by omega) (by omega) dX7_isSameAs_126
                    · have hw := hw.2 hc
                      refine lv_aload_n hx hb dX7_isSameAs_110 rfl (lv_at hl 0 rfl) ?_
                      refine gf_7_12 C P p_a0 q_131 dX7_isSameAs_111 ?_
                      refine lv_aload_n hx hb dX7_isSameAs_114 rfl (lv_at hl 1 rfl) ?_
                      refine gf_7_12 C P p_b1 q_131 dX7_isSameAs_115 ?_
                      refine lv_icmp_ne (tgt := 125) hx hb dX7_isSameAs_118 (by decide) (fun hc => ?_) (fun hc => ?_)
                      · have hw := hw.1 hc
                        refine lv_iconst (v := 0) hx hb dX7_isSameAs_125 (by decide) ?_
                        exact e_i C hr (by decide +kernel) P hw (by omega) (by omega) dX7_isSameAs_126
                      · have hw := hw.2 hc
                        refine lv_iconst (v := 1) hx hb dX7_isSameAs_121 (by decide) ?_
                        refine lv_goto (tgt := 126) hx hb dX7_isSameAs_122 (by decide) ?_
                        exact e_i C hr (by decide +kernel) P hw (by omega) (by omega) dX7_isSameAs_126
def wp_X7_isSameAs (Q : Int32 → MS → Prop) (QX : String → MS → Prop) (S : MS) (a0 : Nat) (b1 : Nat) : Prop := wX7_isSameAs_0 Q QX S a0 b1
set_option maxHeartbeats 4000000 in
set_option maxRecDepth 100000 in
theorem met_X7_isSameAs {l : Launch} (hst : l.stackTraces = false) (G : GP) (sz : Nat) (Q : Int32 → MS → Prop) (QX : String → MS → Prop) (S : MS) (a0 : Nat) (b1 : Nat) (p_a0 : pI S 7 a0) (p_b1 : pI S 7 b1) (hw : wp_X7_isSameAs Q QX S a0 b1) : vx_Met l yX7_isSameAs (.code yX7_isSameAs cX7_isSameAs 2 (some .boolean) :: GW) rmX7_isSameAs (va_Pc [.ref a0, .ref b1] (PR G S sz)) (QI G S (FA G S sz) Q) (XX G S (FA G S sz) QX) 0 0 (FA G S sz) := by
  refine st_m (by decide +kernel) hst (fun p e s m below meth c C hr hnm hex P => ?_)
  refine en_m (Nat.le_of_ble_eq_true rfl) (lv := [(0, .ref a0), (1, .ref b1)]) rfl (fun ls hl => ?_)
  have C : CF p l s m _ meth c "SkirmishGrid$Unit" cX7_isSameAs 2 G (FA G S sz) := C
  exact tX7_isSameAs_0 C hr hex Q QX S a0 b1 p_a0 p_b1 P hl (by omega) (by omega) hw
theorem cd_X7_isSameAs : yX7_isSameAs.cls = RX7 ∧ yX7_isSameAs.cls ≠ "java/lang/invoke/MethodHandle" ∧ yX7_isSameAs.cls ≠ "java/lang/invoke/VarHandle" ∧ (parseMethodDescriptor yX7_isSameAs.desc).map (fun d => d.parameters.length) = some 1 := by decide +kernel
