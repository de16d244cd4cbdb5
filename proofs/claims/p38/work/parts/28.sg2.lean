theorem q_961 : Cond.methodLink "SkirmishGrid" 463 yX2_canStrike ∈ GW := gw_t 961 (by decide +kernel) (by decide +kernel)
theorem q_957 : Cond.methodLink "SkirmishGrid" 273 yX8_requireTarget ∈ GW := gw_t 957 (by decide +kernel) (by decide +kernel)
theorem q_959 : Cond.instanceMethod yX8_requireTarget ∈ GW := gw_t 959 (by decide +kernel) (by decide +kernel)
theorem q_p14 : Cond.selects "SkirmishGrid" yX8_requireTarget yX8_requireTarget ∈ GW := gw_p 14 (by decide +kernel) (by decide +kernel)
theorem q_960 : Cond.code yX8_requireTarget cX8_requireTarget 3 none ∈ GW := gw_t 960 (by decide +kernel) (by decide +kernel)
theorem q_974 : Cond.methodLink "SkirmishGrid" 277 yX2_countHits ∈ GW := gw_t 974 (by decide +kernel) (by decide +kernel)
theorem q_975 : Cond.instanceMethod yX2_countHits ∈ GW := gw_t 975 (by decide +kernel) (by decide +kernel)
theorem q_976 : Cond.selects "SkirmishGrid$Fight" yX2_countHits yX2_countHits ∈ GW := gw_t 976 (by decide +kernel) (by decide +kernel)
theorem q_977 : Cond.code yX2_countHits cX2_countHits 6 (some .int) ∈ GW := gw_t 977 (by decide +kernel) (by decide +kernel)
theorem q_988 : Cond.constantDouble "SkirmishGrid" 281 4626322717216342016 ∈ GW := gw_t 988 (by decide +kernel) (by decide +kernel)
theorem q_996 : Cond.methodLink "SkirmishGrid" 283 yX2_sumDamages ∈ GW := gw_t 996 (by decide +kernel) (by decide +kernel)
theorem q_1008 : Cond.constantDouble "SkirmishGrid" 286 4635329916471083008 ∈ GW := gw_t 1008 (by decide +kernel) (by decide +kernel)
theorem q_1016 : Cond.methodLink "SkirmishGrid" 288 yX2_chooseTarget ∈ GW := gw_t 1016 (by decide +kernel) (by decide +kernel)
theorem q_1017 : Cond.instanceMethod yX2_chooseTarget ∈ GW := gw_t 1017 (by decide +kernel) (by decide +kernel)
theorem q_1018 : Cond.selects "SkirmishGrid$Fight" yX2_chooseTarget yX2_chooseTarget ∈ GW := gw_t 1018 (by decide +kernel) (by decide +kernel)
theorem q_1019 : Cond.code yX2_chooseTarget cX2_chooseTarget 8 (some .int) ∈ GW := gw_t 1019 (by decide +kernel) (by decide +kernel)
theorem q_1042 : Cond.methodLink "SkirmishGrid" 474 yX4_save ∈ GW := gw_t 1042 (by decide +kernel) (by decide +kernel)
theorem q_1043 : Cond.instanceMethod yX4_save ∈ GW := gw_t 1043 (by decide +kernel) (by decide +kernel)
theorem q_1044 : Cond.selects "SkirmishGrid$History" yX4_save yX4_save ∈ GW := gw_t 1044 (by decide +kernel) (by decide +kernel)
theorem q_1045 : Cond.code yX4_save cX4_save 2 none ∈ GW := gw_t 1045 (by decide +kernel) (by decide +kernel)
theorem q_1048 : Cond.methodLink "SkirmishGrid" 477 yX0_add ∈ GW := gw_t 1048 (by decide +kernel) (by decide +kernel)
theorem q_1049 : Cond.instanceMethod yX0_add ∈ GW := gw_t 1049 (by decide +kernel) (by decide +kernel)
theorem q_1050 : Cond.selects "SkirmishGrid$Commands" yX0_add yX0_add ∈ GW := gw_t 1050 (by decide +kernel) (by decide +kernel)
theorem q_1051 : Cond.code yX0_add cX0_add 3 none ∈ GW := gw_t 1051 (by decide +kernel) (by decide +kernel)
theorem q_1030 : Cond.methodLink "SkirmishGrid" 294 yX8_requireActions ∈ GW := gw_t 1030 (by decide +kernel) (by decide +kernel)
theorem q_1032 : Cond.instanceMethod yX8_requireActions ∈ GW := gw_t 1032 (by decide +kernel) (by decide +kernel)
theorem q_p16 : Cond.selects "SkirmishGrid" yX8_requireActions yX8_requireActions ∈ GW := gw_p 16 (by decide +kernel) (by decide +kernel)
theorem q_1033 : Cond.code yX8_requireActions cX8_requireActions 1 none ∈ GW := gw_t 1033 (by decide +kernel) (by decide +kernel)
theorem q_1035 : Cond.fieldLink "SkirmishGrid" 304 "SkirmishGrid" "SPEED" "[I" ∈ GW := gw_t 1035 (by decide +kernel) (by decide +kernel)
theorem q_1038 : Cond.methodLink "SkirmishGrid" 309 yX8_remember ∈ GW := gw_t 1038 (by decide +kernel) (by decide +kernel)
theorem q_1040 : Cond.instanceMethod yX8_remember ∈ GW := gw_t 1040 (by decide +kernel) (by decide +kernel)
theorem q_p17 : Cond.selects "SkirmishGrid" yX8_remember yX8_remember ∈ GW := gw_p 17 (by decide +kernel) (by decide +kernel)
theorem q_1041 : Cond.code yX8_remember cX8_remember 3 none ∈ GW := gw_t 1041 (by decide +kernel) (by decide +kernel)
theorem q_1052 : Cond.methodLink "SkirmishGrid" 313 yX2_walk ∈ GW := gw_t 1052 (by decide +kernel) (by decide +kernel)
theorem q_1079 : Cond.methodLink "SkirmishGrid" 317 yX8_requireAmmunition ∈ GW := gw_t 1079 (by decide +kernel) (by decide +kernel)
theorem q_1080 : Cond.static yX8_requireAmmunition ∈ GW := gw_t 1080 (by decide +kernel) (by decide +kernel)
theorem q_1081 : Cond.code yX8_requireAmmunition cX8_requireAmmunition 1 none ∈ GW := gw_t 1081 (by decide +kernel) (by decide +kernel)
theorem q_1083 : Cond.methodLink "SkirmishGrid" 321 yX2_shoot ∈ GW := gw_t 1083 (by decide +kernel) (by decide +kernel)
theorem q_1096 : Cond.methodLink "SkirmishGrid" 326 yX2_canHurl ∈ GW := gw_t 1096 (by decide +kernel) (by decide +kernel)
theorem q_1097 : Cond.instanceMethod yX2_canHurl ∈ GW := gw_t 1097 (by decide +kernel) (by decide +kernel)
theorem q_1098 : Cond.selects "SkirmishGrid$Fight" yX2_canHurl yX2_canHurl ∈ GW := gw_t 1098 (by decide +kernel) (by decide +kernel)
theorem q_1099 : Cond.code yX2_canHurl cX2_canHurl 3 (some .boolean) ∈ GW := gw_t 1099 (by decide +kernel) (by decide +kernel)
theorem q_1101 : Cond.methodLink "SkirmishGrid" 332 yX2_hurl ∈ GW := gw_t 1101 (by decide +kernel) (by decide +kernel)
theorem q_1117 : Cond.methodLink "SkirmishGrid" 337 yX2_startGuarding ∈ GW := gw_t 1117 (by decide +kernel) (by decide +kernel)
theorem q_1128 : Cond.methodLink "SkirmishGrid" 340 yX2_startWatching ∈ GW := gw_t 1128 (by decide +kernel) (by decide +kernel)
theorem q_1139 : Cond.methodLink "SkirmishGrid" 343 yX2_refill ∈ GW := gw_t 1139 (by decide +kernel) (by decide +kernel)
theorem q_1151 : Cond.methodLink "SkirmishGrid" 346 yX2_finishTurn ∈ GW := gw_t 1151 (by decide +kernel) (by decide +kernel)
theorem q_186 : Cond.fieldLink "SkirmishGrid" 349 "SkirmishGrid$Fight" "events" "LSkirmishGrid$Events;" ∈ GW := gw_t 186 (by decide +kernel) (by decide +kernel)
theorem q_79 : Cond.fieldLink "SkirmishGrid" 353 "SkirmishGrid$Events" "count" "I" ∈ GW := gw_t 79 (by decide +kernel) (by decide +kernel)
theorem q_1167 : Cond.methodLink "SkirmishGrid" 358 yX1_valueAt ∈ GW := gw_t 1167 (by decide +kernel) (by decide +kernel)
theorem q_1168 : Cond.instanceMethod yX1_valueAt ∈ GW := gw_t 1168 (by decide +kernel) (by decide +kernel)
theorem q_1169 : Cond.selects "SkirmishGrid$Events" yX1_valueAt yX1_valueAt ∈ GW := gw_t 1169 (by decide +kernel) (by decide +kernel)
theorem q_1170 : Cond.code yX1_valueAt cX1_valueAt 3 (some .int) ∈ GW := gw_t 1170 (by decide +kernel) (by decide +kernel)
theorem q_243 : Cond.fieldLink "SkirmishGrid" 361 "SkirmishGrid$History" "count" "I" ∈ GW := gw_t 243 (by decide +kernel) (by decide +kernel)
theorem q_1179 : Cond.methodLink "SkirmishGrid" 364 yX4_takeBack ∈ GW := gw_t 1179 (by decide +kernel) (by decide +kernel)
theorem q_1180 : Cond.instanceMethod yX4_takeBack ∈ GW := gw_t 1180 (by decide +kernel) (by decide +kernel)
theorem q_1181 : Cond.selects "SkirmishGrid$History" yX4_takeBack yX4_takeBack ∈ GW := gw_t 1181 (by decide +kernel) (by decide +kernel)
theorem q_1182 : Cond.code yX4_takeBack cX4_takeBack 2 none ∈ GW := gw_t 1182 (by decide +kernel) (by decide +kernel)
theorem q_1183 : Cond.methodLink "SkirmishGrid" 368 yX0_dropLast ∈ GW := gw_t 1183 (by decide +kernel) (by decide +kernel)
theorem q_1184 : Cond.instanceMethod yX0_dropLast ∈ GW := gw_t 1184 (by decide +kernel) (by decide +kernel)
theorem q_1185 : Cond.selects "SkirmishGrid$Commands" yX0_dropLast yX0_dropLast ∈ GW := gw_t 1185 (by decide +kernel) (by decide +kernel)
theorem q_1186 : Cond.code yX0_dropLast cX0_dropLast 1 none ∈ GW := gw_t 1186 (by decide +kernel) (by decide +kernel)
theorem q_1212 : Cond.methodLink "SkirmishGrid" 386 yX2_isSameAs ∈ GW := gw_t 1212 (by decide +kernel) (by decide +kernel)
theorem q_1213 : Cond.instanceMethod yX2_isSameAs ∈ GW := gw_t 1213 (by decide +kernel) (by decide +kernel)
theorem q_1214 : Cond.selects "SkirmishGrid$Fight" yX2_isSameAs yX2_isSameAs ∈ GW := gw_t 1214 (by decide +kernel) (by decide +kernel)
theorem q_1215 : Cond.code yX2_isSameAs cX2_isSameAs 3 (some .boolean) ∈ GW := gw_t 1215 (by decide +kernel) (by decide +kernel)
theorem q_219 : Cond.fieldLink "SkirmishGrid" 376 "SkirmishGrid$Commands" "kinds" "[I" ∈ GW := gw_t 219 (by decide +kernel) (by decide +kernel)
theorem q_221 : Cond.fieldLink "SkirmishGrid" 379 "SkirmishGrid$Commands" "arguments" "[I" ∈ GW := gw_t 221 (by decide +kernel) (by decide +kernel)
theorem q_1201 : Cond.methodLink "SkirmishGrid" 382 yX2_carryOut ∈ GW := gw_t 1201 (by decide +kernel) (by decide +kernel)
theorem q_1202 : Cond.instanceMethod yX2_carryOut ∈ GW := gw_t 1202 (by decide +kernel) (by decide +kernel)
theorem q_1203 : Cond.selects "SkirmishGrid$Fight" yX2_carryOut yX2_carryOut ∈ GW := gw_t 1203 (by decide +kernel) (by decide +kernel)
theorem q_1204 : Cond.code yX2_carryOut cX2_carryOut 4 (some .int) ∈ GW := gw_t 1204 (by decide +kernel) (by decide +kernel)
theorem q_1195 : Cond.methodLink "SkirmishGrid" 373 yX2_prepareLike ∈ GW := gw_t 1195 (by decide +kernel) (by decide +kernel)
theorem q_1196 : Cond.instanceMethod yX2_prepareLike ∈ GW := gw_t 1196 (by decide +kernel) (by decide +kernel)
theorem q_1197 : Cond.selects "SkirmishGrid$Fight" yX2_prepareLike yX2_prepareLike ∈ GW := gw_t 1197 (by decide +kernel) (by decide +kernel)
theorem q_1198 : Cond.code yX2_prepareLike cX2_prepareLike 4 none ∈ GW := gw_t 1198 (by decide +kernel) (by decide +kernel)
theorem dX8_requireTarget_0 : decode cX8_requireTarget 0 = .ok (.aload_n 0, 1) := by decide +kernel
theorem dX8_requireTarget_1 : decode cX8_requireTarget 1 = .ok (.getfield 20, 3) := by decide +kernel
theorem dX8_requireTarget_4 : decode cX8_requireTarget 4 = .ok (.aload_n 1, 1) := by decide +kernel
theorem dX8_requireTarget_5 : decode cX8_requireTarget 5 = .ok (.aload_n 2, 1) := by decide +kernel
theorem dX8_requireTarget_6 : decode cX8_requireTarget 6 = .ok (.invokevirtual 463, 3) := by decide +kernel
theorem dX8_requireTarget_9 : decode cX8_requireTarget 9 = .ok (.ifCond .ne 14, 3) := by decide +kernel
theorem dX8_requireTarget_12 : decode cX8_requireTarget 12 = .ok (.new 64, 3) := by decide +kernel
theorem dX8_requireTarget_15 : decode cX8_requireTarget 15 = .ok (.dup, 1) := by decide +kernel
theorem dX8_requireTarget_16 : decode cX8_requireTarget 16 = .ok (.ldc_w 467, 3) := by decide +kernel
theorem dX8_requireTarget_19 : decode cX8_requireTarget 19 = .ok (.invokespecial 68, 3) := by decide +kernel
theorem dX8_requireTarget_22 : decode cX8_requireTarget 22 = .ok (.athrow, 1) := by decide +kernel
theorem dX8_requireTarget_23 : decode cX8_requireTarget 23 = .ok (.return_, 1) := by decide +kernel
theorem dX8_chance_0 : decode cX8_chance 0 = .ok (.aload_n 0, 1) := by decide +kernel
theorem dX8_chance_1 : decode cX8_chance 1 = .ok (.iload_n 1, 1) := by decide +kernel
theorem dX8_chance_2 : decode cX8_chance 2 = .ok (.invokevirtual 183, 3) := by decide +kernel
theorem dX8_chance_5 : decode cX8_chance 5 = .ok (.astore_n 3, 1) := by decide +kernel
theorem dX8_chance_6 : decode cX8_chance 6 = .ok (.aload_n 0, 1) := by decide +kernel
theorem dX8_chance_7 : decode cX8_chance 7 = .ok (.iload_n 2, 1) := by decide +kernel
theorem dX8_chance_8 : decode cX8_chance 8 = .ok (.invokevirtual 183, 3) := by decide +kernel
theorem dX8_chance_11 : decode cX8_chance 11 = .ok (.astore 4, 2) := by decide +kernel
theorem dX8_chance_13 : decode cX8_chance 13 = .ok (.aload_n 0, 1) := by decide +kernel
theorem dX8_chance_14 : decode cX8_chance 14 = .ok (.aload_n 3, 1) := by decide +kernel
theorem dX8_chance_15 : decode cX8_chance 15 = .ok (.aload 4, 2) := by decide +kernel
theorem dX8_chance_17 : decode cX8_chance 17 = .ok (.invokevirtual 273, 3) := by decide +kernel
theorem dX8_chance_20 : decode cX8_chance 20 = .ok (.aload_n 0, 1) := by decide +kernel
theorem dX8_chance_21 : decode cX8_chance 21 = .ok (.getfield 20, 3) := by decide +kernel
theorem dX8_chance_24 : decode cX8_chance 24 = .ok (.aload_n 3, 1) := by decide +kernel
theorem dX8_chance_25 : decode cX8_chance 25 = .ok (.aload 4, 2) := by decide +kernel
theorem dX8_chance_27 : decode cX8_chance 27 = .ok (.invokevirtual 277, 3) := by decide +kernel
theorem dX8_chance_30 : decode cX8_chance 30 = .ok (.i2d, 1) := by decide +kernel
theorem dX8_chance_31 : decode cX8_chance 31 = .ok (.ldc2_w 281, 3) := by decide +kernel
theorem dX8_chance_34 : decode cX8_chance 34 = .ok (.ddiv, 1) := by decide +kernel
theorem dX8_chance_35 : decode cX8_chance 35 = .ok (.dreturn, 1) := by decide +kernel
theorem dX8_meanDamage_0 : decode cX8_meanDamage 0 = .ok (.aload_n 0, 1) := by decide +kernel
theorem dX8_meanDamage_1 : decode cX8_meanDamage 1 = .ok (.iload_n 1, 1) := by decide +kernel
theorem dX8_meanDamage_2 : decode cX8_meanDamage 2 = .ok (.invokevirtual 183, 3) := by decide +kernel
theorem dX8_meanDamage_5 : decode cX8_meanDamage 5 = .ok (.astore_n 3, 1) := by decide +kernel
theorem dX8_meanDamage_6 : decode cX8_meanDamage 6 = .ok (.aload_n 0, 1) := by decide +kernel
theorem dX8_meanDamage_7 : decode cX8_meanDamage 7 = .ok (.iload_n 2, 1) := by decide +kernel
theorem dX8_meanDamage_8 : decode cX8_meanDamage 8 = .ok (.invokevirtual 183, 3) := by decide +kernel
theorem dX8_meanDamage_11 : decode cX8_meanDamage 11 = .ok (.astore 4, 2) := by decide +kernel
theorem dX8_meanDamage_13 : decode cX8_meanDamage 13 = .ok (.aload_n 0, 1) := by decide +kernel
theorem dX8_meanDamage_14 : decode cX8_meanDamage 14 = .ok (.aload_n 3, 1) := by decide +kernel
theorem dX8_meanDamage_15 : decode cX8_meanDamage 15 = .ok (.aload 4, 2) := by decide +kernel
theorem dX8_meanDamage_17 : decode cX8_meanDamage 17 = .ok (.invokevirtual 273, 3) := by decide +kernel
theorem dX8_meanDamage_20 : decode cX8_meanDamage 20 = .ok (.aload_n 0, 1) := by decide +kernel
theorem dX8_meanDamage_21 : decode cX8_meanDamage 21 = .ok (.getfield 20, 3) := by decide +kernel
theorem dX8_meanDamage_24 : decode cX8_meanDamage 24 = .ok (.aload_n 3, 1) := by decide +kernel
theorem dX8_meanDamage_25 : decode cX8_meanDamage 25 = .ok (.aload 4, 2) := by decide +kernel
theorem dX8_meanDamage_27 : decode cX8_meanDamage 27 = .ok (.invokevirtual 283, 3) := by decide +kernel
theorem dX8_meanDamage_30 : decode cX8_meanDamage 30 = .ok (.i2d, 1) := by decide +kernel
theorem dX8_meanDamage_31 : decode cX8_meanDamage 31 = .ok (.ldc2_w 286, 3) := by decide +kernel
theorem dX8_meanDamage_34 : decode cX8_meanDamage 34 = .ok (.ddiv, 1) := by decide +kernel
theorem dX8_meanDamage_35 : decode cX8_meanDamage 35 = .ok (.dreturn, 1) := by decide +kernel
theorem dX8_bestTarget_0 : decode cX8_bestTarget 0 = .ok (.aload_n 0, 1) := by decide +kernel
theorem dX8_bestTarget_1 : decode cX8_bestTarget 1 = .ok (.getfield 20, 3) := by decide +kernel
theorem dX8_bestTarget_4 : decode cX8_bestTarget 4 = .ok (.aload_n 0, 1) := by decide +kernel
theorem dX8_bestTarget_5 : decode cX8_bestTarget 5 = .ok (.invokevirtual 260, 3) := by decide +kernel
theorem dX8_bestTarget_8 : decode cX8_bestTarget 8 = .ok (.invokevirtual 288, 3) := by decide +kernel
theorem dX8_bestTarget_11 : decode cX8_bestTarget 11 = .ok (.istore_n 1, 1) := by decide +kernel
theorem dX8_bestTarget_12 : decode cX8_bestTarget 12 = .ok (.iload_n 1, 1) := by decide +kernel
theorem dX8_bestTarget_13 : decode cX8_bestTarget 13 = .ok (.ifCond .ge 14, 3) := by decide +kernel
theorem dX8_bestTarget_16 : decode cX8_bestTarget 16 = .ok (.new 117, 3) := by decide +kernel
theorem dX8_bestTarget_19 : decode cX8_bestTarget 19 = .ok (.dup, 1) := by decide +kernel
theorem dX8_bestTarget_20 : decode cX8_bestTarget 20 = .ok (.ldc_w 292, 3) := by decide +kernel
theorem dX8_bestTarget_23 : decode cX8_bestTarget 23 = .ok (.invokespecial 121, 3) := by decide +kernel
theorem dX8_bestTarget_26 : decode cX8_bestTarget 26 = .ok (.athrow, 1) := by decide +kernel
theorem dX8_bestTarget_27 : decode cX8_bestTarget 27 = .ok (.iload_n 1, 1) := by decide +kernel
theorem dX8_bestTarget_28 : decode cX8_bestTarget 28 = .ok (.ireturn, 1) := by decide +kernel
theorem dX8_requireActions_0 : decode cX8_requireActions 0 = .ok (.aload_n 0, 1) := by decide +kernel
theorem dX8_requireActions_1 : decode cX8_requireActions 1 = .ok (.getfield 20, 3) := by decide +kernel
theorem dX8_requireActions_4 : decode cX8_requireActions 4 = .ok (.getfield 210, 3) := by decide +kernel
theorem dX8_requireActions_7 : decode cX8_requireActions 7 = .ok (.iconst 1, 1) := by decide +kernel
theorem dX8_requireActions_8 : decode cX8_requireActions 8 = .ok (.if_icmp .ge 14, 3) := by decide +kernel
theorem dX8_requireActions_11 : decode cX8_requireActions 11 = .ok (.new 74, 3) := by decide +kernel
theorem dX8_requireActions_14 : decode cX8_requireActions 14 = .ok (.dup, 1) := by decide +kernel
theorem dX8_requireActions_15 : decode cX8_requireActions 15 = .ok (.ldc_w 459, 3) := by decide +kernel
theorem dX8_requireActions_18 : decode cX8_requireActions 18 = .ok (.invokespecial 78, 3) := by decide +kernel
theorem dX8_requireActions_21 : decode cX8_requireActions 21 = .ok (.athrow, 1) := by decide +kernel
theorem dX8_requireActions_22 : decode cX8_requireActions 22 = .ok (.return_, 1) := by decide +kernel
theorem dX8_requireAmmunition_0 : decode cX8_requireAmmunition 0 = .ok (.aload_n 0, 1) := by decide +kernel
theorem dX8_requireAmmunition_1 : decode cX8_requireAmmunition 1 = .ok (.getfield 201, 3) := by decide +kernel
theorem dX8_requireAmmunition_4 : decode cX8_requireAmmunition 4 = .ok (.iconst 1, 1) := by decide +kernel
theorem dX8_requireAmmunition_5 : decode cX8_requireAmmunition 5 = .ok (.if_icmp .ge 14, 3) := by decide +kernel
theorem dX8_requireAmmunition_8 : decode cX8_requireAmmunition 8 = .ok (.new 74, 3) := by decide +kernel
theorem dX8_requireAmmunition_11 : decode cX8_requireAmmunition 11 = .ok (.dup, 1) := by decide +kernel
theorem dX8_requireAmmunition_12 : decode cX8_requireAmmunition 12 = .ok (.ldc_w 461, 3) := by decide +kernel
theorem dX8_requireAmmunition_15 : decode cX8_requireAmmunition 15 = .ok (.invokespecial 78, 3) := by decide +kernel
theorem dX8_requireAmmunition_18 : decode cX8_requireAmmunition 18 = .ok (.athrow, 1) := by decide +kernel
theorem dX8_requireAmmunition_19 : decode cX8_requireAmmunition 19 = .ok (.return_, 1) := by decide +kernel
theorem dX8_remember_0 : decode cX8_remember 0 = .ok (.aload_n 0, 1) := by decide +kernel
theorem dX8_remember_1 : decode cX8_remember 1 = .ok (.getfield 34, 3) := by decide +kernel
theorem dX8_remember_4 : decode cX8_remember 4 = .ok (.aload_n 0, 1) := by decide +kernel
theorem dX8_remember_5 : decode cX8_remember 5 = .ok (.getfield 20, 3) := by decide +kernel
theorem dX8_remember_8 : decode cX8_remember 8 = .ok (.invokevirtual 474, 3) := by decide +kernel
theorem dX8_remember_11 : decode cX8_remember 11 = .ok (.aload_n 0, 1) := by decide +kernel
theorem dX8_remember_12 : decode cX8_remember 12 = .ok (.getfield 27, 3) := by decide +kernel
theorem dX8_remember_15 : decode cX8_remember 15 = .ok (.iload_n 1, 1) := by decide +kernel
theorem dX8_remember_16 : decode cX8_remember 16 = .ok (.iload_n 2, 1) := by decide +kernel
theorem dX8_remember_17 : decode cX8_remember 17 = .ok (.invokevirtual 477, 3) := by decide +kernel
theorem dX8_remember_20 : decode cX8_remember 20 = .ok (.return_, 1) := by decide +kernel
theorem dX8_move_0 : decode cX8_move 0 = .ok (.aload_n 0, 1) := by decide +kernel
theorem dX8_move_1 : decode cX8_move 1 = .ok (.iload_n 1, 1) := by decide +kernel
theorem dX8_move_2 : decode cX8_move 2 = .ok (.invokevirtual 149, 3) := by decide +kernel
theorem dX8_move_5 : decode cX8_move 5 = .ok (.aload_n 0, 1) := by decide +kernel
theorem dX8_move_6 : decode cX8_move 6 = .ok (.invokevirtual 260, 3) := by decide +kernel
theorem dX8_move_9 : decode cX8_move 9 = .ok (.astore_n 2, 1) := by decide +kernel
theorem dX8_move_10 : decode cX8_move 10 = .ok (.aload_n 0, 1) := by decide +kernel
theorem dX8_move_11 : decode cX8_move 11 = .ok (.invokevirtual 294, 3) := by decide +kernel
theorem dX8_move_14 : decode cX8_move 14 = .ok (.aload_n 0, 1) := by decide +kernel
theorem dX8_move_15 : decode cX8_move 15 = .ok (.getfield 50, 3) := by decide +kernel
theorem dX8_move_18 : decode cX8_move 18 = .ok (.aload_n 0, 1) := by decide +kernel
theorem dX8_move_19 : decode cX8_move 19 = .ok (.getfield 20, 3) := by decide +kernel
theorem dX8_move_22 : decode cX8_move 22 = .ok (.iload_n 1, 1) := by decide +kernel
theorem dX8_move_23 : decode cX8_move 23 = .ok (.invokevirtual 297, 3) := by decide +kernel
theorem dX8_move_26 : decode cX8_move 26 = .ok (.iload_n 1, 1) := by decide +kernel
theorem dX8_move_27 : decode cX8_move 27 = .ok (.aload_n 2, 1) := by decide +kernel
theorem dX8_move_28 : decode cX8_move 28 = .ok (.getfield 195, 3) := by decide +kernel
theorem dX8_move_31 : decode cX8_move 31 = .ok (.if_icmp .eq 25, 3) := by decide +kernel
theorem dX8_move_34 : decode cX8_move 34 = .ok (.aload_n 0, 1) := by decide +kernel
theorem dX8_move_35 : decode cX8_move 35 = .ok (.getfield 50, 3) := by decide +kernel
theorem dX8_move_38 : decode cX8_move 38 = .ok (.aload_n 2, 1) := by decide +kernel
theorem dX8_move_39 : decode cX8_move 39 = .ok (.getfield 195, 3) := by decide +kernel
theorem dX8_move_42 : decode cX8_move 42 = .ok (.invokevirtual 301, 3) := by decide +kernel
theorem dX8_move_45 : decode cX8_move 45 = .ok (.getstatic 304, 3) := by decide +kernel
theorem dX8_move_48 : decode cX8_move 48 = .ok (.aload_n 2, 1) := by decide +kernel
theorem dX8_move_49 : decode cX8_move 49 = .ok (.getfield 192, 3) := by decide +kernel
theorem dX8_move_52 : decode cX8_move 52 = .ok (.iaload, 1) := by decide +kernel
theorem dX8_move_53 : decode cX8_move 53 = .ok (.if_icmp .le 14, 3) := by decide +kernel
theorem dX8_move_56 : decode cX8_move 56 = .ok (.new 64, 3) := by decide +kernel
theorem dX8_move_59 : decode cX8_move 59 = .ok (.dup, 1) := by decide +kernel
theorem dX8_move_60 : decode cX8_move 60 = .ok (.ldc_w 307, 3) := by decide +kernel
theorem dX8_move_63 : decode cX8_move 63 = .ok (.invokespecial 68, 3) := by decide +kernel
theorem dX8_move_66 : decode cX8_move 66 = .ok (.athrow, 1) := by decide +kernel
theorem dX8_move_67 : decode cX8_move 67 = .ok (.aload_n 0, 1) := by decide +kernel
theorem dX8_move_68 : decode cX8_move 68 = .ok (.iconst 0, 1) := by decide +kernel
theorem dX8_move_69 : decode cX8_move 69 = .ok (.iload_n 1, 1) := by decide +kernel
theorem dX8_move_70 : decode cX8_move 70 = .ok (.invokevirtual 309, 3) := by decide +kernel
theorem dX8_move_73 : decode cX8_move 73 = .ok (.aload_n 0, 1) := by decide +kernel
theorem dX8_move_74 : decode cX8_move 74 = .ok (.getfield 20, 3) := by decide +kernel
theorem dX8_move_77 : decode cX8_move 77 = .ok (.iload_n 1, 1) := by decide +kernel
theorem dX8_move_78 : decode cX8_move 78 = .ok (.aload_n 0, 1) := by decide +kernel
theorem dX8_move_79 : decode cX8_move 79 = .ok (.getfield 50, 3) := by decide +kernel
theorem dX8_move_82 : decode cX8_move 82 = .ok (.invokevirtual 313, 3) := by decide +kernel
theorem dX8_move_85 : decode cX8_move 85 = .ok (.ireturn, 1) := by decide +kernel
theorem dX8_attack_0 : decode cX8_attack 0 = .ok (.aload_n 0, 1) := by decide +kernel
theorem dX8_attack_1 : decode cX8_attack 1 = .ok (.iload_n 1, 1) := by decide +kernel
theorem dX8_attack_2 : decode cX8_attack 2 = .ok (.invokevirtual 183, 3) := by decide +kernel
theorem dX8_attack_5 : decode cX8_attack 5 = .ok (.astore_n 2, 1) := by decide +kernel
theorem dX8_attack_6 : decode cX8_attack 6 = .ok (.aload_n 0, 1) := by decide +kernel
theorem dX8_attack_7 : decode cX8_attack 7 = .ok (.invokevirtual 260, 3) := by decide +kernel
theorem dX8_attack_10 : decode cX8_attack 10 = .ok (.astore_n 3, 1) := by decide +kernel
theorem dX8_attack_11 : decode cX8_attack 11 = .ok (.aload_n 0, 1) := by decide +kernel
theorem dX8_attack_12 : decode cX8_attack 12 = .ok (.invokevirtual 294, 3) := by decide +kernel
theorem dX8_attack_15 : decode cX8_attack 15 = .ok (.aload_n 3, 1) := by decide +kernel
theorem dX8_attack_16 : decode cX8_attack 16 = .ok (.invokestatic 317, 3) := by decide +kernel
theorem dX8_attack_19 : decode cX8_attack 19 = .ok (.aload_n 0, 1) := by decide +kernel
theorem dX8_attack_20 : decode cX8_attack 20 = .ok (.aload_n 3, 1) := by decide +kernel
theorem dX8_attack_21 : decode cX8_attack 21 = .ok (.aload_n 2, 1) := by decide +kernel
theorem dX8_attack_22 : decode cX8_attack 22 = .ok (.invokevirtual 273, 3) := by decide +kernel
theorem dX8_attack_25 : decode cX8_attack 25 = .ok (.aload_n 0, 1) := by decide +kernel
theorem dX8_attack_26 : decode cX8_attack 26 = .ok (.iconst 1, 1) := by decide +kernel
theorem dX8_attack_27 : decode cX8_attack 27 = .ok (.iload_n 1, 1) := by decide +kernel
theorem dX8_attack_28 : decode cX8_attack 28 = .ok (.invokevirtual 309, 3) := by decide +kernel
theorem dX8_attack_31 : decode cX8_attack 31 = .ok (.aload_n 0, 1) := by decide +kernel
theorem dX8_attack_32 : decode cX8_attack 32 = .ok (.getfield 20, 3) := by decide +kernel
theorem dX8_attack_35 : decode cX8_attack 35 = .ok (.iload_n 1, 1) := by decide +kernel
theorem dX8_attack_36 : decode cX8_attack 36 = .ok (.invokevirtual 321, 3) := by decide +kernel
theorem dX8_attack_39 : decode cX8_attack 39 = .ok (.ireturn, 1) := by decide +kernel
theorem dX8_throwAt_0 : decode cX8_throwAt 0 = .ok (.aload_n 0, 1) := by decide +kernel
theorem dX8_throwAt_1 : decode cX8_throwAt 1 = .ok (.iload_n 1, 1) := by decide +kernel
theorem dX8_throwAt_2 : decode cX8_throwAt 2 = .ok (.invokevirtual 149, 3) := by decide +kernel
theorem dX8_throwAt_5 : decode cX8_throwAt 5 = .ok (.aload_n 0, 1) := by decide +kernel
theorem dX8_throwAt_6 : decode cX8_throwAt 6 = .ok (.invokevirtual 260, 3) := by decide +kernel
theorem dX8_throwAt_9 : decode cX8_throwAt 9 = .ok (.astore_n 2, 1) := by decide +kernel
theorem dX8_throwAt_10 : decode cX8_throwAt 10 = .ok (.aload_n 0, 1) := by decide +kernel
theorem dX8_throwAt_11 : decode cX8_throwAt 11 = .ok (.invokevirtual 294, 3) := by decide +kernel
theorem dX8_throwAt_14 : decode cX8_throwAt 14 = .ok (.aload_n 2, 1) := by decide +kernel
theorem dX8_throwAt_15 : decode cX8_throwAt 15 = .ok (.getfield 204, 3) := by decide +kernel
theorem dX8_throwAt_18 : decode cX8_throwAt 18 = .ok (.iconst 1, 1) := by decide +kernel
theorem dX8_throwAt_19 : decode cX8_throwAt 19 = .ok (.if_icmp .ge 14, 3) := by decide +kernel
theorem dX8_throwAt_22 : decode cX8_throwAt 22 = .ok (.new 74, 3) := by decide +kernel
theorem dX8_throwAt_25 : decode cX8_throwAt 25 = .ok (.dup, 1) := by decide +kernel
theorem dX8_throwAt_26 : decode cX8_throwAt 26 = .ok (.ldc_w 324, 3) := by decide +kernel
theorem dX8_throwAt_29 : decode cX8_throwAt 29 = .ok (.invokespecial 78, 3) := by decide +kernel
theorem dX8_throwAt_32 : decode cX8_throwAt 32 = .ok (.athrow, 1) := by decide +kernel
theorem dX8_throwAt_33 : decode cX8_throwAt 33 = .ok (.aload_n 0, 1) := by decide +kernel
theorem dX8_throwAt_34 : decode cX8_throwAt 34 = .ok (.getfield 20, 3) := by decide +kernel
theorem dX8_throwAt_37 : decode cX8_throwAt 37 = .ok (.aload_n 2, 1) := by decide +kernel
theorem dX8_throwAt_38 : decode cX8_throwAt 38 = .ok (.iload_n 1, 1) := by decide +kernel
theorem dX8_throwAt_39 : decode cX8_throwAt 39 = .ok (.invokevirtual 326, 3) := by decide +kernel
theorem dX8_throwAt_42 : decode cX8_throwAt 42 = .ok (.ifCond .ne 14, 3) := by decide +kernel
theorem dX8_throwAt_45 : decode cX8_throwAt 45 = .ok (.new 64, 3) := by decide +kernel
theorem dX8_throwAt_48 : decode cX8_throwAt 48 = .ok (.dup, 1) := by decide +kernel
theorem dX8_throwAt_49 : decode cX8_throwAt 49 = .ok (.ldc_w 330, 3) := by decide +kernel
theorem dX8_throwAt_52 : decode cX8_throwAt 52 = .ok (.invokespecial 68, 3) := by decide +kernel
theorem dX8_throwAt_55 : decode cX8_throwAt 55 = .ok (.athrow, 1) := by decide +kernel
theorem dX8_throwAt_56 : decode cX8_throwAt 56 = .ok (.aload_n 0, 1) := by decide +kernel
theorem dX8_throwAt_57 : decode cX8_throwAt 57 = .ok (.iconst 2, 1) := by decide +kernel
theorem dX8_throwAt_58 : decode cX8_throwAt 58 = .ok (.iload_n 1, 1) := by decide +kernel
theorem dX8_throwAt_59 : decode cX8_throwAt 59 = .ok (.invokevirtual 309, 3) := by decide +kernel
theorem dX8_throwAt_62 : decode cX8_throwAt 62 = .ok (.aload_n 0, 1) := by decide +kernel
theorem dX8_throwAt_63 : decode cX8_throwAt 63 = .ok (.getfield 20, 3) := by decide +kernel
theorem dX8_throwAt_66 : decode cX8_throwAt 66 = .ok (.iload_n 1, 1) := by decide +kernel
theorem dX8_throwAt_67 : decode cX8_throwAt 67 = .ok (.invokevirtual 332, 3) := by decide +kernel
theorem dX8_throwAt_70 : decode cX8_throwAt 70 = .ok (.ireturn, 1) := by decide +kernel
theorem dX8_guard_0 : decode cX8_guard 0 = .ok (.aload_n 0, 1) := by decide +kernel
theorem dX8_guard_1 : decode cX8_guard 1 = .ok (.invokevirtual 260, 3) := by decide +kernel
theorem dX8_guard_4 : decode cX8_guard 4 = .ok (.astore_n 1, 1) := by decide +kernel
theorem dX8_guard_5 : decode cX8_guard 5 = .ok (.aload_n 0, 1) := by decide +kernel
theorem dX8_guard_6 : decode cX8_guard 6 = .ok (.invokevirtual 294, 3) := by decide +kernel
theorem dX8_guard_9 : decode cX8_guard 9 = .ok (.aload_n 1, 1) := by decide +kernel
theorem dX8_guard_10 : decode cX8_guard 10 = .ok (.getfield 222, 3) := by decide +kernel
theorem dX8_guard_13 : decode cX8_guard 13 = .ok (.ifCond .eq 14, 3) := by decide +kernel
theorem dX8_guard_16 : decode cX8_guard 16 = .ok (.new 74, 3) := by decide +kernel
theorem dX8_guard_19 : decode cX8_guard 19 = .ok (.dup, 1) := by decide +kernel
theorem dX8_guard_20 : decode cX8_guard 20 = .ok (.ldc_w 335, 3) := by decide +kernel
theorem dX8_guard_23 : decode cX8_guard 23 = .ok (.invokespecial 78, 3) := by decide +kernel
theorem dX8_guard_26 : decode cX8_guard 26 = .ok (.athrow, 1) := by decide +kernel
theorem dX8_guard_27 : decode cX8_guard 27 = .ok (.aload_n 0, 1) := by decide +kernel
theorem dX8_guard_28 : decode cX8_guard 28 = .ok (.iconst 3, 1) := by decide +kernel
theorem dX8_guard_29 : decode cX8_guard 29 = .ok (.iconst 0, 1) := by decide +kernel
theorem dX8_guard_30 : decode cX8_guard 30 = .ok (.invokevirtual 309, 3) := by decide +kernel
theorem dX8_guard_33 : decode cX8_guard 33 = .ok (.aload_n 0, 1) := by decide +kernel
theorem dX8_guard_34 : decode cX8_guard 34 = .ok (.getfield 20, 3) := by decide +kernel
theorem dX8_guard_37 : decode cX8_guard 37 = .ok (.invokevirtual 337, 3) := by decide +kernel
theorem dX8_guard_40 : decode cX8_guard 40 = .ok (.ireturn, 1) := by decide +kernel
theorem dX8_watch_0 : decode cX8_watch 0 = .ok (.aload_n 0, 1) := by decide +kernel
theorem dX8_watch_1 : decode cX8_watch 1 = .ok (.invokevirtual 260, 3) := by decide +kernel
theorem dX8_watch_4 : decode cX8_watch 4 = .ok (.astore_n 1, 1) := by decide +kernel
theorem dX8_watch_5 : decode cX8_watch 5 = .ok (.aload_n 0, 1) := by decide +kernel
theorem dX8_watch_6 : decode cX8_watch 6 = .ok (.invokevirtual 294, 3) := by decide +kernel
theorem dX8_watch_9 : decode cX8_watch 9 = .ok (.aload_n 1, 1) := by decide +kernel
theorem dX8_watch_10 : decode cX8_watch 10 = .ok (.invokestatic 317, 3) := by decide +kernel
theorem dX8_watch_13 : decode cX8_watch 13 = .ok (.aload_n 0, 1) := by decide +kernel
theorem dX8_watch_14 : decode cX8_watch 14 = .ok (.iconst 4, 1) := by decide +kernel
theorem dX8_watch_15 : decode cX8_watch 15 = .ok (.iconst 0, 1) := by decide +kernel
theorem dX8_watch_16 : decode cX8_watch 16 = .ok (.invokevirtual 309, 3) := by decide +kernel
theorem dX8_watch_19 : decode cX8_watch 19 = .ok (.aload_n 0, 1) := by decide +kernel
theorem dX8_watch_20 : decode cX8_watch 20 = .ok (.getfield 20, 3) := by decide +kernel
theorem dX8_watch_23 : decode cX8_watch 23 = .ok (.invokevirtual 340, 3) := by decide +kernel
theorem dX8_watch_26 : decode cX8_watch 26 = .ok (.ireturn, 1) := by decide +kernel
theorem dX8_reload_0 : decode cX8_reload 0 = .ok (.aload_n 0, 1) := by decide +kernel
theorem dX8_reload_1 : decode cX8_reload 1 = .ok (.invokevirtual 260, 3) := by decide +kernel
theorem dX8_reload_4 : decode cX8_reload 4 = .ok (.pop, 1) := by decide +kernel
theorem dX8_reload_5 : decode cX8_reload 5 = .ok (.aload_n 0, 1) := by decide +kernel
theorem dX8_reload_6 : decode cX8_reload 6 = .ok (.invokevirtual 294, 3) := by decide +kernel
theorem dX8_reload_9 : decode cX8_reload 9 = .ok (.aload_n 0, 1) := by decide +kernel
theorem dX8_reload_10 : decode cX8_reload 10 = .ok (.iconst 5, 1) := by decide +kernel
theorem dX8_reload_11 : decode cX8_reload 11 = .ok (.iconst 0, 1) := by decide +kernel
theorem dX8_reload_12 : decode cX8_reload 12 = .ok (.invokevirtual 309, 3) := by decide +kernel
theorem dX8_reload_15 : decode cX8_reload 15 = .ok (.aload_n 0, 1) := by decide +kernel
theorem dX8_reload_16 : decode cX8_reload 16 = .ok (.getfield 20, 3) := by decide +kernel
theorem dX8_reload_19 : decode cX8_reload 19 = .ok (.invokevirtual 343, 3) := by decide +kernel
theorem dX8_reload_22 : decode cX8_reload 22 = .ok (.ireturn, 1) := by decide +kernel
theorem dX8_endTurn_0 : decode cX8_endTurn 0 = .ok (.aload_n 0, 1) := by decide +kernel
theorem dX8_endTurn_1 : decode cX8_endTurn 1 = .ok (.invokevirtual 260, 3) := by decide +kernel
theorem dX8_endTurn_4 : decode cX8_endTurn 4 = .ok (.pop, 1) := by decide +kernel
theorem dX8_endTurn_5 : decode cX8_endTurn 5 = .ok (.aload_n 0, 1) := by decide +kernel
theorem dX8_endTurn_6 : decode cX8_endTurn 6 = .ok (.bipush 6, 2) := by decide +kernel
theorem dX8_endTurn_8 : decode cX8_endTurn 8 = .ok (.iconst 0, 1) := by decide +kernel
theorem dX8_endTurn_9 : decode cX8_endTurn 9 = .ok (.invokevirtual 309, 3) := by decide +kernel
theorem dX8_endTurn_12 : decode cX8_endTurn 12 = .ok (.aload_n 0, 1) := by decide +kernel
theorem dX8_endTurn_13 : decode cX8_endTurn 13 = .ok (.getfield 20, 3) := by decide +kernel
theorem dX8_endTurn_16 : decode cX8_endTurn 16 = .ok (.invokevirtual 346, 3) := by decide +kernel
theorem dX8_endTurn_19 : decode cX8_endTurn 19 = .ok (.ireturn, 1) := by decide +kernel
theorem dX8_eventCount_0 : decode cX8_eventCount 0 = .ok (.aload_n 0, 1) := by decide +kernel
theorem dX8_eventCount_1 : decode cX8_eventCount 1 = .ok (.getfield 20, 3) := by decide +kernel
theorem dX8_eventCount_4 : decode cX8_eventCount 4 = .ok (.getfield 349, 3) := by decide +kernel
theorem dX8_eventCount_7 : decode cX8_eventCount 7 = .ok (.getfield 353, 3) := by decide +kernel
theorem dX8_eventCount_10 : decode cX8_eventCount 10 = .ok (.ireturn, 1) := by decide +kernel
theorem dX8_event_0 : decode cX8_event 0 = .ok (.iload_n 1, 1) := by decide +kernel
theorem dX8_event_1 : decode cX8_event 1 = .ok (.ifCond .lt 26, 3) := by decide +kernel
theorem dX8_event_4 : decode cX8_event 4 = .ok (.iload_n 1, 1) := by decide +kernel
theorem dX8_event_5 : decode cX8_event 5 = .ok (.aload_n 0, 1) := by decide +kernel
theorem dX8_event_6 : decode cX8_event 6 = .ok (.getfield 20, 3) := by decide +kernel
theorem dX8_event_9 : decode cX8_event 9 = .ok (.getfield 349, 3) := by decide +kernel
theorem dX8_event_12 : decode cX8_event 12 = .ok (.getfield 353, 3) := by decide +kernel
theorem dX8_event_15 : decode cX8_event 15 = .ok (.if_icmp .ge 12, 3) := by decide +kernel
theorem dX8_event_18 : decode cX8_event 18 = .ok (.iload_n 2, 1) := by decide +kernel
theorem dX8_event_19 : decode cX8_event 19 = .ok (.ifCond .lt 8, 3) := by decide +kernel
theorem dX8_event_22 : decode cX8_event 22 = .ok (.iload_n 2, 1) := by decide +kernel
theorem dX8_event_23 : decode cX8_event 23 = .ok (.iconst 2, 1) := by decide +kernel
theorem dX8_event_24 : decode cX8_event 24 = .ok (.if_icmp .le 14, 3) := by decide +kernel
theorem dX8_event_27 : decode cX8_event 27 = .ok (.new 128, 3) := by decide +kernel
theorem dX8_event_30 : decode cX8_event 30 = .ok (.dup, 1) := by decide +kernel
theorem dX8_event_31 : decode cX8_event 31 = .ok (.ldc_w 356, 3) := by decide +kernel
theorem dX8_event_34 : decode cX8_event 34 = .ok (.invokespecial 132, 3) := by decide +kernel
theorem dX8_event_37 : decode cX8_event 37 = .ok (.athrow, 1) := by decide +kernel
theorem dX8_event_38 : decode cX8_event 38 = .ok (.aload_n 0, 1) := by decide +kernel
theorem dX8_event_39 : decode cX8_event 39 = .ok (.getfield 20, 3) := by decide +kernel
theorem dX8_event_42 : decode cX8_event 42 = .ok (.getfield 349, 3) := by decide +kernel
theorem dX8_event_45 : decode cX8_event 45 = .ok (.iload_n 1, 1) := by decide +kernel
theorem dX8_event_46 : decode cX8_event 46 = .ok (.iload_n 2, 1) := by decide +kernel
theorem dX8_event_47 : decode cX8_event 47 = .ok (.invokevirtual 358, 3) := by decide +kernel
theorem dX8_event_50 : decode cX8_event 50 = .ok (.ireturn, 1) := by decide +kernel
theorem dX8_commandCount_0 : decode cX8_commandCount 0 = .ok (.aload_n 0, 1) := by decide +kernel
theorem dX8_commandCount_1 : decode cX8_commandCount 1 = .ok (.getfield 27, 3) := by decide +kernel
theorem dX8_commandCount_4 : decode cX8_commandCount 4 = .ok (.getfield 111, 3) := by decide +kernel
theorem dX8_commandCount_7 : decode cX8_commandCount 7 = .ok (.ireturn, 1) := by decide +kernel
theorem dX8_undo_0 : decode cX8_undo 0 = .ok (.aload_n 0, 1) := by decide +kernel
theorem dX8_undo_1 : decode cX8_undo 1 = .ok (.getfield 34, 3) := by decide +kernel
theorem dX8_undo_4 : decode cX8_undo 4 = .ok (.getfield 361, 3) := by decide +kernel
theorem dX8_undo_7 : decode cX8_undo 7 = .ok (.iconst 1, 1) := by decide +kernel
theorem dX8_undo_8 : decode cX8_undo 8 = .ok (.if_icmp .ge 14, 3) := by decide +kernel
theorem dX8_undo_11 : decode cX8_undo 11 = .ok (.new 74, 3) := by decide +kernel
theorem dX8_undo_14 : decode cX8_undo 14 = .ok (.dup, 1) := by decide +kernel
theorem dX8_undo_15 : decode cX8_undo 15 = .ok (.ldc_w 362, 3) := by decide +kernel
theorem dX8_undo_18 : decode cX8_undo 18 = .ok (.invokespecial 78, 3) := by decide +kernel
theorem dX8_undo_21 : decode cX8_undo 21 = .ok (.athrow, 1) := by decide +kernel
theorem dX8_undo_22 : decode cX8_undo 22 = .ok (.aload_n 0, 1) := by decide +kernel
theorem dX8_undo_23 : decode cX8_undo 23 = .ok (.getfield 34, 3) := by decide +kernel
theorem dX8_undo_26 : decode cX8_undo 26 = .ok (.aload_n 0, 1) := by decide +kernel
theorem dX8_undo_27 : decode cX8_undo 27 = .ok (.getfield 20, 3) := by decide +kernel
theorem dX8_undo_30 : decode cX8_undo 30 = .ok (.invokevirtual 364, 3) := by decide +kernel
theorem dX8_undo_33 : decode cX8_undo 33 = .ok (.aload_n 0, 1) := by decide +kernel
theorem dX8_undo_34 : decode cX8_undo 34 = .ok (.getfield 27, 3) := by decide +kernel
theorem dX8_undo_37 : decode cX8_undo 37 = .ok (.invokevirtual 368, 3) := by decide +kernel
theorem dX8_undo_40 : decode cX8_undo 40 = .ok (.aload_n 0, 1) := by decide +kernel
theorem dX8_undo_41 : decode cX8_undo 41 = .ok (.getfield 34, 3) := by decide +kernel
theorem dX8_undo_44 : decode cX8_undo 44 = .ok (.getfield 361, 3) := by decide +kernel
theorem dX8_undo_47 : decode cX8_undo 47 = .ok (.ireturn, 1) := by decide +kernel
theorem dX8_isReplayed_0 : decode cX8_isReplayed 0 = .ok (.aload_n 0, 1) := by decide +kernel
theorem dX8_isReplayed_1 : decode cX8_isReplayed 1 = .ok (.getfield 20, 3) := by decide +kernel
theorem dX8_isReplayed_4 : decode cX8_isReplayed 4 = .ok (.invokevirtual 170, 3) := by decide +kernel
theorem dX8_isReplayed_7 : decode cX8_isReplayed 7 = .ok (.ifCond .ne 14, 3) := by decide +kernel
theorem dX8_isReplayed_10 : decode cX8_isReplayed 10 = .ok (.new 74, 3) := by decide +kernel
theorem dX8_isReplayed_13 : decode cX8_isReplayed 13 = .ok (.dup, 1) := by decide +kernel
theorem dX8_isReplayed_14 : decode cX8_isReplayed 14 = .ok (.ldc_w 371, 3) := by decide +kernel
theorem dX8_isReplayed_17 : decode cX8_isReplayed 17 = .ok (.invokespecial 78, 3) := by decide +kernel
theorem dX8_isReplayed_20 : decode cX8_isReplayed 20 = .ok (.athrow, 1) := by decide +kernel
theorem dX8_isReplayed_21 : decode cX8_isReplayed 21 = .ok (.aload_n 0, 1) := by decide +kernel
theorem dX8_isReplayed_22 : decode cX8_isReplayed 22 = .ok (.getfield 44, 3) := by decide +kernel
theorem dX8_isReplayed_25 : decode cX8_isReplayed 25 = .ok (.aload_n 0, 1) := by decide +kernel
theorem dX8_isReplayed_26 : decode cX8_isReplayed 26 = .ok (.getfield 20, 3) := by decide +kernel
theorem dX8_isReplayed_29 : decode cX8_isReplayed 29 = .ok (.invokevirtual 373, 3) := by decide +kernel
theorem dX8_isReplayed_32 : decode cX8_isReplayed 32 = .ok (.aload_n 0, 1) := by decide +kernel
theorem dX8_isReplayed_33 : decode cX8_isReplayed 33 = .ok (.getfield 44, 3) := by decide +kernel
theorem dX8_isReplayed_36 : decode cX8_isReplayed 36 = .ok (.invokevirtual 236, 3) := by decide +kernel
theorem dX8_isReplayed_39 : decode cX8_isReplayed 39 = .ok (.iconst 0, 1) := by decide +kernel
theorem dX8_isReplayed_40 : decode cX8_isReplayed 40 = .ok (.istore_n 1, 1) := by decide +kernel
theorem dX8_isReplayed_41 : decode cX8_isReplayed 41 = .ok (.iload_n 1, 1) := by decide +kernel
theorem dX8_isReplayed_42 : decode cX8_isReplayed 42 = .ok (.aload_n 0, 1) := by decide +kernel
theorem dX8_isReplayed_43 : decode cX8_isReplayed 43 = .ok (.getfield 27, 3) := by decide +kernel
theorem dX8_isReplayed_46 : decode cX8_isReplayed 46 = .ok (.getfield 111, 3) := by decide +kernel
theorem dX8_isReplayed_49 : decode cX8_isReplayed 49 = .ok (.if_icmp .ge 46, 3) := by decide +kernel
theorem dX8_isReplayed_52 : decode cX8_isReplayed 52 = .ok (.iload_n 1, 1) := by decide +kernel
theorem dX8_isReplayed_53 : decode cX8_isReplayed 53 = .ok (.sipush 512, 3) := by decide +kernel
theorem dX8_isReplayed_56 : decode cX8_isReplayed 56 = .ok (.if_icmp .ge 39, 3) := by decide +kernel
theorem dX8_isReplayed_59 : decode cX8_isReplayed 59 = .ok (.aload_n 0, 1) := by decide +kernel
theorem dX8_isReplayed_60 : decode cX8_isReplayed 60 = .ok (.getfield 44, 3) := by decide +kernel
theorem dX8_isReplayed_63 : decode cX8_isReplayed 63 = .ok (.aload_n 0, 1) := by decide +kernel
theorem dX8_isReplayed_64 : decode cX8_isReplayed 64 = .ok (.getfield 27, 3) := by decide +kernel
theorem dX8_isReplayed_67 : decode cX8_isReplayed 67 = .ok (.getfield 376, 3) := by decide +kernel
theorem dX8_isReplayed_70 : decode cX8_isReplayed 70 = .ok (.iload_n 1, 1) := by decide +kernel
theorem dX8_isReplayed_71 : decode cX8_isReplayed 71 = .ok (.iaload, 1) := by decide +kernel
theorem dX8_isReplayed_72 : decode cX8_isReplayed 72 = .ok (.aload_n 0, 1) := by decide +kernel
theorem dX8_isReplayed_73 : decode cX8_isReplayed 73 = .ok (.getfield 27, 3) := by decide +kernel
theorem dX8_isReplayed_76 : decode cX8_isReplayed 76 = .ok (.getfield 379, 3) := by decide +kernel
theorem dX8_isReplayed_79 : decode cX8_isReplayed 79 = .ok (.iload_n 1, 1) := by decide +kernel
theorem dX8_isReplayed_80 : decode cX8_isReplayed 80 = .ok (.iaload, 1) := by decide +kernel
theorem dX8_isReplayed_81 : decode cX8_isReplayed 81 = .ok (.aload_n 0, 1) := by decide +kernel
theorem dX8_isReplayed_82 : decode cX8_isReplayed 82 = .ok (.getfield 50, 3) := by decide +kernel
theorem dX8_isReplayed_85 : decode cX8_isReplayed 85 = .ok (.invokevirtual 382, 3) := by decide +kernel
theorem dX8_isReplayed_88 : decode cX8_isReplayed 88 = .ok (.pop, 1) := by decide +kernel
theorem dX8_isReplayed_89 : decode cX8_isReplayed 89 = .ok (.iinc 1 1, 3) := by decide +kernel
theorem dX8_isReplayed_92 : decode cX8_isReplayed 92 = .ok (.goto (-51), 3) := by decide +kernel
theorem dX8_isReplayed_95 : decode cX8_isReplayed 95 = .ok (.aload_n 0, 1) := by decide +kernel
theorem dX8_isReplayed_96 : decode cX8_isReplayed 96 = .ok (.getfield 44, 3) := by decide +kernel
theorem dX8_isReplayed_99 : decode cX8_isReplayed 99 = .ok (.aload_n 0, 1) := by decide +kernel
theorem dX8_isReplayed_100 : decode cX8_isReplayed 100 = .ok (.getfield 20, 3) := by decide +kernel
theorem dX8_isReplayed_103 : decode cX8_isReplayed 103 = .ok (.invokevirtual 386, 3) := by decide +kernel
theorem dX8_isReplayed_106 : decode cX8_isReplayed 106 = .ok (.ireturn, 1) := by decide +kernel
abbrev rmX8_requireTarget : Room := { frames := 6, cells := 1, slots := 6, locals := 136 }
def wX8_requireTarget_0 (Q : MS → Prop) (QX : String → MS → Prop) (S : MS) (a0 : Nat) (b1 : Nat) (b2 : Nat) : Prop := (∃ a1, mR S a0 3 = some a1 ∧ wp_X2_canStrike (fun r3 S2 => ((¬ r3 = 0 → Q S2) ∧ (r3 = 0 → QX "java/lang/IllegalArgumentException" S2))) QX S a1 b1 b2)
set_option maxHeartbeats 4000000 in
set_option maxRecDepth 100000 in
theorem tX8_requireTarget_0 {p : Program} {l : Launch} {e : Env} {s : State} {m : MethodId} {args : Array Value} {below : List Frame} {meth : Method} {c : Code} {H : Heap} {locs : List Loc} {cells slots : Nat} {G : GP} {A : Nat → Prop} {S0 : MS} {ls : Array Slot} (C : CF p l s m args meth c "SkirmishGrid" cX8_requireTarget 3 G A) (hr : meth.sig.returnType = none) (hex : ∀ x ∈ c.exceptionTable.toList, False) (Q : MS → Prop) (QX : String → MS → Prop) (S : MS) (a0 : Nat) (b1 : Nat) (b2 : Nat) (p_a0 : pI S 8 a0) (p_b1 : pI S 7 b1) (p_b2 : pI S 7 b2) (P : PW G A s H locs S0 S) (hl : lv_has ls 3 [(0, .ref a0), (1, .ref b1), (2, .ref b2)]) (hcc : cells + 1 ≤ 1) (hss : slots + 6 ≤ 6) (hw : wX8_requireTarget_0 Q QX S a0 b1 b2) : W p l e rmX8_requireTarget s m args below meth c H locs cells slots (vx_MQ below (QV G S0 A Q) (XX G S0 A QX) args s 1 6 A) (F0 m 0 ls []) := by
  have hx := CF_x C
  have hb := CF_b C
  unfold wX8_requireTarget_0 at hw
  refine lv_aload_n hx hb dX8_requireTarget_0 rfl (lv_at hl 0 rfl) ?_
  obtain ⟨a1, e1, hw⟩ := hw
  have p_a1 : pI S 2 a1 := wf_r P.2.2.2.1 p_a0 e1
  refine gf_8_3 C P p_a0 e1 q_302 dX8_requireTarget_1 ?_
  refine lv_aload_n hx hb dX8_requireTarget_4 rfl (lv_at hl 1 rfl) ?_
  refine lv_aload_n hx hb dX8_requireTarget_5 rfl (lv_at hl 2 rfl) ?_
  refine cl_i C P (run_V C P hl.1 (kd := 2) (met_X2_canStrike (CF_n C) G H.size _ _ S a1 b1 b2 p_a1 p_b1 p_b2 hw) p_a1 (by decide) rfl q_961 q_962 q_963 q_2 q_964 cd_X2_canStrike ⟨(Nat.le_of_ble_eq_true rfl), (Nat.le_of_ble_eq_true rfl)⟩ rfl rfl (As := [.ref b1, .ref b2]) (rest := []) rfl rfl (Nat.le_of_ble_eq_true rfl) dX8_requireTarget_6 ⟨by show cells + 0 ≤ 1; omega, by show slots + 0 ≤ 6; omega⟩) (kx_out C hex (fun _ _ _ h => h) (by omega) (by omega)) (fun r3 S2 H locs P hE hw => ?_)
  have p_b1 : pI S2 7 b1 := pI_x hE p_b1
  have p_b2 : pI S2 7 b2 := pI_x hE p_b2
  have p_a1 : pI S2 2 a1 := pI_x hE p_a1
  refine lv_if_ne (tgt := 23) hx hb dX8_requireTarget_9 (by decide) (fun hc => ?_) (fun hc => ?_)
  · have hw := hw.1 hc
    exact e_v C hr P hw (by omega) (by omega) dX8_requireTarget_23
  · have hw := hw.2 hc
    exact th_W C hex P hl.1 (E := "java/lang/IllegalArgumentException") (text := "the target cannot be attacked") (by decide +kernel) (by decide +kernel) (by decide +kernel) q_410 q_14 xw_IAE xb_IAE xg_IAE dX8_requireTarget_12 dX8_requireTarget_15 dX8_requireTarget_16 dX8_requireTarget_19 dX8_requireTarget_22 (Nat.le_of_ble_eq_true rfl) (Nat.le_of_ble_eq_true rfl) (by show cells + 1 ≤ 1; omega) (by show slots + 6 ≤ 6; omega) hw (by omega) (by omega)
def wp_X8_requireTarget (Q : MS → Prop) (QX : String → MS → Prop) (S : MS) (a0 : Nat) (b1 : Nat) (b2 : Nat) : Prop := wX8_requireTarget_0 Q QX S a0 b1 b2
set_option maxHeartbeats 4000000 in
set_option maxRecDepth 100000 in
theorem met_X8_requireTarget {l : Launch} (hst : l.stackTraces = false) (G : GP) (sz : Nat) (Q : MS → Prop) (QX : String → MS → Prop) (S : MS) (a0 : Nat) (b1 : Nat) (b2 : Nat) (p_a0 : pI S 8 a0) (p_b1 : pI S 7 b1) (p_b2 : pI S 7 b2) (hw : wp_X8_requireTarget Q QX S a0 b1 b2) : vx_Met l yX8_requireTarget (.code yX8_requireTarget cX8_requireTarget 3 none :: GW) rmX8_requireTarget (va_Pc [.ref a0, .ref b1, .ref b2] (PR G S sz)) (QV G S (FA G S sz) Q) (XX G S (FA G S sz) QX) 1 6 (FA G S sz) := by
  refine st_m (by decide +kernel) hst (fun p e s m below meth c C hr hnm hex P => ?_)
  refine en_m (Nat.le_of_ble_eq_true rfl) (lv := [(0, .ref a0), (1, .ref b1), (2, .ref b2)]) rfl (fun ls hl => ?_)
  have C : CF p l s m _ meth c "SkirmishGrid" cX8_requireTarget 3 G (FA G S sz) := C
  exact tX8_requireTarget_0 C hr hex Q QX S a0 b1 b2 p_a0 p_b1 p_b2 P hl (by omega) (by omega) hw
theorem cd_X8_requireTarget : yX8_requireTarget.cls = RX8 ∧ yX8_requireTarget.cls ≠ "java/lang/invoke/MethodHandle" ∧ yX8_requireTarget.cls ≠ "java/lang/invoke/VarHandle" ∧ (parseMethodDescriptor yX8_requireTarget.desc).map (fun d => d.parameters.length) = some 2 := by decide +kernel
abbrev rmX8_chance : Room := { frames := 7, cells := 3, slots := 18, locals := 158 }
def wX8_chance_0 (Q : UInt64 → MS → Prop) (QX : String → MS → Prop) (S : MS) (a0 : Nat) (x1 : Int32) (x2 : Int32) : Prop := wp_X8_requireUnit (fun r2 S1 => (∃ a3, r2 = some a3 ∧ wp_X8_requireUnit (fun r5 S4 => (∃ a6, r5 = some a6 ∧ wp_X8_requireTarget (fun S7 => (∃ a8, mR S7 a0 3 = some a8 ∧ wp_X2_countHits (fun r10 S9 => (vf_n64 (FP.ddiv (FP.i2d r10) (4626322717216342016 : UInt64)) ∧ Q (FP.ddiv (FP.i2d r10) (4626322717216342016 : UInt64)) S9)) QX S7 a8 a3 a6)) QX S4 a0 a3 a6)) QX S1 a0 x2)) QX S a0 x1
set_option maxHeartbeats 4000000 in
set_option maxRecDepth 100000 in
theorem tX8_chance_0 {p : Program} {l : Launch} {e : Env} {s : State} {m : MethodId} {args : Array Value} {below : List Frame} {meth : Method} {c : Code} {H : Heap} {locs : List Loc} {cells slots : Nat} {G : GP} {A : Nat → Prop} {S0 : MS} {ls : Array Slot} (C : CF p l s m args meth c "SkirmishGrid" cX8_chance 5 G A) (hr : meth.sig.returnType = (some .double)) (hex : ∀ x ∈ c.exceptionTable.toList, False) (Q : UInt64 → MS → Prop) (QX : String → MS → Prop) (S : MS) (a0 : Nat) (x1 : Int32) (x2 : Int32) (p_a0 : pI S 8 a0) (P : PW G A s H locs S0 S) (hl : lv_has ls 5 [(0, .ref a0), (1, .int x1), (2, .int x2)]) (hcc : cells + 3 ≤ 3) (hss : slots + 18 ≤ 18) (hw : wX8_chance_0 Q QX S a0 x1 x2) : W p l e rmX8_chance s m args below meth c H locs cells slots (vx_MQ below (QD G S0 A Q) (XX G S0 A QX) args s 3 18 A) (F0 m 0 ls []) := by
  have hx := CF_x C
  have hb := CF_b C
  unfold wX8_chance_0 at hw
  refine lv_aload_n hx hb dX8_chance_0 rfl (lv_at hl 0 rfl) ?_
  refine lv_iload_n hx hb dX8_chance_1 rfl (lv_at hl 1 rfl) ?_
  refine cl_q C P (run_V C P hl.1 (kd := 8) (met_X8_requireUnit (CF_n C) G H.size _ _ S a0 x1 p_a0 hw) p_a0 (by decide) rfl q_812 q_814 q_p3 q_1 q_815 cd_X8_requireUnit ⟨(Nat.le_of_ble_eq_true rfl), (Nat.le_of_ble_eq_true rfl)⟩ rfl rfl (As := [.int x1]) (rest := []) rfl rfl (Nat.le_of_ble_eq_true rfl) dX8_chance_2 ⟨by show cells + 1 ≤ 3; omega, by show slots + 6 ≤ 18; omega⟩) (kx_out C hex (fun _ _ _ h => h) (by omega) (by omega)) (fun r2 S1 H locs P hE hw hR => ?_)
  have p_a0 : pI S1 8 a0 := pI_x hE p_a0
  obtain ⟨a3, rfl, hw⟩ := hw
  have p_a3 : pI S1 7 a3 := hR a3 rfl
  refine lv_astore_n (lv' := [(3, .ref a3), (0, .ref a0), (1, .int x1), (2, .int x2)]) hx hb dX8_chance_5 rfl hl (by decide) rfl (fun ls hl => ?_)
  refine lv_aload_n hx hb dX8_chance_6 rfl (lv_at hl 1 rfl) ?_
  refine lv_iload_n hx hb dX8_chance_7 rfl (lv_at hl 3 rfl) ?_
  refine cl_q C P (run_V C P hl.1 (kd := 8) (met_X8_requireUnit (CF_n C) G H.size _ _ S1 a0 x2 p_a0 hw) p_a0 (by decide) rfl q_812 q_814 q_p3 q_1 q_815 cd_X8_requireUnit ⟨(Nat.le_of_ble_eq_true rfl), (Nat.le_of_ble_eq_true rfl)⟩ rfl rfl (As := [.int x2]) (rest := []) rfl rfl (Nat.le_of_ble_eq_true rfl) dX8_chance_8 ⟨by show cells + 1 + 1 ≤ 3; omega, by show slots + 6 + 6 ≤ 18; omega⟩) (kx_out C hex (fun _ _ _ h => h) (by omega) (by omega)) (fun r5 S4 H locs P hE hw hR => ?_)
  have p_a0 : pI S4 8 a0 := pI_x hE p_a0
  have p_a3 : pI S4 7 a3 := pI_x hE p_a3
  obtain ⟨a6, rfl, hw⟩ := hw
  have p_a6 : pI S4 7 a6 := hR a6 rfl
  refine lv_astore (lv' := [(4, .ref a6), (3, .ref a3), (0, .ref a0), (1, .int x1), (2, .int x2)]) hx hb dX8_chance_11 hl (by decide) rfl (fun ls hl => ?_)
  refine lv_aload_n hx hb dX8_chance_13 rfl (lv_at hl 2 rfl) ?_
  refine lv_aload_n hx hb dX8_chance_14 rfl (lv_at hl 1 rfl) ?_
  refine lv_aload hx hb dX8_chance_15 (lv_at hl 0 rfl) ?_
  refine cl_v C P (run_V C P hl.1 (kd := 8) (met_X8_requireTarget (CF_n C) G H.size _ _ S4 a0 a3 a6 p_a0 p_a3 p_a6 hw) p_a0 (by decide) rfl q_957 q_959 q_p14 q_1 q_960 cd_X8_requireTarget ⟨(Nat.le_of_ble_eq_true rfl), (Nat.le_of_ble_eq_true rfl)⟩ rfl rfl (As := [.ref a3, .ref a6]) (rest := []) rfl rfl (Nat.le_of_ble_eq_true rfl) dX8_chance_17 ⟨by show cells + 1 + 1 + 1 ≤ 3; omega, by show slots + 6 + 6 + 6 ≤ 18; omega⟩) (kx_out C hex (fun _ _ _ h => h) (by omega) (by omega)) (fun S7 H locs P hE hw => ?_)
  have p_a0 : pI S7 8 a0 := pI_x hE p_a0
  have p_a3 : pI S7 7 a3 := pI_x hE p_a3
  have p_a6 : pI S7 7 a6 := pI_x hE p_a6
  refine lv_aload_n hx hb dX8_chance_20 rfl (lv_at hl 2 rfl) ?_
  obtain ⟨a8, e1, hw⟩ := hw
  have p_a8 : pI S7 2 a8 := wf_r P.2.2.2.1 p_a0 e1
  refine gf_8_3 C P p_a0 e1 q_302 dX8_chance_21 ?_
  refine lv_aload_n hx hb dX8_chance_24 rfl (lv_at hl 1 rfl) ?_
  refine lv_aload hx hb dX8_chance_25 (lv_at hl 0 rfl) ?_
  refine cl_i C P (run_V C P hl.1 (kd := 2) (met_X2_countHits (CF_n C) G H.size _ _ S7 a8 a3 a6 p_a8 p_a3 p_a6 hw) p_a8 (by decide) rfl q_974 q_975 q_976 q_2 q_977 cd_X2_countHits ⟨(Nat.le_of_ble_eq_true rfl), (Nat.le_of_ble_eq_true rfl)⟩ rfl rfl (As := [.ref a3, .ref a6]) (rest := []) rfl rfl (Nat.le_of_ble_eq_true rfl) dX8_chance_27 ⟨by show cells + 1 + 1 + 1 + 0 ≤ 3; omega, by show slots + 6 + 6 + 6 + 0 ≤ 18; omega⟩) (kx_out C hex (fun _ _ _ h => h) (by omega) (by omega)) (fun r10 S9 H locs P hE hw => ?_)
  have p_a3 : pI S9 7 a3 := pI_x hE p_a3
  have p_a6 : pI S9 7 a6 := pI_x hE p_a6
  have p_a8 : pI S9 2 a8 := pI_x hE p_a8
  refine lv_i2d hx hb dX8_chance_30 ?_
  refine lv_ldc2d (v := 4626322717216342016) hx hb (CF_o C) (CF_t C _ q_988) dX8_chance_31 ?_
  obtain ⟨h1, hw⟩ := hw
  refine lv_ddiv hx hb dX8_chance_34 h1 ?_
  exact e_d C hr P hw (by omega) (by omega) dX8_chance_35
def wp_X8_chance (Q : UInt64 → MS → Prop) (QX : String → MS → Prop) (S : MS) (a0 : Nat) (x1 : Int32) (x2 : Int32) : Prop := wX8_chance_0 Q QX S a0 x1 x2
set_option maxHeartbeats 4000000 in
set_option maxRecDepth 100000 in
theorem met_X8_chance {l : Launch} (hst : l.stackTraces = false) (G : GP) (sz : Nat) (Q : UInt64 → MS → Prop) (QX : String → MS → Prop) (S : MS) (a0 : Nat) (x1 : Int32) (x2 : Int32) (p_a0 : pI S 8 a0) (hw : wp_X8_chance Q QX S a0 x1 x2) : vx_Met l yX8_chance (.code yX8_chance cX8_chance 5 (some .double) :: GW) rmX8_chance (va_Pc [.ref a0, .int x1, .int x2] (PR G S sz)) (QD G S (FA G S sz) Q) (XX G S (FA G S sz) QX) 3 18 (FA G S sz) := by
  refine st_m (by decide +kernel) hst (fun p e s m below meth c C hr hnm hex P => ?_)
  refine en_m (Nat.le_of_ble_eq_true rfl) (lv := [(0, .ref a0), (1, .int x1), (2, .int x2)]) rfl (fun ls hl => ?_)
  have C : CF p l s m _ meth c "SkirmishGrid" cX8_chance 5 G (FA G S sz) := C
  exact tX8_chance_0 C hr hex Q QX S a0 x1 x2 p_a0 P hl (by omega) (by omega) hw
theorem cd_X8_chance : yX8_chance.cls = RX8 ∧ yX8_chance.cls ≠ "java/lang/invoke/MethodHandle" ∧ yX8_chance.cls ≠ "java/lang/invoke/VarHandle" ∧ (parseMethodDescriptor yX8_chance.desc).map (fun d => d.parameters.length) = some 2 := by decide +kernel
abbrev rmX8_meanDamage : Room := { frames := 7, cells := 3, slots := 18, locals := 158 }
def wX8_meanDamage_0 (Q : UInt64 → MS → Prop) (QX : String → MS → Prop) (S : MS) (a0 : Nat) (x1 : Int32) (x2 : Int32) : Prop := wp_X8_requireUnit (fun r2 S1 => (∃ a3, r2 = some a3 ∧ wp_X8_requireUnit (fun r5 S4 => (∃ a6, r5 = some a6 ∧ wp_X8_requireTarget (fun S7 => (∃ a8, mR S7 a0 3 = some a8 ∧ wp_X2_sumDamages (fun r10 S9 => (vf_n64 (FP.ddiv (FP.i2d r10) (4635329916471083008 : UInt64)) ∧ Q (FP.ddiv (FP.i2d r10) (4635329916471083008 : UInt64)) S9)) QX S7 a8 a3 a6)) QX S4 a0 a3 a6)) QX S1 a0 x2)) QX S a0 x1
set_option maxHeartbeats 4000000 in
set_option maxRecDepth 100000 in
theorem tX8_meanDamage_0 {p : Program} {l : Launch} {e : Env} {s : State} {m : MethodId} {args : Array Value} {below : List Frame} {meth : Method} {c : Code} {H : Heap} {locs : List Loc} {cells slots : Nat} {G : GP} {A : Nat → Prop} {S0 : MS} {ls : Array Slot} (C : CF p l s m args meth c "SkirmishGrid" cX8_meanDamage 5 G A) (hr : meth.sig.returnType = (some .double)) (hex : ∀ x ∈ c.exceptionTable.toList, False) (Q : UInt64 → MS → Prop) (QX : String → MS → Prop) (S : MS) (a0 : Nat) (x1 : Int32) (x2 : Int32) (p_a0 : pI S 8 a0) (P : PW G A s H locs S0 S) (hl : lv_has ls 5 [(0, .ref a0), (1, .int x1), (2, .int x2)]) (hcc : cells + 3 ≤ 3) (hss : slots + 18 ≤ 18) (hw : wX8_meanDamage_0 Q QX S a0 x1 x2) : W p l e rmX8_meanDamage s m args below meth c H locs cells slots (vx_MQ below (QD G S0 A Q) (XX G S0 A QX) args s 3 18 A) (F0 m 0 ls []) := by
  have hx := CF_x C
  have hb := CF_b C
  unfold wX8_meanDamage_0 at hw
  refine lv_aload_n hx hb dX8_meanDamage_0 rfl (lv_at hl 0 rfl) ?_
  refine lv_iload_n hx hb dX8_meanDamage_1 rfl (lv_at hl 1 rfl) ?_
  refine cl_q C P (run_V C P hl.1 (kd := 8) (met_X8_requireUnit (CF_n C) G H.size _ _ S a0 x1 p_a0 hw) p_a0 (by decide) rfl q_812 q_814 q_p3 q_1 q_815 cd_X8_requireUnit ⟨(Nat.le_of_ble_eq_true rfl), (Nat.le_of_ble_eq_true rfl)⟩ rfl rfl (As := [.int x1]) (rest := []) rfl rfl (Nat.le_of_ble_eq_true rfl) dX8_meanDamage_2 ⟨by show cells + 1 ≤ 3; omega, by show slots + 6 ≤ 18; omega⟩) (kx_out C hex (fun _ _ _ h => h) (by omega) (by omega)) (fun r2 S1 H locs P hE hw hR => ?_)
  have p_a0 : pI S1 8 a0 := pI_x hE p_a0
  obtain ⟨a3, rfl, hw⟩ := hw
  have p_a3 : pI S1 7 a3 := hR a3 rfl
  refine lv_astore_n (lv' := [(3, .ref a3), (0, .ref a0), (1, .int x1), (2, .int x2)]) hx hb dX8_meanDamage_5 rfl hl (by decide) rfl (fun ls hl => ?_)
  refine lv_aload_n hx hb dX8_meanDamage_6 rfl (lv_at hl 1 rfl) ?_
  refine lv_iload_n hx hb dX8_meanDamage_7 rfl (lv_at hl 3 rfl) ?_
  refine cl_q C P (run_V C P hl.1 (kd := 8) (met_X8_requireUnit (CF_n C) G H.size _ _ S1 a0 x2 p_a0 hw) p_a0 (by decide) rfl q_812 q_814 q_p3 q_1 q_815 cd_X8_requireUnit ⟨(Nat.le_of_ble_eq_true rfl), (Nat.le_of_ble_eq_true rfl)⟩ rfl rfl (As := [.int x2]) (rest := []) rfl rfl (Nat.le_of_ble_eq_true rfl) dX8_meanDamage_8 ⟨by show cells + 1 + 1 ≤ 3; omega, by show slots + 6 + 6 ≤ 18; omega⟩) (kx_out C hex (fun _ _ _ h => h) (by omega) (by omega)) (fun r5 S4 H locs P hE hw hR => ?_)
  have p_a0 : pI S4 8 a0 := pI_x hE p_a0
  have p_a3 : pI S4 7 a3 := pI_x hE p_a3
  obtain ⟨a6, rfl, hw⟩ := hw
  have p_a6 : pI S4 7 a6 := hR a6 rfl
  refine lv_astore (lv' := [(4, .ref a6), (3, .ref a3), (0, .ref a0), (1, .int x1), (2, .int x2)]) hx hb dX8_meanDamage_11 hl (by decide) rfl (fun ls hl => ?_)
  refine lv_aload_n hx hb dX8_meanDamage_13 rfl (lv_at hl 2 rfl) ?_
  refine lv_aload_n hx hb dX8_meanDamage_14 rfl (lv_at hl 1 rfl) ?_
  refine lv_aload hx hb dX8_meanDamage_15 (lv_at hl 0 rfl) ?_
  refine cl_v C P (run_V C P hl.1 (kd := 8) (met_X8_requireTarget (CF_n C) G H.size _ _ S4 a0 a3 a6 p_a0 p_a3 p_a6 hw) p_a0 (by decide) rfl q_957 q_959 q_p14 q_1 q_960 cd_X8_requireTarget ⟨(Nat.le_of_ble_eq_true rfl), (Nat.le_of_ble_eq_true rfl)⟩ rfl rfl (As := [.ref a3, .ref a6]) (rest := []) rfl rfl (Nat.le_of_ble_eq_true rfl) dX8_meanDamage_17 ⟨by show cells + 1 + 1 + 1 ≤ 3; omega, by show slots + 6 + 6 + 6 ≤ 18; omega⟩) (kx_out C hex (fun _ _ _ h => h) (by omega) (by omega)) (fun S7 H locs P hE hw => ?_)
  have p_a0 : pI S7 8 a0 := pI_x hE p_a0
  have p_a3 : pI S7 7 a3 := pI_x hE p_a3
  have p_a6 : pI S7 7 a6 := pI_x hE p_a6
  refine lv_aload_n hx hb dX8_meanDamage_20 rfl (lv_at hl 2 rfl) ?_
  obtain ⟨a8, e1, hw⟩ := hw
  have p_a8 : pI S7 2 a8 := wf_r P.2.2.2.1 p_a0 e1
  refine gf_8_3 C P p_a0 e1 q_302 dX8_meanDamage_21 ?_
  refine lv_aload_n hx hb dX8_meanDamage_24 rfl (lv_at hl 1 rfl) ?_
  refine lv_aload hx hb dX8_meanDamage_25 (lv_at hl 0 rfl) ?_
  refine cl_i C P (run_V C P hl.1 (kd := 2) (met_X2_sumDamages (CF_n C) G H.size _ _ S7 a8 a3 a6 p_a8 p_a3 p_a6 hw) p_a8 (by decide) rfl q_996 q_997 q_998 q_2 q_999 cd_X2_sumDamages ⟨(Nat.le_of_ble_eq_true rfl), (Nat.le_of_ble_eq_true rfl)⟩ rfl rfl (As := [.ref a3, .ref a6]) (rest := []) rfl rfl (Nat.le_of_ble_eq_true rfl) dX8_meanDamage_27 ⟨by show cells + 1 + 1 + 1 + 0 ≤ 3; omega, by show slots + 6 + 6 + 6 + 0 ≤ 18; omega⟩) (kx_out C hex (fun _ _ _ h => h) (by omega) (by omega)) (fun r10 S9 H locs P hE hw => ?_)
  have p_a3 : pI S9 7 a3 := pI_x hE p_a3
  have p_a6 : pI S9 7 a6 := pI_x hE p_a6
  have p_a8 : pI S9 2 a8 := pI_x hE p_a8
  refine lv_i2d hx hb dX8_meanDamage_30 ?_
  refine lv_ldc2d (v := 4635329916471083008) hx hb (CF_o C) (CF_t C _ q_1008) dX8_meanDamage_31 ?_
  obtain ⟨h1, hw⟩ := hw
  refine lv_ddiv hx hb dX8_meanDamage_34 h1 ?_
  exact e_d C hr P hw (by omega) (by omega) dX8_meanDamage_35
def wp_X8_meanDamage (Q : UInt64 → MS → Prop) (QX : String → MS → Prop) (S : MS) (a0 : Nat) (x1 : Int32) (x2 : Int32) : Prop := wX8_meanDamage_0 Q QX S a0 x1 x2
set_option maxHeartbeats 4000000 in
set_option maxRecDepth 100000 in
theorem met_X8_meanDamage {l : Launch} (hst : l.stackTraces = false) (G : GP) (sz : Nat) (Q : UInt64 → MS → Prop) (QX : String → MS → Prop) (S : MS) (a0 : Nat) (x1 : Int32) (x2 : Int32) (p_a0 : pI S 8 a0) (hw : wp_X8_meanDamage Q QX S a0 x1 x2) : vx_Met l yX8_meanDamage (.code yX8_meanDamage cX8_meanDamage 5 (some .double) :: GW) rmX8_meanDamage (va_Pc [.ref a0, .int x1, .int x2] (PR G S sz)) (QD G S (FA G S sz) Q) (XX G S (FA G S sz) QX) 3 18 (FA G S sz) := by
  refine st_m (by decide +kernel) hst (fun p e s m below meth c C hr hnm hex P => ?_)
  refine en_m (Nat.le_of_ble_eq_true rfl) (lv := [(0, .ref a0), (1, .int x1), (2, .int x2)]) rfl (fun ls hl => ?_)
  have C : CF p l s m _ meth c "SkirmishGrid" cX8_meanDamage 5 G (FA G S sz) := C
  exact tX8_meanDamage_0 C hr hex Q QX S a0 x1 x2 p_a0 P hl (by omega) (by omega) hw
theorem cd_X8_meanDamage : yX8_meanDamage.cls = RX8 ∧ yX8_meanDamage.cls ≠ "java/lang/invoke/MethodHandle" ∧ yX8_meanDamage.cls ≠ "java/lang/invoke/VarHandle" ∧ (parseMethodDescriptor yX8_meanDamage.desc).map (fun d => d.parameters.length) = some 2 := by decide +kernel
abbrev rmX8_bestTarget : Room := { frames := 7, cells := 2, slots := 12, locals := 163 }
def wX8_bestTarget_0 (Q : Int32 → MS → Prop) (QX : String → MS → Prop) (S : MS) (a0 : Nat) : Prop := (∃ a1, mR S a0 3 = some a1 ∧ wp_X8_requireTurn (fun r3 S2 => (∃ a4, r3 = some a4 ∧ wp_X2_chooseTarget (fun r6 S5 => ((0 ≤ r6 → Q r6 S5) ∧ (¬ 0 ≤ r6 → QX "java/util/NoSuchElementException" S5))) QX S2 a1 a4)) QX S a0)
set_option maxHeartbeats 4000000 in
set_option maxRecDepth 100000 in
theorem tX8_bestTarget_0 {p : Program} {l : Launch} {e : Env} {s : State} {m : MethodId} {args : Array Value} {below : List Frame} {meth : Method} {c : Code} {H : Heap} {locs : List Loc} {cells slots : Nat} {G : GP} {A : Nat → Prop} {S0 : MS} {ls : Array Slot} (C : CF p l s m args meth c "SkirmishGrid" cX8_bestTarget 2 G A) (hr : meth.sig.returnType = (some .int)) (hex : ∀ x ∈ c.exceptionTable.toList, False) (Q : Int32 → MS → Prop) (QX : String → MS → Prop) (S : MS) (a0 : Nat) (p_a0 : pI S 8 a0) (P : PW G A s H locs S0 S) (hl : lv_has ls 2 [(0, .ref a0)]) (hcc : cells + 2 ≤ 2) (hss : slots + 12 ≤ 12) (hw : wX8_bestTarget_0 Q QX S a0) : W p l e rmX8_bestTarget s m args below meth c H locs cells slots (vx_MQ below (QI G S0 A Q) (XX G S0 A QX) args s 2 12 A) (F0 m 0 ls []) := by
  have hx := CF_x C
  have hb := CF_b C
  unfold wX8_bestTarget_0 at hw
  refine lv_aload_n hx hb dX8_bestTarget_0 rfl (lv_at hl 0 rfl) ?_
  obtain ⟨a1, e1, hw⟩ := hw
  have p_a1 : pI S 2 a1 := wf_r P.2.2.2.1 p_a0 e1
  refine gf_8_3 C P p_a0 e1 q_302 dX8_bestTarget_1 ?_
  refine lv_aload_n hx hb dX8_bestTarget_4 rfl (lv_at hl 0 rfl) ?_
  refine cl_q C P (run_V C P hl.1 (kd := 8) (met_X8_requireTurn (CF_n C) G H.size _ _ S a0 p_a0 hw) p_a0 (by decide) rfl q_898 q_900 q_p9 q_1 q_901 cd_X8_requireTurn ⟨(Nat.le_of_ble_eq_true rfl), (Nat.le_of_ble_eq_true rfl)⟩ rfl rfl (As := []) (rest := [.ref a1]) rfl rfl (Nat.le_of_ble_eq_true rfl) dX8_bestTarget_5 ⟨by show cells + 1 ≤ 2; omega, by show slots + 6 ≤ 12; omega⟩) (kx_out C hex (fun _ _ _ h => h) (by omega) (by omega)) (fun r3 S2 H locs P hE hw hR => ?_)
  have p_a0 : pI S2 8 a0 := pI_x hE p_a0
  have p_a1 : pI S2 2 a1 := pI_x hE p_a1
  obtain ⟨a4, rfl, hw⟩ := hw
  have p_a4 : pI S2 7 a4 := hR a4 rfl
  refine cl_i C P (run_V C P hl.1 (kd := 2) (met_X2_chooseTarget (CF_n C) G H.size _ _ S2 a1 a4 p_a1 p_a4 hw) p_a1 (by decide) rfl q_1016 q_1017 q_1018 q_2 q_1019 cd_X2_chooseTarget ⟨(Nat.le_of_ble_eq_true rfl), (Nat.le_of_ble_eq_true rfl)⟩ rfl rfl (As := [.ref a4]) (rest := []) rfl rfl (Nat.le_of_ble_eq_true rfl) dX8_bestTarget_8 ⟨by show cells + 1 + 0 ≤ 2; omega, by show slots + 6 + 0 ≤ 12; omega⟩) (kx_out C hex (fun _ _ _ h => h) (by omega) (by omega)) (fun r6 S5 H locs P hE hw => ?_)
  have p_a1 : pI S5 2 a1 := pI_x hE p_a1
  have p_a4 : pI S5 7 a4 := pI_x hE p_a4
  refine lv_istore_n (lv' := [(1, .int r6), (0, .ref a0)]) hx hb dX8_bestTarget_11 rfl hl (by decide) rfl (fun ls hl => ?_)
  refine lv_iload_n hx hb dX8_bestTarget_12 rfl (lv_at hl 0 rfl) ?_
  refine lv_if_ge (tgt := 27) hx hb dX8_bestTarget_13 (by decide) (fun hc => ?_) (fun hc => ?_)
  · have hw := hw.1 hc
    refine lv_iload_n hx hb dX8_bestTarget_27 rfl (lv_at hl 0 rfl) ?_
    exact e_i C hr rfl P hw (by omega) (by omega) dX8_bestTarget_28
  · have hw := hw.2 hc
    exact th_NW C hex P hl.1 (text := "no unit can be attacked") (by decide +kernel) q_641 q_23 xw_NSE xb_NSE xg_NSE dX8_bestTarget_16 dX8_bestTarget_19 dX8_bestTarget_20 dX8_bestTarget_23 dX8_bestTarget_26 (Nat.le_of_ble_eq_true rfl) (Nat.le_of_ble_eq_true rfl) (by show cells + 1 + 1 ≤ 2; omega) (by show slots + 6 + 6 ≤ 12; omega) hw (by omega) (by omega)
def wp_X8_bestTarget (Q : Int32 → MS → Prop) (QX : String → MS → Prop) (S : MS) (a0 : Nat) : Prop := wX8_bestTarget_0 Q QX S a0
set_option maxHeartbeats 4000000 in
set_option maxRecDepth 100000 in
theorem met_X8_bestTarget {l : Launch} (hst : l.stackTraces = false) (G : GP) (sz : Nat) (Q : Int32 → MS → Prop) (QX : String → MS → Prop) (S : MS) (a0 : Nat) (p_a0 : pI S 8 a0) (hw : wp_X8_bestTarget Q QX S a0) : vx_Met l yX8_bestTarget (.code yX8_bestTarget cX8_bestTarget 2 (some .int) :: GW) rmX8_bestTarget (va_Pc [.ref a0] (PR G S sz)) (QI G S (FA G S sz) Q) (XX G S (FA G S sz) QX) 2 12 (FA G S sz) := by
  refine st_m (by decide +kernel) hst (fun p e s m below meth c C hr hnm hex P => ?_)
  refine en_m (Nat.le_of_ble_eq_true rfl) (lv := [(0, .ref a0)]) rfl (fun ls hl => ?_)
  have C : CF p l s m _ meth c "SkirmishGrid" cX8_bestTarget 2 G (FA G S sz) := C
  exact tX8_bestTarget_0 C hr hex Q QX S a0 p_a0 P hl (by omega) (by omega) hw
theorem cd_X8_bestTarget : yX8_bestTarget.cls = RX8 ∧ yX8_bestTarget.cls ≠ "java/lang/invoke/MethodHandle" ∧ yX8_bestTarget.cls ≠ "java/lang/invoke/VarHandle" ∧ (parseMethodDescriptor yX8_bestTarget.desc).map (fun d => d.parameters.length) = some 0 := by decide +kernel
abbrev rmX8_requireActions : Room := { frames := 6, cells := 1, slots := 6, locals := 110 }
def wX8_requireActions_0 (Q : MS → Prop) (QX : String → MS → Prop) (S : MS) (a0 : Nat) : Prop := (∃ a1, mR S a0 3 = some a1 ∧ ((1 ≤ (mI S a1 7) → Q S) ∧ (¬ 1 ≤ (mI S a1 7) → QX "java/lang/IllegalStateException" S)))
set_option maxHeartbeats 4000000 in
set_option maxRecDepth 100000 in
theorem tX8_requireActions_0 {p : Program} {l : Launch} {e : Env} {s : State} {m : MethodId} {args : Array Value} {below : List Frame} {meth : Method} {c : Code} {H : Heap} {locs : List Loc} {cells slots : Nat} {G : GP} {A : Nat → Prop} {S0 : MS} {ls : Array Slot} (C : CF p l s m args meth c "SkirmishGrid" cX8_requireActions 1 G A) (hr : meth.sig.returnType = none) (hex : ∀ x ∈ c.exceptionTable.toList, False) (Q : MS → Prop) (QX : String → MS → Prop) (S : MS) (a0 : Nat) (p_a0 : pI S 8 a0) (P : PW G A s H locs S0 S) (hl : lv_has ls 1 [(0, .ref a0)]) (hcc : cells + 1 ≤ 1) (hss : slots + 6 ≤ 6) (hw : wX8_requireActions_0 Q QX S a0) : W p l e rmX8_requireActions s m args below meth c H locs cells slots (vx_MQ below (QV G S0 A Q) (XX G S0 A QX) args s 1 6 A) (F0 m 0 ls []) := by
  have hx := CF_x C
  have hb := CF_b C
  unfold wX8_requireActions_0 at hw
  refine lv_aload_n hx hb dX8_requireActions_0 rfl (lv_at hl 0 rfl) ?_
  obtain ⟨a1, e1, hw⟩ := hw
  have p_a1 : pI S 2 a1 := wf_r P.2.2.2.1 p_a0 e1
  refine gf_8_3 C P p_a0 e1 q_302 dX8_requireActions_1 ?_
  refine gf_2_7 C P p_a1 q_180 dX8_requireActions_4 ?_
  refine lv_iconst (v := 1) hx hb dX8_requireActions_7 (by decide) ?_
  refine lv_icmp_ge (tgt := 22) hx hb dX8_requireActions_8 (by decide) (fun hc => ?_) (fun hc => ?_)
  · have hw := hw.1 hc
    exact e_v C hr P hw (by omega) (by omega) dX8_requireActions_22
  · have hw := hw.2 hc
    exact th_W C hex P hl.1 (E := "java/lang/IllegalStateException") (text := "no actions") (by decide +kernel) (by decide +kernel) (by decide +kernel) q_482 q_15 xw_ISE xb_ISE xg_ISE dX8_requireActions_11 dX8_requireActions_14 dX8_requireActions_15 dX8_requireActions_18 dX8_requireActions_21 (Nat.le_of_ble_eq_true rfl) (Nat.le_of_ble_eq_true rfl) (by show cells + 1 ≤ 1; omega) (by show slots + 6 ≤ 6; omega) hw (by omega) (by omega)
def wp_X8_requireActions (Q : MS → Prop) (QX : String → MS → Prop) (S : MS) (a0 : Nat) : Prop := wX8_requireActions_0 Q QX S a0
set_option maxHeartbeats 4000000 in
set_option maxRecDepth 100000 in
theorem met_X8_requireActions {l : Launch} (hst : l.stackTraces = false) (G : GP) (sz : Nat) (Q : MS → Prop) (QX : String → MS → Prop) (S : MS) (a0 : Nat) (p_a0 : pI S 8 a0) (hw : wp_X8_requireActions Q QX S a0) : vx_Met l yX8_requireActions (.code yX8_requireActions cX8_requireActions 1 none :: GW) rmX8_requireActions (va_Pc [.ref a0] (PR G S sz)) (QV G S (FA G S sz) Q) (XX G S (FA G S sz) QX) 1 6 (FA G S sz) := by
  refine st_m (by decide +kernel) hst (fun p e s m below meth c C hr hnm hex P => ?_)
  refine en_m (Nat.le_of_ble_eq_true rfl) (lv := [(0, .ref a0)]) rfl (fun ls hl => ?_)
  have C : CF p l s m _ meth c "SkirmishGrid" cX8_requireActions 1 G (FA G S sz) := C
  exact tX8_requireActions_0 C hr hex Q QX S a0 p_a0 P hl (by omega) (by omega) hw
theorem cd_X8_requireActions : yX8_requireActions.cls = RX8 ∧ yX8_requireActions.cls ≠ "java/lang/invoke/MethodHandle" ∧ yX8_requireActions.cls ≠ "java/lang/invoke/VarHandle" ∧ (parseMethodDescriptor yX8_requireActions.desc).map (fun d => d.parameters.length) = some 0 := by decide +kernel
abbrev rmX8_requireAmmunition : Room := { frames := 6, cells := 1, slots := 6, locals := 110 }
def wX8_requireAmmunition_0 (Q : MS → Prop) (QX : String → MS → Prop) (S : MS) (b1 : Nat) : Prop := ((1 ≤ (mI S b1 6) → Q S) ∧ (¬ 1 ≤ (mI S b1 6) → QX "java/lang/IllegalStateException" S))
set_option maxHeartbeats 4000000 in
set_option maxRecDepth 100000 in
theorem tX8_requireAmmunition_0 {p : Program} {l : Launch} {e : Env} {s : State} {m : MethodId} {args : Array Value} {below : List Frame} {meth : Method} {c : Code} {H : Heap} {locs : List Loc} {cells slots : Nat} {G : GP} {A : Nat → Prop} {S0 : MS} {ls : Array Slot} (C : CF p l s m args meth c "SkirmishGrid" cX8_requireAmmunition 1 G A) (hr : meth.sig.returnType = none) (hex : ∀ x ∈ c.exceptionTable.toList, False) (Q : MS → Prop) (QX : String → MS → Prop) (S : MS) (b1 : Nat) (p_b1 : pI S 7 b1) (P : PW G A s H locs S0 S) (hl : lv_has ls 1 [(0, .ref b1)]) (hcc : cells + 1 ≤ 1) (hss : slots + 6 ≤ 6) (hw : wX8_requireAmmunition_0 Q QX S b1) : W p l e rmX8_requireAmmunition s m args below meth c H locs cells slots (vx_MQ below (QV G S0 A Q) (XX G S0 A QX) args s 1 6 A) (F0 m 0 ls []) := by
  have hx := CF_x C
  have hb := CF_b C
  unfold wX8_requireAmmunition_0 at hw
  refine lv_aload_n hx hb dX8_requireAmmunition_0 rfl (lv_at hl 0 rfl) ?_
  refine gf_7_6 C P p_b1 q_114 dX8_requireAmmunition_1 ?_
  refine lv_iconst (v := 1) hx hb dX8_requireAmmunition_4 (by decide) ?_
  refine lv_icmp_ge (tgt := 19) hx hb dX8_requireAmmunition_5 (by decide) (fun hc => ?_) (fun hc => ?_)
  · have hw := hw.1 hc
    exact e_v C hr P hw (by omega) (by omega) dX8_requireAmmunition_19
  · have hw := hw.2 hc
    exact th_W C hex P hl.1 (E := "java/lang/IllegalStateException") (text := "no ammunition") (by decide +kernel) (by decide +kernel) (by decide +kernel) q_482 q_15 xw_ISE xb_ISE xg_ISE dX8_requireAmmunition_8 dX8_requireAmmunition_11 dX8_requireAmmunition_12 dX8_requireAmmunition_15 dX8_requireAmmunition_18 (Nat.le_of_ble_eq_true rfl) (Nat.le_of_ble_eq_true rfl) (by show cells + 1 ≤ 1; omega) (by show slots + 6 ≤ 6; omega) hw (by omega) (by omega)
def wp_X8_requireAmmunition (Q : MS → Prop) (QX : String → MS → Prop) (S : MS) (b1 : Nat) : Prop := wX8_requireAmmunition_0 Q QX S b1
set_option maxHeartbeats 4000000 in
set_option maxRecDepth 100000 in
theorem met_X8_requireAmmunition {l : Launch} (hst : l.stackTraces = false) (G : GP) (sz : Nat) (Q : MS → Prop) (QX : String → MS → Prop) (S : MS) (b1 : Nat) (p_b1 : pI S 7 b1) (hw : wp_X8_requireAmmunition Q QX S b1) : vx_Met l yX8_requireAmmunition (.code yX8_requireAmmunition cX8_requireAmmunition 1 none :: GW) rmX8_requireAmmunition (va_Pc [.ref b1] (PR G S sz)) (QV G S (FA G S sz) Q) (XX G S (FA G S sz) QX) 1 6 (FA G S sz) := by
  refine st_m (by decide +kernel) hst (fun p e s m below meth c C hr hnm hex P => ?_)
  refine en_m (Nat.le_of_ble_eq_true rfl) (lv := [(0, .ref b1)]) rfl (fun ls hl => ?_)
  have C : CF p l s m _ meth c "SkirmishGrid" cX8_requireAmmunition 1 G (FA G S sz) := C
  exact tX8_requireAmmunition_0 C hr hex Q QX S b1 p_b1 P hl (by omega) (by omega) hw
theorem cd_X8_requireAmmunition : yX8_requireAmmunition.cls = RX8 ∧ yX8_requireAmmunition.cls ≠ "java/lang/invoke/MethodHandle" ∧ yX8_requireAmmunition.cls ≠ "java/lang/invoke/VarHandle" ∧ (parseMethodDescriptor yX8_requireAmmunition.desc).map (fun d => d.parameters.length) = some 1 := by decide +kernel
abbrev rmX8_remember : Room := { frames := 4, cells := 0, slots := 0, locals := 124 }
def wX8_remember_0 (Q : MS → Prop) (QX : String → MS → Prop) (S : MS) (a0 : Nat) (x1 : Int32) (x2 : Int32) : Prop := (∃ a1, mR S a0 5 = some a1 ∧ (∃ a2, mR S a0 3 = some a2 ∧ wp_X4_save (fun S3 => (∃ a4, mR S3 a0 4 = some a4 ∧ wp_X0_add (fun S5 => Q S5) QX S3 a4 x1 x2)) QX S a1 a2))
set_option maxHeartbeats 4000000 in
set_option maxRecDepth 100000 in
theorem tX8_remember_0 {p : Program} {l : Launch} {e : Env} {s : State} {m : MethodId} {args : Array Value} {below : List Frame} {meth : Method} {c : Code} {H : Heap} {locs : List Loc} {cells slots : Nat} {G : GP} {A : Nat → Prop} {S0 : MS} {ls : Array Slot} (C : CF p l s m args meth c "SkirmishGrid" cX8_remember 3 G A) (hr : meth.sig.returnType = none) (hex : ∀ x ∈ c.exceptionTable.toList, False) (Q : MS → Prop) (QX : String → MS → Prop) (S : MS) (a0 : Nat) (x1 : Int32) (x2 : Int32) (p_a0 : pI S 8 a0) (P : PW G A s H locs S0 S) (hl : lv_has ls 3 [(0, .ref a0), (1, .int x1), (2, .int x2)]) (hcc : cells + 0 ≤ 0) (hss : slots + 0 ≤ 0) (hw : wX8_remember_0 Q QX S a0 x1 x2) : W p l e rmX8_remember s m args below meth c H locs cells slots (vx_MQ below (QV G S0 A Q) (XX G S0 A QX) args s 0 0 A) (F0 m 0 ls []) := by
  have hx := CF_x C
  have hb := CF_b C
  unfold wX8_remember_0 at hw
  refine lv_aload_n hx hb dX8_remember_0 rfl (lv_at hl 0 rfl) ?_
  obtain ⟨a1, e1, hw⟩ := hw
  have p_a1 : pI S 4 a1 := wf_r P.2.2.2.1 p_a0 e1
  refine gf_8_5 C P p_a0 e1 q_304 dX8_remember_1 ?_
  refine lv_aload_n hx hb dX8_remember_4 rfl (lv_at hl 0 rfl) ?_
  obtain ⟨a2, e1, hw⟩ := hw
  have p_a2 : pI S 2 a2 := wf_r P.2.2.2.1 p_a0 e1
  refine gf_8_3 C P p_a0 e1 q_302 dX8_remember_5 ?_
  refine cl_v C P (run_V C P hl.1 (kd := 4) (met_X4_save (CF_n C) G H.size _ _ S a1 a2 p_a1 p_a2 hw) p_a1 (by decide) rfl q_1042 q_1043 q_1044 q_7 q_1045 cd_X4_save ⟨(Nat.le_of_ble_eq_true rfl), (Nat.le_of_ble_eq_true rfl)⟩ rfl rfl (As := [.ref a2]) (rest := []) rfl rfl (Nat.le_of_ble_eq_true rfl) dX8_remember_8 ⟨by show cells + 0 ≤ 0; omega, by show slots + 0 ≤ 0; omega⟩) (kx_out C hex (fun _ _ _ h => h) (by omega) (by omega)) (fun S3 H locs P hE hw => ?_)
  have p_a0 : pI S3 8 a0 := pI_x hE p_a0
  have p_a1 : pI S3 4 a1 := pI_x hE p_a1
  have p_a2 : pI S3 2 a2 := pI_x hE p_a2
  refine lv_aload_n hx hb dX8_remember_11 rfl (lv_at hl 0 rfl) ?_
  obtain ⟨a4, e1, hw⟩ := hw
  have p_a4 : pI S3 0 a4 := wf_r P.2.2.2.1 p_a0 e1
  refine gf_8_4 C P p_a0 e1 q_303 dX8_remember_12 ?_
  refine lv_iload_n hx hb dX8_remember_15 rfl (lv_at hl 1 rfl) ?_
  refine lv_iload_n hx hb dX8_remember_16 rfl (lv_at hl 2 rfl) ?_
  refine cl_v C P (run_V C P hl.1 (kd := 0) (met_X0_add (CF_n C) G H.size _ _ S3 a4 x1 x2 p_a4 hw) p_a4 (by decide) rfl q_1048 q_1049 q_1050 q_6 q_1051 cd_X0_add ⟨(Nat.le_of_ble_eq_true rfl), (Nat.le_of_ble_eq_true rfl)⟩ rfl rfl (As := [.int x1, .int x2]) (rest := []) rfl rfl (Nat.le_of_ble_eq_true rfl) dX8_remember_17 ⟨by show cells + 0 ≤ 0; omega, by show slots + 0 ≤ 0; omega⟩) (kx_out C hex (fun _ _ _ h => h) (by omega) (by omega)) (fun S5 H locs P hE hw => ?_)
  have p_a4 : pI S5 0 a4 := pI_x hE p_a4
  exact e_v C hr P hw (by omega) (by omega) dX8_remember_20
def wp_X8_remember (Q : MS → Prop) (QX : String → MS → Prop) (S : MS) (a0 : Nat) (x1 : Int32) (x2 : Int32) : Prop := wX8_remember_0 Q QX S a0 x1 x2
set_option maxHeartbeats 4000000 in
set_option maxRecDepth 100000 in
theorem met_X8_remember {l : Launch} (hst : l.stackTraces = false) (G : GP) (sz : Nat) (Q : MS → Prop) (QX : String → MS → Prop) (S : MS) (a0 : Nat) (x1 : Int32) (x2 : Int32) (p_a0 : pI S 8 a0) (hw : wp_X8_remember Q QX S a0 x1 x2) : vx_Met l yX8_remember (.code yX8_remember cX8_remember 3 none :: GW) rmX8_remember (va_Pc [.ref a0, .int x1, .int x2] (PR G S sz)) (QV G S (FA G S sz) Q) (XX G S (FA G S sz) QX) 0 0 (FA G S sz) := by
  refine st_m (by decide +kernel) hst (fun p e s m below meth c C hr hnm hex P => ?_)
  refine en_m (Nat.le_of_ble_eq_true rfl) (lv := [(0, .ref a0), (1, .int x1), (2, .int x2)]) rfl (fun ls hl => ?_)
  have C : CF p l s m _ meth c "SkirmishGrid" cX8_remember 3 G (FA G S sz) := C
  exact tX8_remember_0 C hr hex Q QX S a0 x1 x2 p_a0 P hl (by omega) (by omega) hw
theorem cd_X8_remember : yX8_remember.cls = RX8 ∧ yX8_remember.cls ≠ "java/lang/invoke/MethodHandle" ∧ yX8_remember.cls ≠ "java/lang/invoke/VarHandle" ∧ (parseMethodDescriptor yX8_remember.desc).map (fun d => d.parameters.length) = some 2 := by decide +kernel
abbrev rmX8_move : Room := { frames := 7, cells := 4, slots := 24, locals := 186 }
def wX8_move_56 (Q : Int32 → MS → Prop) (QX : String → MS → Prop) (S : MS) : Prop := QX "java/lang/IllegalArgumentException" S
set_option maxHeartbeats 4000000 in
set_option maxRecDepth 100000 in
theorem tX8_move_56 {p : Program} {l : Launch} {e : Env} {s : State} {m : MethodId} {args : Array Value} {below : List Frame} {meth : Method} {c : Code} {H : Heap} {locs : List Loc} {cells slots : Nat} {G : GP} {A : Nat → Prop} {S0 : MS} {ls : Array Slot} (C : CF p l s m args meth c "SkirmishGrid" cX8_move 3 G A) (hr : meth.sig.returnType = (some .int)) (hex : ∀ x ∈ c.exceptionTable.toList, False) (Q : Int32 → MS → Prop) (QX : String → MS → Prop) (S : MS) (P : PW G A s H locs S0 S) (hl : lv_has ls 3 []) (hcc : cells + 1 ≤ 4) (hss : slots + 6 ≤ 24) (hw : wX8_move_56 Q QX S) : W p l e rmX8_move s m args below meth c H locs cells slots (vx_MQ below (QI G S0 A Q) (XX G S0 A QX) args s 4 24 A) (F0 m 56 ls []) := by
  have hx := CF_x C
  have hb := CF_b C
  unfold wX8_move_56 at hw
  exact th_W C hex P hl.1 (E := "java/lang/IllegalArgumentException") (text := "the unit cannot move to this cell") (by decide +kernel) (by decide +kernel) (by decide +kernel) q_410 q_14 xw_IAE xb_IAE xg_IAE dX8_move_56 dX8_move_59 dX8_move_60 dX8_move_63 dX8_move_66 (Nat.le_of_ble_eq_true rfl) (Nat.le_of_ble_eq_true rfl) (by show cells + 1 ≤ 4; omega) (by show slots + 6 ≤ 24; omega) hw (by omega) (by omega)
def wX8_move_0 (Q : Int32 → MS → Prop) (QX : String → MS → Prop) (S : MS) (a0 : Nat) (x1 : Int32) : Prop := wp_X8_requireCell (fun S1 => wp_X8_requireTurn (fun r3 S2 => (∃ a4, r3 = some a4 ∧ wp_X8_requireActions (fun S5 => (∃ a6, mR S5 a0 10 = some a6 ∧ (∃ a7, mR S5 a0 3 = some a7 ∧ wp_X5_measure (fun S8 => ((x1 = (mI S8 a4 4) → wX8_move_56 Q QX S8) ∧ (¬ x1 = (mI S8 a4 4) → (∃ a9, mR S8 a0 10 = some a9 ∧ wp_X5_costsFrom (fun r11 S10 => (vp_in (mI S10 a4 2) 4 ∧ ((r11 ≤ (tbI 4 (mI S10 a4 2)) → wp_X8_remember (fun S13 => (∃ a14, mR S13 a0 3 = some a14 ∧ (∃ a15, mR S13 a0 10 = some a15 ∧ wp_X2_walk (fun r17 S16 => Q r17 S16) QX S13 a14 x1 a15))) QX S10 a0 0 x1) ∧ (¬ r11 ≤ (tbI 4 (mI S10 a4 2)) → wX8_move_56 Q QX S10)))) QX S8 a9 (mI S8 a4 4))))) QX S5 a6 a7 x1))) QX S2 a0)) QX S1 a0) QX S a0 x1
set_option maxHeartbeats 4000000 in
set_option maxRecDepth 100000 in
theorem tX8_move_0 {p : Program} {l : Launch} {e : Env} {s : State} {m : MethodId} {args : Array Value} {below : List Frame} {meth : Method} {c : Code} {H : Heap} {locs : List Loc} {cells slots : Nat} {G : GP} {A : Nat → Prop} {S0 : MS} {ls : Array Slot} (C : CF p l s m args meth c "SkirmishGrid" cX8_move 3 G A) (hr : meth.sig.returnType = (some .int)) (hex : ∀ x ∈ c.exceptionTable.toList, False) (Q : Int32 → MS → Prop) (QX : String → MS → Prop) (S : MS) (a0 : Nat) (x1 : Int32) (p_a0 : pI S 8 a0) (P : PW G A s H locs S0 S) (hl : lv_has ls 3 [(0, .ref a0), (1, .int x1)]) (hcc : cells + 4 ≤ 4) (hss : slots + 24 ≤ 24) (hw : wX8_move_0 Q QX S a0 x1) : W p l e rmX8_move s m args below meth c H locs cells slots (vx_MQ below (QI G S0 A Q) (XX G S0 A QX) args s 4 24 A) (F0 m 0 ls []) := by
  have hx := CF_x C
  have hb := CF_b C
  unfold wX8_move_0 at hw
  refine lv_aload_n hx hb dX8_move_0 rfl (lv_at hl 0 rfl) ?_
  refine lv_iload_n hx hb dX8_move_1 rfl (lv_at hl 1 rfl) ?_
  refine cl_v C P (run_V C P hl.1 (kd := 8) (met_X8_requireCell (CF_n C) G H.size _ _ S a0 x1 p_a0 hw) p_a0 (by decide) rfl q_733 q_735 q_p1 q_1 q_736 cd_X8_requireCell ⟨(Nat.le_of_ble_eq_true rfl), (Nat.le_of_ble_eq_true rfl)⟩ rfl rfl (As := [.int x1]) (rest := []) rfl rfl (Nat.le_of_ble_eq_true rfl) dX8_move_2 ⟨by show cells + 1 ≤ 4; omega, by show slots + 6 ≤ 24; omega⟩) (kx_out C hex (fun _ _ _ h => h) (by omega) (by omega)) (fun S1 H locs P hE hw => ?_)
  have p_a0 : pI S1 8 a0 := pI_x hE p_a0
  refine lv_aload_n hx hb dX8_move_5 rfl (lv_at hl 0 rfl) ?_
  refine cl_q C P (run_V C P hl.1 (kd := 8) (met_X8_requireTurn (CF_n C) G H.size _ _ S1 a0 p_a0 hw) p_a0 (by decide) rfl q_898 q_900 q_p9 q_1 q_901 cd_X8_requireTurn ⟨(Nat.le_of_ble_eq_true rfl), (Nat.le_of_ble_eq_true rfl)⟩ rfl rfl (As := []) (rest := []) rfl rfl (Nat.le_of_ble_eq_true rfl) dX8_move_6 ⟨by show cells + 1 + 1 ≤ 4; omega, by show slots + 6 + 6 ≤ 24; omega⟩) (kx_out C hex (fun _ _ _ h => h) (by omega) (by omega)) (fun r3 S2 H locs P hE hw hR => ?_)
  have p_a0 : pI S2 8 a0 := pI_x hE p_a0
  obtain ⟨a4, rfl, hw⟩ := hw
  have p_a4 : pI S2 7 a4 := hR a4 rfl
  refine lv_astore_n (lv' := [(2, .ref a4), (0, .ref a0), (1, .int x1)]) hx hb dX8_move_9 rfl hl (by decide) rfl (fun ls hl => ?_)
  refine lv_aload_n hx hb dX8_move_10 rfl (lv_at hl 1 rfl) ?_
  refine cl_v C P (run_V C P hl.1 (kd := 8) (met_X8_requireActions (CF_n C) G H.size _ _ S2 a0 p_a0 hw) p_a0 (by decide) rfl q_1030 q_1032 q_p16 q_1 q_1033 cd_X8_requireActions ⟨(Nat.le_of_ble_eq_true rfl), (Nat.le_of_ble_eq_true rfl)⟩ rfl rfl (As := []) (rest := []) rfl rfl (Nat.le_of_ble_eq_true rfl) dX8_move_11 ⟨by show cells + 1 + 1 + 1 ≤ 4; omega, by show slots + 6 + 6 + 6 ≤ 24; omega⟩) (kx_out C hex (fun _ _ _ h => h) (by omega) (by omega)) (fun S5 H locs P hE hw => ?_)
  have p_a0 : pI S5 8 a0 := pI_x hE p_a0
  have p_a4 : pI S5 7 a4 := pI_x hE p_a4
  refine lv_aload_n hx hb dX8_move_14 rfl (lv_at hl 1 rfl) ?_
  obtain ⟨a6, e1, hw⟩ := hw
  have p_a6 : pI S5 5 a6 := wf_r P.2.2.2.1 p_a0 e1
  refine gf_8_10 C P p_a0 e1 q_309 dX8_move_15 ?_
  refine lv_aload_n hx hb dX8_move_18 rfl (lv_at hl 1 rfl) ?_
  obtain ⟨a7, e1, hw⟩ := hw
  have p_a7 : pI S5 2 a7 := wf_r P.2.2.2.1 p_a0 e1
  refine gf_8_3 C P p_a0 e1 q_302 dX8_move_19 ?_
  refine lv_iload_n hx hb dX8_move_22 rfl (lv_at hl 2 rfl) ?_
  refine cl_v C P (run_V C P hl.1 (kd := 5) (met_X5_measure (CF_n C) G H.size _ _ S5 a6 a7 x1 p_a6 p_a7 hw) p_a6 (by decide) rfl q_906 q_907 q_908 q_8 q_909 cd_X5_measure ⟨(Nat.le_of_ble_eq_true rfl), (Nat.le_of_ble_eq_true rfl)⟩ rfl rfl (As := [.ref a7, .int x1]) (rest := []) rfl rfl (Nat.le_of_ble_eq_true rfl) dX8_move_23 ⟨by show cells + 1 + 1 + 1 + 0 ≤ 4; omega, by show slots + 6 + 6 + 6 + 0 ≤ 24; omega⟩) (kx_out C hex (fun _ _ _ h => h) (by omega) (by omega)) (fun S8 H locs P hE hw => ?_)
  have p_a0 : pI S8 8 a0 := pI_x hE p_a0
  have p_a4 : pI S8 7 a4 := pI_x hE p_a4
  have p_a6 : pI S8 5 a6 := pI_x hE p_a6
  have p_a7 : pI S8 2 a7 := pI_x hE p_a7
  refine lv_iload_n hx hb dX8_move_26 rfl (lv_at hl 2 rfl) ?_
  refine lv_aload_n hx hb dX8_move_27 rfl (lv_at hl 0 rfl) ?_
  refine gf_7_4 C P p_a4 q_108 dX8_move_28 ?_
  refine lv_icmp_eq (tgt := 56) hx hb dX8_move_31 (by decide) (fun hc => ?_) (fun hc => ?_)
  · have hw := hw.1 hc
    exact tX8_move_56 C hr hex Q QX S8 P (lv_sub hl [] rfl) (by omega) (by omega) hw
  · have hw := hw.2 hc
    refine lv_aload_n hx hb dX8_move_34 rfl (lv_at hl 1 rfl) ?_
    obtain ⟨a9, e1, hw⟩ := hw
    have p_a9 : pI S8 5 a9 := wf_r P.2.2.2.1 p_a0 e1
    refine gf_8_10 C P p_a0 e1 q_309 dX8_move_35 ?_
    refine lv_aload_n hx hb dX8_move_38 rfl (lv_at hl 0 rfl) ?_
    refine gf_7_4 C P p_a4 q_108 dX8_move_39 ?_
    refine cl_i C P (run_V C P hl.1 (kd := 5) (met_X5_costsFrom (CF_n C) G H.size _ _ S8 a9 (mI S8 a4 4) p_a9 hw) p_a9 (by decide) rfl q_931 q_932 q_933 q_8 q_934 cd_X5_costsFrom ⟨(Nat.le_of_ble_eq_true rfl), (Nat.le_of_ble_eq_true rfl)⟩ rfl rfl (As := [.int (mI S8 a4 4)]) (rest := []) rfl rfl (Nat.le_of_ble_eq_true rfl) dX8_move_42 ⟨by show cells + 1 + 1 + 1 + 0 ≤ 4; omega, by show slots + 6 + 6 + 6 + 0 ≤ 24; omega⟩) (kx_out C hex (fun _ _ _ h => h) (by omega) (by omega)) (fun r11 S10 H locs P hE hw => ?_)
    have p_a0 : pI S10 8 a0 := pI_x hE p_a0
    have p_a4 : pI S10 7 a4 := pI_x hE p_a4
    have p_a9 : pI S10 5 a9 := pI_x hE p_a9
    refine rt_g C P (i := 4) (by decide) rfl q_1035 dX8_move_45 (fun t12 ht12 => ?_)
    refine lv_aload_n hx hb dX8_move_48 rfl (lv_at hl 0 rfl) ?_
    refine gf_7_2 C P p_a4 q_102 dX8_move_49 ?_
    obtain ⟨h1, hw⟩ := hw
    refine rt_l (i := 4) C P ht12 h1 dX8_move_52 ?_
    refine lv_icmp_le (tgt := 67) hx hb dX8_move_53 (by decide) (fun hc => ?_) (fun hc => ?_)
    · have hw := hw.1 hc
      refine lv_aload_n hx hb dX8_move_67 rfl (lv_at hl 1 rfl) ?_
      refine lv_iconst (v := 0) hx hb dX8_move_68 (by decide) ?_
      refine lv_iload_n hx hb dX8_move_69 rfl (lv_at hl 2 rfl) ?_
      refine cl_v C P (run_V C P hl.1 (kd := 8) (met_X8_remember (CF_n C) G H.size _ _ S10 a0 0 x1 p_a0 hw) p_a0 (by decide) rfl q_1038 q_1040 q_p17 q_1 q_1041 cd_X8_remember ⟨(Nat.le_of_ble_eq_true rfl), (Nat.le_of_ble_eq_true rfl)⟩ rfl rfl (As := [.int 0, .int x1]) (rest := []) rfl rfl (Nat.le_of_ble_eq_true rfl) dX8_move_70 ⟨by show cells + 1 + 1 + 1 + 0 ≤ 4; omega, by show slots + 6 + 6 + 6 + 0 ≤ 24; omega⟩) (kx_out C hex (fun _ _ _ h => h) (by omega) (by omega)) (fun S13 H locs P hE hw => ?_)
      have p_a0 : pI S13 8 a0 := pI_x hE p_a0
      refine lv_aload_n hx hb dX8_move_73 rfl (lv_at hl 1 rfl) ?_
      obtain ⟨a14, e1, hw⟩ := hw
      have p_a14 : pI S13 2 a14 := wf_r P.2.2.2.1 p_a0 e1
      refine gf_8_3 C P p_a0 e1 q_302 dX8_move_74 ?_
      refine lv_iload_n hx hb dX8_move_77 rfl (lv_at hl 2 rfl) ?_
      refine lv_aload_n hx hb dX8_move_78 rfl (lv_at hl 1 rfl) ?_
      obtain ⟨a15, e1, hw⟩ := hw
      have p_a15 : pI S13 5 a15 := wf_r P.2.2.2.1 p_a0 e1
      refine gf_8_10 C P p_a0 e1 q_309 dX8_move_79 ?_
      refine cl_i C P (run_V C P hl.1 (kd := 2) (met_X2_walk (CF_n C) G H.size _ _ S13 a14 x1 a15 p_a14 p_a15 hw) p_a14 (by decide) rfl q_1052 q_1053 q_1054 q_2 q_1055 cd_X2_walk ⟨(Nat.le_of_ble_eq_true rfl), (Nat.le_of_ble_eq_true rfl)⟩ rfl rfl (As := [.int x1, .ref a15]) (rest := []) rfl rfl (Nat.le_of_ble_eq_true rfl) dX8_move_82 ⟨by show cells + 1 + 1 + 1 + 0 ≤ 4; omega, by show slots + 6 + 6 + 6 + 0 ≤ 24; omega⟩) (kx_out C hex (fun _ _ _ h => h) (by omega) (by omega)) (fun r17 S16 H locs P hE hw => ?_)
      have p_a14 : pI S16 2 a14 := pI_x hE p_a14
      have p_a15 : pI S16 5 a15 := pI_x hE p_a15
      exact e_i C hr rfl P hw (by omega) (by omega) dX8_move_85
    · have hw := hw.2 hc
      exact tX8_move_56 C hr hex Q QX S10 P (lv_sub hl [] rfl) (by omega) (by omega) hw
def wp_X8_move (Q : Int32 → MS → Prop) (QX : String → MS → Prop) (S : MS) (a0 : Nat) (x1 : Int32) : Prop := wX8_move_0 Q QX S a0 x1
set_option maxHeartbeats 4000000 in
set_option maxRecDepth 100000 in
theorem met_X8_move {l : Launch} (hst : l.stackTraces = false) (G : GP) (sz : Nat) (Q : Int32 → MS → Prop) (QX : String → MS → Prop) (S : MS) (a0 : Nat) (x1 : Int32) (p_a0 : pI S 8 a0) (hw : wp_X8_move Q QX S a0 x1) : vx_Met l yX8_move (.code yX8_move cX8_move 3 (some .int) :: GW) rmX8_move (va_Pc [.ref a0, .int x1] (PR G S sz)) (QI G S (FA G S sz) Q) (XX G S (FA G S sz) QX) 4 24 (FA G S sz) := by
  refine st_m (by decide +kernel) hst (fun p e s m below meth c C hr hnm hex P => ?_)
  refine en_m (Nat.le_of_ble_eq_true rfl) (lv := [(0, .ref a0), (1, .int x1)]) rfl (fun ls hl => ?_)
  have C : CF p l s m _ meth c "SkirmishGrid" cX8_move 3 G (FA G S sz) := C
  exact tX8_move_0 C hr hex Q QX S a0 x1 p_a0 P hl (by omega) (by omega) hw
theorem cd_X8_move : yX8_move.cls = RX8 ∧ yX8_move.cls ≠ "java/lang/invoke/MethodHandle" ∧ yX8_move.cls ≠ "java/lang/invoke/VarHandle" ∧ (parseMethodDescriptor yX8_move.desc).map (fun d => d.parameters.length) = some 1 := by decide +kernel
abbrev rmX8_attack : Room := { frames := 7, cells := 5, slots := 30, locals := 171 }
def wX8_attack_0 (Q : Int32 → MS → Prop) (QX : String → MS → Prop) (S : MS) (a0 : Nat) (x1 : Int32) : Prop := wp_X8_requireUnit (fun r2 S1 => (∃ a3, r2 = some a3 ∧ wp_X8_requireTurn (fun r5 S4 => (∃ a6, r5 = some a6 ∧ wp_X8_requireActions (fun S7 => wp_X8_requireAmmunition (fun S8 => wp_X8_requireTarget (fun S9 => wp_X8_remember (fun S10 => (∃ a11, mR S10 a0 3 = some a11 ∧ wp_X2_shoot (fun r13 S12 => Q r13 S12) QX S10 a11 x1)) QX S9 a0 1 x1) QX S8 a0 a6 a3) QX S7 a6) QX S4 a0)) QX S1 a0)) QX S a0 x1
set_option maxHeartbeats 4000000 in
set_option maxRecDepth 100000 in
theorem tX8_attack_0 {p : Program} {l : Launch} {e : Env} {s : State} {m : MethodId} {args : Array Value} {below : List Frame} {meth : Method} {c : Code} {H : Heap} {locs : List Loc} {cells slots : Nat} {G : GP} {A : Nat → Prop} {S0 : MS} {ls : Array Slot} (C : CF p l s m args meth c "SkirmishGrid" cX8_attack 4 G A) (hr : meth.sig.returnType = (some .int)) (hex : ∀ x ∈ c.exceptionTable.toList, False) (Q : Int32 → MS → Prop) (QX : String → MS → Prop) (S : MS) (a0 : Nat) (x1 : Int32) (p_a0 : pI S 8 a0) (P : PW G A s H locs S0 S) (hl : lv_has ls 4 [(0, .ref a0), (1, .int x1)]) (hcc : cells + 5 ≤ 5) (hss : slots + 30 ≤ 30) (hw : wX8_attack_0 Q QX S a0 x1) : W p l e rmX8_attack s m args below meth c H locs cells slots (vx_MQ below (QI G S0 A Q) (XX G S0 A QX) args s 5 30 A) (F0 m 0 ls []) := by
  have hx := CF_x C
  have hb := CF_b C
  unfold wX8_attack_0 at hw
  refine lv_aload_n hx hb dX8_attack_0 rfl (lv_at hl 0 rfl) ?_
  refine lv_iload_n hx hb dX8_attack_1 rfl (lv_at hl 1 rfl) ?_
  refine cl_q C P (run_V C P hl.1 (kd := 8) (met_X8_requireUnit (CF_n C) G H.size _ _ S a0 x1 p_a0 hw) p_a0 (by decide) rfl q_812 q_814 q_p3 q_1 q_815 cd_X8_requireUnit ⟨(Nat.le_of_ble_eq_true rfl), (Nat.le_of_ble_eq_true rfl)⟩ rfl rfl (As := [.int x1]) (rest := []) rfl rfl (Nat.le_of_ble_eq_true rfl) dX8_attack_2 ⟨by show cells + 1 ≤ 5; omega, by show slots + 6 ≤ 30; omega⟩) (kx_out C hex (fun _ _ _ h => h) (by omega) (by omega)) (fun r2 S1 H locs P hE hw hR => ?_)
  have p_a0 : pI S1 8 a0 := pI_x hE p_a0
  obtain ⟨a3, rfl, hw⟩ := hw
  have p_a3 : pI S1 7 a3 := hR a3 rfl
  refine lv_astore_n (lv' := [(2, .ref a3), (0, .ref a0), (1, .int x1)]) hx hb dX8_attack_5 rfl hl (by decide) rfl (fun ls hl => ?_)
  refine lv_aload_n hx hb dX8_attack_6 rfl (lv_at hl 1 rfl) ?_
  refine cl_q C P (run_V C P hl.1 (kd := 8) (met_X8_requireTurn (CF_n C) G H.size _ _ S1 a0 p_a0 hw) p_a0 (by decide) rfl q_898 q_900 q_p9 q_1 q_901 cd_X8_requireTurn ⟨(Nat.le_of_ble_eq_true rfl), (Nat.le_of_ble_eq_true rfl)⟩ rfl rfl (As := []) (rest := []) rfl rfl (Nat.le_of_ble_eq_true rfl) dX8_attack_7 ⟨by show cells + 1 + 1 ≤ 5; omega, by show slots + 6 + 6 ≤ 30; omega⟩) (kx_out C hex (fun _ _ _ h => h) (by omega) (by omega)) (fun r5 S4 H locs P hE hw hR => ?_)
  have p_a0 : pI S4 8 a0 := pI_x hE p_a0
  have p_a3 : pI S4 7 a3 := pI_x hE p_a3
  obtain ⟨a6, rfl, hw⟩ := hw
  have p_a6 : pI S4 7 a6 := hR a6 rfl
  refine lv_astore_n (lv' := [(3, .ref a6), (2, .ref a3), (0, .ref a0), (1, .int x1)]) hx hb dX8_attack_10 rfl hl (by decide) rfl (fun ls hl => ?_)
  refine lv_aload_n hx hb dX8_attack_11 rfl (lv_at hl 2 rfl) ?_
  refine cl_v C P (run_V C P hl.1 (kd := 8) (met_X8_requireActions (CF_n C) G H.size _ _ S4 a0 p_a0 hw) p_a0 (by decide) rfl q_1030 q_1032 q_p16 q_1 q_1033 cd_X8_requireActions ⟨(Nat.le_of_ble_eq_true rfl), (Nat.le_of_ble_eq_true rfl)⟩ rfl rfl (As := []) (rest := []) rfl rfl (Nat.le_of_ble_eq_true rfl) dX8_attack_12 ⟨by show cells + 1 + 1 + 1 ≤ 5; omega, by show slots + 6 + 6 + 6 ≤ 30; omega⟩) (kx_out C hex (fun _ _ _ h => h) (by omega) (by omega)) (fun S7 H locs P hE hw => ?_)
  have p_a0 : pI S7 8 a0 := pI_x hE p_a0
  have p_a3 : pI S7 7 a3 := pI_x hE p_a3
  have p_a6 : pI S7 7 a6 := pI_x hE p_a6
  refine lv_aload_n hx hb dX8_attack_15 rfl (lv_at hl 0 rfl) ?_
  refine cl_v C P (run_S C P hl.1 (met_X8_requireAmmunition (CF_n C) G H.size _ _ S7 a6 p_a6 hw) q_1079 q_1080 q_1 q_1081 cd_X8_requireAmmunition.2 ⟨(Nat.le_of_ble_eq_true rfl), (Nat.le_of_ble_eq_true rfl)⟩ rfl rfl (As := [.ref a6]) (rest := []) rfl rfl (Nat.le_of_ble_eq_true rfl) dX8_attack_16 ⟨by show cells + 1 + 1 + 1 + 1 ≤ 5; omega, by show slots + 6 + 6 + 6 + 6 ≤ 30; omega⟩) (kx_out C hex (fun _ _ _ h => h) (by omega) (by omega)) (fun S8 H locs P hE hw => ?_)
  have p_a0 : pI S8 8 a0 := pI_x hE p_a0
  have p_a3 : pI S8 7 a3 := pI_x hE p_a3
  have p_a6 : pI S8 7 a6 := pI_x hE p_a6
  refine lv_aload_n hx hb dX8_attack_19 rfl (lv_at hl 2 rfl) ?_
  refine lv_aload_n hx hb dX8_attack_20 rfl (lv_at hl 0 rfl) ?_
  refine lv_aload_n hx hb dX8_attack_21 rfl (lv_at hl 1 rfl) ?_
  refine cl_v C P (run_V C P hl.1 (kd := 8) (met_X8_requireTarget (CF_n C) G H.size _ _ S8 a0 a6 a3 p_a0 p_a6 p_a3 hw) p_a0 (by decide) rfl q_957 q_959 q_p14 q_1 q_960 cd_X8_requireTarget ⟨(Nat.le_of_ble_eq_true rfl), (Nat.le_of_ble_eq_true rfl)⟩ rfl rfl (As := [.ref a6, .ref a3]) (rest := []) rfl rfl (Nat.le_of_ble_eq_true rfl) dX8_attack_22 ⟨by show cells + 1 + 1 + 1 + 1 + 1 ≤ 5; omega, by show slots + 6 + 6 + 6 + 6 + 6 ≤ 30; omega⟩) (kx_out C hex (fun _ _ _ h => h) (by omega) (by omega)) (fun S9 H locs P hE hw => ?_)
  have p_a0 : pI S9 8 a0 := pI_x hE p_a0
  have p_a3 : pI S9 7 a3 := pI_x hE p_a3
  have p_a6 : pI S9 7 a6 := pI_x hE p_a6
  refine lv_aload_n hx hb dX8_attack_25 rfl (lv_at hl 2 rfl) ?_
  refine lv_iconst (v := 1) hx hb dX8_attack_26 (by decide) ?_
  refine lv_iload_n hx hb dX8_attack_27 rfl (lv_at hl 3 rfl) ?_
  refine cl_v C P (run_V C P hl.1 (kd := 8) (met_X8_remember (CF_n C) G H.size _ _ S9 a0 1 x1 p_a0 hw) p_a0 (by decide) rfl q_1038 q_1040 q_p17 q_1 q_1041 cd_X8_remember ⟨(Nat.le_of_ble_eq_true rfl), (Nat.le_of_ble_eq_true rfl)⟩ rfl rfl (As := [.int 1, .int x1]) (rest := []) rfl rfl (Nat.le_of_ble_eq_true rfl) dX8_attack_28 ⟨by show cells + 1 + 1 + 1 + 1 + 1 + 0 ≤ 5; omega, by show slots + 6 + 6 + 6 + 6 + 6 + 0 ≤ 30; omega⟩) (kx_out C hex (fun _ _ _ h => h) (by omega) (by omega)) (fun S10 H locs P hE hw => ?_)
  have p_a0 : pI S10 8 a0 := pI_x hE p_a0
  refine lv_aload_n hx hb dX8_attack_31 rfl (lv_at hl 2 rfl) ?_
  obtain ⟨a11, e1, hw⟩ := hw
  have p_a11 : pI S10 2 a11 := wf_r P.2.2.2.1 p_a0 e1
  refine gf_8_3 C P p_a0 e1 q_302 dX8_attack_32 ?_
  refine lv_iload_n hx hb dX8_attack_35 rfl (lv_at hl 3 rfl) ?_
  refine cl_i C P (run_V C P hl.1 (kd := 2) (met_X2_shoot (CF_n C) G H.size _ _ S10 a11 x1 p_a11 hw) p_a11 (by decide) rfl q_1083 q_1084 q_1085 q_2 q_1086 cd_X2_shoot ⟨(Nat.le_of_ble_eq_true rfl), (Nat.le_of_ble_eq_true rfl)⟩ rfl rfl (As := [.int x1]) (rest := []) rfl rfl (Nat.le_of_ble_eq_true rfl) dX8_attack_36 ⟨by show cells + 1 + 1 + 1 + 1 + 1 + 0 ≤ 5; omega, by show slots + 6 + 6 + 6 + 6 + 6 + 0 ≤ 30; omega⟩) (kx_out C hex (fun _ _ _ h => h) (by omega) (by omega)) (fun r13 S12 H locs P hE hw => ?_)
  have p_a11 : pI S12 2 a11 := pI_x hE p_a11
  exact e_i C hr rfl P hw (by omega) (by omega) dX8_attack_39
def wp_X8_attack (Q : Int32 → MS → Prop) (QX : String → MS → Prop) (S : MS) (a0 : Nat) (x1 : Int32) : Prop := wX8_attack_0 Q QX S a0 x1
set_option maxHeartbeats 4000000 in
set_option maxRecDepth 100000 in
theorem met_X8_attack {l : Launch} (hst : l.stackTraces = false) (G : GP) (sz : Nat) (Q : Int32 → MS → Prop) (QX : String → MS → Prop) (S : MS) (a0 : Nat) (x1 : Int32) (p_a0 : pI S 8 a0) (hw : wp_X8_attack Q QX S a0 x1) : vx_Met l yX8_attack (.code yX8_attack cX8_attack 4 (some .int) :: GW) rmX8_attack (va_Pc [.ref a0, .int x1] (PR G S sz)) (QI G S (FA G S sz) Q) (XX G S (FA G S sz) QX) 5 30 (FA G S sz) := by
  refine st_m (by decide +kernel) hst (fun p e s m below meth c C hr hnm hex P => ?_)
  refine en_m (Nat.le_of_ble_eq_true rfl) (lv := [(0, .ref a0), (1, .int x1)]) rfl (fun ls hl => ?_)
  have C : CF p l s m _ meth c "SkirmishGrid" cX8_attack 4 G (FA G S sz) := C
  exact tX8_attack_0 C hr hex Q QX S a0 x1 p_a0 P hl (by omega) (by omega) hw
theorem cd_X8_attack : yX8_attack.cls = RX8 ∧ yX8_attack.cls ≠ "java/lang/invoke/MethodHandle" ∧ yX8_attack.cls ≠ "java/lang/invoke/VarHandle" ∧ (parseMethodDescriptor yX8_attack.desc).map (fun d => d.parameters.length) = some 1 := by decide +kernel
abbrev rmX8_throwAt : Room := { frames := 7, cells := 4, slots := 24, locals := 172 }
def wX8_throwAt_0 (Q : Int32 → MS → Prop) (QX : String → MS → Prop) (S : MS) (a0 : Nat) (x1 : Int32) : Prop := wp_X8_requireCell (fun S1 => wp_X8_requireTurn (fun r3 S2 => (∃ a4, r3 = some a4 ∧ wp_X8_requireActions (fun S5 => ((1 ≤ (mI S5 a4 7) → (∃ a6, mR S5 a0 3 = some a6 ∧ wp_X2_canHurl (fun r8 S7 => ((¬ r8 = 0 → wp_X8_remember (fun S9 => (∃ a10, mR S9 a0 3 = some a10 ∧ wp_X2_hurl (fun r12 S11 => Q r12 S11) QX S9 a10 x1)) QX S7 a0 2 x1) ∧ (r8 = 0 → QX "java/lang/IllegalArgumentException" S7))) QX S5 a6 a4 x1)) ∧ (¬ 1 ≤ (mI S5 a4 7) → QX "java/lang/IllegalStateException" S5))) QX S2 a0)) QX S1 a0) QX S a0 x1
set_option maxHeartbeats 4000000 in
set_option maxRecDepth 100000 in
theorem tX8_throwAt_0 {p : Program} {l : Launch} {e : Env} {s : State} {m : MethodId} {args : Array Value} {below : List Frame} {meth : Method} {c : Code} {H : Heap} {locs : List Loc} {cells slots : Nat} {G : GP} {A : Nat → Prop} {S0 : MS} {ls : Array Slot} (C : CF p l s m args meth c "SkirmishGrid" cX8_throwAt 3 G A) (hr : meth.sig.returnType = (some .int)) (hex : ∀ x ∈ c.exceptionTable.toList, False) (Q : Int32 → MS → Prop) (QX : String → MS → Prop) (S : MS) (a0 : Nat) (x1 : Int32) (p_a0 : pI S 8 a0) (P : PW G A s H locs S0 S) (hl : lv_has ls 3 [(0, .ref a0), (1, .int x1)]) (hcc : cells + 4 ≤ 4) (hss : slots + 24 ≤ 24) (hw : wX8_throwAt_0 Q QX S a0 x1) : W p l e rmX8_throwAt s m args below meth c H locs cells slots (vx_MQ below (QI G S0 A Q) (XX G S0 A QX) args s 4 24 A) (F0 m 0 ls []) := by
  have hx := CF_x C
  have hb := CF_b C
  unfold wX8_throwAt_0 at hw
  refine lv_aload_n hx hb dX8_throwAt_0 rfl (lv_at hl 0 rfl) ?_
  refine lv_iload_n hx hb dX8_throwAt_1 rfl (lv_at hl 1 rfl) ?_
  refine cl_v C P (run_V C P hl.1 (kd := 8) (met_X8_requireCell (CF_n C) G H.size _ _ S a0 x1 p_a0 hw) p_a0 (by decide) rfl q_733 q_735 q_p1 q_1 q_736 cd_X8_requireCell ⟨(Nat.le_of_ble_eq_true rfl), (Nat.le_of_ble_eq_true rfl)⟩ rfl rfl (As := [.int x1]) (rest := []) rfl rfl (Nat.le_of_ble_eq_true rfl) dX8_throwAt_2 ⟨by show cells + 1 ≤ 4; omega, by show slots + 6 ≤ 24; omega⟩) (kx_out C hex (fun _ _ _ h => h) (by omega) (by omega)) (fun S1 H locs P hE hw => ?_)
  have p_a0 : pI S1 8 a0 := pI_x hE p_a0
  refine lv_aload_n hx hb dX8_throwAt_5 rfl (lv_at hl 0 rfl) ?_
  refine cl_q C P (run_V C P hl.1 (kd := 8) (met_X8_requireTurn (CF_n C) G H.size _ _ S1 a0 p_a0 hw) p_a0 (by decide) rfl q_898 q_900 q_p9 q_1 q_901 cd_X8_requireTurn ⟨(Nat.le_of_ble_eq_true rfl), (Nat.le_of_ble_eq_true rfl)⟩ rfl rfl (As := []) (rest := []) rfl rfl (Nat.le_of_ble_eq_true rfl) dX8_throwAt_6 ⟨by show cells + 1 + 1 ≤ 4; omega, by show slots + 6 + 6 ≤ 24; omega⟩) (kx_out C hex (fun _ _ _ h => h) (by omega) (by omega)) (fun r3 S2 H locs P hE hw hR => ?_)
  have p_a0 : pI S2 8 a0 := pI_x hE p_a0
  obtain ⟨a4, rfl, hw⟩ := hw
  have p_a4 : pI S2 7 a4 := hR a4 rfl
  refine lv_astore_n (lv' := [(2, .ref a4), (0, .ref a0), (1, .int x1)]) hx hb dX8_throwAt_9 rfl hl (by decide) rfl (fun ls hl => ?_)
  refine lv_aload_n hx hb dX8_throwAt_10 rfl (lv_at hl 1 rfl) ?_
  refine cl_v C P (run_V C P hl.1 (kd := 8) (met_X8_requireActions (CF_n C) G H.size _ _ S2 a0 p_a0 hw) p_a0 (by decide) rfl q_1030 q_1032 q_p16 q_1 q_1033 cd_X8_requireActions ⟨(Nat.le_of_ble_eq_true rfl), (Nat.le_of_ble_eq_true rfl)⟩ rfl rfl (As := []) (rest := []) rfl rfl (Nat.le_of_ble_eq_true rfl) dX8_throwAt_11 ⟨by show cells + 1 + 1 + 1 ≤ 4; omega, by show slots + 6 + 6 + 6 ≤ 24; omega⟩) (kx_out C hex (fun _ _ _ h => h) (by omega) (by omega)) (fun S5 H locs P hE hw => ?_)
  have p_a0 : pI S5 8 a0 := pI_x hE p_a0
  have p_a4 : pI S5 7 a4 := pI_x hE p_a4
  refine lv_aload_n hx hb dX8_throwAt_14 rfl (lv_at hl 0 rfl) ?_
  refine gf_7_7 C P p_a4 q_117 dX8_throwAt_15 ?_
  refine lv_iconst (v := 1) hx hb dX8_throwAt_18 (by decide) ?_
  refine lv_icmp_ge (tgt := 33) hx hb dX8_throwAt_19 (by decide) (fun hc => ?_) (fun hc => ?_)
  · have hw := hw.1 hc
    refine lv_aload_n hx hb dX8_throwAt_33 rfl (lv_at hl 1 rfl) ?_
    obtain ⟨a6, e1, hw⟩ := hw
    have p_a6 : pI S5 2 a6 := wf_r P.2.2.2.1 p_a0 e1
    refine gf_8_3 C P p_a0 e1 q_302 dX8_throwAt_34 ?_
    refine lv_aload_n hx hb dX8_throwAt_37 rfl (lv_at hl 0 rfl) ?_
    refine lv_iload_n hx hb dX8_throwAt_38 rfl (lv_at hl 2 rfl) ?_
    refine cl_i C P (run_V C P hl.1 (kd := 2) (met_X2_canHurl (CF_n C) G H.size _ _ S5 a6 a4 x1 p_a6 p_a4 hw) p_a6 (by decide) rfl q_1096 q_1097 q_1098 q_2 q_1099 cd_X2_canHurl ⟨(Nat.le_of_ble_eq_true rfl), (Nat.le_of_ble_eq_true rfl)⟩ rfl rfl (As := [.ref a4, .int x1]) (rest := []) rfl rfl (Nat.le_of_ble_eq_true rfl) dX8_throwAt_39 ⟨by show cells + 1 + 1 + 1 + 0 ≤ 4; omega, by show slots + 6 + 6 + 6 + 0 ≤ 24; omega⟩) (kx_out C hex (fun _ _ _ h => h) (by omega) (by omega)) (fun r8 S7 H locs P hE hw => ?_)
    have p_a0 : pI S7 8 a0 := pI_x hE p_a0
    have p_a4 : pI S7 7 a4 := pI_x hE p_a4
    have p_a6 : pI S7 2 a6 := pI_x hE p_a6
    refine lv_if_ne (tgt := 56) hx hb dX8_throwAt_42 (by decide) (fun hc => ?_) (fun hc => ?_)
    · have hw := hw.1 hc
      refine lv_aload_n hx hb dX8_throwAt_56 rfl (lv_at hl 1 rfl) ?_
      refine lv_iconst (v := 2) hx hb dX8_throwAt_57 (by decide) ?_
      refine lv_iload_n hx hb dX8_throwAt_58 rfl (lv_at hl 2 rfl) ?_
      refine cl_v C P (run_V C P hl.1 (kd := 8) (met_X8_remember (CF_n C) G H.size _ _ S7 a0 2 x1 p_a0 hw) p_a0 (by decide) rfl q_1038 q_1040 q_p17 q_1 q_1041 cd_X8_remember ⟨(Nat.le_of_ble_eq_true rfl), (Nat.le_of_ble_eq_true rfl)⟩ rfl rfl (As := [.int 2, .int x1]) (rest := []) rfl rfl (Nat.le_of_ble_eq_true rfl) dX8_throwAt_59 ⟨by show cells + 1 + 1 + 1 + 0 ≤ 4; omega, by show slots + 6 + 6 + 6 + 0 ≤ 24; omega⟩) (kx_out C hex (fun _ _ _ h => h) (by omega) (by omega)) (fun S9 H locs P hE hw => ?_)
      have p_a0 : pI S9 8 a0 := pI_x hE p_a0
      refine lv_aload_n hx hb dX8_throwAt_62 rfl (lv_at hl 1 rfl) ?_
      obtain ⟨a10, e1, hw⟩ := hw
      have p_a10 : pI S9 2 a10 := wf_r P.2.2.2.1 p_a0 e1
      refine gf_8_3 C P p_a0 e1 q_302 dX8_throwAt_63 ?_
      refine lv_iload_n hx hb dX8_throwAt_66 rfl (lv_at hl 2 rfl) ?_
      refine cl_i C P (run_V C P hl.1 (kd := 2) (met_X2_hurl (CF_n C) G H.size _ _ S9 a10 x1 p_a10 hw) p_a10 (by decide) rfl q_1101 q_1102 q_1103 q_2 q_1104 cd_X2_hurl ⟨(Nat.le_of_ble_eq_true rfl), (Nat.le_of_ble_eq_true rfl)⟩ rfl rfl (As := [.int x1]) (rest := []) rfl rfl (Nat.le_of_ble_eq_true rfl) dX8_throwAt_67 ⟨by show cells + 1 + 1 + 1 + 0 ≤ 4; omega, by show slots + 6 + 6 + 6 + 0 ≤ 24; omega⟩) (kx_out C hex (fun _ _ _ h => h) (by omega) (by omega)) (fun r12 S11 H locs P hE hw => ?_)
      have p_a10 : pI S11 2 a10 := pI_x hE p_a10
      exact e_i C hr rfl P hw (by omega) (by omega) dX8_throwAt_70
    · have hw := hw.2 hc
      exact th_W C hex P hl.1 (E := "java/lang/IllegalArgumentException") (text := "no grenade can be thrown at this cell") (by decide +kernel) (by decide +kernel) (by decide +kernel) q_410 q_14 xw_IAE xb_IAE xg_IAE dX8_throwAt_45 dX8_throwAt_48 dX8_throwAt_49 dX8_throwAt_52 dX8_throwAt_55 (Nat.le_of_ble_eq_true rfl) (Nat.le_of_ble_eq_true rfl) (by show cells + 1 + 1 + 1 + 1 ≤ 4; omega) (by show slots + 6 + 6 + 6 + 6 ≤ 24; omega) hw (by omega) (by omega)
  · have hw := hw.2 hc
    exact th_W C hex P hl.1 (E := "java/lang/IllegalStateException") (text := "no grenades") (by decide +kernel) (by decide +kernel) (by decide +kernel) q_482 q_15 xw_ISE xb_ISE xg_ISE dX8_throwAt_22 dX8_throwAt_25 dX8_throwAt_26 dX8_throwAt_29 dX8_throwAt_32 (Nat.le_of_ble_eq_true rfl) (Nat.le_of_ble_eq_true rfl) (by show cells + 1 + 1 + 1 + 1 ≤ 4; omega) (by show slots + 6 + 6 + 6 + 6 ≤ 24; omega) hw (by omega) (by omega)
def wp_X8_throwAt (Q : Int32 → MS → Prop) (QX : String → MS → Prop) (S : MS) (a0 : Nat) (x1 : Int32) : Prop := wX8_throwAt_0 Q QX S a0 x1
set_option maxHeartbeats 4000000 in
set_option maxRecDepth 100000 in
theorem met_X8_throwAt {l : Launch} (hst : l.stackTraces = false) (G : GP) (sz : Nat) (Q : Int32 → MS → Prop) (QX : String → MS → Prop) (S : MS) (a0 : Nat) (x1 : Int32) (p_a0 : pI S 8 a0) (hw : wp_X8_throwAt Q QX S a0 x1) : vx_Met l yX8_throwAt (.code yX8_throwAt cX8_throwAt 3 (some .int) :: GW) rmX8_throwAt (va_Pc [.ref a0, .int x1] (PR G S sz)) (QI G S (FA G S sz) Q) (XX G S (FA G S sz) QX) 4 24 (FA G S sz) := by
  refine st_m (by decide +kernel) hst (fun p e s m below meth c C hr hnm hex P => ?_)
  refine en_m (Nat.le_of_ble_eq_true rfl) (lv := [(0, .ref a0), (1, .int x1)]) rfl (fun ls hl => ?_)
  have C : CF p l s m _ meth c "SkirmishGrid" cX8_throwAt 3 G (FA G S sz) := C
  exact tX8_throwAt_0 C hr hex Q QX S a0 x1 p_a0 P hl (by omega) (by omega) hw
theorem cd_X8_throwAt : yX8_throwAt.cls = RX8 ∧ yX8_throwAt.cls ≠ "java/lang/invoke/MethodHandle" ∧ yX8_throwAt.cls ≠ "java/lang/invoke/VarHandle" ∧ (parseMethodDescriptor yX8_throwAt.desc).map (fun d => d.parameters.length) = some 1 := by decide +kernel
abbrev rmX8_guard : Room := { frames := 7, cells := 3, slots := 18, locals := 146 }
def wX8_guard_0 (Q : Int32 → MS → Prop) (QX : String → MS → Prop) (S : MS) (a0 : Nat) : Prop := wp_X8_requireTurn (fun r2 S1 => (∃ a3, r2 = some a3 ∧ wp_X8_requireActions (fun S4 => (((mI S4 a3 11) = 0 → wp_X8_remember (fun S5 => (∃ a6, mR S5 a0 3 = some a6 ∧ wp_X2_startGuarding (fun r8 S7 => Q r8 S7) QX S5 a6)) QX S4 a0 3 0) ∧ (¬ (mI S4 a3 11) = 0 → QX "java/lang/IllegalStateException" S4))) QX S1 a0)) QX S a0
set_option maxHeartbeats 4000000 in
set_option maxRecDepth 100000 in
theorem tX8_guard_0 {p : Program} {l : Launch} {e : Env} {s : State} {m : MethodId} {args : Array Value} {below : List Frame} {meth : Method} {c : Code} {H : Heap} {locs : List Loc} {cells slots : Nat} {G : GP} {A : Nat → Prop} {S0 : MS} {ls : Array Slot} (C : CF p l s m args meth c "SkirmishGrid" cX8_guard 2 G A) (hr : meth.sig.returnType = (some .int)) (hex : ∀ x ∈ c.exceptionTable.toList, False) (Q : Int32 → MS → Prop) (QX : String → MS → Prop) (S : MS) (a0 : Nat) (p_a0 : pI S 8 a0) (P : PW G A s H locs S0 S) (hl : lv_has ls 2 [(0, .ref a0)]) (hcc : cells + 3 ≤ 3) (hss : slots + 18 ≤ 18) (hw : wX8_guard_0 Q QX S a0) : W p l e rmX8_guard s m args below meth c H locs cells slots (vx_MQ below (QI G S0 A Q) (XX G S0 A QX) args s 3 18 A) (F0 m 0 ls []) := by
  have hx := CF_x C
  have hb := CF_b C
  unfold wX8_guard_0 at hw
  refine lv_aload_n hx hb dX8_guard_0 rfl (lv_at hl 0 rfl) ?_
  refine cl_q C P (run_V C P hl.1 (kd := 8) (met_X8_requireTurn (CF_n C) G H.size _ _ S a0 p_a0 hw) p_a0 (by decide) rfl q_898 q_900 q_p9 q_1 q_901 cd_X8_requireTurn ⟨(Nat.le_of_ble_eq_true rfl), (Nat.le_of_ble_eq_true rfl)⟩ rfl rfl (As := []) (rest := []) rfl rfl (Nat.le_of_ble_eq_true rfl) dX8_guard_1 ⟨by show cells + 1 ≤ 3; omega, by show slots + 6 ≤ 18; omega⟩) (kx_out C hex (fun _ _ _ h => h) (by omega) (by omega)) (fun r2 S1 H locs P hE hw hR => ?_)
  have p_a0 : pI S1 8 a0 := pI_x hE p_a0
  obtain ⟨a3, rfl, hw⟩ := hw
  have p_a3 : pI S1 7 a3 := hR a3 rfl
  refine lv_astore_n (lv' := [(1, .ref a3), (0, .ref a0)]) hx hb dX8_guard_4 rfl hl (by decide) rfl (fun ls hl => ?_)
  refine lv_aload_n hx hb dX8_guard_5 rfl (lv_at hl 1 rfl) ?_
  refine cl_v C P (run_V C P hl.1 (kd := 8) (met_X8_requireActions (CF_n C) G H.size _ _ S1 a0 p_a0 hw) p_a0 (by decide) rfl q_1030 q_1032 q_p16 q_1 q_1033 cd_X8_requireActions ⟨(Nat.le_of_ble_eq_true rfl), (Nat.le_of_ble_eq_true rfl)⟩ rfl rfl (As := []) (rest := []) rfl rfl (Nat.le_of_ble_eq_true rfl) dX8_guard_6 ⟨by show cells + 1 + 1 ≤ 3; omega, by show slots + 6 + 6 ≤ 18; omega⟩) (kx_out C hex (fun _ _ _ h => h) (by omega) (by omega)) (fun S4 H locs P hE hw => ?_)
  have p_a0 : pI S4 8 a0 := pI_x hE p_a0
  have p_a3 : pI S4 7 a3 := pI_x hE p_a3
  refine lv_aload_n hx hb dX8_guard_9 rfl (lv_at hl 0 rfl) ?_
  refine gf_7_11 C P p_a3 q_129 dX8_guard_10 ?_
  refine lv_if_eq (tgt := 27) hx hb dX8_guard_13 (by decide) (fun hc => ?_) (fun hc => ?_)
  · have hw := hw.1 hc
    refine lv_aload_n hx hb dX8_guard_27 rfl (lv_at hl 1 rfl) ?_
    refine lv_iconst (v := 3) hx hb dX8_guard_28 (by decide) ?_
    refine lv_iconst (v := 0) hx hb dX8_guard_29 (by decide) ?_
    refine cl_v C P (run_V C P hl.1 (kd := 8) (met_X8_remember (CF_n C) G H.size _ _ S4 a0 3 0 p_a0 hw) p_a0 (by decide) rfl q_1038 q_1040 q_p17 q_1 q_1041 cd_X8_remember ⟨(Nat.le_of_ble_eq_true rfl), (Nat.le_of_ble_eq_true rfl)⟩ rfl rfl (As := [.int 3, .int 0]) (rest := []) rfl rfl (Nat.le_of_ble_eq_true rfl) dX8_guard_30 ⟨by show cells + 1 + 1 + 0 ≤ 3; omega, by show slots + 6 + 6 + 0 ≤ 18; omega⟩) (kx_out C hex (fun _ _ _ h => h) (by omega) (by omega)) (fun S5 H locs P hE hw => ?_)
    have p_a0 : pI S5 8 a0 := pI_x hE p_a0
    refine lv_aload_n hx hb dX8_guard_33 rfl (lv_at hl 1 rfl) ?_
    obtain ⟨a6, e1, hw⟩ := hw
    have p_a6 : pI S5 2 a6 := wf_r P.2.2.2.1 p_a0 e1
    refine gf_8_3 C P p_a0 e1 q_302 dX8_guard_34 ?_
    refine cl_i C P (run_V C P hl.1 (kd := 2) (met_X2_startGuarding (CF_n C) G H.size _ _ S5 a6 p_a6 hw) p_a6 (by decide) rfl q_1117 q_1118 q_1119 q_2 q_1120 cd_X2_startGuarding ⟨(Nat.le_of_ble_eq_true rfl), (Nat.le_of_ble_eq_true rfl)⟩ rfl rfl (As := []) (rest := []) rfl rfl (Nat.le_of_ble_eq_true rfl) dX8_guard_37 ⟨by show cells + 1 + 1 + 0 ≤ 3; omega, by show slots + 6 + 6 + 0 ≤ 18; omega⟩) (kx_out C hex (fun _ _ _ h => h) (by omega) (by omega)) (fun r8 S7 H locs P hE hw => ?_)
    have p_a6 : pI S7 2 a6 := pI_x hE p_a6
    exact e_i C hr rfl P hw (by omega) (by omega) dX8_guard_40
  · have hw := hw.2 hc
    exact th_W C hex P hl.1 (E := "java/lang/IllegalStateException") (text := "the unit guards already") (by decide +kernel) (by decide +kernel) (by decide +kernel) q_482 q_15 xw_ISE xb_ISE xg_ISE dX8_guard_16 dX8_guard_19 dX8_guard_20 dX8_guard_23 dX8_guard_26 (Nat.le_of_ble_eq_true rfl) (Nat.le_of_ble_eq_true rfl) (by show cells + 1 + 1 + 1 ≤ 3; omega) (by show slots + 6 + 6 + 6 ≤ 18; omega) hw (by omega) (by omega)
def wp_X8_guard (Q : Int32 → MS → Prop) (QX : String → MS → Prop) (S : MS) (a0 : Nat) : Prop := wX8_guard_0 Q QX S a0
set_option maxHeartbeats 4000000 in
set_option maxRecDepth 100000 in
theorem met_X8_guard {l : Launch} (hst : l.stackTraces = false) (G : GP) (sz : Nat) (Q : Int32 → MS → Prop) (QX : String → MS → Prop) (S : MS) (a0 : Nat) (p_a0 : pI S 8 a0) (hw : wp_X8_guard Q QX S a0) : vx_Met l yX8_guard (.code yX8_guard cX8_guard 2 (some .int) :: GW) rmX8_guard (va_Pc [.ref a0] (PR G S sz)) (QI G S (FA G S sz) Q) (XX G S (FA G S sz) QX) 3 18 (FA G S sz) := by
  refine st_m (by decide +kernel) hst (fun p e s m below meth c C hr hnm hex P => ?_)
  refine en_m (Nat.le_of_ble_eq_true rfl) (lv := [(0, .ref a0)]) rfl (fun ls hl => ?_)
  have C : CF p l s m _ meth c "SkirmishGrid" cX8_guard 2 G (FA G S sz) := C
  exact tX8_guard_0 C hr hex Q QX S a0 p_a0 P hl (by omega) (by omega) hw
theorem cd_X8_guard : yX8_guard.cls = RX8 ∧ yX8_guard.cls ≠ "java/lang/invoke/MethodHandle" ∧ yX8_guard.cls ≠ "java/lang/invoke/VarHandle" ∧ (parseMethodDescriptor yX8_guard.desc).map (fun d => d.parameters.length) = some 0 := by decide +kernel
abbrev rmX8_watch : Room := { frames := 7, cells := 3, slots := 18, locals := 146 }
def wX8_watch_0 (Q : Int32 → MS → Prop) (QX : String → MS → Prop) (S : MS) (a0 : Nat) : Prop := wp_X8_requireTurn (fun r2 S1 => (∃ a3, r2 = some a3 ∧ wp_X8_requireActions (fun S4 => wp_X8_requireAmmunition (fun S5 => wp_X8_remember (fun S6 => (∃ a7, mR S6 a0 3 = some a7 ∧ wp_X2_startWatching (fun r9 S8 => Q r9 S8) QX S6 a7)) QX S5 a0 4 0) QX S4 a3) QX S1 a0)) QX S a0
set_option maxHeartbeats 4000000 in
set_option maxRecDepth 100000 in
theorem tX8_watch_0 {p : Program} {l : Launch} {e : Env} {s : State} {m : MethodId} {args : Array Value} {below : List Frame} {meth : Method} {c : Code} {H : Heap} {locs : List Loc} {cells slots : Nat} {G : GP} {A : Nat → Prop} {S0 : MS} {ls : Array Slot} (C : CF p l s m args meth c "SkirmishGrid" cX8_watch 2 G A) (hr : meth.sig.returnType = (some .int)) (hex : ∀ x ∈ c.exceptionTable.toList, False) (Q : Int32 → MS → Prop) (QX : String → MS → Prop) (S : MS) (a0 : Nat) (p_a0 : pI S 8 a0) (P : PW G A s H locs S0 S) (hl : lv_has ls 2 [(0, .ref a0)]) (hcc : cells + 3 ≤ 3) (hss : slots + 18 ≤ 18) (hw : wX8_watch_0 Q QX S a0) : W p l e rmX8_watch s m args below meth c H locs cells slots (vx_MQ below (QI G S0 A Q) (XX G S0 A QX) args s 3 18 A) (F0 m 0 ls []) := by
  have hx := CF_x C
  have hb := CF_b C
  unfold wX8_watch_0 at hw
  refine lv_aload_n hx hb dX8_watch_0 rfl (lv_at hl 0 rfl) ?_
  refine cl_q C P (run_V C P hl.1 (kd := 8) (met_X8_requireTurn (CF_n C) G H.size _ _ S a0 p_a0 hw) p_a0 (by decide) rfl q_898 q_900 q_p9 q_1 q_901 cd_X8_requireTurn ⟨(Nat.le_of_ble_eq_true rfl), (Nat.le_of_ble_eq_true rfl)⟩ rfl rfl (As := []) (rest := []) rfl rfl (Nat.le_of_ble_eq_true rfl) dX8_watch_1 ⟨by show cells + 1 ≤ 3; omega, by show slots + 6 ≤ 18; omega⟩) (kx_out C hex (fun _ _ _ h => h) (by omega) (by omega)) (fun r2 S1 H locs P hE hw hR => ?_)
  have p_a0 : pI S1 8 a0 := pI_x hE p_a0
  obtain ⟨a3, rfl, hw⟩ := hw
  have p_a3 : pI S1 7 a3 := hR a3 rfl
  refine lv_astore_n (lv' := [(1, .ref a3), (0, .ref a0)]) hx hb dX8_watch_4 rfl hl (by decide) rfl (fun ls hl => ?_)
  refine lv_aload_n hx hb dX8_watch_5 rfl (lv_at hl 1 rfl) ?_
  refine cl_v C P (run_V C P hl.1 (kd := 8) (met_X8_requireActions (CF_n C) G H.size _ _ S1 a0 p_a0 hw) p_a0 (by decide) rfl q_1030 q_1032 q_p16 q_1 q_1033 cd_X8_requireActions ⟨(Nat.le_of_ble_eq_true rfl), (Nat.le_of_ble_eq_true rfl)⟩ rfl rfl (As := []) (rest := []) rfl rfl (Nat.le_of_ble_eq_true rfl) dX8_watch_6 ⟨by show cells + 1 + 1 ≤ 3; omega, by show slots + 6 + 6 ≤ 18; omega⟩) (kx_out C hex (fun _ _ _ h => h) (by omega) (by omega)) (fun S4 H locs P hE hw => ?_)
  have p_a0 : pI S4 8 a0 := pI_x hE p_a0
  have p_a3 : pI S4 7 a3 := pI_x hE p_a3
  refine lv_aload_n hx hb dX8_watch_9 rfl (lv_at hl 0 rfl) ?_
  refine cl_v C P (run_S C P hl.1 (met_X8_requireAmmunition (CF_n C) G H.size _ _ S4 a3 p_a3 hw) q_1079 q_1080 q_1 q_1081 cd_X8_requireAmmunition.2 ⟨(Nat.le_of_ble_eq_true rfl), (Nat.le_of_ble_eq_true rfl)⟩ rfl rfl (As := [.ref a3]) (rest := []) rfl rfl (Nat.le_of_ble_eq_true rfl) dX8_watch_10 ⟨by show cells + 1 + 1 + 1 ≤ 3; omega, by show slots + 6 + 6 + 6 ≤ 18; omega⟩) (kx_out C hex (fun _ _ _ h => h) (by omega) (by omega)) (fun S5 H locs P hE hw => ?_)
  have p_a0 : pI S5 8 a0 := pI_x hE p_a0
  have p_a3 : pI S5 7 a3 := pI_x hE p_a3
  refine lv_aload_n hx hb dX8_watch_13 rfl (lv_at hl 1 rfl) ?_
  refine lv_iconst (v := 4) hx hb dX8_watch_14 (by decide) ?_
  refine lv_iconst (v := 0) hx hb dX8_watch_15 (by decide) ?_
  refine cl_v C P (run_V C P hl.1 (kd := 8) (met_X8_remember (CF_n C) G H.size _ _ S5 a0 4 0 p_a0 hw) p_a0 (by decide) rfl q_1038 q_1040 q_p17 q_1 q_1041 cd_X8_remember ⟨(Nat.le_of_ble_eq_true rfl), (Nat.le_of_ble_eq_true rfl)⟩ rfl rfl (As := [.int 4, .int 0]) (rest := []) rfl rfl (Nat.le_of_ble_eq_true rfl) dX8_watch_16 ⟨by show cells + 1 + 1 + 1 + 0 ≤ 3; omega, by show slots + 6 + 6 + 6 + 0 ≤ 18; omega⟩) (kx_out C hex (fun _ _ _ h => h) (by omega) (by omega)) (fun S6 H locs P hE hw => ?_)
  have p_a0 : pI S6 8 a0 := pI_x hE p_a0
  refine lv_aload_n hx hb dX8_watch_19 rfl (lv_at hl 1 rfl) ?_
  obtain ⟨a7, e1, hw⟩ := hw
  have p_a7 : pI S6 2 a7 := wf_r P.2.2.2.1 p_a0 e1
  refine gf_8_3 C P p_a0 e1 q_302 dX8_watch_20 ?_
  refine cl_i C P (run_V C P hl.1 (kd := 2) (met_X2_startWatching (CF_n C) G H.size _ _ S6 a7 p_a7 hw) p_a7 (by decide) rfl q_1128 q_1129 q_1130 q_2 q_1131 cd_X2_startWatching ⟨(Nat.le_of_ble_eq_true rfl), (Nat.le_of_ble_eq_true rfl)⟩ rfl rfl (As := []) (rest := []) rfl rfl (Nat.le_of_ble_eq_true rfl) dX8_watch_23 ⟨by show cells + 1 + 1 + 1 + 0 ≤ 3; omega, by show slots + 6 + 6 + 6 + 0 ≤ 18; omega⟩) (kx_out C hex (fun _ _ _ h => h) (by omega) (by omega)) (fun r9 S8 H locs P hE hw => ?_)
  have p_a7 : pI S8 2 a7 := pI_x hE p_a7
  exact e_i C hr rfl P hw (by omega) (by omega) dX8_watch_26
def wp_X8_watch (Q : Int32 → MS → Prop) (QX : String → MS → Prop) (S : MS) (a0 : Nat) : Prop := wX8_watch_0 Q QX S a0
set_option maxHeartbeats 4000000 in
set_option maxRecDepth 100000 in
theorem met_X8_watch {l : Launch} (hst : l.stackTraces = false) (G : GP) (sz : Nat) (Q : Int32 → MS → Prop) (QX : String → MS → Prop) (S : MS) (a0 : Nat) (p_a0 : pI S 8 a0) (hw : wp_X8_watch Q QX S a0) : vx_Met l yX8_watch (.code yX8_watch cX8_watch 2 (some .int) :: GW) rmX8_watch (va_Pc [.ref a0] (PR G S sz)) (QI G S (FA G S sz) Q) (XX G S (FA G S sz) QX) 3 18 (FA G S sz) := by
  refine st_m (by decide +kernel) hst (fun p e s m below meth c C hr hnm hex P => ?_)
  refine en_m (Nat.le_of_ble_eq_true rfl) (lv := [(0, .ref a0)]) rfl (fun ls hl => ?_)
  have C : CF p l s m _ meth c "SkirmishGrid" cX8_watch 2 G (FA G S sz) := C
  exact tX8_watch_0 C hr hex Q QX S a0 p_a0 P hl (by omega) (by omega) hw
theorem cd_X8_watch : yX8_watch.cls = RX8 ∧ yX8_watch.cls ≠ "java/lang/invoke/MethodHandle" ∧ yX8_watch.cls ≠ "java/lang/invoke/VarHandle" ∧ (parseMethodDescriptor yX8_watch.desc).map (fun d => d.parameters.length) = some 0 := by decide +kernel
abbrev rmX8_reload : Room := { frames := 7, cells := 2, slots := 12, locals := 146 }
def wX8_reload_0 (Q : Int32 → MS → Prop) (QX : String → MS → Prop) (S : MS) (a0 : Nat) : Prop := wp_X8_requireTurn (fun r2 S1 => (∃ a3, r2 = some a3 ∧ wp_X8_requireActions (fun S4 => wp_X8_remember (fun S5 => (∃ a6, mR S5 a0 3 = some a6 ∧ wp_X2_refill (fun r8 S7 => Q r8 S7) QX S5 a6)) QX S4 a0 5 0) QX S1 a0)) QX S a0
set_option maxHeartbeats 4000000 in
set_option maxRecDepth 100000 in
theorem tX8_reload_0 {p : Program} {l : Launch} {e : Env} {s : State} {m : MethodId} {args : Array Value} {below : List Frame} {meth : Method} {c : Code} {H : Heap} {locs : List Loc} {cells slots : Nat} {G : GP} {A : Nat → Prop} {S0 : MS} {ls : Array Slot} (C : CF p l s m args meth c "SkirmishGrid" cX8_reload 1 G A) (hr : meth.sig.returnType = (some .int)) (hex : ∀ x ∈ c.exceptionTable.toList, False) (Q : Int32 → MS → Prop) (QX : String → MS → Prop) (S : MS) (a0 : Nat) (p_a0 : pI S 8 a0) (P : PW G A s H locs S0 S) (hl : lv_has ls 1 [(0, .ref a0)]) (hcc : cells + 2 ≤ 2) (hss : slots + 12 ≤ 12) (hw : wX8_reload_0 Q QX S a0) : W p l e rmX8_reload s m args below meth c H locs cells slots (vx_MQ below (QI G S0 A Q) (XX G S0 A QX) args s 2 12 A) (F0 m 0 ls []) := by
  have hx := CF_x C
  have hb := CF_b C
  unfold wX8_reload_0 at hw
  refine lv_aload_n hx hb dX8_reload_0 rfl (lv_at hl 0 rfl) ?_
  refine cl_q C P (run_V C P hl.1 (kd := 8) (met_X8_requireTurn (CF_n C) G H.size _ _ S a0 p_a0 hw) p_a0 (by decide) rfl q_898 q_900 q_p9 q_1 q_901 cd_X8_requireTurn ⟨(Nat.le_of_ble_eq_true rfl), (Nat.le_of_ble_eq_true rfl)⟩ rfl rfl (As := []) (rest := []) rfl rfl (Nat.le_of_ble_eq_true rfl) dX8_reload_1 ⟨by show cells + 1 ≤ 2; omega, by show slots + 6 ≤ 12; omega⟩) (kx_out C hex (fun _ _ _ h => h) (by omega) (by omega)) (fun r2 S1 H locs P hE hw hR => ?_)
  have p_a0 : pI S1 8 a0 := pI_x hE p_a0
  obtain ⟨a3, rfl, hw⟩ := hw
  have p_a3 : pI S1 7 a3 := hR a3 rfl
  refine lv_pop hx hb dX8_reload_4 rfl ?_
  refine lv_aload_n hx hb dX8_reload_5 rfl (lv_at hl 0 rfl) ?_
  refine cl_v C P (run_V C P hl.1 (kd := 8) (met_X8_requireActions (CF_n C) G H.size _ _ S1 a0 p_a0 hw) p_a0 (by decide) rfl q_1030 q_1032 q_p16 q_1 q_1033 cd_X8_requireActions ⟨(Nat.le_of_ble_eq_true rfl), (Nat.le_of_ble_eq_true rfl)⟩ rfl rfl (As := []) (rest := []) rfl rfl (Nat.le_of_ble_eq_true rfl) dX8_reload_6 ⟨by show cells + 1 + 1 ≤ 2; omega, by show slots + 6 + 6 ≤ 12; omega⟩) (kx_out C hex (fun _ _ _ h => h) (by omega) (by omega)) (fun S4 H locs P hE hw => ?_)
  have p_a0 : pI S4 8 a0 := pI_x hE p_a0
  refine lv_aload_n hx hb dX8_reload_9 rfl (lv_at hl 0 rfl) ?_
  refine lv_iconst (v := 5) hx hb dX8_reload_10 (by decide) ?_
  refine lv_iconst (v := 0) hx hb dX8_reload_11 (by decide) ?_
  refine cl_v C P (run_V C P hl.1 (kd := 8) (met_X8_remember (CF_n C) G H.size _ _ S4 a0 5 0 p_a0 hw) p_a0 (by decide) rfl q_1038 q_1040 q_p17 q_1 q_1041 cd_X8_remember ⟨(Nat.le_of_ble_eq_true rfl), (Nat.le_of_ble_eq_true rfl)⟩ rfl rfl (As := [.int 5, .int 0]) (rest := []) rfl rfl (Nat.le_of_ble_eq_true rfl) dX8_reload_12 ⟨by show cells + 1 + 1 + 0 ≤ 2; omega, by show slots + 6 + 6 + 0 ≤ 12; omega⟩) (kx_out C hex (fun _ _ _ h => h) (by omega) (by omega)) (fun S5 H locs P hE hw => ?_)
  have p_a0 : pI S5 8 a0 := pI_x hE p_a0
  refine lv_aload_n hx hb dX8_reload_15 rfl (lv_at hl 0 rfl) ?_
  obtain ⟨a6, e1, hw⟩ := hw
  have p_a6 : pI S5 2 a6 := wf_r P.2.2.2.1 p_a0 e1
  refine gf_8_3 C P p_a0 e1 q_302 dX8_reload_16 ?_
  refine cl_i C P (run_V C P hl.1 (kd := 2) (met_X2_refill (CF_n C) G H.size _ _ S5 a6 p_a6 hw) p_a6 (by decide) rfl q_1139 q_1140 q_1141 q_2 q_1142 cd_X2_refill ⟨(Nat.le_of_ble_eq_true rfl), (Nat.le_of_ble_eq_true rfl)⟩ rfl rfl (As := []) (rest := []) rfl rfl (Nat.le_of_ble_eq_true rfl) dX8_reload_19 ⟨by show cells + 1 + 1 + 0 ≤ 2; omega, by show slots + 6 + 6 + 0 ≤ 12; omega⟩) (kx_out C hex (fun _ _ _ h => h) (by omega) (by omega)) (fun r8 S7 H locs P hE hw => ?_)
  have p_a6 : pI S7 2 a6 := pI_x hE p_a6
  exact e_i C hr rfl P hw (by omega) (by omega) dX8_reload_22
def wp_X8_reload (Q : Int32 → MS → Prop) (QX : String → MS → Prop) (S : MS) (a0 : Nat) : Prop := wX8_reload_0 Q QX S a0
set_option maxHeartbeats 4000000 in
set_option maxRecDepth 100000 in
theorem met_X8_reload {l : Launch} (hst : l.stackTraces = false) (G : GP) (sz : Nat) (Q : Int32 → MS → Prop) (QX : String → MS → Prop) (S : MS) (a0 : Nat) (p_a0 : pI S 8 a0) (hw : wp_X8_reload Q QX S a0) : vx_Met l yX8_reload (.code yX8_reload cX8_reload 1 (some .int) :: GW) rmX8_reload (va_Pc [.ref a0] (PR G S sz)) (QI G S (FA G S sz) Q) (XX G S (FA G S sz) QX) 2 12 (FA G S sz) := by
  refine st_m (by decide +kernel) hst (fun p e s m below meth c C hr hnm hex P => ?_)
  refine en_m (Nat.le_of_ble_eq_true rfl) (lv := [(0, .ref a0)]) rfl (fun ls hl => ?_)
  have C : CF p l s m _ meth c "SkirmishGrid" cX8_reload 1 G (FA G S sz) := C
  exact tX8_reload_0 C hr hex Q QX S a0 p_a0 P hl (by omega) (by omega) hw
theorem cd_X8_reload : yX8_reload.cls = RX8 ∧ yX8_reload.cls ≠ "java/lang/invoke/MethodHandle" ∧ yX8_reload.cls ≠ "java/lang/invoke/VarHandle" ∧ (parseMethodDescriptor yX8_reload.desc).map (fun d => d.parameters.length) = some 0 := by decide +kernel
abbrev rmX8_endTurn : Room := { frames := 7, cells := 1, slots := 6, locals := 147 }
def wX8_endTurn_0 (Q : Int32 → MS → Prop) (QX : String → MS → Prop) (S : MS) (a0 : Nat) : Prop := wp_X8_requireTurn (fun r2 S1 => (∃ a3, r2 = some a3 ∧ wp_X8_remember (fun S4 => (∃ a5, mR S4 a0 3 = some a5 ∧ wp_X2_finishTurn (fun r7 S6 => Q r7 S6) QX S4 a5)) QX S1 a0 6 0)) QX S a0
set_option maxHeartbeats 4000000 in
set_option maxRecDepth 100000 in
theorem tX8_endTurn_0 {p : Program} {l : Launch} {e : Env} {s : State} {m : MethodId} {args : Array Value} {below : List Frame} {meth : Method} {c : Code} {H : Heap} {locs : List Loc} {cells slots : Nat} {G : GP} {A : Nat → Prop} {S0 : MS} {ls : Array Slot} (C : CF p l s m args meth c "SkirmishGrid" cX8_endTurn 1 G A) (hr : meth.sig.returnType = (some .int)) (hex : ∀ x ∈ c.exceptionTable.toList, False) (Q : Int32 → MS → Prop) (QX : String → MS → Prop) (S : MS) (a0 : Nat) (p_a0 : pI S 8 a0) (P : PW G A s H locs S0 S) (hl : lv_has ls 1 [(0, .ref a0)]) (hcc : cells + 1 ≤ 1) (hss : slots + 6 ≤ 6) (hw : wX8_endTurn_0 Q QX S a0) : W p l e rmX8_endTurn s m args below meth c H locs cells slots (vx_MQ below (QI G S0 A Q) (XX G S0 A QX) args s 1 6 A) (F0 m 0 ls []) := by
  have hx := CF_x C
  have hb := CF_b C
  unfold wX8_endTurn_0 at hw
  refine lv_aload_n hx hb dX8_endTurn_0 rfl (lv_at hl 0 rfl) ?_
  refine cl_q C P (run_V C P hl.1 (kd := 8) (met_X8_requireTurn (CF_n C) G H.size _ _ S a0 p_a0 hw) p_a0 (by decide) rfl q_898 q_900 q_p9 q_1 q_901 cd_X8_requireTurn ⟨(Nat.le_of_ble_eq_true rfl), (Nat.le_of_ble_eq_true rfl)⟩ rfl rfl (As := []) (rest := []) rfl rfl (Nat.le_of_ble_eq_true rfl) dX8_endTurn_1 ⟨by show cells + 1 ≤ 1; omega, by show slots + 6 ≤ 6; omega⟩) (kx_out C hex (fun _ _ _ h => h) (by omega) (by omega)) (fun r2 S1 H locs P hE hw hR => ?_)
  have p_a0 : pI S1 8 a0 := pI_x hE p_a0
  obtain ⟨a3, rfl, hw⟩ := hw
  have p_a3 : pI S1 7 a3 := hR a3 rfl
  refine lv_pop hx hb dX8_endTurn_4 rfl ?_
  refine lv_aload_n hx hb dX8_endTurn_5 rfl (lv_at hl 0 rfl) ?_
  refine lv_bipush (v := 6) hx hb dX8_endTurn_6 (by decide) ?_
  refine lv_iconst (v := 0) hx hb dX8_endTurn_8 (by decide) ?_
  refine cl_v C P (run_V C P hl.1 (kd := 8) (met_X8_remember (CF_n C) G H.size _ _ S1 a0 6 0 p_a0 hw) p_a0 (by decide) rfl q_1038 q_1040 q_p17 q_1 q_1041 cd_X8_remember ⟨(Nat.le_of_ble_eq_true rfl), (Nat.le_of_ble_eq_true rfl)⟩ rfl rfl (As := [.int 6, .int 0]) (rest := []) rfl rfl (Nat.le_of_ble_eq_true rfl) dX8_endTurn_9 ⟨by show cells + 1 + 0 ≤ 1; omega, by show slots + 6 + 0 ≤ 6; omega⟩) (kx_out C hex (fun _ _ _ h => h) (by omega) (by omega)) (fun S4 H locs P hE hw => ?_)
  have p_a0 : pI S4 8 a0 := pI_x hE p_a0
  refine lv_aload_n hx hb dX8_endTurn_12 rfl (lv_at hl 0 rfl) ?_
  obtain ⟨a5, e1, hw⟩ := hw
  have p_a5 : pI S4 2 a5 := wf_r P.2.2.2.1 p_a0 e1
  refine gf_8_3 C P p_a0 e1 q_302 dX8_endTurn_13 ?_
  refine cl_i C P (run_V C P hl.1 (kd := 2) (met_X2_finishTurn (CF_n C) G H.size _ _ S4 a5 p_a5 hw) p_a5 (by decide) rfl q_1151 q_1152 q_1153 q_2 q_1154 cd_X2_finishTurn ⟨(Nat.le_of_ble_eq_true rfl), (Nat.le_of_ble_eq_true rfl)⟩ rfl rfl (As := []) (rest := []) rfl rfl (Nat.le_of_ble_eq_true rfl) dX8_endTurn_16 ⟨by show cells + 1 + 0 ≤ 1; omega, by show slots + 6 + 0 ≤ 6; omega⟩) (kx_out C hex (fun _ _ _ h => h) (by omega) (by omega)) (fun r7 S6 H locs P hE hw => ?_)
  have p_a5 : pI S6 2 a5 := pI_x hE p_a5
  exact e_i C hr rfl P hw (by omega) (by omega) dX8_endTurn_19
def wp_X8_endTurn (Q : Int32 → MS → Prop) (QX : String → MS → Prop) (S : MS) (a0 : Nat) : Prop := wX8_endTurn_0 Q QX S a0
set_option maxHeartbeats 4000000 in
set_option maxRecDepth 100000 in
theorem met_X8_endTurn {l : Launch} (hst : l.stackTraces = false) (G : GP) (sz : Nat) (Q : Int32 → MS → Prop) (QX : String → MS → Prop) (S : MS) (a0 : Nat) (p_a0 : pI S 8 a0) (hw : wp_X8_endTurn Q QX S a0) : vx_Met l yX8_endTurn (.code yX8_endTurn cX8_endTurn 1 (some .int) :: GW) rmX8_endTurn (va_Pc [.ref a0] (PR G S sz)) (QI G S (FA G S sz) Q) (XX G S (FA G S sz) QX) 1 6 (FA G S sz) := by
  refine st_m (by decide +kernel) hst (fun p e s m below meth c C hr hnm hex P => ?_)
  refine en_m (Nat.le_of_ble_eq_true rfl) (lv := [(0, .ref a0)]) rfl (fun ls hl => ?_)
  have C : CF p l s m _ meth c "SkirmishGrid" cX8_endTurn 1 G (FA G S sz) := C
  exact tX8_endTurn_0 C hr hex Q QX S a0 p_a0 P hl (by omega) (by omega) hw
theorem cd_X8_endTurn : yX8_endTurn.cls = RX8 ∧ yX8_endTurn.cls ≠ "java/lang/invoke/MethodHandle" ∧ yX8_endTurn.cls ≠ "java/lang/invoke/VarHandle" ∧ (parseMethodDescriptor yX8_endTurn.desc).map (fun d => d.parameters.length) = some 0 := by decide +kernel
abbrev rmX8_eventCount : Room := { frames := 0, cells := 0, slots := 0, locals := 0 }
def wX8_eventCount_0 (Q : Int32 → MS → Prop) (QX : String → MS → Prop) (S : MS) (a0 : Nat) : Prop := (∃ a1, mR S a0 3 = some a1 ∧ (∃ a2, mR S a1 11 = some a2 ∧ Q (mI S a2 3) S))
set_option maxHeartbeats 4000000 in
set_option maxRecDepth 100000 in
theorem tX8_eventCount_0 {p : Program} {l : Launch} {e : Env} {s : State} {m : MethodId} {args : Array Value} {below : List Frame} {meth : Method} {c : Code} {H : Heap} {locs : List Loc} {cells slots : Nat} {G : GP} {A : Nat → Prop} {S0 : MS} {ls : Array Slot} (C : CF p l s m args meth c "SkirmishGrid" cX8_eventCount 1 G A) (hr : meth.sig.returnType = (some .int)) (hex : ∀ x ∈ c.exceptionTable.toList, False) (Q : Int32 → MS → Prop) (QX : String → MS → Prop) (S : MS) (a0 : Nat) (p_a0 : pI S 8 a0) (P : PW G A s H locs S0 S) (hl : lv_has ls 1 [(0, .ref a0)]) (hcc : cells + 0 ≤ 0) (hss : slots + 0 ≤ 0) (hw : wX8_eventCount_0 Q QX S a0) : W p l e rmX8_eventCount s m args below meth c H locs cells slots (vx_MQ below (QI G S0 A Q) (XX G S0 A QX) args s 0 0 A) (F0 m 0 ls []) := by
  have hx := CF_x C
  have hb := CF_b C
  unfold wX8_eventCount_0 at hw
  refine lv_aload_n hx hb dX8_eventCount_0 rfl (lv_at hl 0 rfl) ?_
  obtain ⟨a1, e1, hw⟩ := hw
  have p_a1 : pI S 2 a1 := wf_r P.2.2.2.1 p_a0 e1
  refine gf_8_3 C P p_a0 e1 q_302 dX8_eventCount_1 ?_
  obtain ⟨a2, e1, hw⟩ := hw
  have p_a2 : pI S 1 a2 := wf_r P.2.2.2.1 p_a1 e1
  refine gf_2_11 C P p_a1 e1 q_186 dX8_eventCount_4 ?_
  refine gf_1_3 C P p_a2 q_79 dX8_eventCount_7 ?_
  exact e_i C hr rfl P hw (by omega) (by omega) dX8_eventCount_10
def wp_X8_eventCount (Q : Int32 → MS → Prop) (QX : String → MS → Prop) (S : MS) (a0 : Nat) : Prop := wX8_eventCount_0 Q QX S a0
set_option maxHeartbeats 4000000 in
set_option maxRecDepth 100000 in
theorem met_X8_eventCount {l : Launch} (hst : l.stackTraces = false) (G : GP) (sz : Nat) (Q : Int32 → MS → Prop) (QX : String → MS → Prop) (S : MS) (a0 : Nat) (p_a0 : pI S 8 a0) (hw : wp_X8_eventCount Q QX S a0) : vx_Met l yX8_eventCount (.code yX8_eventCount cX8_eventCount 1 (some .int) :: GW) rmX8_eventCount (va_Pc [.ref a0] (PR G S sz)) (QI G S (FA G S sz) Q) (XX G S (FA G S sz) QX) 0 0 (FA G S sz) := by
  refine st_m (by decide +kernel) hst (fun p e s m below meth c C hr hnm hex P => ?_)
  refine en_m (Nat.le_of_ble_eq_true rfl) (lv := [(0, .ref a0)]) rfl (fun ls hl => ?_)
  have C : CF p l s m _ meth c "SkirmishGrid" cX8_eventCount 1 G (FA G S sz) := C
  exact tX8_eventCount_0 C hr hex Q QX S a0 p_a0 P hl (by omega) (by omega) hw
theorem cd_X8_eventCount : yX8_eventCount.cls = RX8 ∧ yX8_eventCount.cls ≠ "java/lang/invoke/MethodHandle" ∧ yX8_eventCount.cls ≠ "java/lang/invoke/VarHandle" ∧ (parseMethodDescriptor yX8_eventCount.desc).map (fun d => d.parameters.length) = some 0 := by decide +kernel
abbrev rmX8_event : Room := { frames := 6, cells := 1, slots := 6, locals := 110 }
def wX8_event_27 (Q : Int32 → MS → Prop) (QX : String → MS → Prop) (S : MS) : Prop := QX "java/lang/IndexOutOfBoundsException" S
set_option maxHeartbeats 4000000 in
set_option maxRecDepth 100000 in
theorem tX8_event_27 {p : Program} {l : Launch} {e : Env} {s : State} {m : MethodId} {args : Array Value} {below : List Frame} {meth : Method} {c : Code} {H : Heap} {locs : List Loc} {cells slots : Nat} {G : GP} {A : Nat → Prop} {S0 : MS} {ls : Array Slot} (C : CF p l s m args meth c "SkirmishGrid" cX8_event 3 G A) (hr : meth.sig.returnType = (some .int)) (hex : ∀ x ∈ c.exceptionTable.toList, False) (Q : Int32 → MS → Prop) (QX : String → MS → Prop) (S : MS) (P : PW G A s H locs S0 S) (hl : lv_has ls 3 []) (hcc : cells + 1 ≤ 1) (hss : slots + 6 ≤ 6) (hw : wX8_event_27 Q QX S) : W p l e rmX8_event s m args below meth c H locs cells slots (vx_MQ below (QI G S0 A Q) (XX G S0 A QX) args s 1 6 A) (F0 m 27 ls []) := by
  have hx := CF_x C
  have hb := CF_b C
  unfold wX8_event_27 at hw
  exact th_W C hex P hl.1 (E := "java/lang/IndexOutOfBoundsException") (text := "no such event or column") (by decide +kernel) (by decide +kernel) (by decide +kernel) q_688 q_24 xw_IOB xb_IOB xg_IOB dX8_event_27 dX8_event_30 dX8_event_31 dX8_event_34 dX8_event_37 (Nat.le_of_ble_eq_true rfl) (Nat.le_of_ble_eq_true rfl) (by show cells + 1 ≤ 1; omega) (by show slots + 6 ≤ 6; omega) hw (by omega) (by omega)
def wX8_event_0 (Q : Int32 → MS → Prop) (QX : String → MS → Prop) (S : MS) (a0 : Nat) (x1 : Int32) (x2 : Int32) : Prop := ((x1 < 0 → wX8_event_27 Q QX S) ∧ (¬ x1 < 0 → (∃ a1, mR S a0 3 = some a1 ∧ (∃ a2, mR S a1 11 = some a2 ∧ (((mI S a2 3) ≤ x1 → wX8_event_27 Q QX S) ∧ (¬ (mI S a2 3) ≤ x1 → ((x2 < 0 → wX8_event_27 Q QX S) ∧ (¬ x2 < 0 → ((x2 ≤ 2 → (∃ a3, mR S a0 3 = some a3 ∧ (∃ a4, mR S a3 11 = some a4 ∧ wp_X1_valueAt (fun r6 S5 => Q r6 S5) QX S a4 x1 x2))) ∧ (¬ x2 ≤ 2 → wX8_event_27 Q QX S))))))))))
set_option maxHeartbeats 4000000 in
set_option maxRecDepth 100000 in
theorem tX8_event_0 {p : Program} {l : Launch} {e : Env} {s : State} {m : MethodId} {args : Array Value} {below : List Frame} {meth : Method} {c : Code} {H : Heap} {locs : List Loc} {cells slots : Nat} {G : GP} {A : Nat → Prop} {S0 : MS} {ls : Array Slot} (C : CF p l s m args meth c "SkirmishGrid" cX8_event 3 G A) (hr : meth.sig.returnType = (some .int)) (hex : ∀ x ∈ c.exceptionTable.toList, False) (Q : Int32 → MS → Prop) (QX : String → MS → Prop) (S : MS) (a0 : Nat) (x1 : Int32) (x2 : Int32) (p_a0 : pI S 8 a0) (P : PW G A s H locs S0 S) (hl : lv_has ls 3 [(0, .ref a0), (1, .int x1), (2, .int x2)]) (hcc : cells + 1 ≤ 1) (hss : slots + 6 ≤ 6) (hw : wX8_event_0 Q QX S a0 x1 x2) : W p l e rmX8_event s m args below meth c H locs cells slots (vx_MQ below (QI G S0 A Q) (XX G S0 A QX) args s 1 6 A) (F0 m 0 ls []) := by
  have hx := CF_x C
  have hb := CF_b C
  unfold wX8_event_0 at hw
  refine lv_iload_n hx hb dX8_event_0 rfl (lv_at hl 1 rfl) ?_
  refine lv_if_lt (tgt := 27) hx hb dX8_event_1 (by decide) (fun hc => ?_) (fun hc => ?_)
  · have hw := hw.1 hc
    exact tX8_event_27 C hr hex Q QX S P (lv_sub hl [] rfl) (by omega) (by omega) hw
  · have hw := hw.2 hc
    refine lv_iload_n hx hb dX8_event_4 rfl (lv_at hl 1 rfl) ?_
    refine lv_aload_n hx hb dX8_event_5 rfl (lv_at hl 0 rfl) ?_
    obtain ⟨a1, e1, hw⟩ := hw
    have p_a1 : pI S 2 a1 := wf_r P.2.2.2.1 p_a0 e1
    refine gf_8_3 C P p_a0 e1 q_302 dX8_event_6 ?_
    obtain ⟨a2, e1, hw⟩ := hw
    have p_a2 : pI S 1 a2 := wf_r P.2.2.2.1 p_a1 e1
    refine gf_2_11 C P p_a1 e1 q_186 dX8_event_9 ?_
    refine gf_1_3 C P p_a2 q_79 dX8_event_12 ?_
    refine lv_icmp_ge (tgt := 27) hx hb dX8_event_15 (by decide) (fun hc => ?_) (fun hc => ?_)
    · have hw := hw.1 hc
      exact tX8_event_27 C hr hex Q QX S P (lv_sub hl [] rfl) (by omega) (by omega) hw
    · have hw := hw.2 hc
      refine lv_iload_n hx hb dX8_event_18 rfl (lv_at hl 2 rfl) ?_
      refine lv_if_lt (tgt := 27) hx hb dX8_event_19 (by decide) (fun hc => ?_) (fun hc => ?_)
      · have hw := hw.1 hc
        exact tX8_event_27 C hr hex Q QX S P (lv_sub hl [] rfl) (by omega) (by omega) hw
      · have hw := hw.2 hc
        refine lv_iload_n hx hb dX8_event_22 rfl (lv_at hl 2 rfl) ?_
        refine lv_iconst (v := 2) hx hb dX8_event_23 (by decide) ?_
        refine lv_icmp_le (tgt := 38) hx hb dX8_event_24 (by decide) (fun hc => ?_) (fun hc => ?_)
        · have hw := hw.1 hc
          refine lv_aload_n hx hb dX8_event_38 rfl (lv_at hl 0 rfl) ?_
          obtain ⟨a3, e1, hw⟩ := hw
          have p_a3 : pI S 2 a3 := wf_r P.2.2.2.1 p_a0 e1
          refine gf_8_3 C P p_a0 e1 q_302 dX8_event_39 ?_
          obtain ⟨a4, e1, hw⟩ := hw
          have p_a4 : pI S 1 a4 := wf_r P.2.2.2.1 p_a3 e1
          refine gf_2_11 C P p_a3 e1 q_186 dX8_event_42 ?_
          refine lv_iload_n hx hb dX8_event_45 rfl (lv_at hl 1 rfl) ?_
          refine lv_iload_n hx hb dX8_event_46 rfl (lv_at hl 2 rfl) ?_
          refine cl_i C P (run_V C P hl.1 (kd := 1) (met_X1_valueAt (CF_n C) G H.size _ _ S a4 x1 x2 p_a4 hw) p_a4 (by decide) rfl q_1167 q_1168 q_1169 q_4 q_1170 cd_X1_valueAt ⟨(Nat.le_of_ble_eq_true rfl), (Nat.le_of_ble_eq_true rfl)⟩ rfl rfl (As := [.int x1, .int x2]) (rest := []) rfl rfl (Nat.le_of_ble_eq_true rfl) dX8_event_47 ⟨by show cells + 0 ≤ 1; omega, by show slots + 0 ≤ 6; omega⟩) (kx_out C hex (fun _ _ _ h => h) (by omega) (by omega)) (fun r6 S5 H locs P hE hw => ?_)
          have p_a4 : pI S5 1 a4 := pI_x hE p_a4
          exact e_i C hr rfl P hw (by omega) (by omega) dX8_event_50
        · have hw := hw.2 hc
          exact tX8_event_27 C hr hex Q QX S P (lv_sub hl [] rfl) (by omega) (by omega) hw
def wp_X8_event (Q : Int32 → MS → Prop) (QX : String → MS → Prop) (S : MS) (a0 : Nat) (x1 : Int32) (x2 : Int32) : Prop := wX8_event_0 Q QX S a0 x1 x2
set_option maxHeartbeats 4000000 in
set_option maxRecDepth 100000 in
theorem met_X8_event {l : Launch} (hst : l.stackTraces = false) (G : GP) (sz : Nat) (Q : Int32 → MS → Prop) (QX : String → MS → Prop) (S : MS) (a0 : Nat) (x1 : Int32) (x2 : Int32) (p_a0 : pI S 8 a0) (hw : wp_X8_event Q QX S a0 x1 x2) : vx_Met l yX8_event (.code yX8_event cX8_event 3 (some .int) :: GW) rmX8_event (va_Pc [.ref a0, .int x1, .int x2] (PR G S sz)) (QI G S (FA G S sz) Q) (XX G S (FA G S sz) QX) 1 6 (FA G S sz) := by
  refine st_m (by decide +kernel) hst (fun p e s m below meth c C hr hnm hex P => ?_)
  refine en_m (Nat.le_of_ble_eq_true rfl) (lv := [(0, .ref a0), (1, .int x1), (2, .int x2)]) rfl (fun ls hl => ?_)
  have C : CF p l s m _ meth c "SkirmishGrid" cX8_event 3 G (FA G S sz) := C
  exact tX8_event_0 C hr hex Q QX S a0 x1 x2 p_a0 P hl (by omega) (by omega) hw
theorem cd_X8_event : yX8_event.cls = RX8 ∧ yX8_event.cls ≠ "java/lang/invoke/MethodHandle" ∧ yX8_event.cls ≠ "java/lang/invoke/VarHandle" ∧ (parseMethodDescriptor yX8_event.desc).map (fun d => d.parameters.length) = some 2 := by decide +kernel
abbrev rmX8_commandCount : Room := { frames := 0, cells := 0, slots := 0, locals := 0 }
def wX8_commandCount_0 (Q : Int32 → MS → Prop) (QX : String → MS → Prop) (S : MS) (a0 : Nat) : Prop := (∃ a1, mR S a0 4 = some a1 ∧ Q (mI S a1 2) S)
set_option maxHeartbeats 4000000 in
set_option maxRecDepth 100000 in
theorem tX8_commandCount_0 {p : Program} {l : Launch} {e : Env} {s : State} {m : MethodId} {args : Array Value} {below : List Frame} {meth : Method} {c : Code} {H : Heap} {locs : List Loc} {cells slots : Nat} {G : GP} {A : Nat → Prop} {S0 : MS} {ls : Array Slot} (C : CF p l s m args meth c "SkirmishGrid" cX8_commandCount 1 G A) (hr : meth.sig.returnType = (some .int)) (hex : ∀ x ∈ c.exceptionTable.toList, False) (Q : Int32 → MS → Prop) (QX : String → MS → Prop) (S : MS) (a0 : Nat) (p_a0 : pI S 8 a0) (P : PW G A s H locs S0 S) (hl : lv_has ls 1 [(0, .ref a0)]) (hcc : cells + 0 ≤ 0) (hss : slots + 0 ≤ 0) (hw : wX8_commandCount_0 Q QX S a0) : W p l e rmX8_commandCount s m args below meth c H locs cells slots (vx_MQ below (QI G S0 A Q) (XX G S0 A QX) args s 0 0 A) (F0 m 0 ls []) := by
  have hx := CF_x C
  have hb := CF_b C
  unfold wX8_commandCount_0 at hw
  refine lv_aload_n hx hb dX8_commandCount_0 rfl (lv_at hl 0 rfl) ?_
  obtain ⟨a1, e1, hw⟩ := hw
  have p_a1 : pI S 0 a1 := wf_r P.2.2.2.1 p_a0 e1
  refine gf_8_4 C P p_a0 e1 q_303 dX8_commandCount_1 ?_
  refine gf_0_2 C P p_a1 q_223 dX8_commandCount_4 ?_
  exact e_i C hr rfl P hw (by omega) (by omega) dX8_commandCount_7
def wp_X8_commandCount (Q : Int32 → MS → Prop) (QX : String → MS → Prop) (S : MS) (a0 : Nat) : Prop := wX8_commandCount_0 Q QX S a0
set_option maxHeartbeats 4000000 in
set_option maxRecDepth 100000 in
theorem met_X8_commandCount {l : Launch} (hst : l.stackTraces = false) (G : GP) (sz : Nat) (Q : Int32 → MS → Prop) (QX : String → MS → Prop) (S : MS) (a0 : Nat) (p_a0 : pI S 8 a0) (hw : wp_X8_commandCount Q QX S a0) : vx_Met l yX8_commandCount (.code yX8_commandCount cX8_commandCount 1 (some .int) :: GW) rmX8_commandCount (va_Pc [.ref a0] (PR G S sz)) (QI G S (FA G S sz) Q) (XX G S (FA G S sz) QX) 0 0 (FA G S sz) := by
  refine st_m (by decide +kernel) hst (fun p e s m below meth c C hr hnm hex P => ?_)
  refine en_m (Nat.le_of_ble_eq_true rfl) (lv := [(0, .ref a0)]) rfl (fun ls hl => ?_)
  have C : CF p l s m _ meth c "SkirmishGrid" cX8_commandCount 1 G (FA G S sz) := C
  exact tX8_commandCount_0 C hr hex Q QX S a0 p_a0 P hl (by omega) (by omega) hw
theorem cd_X8_commandCount : yX8_commandCount.cls = RX8 ∧ yX8_commandCount.cls ≠ "java/lang/invoke/MethodHandle" ∧ yX8_commandCount.cls ≠ "java/lang/invoke/VarHandle" ∧ (parseMethodDescriptor yX8_commandCount.desc).map (fun d => d.parameters.length) = some 0 := by decide +kernel
abbrev rmX8_undo : Room := { frames := 6, cells := 1, slots := 6, locals := 124 }
def wX8_undo_0 (Q : Int32 → MS → Prop) (QX : String → MS → Prop) (S : MS) (a0 : Nat) : Prop := (∃ a1, mR S a0 5 = some a1 ∧ ((1 ≤ (mI S a1 2) → (∃ a2, mR S a0 5 = some a2 ∧ (∃ a3, mR S a0 3 = some a3 ∧ wp_X4_takeBack (fun S4 => (∃ a5, mR S4 a0 4 = some a5 ∧ wp_X0_dropLast (fun S6 => (∃ a7, mR S6 a0 5 = some a7 ∧ Q (mI S6 a7 2) S6)) QX S4 a5)) QX S a2 a3))) ∧ (¬ 1 ≤ (mI S a1 2) → QX "java/lang/IllegalStateException" S)))
set_option maxHeartbeats 4000000 in
set_option maxRecDepth 100000 in
theorem tX8_undo_0 {p : Program} {l : Launch} {e : Env} {s : State} {m : MethodId} {args : Array Value} {below : List Frame} {meth : Method} {c : Code} {H : Heap} {locs : List Loc} {cells slots : Nat} {G : GP} {A : Nat → Prop} {S0 : MS} {ls : Array Slot} (C : CF p l s m args meth c "SkirmishGrid" cX8_undo 1 G A) (hr : meth.sig.returnType = (some .int)) (hex : ∀ x ∈ c.exceptionTable.toList, False) (Q : Int32 → MS → Prop) (QX : String → MS → Prop) (S : MS) (a0 : Nat) (p_a0 : pI S 8 a0) (P : PW G A s H locs S0 S) (hl : lv_has ls 1 [(0, .ref a0)]) (hcc : cells + 1 ≤ 1) (hss : slots + 6 ≤ 6) (hw : wX8_undo_0 Q QX S a0) : W p l e rmX8_undo s m args below meth c H locs cells slots (vx_MQ below (QI G S0 A Q) (XX G S0 A QX) args s 1 6 A) (F0 m 0 ls []) := by
  have hx := CF_x C
  have hb := CF_b C
  unfold wX8_undo_0 at hw
  refine lv_aload_n hx hb dX8_undo_0 rfl (lv_at hl 0 rfl) ?_
  obtain ⟨a1, e1, hw⟩ := hw
  have p_a1 : pI S 4 a1 := wf_r P.2.2.2.1 p_a0 e1
  refine gf_8_5 C P p_a0 e1 q_304 dX8_undo_1 ?_
  refine gf_4_2 C P p_a1 q_243 dX8_undo_4 ?_
  refine lv_iconst (v := 1) hx hb dX8_undo_7 (by decide) ?_
  refine lv_icmp_ge (tgt := 22) hx hb dX8_undo_8 (by decide) (fun hc => ?_) (fun hc => ?_)
  · have hw := hw.1 hc
    refine lv_aload_n hx hb dX8_undo_22 rfl (lv_at hl 0 rfl) ?_
    obtain ⟨a2, e1, hw⟩ := hw
    have p_a2 : pI S 4 a2 := wf_r P.2.2.2.1 p_a0 e1
    refine gf_8_5 C P p_a0 e1 q_304 dX8_undo_23 ?_
    refine lv_aload_n hx hb dX8_undo_26 rfl (lv_at hl 0 rfl) ?_
    obtain ⟨a3, e1, hw⟩ := hw
    have p_a3 : pI S 2 a3 := wf_r P.2.2.2.1 p_a0 e1
    refine gf_8_3 C P p_a0 e1 q_302 dX8_undo_27 ?_
    refine cl_v C P (run_V C P hl.1 (kd := 4) (met_X4_takeBack (CF_n C) G H.size _ _ S a2 a3 p_a2 p_a3 hw) p_a2 (by decide) rfl q_1179 q_1180 q_1181 q_7 q_1182 cd_X4_takeBack ⟨(Nat.le_of_ble_eq_true rfl), (Nat.le_of_ble_eq_true rfl)⟩ rfl rfl (As := [.ref a3]) (rest := []) rfl rfl (Nat.le_of_ble_eq_true rfl) dX8_undo_30 ⟨by show cells + 0 ≤ 1; omega, by show slots + 0 ≤ 6; omega⟩) (kx_out C hex (fun _ _ _ h => h) (by omega) (by omega)) (fun S4 H locs P hE hw => ?_)
    have p_a0 : pI S4 8 a0 := pI_x hE p_a0
    have p_a2 : pI S4 4 a2 := pI_x hE p_a2
    have p_a3 : pI S4 2 a3 := pI_x hE p_a3
    refine lv_aload_n hx hb dX8_undo_33 rfl (lv_at hl 0 rfl) ?_
    obtain ⟨a5, e1, hw⟩ := hw
    have p_a5 : pI S4 0 a5 := wf_r P.2.2.2.1 p_a0 e1
    refine gf_8_4 C P p_a0 e1 q_303 dX8_undo_34 ?_
    refine cl_v C P (run_V C P hl.1 (kd := 0) (met_X0_dropLast (CF_n C) G H.size _ _ S4 a5 p_a5 hw) p_a5 (by decide) rfl q_1183 q_1184 q_1185 q_6 q_1186 cd_X0_dropLast ⟨(Nat.le_of_ble_eq_true rfl), (Nat.le_of_ble_eq_true rfl)⟩ rfl rfl (As := []) (rest := []) rfl rfl (Nat.le_of_ble_eq_true rfl) dX8_undo_37 ⟨by show cells + 0 ≤ 1; omega, by show slots + 0 ≤ 6; omega⟩) (kx_out C hex (fun _ _ _ h => h) (by omega) (by omega)) (fun S6 H locs P hE hw => ?_)
    have p_a0 : pI S6 8 a0 := pI_x hE p_a0
    have p_a5 : pI S6 0 a5 := pI_x hE p_a5
    refine lv_aload_n hx hb dX8_undo_40 rfl (lv_at hl 0 rfl) ?_
    obtain ⟨a7, e1, hw⟩ := hw
    have p_a7 : pI S6 4 a7 := wf_r P.2.2.2.1 p_a0 e1
    refine gf_8_5 C P p_a0 e1 q_304 dX8_undo_41 ?_
    refine gf_4_2 C P p_a7 q_243 dX8_undo_44 ?_
    exact e_i C hr rfl P hw (by omega) (by omega) dX8_undo_47
  · have hw := hw.2 hc
    exact th_W C hex P hl.1 (E := "java/lang/IllegalStateException") (text := "no command can be undone") (by decide +kernel) (by decide +kernel) (by decide +kernel) q_482 q_15 xw_ISE xb_ISE xg_ISE dX8_undo_11 dX8_undo_14 dX8_undo_15 dX8_undo_18 dX8_undo_21 (Nat.le_of_ble_eq_true rfl) (Nat.le_of_ble_eq_true rfl) (by show cells + 1 ≤ 1; omega) (by show slots + 6 ≤ 6; omega) hw (by omega) (by omega)
def wp_X8_undo (Q : Int32 → MS → Prop) (QX : String → MS → Prop) (S : MS) (a0 : Nat) : Prop := wX8_undo_0 Q QX S a0
set_option maxHeartbeats 4000000 in
set_option maxRecDepth 100000 in
theorem met_X8_undo {l : Launch} (hst : l.stackTraces = false) (G : GP) (sz : Nat) (Q : Int32 → MS → Prop) (QX : String → MS → Prop) (S : MS) (a0 : Nat) (p_a0 : pI S 8 a0) (hw : wp_X8_undo Q QX S a0) : vx_Met l yX8_undo (.code yX8_undo cX8_undo 1 (some .int) :: GW) rmX8_undo (va_Pc [.ref a0] (PR G S sz)) (QI G S (FA G S sz) Q) (XX G S (FA G S sz) QX) 1 6 (FA G S sz) := by
  refine st_m (by decide +kernel) hst (fun p e s m below meth c C hr hnm hex P => ?_)
  refine en_m (Nat.le_of_ble_eq_true rfl) (lv := [(0, .ref a0)]) rfl (fun ls hl => ?_)
  have C : CF p l s m _ meth c "SkirmishGrid" cX8_undo 1 G (FA G S sz) := C
  exact tX8_undo_0 C hr hex Q QX S a0 p_a0 P hl (by omega) (by omega) hw
theorem cd_X8_undo : yX8_undo.cls = RX8 ∧ yX8_undo.cls ≠ "java/lang/invoke/MethodHandle" ∧ yX8_undo.cls ≠ "java/lang/invoke/VarHandle" ∧ (parseMethodDescriptor yX8_undo.desc).map (fun d => d.parameters.length) = some 0 := by decide +kernel
abbrev rmX8_isReplayed : Room := { frames := 7, cells := 1, slots := 6, locals := 209 }
def wX8_isReplayed_95 (Q : Int32 → MS → Prop) (QX : String → MS → Prop) (S : MS) (a0 : Nat) : Prop := (∃ a1, mR S a0 9 = some a1 ∧ (∃ a2, mR S a0 3 = some a2 ∧ wp_X2_isSameAs (fun r4 S3 => (isZ r4 ∧ Q r4 S3)) QX S a1 a2))
set_option maxHeartbeats 4000000 in
set_option maxRecDepth 100000 in
theorem tX8_isReplayed_95 {p : Program} {l : Launch} {e : Env} {s : State} {m : MethodId} {args : Array Value} {below : List Frame} {meth : Method} {c : Code} {H : Heap} {locs : List Loc} {cells slots : Nat} {G : GP} {A : Nat → Prop} {S0 : MS} {ls : Array Slot} (C : CF p l s m args meth c "SkirmishGrid" cX8_isReplayed 2 G A) (hr : meth.sig.returnType = (some .boolean)) (hex : ∀ x ∈ c.exceptionTable.toList, False) (Q : Int32 → MS → Prop) (QX : String → MS → Prop) (S : MS) (a0 : Nat) (p_a0 : pI S 8 a0) (P : PW G A s H locs S0 S) (hl : lv_has ls 2 [(0, .ref a0)]) (hcc : cells + 0 ≤ 1) (hss : slots + 0 ≤ 6) (hw : wX8_isReplayed_95 Q QX S a0) : W p l e rmX8_isReplayed s m args below meth c H locs cells slots (vx_MQ below (QI G S0 A Q) (XX G S0 A QX) args s 1 6 A) (F0 m 95 ls []) := by
  have hx := CF_x C
  have hb := CF_b C
  unfold wX8_isReplayed_95 at hw
  refine lv_aload_n hx hb dX8_isReplayed_95 rfl (lv_at hl 0 rfl) ?_
  obtain ⟨a1, e1, hw⟩ := hw
  have p_a1 : pI S 2 a1 := wf_r P.2.2.2.1 p_a0 e1
  refine gf_8_9 C P p_a0 e1 q_308 dX8_isReplayed_96 ?_
  refine lv_aload_n hx hb dX8_isReplayed_99 rfl (lv_at hl 0 rfl) ?_
  obtain ⟨a2, e1, hw⟩ := hw
  have p_a2 : pI S 2 a2 := wf_r P.2.2.2.1 p_a0 e1
  refine gf_8_3 C P p_a0 e1 q_302 dX8_isReplayed_100 ?_
  refine cl_i C P (run_V C P hl.1 (kd := 2) (met_X2_isSameAs (CF_n C) G H.size _ _ S a1 a2 p_a1 p_a2 hw) p_a1 (by decide) rfl q_1212 q_1213 q_1214 q_2 q_1215 cd_X2_isSameAs ⟨(Nat.le_of_ble_eq_true rfl), (Nat.le_of_ble_eq_true rfl)⟩ rfl rfl (As := [.ref a2]) (rest := []) rfl rfl (Nat.le_of_ble_eq_true rfl) dX8_isReplayed_103 ⟨by show cells + 0 ≤ 1; omega, by show slots + 0 ≤ 6; omega⟩) (kx_out C hex (fun _ _ _ h => h) (by omega) (by omega)) (fun r4 S3 H locs P hE hw => ?_)
  have p_a1 : pI S3 2 a1 := pI_x hE p_a1
  have p_a2 : pI S3 2 a2 := pI_x hE p_a2
  obtain ⟨h1, hw⟩ := hw
  exact e_i C hr (nz h1) P hw (by omega) (by omega) dX8_isReplayed_106
def wX8_isReplayed_41 (Q : Int32 → MS → Prop) (QX : String → MS → Prop) (k41 : MS → Nat → Int32 → Prop) (S : MS) (a0 : Nat) (y1 : Int32) : Prop := (∃ a1, mR S a0 4 = some a1 ∧ (((mI S a1 2) ≤ y1 → wX8_isReplayed_95 Q QX S a0) ∧ (¬ (mI S a1 2) ≤ y1 → ((512 ≤ y1 → wX8_isReplayed_95 Q QX S a0) ∧ (¬ 512 ≤ y1 → (∃ a2, mR S a0 9 = some a2 ∧ (∃ a3, mR S a0 4 = some a3 ∧ (∃ a4, mR S a3 0 = some a4 ∧ (vp_in y1 (mN S a4) ∧ (∃ a5, mR S a0 4 = some a5 ∧ (∃ a6, mR S a5 1 = some a6 ∧ (vp_in y1 (mN S a6) ∧ (∃ a7, mR S a0 10 = some a7 ∧ wp_X2_carryOut (fun r9 S8 => k41 S8 a0 (y1 + 1)) QX S a2 (mI S a4 (y1 : Int32).toNatClampNeg) (mI S a6 (y1 : Int32).toNatClampNeg) a7)))))))))))))
set_option maxHeartbeats 4000000 in
set_option maxRecDepth 100000 in
theorem tX8_isReplayed_41 {p : Program} {l : Launch} {e : Env} {s : State} {m : MethodId} {args : Array Value} {below : List Frame} {meth : Method} {c : Code} {H : Heap} {locs : List Loc} {cells slots : Nat} {G : GP} {A : Nat → Prop} {S0 : MS} {ls : Array Slot} (C : CF p l s m args meth c "SkirmishGrid" cX8_isReplayed 2 G A) (hr : meth.sig.returnType = (some .boolean)) (hex : ∀ x ∈ c.exceptionTable.toList, False) (Q : Int32 → MS → Prop) (QX : String → MS → Prop) (k41 : MS → Nat → Int32 → Prop) (kh41 : ∀ (S : MS) (a0 : Nat) (y1 : Int32) (cells slots : Nat) (H : Heap) (locs : List Loc) (ls : Array Slot), pI S 8 a0 → PW G A s H locs S0 S → lv_has ls 2 [(0, .ref a0), (1, .int y1)] → cells + 0 ≤ 1 → slots + 0 ≤ 6 → k41 S a0 y1 → W p l e rmX8_isReplayed s m args below meth c H locs cells slots (vx_MQ below (QI G S0 A Q) (XX G S0 A QX) args s 1 6 A) (F0 m 41 ls [])) (S : MS) (a0 : Nat) (y1 : Int32) (p_a0 : pI S 8 a0) (P : PW G A s H locs S0 S) (hl : lv_has ls 2 [(0, .ref a0), (1, .int y1)]) (hcc : cells + 0 ≤ 1) (hss : slots + 0 ≤ 6) (hw : wX8_isReplayed_41 Q QX k41 S a0 y1) : W p l e rmX8_isReplayed s m args below meth c H locs cells slots (vx_MQ below (QI G S0 A Q) (XX G S0 A QX) args s 1 6 A) (F0 m 41 ls []) := by
  have hx := CF_x C
  have hb := CF_b C
  unfold wX8_isReplayed_41 at hw
  refine lv_iload_n hx hb dX8_isReplayed_41 rfl (lv_at hl 1 rfl) ?_
  refine lv_aload_n hx hb dX8_isReplayed_42 rfl (lv_at hl 0 rfl) ?_
  obtain ⟨a1, e1, hw⟩ := hw
  have p_a1 : pI S 0 a1 := wf_r P.2.2.2.1 p_a0 e1
  refine gf_8_4 C P p_a0 e1 q_303 dX8_isReplayed_43 ?_
  refine gf_0_2 C P p_a1 q_223 dX8_isReplayed_46 ?_
  refine lv_icmp_ge (tgt := 95) hx hb dX8_isReplayed_49 (by decide) (fun hc => ?_) (fun hc => ?_)
  · have hw := hw.1 hc
    exact tX8_isReplayed_95 C hr hex Q QX S a0 p_a0 P (lv_sub hl [0] rfl) (by omega) (by omega) hw
  · have hw := hw.2 hc
    refine lv_iload_n hx hb dX8_isReplayed_52 rfl (lv_at hl 1 rfl) ?_
    refine lv_sipush (v := 512) hx hb dX8_isReplayed_53 (by decide) ?_
    refine lv_icmp_ge (tgt := 95) hx hb dX8_isReplayed_56 (by decide) (fun hc => ?_) (fun hc => ?_)
    · have hw := hw.1 hc
      exact tX8_isReplayed_95 C hr hex Q QX S a0 p_a0 P (lv_sub hl [0] rfl) (by omega) (by omega) hw
    · have hw := hw.2 hc
      refine lv_aload_n hx hb dX8_isReplayed_59 rfl (lv_at hl 0 rfl) ?_
      obtain ⟨a2, e1, hw⟩ := hw
      have p_a2 : pI S 2 a2 := wf_r P.2.2.2.1 p_a0 e1
      refine gf_8_9 C P p_a0 e1 q_308 dX8_isReplayed_60 ?_
      refine lv_aload_n hx hb dX8_isReplayed_63 rfl (lv_at hl 0 rfl) ?_
      obtain ⟨a3, e1, hw⟩ := hw
      have p_a3 : pI S 0 a3 := wf_r P.2.2.2.1 p_a0 e1
      refine gf_8_4 C P p_a0 e1 q_303 dX8_isReplayed_64 ?_
      obtain ⟨a4, e1, hw⟩ := hw
      have p_a4 : pI S 12 a4 := wf_r P.2.2.2.1 p_a3 e1
      refine gf_0_0 C P p_a3 e1 q_219 dX8_isReplayed_67 ?_
      refine lv_iload_n hx hb dX8_isReplayed_70 rfl (lv_at hl 1 rfl) ?_
      obtain ⟨h1, hw⟩ := hw
      refine ra_i C P p_a4 h1 dX8_isReplayed_71 ?_
      refine lv_aload_n hx hb dX8_isReplayed_72 rfl (lv_at hl 0 rfl) ?_
      obtain ⟨a5, e1, hw⟩ := hw
      have p_a5 : pI S 0 a5 := wf_r P.2.2.2.1 p_a0 e1
      refine gf_8_4 C P p_a0 e1 q_303 dX8_isReplayed_73 ?_
      obtain ⟨a6, e1, hw⟩ := hw
      have p_a6 : pI S 12 a6 := wf_r P.2.2.2.1 p_a5 e1
      refine gf_0_1 C P p_a5 e1 q_221 dX8_isReplayed_76 ?_
      refine lv_iload_n hx hb dX8_isReplayed_79 rfl (lv_at hl 1 rfl) ?_
      obtain ⟨h1, hw⟩ := hw
      refine ra_i C P p_a6 h1 dX8_isReplayed_80 ?_
      refine lv_aload_n hx hb dX8_isReplayed_81 rfl (lv_at hl 0 rfl) ?_
      obtain ⟨a7, e1, hw⟩ := hw
      have p_a7 : pI S 5 a7 := wf_r P.2.2.2.1 p_a0 e1
      refine gf_8_10 C P p_a0 e1 q_309 dX8_isReplayed_82 ?_
      refine cl_i C P (run_V C P hl.1 (kd := 2) (met_X2_carryOut (CF_n C) G H.size _ _ S a2 (mI S a4 (y1 : Int32).toNatClampNeg) (mI S a6 (y1 : Int32).toNatClampNeg) a7 p_a2 p_a7 hw) p_a2 (by decide) rfl q_1201 q_1202 q_1203 q_2 q_1204 cd_X2_carryOut ⟨(Nat.le_of_ble_eq_true rfl), (Nat.le_of_ble_eq_true rfl)⟩ rfl rfl (As := [.int (mI S a4 (y1 : Int32).toNatClampNeg), .int (mI S a6 (y1 : Int32).toNatClampNeg), .ref a7]) (rest := []) rfl rfl (Nat.le_of_ble_eq_true rfl) dX8_isReplayed_85 ⟨by show cells + 0 ≤ 1; omega, by show slots + 0 ≤ 6; omega⟩) (kx_out C hex (fun _ _ _ h => h) (by omega) (by omega)) (fun r9 S8 H locs P hE hw => ?_)
      have p_a0 : pI S8 8 a0 := pI_x hE p_a0
      have p_a2 : pI S8 2 a2 := pI_x hE p_a2
      have p_a7 : pI S8 5 a7 := pI_x hE p_a7
      refine lv_pop hx hb dX8_isReplayed_88 rfl ?_
      refine lv_iinc (v := (y1 + 1)) (lv' := [(1, .int (y1 + 1)), (0, .ref a0)]) hx hb dX8_isReplayed_89 hl (k := 1) rfl (by rfl) (by decide) rfl (fun ls hl => ?_)
      refine lv_goto (tgt := 41) hx hb dX8_isReplayed_92 (by decide) ?_
      exact kh41 S8 a0 (y1 + 1) _ _ _ _ _ p_a0 P (lv_sub hl [1, 0] rfl) (by omega) (by omega) hw
def lX8_isReplayed_41 (Q : Int32 → MS → Prop) (QX : String → MS → Prop) : Nat → MS → Nat → Int32 → Prop
  | 0 => fun _ _ _ => False
  | n + 1 => fun S a0 y1 => wX8_isReplayed_41 Q QX (lX8_isReplayed_41 Q QX n) S a0 y1
theorem tlX8_isReplayed_41 {p : Program} {l : Launch} {e : Env} {s : State} {m : MethodId} {args : Array Value} {below : List Frame} {meth : Method} {c : Code} {G : GP} {A : Nat → Prop} {S0 : MS} (C : CF p l s m args meth c "SkirmishGrid" cX8_isReplayed 2 G A) (hr : meth.sig.returnType = (some .boolean)) (hex : ∀ x ∈ c.exceptionTable.toList, False) (Q : Int32 → MS → Prop) (QX : String → MS → Prop) : ∀ (n : Nat), ∀ (S : MS) (a0 : Nat) (y1 : Int32) (cells slots : Nat) (H : Heap) (locs : List Loc) (ls : Array Slot), pI S 8 a0 → PW G A s H locs S0 S → lv_has ls 2 [(0, .ref a0), (1, .int y1)] → cells + 0 ≤ 1 → slots + 0 ≤ 6 → lX8_isReplayed_41 Q QX n S a0 y1 → W p l e rmX8_isReplayed s m args below meth c H locs cells slots (vx_MQ below (QI G S0 A Q) (XX G S0 A QX) args s 1 6 A) (F0 m 41 ls []) := by
  intro n
  induction n with
  | zero => intro S a0 y1 cells slots H locs ls p_a0 P hl hcc hss hw; exact hw.elim
  | succ n ih => intro S a0 y1 cells slots H locs ls p_a0 P hl hcc hss hw; exact tX8_isReplayed_41 C hr hex Q QX (lX8_isReplayed_41 Q QX n) ih S a0 y1 p_a0 P hl hcc hss hw
def wX8_isReplayed_0 (Q : Int32 → MS → Prop) (QX : String → MS → Prop) (S : MS) (a0 : Nat) : Prop := (∃ a1, mR S a0 3 = some a1 ∧ wp_X2_hasBegun (fun r3 S2 => ((¬ r3 = 0 → (∃ a4, mR S2 a0 9 = some a4 ∧ (∃ a5, mR S2 a0 3 = some a5 ∧ wp_X2_prepareLike (fun S6 => (∃ a7, mR S6 a0 9 = some a7 ∧ wp_X2_startRounds (fun S8 => (∃ n, lX8_isReplayed_41 Q QX n S8 a0 0)) QX S6 a7)) QX S2 a4 a5))) ∧ (r3 = 0 → QX "java/lang/IllegalStateException" S2))) QX S a1)
set_option maxHeartbeats 4000000 in
set_option maxRecDepth 100000 in
theorem tX8_isReplayed_0 {p : Program} {l : Launch} {e : Env} {s : State} {m : MethodId} {args : Array Value} {below : List Frame} {meth : Method} {c : Code} {H : Heap} {locs : List Loc} {cells slots : Nat} {G : GP} {A : Nat → Prop} {S0 : MS} {ls : Array Slot} (C : CF p l s m args meth c "SkirmishGrid" cX8_isReplayed 2 G A) (hr : meth.sig.returnType = (some .boolean)) (hex : ∀ x ∈ c.exceptionTable.toList, False) (Q : Int32 → MS → Prop) (QX : String → MS → Prop) (S : MS) (a0 : Nat) (p_a0 : pI S 8 a0) (P : PW G A s H locs S0 S) (hl : lv_has ls 2 [(0, .ref a0)]) (hcc : cells + 1 ≤ 1) (hss : slots + 6 ≤ 6) (hw : wX8_isReplayed_0 Q QX S a0) : W p l e rmX8_isReplayed s m args below meth c H locs cells slots (vx_MQ below (QI G S0 A Q) (XX G S0 A QX) args s 1 6 A) (F0 m 0 ls []) := by
  have hx := CF_x C
  have hb := CF_b C
  unfold wX8_isReplayed_0 at hw
  refine lv_aload_n hx hb dX8_isReplayed_0 rfl (lv_at hl 0 rfl) ?_
  obtain ⟨a1, e1, hw⟩ := hw
  have p_a1 : pI S 2 a1 := wf_r P.2.2.2.1 p_a0 e1
  refine gf_8_3 C P p_a0 e1 q_302 dX8_isReplayed_1 ?_
  refine cl_i C P (run_V C P hl.1 (kd := 2) (met_X2_hasBegun (CF_n C) G H.size _ _ S a1 p_a1 hw) p_a1 (by decide) rfl q_347 q_348 q_349 q_2 q_350 cd_X2_hasBegun ⟨(Nat.le_of_ble_eq_true rfl), (Nat.le_of_ble_eq_true rfl)⟩ rfl rfl (As := []) (rest := []) rfl rfl (Nat.le_of_ble_eq_true rfl) dX8_isReplayed_4 ⟨by show cells + 0 ≤ 1; omega, by show slots + 0 ≤ 6; omega⟩) (kx_out C hex (fun _ _ _ h => h) (by omega) (by omega)) (fun r3 S2 H locs P hE hw => ?_)
  have p_a0 : pI S2 8 a0 := pI_x hE p_a0
  have p_a1 : pI S2 2 a1 := pI_x hE p_a1
  refine lv_if_ne (tgt := 21) hx hb dX8_isReplayed_7 (by decide) (fun hc => ?_) (fun hc => ?_)
  · have hw := hw.1 hc
    refine lv_aload_n hx hb dX8_isReplayed_21 rfl (lv_at hl 0 rfl) ?_
    obtain ⟨a4, e1, hw⟩ := hw
    have p_a4 : pI S2 2 a4 := wf_r P.2.2.2.1 p_a0 e1
    refine gf_8_9 C P p_a0 e1 q_308 dX8_isReplayed_22 ?_
    refine lv_aload_n hx hb dX8_isReplayed_25 rfl (lv_at hl 0 rfl) ?_
    obtain ⟨a5, e1, hw⟩ := hw
    have p_a5 : pI S2 2 a5 := wf_r P.2.2.2.1 p_a0 e1
    refine gf_8_3 C P p_a0 e1 q_302 dX8_isReplayed_26 ?_
    refine cl_v C P (run_V C P hl.1 (kd := 2) (met_X2_prepareLike (CF_n C) G H.size _ _ S2 a4 a5 p_a4 p_a5 hw) p_a4 (by decide) rfl q_1195 q_1196 q_1197 q_2 q_1198 cd_X2_prepareLike ⟨(Nat.le_of_ble_eq_true rfl), (Nat.le_of_ble_eq_true rfl)⟩ rfl rfl (As := [.ref a5]) (rest := []) rfl rfl (Nat.le_of_ble_eq_true rfl) dX8_isReplayed_29 ⟨by show cells + 0 ≤ 1; omega, by show slots + 0 ≤ 6; omega⟩) (kx_out C hex (fun _ _ _ h => h) (by omega) (by omega)) (fun S6 H locs P hE hw => ?_)
    have p_a0 : pI S6 8 a0 := pI_x hE p_a0
    have p_a4 : pI S6 2 a4 := pI_x hE p_a4
    have p_a5 : pI S6 2 a5 := pI_x hE p_a5
    refine lv_aload_n hx hb dX8_isReplayed_32 rfl (lv_at hl 0 rfl) ?_
    obtain ⟨a7, e1, hw⟩ := hw
    have p_a7 : pI S6 2 a7 := wf_r P.2.2.2.1 p_a0 e1
    refine gf_8_9 C P p_a0 e1 q_308 dX8_isReplayed_33 ?_
    refine cl_v C P (run_V C P hl.1 (kd := 2) (met_X2_startRounds (CF_n C) G H.size _ _ S6 a7 p_a7 hw) p_a7 (by decide) rfl q_835 q_836 q_837 q_2 q_838 cd_X2_startRounds ⟨(Nat.le_of_ble_eq_true rfl), (Nat.le_of_ble_eq_true rfl)⟩ rfl rfl (As := []) (rest := []) rfl rfl (Nat.le_of_ble_eq_true rfl) dX8_isReplayed_36 ⟨by show cells + 0 ≤ 1; omega, by show slots + 0 ≤ 6; omega⟩) (kx_out C hex (fun _ _ _ h => h) (by omega) (by omega)) (fun S8 H locs P hE hw => ?_)
    have p_a0 : pI S8 8 a0 := pI_x hE p_a0
    have p_a7 : pI S8 2 a7 := pI_x hE p_a7
    refine lv_iconst (v := 0) hx hb dX8_isReplayed_39 (by decide) ?_
    refine lv_istore_n (lv' := [(1, .int 0), (0, .ref a0)]) hx hb dX8_isReplayed_40 rfl hl (by decide) rfl (fun ls hl => ?_)
    obtain ⟨n, hw⟩ := hw
    exact tlX8_isReplayed_41 C hr hex Q QX n S8 a0 0 _ _ _ _ _ p_a0 P (lv_sub hl [1, 0] rfl) (by omega) (by omega) hw
  · have hw := hw.2 hc
    exact th_W C hex P hl.1 (E := "java/lang/IllegalStateException") (text := "the fight has not begun") (by decide +kernel) (by decide +kernel) (by decide +kernel) q_482 q_15 xw_ISE xb_ISE xg_ISE dX8_isReplayed_10 dX8_isReplayed_13 dX8_isReplayed_14 dX8_isReplayed_17 dX8_isReplayed_20 (Nat.le_of_ble_eq_true rfl) (Nat.le_of_ble_eq_true rfl) (by show cells + 1 ≤ 1; omega) (by show slots + 6 ≤ 6; omega) hw (by omega) (by omega)
def wp_X8_isReplayed (Q : Int32 → MS → Prop) (QX : String → MS → Prop) (S : MS) (a0 : Nat) : Prop := wX8_isReplayed_0 Q QX S a0
set_option maxHeartbeats 4000000 in
set_option maxRecDepth 100000 in
theorem met_X8_isReplayed {l : Launch} (hst : l.stackTraces = false) (G : GP) (sz : Nat) (Q : Int32 → MS → Prop) (QX : String → MS → Prop) (S : MS) (a0 : Nat) (p_a0 : pI S 8 a0) (hw : wp_X8_isReplayed Q QX S a0) : vx_Met l yX8_isReplayed (.code yX8_isReplayed cX8_isReplayed 2 (some .boolean) :: GW) rmX8_isReplayed (va_Pc [.ref a0] (PR G S sz)) (QI G S (FA G S sz) Q) (XX G S (FA G S sz) QX) 1 6 (FA G S sz) := by
  refine st_m (by decide +kernel) hst (fun p e s m below meth c C hr hnm hex P => ?_)
  refine en_m (Nat.le_of_ble_eq_true rfl) (lv := [(0, .ref a0)]) rfl (fun ls hl => ?_)
  have C : CF p l s m _ meth c "SkirmishGrid" cX8_isReplayed 2 G (FA G S sz) := C
  exact tX8_isReplayed_0 C hr hex Q QX S a0 p_a0 P hl (by omega) (by omega) hw
theorem cd_X8_isReplayed : yX8_isReplayed.cls = RX8 ∧ yX8_isReplayed.cls ≠ "java/lang/invoke/MethodHandle" ∧ yX8_isReplayed.cls ≠ "java/lang/invoke/VarHandle" ∧ (parseMethodDescriptor yX8_isReplayed.desc).map (fun d => d.parameters.length) = some 0 := by decide +kernel
