theorem q_1056 : Cond.methodLink "SkirmishGrid$Fight" 243 yX2_onTurn ∈ GW := gw_t 1056 (by decide +kernel) (by decide +kernel)
theorem q_1155 : Cond.methodLink "SkirmishGrid$Fight" 283 yX7_shortenStatuses ∈ GW := gw_t 1155 (by decide +kernel) (by decide +kernel)
theorem q_1156 : Cond.instanceMethod yX7_shortenStatuses ∈ GW := gw_t 1156 (by decide +kernel) (by decide +kernel)
theorem q_1157 : Cond.selects "SkirmishGrid$Unit" yX7_shortenStatuses yX7_shortenStatuses ∈ GW := gw_t 1157 (by decide +kernel) (by decide +kernel)
theorem q_1158 : Cond.code yX7_shortenStatuses cX7_shortenStatuses 1 none ∈ GW := gw_t 1158 (by decide +kernel) (by decide +kernel)
theorem q_1063 : Cond.methodLink "SkirmishGrid$Fight" 264 yX3_ground ∈ GW := gw_t 1063 (by decide +kernel) (by decide +kernel)
theorem q_1068 : Cond.methodLink "SkirmishGrid$Fight" 261 yX2_settle ∈ GW := gw_t 1068 (by decide +kernel) (by decide +kernel)
theorem q_1070 : Cond.instanceMethod yX2_settle ∈ GW := gw_t 1070 (by decide +kernel) (by decide +kernel)
theorem q_p20 : Cond.selects "SkirmishGrid$Fight" yX2_settle yX2_settle ∈ GW := gw_p 20 (by decide +kernel) (by decide +kernel)
theorem q_1071 : Cond.code yX2_settle cX2_settle 2 none ∈ GW := gw_t 1071 (by decide +kernel) (by decide +kernel)
theorem q_1105 : Cond.methodLink "SkirmishGrid$Fight" 277 yX2_suffer ∈ GW := gw_t 1105 (by decide +kernel) (by decide +kernel)
theorem q_1107 : Cond.instanceMethod yX2_suffer ∈ GW := gw_t 1107 (by decide +kernel) (by decide +kernel)
theorem q_p21 : Cond.selects "SkirmishGrid$Fight" yX2_suffer yX2_suffer ∈ GW := gw_p 21 (by decide +kernel) (by decide +kernel)
theorem q_1108 : Cond.code yX2_suffer cX2_suffer 2 none ∈ GW := gw_t 1108 (by decide +kernel) (by decide +kernel)
theorem q_118 : Cond.fieldLink "SkirmishGrid$Fight" 274 "SkirmishGrid$Unit" "grenades" "I" ∈ GW := gw_t 118 (by decide +kernel) (by decide +kernel)
theorem q_1087 : Cond.methodLink "SkirmishGrid$Fight" 270 yX2_find ∈ GW := gw_t 1087 (by decide +kernel) (by decide +kernel)
theorem q_817 : Cond.instanceMethod yX2_find ∈ GW := gw_t 817 (by decide +kernel) (by decide +kernel)
theorem q_818 : Cond.selects "SkirmishGrid$Fight" yX2_find yX2_find ∈ GW := gw_t 818 (by decide +kernel) (by decide +kernel)
theorem q_819 : Cond.code yX2_find cX2_find 2 (some (.object "SkirmishGrid$Unit")) ∈ GW := gw_t 819 (by decide +kernel) (by decide +kernel)
theorem q_1064 : Cond.methodLink "SkirmishGrid$Fight" 267 yX2_strike ∈ GW := gw_t 1064 (by decide +kernel) (by decide +kernel)
theorem q_1066 : Cond.instanceMethod yX2_strike ∈ GW := gw_t 1066 (by decide +kernel) (by decide +kernel)
theorem q_p19 : Cond.selects "SkirmishGrid$Fight" yX2_strike yX2_strike ∈ GW := gw_p 19 (by decide +kernel) (by decide +kernel)
theorem q_1067 : Cond.code yX2_strike cX2_strike 5 (some .int) ∈ GW := gw_t 1067 (by decide +kernel) (by decide +kernel)
theorem q_1058 : Cond.methodLink "SkirmishGrid$Fight" 253 yX5_next ∈ GW := gw_t 1058 (by decide +kernel) (by decide +kernel)
theorem q_945 : Cond.instanceMethod yX5_next ∈ GW := gw_t 945 (by decide +kernel) (by decide +kernel)
theorem q_946 : Cond.selects "SkirmishGrid$Paths" yX5_next yX5_next ∈ GW := gw_t 946 (by decide +kernel) (by decide +kernel)
theorem q_947 : Cond.code yX5_next cX5_next 5 (some .int) ∈ GW := gw_t 947 (by decide +kernel) (by decide +kernel)
theorem q_1059 : Cond.methodLink "SkirmishGrid$Fight" 257 yX2_isStoppedIn ∈ GW := gw_t 1059 (by decide +kernel) (by decide +kernel)
theorem q_1061 : Cond.instanceMethod yX2_isStoppedIn ∈ GW := gw_t 1061 (by decide +kernel) (by decide +kernel)
theorem q_p18 : Cond.selects "SkirmishGrid$Fight" yX2_isStoppedIn yX2_isStoppedIn ∈ GW := gw_p 18 (by decide +kernel) (by decide +kernel)
theorem q_1062 : Cond.code yX2_isStoppedIn cX2_isStoppedIn 5 (some .boolean) ∈ GW := gw_t 1062 (by decide +kernel) (by decide +kernel)
theorem q_1057 : Cond.methodLink "SkirmishGrid$Fight" 247 yX5_measure ∈ GW := gw_t 1057 (by decide +kernel) (by decide +kernel)
theorem q_907 : Cond.instanceMethod yX5_measure ∈ GW := gw_t 907 (by decide +kernel) (by decide +kernel)
theorem q_908 : Cond.selects "SkirmishGrid$Paths" yX5_measure yX5_measure ∈ GW := gw_t 908 (by decide +kernel) (by decide +kernel)
theorem q_909 : Cond.code yX5_measure cX5_measure 7 none ∈ GW := gw_t 909 (by decide +kernel) (by decide +kernel)
theorem q_1211 : Cond.methodLink "SkirmishGrid$Fight" 240 yX2_finishTurn ∈ GW := gw_t 1211 (by decide +kernel) (by decide +kernel)
theorem q_1152 : Cond.instanceMethod yX2_finishTurn ∈ GW := gw_t 1152 (by decide +kernel) (by decide +kernel)
theorem q_1153 : Cond.selects "SkirmishGrid$Fight" yX2_finishTurn yX2_finishTurn ∈ GW := gw_t 1153 (by decide +kernel) (by decide +kernel)
theorem q_1154 : Cond.code yX2_finishTurn cX2_finishTurn 2 (some .int) ∈ GW := gw_t 1154 (by decide +kernel) (by decide +kernel)
theorem q_1205 : Cond.methodLink "SkirmishGrid$Fight" 220 yX2_walk ∈ GW := gw_t 1205 (by decide +kernel) (by decide +kernel)
theorem q_1053 : Cond.instanceMethod yX2_walk ∈ GW := gw_t 1053 (by decide +kernel) (by decide +kernel)
theorem q_1054 : Cond.selects "SkirmishGrid$Fight" yX2_walk yX2_walk ∈ GW := gw_t 1054 (by decide +kernel) (by decide +kernel)
theorem q_1055 : Cond.code yX2_walk cX2_walk 7 (some .int) ∈ GW := gw_t 1055 (by decide +kernel) (by decide +kernel)
theorem q_1206 : Cond.methodLink "SkirmishGrid$Fight" 224 yX2_shoot ∈ GW := gw_t 1206 (by decide +kernel) (by decide +kernel)
theorem q_1084 : Cond.instanceMethod yX2_shoot ∈ GW := gw_t 1084 (by decide +kernel) (by decide +kernel)
theorem q_1085 : Cond.selects "SkirmishGrid$Fight" yX2_shoot yX2_shoot ∈ GW := gw_t 1085 (by decide +kernel) (by decide +kernel)
theorem q_1086 : Cond.code yX2_shoot cX2_shoot 5 (some .int) ∈ GW := gw_t 1086 (by decide +kernel) (by decide +kernel)
theorem q_1207 : Cond.methodLink "SkirmishGrid$Fight" 227 yX2_hurl ∈ GW := gw_t 1207 (by decide +kernel) (by decide +kernel)
theorem q_1102 : Cond.instanceMethod yX2_hurl ∈ GW := gw_t 1102 (by decide +kernel) (by decide +kernel)
theorem q_1103 : Cond.selects "SkirmishGrid$Fight" yX2_hurl yX2_hurl ∈ GW := gw_t 1103 (by decide +kernel) (by decide +kernel)
theorem q_1104 : Cond.code yX2_hurl cX2_hurl 6 (some .int) ∈ GW := gw_t 1104 (by decide +kernel) (by decide +kernel)
theorem q_1208 : Cond.methodLink "SkirmishGrid$Fight" 230 yX2_startGuarding ∈ GW := gw_t 1208 (by decide +kernel) (by decide +kernel)
theorem q_1118 : Cond.instanceMethod yX2_startGuarding ∈ GW := gw_t 1118 (by decide +kernel) (by decide +kernel)
theorem q_1119 : Cond.selects "SkirmishGrid$Fight" yX2_startGuarding yX2_startGuarding ∈ GW := gw_t 1119 (by decide +kernel) (by decide +kernel)
theorem q_1120 : Cond.code yX2_startGuarding cX2_startGuarding 2 (some .int) ∈ GW := gw_t 1120 (by decide +kernel) (by decide +kernel)
theorem q_1209 : Cond.methodLink "SkirmishGrid$Fight" 234 yX2_startWatching ∈ GW := gw_t 1209 (by decide +kernel) (by decide +kernel)
theorem q_1129 : Cond.instanceMethod yX2_startWatching ∈ GW := gw_t 1129 (by decide +kernel) (by decide +kernel)
theorem q_1130 : Cond.selects "SkirmishGrid$Fight" yX2_startWatching yX2_startWatching ∈ GW := gw_t 1130 (by decide +kernel) (by decide +kernel)
theorem q_1131 : Cond.code yX2_startWatching cX2_startWatching 3 (some .int) ∈ GW := gw_t 1131 (by decide +kernel) (by decide +kernel)
theorem q_1210 : Cond.methodLink "SkirmishGrid$Fight" 237 yX2_refill ∈ GW := gw_t 1210 (by decide +kernel) (by decide +kernel)
theorem q_1140 : Cond.instanceMethod yX2_refill ∈ GW := gw_t 1140 (by decide +kernel) (by decide +kernel)
theorem q_1141 : Cond.selects "SkirmishGrid$Fight" yX2_refill yX2_refill ∈ GW := gw_t 1141 (by decide +kernel) (by decide +kernel)
theorem q_1142 : Cond.code yX2_refill cX2_refill 3 (some .int) ∈ GW := gw_t 1142 (by decide +kernel) (by decide +kernel)
theorem dX2_finishTurn_0 : decode cX2_finishTurn 0 = .ok (.aload_n 0, 1) := by decide +kernel
theorem dX2_finishTurn_1 : decode cX2_finishTurn 1 = .ok (.invokevirtual 243, 3) := by decide +kernel
theorem dX2_finishTurn_4 : decode cX2_finishTurn 4 = .ok (.astore_n 1, 1) := by decide +kernel
theorem dX2_finishTurn_5 : decode cX2_finishTurn 5 = .ok (.aload_n 1, 1) := by decide +kernel
theorem dX2_finishTurn_6 : decode cX2_finishTurn 6 = .ok (.ifnonnull 5, 3) := by decide +kernel
theorem dX2_finishTurn_9 : decode cX2_finishTurn 9 = .ok (.iconst (-1), 1) := by decide +kernel
theorem dX2_finishTurn_10 : decode cX2_finishTurn 10 = .ok (.ireturn, 1) := by decide +kernel
theorem dX2_finishTurn_11 : decode cX2_finishTurn 11 = .ok (.aload_n 1, 1) := by decide +kernel
theorem dX2_finishTurn_12 : decode cX2_finishTurn 12 = .ok (.invokevirtual 283, 3) := by decide +kernel
theorem dX2_finishTurn_15 : decode cX2_finishTurn 15 = .ok (.aload_n 0, 1) := by decide +kernel
theorem dX2_finishTurn_16 : decode cX2_finishTurn 16 = .ok (.invokevirtual 124, 3) := by decide +kernel
theorem dX2_finishTurn_19 : decode cX2_finishTurn 19 = .ok (.aload_n 0, 1) := by decide +kernel
theorem dX2_finishTurn_20 : decode cX2_finishTurn 20 = .ok (.getfield 28, 3) := by decide +kernel
theorem dX2_finishTurn_23 : decode cX2_finishTurn 23 = .ok (.ireturn, 1) := by decide +kernel
theorem dX2_suffer_0 : decode cX2_suffer 0 = .ok (.aload_n 1, 1) := by decide +kernel
theorem dX2_suffer_1 : decode cX2_suffer 1 = .ok (.iconst 3, 1) := by decide +kernel
theorem dX2_suffer_2 : decode cX2_suffer 2 = .ok (.invokevirtual 162, 3) := by decide +kernel
theorem dX2_suffer_5 : decode cX2_suffer 5 = .ok (.aload_n 1, 1) := by decide +kernel
theorem dX2_suffer_6 : decode cX2_suffer 6 = .ok (.invokevirtual 105, 3) := by decide +kernel
theorem dX2_suffer_9 : decode cX2_suffer 9 = .ok (.ifCond .ne 19, 3) := by decide +kernel
theorem dX2_suffer_12 : decode cX2_suffer 12 = .ok (.aload_n 0, 1) := by decide +kernel
theorem dX2_suffer_13 : decode cX2_suffer 13 = .ok (.getfield 41, 3) := by decide +kernel
theorem dX2_suffer_16 : decode cX2_suffer 16 = .ok (.iconst 4, 1) := by decide +kernel
theorem dX2_suffer_17 : decode cX2_suffer 17 = .ok (.aload_n 1, 1) := by decide +kernel
theorem dX2_suffer_18 : decode cX2_suffer 18 = .ok (.getfield 143, 3) := by decide +kernel
theorem dX2_suffer_21 : decode cX2_suffer 21 = .ok (.iconst 0, 1) := by decide +kernel
theorem dX2_suffer_22 : decode cX2_suffer 22 = .ok (.invokevirtual 127, 3) := by decide +kernel
theorem dX2_suffer_25 : decode cX2_suffer 25 = .ok (.goto 39, 3) := by decide +kernel
theorem dX2_suffer_28 : decode cX2_suffer 28 = .ok (.aload_n 0, 1) := by decide +kernel
theorem dX2_suffer_29 : decode cX2_suffer 29 = .ok (.bipush 6, 2) := by decide +kernel
theorem dX2_suffer_31 : decode cX2_suffer 31 = .ok (.invokevirtual 133, 3) := by decide +kernel
theorem dX2_suffer_34 : decode cX2_suffer 34 = .ok (.iconst 5, 1) := by decide +kernel
theorem dX2_suffer_35 : decode cX2_suffer 35 = .ok (.if_icmp .lt 29, 3) := by decide +kernel
theorem dX2_suffer_38 : decode cX2_suffer 38 = .ok (.aload_n 1, 1) := by decide +kernel
theorem dX2_suffer_39 : decode cX2_suffer 39 = .ok (.getfield 165, 3) := by decide +kernel
theorem dX2_suffer_42 : decode cX2_suffer 42 = .ok (.ifCond .ne 22, 3) := by decide +kernel
theorem dX2_suffer_45 : decode cX2_suffer 45 = .ok (.aload_n 1, 1) := by decide +kernel
theorem dX2_suffer_46 : decode cX2_suffer 46 = .ok (.iconst 1, 1) := by decide +kernel
theorem dX2_suffer_47 : decode cX2_suffer 47 = .ok (.putfield 165, 3) := by decide +kernel
theorem dX2_suffer_50 : decode cX2_suffer 50 = .ok (.aload_n 0, 1) := by decide +kernel
theorem dX2_suffer_51 : decode cX2_suffer 51 = .ok (.getfield 41, 3) := by decide +kernel
theorem dX2_suffer_54 : decode cX2_suffer 54 = .ok (.bipush 6, 2) := by decide +kernel
theorem dX2_suffer_56 : decode cX2_suffer 56 = .ok (.aload_n 1, 1) := by decide +kernel
theorem dX2_suffer_57 : decode cX2_suffer 57 = .ok (.getfield 143, 3) := by decide +kernel
theorem dX2_suffer_60 : decode cX2_suffer 60 = .ok (.iconst 1, 1) := by decide +kernel
theorem dX2_suffer_61 : decode cX2_suffer 61 = .ok (.invokevirtual 127, 3) := by decide +kernel
theorem dX2_suffer_64 : decode cX2_suffer 64 = .ok (.return_, 1) := by decide +kernel
theorem dX2_canHurl_0 : decode cX2_canHurl 0 = .ok (.aload_n 0, 1) := by decide +kernel
theorem dX2_canHurl_1 : decode cX2_canHurl 1 = .ok (.getfield 12, 3) := by decide +kernel
theorem dX2_canHurl_4 : decode cX2_canHurl 4 = .ok (.iload_n 2, 1) := by decide +kernel
theorem dX2_canHurl_5 : decode cX2_canHurl 5 = .ok (.invokevirtual 264, 3) := by decide +kernel
theorem dX2_canHurl_8 : decode cX2_canHurl 8 = .ok (.iconst 1, 1) := by decide +kernel
theorem dX2_canHurl_9 : decode cX2_canHurl 9 = .ok (.if_icmp .eq 38, 3) := by decide +kernel
theorem dX2_canHurl_12 : decode cX2_canHurl 12 = .ok (.aload_n 0, 1) := by decide +kernel
theorem dX2_canHurl_13 : decode cX2_canHurl 13 = .ok (.getfield 12, 3) := by decide +kernel
theorem dX2_canHurl_16 : decode cX2_canHurl 16 = .ok (.aload_n 1, 1) := by decide +kernel
theorem dX2_canHurl_17 : decode cX2_canHurl 17 = .ok (.getfield 113, 3) := by decide +kernel
theorem dX2_canHurl_20 : decode cX2_canHurl 20 = .ok (.iload_n 2, 1) := by decide +kernel
theorem dX2_canHurl_21 : decode cX2_canHurl 21 = .ok (.invokevirtual 168, 3) := by decide +kernel
theorem dX2_canHurl_24 : decode cX2_canHurl 24 = .ok (.iconst 4, 1) := by decide +kernel
theorem dX2_canHurl_25 : decode cX2_canHurl 25 = .ok (.if_icmp .gt 22, 3) := by decide +kernel
theorem dX2_canHurl_28 : decode cX2_canHurl 28 = .ok (.aload_n 0, 1) := by decide +kernel
theorem dX2_canHurl_29 : decode cX2_canHurl 29 = .ok (.getfield 12, 3) := by decide +kernel
theorem dX2_canHurl_32 : decode cX2_canHurl 32 = .ok (.aload_n 1, 1) := by decide +kernel
theorem dX2_canHurl_33 : decode cX2_canHurl 33 = .ok (.getfield 113, 3) := by decide +kernel
theorem dX2_canHurl_36 : decode cX2_canHurl 36 = .ok (.iload_n 2, 1) := by decide +kernel
theorem dX2_canHurl_37 : decode cX2_canHurl 37 = .ok (.invokevirtual 175, 3) := by decide +kernel
theorem dX2_canHurl_40 : decode cX2_canHurl 40 = .ok (.ifCond .eq 7, 3) := by decide +kernel
theorem dX2_canHurl_43 : decode cX2_canHurl 43 = .ok (.iconst 1, 1) := by decide +kernel
theorem dX2_canHurl_44 : decode cX2_canHurl 44 = .ok (.goto 4, 3) := by decide +kernel
theorem dX2_canHurl_47 : decode cX2_canHurl 47 = .ok (.iconst 0, 1) := by decide +kernel
theorem dX2_canHurl_48 : decode cX2_canHurl 48 = .ok (.ireturn, 1) := by decide +kernel
theorem dX2_hurl_0 : decode cX2_hurl 0 = .ok (.aload_n 0, 1) := by decide +kernel
theorem dX2_hurl_1 : decode cX2_hurl 1 = .ok (.invokevirtual 243, 3) := by decide +kernel
theorem dX2_hurl_4 : decode cX2_hurl 4 = .ok (.astore_n 2, 1) := by decide +kernel
theorem dX2_hurl_5 : decode cX2_hurl 5 = .ok (.aload_n 2, 1) := by decide +kernel
theorem dX2_hurl_6 : decode cX2_hurl 6 = .ok (.ifnonnull 5, 3) := by decide +kernel
theorem dX2_hurl_9 : decode cX2_hurl 9 = .ok (.iconst 0, 1) := by decide +kernel
theorem dX2_hurl_10 : decode cX2_hurl 10 = .ok (.ireturn, 1) := by decide +kernel
theorem dX2_hurl_11 : decode cX2_hurl 11 = .ok (.aload_n 0, 1) := by decide +kernel
theorem dX2_hurl_12 : decode cX2_hurl 12 = .ok (.dup, 1) := by decide +kernel
theorem dX2_hurl_13 : decode cX2_hurl 13 = .ok (.getfield 57, 3) := by decide +kernel
theorem dX2_hurl_16 : decode cX2_hurl 16 = .ok (.iconst 1, 1) := by decide +kernel
theorem dX2_hurl_17 : decode cX2_hurl 17 = .ok (.isub, 1) := by decide +kernel
theorem dX2_hurl_18 : decode cX2_hurl 18 = .ok (.putfield 57, 3) := by decide +kernel
theorem dX2_hurl_21 : decode cX2_hurl 21 = .ok (.aload_n 2, 1) := by decide +kernel
theorem dX2_hurl_22 : decode cX2_hurl 22 = .ok (.dup, 1) := by decide +kernel
theorem dX2_hurl_23 : decode cX2_hurl 23 = .ok (.getfield 274, 3) := by decide +kernel
theorem dX2_hurl_26 : decode cX2_hurl 26 = .ok (.iconst 1, 1) := by decide +kernel
theorem dX2_hurl_27 : decode cX2_hurl 27 = .ok (.isub, 1) := by decide +kernel
theorem dX2_hurl_28 : decode cX2_hurl 28 = .ok (.putfield 274, 3) := by decide +kernel
theorem dX2_hurl_31 : decode cX2_hurl 31 = .ok (.aload_n 0, 1) := by decide +kernel
theorem dX2_hurl_32 : decode cX2_hurl 32 = .ok (.getfield 41, 3) := by decide +kernel
theorem dX2_hurl_35 : decode cX2_hurl 35 = .ok (.bipush 8, 2) := by decide +kernel
theorem dX2_hurl_37 : decode cX2_hurl 37 = .ok (.aload_n 2, 1) := by decide +kernel
theorem dX2_hurl_38 : decode cX2_hurl 38 = .ok (.getfield 143, 3) := by decide +kernel
theorem dX2_hurl_41 : decode cX2_hurl 41 = .ok (.iload_n 1, 1) := by decide +kernel
theorem dX2_hurl_42 : decode cX2_hurl 42 = .ok (.invokevirtual 127, 3) := by decide +kernel
theorem dX2_hurl_45 : decode cX2_hurl 45 = .ok (.iconst 0, 1) := by decide +kernel
theorem dX2_hurl_46 : decode cX2_hurl 46 = .ok (.istore_n 3, 1) := by decide +kernel
theorem dX2_hurl_47 : decode cX2_hurl 47 = .ok (.iconst 0, 1) := by decide +kernel
theorem dX2_hurl_48 : decode cX2_hurl 48 = .ok (.istore 4, 2) := by decide +kernel
theorem dX2_hurl_50 : decode cX2_hurl 50 = .ok (.iload 4, 2) := by decide +kernel
theorem dX2_hurl_52 : decode cX2_hurl 52 = .ok (.aload_n 0, 1) := by decide +kernel
theorem dX2_hurl_53 : decode cX2_hurl 53 = .ok (.getfield 48, 3) := by decide +kernel
theorem dX2_hurl_56 : decode cX2_hurl 56 = .ok (.if_icmp .ge 52, 3) := by decide +kernel
theorem dX2_hurl_59 : decode cX2_hurl 59 = .ok (.aload_n 0, 1) := by decide +kernel
theorem dX2_hurl_60 : decode cX2_hurl 60 = .ok (.getfield 20, 3) := by decide +kernel
theorem dX2_hurl_63 : decode cX2_hurl 63 = .ok (.iload 4, 2) := by decide +kernel
theorem dX2_hurl_65 : decode cX2_hurl 65 = .ok (.aaload, 1) := by decide +kernel
theorem dX2_hurl_66 : decode cX2_hurl 66 = .ok (.astore 5, 2) := by decide +kernel
theorem dX2_hurl_68 : decode cX2_hurl 68 = .ok (.aload 5, 2) := by decide +kernel
theorem dX2_hurl_70 : decode cX2_hurl 70 = .ok (.invokevirtual 105, 3) := by decide +kernel
theorem dX2_hurl_73 : decode cX2_hurl 73 = .ok (.ifCond .eq 29, 3) := by decide +kernel
theorem dX2_hurl_76 : decode cX2_hurl 76 = .ok (.aload_n 0, 1) := by decide +kernel
theorem dX2_hurl_77 : decode cX2_hurl 77 = .ok (.getfield 12, 3) := by decide +kernel
theorem dX2_hurl_80 : decode cX2_hurl 80 = .ok (.aload 5, 2) := by decide +kernel
theorem dX2_hurl_82 : decode cX2_hurl 82 = .ok (.getfield 113, 3) := by decide +kernel
theorem dX2_hurl_85 : decode cX2_hurl 85 = .ok (.iload_n 1, 1) := by decide +kernel
theorem dX2_hurl_86 : decode cX2_hurl 86 = .ok (.invokevirtual 168, 3) := by decide +kernel
theorem dX2_hurl_89 : decode cX2_hurl 89 = .ok (.iconst 1, 1) := by decide +kernel
theorem dX2_hurl_90 : decode cX2_hurl 90 = .ok (.if_icmp .gt 12, 3) := by decide +kernel
theorem dX2_hurl_93 : decode cX2_hurl 93 = .ok (.aload_n 0, 1) := by decide +kernel
theorem dX2_hurl_94 : decode cX2_hurl 94 = .ok (.aload 5, 2) := by decide +kernel
theorem dX2_hurl_96 : decode cX2_hurl 96 = .ok (.invokevirtual 277, 3) := by decide +kernel
theorem dX2_hurl_99 : decode cX2_hurl 99 = .ok (.iinc 3 1, 3) := by decide +kernel
theorem dX2_hurl_102 : decode cX2_hurl 102 = .ok (.iinc 4 1, 3) := by decide +kernel
theorem dX2_hurl_105 : decode cX2_hurl 105 = .ok (.goto (-55), 3) := by decide +kernel
theorem dX2_hurl_108 : decode cX2_hurl 108 = .ok (.aload_n 0, 1) := by decide +kernel
theorem dX2_hurl_109 : decode cX2_hurl 109 = .ok (.aload_n 2, 1) := by decide +kernel
theorem dX2_hurl_110 : decode cX2_hurl 110 = .ok (.invokevirtual 261, 3) := by decide +kernel
theorem dX2_hurl_113 : decode cX2_hurl 113 = .ok (.iload_n 3, 1) := by decide +kernel
theorem dX2_hurl_114 : decode cX2_hurl 114 = .ok (.ireturn, 1) := by decide +kernel
theorem dX2_refill_0 : decode cX2_refill 0 = .ok (.aload_n 0, 1) := by decide +kernel
theorem dX2_refill_1 : decode cX2_refill 1 = .ok (.invokevirtual 243, 3) := by decide +kernel
theorem dX2_refill_4 : decode cX2_refill 4 = .ok (.astore_n 1, 1) := by decide +kernel
theorem dX2_refill_5 : decode cX2_refill 5 = .ok (.aload_n 1, 1) := by decide +kernel
theorem dX2_refill_6 : decode cX2_refill 6 = .ok (.ifnonnull 5, 3) := by decide +kernel
theorem dX2_refill_9 : decode cX2_refill 9 = .ok (.iconst 0, 1) := by decide +kernel
theorem dX2_refill_10 : decode cX2_refill 10 = .ok (.ireturn, 1) := by decide +kernel
theorem dX2_refill_11 : decode cX2_refill 11 = .ok (.aload_n 1, 1) := by decide +kernel
theorem dX2_refill_12 : decode cX2_refill 12 = .ok (.getfield 217, 3) := by decide +kernel
theorem dX2_refill_15 : decode cX2_refill 15 = .ok (.istore_n 2, 1) := by decide +kernel
theorem dX2_refill_16 : decode cX2_refill 16 = .ok (.aload_n 1, 1) := by decide +kernel
theorem dX2_refill_17 : decode cX2_refill 17 = .ok (.getstatic 280, 3) := by decide +kernel
theorem dX2_refill_20 : decode cX2_refill 20 = .ok (.aload_n 1, 1) := by decide +kernel
theorem dX2_refill_21 : decode cX2_refill 21 = .ok (.getfield 88, 3) := by decide +kernel
theorem dX2_refill_24 : decode cX2_refill 24 = .ok (.iaload, 1) := by decide +kernel
theorem dX2_refill_25 : decode cX2_refill 25 = .ok (.putfield 217, 3) := by decide +kernel
theorem dX2_refill_28 : decode cX2_refill 28 = .ok (.aload_n 0, 1) := by decide +kernel
theorem dX2_refill_29 : decode cX2_refill 29 = .ok (.dup, 1) := by decide +kernel
theorem dX2_refill_30 : decode cX2_refill 30 = .ok (.getfield 57, 3) := by decide +kernel
theorem dX2_refill_33 : decode cX2_refill 33 = .ok (.iconst 1, 1) := by decide +kernel
theorem dX2_refill_34 : decode cX2_refill 34 = .ok (.isub, 1) := by decide +kernel
theorem dX2_refill_35 : decode cX2_refill 35 = .ok (.putfield 57, 3) := by decide +kernel
theorem dX2_refill_38 : decode cX2_refill 38 = .ok (.iload_n 2, 1) := by decide +kernel
theorem dX2_refill_39 : decode cX2_refill 39 = .ok (.ireturn, 1) := by decide +kernel
theorem dX2_shoot_0 : decode cX2_shoot 0 = .ok (.aload_n 0, 1) := by decide +kernel
theorem dX2_shoot_1 : decode cX2_shoot 1 = .ok (.invokevirtual 243, 3) := by decide +kernel
theorem dX2_shoot_4 : decode cX2_shoot 4 = .ok (.astore_n 2, 1) := by decide +kernel
theorem dX2_shoot_5 : decode cX2_shoot 5 = .ok (.aload_n 0, 1) := by decide +kernel
theorem dX2_shoot_6 : decode cX2_shoot 6 = .ok (.iload_n 1, 1) := by decide +kernel
theorem dX2_shoot_7 : decode cX2_shoot 7 = .ok (.invokevirtual 270, 3) := by decide +kernel
theorem dX2_shoot_10 : decode cX2_shoot 10 = .ok (.astore_n 3, 1) := by decide +kernel
theorem dX2_shoot_11 : decode cX2_shoot 11 = .ok (.aload_n 2, 1) := by decide +kernel
theorem dX2_shoot_12 : decode cX2_shoot 12 = .ok (.ifnull 7, 3) := by decide +kernel
theorem dX2_shoot_15 : decode cX2_shoot 15 = .ok (.aload_n 3, 1) := by decide +kernel
theorem dX2_shoot_16 : decode cX2_shoot 16 = .ok (.ifnonnull 5, 3) := by decide +kernel
theorem dX2_shoot_19 : decode cX2_shoot 19 = .ok (.iconst 0, 1) := by decide +kernel
theorem dX2_shoot_20 : decode cX2_shoot 20 = .ok (.ireturn, 1) := by decide +kernel
theorem dX2_shoot_21 : decode cX2_shoot 21 = .ok (.aload_n 0, 1) := by decide +kernel
theorem dX2_shoot_22 : decode cX2_shoot 22 = .ok (.dup, 1) := by decide +kernel
theorem dX2_shoot_23 : decode cX2_shoot 23 = .ok (.getfield 57, 3) := by decide +kernel
theorem dX2_shoot_26 : decode cX2_shoot 26 = .ok (.iconst 1, 1) := by decide +kernel
theorem dX2_shoot_27 : decode cX2_shoot 27 = .ok (.isub, 1) := by decide +kernel
theorem dX2_shoot_28 : decode cX2_shoot 28 = .ok (.putfield 57, 3) := by decide +kernel
theorem dX2_shoot_31 : decode cX2_shoot 31 = .ok (.aload_n 0, 1) := by decide +kernel
theorem dX2_shoot_32 : decode cX2_shoot 32 = .ok (.aload_n 2, 1) := by decide +kernel
theorem dX2_shoot_33 : decode cX2_shoot 33 = .ok (.aload_n 3, 1) := by decide +kernel
theorem dX2_shoot_34 : decode cX2_shoot 34 = .ok (.invokevirtual 267, 3) := by decide +kernel
theorem dX2_shoot_37 : decode cX2_shoot 37 = .ok (.istore 4, 2) := by decide +kernel
theorem dX2_shoot_39 : decode cX2_shoot 39 = .ok (.aload_n 0, 1) := by decide +kernel
theorem dX2_shoot_40 : decode cX2_shoot 40 = .ok (.aload_n 2, 1) := by decide +kernel
theorem dX2_shoot_41 : decode cX2_shoot 41 = .ok (.invokevirtual 261, 3) := by decide +kernel
theorem dX2_shoot_44 : decode cX2_shoot 44 = .ok (.iload 4, 2) := by decide +kernel
theorem dX2_shoot_46 : decode cX2_shoot 46 = .ok (.ireturn, 1) := by decide +kernel
theorem dX2_startGuarding_0 : decode cX2_startGuarding 0 = .ok (.aload_n 0, 1) := by decide +kernel
theorem dX2_startGuarding_1 : decode cX2_startGuarding 1 = .ok (.invokevirtual 243, 3) := by decide +kernel
theorem dX2_startGuarding_4 : decode cX2_startGuarding 4 = .ok (.astore_n 1, 1) := by decide +kernel
theorem dX2_startGuarding_5 : decode cX2_startGuarding 5 = .ok (.aload_n 1, 1) := by decide +kernel
theorem dX2_startGuarding_6 : decode cX2_startGuarding 6 = .ok (.ifnonnull 5, 3) := by decide +kernel
theorem dX2_startGuarding_9 : decode cX2_startGuarding 9 = .ok (.iconst 0, 1) := by decide +kernel
theorem dX2_startGuarding_10 : decode cX2_startGuarding 10 = .ok (.ireturn, 1) := by decide +kernel
theorem dX2_startGuarding_11 : decode cX2_startGuarding 11 = .ok (.aload_n 1, 1) := by decide +kernel
theorem dX2_startGuarding_12 : decode cX2_startGuarding 12 = .ok (.iconst 1, 1) := by decide +kernel
theorem dX2_startGuarding_13 : decode cX2_startGuarding 13 = .ok (.putfield 152, 3) := by decide +kernel
theorem dX2_startGuarding_16 : decode cX2_startGuarding 16 = .ok (.aload_n 0, 1) := by decide +kernel
theorem dX2_startGuarding_17 : decode cX2_startGuarding 17 = .ok (.dup, 1) := by decide +kernel
theorem dX2_startGuarding_18 : decode cX2_startGuarding 18 = .ok (.getfield 57, 3) := by decide +kernel
theorem dX2_startGuarding_21 : decode cX2_startGuarding 21 = .ok (.iconst 1, 1) := by decide +kernel
theorem dX2_startGuarding_22 : decode cX2_startGuarding 22 = .ok (.isub, 1) := by decide +kernel
theorem dX2_startGuarding_23 : decode cX2_startGuarding 23 = .ok (.putfield 57, 3) := by decide +kernel
theorem dX2_startGuarding_26 : decode cX2_startGuarding 26 = .ok (.aload_n 0, 1) := by decide +kernel
theorem dX2_startGuarding_27 : decode cX2_startGuarding 27 = .ok (.getfield 57, 3) := by decide +kernel
theorem dX2_startGuarding_30 : decode cX2_startGuarding 30 = .ok (.ireturn, 1) := by decide +kernel
theorem dX2_startWatching_0 : decode cX2_startWatching 0 = .ok (.aload_n 0, 1) := by decide +kernel
theorem dX2_startWatching_1 : decode cX2_startWatching 1 = .ok (.invokevirtual 243, 3) := by decide +kernel
theorem dX2_startWatching_4 : decode cX2_startWatching 4 = .ok (.astore_n 1, 1) := by decide +kernel
theorem dX2_startWatching_5 : decode cX2_startWatching 5 = .ok (.aload_n 1, 1) := by decide +kernel
theorem dX2_startWatching_6 : decode cX2_startWatching 6 = .ok (.ifnonnull 5, 3) := by decide +kernel
theorem dX2_startWatching_9 : decode cX2_startWatching 9 = .ok (.iconst 0, 1) := by decide +kernel
theorem dX2_startWatching_10 : decode cX2_startWatching 10 = .ok (.ireturn, 1) := by decide +kernel
theorem dX2_startWatching_11 : decode cX2_startWatching 11 = .ok (.aload_n 1, 1) := by decide +kernel
theorem dX2_startWatching_12 : decode cX2_startWatching 12 = .ok (.iconst 1, 1) := by decide +kernel
theorem dX2_startWatching_13 : decode cX2_startWatching 13 = .ok (.putfield 156, 3) := by decide +kernel
theorem dX2_startWatching_16 : decode cX2_startWatching 16 = .ok (.aload_n 0, 1) := by decide +kernel
theorem dX2_startWatching_17 : decode cX2_startWatching 17 = .ok (.getfield 57, 3) := by decide +kernel
theorem dX2_startWatching_20 : decode cX2_startWatching 20 = .ok (.istore_n 2, 1) := by decide +kernel
theorem dX2_startWatching_21 : decode cX2_startWatching 21 = .ok (.aload_n 0, 1) := by decide +kernel
theorem dX2_startWatching_22 : decode cX2_startWatching 22 = .ok (.iconst 0, 1) := by decide +kernel
theorem dX2_startWatching_23 : decode cX2_startWatching 23 = .ok (.putfield 57, 3) := by decide +kernel
theorem dX2_startWatching_26 : decode cX2_startWatching 26 = .ok (.iload_n 2, 1) := by decide +kernel
theorem dX2_startWatching_27 : decode cX2_startWatching 27 = .ok (.ireturn, 1) := by decide +kernel
theorem dX2_isStoppedIn_0 : decode cX2_isStoppedIn 0 = .ok (.aload_n 2, 1) := by decide +kernel
theorem dX2_isStoppedIn_1 : decode cX2_isStoppedIn 1 = .ok (.iload_n 1, 1) := by decide +kernel
theorem dX2_isStoppedIn_2 : decode cX2_isStoppedIn 2 = .ok (.putfield 113, 3) := by decide +kernel
theorem dX2_isStoppedIn_5 : decode cX2_isStoppedIn 5 = .ok (.aload_n 0, 1) := by decide +kernel
theorem dX2_isStoppedIn_6 : decode cX2_isStoppedIn 6 = .ok (.getfield 12, 3) := by decide +kernel
theorem dX2_isStoppedIn_9 : decode cX2_isStoppedIn 9 = .ok (.iload_n 1, 1) := by decide +kernel
theorem dX2_isStoppedIn_10 : decode cX2_isStoppedIn 10 = .ok (.invokevirtual 264, 3) := by decide +kernel
theorem dX2_isStoppedIn_13 : decode cX2_isStoppedIn 13 = .ok (.iconst 4, 1) := by decide +kernel
theorem dX2_isStoppedIn_14 : decode cX2_isStoppedIn 14 = .ok (.if_icmp .ne 8, 3) := by decide +kernel
theorem dX2_isStoppedIn_17 : decode cX2_isStoppedIn 17 = .ok (.aload_n 2, 1) := by decide +kernel
theorem dX2_isStoppedIn_18 : decode cX2_isStoppedIn 18 = .ok (.iconst 2, 1) := by decide +kernel
theorem dX2_isStoppedIn_19 : decode cX2_isStoppedIn 19 = .ok (.putfield 159, 3) := by decide +kernel
theorem dX2_isStoppedIn_22 : decode cX2_isStoppedIn 22 = .ok (.iconst 0, 1) := by decide +kernel
theorem dX2_isStoppedIn_23 : decode cX2_isStoppedIn 23 = .ok (.istore_n 3, 1) := by decide +kernel
theorem dX2_isStoppedIn_24 : decode cX2_isStoppedIn 24 = .ok (.iload_n 3, 1) := by decide +kernel
theorem dX2_isStoppedIn_25 : decode cX2_isStoppedIn 25 = .ok (.aload_n 0, 1) := by decide +kernel
theorem dX2_isStoppedIn_26 : decode cX2_isStoppedIn 26 = .ok (.getfield 48, 3) := by decide +kernel
theorem dX2_isStoppedIn_29 : decode cX2_isStoppedIn 29 = .ok (.if_icmp .ge 75, 3) := by decide +kernel
theorem dX2_isStoppedIn_32 : decode cX2_isStoppedIn 32 = .ok (.aload_n 0, 1) := by decide +kernel
theorem dX2_isStoppedIn_33 : decode cX2_isStoppedIn 33 = .ok (.getfield 20, 3) := by decide +kernel
theorem dX2_isStoppedIn_36 : decode cX2_isStoppedIn 36 = .ok (.iload_n 3, 1) := by decide +kernel
theorem dX2_isStoppedIn_37 : decode cX2_isStoppedIn 37 = .ok (.aaload, 1) := by decide +kernel
theorem dX2_isStoppedIn_38 : decode cX2_isStoppedIn 38 = .ok (.astore 4, 2) := by decide +kernel
theorem dX2_isStoppedIn_40 : decode cX2_isStoppedIn 40 = .ok (.aload 4, 2) := by decide +kernel
theorem dX2_isStoppedIn_42 : decode cX2_isStoppedIn 42 = .ok (.getfield 156, 3) := by decide +kernel
theorem dX2_isStoppedIn_45 : decode cX2_isStoppedIn 45 = .ok (.ifCond .eq 53, 3) := by decide +kernel
theorem dX2_isStoppedIn_48 : decode cX2_isStoppedIn 48 = .ok (.aload 4, 2) := by decide +kernel
theorem dX2_isStoppedIn_50 : decode cX2_isStoppedIn 50 = .ok (.getfield 217, 3) := by decide +kernel
theorem dX2_isStoppedIn_53 : decode cX2_isStoppedIn 53 = .ok (.ifCond .le 45, 3) := by decide +kernel
theorem dX2_isStoppedIn_56 : decode cX2_isStoppedIn 56 = .ok (.aload_n 0, 1) := by decide +kernel
theorem dX2_isStoppedIn_57 : decode cX2_isStoppedIn 57 = .ok (.aload 4, 2) := by decide +kernel
theorem dX2_isStoppedIn_59 : decode cX2_isStoppedIn 59 = .ok (.aload_n 2, 1) := by decide +kernel
theorem dX2_isStoppedIn_60 : decode cX2_isStoppedIn 60 = .ok (.invokevirtual 207, 3) := by decide +kernel
theorem dX2_isStoppedIn_63 : decode cX2_isStoppedIn 63 = .ok (.ifCond .eq 35, 3) := by decide +kernel
theorem dX2_isStoppedIn_66 : decode cX2_isStoppedIn 66 = .ok (.aload 4, 2) := by decide +kernel
theorem dX2_isStoppedIn_68 : decode cX2_isStoppedIn 68 = .ok (.iconst 0, 1) := by decide +kernel
theorem dX2_isStoppedIn_69 : decode cX2_isStoppedIn 69 = .ok (.putfield 156, 3) := by decide +kernel
theorem dX2_isStoppedIn_72 : decode cX2_isStoppedIn 72 = .ok (.aload_n 0, 1) := by decide +kernel
theorem dX2_isStoppedIn_73 : decode cX2_isStoppedIn 73 = .ok (.getfield 41, 3) := by decide +kernel
theorem dX2_isStoppedIn_76 : decode cX2_isStoppedIn 76 = .ok (.bipush 7, 2) := by decide +kernel
theorem dX2_isStoppedIn_78 : decode cX2_isStoppedIn 78 = .ok (.iload_n 3, 1) := by decide +kernel
theorem dX2_isStoppedIn_79 : decode cX2_isStoppedIn 79 = .ok (.aload_n 2, 1) := by decide +kernel
theorem dX2_isStoppedIn_80 : decode cX2_isStoppedIn 80 = .ok (.getfield 143, 3) := by decide +kernel
theorem dX2_isStoppedIn_83 : decode cX2_isStoppedIn 83 = .ok (.invokevirtual 127, 3) := by decide +kernel
theorem dX2_isStoppedIn_86 : decode cX2_isStoppedIn 86 = .ok (.aload_n 0, 1) := by decide +kernel
theorem dX2_isStoppedIn_87 : decode cX2_isStoppedIn 87 = .ok (.aload 4, 2) := by decide +kernel
theorem dX2_isStoppedIn_89 : decode cX2_isStoppedIn 89 = .ok (.aload_n 2, 1) := by decide +kernel
theorem dX2_isStoppedIn_90 : decode cX2_isStoppedIn 90 = .ok (.invokevirtual 267, 3) := by decide +kernel
theorem dX2_isStoppedIn_93 : decode cX2_isStoppedIn 93 = .ok (.ifCond .le 5, 3) := by decide +kernel
theorem dX2_isStoppedIn_96 : decode cX2_isStoppedIn 96 = .ok (.iconst 1, 1) := by decide +kernel
theorem dX2_isStoppedIn_97 : decode cX2_isStoppedIn 97 = .ok (.ireturn, 1) := by decide +kernel
theorem dX2_isStoppedIn_98 : decode cX2_isStoppedIn 98 = .ok (.iinc 3 1, 3) := by decide +kernel
theorem dX2_isStoppedIn_101 : decode cX2_isStoppedIn 101 = .ok (.goto (-77), 3) := by decide +kernel
theorem dX2_isStoppedIn_104 : decode cX2_isStoppedIn 104 = .ok (.iconst 0, 1) := by decide +kernel
theorem dX2_isStoppedIn_105 : decode cX2_isStoppedIn 105 = .ok (.ireturn, 1) := by decide +kernel
theorem dX2_walk_0 : decode cX2_walk 0 = .ok (.aload_n 0, 1) := by decide +kernel
theorem dX2_walk_1 : decode cX2_walk 1 = .ok (.invokevirtual 243, 3) := by decide +kernel
theorem dX2_walk_4 : decode cX2_walk 4 = .ok (.astore_n 3, 1) := by decide +kernel
theorem dX2_walk_5 : decode cX2_walk 5 = .ok (.aload_n 3, 1) := by decide +kernel
theorem dX2_walk_6 : decode cX2_walk 6 = .ok (.ifnonnull 5, 3) := by decide +kernel
theorem dX2_walk_9 : decode cX2_walk 9 = .ok (.iconst (-1), 1) := by decide +kernel
theorem dX2_walk_10 : decode cX2_walk 10 = .ok (.ireturn, 1) := by decide +kernel
theorem dX2_walk_11 : decode cX2_walk 11 = .ok (.aload_n 0, 1) := by decide +kernel
theorem dX2_walk_12 : decode cX2_walk 12 = .ok (.dup, 1) := by decide +kernel
theorem dX2_walk_13 : decode cX2_walk 13 = .ok (.getfield 57, 3) := by decide +kernel
theorem dX2_walk_16 : decode cX2_walk 16 = .ok (.iconst 1, 1) := by decide +kernel
theorem dX2_walk_17 : decode cX2_walk 17 = .ok (.isub, 1) := by decide +kernel
theorem dX2_walk_18 : decode cX2_walk 18 = .ok (.putfield 57, 3) := by decide +kernel
theorem dX2_walk_21 : decode cX2_walk 21 = .ok (.aload_n 2, 1) := by decide +kernel
theorem dX2_walk_22 : decode cX2_walk 22 = .ok (.aload_n 0, 1) := by decide +kernel
theorem dX2_walk_23 : decode cX2_walk 23 = .ok (.iload_n 1, 1) := by decide +kernel
theorem dX2_walk_24 : decode cX2_walk 24 = .ok (.invokevirtual 247, 3) := by decide +kernel
theorem dX2_walk_27 : decode cX2_walk 27 = .ok (.iconst 0, 1) := by decide +kernel
theorem dX2_walk_28 : decode cX2_walk 28 = .ok (.istore 4, 2) := by decide +kernel
theorem dX2_walk_30 : decode cX2_walk 30 = .ok (.iconst 0, 1) := by decide +kernel
theorem dX2_walk_31 : decode cX2_walk 31 = .ok (.istore 5, 2) := by decide +kernel
theorem dX2_walk_33 : decode cX2_walk 33 = .ok (.iload 5, 2) := by decide +kernel
theorem dX2_walk_35 : decode cX2_walk 35 = .ok (.bipush 64, 2) := by decide +kernel
theorem dX2_walk_37 : decode cX2_walk 37 = .ok (.if_icmp .ge 58, 3) := by decide +kernel
theorem dX2_walk_40 : decode cX2_walk 40 = .ok (.iload 4, 2) := by decide +kernel
theorem dX2_walk_42 : decode cX2_walk 42 = .ok (.ifCond .ne 53, 3) := by decide +kernel
theorem dX2_walk_45 : decode cX2_walk 45 = .ok (.aload_n 3, 1) := by decide +kernel
theorem dX2_walk_46 : decode cX2_walk 46 = .ok (.getfield 113, 3) := by decide +kernel
theorem dX2_walk_49 : decode cX2_walk 49 = .ok (.iload_n 1, 1) := by decide +kernel
theorem dX2_walk_50 : decode cX2_walk 50 = .ok (.if_icmp .eq 45, 3) := by decide +kernel
theorem dX2_walk_53 : decode cX2_walk 53 = .ok (.aload_n 2, 1) := by decide +kernel
theorem dX2_walk_54 : decode cX2_walk 54 = .ok (.aload_n 0, 1) := by decide +kernel
theorem dX2_walk_55 : decode cX2_walk 55 = .ok (.getfield 12, 3) := by decide +kernel
theorem dX2_walk_58 : decode cX2_walk 58 = .ok (.aload_n 3, 1) := by decide +kernel
theorem dX2_walk_59 : decode cX2_walk 59 = .ok (.getfield 113, 3) := by decide +kernel
theorem dX2_walk_62 : decode cX2_walk 62 = .ok (.invokevirtual 253, 3) := by decide +kernel
theorem dX2_walk_65 : decode cX2_walk 65 = .ok (.istore 6, 2) := by decide +kernel
theorem dX2_walk_67 : decode cX2_walk 67 = .ok (.iload 6, 2) := by decide +kernel
theorem dX2_walk_69 : decode cX2_walk 69 = .ok (.ifCond .lt 13, 3) := by decide +kernel
theorem dX2_walk_72 : decode cX2_walk 72 = .ok (.aload_n 0, 1) := by decide +kernel
theorem dX2_walk_73 : decode cX2_walk 73 = .ok (.iload 6, 2) := by decide +kernel
theorem dX2_walk_75 : decode cX2_walk 75 = .ok (.aload_n 3, 1) := by decide +kernel
theorem dX2_walk_76 : decode cX2_walk 76 = .ok (.invokevirtual 257, 3) := by decide +kernel
theorem dX2_walk_79 : decode cX2_walk 79 = .ok (.ifCond .eq 7, 3) := by decide +kernel
theorem dX2_walk_82 : decode cX2_walk 82 = .ok (.iconst 1, 1) := by decide +kernel
theorem dX2_walk_83 : decode cX2_walk 83 = .ok (.goto 4, 3) := by decide +kernel
theorem dX2_walk_86 : decode cX2_walk 86 = .ok (.iconst 0, 1) := by decide +kernel
theorem dX2_walk_87 : decode cX2_walk 87 = .ok (.istore 4, 2) := by decide +kernel
theorem dX2_walk_89 : decode cX2_walk 89 = .ok (.iinc 5 1, 3) := by decide +kernel
theorem dX2_walk_92 : decode cX2_walk 92 = .ok (.goto (-59), 3) := by decide +kernel
theorem dX2_walk_95 : decode cX2_walk 95 = .ok (.aload_n 0, 1) := by decide +kernel
theorem dX2_walk_96 : decode cX2_walk 96 = .ok (.getfield 41, 3) := by decide +kernel
theorem dX2_walk_99 : decode cX2_walk 99 = .ok (.iconst 1, 1) := by decide +kernel
theorem dX2_walk_100 : decode cX2_walk 100 = .ok (.aload_n 3, 1) := by decide +kernel
theorem dX2_walk_101 : decode cX2_walk 101 = .ok (.getfield 143, 3) := by decide +kernel
theorem dX2_walk_104 : decode cX2_walk 104 = .ok (.aload_n 3, 1) := by decide +kernel
theorem dX2_walk_105 : decode cX2_walk 105 = .ok (.getfield 113, 3) := by decide +kernel
theorem dX2_walk_108 : decode cX2_walk 108 = .ok (.invokevirtual 127, 3) := by decide +kernel
theorem dX2_walk_111 : decode cX2_walk 111 = .ok (.aload_n 0, 1) := by decide +kernel
theorem dX2_walk_112 : decode cX2_walk 112 = .ok (.aload_n 3, 1) := by decide +kernel
theorem dX2_walk_113 : decode cX2_walk 113 = .ok (.invokevirtual 261, 3) := by decide +kernel
theorem dX2_walk_116 : decode cX2_walk 116 = .ok (.aload_n 3, 1) := by decide +kernel
theorem dX2_walk_117 : decode cX2_walk 117 = .ok (.getfield 113, 3) := by decide +kernel
theorem dX2_walk_120 : decode cX2_walk 120 = .ok (.ireturn, 1) := by decide +kernel
theorem dX2_carryOut_0 : decode cX2_carryOut 0 = .ok (.iload_n 1, 1) := by decide +kernel
theorem dX2_carryOut_1 : decode cX2_carryOut 1 = .ok (.tableswitch 73 0 5 #[39, 46, 52, 58, 63, 68], 39) := by decide +kernel
theorem dX2_carryOut_40 : decode cX2_carryOut 40 = .ok (.aload_n 0, 1) := by decide +kernel
theorem dX2_carryOut_41 : decode cX2_carryOut 41 = .ok (.iload_n 2, 1) := by decide +kernel
theorem dX2_carryOut_42 : decode cX2_carryOut 42 = .ok (.aload_n 3, 1) := by decide +kernel
theorem dX2_carryOut_43 : decode cX2_carryOut 43 = .ok (.invokevirtual 220, 3) := by decide +kernel
theorem dX2_carryOut_46 : decode cX2_carryOut 46 = .ok (.ireturn, 1) := by decide +kernel
theorem dX2_carryOut_47 : decode cX2_carryOut 47 = .ok (.aload_n 0, 1) := by decide +kernel
theorem dX2_carryOut_48 : decode cX2_carryOut 48 = .ok (.iload_n 2, 1) := by decide +kernel
theorem dX2_carryOut_49 : decode cX2_carryOut 49 = .ok (.invokevirtual 224, 3) := by decide +kernel
theorem dX2_carryOut_52 : decode cX2_carryOut 52 = .ok (.ireturn, 1) := by decide +kernel
theorem dX2_carryOut_53 : decode cX2_carryOut 53 = .ok (.aload_n 0, 1) := by decide +kernel
theorem dX2_carryOut_54 : decode cX2_carryOut 54 = .ok (.iload_n 2, 1) := by decide +kernel
theorem dX2_carryOut_55 : decode cX2_carryOut 55 = .ok (.invokevirtual 227, 3) := by decide +kernel
theorem dX2_carryOut_58 : decode cX2_carryOut 58 = .ok (.ireturn, 1) := by decide +kernel
theorem dX2_carryOut_59 : decode cX2_carryOut 59 = .ok (.aload_n 0, 1) := by decide +kernel
theorem dX2_carryOut_60 : decode cX2_carryOut 60 = .ok (.invokevirtual 230, 3) := by decide +kernel
theorem dX2_carryOut_63 : decode cX2_carryOut 63 = .ok (.ireturn, 1) := by decide +kernel
theorem dX2_carryOut_64 : decode cX2_carryOut 64 = .ok (.aload_n 0, 1) := by decide +kernel
theorem dX2_carryOut_65 : decode cX2_carryOut 65 = .ok (.invokevirtual 234, 3) := by decide +kernel
theorem dX2_carryOut_68 : decode cX2_carryOut 68 = .ok (.ireturn, 1) := by decide +kernel
theorem dX2_carryOut_69 : decode cX2_carryOut 69 = .ok (.aload_n 0, 1) := by decide +kernel
theorem dX2_carryOut_70 : decode cX2_carryOut 70 = .ok (.invokevirtual 237, 3) := by decide +kernel
theorem dX2_carryOut_73 : decode cX2_carryOut 73 = .ok (.ireturn, 1) := by decide +kernel
theorem dX2_carryOut_74 : decode cX2_carryOut 74 = .ok (.aload_n 0, 1) := by decide +kernel
theorem dX2_carryOut_75 : decode cX2_carryOut 75 = .ok (.invokevirtual 240, 3) := by decide +kernel
theorem dX2_carryOut_78 : decode cX2_carryOut 78 = .ok (.ireturn, 1) := by decide +kernel
abbrev rmX2_finishTurn : Room := { frames := 4, cells := 0, slots := 0, locals := 126 }
def wX2_finishTurn_0 (Q : Int32 → MS → Prop) (QX : String → MS → Prop) (S : MS) (a0 : Nat) : Prop := wp_X2_onTurn (fun r2 S1 => ((r2 = none → Q (-1) S1) ∧ (∀ a3, r2 = some a3 → wp_X7_shortenStatuses (fun S4 => wp_X2_passTurn (fun S5 => Q (mI S5 a0 6) S5) QX S4 a0) QX S1 a3))) QX S a0
set_option maxHeartbeats 4000000 in
set_option maxRecDepth 100000 in
theorem tX2_finishTurn_0 {p : Program} {l : Launch} {e : Env} {s : State} {m : MethodId} {args : Array Value} {below : List Frame} {meth : Method} {c : Code} {H : Heap} {locs : List Loc} {cells slots : Nat} {G : GP} {A : Nat → Prop} {S0 : MS} {ls : Array Slot} (C : CF p l s m args meth c "SkirmishGrid$Fight" cX2_finishTurn 2 G A) (hr : meth.sig.returnType = (some .int)) (hex : ∀ x ∈ c.exceptionTable.toList, False) (Q : Int32 → MS → Prop) (QX : String → MS → Prop) (S : MS) (a0 : Nat) (p_a0 : pI S 2 a0) (P : PW G A s H locs S0 S) (hl : lv_has ls 2 [(0, .ref a0)]) (hcc : cells + 0 ≤ 0) (hss : slots + 0 ≤ 0) (hw : wX2_finishTurn_0 Q QX S a0) : W p l e rmX2_finishTurn s m args below meth c H locs cells slots (vx_MQ below (QI G S0 A Q) (XX G S0 A QX) args s 0 0 A) (F0 m 0 ls []) := by
  have hx := CF_x C
  have hb := CF_b C
  unfold wX2_finishTurn_0 at hw
  refine lv_aload_n hx hb dX2_finishTurn_0 rfl (lv_at hl 0 rfl) ?_
  refine cl_q C P (run_V C P hl.1 (kd := 2) (met_X2_onTurn (CF_n C) G H.size _ _ S a0 p_a0 hw) p_a0 (by decide) rfl q_1056 q_879 q_880 q_2 q_881 cd_X2_onTurn ⟨(Nat.le_of_ble_eq_true rfl), (Nat.le_of_ble_eq_true rfl)⟩ rfl rfl (As := []) (rest := []) rfl rfl (Nat.le_of_ble_eq_true rfl) dX2_finishTurn_1 ⟨by show cells + 0 ≤ 0; omega, by show slots + 0 ≤ 0; omega⟩) (kx_out C hex (fun _ _ _ h => h) (by omega) (by omega)) (fun r2 S1 H locs P hE hw hR => ?_)
  have p_a0 : pI S1 2 a0 := pI_x hE p_a0
  cases r2 with
  | none =>
    have hw := hw.1 rfl
    refine lv_astore_nN (lv' := [(1, .null), (0, .ref a0)]) hx hb dX2_finishTurn_4 rfl hl (by decide) rfl (fun ls hl => ?_)
    refine lv_aload_nN hx hb dX2_finishTurn_5 rfl (lv_at hl 0 rfl) ?_
    refine lv_ifnonnullN hx hb dX2_finishTurn_6 ?_
    refine lv_iconst (v := (-1)) hx hb dX2_finishTurn_9 (by decide) ?_
    exact e_i C hr rfl P hw (by omega) (by omega) dX2_finishTurn_10
  | some a3 =>
    have hw := hw.2 a3 rfl
    have p_a3 : pI S1 7 a3 := hR a3 rfl
    refine lv_astore_n (lv' := [(1, .ref a3), (0, .ref a0)]) hx hb dX2_finishTurn_4 rfl hl (by decide) rfl (fun ls hl => ?_)
    refine lv_aload_n hx hb dX2_finishTurn_5 rfl (lv_at hl 0 rfl) ?_
    refine lv_ifnonnull (tgt := 11) hx hb dX2_finishTurn_6 (by decide) ?_
    refine lv_aload_n hx hb dX2_finishTurn_11 rfl (lv_at hl 0 rfl) ?_
    refine cl_v C P (run_V C P hl.1 (kd := 7) (met_X7_shortenStatuses (CF_n C) G H.size _ _ S1 a3 p_a3 hw) p_a3 (by decide) rfl q_1155 q_1156 q_1157 q_5 q_1158 cd_X7_shortenStatuses ⟨(Nat.le_of_ble_eq_true rfl), (Nat.le_of_ble_eq_true rfl)⟩ rfl rfl (As := []) (rest := []) rfl rfl (Nat.le_of_ble_eq_true rfl) dX2_finishTurn_12 ⟨by show cells + 0 ≤ 0; omega, by show slots + 0 ≤ 0; omega⟩) (kx_out C hex (fun _ _ _ h => h) (by omega) (by omega)) (fun S4 H locs P hE hw => ?_)
    have p_a0 : pI S4 2 a0 := pI_x hE p_a0
    have p_a3 : pI S4 7 a3 := pI_x hE p_a3
    refine lv_aload_n hx hb dX2_finishTurn_15 rfl (lv_at hl 1 rfl) ?_
    refine cl_v C P (run_V C P hl.1 (kd := 2) (met_X2_passTurn (CF_n C) G H.size _ _ S4 a0 p_a0 hw) p_a0 (by decide) rfl q_858 q_860 q_p7 q_2 q_861 cd_X2_passTurn ⟨(Nat.le_of_ble_eq_true rfl), (Nat.le_of_ble_eq_true rfl)⟩ rfl rfl (As := []) (rest := []) rfl rfl (Nat.le_of_ble_eq_true rfl) dX2_finishTurn_16 ⟨by show cells + 0 ≤ 0; omega, by show slots + 0 ≤ 0; omega⟩) (kx_out C hex (fun _ _ _ h => h) (by omega) (by omega)) (fun S5 H locs P hE hw => ?_)
    have p_a0 : pI S5 2 a0 := pI_x hE p_a0
    refine lv_aload_n hx hb dX2_finishTurn_19 rfl (lv_at hl 1 rfl) ?_
    refine gf_2_6 C P p_a0 q_177 dX2_finishTurn_20 ?_
    exact e_i C hr rfl P hw (by omega) (by omega) dX2_finishTurn_23
def wp_X2_finishTurn (Q : Int32 → MS → Prop) (QX : String → MS → Prop) (S : MS) (a0 : Nat) : Prop := wX2_finishTurn_0 Q QX S a0
set_option maxHeartbeats 4000000 in
set_option maxRecDepth 100000 in
theorem met_X2_finishTurn {l : Launch} (hst : l.stackTraces = false) (G : GP) (sz : Nat) (Q : Int32 → MS → Prop) (QX : String → MS → Prop) (S : MS) (a0 : Nat) (p_a0 : pI S 2 a0) (hw : wp_X2_finishTurn Q QX S a0) : vx_Met l yX2_finishTurn (.code yX2_finishTurn cX2_finishTurn 2 (some .int) :: GW) rmX2_finishTurn (va_Pc [.ref a0] (PR G S sz)) (QI G S (FA G S sz) Q) (XX G S (FA G S sz) QX) 0 0 (FA G S sz) := by
  refine st_m (by decide +kernel) hst (fun p e s m below meth c C hr hnm hex P => ?_)
  refine en_m (Nat.le_of_ble_eq_true rfl) (lv := [(0, .ref a0)]) rfl (fun ls hl => ?_)
  have C : CF p l s m _ meth c "SkirmishGrid$Fight" cX2_finishTurn 2 G (FA G S sz) := C
  exact tX2_finishTurn_0 C hr hex Q QX S a0 p_a0 P hl (by omega) (by omega) hw
theorem cd_X2_finishTurn : yX2_finishTurn.cls = RX2 ∧ yX2_finishTurn.cls ≠ "java/lang/invoke/MethodHandle" ∧ yX2_finishTurn.cls ≠ "java/lang/invoke/VarHandle" ∧ (parseMethodDescriptor yX2_finishTurn.desc).map (fun d => d.parameters.length) = some 0 := by decide +kernel
abbrev rmX2_suffer : Room := { frames := 2, cells := 0, slots := 0, locals := 83 }
def wX2_suffer_0 (Q : MS → Prop) (QX : String → MS → Prop) (S : MS) (a0 : Nat) (b1 : Nat) : Prop := wp_X7_lose (fun S1 => wp_X7_lives (fun r3 S2 => ((¬ r3 = 0 → wp_X2_rollDie (fun r5 S4 => ((r5 < 5 → Q S4) ∧ (¬ r5 < 5 → ((¬ (mI S4 b1 9) = 0 → Q S4) ∧ ((mI S4 b1 9) = 0 → (∀ S6, S6 = (sI S4 b1 9 1) → (∃ a7, mR S6 a0 11 = some a7 ∧ wp_X1_note (fun S8 => Q S8) QX S6 a7 6 (mI S6 b1 0) 1))))))) QX S2 a0 6) ∧ (r3 = 0 → (∃ a9, mR S2 a0 11 = some a9 ∧ wp_X1_note (fun S10 => Q S10) QX S2 a9 4 (mI S2 b1 0) 0)))) QX S1 b1) QX S b1 3
set_option maxHeartbeats 4000000 in
set_option maxRecDepth 100000 in
theorem tX2_suffer_0 {p : Program} {l : Launch} {e : Env} {s : State} {m : MethodId} {args : Array Value} {below : List Frame} {meth : Method} {c : Code} {H : Heap} {locs : List Loc} {cells slots : Nat} {G : GP} {A : Nat → Prop} {S0 : MS} {ls : Array Slot} (C : CF p l s m args meth c "SkirmishGrid$Fight" cX2_suffer 2 G A) (hr : meth.sig.returnType = none) (hex : ∀ x ∈ c.exceptionTable.toList, False) (Q : MS → Prop) (QX : String → MS → Prop) (S : MS) (a0 : Nat) (b1 : Nat) (p_a0 : pI S 2 a0) (p_b1 : pI S 7 b1) (P : PW G A s H locs S0 S) (hl : lv_has ls 2 [(0, .ref a0), (1, .ref b1)]) (hcc : cells + 0 ≤ 0) (hss : slots + 0 ≤ 0) (hw : wX2_suffer_0 Q QX S a0 b1) : W p l e rmX2_suffer s m args below meth c H locs cells slots (vx_MQ below (QV G S0 A Q) (XX G S0 A QX) args s 0 0 A) (F0 m 0 ls []) := by
  have hx := CF_x C
  have hb := CF_b C
  unfold wX2_suffer_0 at hw
  refine lv_aload_n hx hb dX2_suffer_0 rfl (lv_at hl 1 rfl) ?_
  refine lv_iconst (v := 3) hx hb dX2_suffer_1 (by decide) ?_
  refine cl_v C P (run_V C P hl.1 (kd := 7) (met_X7_lose (CF_n C) G H.size _ _ S b1 3 p_b1 hw) p_b1 (by decide) rfl q_867 q_868 q_869 q_5 q_870 cd_X7_lose ⟨(Nat.le_of_ble_eq_true rfl), (Nat.le_of_ble_eq_true rfl)⟩ rfl rfl (As := [.int 3]) (rest := []) rfl rfl (Nat.le_of_ble_eq_true rfl) dX2_suffer_2 ⟨by show cells + 0 ≤ 0; omega, by show slots + 0 ≤ 0; omega⟩) (kx_out C hex (fun _ _ _ h => h) (by omega) (by omega)) (fun S1 H locs P hE hw => ?_)
  have p_a0 : pI S1 2 a0 := pI_x hE p_a0
  have p_b1 : pI S1 7 b1 := pI_x hE p_b1
  refine lv_aload_n hx hb dX2_suffer_5 rfl (lv_at hl 1 rfl) ?_
  refine cl_i C P (run_V C P hl.1 (kd := 7) (met_X7_lives (CF_n C) G H.size _ _ S1 b1 p_b1 hw) p_b1 (by decide) rfl q_355 q_356 q_357 q_5 q_358 cd_X7_lives ⟨(Nat.le_of_ble_eq_true rfl), (Nat.le_of_ble_eq_true rfl)⟩ rfl rfl (As := []) (rest := []) rfl rfl (Nat.le_of_ble_eq_true rfl) dX2_suffer_6 ⟨by show cells + 0 ≤ 0; omega, by show slots + 0 ≤ 0; omega⟩) (kx_out C hex (fun _ _ _ h => h) (by omega) (by omega)) (fun r3 S2 H locs P hE hw => ?_)
  have p_a0 : pI S2 2 a0 := pI_x hE p_a0
  have p_b1 : pI S2 7 b1 := pI_x hE p_b1
  refine lv_if_ne (tgt := 28) hx hb dX2_suffer_9 (by decide) (fun hc => ?_) (fun hc => ?_)
  · have hw := hw.1 hc
    refine lv_aload_n hx hb dX2_suffer_28 rfl (lv_at hl 0 rfl) ?_
    refine lv_bipush (v := 6) hx hb dX2_suffer_29 (by decide) ?_
    refine cl_i C P (run_V C P hl.1 (kd := 2) (met_X2_rollDie (CF_n C) G H.size _ _ S2 a0 6 p_a0 hw) p_a0 (by decide) rfl q_847 q_849 q_p5 q_2 q_850 cd_X2_rollDie ⟨(Nat.le_of_ble_eq_true rfl), (Nat.le_of_ble_eq_true rfl)⟩ rfl rfl (As := [.int 6]) (rest := []) rfl rfl (Nat.le_of_ble_eq_true rfl) dX2_suffer_31 ⟨by show cells + 0 ≤ 0; omega, by show slots + 0 ≤ 0; omega⟩) (kx_out C hex (fun _ _ _ h => h) (by omega) (by omega)) (fun r5 S4 H locs P hE hw => ?_)
    have p_a0 : pI S4 2 a0 := pI_x hE p_a0
    have p_b1 : pI S4 7 b1 := pI_x hE p_b1
    refine lv_iconst (v := 5) hx hb dX2_suffer_34 (by decide) ?_
    refine lv_icmp_lt (tgt := 64) hx hb dX2_suffer_35 (by decide) (fun hc => ?_) (fun hc => ?_)
    · have hw := hw.1 hc
      exact e_v C hr P hw (by omega) (by omega) dX2_suffer_64
    · have hw := hw.2 hc
      refine lv_aload_n hx hb dX2_suffer_38 rfl (lv_at hl 1 rfl) ?_
      refine gf_7_9 C P p_b1 q_124 dX2_suffer_39 ?_
      refine lv_if_ne (tgt := 64) hx hb dX2_suffer_42 (by decide) (fun hc => ?_) (fun hc => ?_)
      · have hw := hw.1 hc
        exact e_v C hr P hw (by omega) (by omega) dX2_suffer_64
      · have hw := hw.2 hc
        refine lv_aload_n hx hb dX2_suffer_45 rfl (lv_at hl 1 rfl) ?_
        refine lv_iconst (v := 1) hx hb dX2_suffer_46 (by decide) ?_
        refine pf_7_9 C P p_b1 q_124 dX2_suffer_47 (fun H locs P => ?_)
        obtain ⟨S6, hS⟩ : ∃ z, z = (sI S4 b1 9 1) := ⟨_, rfl⟩
        have P : PW G A s H locs S0 S6 := by rw [hS]; exact P
        have p_a0 : pI S6 2 a0 := by rw [hS]; exact pI_x ext_sI p_a0
        have p_b1 : pI S6 7 b1 := by rw [hS]; exact pI_x ext_sI p_b1
        have hw := hw S6 hS
        refine lv_aload_n hx hb dX2_suffer_50 rfl (lv_at hl 0 rfl) ?_
        obtain ⟨a7, e1, hw⟩ := hw
        have p_a7 : pI S6 1 a7 := wf_r P.2.2.2.1 p_a0 e1
        refine gf_2_11 C P p_a0 e1 q_185 dX2_suffer_51 ?_
        refine lv_bipush (v := 6) hx hb dX2_suffer_54 (by decide) ?_
        refine lv_aload_n hx hb dX2_suffer_56 rfl (lv_at hl 1 rfl) ?_
        refine gf_7_0 C P p_b1 q_95 dX2_suffer_57 ?_
        refine lv_iconst (v := 1) hx hb dX2_suffer_60 (by decide) ?_
        refine cl_v C P (run_V C P hl.1 (kd := 1) (met_X1_note (CF_n C) G H.size _ _ S6 a7 6 (mI S6 b1 0) 1 p_a7 hw) p_a7 (by decide) rfl q_843 q_844 q_845 q_4 q_846 cd_X1_note ⟨(Nat.le_of_ble_eq_true rfl), (Nat.le_of_ble_eq_true rfl)⟩ rfl rfl (As := [.int 6, .int (mI S6 b1 0), .int 1]) (rest := []) rfl rfl (Nat.le_of_ble_eq_true rfl) dX2_suffer_61 ⟨by show cells + 0 ≤ 0; omega, by show slots + 0 ≤ 0; omega⟩) (kx_out C hex (fun _ _ _ h => h) (by omega) (by omega)) (fun S8 H locs P hE hw => ?_)
        have p_a7 : pI S8 1 a7 := pI_x hE p_a7
        exact e_v C hr P hw (by omega) (by omega) dX2_suffer_64
  · have hw := hw.2 hc
    refine lv_aload_n hx hb dX2_suffer_12 rfl (lv_at hl 0 rfl) ?_
    obtain ⟨a9, e1, hw⟩ := hw
    have p_a9 : pI S2 1 a9 := wf_r P.2.2.2.1 p_a0 e1
    refine gf_2_11 C P p_a0 e1 q_185 dX2_suffer_13 ?_
    refine lv_iconst (v := 4) hx hb dX2_suffer_16 (by decide) ?_
    refine lv_aload_n hx hb dX2_suffer_17 rfl (lv_at hl 1 rfl) ?_
    refine gf_7_0 C P p_b1 q_95 dX2_suffer_18 ?_
    refine lv_iconst (v := 0) hx hb dX2_suffer_21 (by decide) ?_
    refine cl_v C P (run_V C P hl.1 (kd := 1) (met_X1_note (CF_n C) G H.size _ _ S2 a9 4 (mI S2 b1 0) 0 p_a9 hw) p_a9 (by decide) rfl q_843 q_844 q_845 q_4 q_846 cd_X1_note ⟨(Nat.le_of_ble_eq_true rfl), (Nat.le_of_ble_eq_true rfl)⟩ rfl rfl (As := [.int 4, .int (mI S2 b1 0), .int 0]) (rest := []) rfl rfl (Nat.le_of_ble_eq_true rfl) dX2_suffer_22 ⟨by show cells + 0 ≤ 0; omega, by show slots + 0 ≤ 0; omega⟩) (kx_out C hex (fun _ _ _ h => h) (by omega) (by omega)) (fun S10 H locs P hE hw => ?_)
    have p_a9 : pI S10 1 a9 := pI_x hE p_a9
    refine lv_goto (tgt := 64) hx hb dX2_suffer_25 (by decide) ?_
    exact e_v C hr P hw (by omega) (by omega) dX2_suffer_64
def wp_X2_suffer (Q : MS → Prop) (QX : String → MS → Prop) (S : MS) (a0 : Nat) (b1 : Nat) : Prop := wX2_suffer_0 Q QX S a0 b1
set_option maxHeartbeats 4000000 in
set_option maxRecDepth 100000 in
theorem met_X2_suffer {l : Launch} (hst : l.stackTraces = false) (G : GP) (sz : Nat) (Q : MS → Prop) (QX : String → MS → Prop) (S : MS) (a0 : Nat) (b1 : Nat) (p_a0 : pI S 2 a0) (p_b1 : pI S 7 b1) (hw : wp_X2_suffer Q QX S a0 b1) : vx_Met l yX2_suffer (.code yX2_suffer cX2_suffer 2 none :: GW) rmX2_suffer (va_Pc [.ref a0, .ref b1] (PR G S sz)) (QV G S (FA G S sz) Q) (XX G S (FA G S sz) QX) 0 0 (FA G S sz) := by
  refine st_m (by decide +kernel) hst (fun p e s m below meth c C hr hnm hex P => ?_)
  refine en_m (Nat.le_of_ble_eq_true rfl) (lv := [(0, .ref a0), (1, .ref b1)]) rfl (fun ls hl => ?_)
  have C : CF p l s m _ meth c "SkirmishGrid$Fight" cX2_suffer 2 G (FA G S sz) := C
  exact tX2_suffer_0 C hr hex Q QX S a0 b1 p_a0 p_b1 P hl (by omega) (by omega) hw
theorem cd_X2_suffer : yX2_suffer.cls = RX2 ∧ yX2_suffer.cls ≠ "java/lang/invoke/MethodHandle" ∧ yX2_suffer.cls ≠ "java/lang/invoke/VarHandle" ∧ (parseMethodDescriptor yX2_suffer.desc).map (fun d => d.parameters.length) = some 1 := by decide +kernel
abbrev rmX2_canHurl : Room := { frames := 3, cells := 0, slots := 0, locals := 114 }
def wX2_canHurl_0 (Q : Int32 → MS → Prop) (QX : String → MS → Prop) (S : MS) (a0 : Nat) (b1 : Nat) (x2 : Int32) : Prop := (∃ a1, mR S a0 0 = some a1 ∧ wp_X3_ground (fun r3 S2 => ((r3 = 1 → Q 0 S2) ∧ (¬ r3 = 1 → (∃ a4, mR S2 a0 0 = some a4 ∧ wp_X3_distance (fun r6 S5 => ((4 < r6 → Q 0 S5) ∧ (¬ 4 < r6 → (∃ a7, mR S5 a0 0 = some a7 ∧ wp_X3_isClear (fun r9 S8 => ((r9 = 0 → Q 0 S8) ∧ (¬ r9 = 0 → Q 1 S8))) QX S5 a7 (mI S5 b1 4) x2)))) QX S2 a4 (mI S2 b1 4) x2)))) QX S a1 x2)
set_option maxHeartbeats 4000000 in
set_option maxRecDepth 100000 in
theorem tX2_canHurl_0 {p : Program} {l : Launch} {e : Env} {s : State} {m : MethodId} {args : Array Value} {below : List Frame} {meth : Method} {c : Code} {H : Heap} {locs : List Loc} {cells slots : Nat} {G : GP} {A : Nat → Prop} {S0 : MS} {ls : Array Slot} (C : CF p l s m args meth c "SkirmishGrid$Fight" cX2_canHurl 3 G A) (hr : meth.sig.returnType = (some .boolean)) (hex : ∀ x ∈ c.exceptionTable.toList, False) (Q : Int32 → MS → Prop) (QX : String → MS → Prop) (S : MS) (a0 : Nat) (b1 : Nat) (x2 : Int32) (p_a0 : pI S 2 a0) (p_b1 : pI S 7 b1) (P : PW G A s H locs S0 S) (hl : lv_has ls 3 [(0, .ref a0), (1, .ref b1), (2, .int x2)]) (hcc : cells + 0 ≤ 0) (hss : slots + 0 ≤ 0) (hw : wX2_canHurl_0 Q QX S a0 b1 x2) : W p l e rmX2_canHurl s m args below meth c H locs cells slots (vx_MQ below (QI G S0 A Q) (XX G S0 A QX) args s 0 0 A) (F0 m 0 ls []) := by
  have hx := CF_x C
  have hb := CF_b C
  unfold wX2_canHurl_0 at hw
  refine lv_aload_n hx hb dX2_canHurl_0 rfl (lv_at hl 0 rfl) ?_
  obtain ⟨a1, e1, hw⟩ := hw
  have p_a1 : pI S 3 a1 := wf_r P.2.2.2.1 p_a0 e1
  refine gf_2_0 C P p_a0 e1 q_161 dX2_canHurl_1 ?_
  refine lv_iload_n hx hb dX2_canHurl_4 rfl (lv_at hl 2 rfl) ?_
  refine cl_i C P (run_V C P hl.1 (kd := 3) (met_X3_ground (CF_n C) G H.size _ _ S a1 x2 p_a1 hw) p_a1 (by decide) rfl q_1063 q_702 q_703 q_3 q_704 cd_X3_ground ⟨(Nat.le_of_ble_eq_true rfl), (Nat.le_of_ble_eq_true rfl)⟩ rfl rfl (As := [.int x2]) (rest := []) rfl rfl (Nat.le_of_ble_eq_true rfl) dX2_canHurl_5 ⟨by show cells + 0 ≤ 0; omega, by show slots + 0 ≤ 0; omega⟩) (kx_out C hex (fun _ _ _ h => h) (by omega) (by omega)) (fun r3 S2 H locs P hE hw => ?_)
  have p_a0 : pI S2 2 a0 := pI_x hE p_a0
  have p_b1 : pI S2 7 b1 := pI_x hE p_b1
  have p_a1 : pI S2 3 a1 := pI_x hE p_a1
  refine lv_iconst (v := 1) hx hb dX2_canHurl_8 (by decide) ?_
  refine lv_icmp_eq (tgt := 47) hx hb dX2_canHurl_9 (by decide) (fun hc => ?_) (fun hc => ?_)
  · have hw := hw.1 hc
    refine lv_iconst (v := 0) hx hb dX2_canHurl_47 (by decide) ?_
    exact e_i C hr (by decide +kernel) P hw (by omega) (by omega) dX2_canHurl_48
  · have hw := hw.2 hc
    refine lv_aload_n hx hb dX2_canHurl_12 rfl (lv_at hl 0 rfl) ?_
    obtain ⟨a4, e1, hw⟩ := hw
    have p_a4 : pI S2 3 a4 := wf_r P.2.2.2.1 p_a0 e1
    refine gf_2_0 C P p_a0 e1 q_161 dX2_canHurl_13 ?_
    refine lv_aload_n hx hb dX2_canHurl_16 rfl (lv_at hl 1 rfl) ?_
    refine gf_7_4 C P p_b1 q_107 dX2_canHurl_17 ?_
    refine lv_iload_n hx hb dX2_canHurl_20 rfl (lv_at hl 2 rfl) ?_
    refine cl_i C P (run_V C P hl.1 (kd := 3) (met_X3_distance (CF_n C) G H.size _ _ S2 a4 (mI S2 b1 4) x2 p_a4 hw) p_a4 (by decide) rfl q_965 q_966 q_967 q_3 q_968 cd_X3_distance ⟨(Nat.le_of_ble_eq_true rfl), (Nat.le_of_ble_eq_true rfl)⟩ rfl rfl (As := [.int (mI S2 b1 4), .int x2]) (rest := []) rfl rfl (Nat.le_of_ble_eq_true rfl) dX2_canHurl_21 ⟨by show cells + 0 ≤ 0; omega, by show slots + 0 ≤ 0; omega⟩) (kx_out C hex (fun _ _ _ h => h) (by omega) (by omega)) (fun r6 S5 H locs P hE hw => ?_)
    have p_a0 : pI S5 2 a0 := pI_x hE p_a0
    have p_b1 : pI S5 7 b1 := pI_x hE p_b1
    have p_a4 : pI S5 3 a4 := pI_x hE p_a4
    refine lv_iconst (v := 4) hx hb dX2_canHurl_24 (by decide) ?_
    refine lv_icmp_gt (tgt := 47) hx hb dX2_canHurl_25 (by decide) (fun hc => ?_) (fun hc => ?_)
    · have hw := hw.1 hc
      refine lv_iconst (v := 0) hx hb dX2_canHurl_47 (by decide) ?_
      exact e_i C hr (by decide +kernel) P hw (by omega) (by omega) dX2_canHurl_48
    · have hw := hw.2 hc
      refine lv_aload_n hx hb dX2_canHurl_28 rfl (lv_at hl 0 rfl) ?_
      obtain ⟨a7, e1, hw⟩ := hw
      have p_a7 : pI S5 3 a7 := wf_r P.2.2.2.1 p_a0 e1
      refine gf_2_0 C P p_a0 e1 q_161 dX2_canHurl_29 ?_
      refine lv_aload_n hx hb dX2_canHurl_32 rfl (lv_at hl 1 rfl) ?_
      refine gf_7_4 C P p_b1 q_107 dX2_canHurl_33 ?_
      refine lv_iload_n hx hb dX2_canHurl_36 rfl (lv_at hl 2 rfl) ?_
      refine cl_i C P (run_V C P hl.1 (kd := 3) (met_X3_isClear (CF_n C) G H.size _ _ S5 a7 (mI S5 b1 4) x2 p_a7 hw) p_a7 (by decide) rfl q_972 q_742 q_743 q_3 q_744 cd_X3_isClear ⟨(Nat.le_of_ble_eq_true rfl), (Nat.le_of_ble_eq_true rfl)⟩ rfl rfl (As := [.int (mI S5 b1 4), .int x2]) (rest := []) rfl rfl (Nat.le_of_ble_eq_true rfl) dX2_canHurl_37 ⟨by show cells + 0 ≤ 0; omega, by show slots + 0 ≤ 0; omega⟩) (kx_out C hex (fun _ _ _ h => h) (by omega) (by omega)) (fun r9 S8 H locs P hE hw => ?_)
      have p_a7 : pI S8 3 a7 := pI_x hE p_a7
      refine lv_if_eq (tgt := 47) hx hb dX2_canHurl_40 (by decide) (fun hc => ?_) (fun hc => ?_)
      · have hw := hw.1 hc
        refine lv_iconst (v := 0) hx hb dX2_canHurl_47 (by decide) ?_
        exact e_i C hr (by decide +kernel) P hw (by omega) (by omega) dX2_canHurl_48
      · have hw := hw.2 hc
        refine lv_iconst (v := 1) hx hb dX2_canHurl_43 (by decide) ?_
        refine lv_goto (tgt := 48) hx hb dX2_canHurl_44 (by decide) ?_
        exact e_i C hr (by decide +kernel) P hw (by omega) (by omega) dX2_canHurl_48
def wp_X2_canHurl (Q : Int32 → MS → Prop) (QX : String → MS → Prop) (S : MS) (a0 : Nat) (b1 : Nat) (x2 : Int32) : Prop := wX2_canHurl_0 Q QX S a0 b1 x2
set_option maxHeartbeats 4000000 in
set_option maxRecDepth 100000 in
theorem met_X2_canHurl {l : Launch} (hst : l.stackTraces = false) (G : GP) (sz : Nat) (Q : Int32 → MS → Prop) (QX : String → MS → Prop) (S : MS) (a0 : Nat) (b1 : Nat) (x2 : Int32) (p_a0 : pI S 2 a0) (p_b1 : pI S 7 b1) (hw : wp_X2_canHurl Q QX S a0 b1 x2) : vx_Met l yX2_canHurl (.code yX2_canHurl cX2_canHurl 3 (some .boolean) :: GW) rmX2_canHurl (va_Pc [.ref a0, .ref b1, .int x2] (PR G S sz)) (QI G S (FA G S sz) Q) (XX G S (FA G S sz) QX) 0 0 (FA G S sz) := by
  refine st_m (by decide +kernel) hst (fun p e s m below meth c C hr hnm hex P => ?_)
  refine en_m (Nat.le_of_ble_eq_true rfl) (lv := [(0, .ref a0), (1, .ref b1), (2, .int x2)]) rfl (fun ls hl => ?_)
  have C : CF p l s m _ meth c "SkirmishGrid$Fight" cX2_canHurl 3 G (FA G S sz) := C
  exact tX2_canHurl_0 C hr hex Q QX S a0 b1 x2 p_a0 p_b1 P hl (by omega) (by omega) hw
theorem cd_X2_canHurl : yX2_canHurl.cls = RX2 ∧ yX2_canHurl.cls ≠ "java/lang/invoke/MethodHandle" ∧ yX2_canHurl.cls ≠ "java/lang/invoke/VarHandle" ∧ (parseMethodDescriptor yX2_canHurl.desc).map (fun d => d.parameters.length) = some 2 := by decide +kernel
abbrev rmX2_hurl : Room := { frames := 5, cells := 0, slots := 0, locals := 147 }
def wX2_hurl_50 (Q : Int32 → MS → Prop) (QX : String → MS → Prop) (k50 : MS → Nat → Int32 → Nat → Int32 → Int32 → Prop) (S : MS) (a0 : Nat) (y1 : Int32) (u2 : Nat) (y3 : Int32) (y4 : Int32) : Prop := (((mI S a0 2) ≤ y4 → wp_X2_settle (fun S1 => Q y3 S1) QX S a0 u2) ∧ (¬ (mI S a0 2) ≤ y4 → (∃ a2, mR S a0 1 = some a2 ∧ (vp_in y4 (mN S a2) ∧ (∃ a3, mR S a2 (y4 : Int32).toNatClampNeg = some a3 ∧ wp_X7_lives (fun r5 S4 => ((r5 = 0 → k50 S4 a0 y1 u2 y3 (y4 + 1)) ∧ (¬ r5 = 0 → (∃ a6, mR S4 a0 0 = some a6 ∧ wp_X3_distance (fun r8 S7 => ((1 < r8 → k50 S7 a0 y1 u2 y3 (y4 + 1)) ∧ (¬ 1 < r8 → wp_X2_suffer (fun S9 => k50 S9 a0 y1 u2 (y3 + 1) (y4 + 1)) QX S7 a0 a3))) QX S4 a6 (mI S4 a3 4) y1)))) QX S a3)))))
set_option maxHeartbeats 4000000 in
set_option maxRecDepth 100000 in
theorem tX2_hurl_50 {p : Program} {l : Launch} {e : Env} {s : State} {m : MethodId} {args : Array Value} {below : List Frame} {meth : Method} {c : Code} {H : Heap} {locs : List Loc} {cells slots : Nat} {G : GP} {A : Nat → Prop} {S0 : MS} {ls : Array Slot} (C : CF p l s m args meth c "SkirmishGrid$Fight" cX2_hurl 6 G A) (hr : meth.sig.returnType = (some .int)) (hex : ∀ x ∈ c.exceptionTable.toList, False) (Q : Int32 → MS → Prop) (QX : String → MS → Prop) (k50 : MS → Nat → Int32 → Nat → Int32 → Int32 → Prop) (kh50 : ∀ (S : MS) (a0 : Nat) (y1 : Int32) (u2 : Nat) (y3 : Int32) (y4 : Int32) (cells slots : Nat) (H : Heap) (locs : List Loc) (ls : Array Slot), pI S 2 a0 → pI S 7 u2 → PW G A s H locs S0 S → lv_has ls 6 [(0, .ref a0), (1, .int y1), (2, .ref u2), (3, .int y3), (4, .int y4)] → cells + 0 ≤ 0 → slots + 0 ≤ 0 → k50 S a0 y1 u2 y3 y4 → W p l e rmX2_hurl s m args below meth c H locs cells slots (vx_MQ below (QI G S0 A Q) (XX G S0 A QX) args s 0 0 A) (F0 m 50 ls [])) (S : MS) (a0 : Nat) (y1 : Int32) (u2 : Nat) (y3 : Int32) (y4 : Int32) (p_a0 : pI S 2 a0) (p_u2 : pI S 7 u2) (P : PW G A s H locs S0 S) (hl : lv_has ls 6 [(0, .ref a0), (1, .int y1), (2, .ref u2), (3, .int y3), (4, .int y4)]) (hcc : cells + 0 ≤ 0) (hss : slots + 0 ≤ 0) (hw : wX2_hurl_50 Q QX k50 S a0 y1 u2 y3 y4) : W p l e rmX2_hurl s m args below meth c H locs cells slots (vx_MQ below (QI G S0 A Q) (XX G S0 A QX) args s 0 0 A) (F0 m 50 ls []) := by
  have hx := CF_x C
  have hb := CF_b C
  unfold wX2_hurl_50 at hw
  refine lv_iload hx hb dX2_hurl_50 (lv_at hl 4 rfl) ?_
  refine lv_aload_n hx hb dX2_hurl_52 rfl (lv_at hl 0 rfl) ?_
  refine gf_2_2 C P p_a0 q_168 dX2_hurl_53 ?_
  refine lv_icmp_ge (tgt := 108) hx hb dX2_hurl_56 (by decide) (fun hc => ?_) (fun hc => ?_)
  · have hw := hw.1 hc
    refine lv_aload_n hx hb dX2_hurl_108 rfl (lv_at hl 0 rfl) ?_
    refine lv_aload_n hx hb dX2_hurl_109 rfl (lv_at hl 2 rfl) ?_
    refine cl_v C P (run_V C P hl.1 (kd := 2) (met_X2_settle (CF_n C) G H.size _ _ S a0 u2 p_a0 p_u2 hw) p_a0 (by decide) rfl q_1068 q_1070 q_p20 q_2 q_1071 cd_X2_settle ⟨(Nat.le_of_ble_eq_true rfl), (Nat.le_of_ble_eq_true rfl)⟩ rfl rfl (As := [.ref u2]) (rest := []) rfl rfl (Nat.le_of_ble_eq_true rfl) dX2_hurl_110 ⟨by show cells + 0 ≤ 0; omega, by show slots + 0 ≤ 0; omega⟩) (kx_out C hex (fun _ _ _ h => h) (by omega) (by omega)) (fun S1 H locs P hE hw => ?_)
    have p_a0 : pI S1 2 a0 := pI_x hE p_a0
    have p_u2 : pI S1 7 u2 := pI_x hE p_u2
    refine lv_iload_n hx hb dX2_hurl_113 rfl (lv_at hl 3 rfl) ?_
    exact e_i C hr rfl P hw (by omega) (by omega) dX2_hurl_114
  · have hw := hw.2 hc
    refine lv_aload_n hx hb dX2_hurl_59 rfl (lv_at hl 0 rfl) ?_
    obtain ⟨a2, e1, hw⟩ := hw
    have p_a2 : pI S 15 a2 := wf_r P.2.2.2.1 p_a0 e1
    refine gf_2_1 C P p_a0 e1 q_164 dX2_hurl_60 ?_
    refine lv_iload hx hb dX2_hurl_63 (lv_at hl 4 rfl) ?_
    obtain ⟨h1, hw⟩ := hw
    obtain ⟨a3, e1, hw⟩ := hw
    have p_a3 : pI S 7 a3 := wf_r P.2.2.2.1 p_a2 e1
    refine ra_a5 C P p_a2 h1 e1 dX2_hurl_65 ?_
    refine lv_astore (lv' := [(5, .ref a3), (0, .ref a0), (1, .int y1), (2, .ref u2), (3, .int y3), (4, .int y4)]) hx hb dX2_hurl_66 hl (by decide) rfl (fun ls hl => ?_)
    refine lv_aload hx hb dX2_hurl_68 (lv_at hl 0 rfl) ?_
    refine cl_i C P (run_V C P hl.1 (kd := 7) (met_X7_lives (CF_n C) G H.size _ _ S a3 p_a3 hw) p_a3 (by decide) rfl q_355 q_356 q_357 q_5 q_358 cd_X7_lives ⟨(Nat.le_of_ble_eq_true rfl), (Nat.le_of_ble_eq_true rfl)⟩ rfl rfl (As := []) (rest := []) rfl rfl (Nat.le_of_ble_eq_true rfl) dX2_hurl_70 ⟨by show cells + 0 ≤ 0; omega, by show slots + 0 ≤ 0; omega⟩) (kx_out C hex (fun _ _ _ h => h) (by omega) (by omega)) (fun r5 S4 H locs P hE hw => ?_)
    have p_a0 : pI S4 2 a0 := pI_x hE p_a0
    have p_u2 : pI S4 7 u2 := pI_x hE p_u2
    have p_a3 : pI S4 7 a3 := pI_x hE p_a3
    refine lv_if_eq (tgt := 102) hx hb dX2_hurl_73 (by decide) (fun hc => ?_) (fun hc => ?_)
    · have hw := hw.1 hc
      refine lv_iinc (v := (y4 + 1)) (lv' := [(4, .int (y4 + 1)), (5, .ref a3), (0, .ref a0), (1, .int y1), (2, .ref u2), (3, .int y3)]) hx hb dX2_hurl_102 hl (k := 5) rfl (by rfl) (by decide) rfl (fun ls hl => ?_)
      refine lv_goto (tgt := 50) hx hb dX2_hurl_105 (by decide) ?_
      exact kh50 S4 a0 y1 u2 y3 (y4 + 1) _ _ _ _ _ p_a0 p_u2 P (lv_sub hl [2, 3, 4, 5, 0] rfl) (by omega) (by omega) hw
    · have hw := hw.2 hc
      refine lv_aload_n hx hb dX2_hurl_76 rfl (lv_at hl 1 rfl) ?_
      obtain ⟨a6, e1, hw⟩ := hw
      have p_a6 : pI S4 3 a6 := wf_r P.2.2.2.1 p_a0 e1
      refine gf_2_0 C P p_a0 e1 q_161 dX2_hurl_77 ?_
      refine lv_aload hx hb dX2_hurl_80 (lv_at hl 0 rfl) ?_
      refine gf_7_4 C P p_a3 q_107 dX2_hurl_82 ?_
      refine lv_iload_n hx hb dX2_hurl_85 rfl (lv_at hl 2 rfl) ?_
      refine cl_i C P (run_V C P hl.1 (kd := 3) (met_X3_distance (CF_n C) G H.size _ _ S4 a6 (mI S4 a3 4) y1 p_a6 hw) p_a6 (by decide) rfl q_965 q_966 q_967 q_3 q_968 cd_X3_distance ⟨(Nat.le_of_ble_eq_true rfl), (Nat.le_of_ble_eq_true rfl)⟩ rfl rfl (As := [.int (mI S4 a3 4), .int y1]) (rest := []) rfl rfl (Nat.le_of_ble_eq_true rfl) dX2_hurl_86 ⟨by show cells + 0 ≤ 0; omega, by show slots + 0 ≤ 0; omega⟩) (kx_out C hex (fun _ _ _ h => h) (by omega) (by omega)) (fun r8 S7 H locs P hE hw => ?_)
      have p_a0 : pI S7 2 a0 := pI_x hE p_a0
      have p_u2 : pI S7 7 u2 := pI_x hE p_u2
      have p_a3 : pI S7 7 a3 := pI_x hE p_a3
      have p_a6 : pI S7 3 a6 := pI_x hE p_a6
      refine lv_iconst (v := 1) hx hb dX2_hurl_89 (by decide) ?_
      refine lv_icmp_gt (tgt := 102) hx hb dX2_hurl_90 (by decide) (fun hc => ?_) (fun hc => ?_)
      · have hw := hw.1 hc
        refine lv_iinc (v := (y4 + 1)) (lv' := [(4, .int (y4 + 1)), (5, .ref a3), (0, .ref a0), (1, .int y1), (2, .ref u2), (3, .int y3)]) hx hb dX2_hurl_102 hl (k := 5) rfl (by rfl) (by decide) rfl (fun ls hl => ?_)
        refine lv_goto (tgt := 50) hx hb dX2_hurl_105 (by decide) ?_
        exact kh50 S7 a0 y1 u2 y3 (y4 + 1) _ _ _ _ _ p_a0 p_u2 P (lv_sub hl [2, 3, 4, 5, 0] rfl) (by omega) (by omega) hw
      · have hw := hw.2 hc
        refine lv_aload_n hx hb dX2_hurl_93 rfl (lv_at hl 1 rfl) ?_
        refine lv_aload hx hb dX2_hurl_94 (lv_at hl 0 rfl) ?_
        refine cl_v C P (run_V C P hl.1 (kd := 2) (met_X2_suffer (CF_n C) G H.size _ _ S7 a0 a3 p_a0 p_a3 hw) p_a0 (by decide) rfl q_1105 q_1107 q_p21 q_2 q_1108 cd_X2_suffer ⟨(Nat.le_of_ble_eq_true rfl), (Nat.le_of_ble_eq_true rfl)⟩ rfl rfl (As := [.ref a3]) (rest := []) rfl rfl (Nat.le_of_ble_eq_true rfl) dX2_hurl_96 ⟨by show cells + 0 ≤ 0; omega, by show slots + 0 ≤ 0; omega⟩) (kx_out C hex (fun _ _ _ h => h) (by omega) (by omega)) (fun S9 H locs P hE hw => ?_)
        have p_a0 : pI S9 2 a0 := pI_x hE p_a0
        have p_u2 : pI S9 7 u2 := pI_x hE p_u2
        have p_a3 : pI S9 7 a3 := pI_x hE p_a3
        refine lv_iinc (v := (y3 + 1)) (lv' := [(3, .int (y3 + 1)), (5, .ref a3), (0, .ref a0), (1, .int y1), (2, .ref u2), (4, .int y4)]) hx hb dX2_hurl_99 hl (k := 4) rfl (by rfl) (by decide) rfl (fun ls hl => ?_)
        refine lv_iinc (v := (y4 + 1)) (lv' := [(4, .int (y4 + 1)), (3, .int (y3 + 1)), (5, .ref a3), (0, .ref a0), (1, .int y1), (2, .ref u2)]) hx hb dX2_hurl_102 hl (k := 5) rfl (by rfl) (by decide) rfl (fun ls hl => ?_)
        refine lv_goto (tgt := 50) hx hb dX2_hurl_105 (by decide) ?_
        exact kh50 S9 a0 y1 u2 (y3 + 1) (y4 + 1) _ _ _ _ _ p_a0 p_u2 P (lv_sub hl [3, 4, 5, 1, 0] rfl) (by omega) (by omega) hw
def lX2_hurl_50 (Q : Int32 → MS → Prop) (QX : String → MS → Prop) : Nat → MS → Nat → Int32 → Nat → Int32 → Int32 → Prop
  | 0 => fun _ _ _ _ _ _ => False
  | n + 1 => fun S a0 y1 u2 y3 y4 => wX2_hurl_50 Q QX (lX2_hurl_50 Q QX n) S a0 y1 u2 y3 y4
theorem tlX2_hurl_50 {p : Program} {l : Launch} {e : Env} {s : State} {m : MethodId} {args : Array Value} {below : List Frame} {meth : Method} {c : Code} {G : GP} {A : Nat → Prop} {S0 : MS} (C : CF p l s m args meth c "SkirmishGrid$Fight" cX2_hurl 6 G A) (hr : meth.sig.returnType = (some .int)) (hex : ∀ x ∈ c.exceptionTable.toList, False) (Q : Int32 → MS → Prop) (QX : String → MS → Prop) : ∀ (n : Nat), ∀ (S : MS) (a0 : Nat) (y1 : Int32) (u2 : Nat) (y3 : Int32) (y4 : Int32) (cells slots : Nat) (H : Heap) (locs : List Loc) (ls : Array Slot), pI S 2 a0 → pI S 7 u2 → PW G A s H locs S0 S → lv_has ls 6 [(0, .ref a0), (1, .int y1), (2, .ref u2), (3, .int y3), (4, .int y4)] → cells + 0 ≤ 0 → slots + 0 ≤ 0 → lX2_hurl_50 Q QX n S a0 y1 u2 y3 y4 → W p l e rmX2_hurl s m args below meth c H locs cells slots (vx_MQ below (QI G S0 A Q) (XX G S0 A QX) args s 0 0 A) (F0 m 50 ls []) := by
  intro n
  induction n with
  | zero => intro S a0 y1 u2 y3 y4 cells slots H locs ls p_a0 p_u2 P hl hcc hss hw; exact hw.elim
  | succ n ih => intro S a0 y1 u2 y3 y4 cells slots H locs ls p_a0 p_u2 P hl hcc hss hw; exact tX2_hurl_50 C hr hex Q QX (lX2_hurl_50 Q QX n) ih S a0 y1 u2 y3 y4 p_a0 p_u2 P hl hcc hss hw
def wX2_hurl_0 (Q : Int32 → MS → Prop) (QX : String → MS → Prop) (S : MS) (a0 : Nat) (x1 : Int32) : Prop := wp_X2_onTurn (fun r2 S1 => ((r2 = none → Q 0 S1) ∧ (∀ a3, r2 = some a3 → (∀ S4, S4 = (sI S1 a0 7 ((mI S1 a0 7) - 1)) → (∀ S5, S5 = (sI S4 a3 7 ((mI S4 a3 7) - 1)) → (∃ a6, mR S5 a0 11 = some a6 ∧ wp_X1_note (fun S7 => (∃ n, lX2_hurl_50 Q QX n S7 a0 x1 a3 0 0)) QX S5 a6 8 (mI S5 a3 0) x1)))))) QX S a0
set_option maxHeartbeats 4000000 in
set_option maxRecDepth 100000 in
theorem tX2_hurl_0 {p : Program} {l : Launch} {e : Env} {s : State} {m : MethodId} {args : Array Value} {below : List Frame} {meth : Method} {c : Code} {H : Heap} {locs : List Loc} {cells slots : Nat} {G : GP} {A : Nat → Prop} {S0 : MS} {ls : Array Slot} (C : CF p l s m args meth c "SkirmishGrid$Fight" cX2_hurl 6 G A) (hr : meth.sig.returnType = (some .int)) (hex : ∀ x ∈ c.exceptionTable.toList, False) (Q : Int32 → MS → Prop) (QX : String → MS → Prop) (S : MS) (a0 : Nat) (x1 : Int32) (p_a0 : pI S 2 a0) (P : PW G A s H locs S0 S) (hl : lv_has ls 6 [(0, .ref a0), (1, .int x1)]) (hcc : cells + 0 ≤ 0) (hss : slots + 0 ≤ 0) (hw : wX2_hurl_0 Q QX S a0 x1) : W p l e rmX2_hurl s m args below meth c H locs cells slots (vx_MQ below (QI G S0 A Q) (XX G S0 A QX) args s 0 0 A) (F0 m 0 ls []) := by
  have hx := CF_x C
  have hb := CF_b C
  unfold wX2_hurl_0 at hw
  refine lv_aload_n hx hb dX2_hurl_0 rfl (lv_at hl 0 rfl) ?_
  refine cl_q C P (run_V C P hl.1 (kd := 2) (met_X2_onTurn (CF_n C) G H.size _ _ S a0 p_a0 hw) p_a0 (by decide) rfl q_1056 q_879 q_880 q_2 q_881 cd_X2_onTurn ⟨(Nat.le_of_ble_eq_true rfl), (Nat.le_of_ble_eq_true rfl)⟩ rfl rfl (As := []) (rest := []) rfl rfl (Nat.le_of_ble_eq_true rfl) dX2_hurl_1 ⟨by show cells + 0 ≤ 0; omega, by show slots + 0 ≤ 0; omega⟩) (kx_out C hex (fun _ _ _ h => h) (by omega) (by omega)) (fun r2 S1 H locs P hE hw hR => ?_)
  have p_a0 : pI S1 2 a0 := pI_x hE p_a0
  cases r2 with
  | none =>
    have hw := hw.1 rfl
    refine lv_astore_nN (lv' := [(2, .null), (0, .ref a0), (1, .int x1)]) hx hb dX2_hurl_4 rfl hl (by decide) rfl (fun ls hl => ?_)
    refine lv_aload_nN hx hb dX2_hurl_5 rfl (lv_at hl 0 rfl) ?_
    refine lv_ifnonnullN hx hb dX2_hurl_6 ?_
    refine lv_iconst (v := 0) hx hb dX2_hurl_9 (by decide) ?_
    exact e_i C hr rfl P hw (by omega) (by omega) dX2_hurl_10
  | some a3 =>
    have hw := hw.2 a3 rfl
    have p_a3 : pI S1 7 a3 := hR a3 rfl
    refine lv_astore_n (lv' := [(2, .ref a3), (0, .ref a0), (1, .int x1)]) hx hb dX2_hurl_4 rfl hl (by decide) rfl (fun ls hl => ?_)
    refine lv_aload_n hx hb dX2_hurl_5 rfl (lv_at hl 0 rfl) ?_
    refine lv_ifnonnull (tgt := 11) hx hb dX2_hurl_6 (by decide) ?_
    refine lv_aload_n hx hb dX2_hurl_11 rfl (lv_at hl 1 rfl) ?_
    refine lv_dup hx hb dX2_hurl_12 rfl ?_
    refine gf_2_7 C P p_a0 q_179 dX2_hurl_13 ?_
    refine lv_iconst (v := 1) hx hb dX2_hurl_16 (by decide) ?_
    refine lv_isub hx hb dX2_hurl_17 ?_
    refine pf_2_7 C P p_a0 q_179 dX2_hurl_18 (fun H locs P => ?_)
    obtain ⟨S4, hS⟩ : ∃ z, z = (sI S1 a0 7 ((mI S1 a0 7) - 1)) := ⟨_, rfl⟩
    have P : PW G A s H locs S0 S4 := by rw [hS]; exact P
    have p_a0 : pI S4 2 a0 := by rw [hS]; exact pI_x ext_sI p_a0
    have p_a3 : pI S4 7 a3 := by rw [hS]; exact pI_x ext_sI p_a3
    have hw := hw S4 hS
    refine lv_aload_n hx hb dX2_hurl_21 rfl (lv_at hl 0 rfl) ?_
    refine lv_dup hx hb dX2_hurl_22 rfl ?_
    refine gf_7_7 C P p_a3 q_118 dX2_hurl_23 ?_
    refine lv_iconst (v := 1) hx hb dX2_hurl_26 (by decide) ?_
    refine lv_isub hx hb dX2_hurl_27 ?_
    refine pf_7_7 C P p_a3 q_118 dX2_hurl_28 (fun H locs P => ?_)
    obtain ⟨S5, hS⟩ : ∃ z, z = (sI S4 a3 7 ((mI S4 a3 7) - 1)) := ⟨_, rfl⟩
    have P : PW G A s H locs S0 S5 := by rw [hS]; exact P
    have p_a0 : pI S5 2 a0 := by rw [hS]; exact pI_x ext_sI p_a0
    have p_a3 : pI S5 7 a3 := by rw [hS]; exact pI_x ext_sI p_a3
    have hw := hw S5 hS
    refine lv_aload_n hx hb dX2_hurl_31 rfl (lv_at hl 1 rfl) ?_
    obtain ⟨a6, e1, hw⟩ := hw
    have p_a6 : pI S5 1 a6 := wf_r P.2.2.2.1 p_a0 e1
    refine gf_2_11 C P p_a0 e1 q_185 dX2_hurl_32 ?_
    refine lv_bipush (v := 8) hx hb dX2_hurl_35 (by decide) ?_
    refine lv_aload_n hx hb dX2_hurl_37 rfl (lv_at hl 0 rfl) ?_
    refine gf_7_0 C P p_a3 q_95 dX2_hurl_38 ?_
    refine lv_iload_n hx hb dX2_hurl_41 rfl (lv_at hl 2 rfl) ?_
    refine cl_v C P (run_V C P hl.1 (kd := 1) (met_X1_note (CF_n C) G H.size _ _ S5 a6 8 (mI S5 a3 0) x1 p_a6 hw) p_a6 (by decide) rfl q_843 q_844 q_845 q_4 q_846 cd_X1_note ⟨(Nat.le_of_ble_eq_true rfl), (Nat.le_of_ble_eq_true rfl)⟩ rfl rfl (As := [.int 8, .int (mI S5 a3 0), .int x1]) (rest := []) rfl rfl (Nat.le_of_ble_eq_true rfl) dX2_hurl_42 ⟨by show cells + 0 ≤ 0; omega, by show slots + 0 ≤ 0; omega⟩) (kx_out C hex (fun _ _ _ h => h) (by omega) (by omega)) (fun S7 H locs P hE hw => ?_)
    have p_a0 : pI S7 2 a0 := pI_x hE p_a0
    have p_a3 : pI S7 7 a3 := pI_x hE p_a3
    have p_a6 : pI S7 1 a6 := pI_x hE p_a6
    refine lv_iconst (v := 0) hx hb dX2_hurl_45 (by decide) ?_
    refine lv_istore_n (lv' := [(3, .int 0), (2, .ref a3), (0, .ref a0), (1, .int x1)]) hx hb dX2_hurl_46 rfl hl (by decide) rfl (fun ls hl => ?_)
    refine lv_iconst (v := 0) hx hb dX2_hurl_47 (by decide) ?_
    refine lv_istore (lv' := [(4, .int 0), (3, .int 0), (2, .ref a3), (0, .ref a0), (1, .int x1)]) hx hb dX2_hurl_48 hl (by decide) rfl (fun ls hl => ?_)
    obtain ⟨n, hw⟩ := hw
    exact tlX2_hurl_50 C hr hex Q QX n S7 a0 x1 a3 0 0 _ _ _ _ _ p_a0 p_a3 P (lv_sub hl [3, 4, 2, 1, 0] rfl) (by omega) (by omega) hw
def wp_X2_hurl (Q : Int32 → MS → Prop) (QX : String → MS → Prop) (S : MS) (a0 : Nat) (x1 : Int32) : Prop := wX2_hurl_0 Q QX S a0 x1
set_option maxHeartbeats 4000000 in
set_option maxRecDepth 100000 in
theorem met_X2_hurl {l : Launch} (hst : l.stackTraces = false) (G : GP) (sz : Nat) (Q : Int32 → MS → Prop) (QX : String → MS → Prop) (S : MS) (a0 : Nat) (x1 : Int32) (p_a0 : pI S 2 a0) (hw : wp_X2_hurl Q QX S a0 x1) : vx_Met l yX2_hurl (.code yX2_hurl cX2_hurl 6 (some .int) :: GW) rmX2_hurl (va_Pc [.ref a0, .int x1] (PR G S sz)) (QI G S (FA G S sz) Q) (XX G S (FA G S sz) QX) 0 0 (FA G S sz) := by
  refine st_m (by decide +kernel) hst (fun p e s m below meth c C hr hnm hex P => ?_)
  refine en_m (Nat.le_of_ble_eq_true rfl) (lv := [(0, .ref a0), (1, .int x1)]) rfl (fun ls hl => ?_)
  have C : CF p l s m _ meth c "SkirmishGrid$Fight" cX2_hurl 6 G (FA G S sz) := C
  exact tX2_hurl_0 C hr hex Q QX S a0 x1 p_a0 P hl (by omega) (by omega) hw
theorem cd_X2_hurl : yX2_hurl.cls = RX2 ∧ yX2_hurl.cls ≠ "java/lang/invoke/MethodHandle" ∧ yX2_hurl.cls ≠ "java/lang/invoke/VarHandle" ∧ (parseMethodDescriptor yX2_hurl.desc).map (fun d => d.parameters.length) = some 1 := by decide +kernel
abbrev rmX2_refill : Room := { frames := 1, cells := 0, slots := 0, locals := 20 }
def wX2_refill_0 (Q : Int32 → MS → Prop) (QX : String → MS → Prop) (S : MS) (a0 : Nat) : Prop := wp_X2_onTurn (fun r2 S1 => ((r2 = none → Q 0 S1) ∧ (∀ a3, r2 = some a3 → (vp_in (mI S1 a3 2) 4 ∧ (∀ S5, S5 = (sI S1 a3 6 (tbI 7 (mI S1 a3 2))) → (∀ S6, S6 = (sI S5 a0 7 ((mI S5 a0 7) - 1)) → Q (mI S1 a3 6) S6)))))) QX S a0
set_option maxHeartbeats 4000000 in
set_option maxRecDepth 100000 in
theorem tX2_refill_0 {p : Program} {l : Launch} {e : Env} {s : State} {m : MethodId} {args : Array Value} {below : List Frame} {meth : Method} {c : Code} {H : Heap} {locs : List Loc} {cells slots : Nat} {G : GP} {A : Nat → Prop} {S0 : MS} {ls : Array Slot} (C : CF p l s m args meth c "SkirmishGrid$Fight" cX2_refill 3 G A) (hr : meth.sig.returnType = (some .int)) (hex : ∀ x ∈ c.exceptionTable.toList, False) (Q : Int32 → MS → Prop) (QX : String → MS → Prop) (S : MS) (a0 : Nat) (p_a0 : pI S 2 a0) (P : PW G A s H locs S0 S) (hl : lv_has ls 3 [(0, .ref a0)]) (hcc : cells + 0 ≤ 0) (hss : slots + 0 ≤ 0) (hw : wX2_refill_0 Q QX S a0) : W p l e rmX2_refill s m args below meth c H locs cells slots (vx_MQ below (QI G S0 A Q) (XX G S0 A QX) args s 0 0 A) (F0 m 0 ls []) := by
  have hx := CF_x C
  have hb := CF_b C
  unfold wX2_refill_0 at hw
  refine lv_aload_n hx hb dX2_refill_0 rfl (lv_at hl 0 rfl) ?_
  refine cl_q C P (run_V C P hl.1 (kd := 2) (met_X2_onTurn (CF_n C) G H.size _ _ S a0 p_a0 hw) p_a0 (by decide) rfl q_1056 q_879 q_880 q_2 q_881 cd_X2_onTurn ⟨(Nat.le_of_ble_eq_true rfl), (Nat.le_of_ble_eq_true rfl)⟩ rfl rfl (As := []) (rest := []) rfl rfl (Nat.le_of_ble_eq_true rfl) dX2_refill_1 ⟨by show cells + 0 ≤ 0; omega, by show slots + 0 ≤ 0; omega⟩) (kx_out C hex (fun _ _ _ h => h) (by omega) (by omega)) (fun r2 S1 H locs P hE hw hR => ?_)
  have p_a0 : pI S1 2 a0 := pI_x hE p_a0
  cases r2 with
  | none =>
    have hw := hw.1 rfl
    refine lv_astore_nN (lv' := [(1, .null), (0, .ref a0)]) hx hb dX2_refill_4 rfl hl (by decide) rfl (fun ls hl => ?_)
    refine lv_aload_nN hx hb dX2_refill_5 rfl (lv_at hl 0 rfl) ?_
    refine lv_ifnonnullN hx hb dX2_refill_6 ?_
    refine lv_iconst (v := 0) hx hb dX2_refill_9 (by decide) ?_
    exact e_i C hr rfl P hw (by omega) (by omega) dX2_refill_10
  | some a3 =>
    have hw := hw.2 a3 rfl
    have p_a3 : pI S1 7 a3 := hR a3 rfl
    refine lv_astore_n (lv' := [(1, .ref a3), (0, .ref a0)]) hx hb dX2_refill_4 rfl hl (by decide) rfl (fun ls hl => ?_)
    refine lv_aload_n hx hb dX2_refill_5 rfl (lv_at hl 0 rfl) ?_
    refine lv_ifnonnull (tgt := 11) hx hb dX2_refill_6 (by decide) ?_
    refine lv_aload_n hx hb dX2_refill_11 rfl (lv_at hl 0 rfl) ?_
    refine gf_7_6 C P p_a3 q_115 dX2_refill_12 ?_
    refine lv_istore_n (lv' := [(2, .int (mI S1 a3 6)), (1, .ref a3), (0, .ref a0)]) hx hb dX2_refill_15 rfl hl (by decide) rfl (fun ls hl => ?_)
    refine lv_aload_n hx hb dX2_refill_16 rfl (lv_at hl 1 rfl) ?_
    refine rt_gN C P (i := 7) (by decide) rfl (List.mem_of_getElem? (i := 8) rfl) dX2_refill_17 (fun t4 ht4 => ?_)
    refine lv_aload_n hx hb dX2_refill_20 rfl (lv_at hl 1 rfl) ?_
    refine gf_7_2 C P p_a3 q_101 dX2_refill_21 ?_
    obtain ⟨h1, hw⟩ := hw
    refine rt_l (i := 7) C P ht4 h1 dX2_refill_24 ?_
    refine pf_7_6 C P p_a3 q_115 dX2_refill_25 (fun H locs P => ?_)
    obtain ⟨S5, hS⟩ : ∃ z, z = (sI S1 a3 6 (tbI 7 (mI S1 a3 2))) := ⟨_, rfl⟩
    have P : PW G A s H locs S0 S5 := by rw [hS]; exact P
    have p_a0 : pI S5 2 a0 := by rw [hS]; exact pI_x ext_sI p_a0
    have p_a3 : pI S5 7 a3 := by rw [hS]; exact pI_x ext_sI p_a3
    have hw := hw S5 hS
    refine lv_aload_n hx hb dX2_refill_28 rfl (lv_at hl 2 rfl) ?_
    refine lv_dup hx hb dX2_refill_29 rfl ?_
    refine gf_2_7 C P p_a0 q_179 dX2_refill_30 ?_
    refine lv_iconst (v := 1) hx hb dX2_refill_33 (by decide) ?_
    refine lv_isub hx hb dX2_refill_34 ?_
    refine pf_2_7 C P p_a0 q_179 dX2_refill_35 (fun H locs P => ?_)
    obtain ⟨S6, hS⟩ : ∃ z, z = (sI S5 a0 7 ((mI S5 a0 7) - 1)) := ⟨_, rfl⟩
    have P : PW G A s H locs S0 S6 := by rw [hS]; exact P
    have p_a0 : pI S6 2 a0 := by rw [hS]; exact pI_x ext_sI p_a0
    have hw := hw S6 hS
    refine lv_iload_n hx hb dX2_refill_38 rfl (lv_at hl 0 rfl) ?_
    exact e_i C hr rfl P hw (by omega) (by omega) dX2_refill_39
def wp_X2_refill (Q : Int32 → MS → Prop) (QX : String → MS → Prop) (S : MS) (a0 : Nat) : Prop := wX2_refill_0 Q QX S a0
set_option maxHeartbeats 4000000 in
set_option maxRecDepth 100000 in
theorem met_X2_refill {l : Launch} (hst : l.stackTraces = false) (G : GP) (sz : Nat) (Q : Int32 → MS → Prop) (QX : String → MS → Prop) (S : MS) (a0 : Nat) (p_a0 : pI S 2 a0) (hw : wp_X2_refill Q QX S a0) : vx_Met l yX2_refill (.code yX2_refill cX2_refill 3 (some .int) :: GW) rmX2_refill (va_Pc [.ref a0] (PR G S sz)) (QI G S (FA G S sz) Q) (XX G S (FA G S sz) QX) 0 0 (FA G S sz) := by
  refine st_m (by decide +kernel) hst (fun p e s m below meth c C hr hnm hex P => ?_)
  refine en_m (Nat.le_of_ble_eq_true rfl) (lv := [(0, .ref a0)]) rfl (fun ls hl => ?_)
  have C : CF p l s m _ meth c "SkirmishGrid$Fight" cX2_refill 3 G (FA G S sz) := C
  exact tX2_refill_0 C hr hex Q QX S a0 p_a0 P hl (by omega) (by omega) hw
theorem cd_X2_refill : yX2_refill.cls = RX2 ∧ yX2_refill.cls ≠ "java/lang/invoke/MethodHandle" ∧ yX2_refill.cls ≠ "java/lang/invoke/VarHandle" ∧ (parseMethodDescriptor yX2_refill.desc).map (fun d => d.parameters.length) = some 0 := by decide +kernel
abbrev rmX2_shoot : Room := { frames := 5, cells := 0, slots := 0, locals := 147 }
def wX2_shoot_0 (Q : Int32 → MS → Prop) (QX : String → MS → Prop) (S : MS) (a0 : Nat) (x1 : Int32) : Prop := wp_X2_onTurn (fun r2 S1 => ((r2 = none → wp_X2_find (fun r5 S4 => ((r5 = none → Q 0 S4) ∧ (∀ a6, r5 = some a6 → Q 0 S4))) QX S1 a0 x1) ∧ (∀ a3, r2 = some a3 → wp_X2_find (fun r8 S7 => ((r8 = none → Q 0 S7) ∧ (∀ a9, r8 = some a9 → (∀ S10, S10 = (sI S7 a0 7 ((mI S7 a0 7) - 1)) → wp_X2_strike (fun r12 S11 => wp_X2_settle (fun S13 => Q r12 S13) QX S11 a0 a3) QX S10 a0 a3 a9)))) QX S1 a0 x1))) QX S a0
set_option maxHeartbeats 4000000 in
set_option maxRecDepth 100000 in
theorem tX2_shoot_0 {p : Program} {l : Launch} {e : Env} {s : State} {m : MethodId} {args : Array Value} {below : List Frame} {meth : Method} {c : Code} {H : Heap} {locs : List Loc} {cells slots : Nat} {G : GP} {A : Nat → Prop} {S0 : MS} {ls : Array Slot} (C : CF p l s m args meth c "SkirmishGrid$Fight" cX2_shoot 5 G A) (hr : meth.sig.returnType = (some .int)) (hex : ∀ x ∈ c.exceptionTable.toList, False) (Q : Int32 → MS → Prop) (QX : String → MS → Prop) (S : MS) (a0 : Nat) (x1 : Int32) (p_a0 : pI S 2 a0) (P : PW G A s H locs S0 S) (hl : lv_has ls 5 [(0, .ref a0), (1, .int x1)]) (hcc : cells + 0 ≤ 0) (hss : slots + 0 ≤ 0) (hw : wX2_shoot_0 Q QX S a0 x1) : W p l e rmX2_shoot s m args below meth c H locs cells slots (vx_MQ below (QI G S0 A Q) (XX G S0 A QX) args s 0 0 A) (F0 m 0 ls []) := by
  have hx := CF_x C
  have hb := CF_b C
  unfold wX2_shoot_0 at hw
  refine lv_aload_n hx hb dX2_shoot_0 rfl (lv_at hl 0 rfl) ?_
  refine cl_q C P (run_V C P hl.1 (kd := 2) (met_X2_onTurn (CF_n C) G H.size _ _ S a0 p_a0 hw) p_a0 (by decide) rfl q_1056 q_879 q_880 q_2 q_881 cd_X2_onTurn ⟨(Nat.le_of_ble_eq_true rfl), (Nat.le_of_ble_eq_true rfl)⟩ rfl rfl (As := []) (rest := []) rfl rfl (Nat.le_of_ble_eq_true rfl) dX2_shoot_1 ⟨by show cells + 0 ≤ 0; omega, by show slots + 0 ≤ 0; omega⟩) (kx_out C hex (fun _ _ _ h => h) (by omega) (by omega)) (fun r2 S1 H locs P hE hw hR => ?_)
  have p_a0 : pI S1 2 a0 := pI_x hE p_a0
  cases r2 with
  | none =>
    have hw := hw.1 rfl
    refine lv_astore_nN (lv' := [(2, .null), (0, .ref a0), (1, .int x1)]) hx hb dX2_shoot_4 rfl hl (by decide) rfl (fun ls hl => ?_)
    refine lv_aload_n hx hb dX2_shoot_5 rfl (lv_at hl 1 rfl) ?_
    refine lv_iload_n hx hb dX2_shoot_6 rfl (lv_at hl 2 rfl) ?_
    refine cl_q C P (run_V C P hl.1 (kd := 2) (met_X2_find (CF_n C) G H.size _ _ S1 a0 x1 p_a0 hw) p_a0 (by decide) rfl q_1087 q_817 q_818 q_2 q_819 cd_X2_find ⟨(Nat.le_of_ble_eq_true rfl), (Nat.le_of_ble_eq_true rfl)⟩ rfl rfl (As := [.int x1]) (rest := []) rfl rfl (Nat.le_of_ble_eq_true rfl) dX2_shoot_7 ⟨by show cells + 0 ≤ 0; omega, by show slots + 0 ≤ 0; omega⟩) (kx_out C hex (fun _ _ _ h => h) (by omega) (by omega)) (fun r5 S4 H locs P hE hw hR => ?_)
    have p_a0 : pI S4 2 a0 := pI_x hE p_a0
    cases r5 with
    | none =>
      have hw := hw.1 rfl
      refine lv_astore_nN (lv' := [(3, .null), (2, .null), (0, .ref a0), (1, .int x1)]) hx hb dX2_shoot_10 rfl hl (by decide) rfl (fun ls hl => ?_)
      refine lv_aload_nN hx hb dX2_shoot_11 rfl (lv_at hl 1 rfl) ?_
      refine lv_ifnullN (tgt := 19) hx hb dX2_shoot_12 (by decide) ?_
      refine lv_iconst (v := 0) hx hb dX2_shoot_19 (by decide) ?_
      exact e_i C hr rfl P hw (by omega) (by omega) dX2_shoot_20
    | some a6 =>
      have hw := hw.2 a6 rfl
      have p_a6 : pI S4 7 a6 := hR a6 rfl
      refine lv_astore_n (lv' := [(3, .ref a6), (2, .null), (0, .ref a0), (1, .int x1)]) hx hb dX2_shoot_10 rfl hl (by decide) rfl (fun ls hl => ?_)
      refine lv_aload_nN hx hb dX2_shoot_11 rfl (lv_at hl 1 rfl) ?_
      refine lv_ifnullN (tgt := 19) hx hb dX2_shoot_12 (by decide) ?_
      refine lv_iconst (v := 0) hx hb dX2_shoot_19 (by decide) ?_
      exact e_i C hr rfl P hw (by omega) (by omega) dX2_shoot_20
  | some a3 =>
    have hw := hw.2 a3 rfl
    have p_a3 : pI S1 7 a3 := hR a3 rfl
    refine lv_astore_n (lv' := [(2, .ref a3), (0, .ref a0), (1, .int x1)]) hx hb dX2_shoot_4 rfl hl (by decide) rfl (fun ls hl => ?_)
    refine lv_aload_n hx hb dX2_shoot_5 rfl (lv_at hl 1 rfl) ?_
    refine lv_iload_n hx hb dX2_shoot_6 rfl (lv_at hl 2 rfl) ?_
    refine cl_q C P (run_V C P hl.1 (kd := 2) (met_X2_find (CF_n C) G H.size _ _ S1 a0 x1 p_a0 hw) p_a0 (by decide) rfl q_1087 q_817 q_818 q_2 q_819 cd_X2_find ⟨(Nat.le_of_ble_eq_true rfl), (Nat.le_of_ble_eq_true rfl)⟩ rfl rfl (As := [.int x1]) (rest := []) rfl rfl (Nat.le_of_ble_eq_true rfl) dX2_shoot_7 ⟨by show cells + 0 ≤ 0; omega, by show slots + 0 ≤ 0; omega⟩) (kx_out C hex (fun _ _ _ h => h) (by omega) (by omega)) (fun r8 S7 H locs P hE hw hR => ?_)
    have p_a0 : pI S7 2 a0 := pI_x hE p_a0
    have p_a3 : pI S7 7 a3 := pI_x hE p_a3
    cases r8 with
    | none =>
      have hw := hw.1 rfl
      refine lv_astore_nN (lv' := [(3, .null), (2, .ref a3), (0, .ref a0), (1, .int x1)]) hx hb dX2_shoot_10 rfl hl (by decide) rfl (fun ls hl => ?_)
      refine lv_aload_n hx hb dX2_shoot_11 rfl (lv_at hl 1 rfl) ?_
      refine lv_ifnull hx hb dX2_shoot_12 ?_
      refine lv_aload_nN hx hb dX2_shoot_15 rfl (lv_at hl 0 rfl) ?_
      refine lv_ifnonnullN hx hb dX2_shoot_16 ?_
      refine lv_iconst (v := 0) hx hb dX2_shoot_19 (by decide) ?_
      exact e_i C hr rfl P hw (by omega) (by omega) dX2_shoot_20
    | some a9 =>
      have hw := hw.2 a9 rfl
      have p_a9 : pI S7 7 a9 := hR a9 rfl
      refine lv_astore_n (lv' := [(3, .ref a9), (2, .ref a3), (0, .ref a0), (1, .int x1)]) hx hb dX2_shoot_10 rfl hl (by decide) rfl (fun ls hl => ?_)
      refine lv_aload_n hx hb dX2_shoot_11 rfl (lv_at hl 1 rfl) ?_
      refine lv_ifnull hx hb dX2_shoot_12 ?_
      refine lv_aload_n hx hb dX2_shoot_15 rfl (lv_at hl 0 rfl) ?_
      refine lv_ifnonnull (tgt := 21) hx hb dX2_shoot_16 (by decide) ?_
      refine lv_aload_n hx hb dX2_shoot_21 rfl (lv_at hl 2 rfl) ?_
      refine lv_dup hx hb dX2_shoot_22 rfl ?_
      refine gf_2_7 C P p_a0 q_179 dX2_shoot_23 ?_
      refine lv_iconst (v := 1) hx hb dX2_shoot_26 (by decide) ?_
      refine lv_isub hx hb dX2_shoot_27 ?_
      refine pf_2_7 C P p_a0 q_179 dX2_shoot_28 (fun H locs P => ?_)
      obtain ⟨S10, hS⟩ : ∃ z, z = (sI S7 a0 7 ((mI S7 a0 7) - 1)) := ⟨_, rfl⟩
      have P : PW G A s H locs S0 S10 := by rw [hS]; exact P
      have p_a0 : pI S10 2 a0 := by rw [hS]; exact pI_x ext_sI p_a0
      have p_a3 : pI S10 7 a3 := by rw [hS]; exact pI_x ext_sI p_a3
      have p_a9 : pI S10 7 a9 := by rw [hS]; exact pI_x ext_sI p_a9
      have hw := hw S10 hS
      refine lv_aload_n hx hb dX2_shoot_31 rfl (lv_at hl 2 rfl) ?_
      refine lv_aload_n hx hb dX2_shoot_32 rfl (lv_at hl 1 rfl) ?_
      refine lv_aload_n hx hb dX2_shoot_33 rfl (lv_at hl 0 rfl) ?_
      refine cl_i C P (run_V C P hl.1 (kd := 2) (met_X2_strike (CF_n C) G H.size _ _ S10 a0 a3 a9 p_a0 p_a3 p_a9 hw) p_a0 (by decide) rfl q_1064 q_1066 q_p19 q_2 q_1067 cd_X2_strike ⟨(Nat.le_of_ble_eq_true rfl), (Nat.le_of_ble_eq_true rfl)⟩ rfl rfl (As := [.ref a3, .ref a9]) (rest := []) rfl rfl (Nat.le_of_ble_eq_true rfl) dX2_shoot_34 ⟨by show cells + 0 ≤ 0; omega, by show slots + 0 ≤ 0; omega⟩) (kx_out C hex (fun _ _ _ h => h) (by omega) (by omega)) (fun r12 S11 H locs P hE hw => ?_)
      have p_a0 : pI S11 2 a0 := pI_x hE p_a0
      have p_a3 : pI S11 7 a3 := pI_x hE p_a3
      have p_a9 : pI S11 7 a9 := pI_x hE p_a9
      refine lv_istore (lv' := [(4, .int r12), (3, .ref a9), (2, .ref a3), (0, .ref a0), (1, .int x1)]) hx hb dX2_shoot_37 hl (by decide) rfl (fun ls hl => ?_)
      refine lv_aload_n hx hb dX2_shoot_39 rfl (lv_at hl 3 rfl) ?_
      refine lv_aload_n hx hb dX2_shoot_40 rfl (lv_at hl 2 rfl) ?_
      refine cl_v C P (run_V C P hl.1 (kd := 2) (met_X2_settle (CF_n C) G H.size _ _ S11 a0 a3 p_a0 p_a3 hw) p_a0 (by decide) rfl q_1068 q_1070 q_p20 q_2 q_1071 cd_X2_settle ⟨(Nat.le_of_ble_eq_true rfl), (Nat.le_of_ble_eq_true rfl)⟩ rfl rfl (As := [.ref a3]) (rest := []) rfl rfl (Nat.le_of_ble_eq_true rfl) dX2_shoot_41 ⟨by show cells + 0 ≤ 0; omega, by show slots + 0 ≤ 0; omega⟩) (kx_out C hex (fun _ _ _ h => h) (by omega) (by omega)) (fun S13 H locs P hE hw => ?_)
      have p_a0 : pI S13 2 a0 := pI_x hE p_a0
      have p_a3 : pI S13 7 a3 := pI_x hE p_a3
      refine lv_iload hx hb dX2_shoot_44 (lv_at hl 0 rfl) ?_
      exact e_i C hr rfl P hw (by omega) (by omega) dX2_shoot_46
def wp_X2_shoot (Q : Int32 → MS → Prop) (QX : String → MS → Prop) (S : MS) (a0 : Nat) (x1 : Int32) : Prop := wX2_shoot_0 Q QX S a0 x1
set_option maxHeartbeats 4000000 in
set_option maxRecDepth 100000 in
theorem met_X2_shoot {l : Launch} (hst : l.stackTraces = false) (G : GP) (sz : Nat) (Q : Int32 → MS → Prop) (QX : String → MS → Prop) (S : MS) (a0 : Nat) (x1 : Int32) (p_a0 : pI S 2 a0) (hw : wp_X2_shoot Q QX S a0 x1) : vx_Met l yX2_shoot (.code yX2_shoot cX2_shoot 5 (some .int) :: GW) rmX2_shoot (va_Pc [.ref a0, .int x1] (PR G S sz)) (QI G S (FA G S sz) Q) (XX G S (FA G S sz) QX) 0 0 (FA G S sz) := by
  refine st_m (by decide +kernel) hst (fun p e s m below meth c C hr hnm hex P => ?_)
  refine en_m (Nat.le_of_ble_eq_true rfl) (lv := [(0, .ref a0), (1, .int x1)]) rfl (fun ls hl => ?_)
  have C : CF p l s m _ meth c "SkirmishGrid$Fight" cX2_shoot 5 G (FA G S sz) := C
  exact tX2_shoot_0 C hr hex Q QX S a0 x1 p_a0 P hl (by omega) (by omega) hw
theorem cd_X2_shoot : yX2_shoot.cls = RX2 ∧ yX2_shoot.cls ≠ "java/lang/invoke/MethodHandle" ∧ yX2_shoot.cls ≠ "java/lang/invoke/VarHandle" ∧ (parseMethodDescriptor yX2_shoot.desc).map (fun d => d.parameters.length) = some 1 := by decide +kernel
abbrev rmX2_startGuarding : Room := { frames := 1, cells := 0, slots := 0, locals := 20 }
def wX2_startGuarding_0 (Q : Int32 → MS → Prop) (QX : String → MS → Prop) (S : MS) (a0 : Nat) : Prop := wp_X2_onTurn (fun r2 S1 => ((r2 = none → Q 0 S1) ∧ (∀ a3, r2 = some a3 → (∀ S4, S4 = (sI S1 a3 11 1) → (∀ S5, S5 = (sI S4 a0 7 ((mI S4 a0 7) - 1)) → Q (mI S5 a0 7) S5))))) QX S a0
set_option maxHeartbeats 4000000 in
set_option maxRecDepth 100000 in
theorem tX2_startGuarding_0 {p : Program} {l : Launch} {e : Env} {s : State} {m : MethodId} {args : Array Value} {below : List Frame} {meth : Method} {c : Code} {H : Heap} {locs : List Loc} {cells slots : Nat} {G : GP} {A : Nat → Prop} {S0 : MS} {ls : Array Slot} (C : CF p l s m args meth c "SkirmishGrid$Fight" cX2_startGuarding 2 G A) (hr : meth.sig.returnType = (some .int)) (hex : ∀ x ∈ c.exceptionTable.toList, False) (Q : Int32 → MS → Prop) (QX : String → MS → Prop) (S : MS) (a0 : Nat) (p_a0 : pI S 2 a0) (P : PW G A s H locs S0 S) (hl : lv_has ls 2 [(0, .ref a0)]) (hcc : cells + 0 ≤ 0) (hss : slots + 0 ≤ 0) (hw : wX2_startGuarding_0 Q QX S a0) : W p l e rmX2_startGuarding s m args below meth c H locs cells slots (vx_MQ below (QI G S0 A Q) (XX G S0 A QX) args s 0 0 A) (F0 m 0 ls []) := by
  have hx := CF_x C
  have hb := CF_b C
  unfold wX2_startGuarding_0 at hw
  refine lv_aload_n hx hb dX2_startGuarding_0 rfl (lv_at hl 0 rfl) ?_
  refine cl_q C P (run_V C P hl.1 (kd := 2) (met_X2_onTurn (CF_n C) G H.size _ _ S a0 p_a0 hw) p_a0 (by decide) rfl q_1056 q_879 q_880 q_2 q_881 cd_X2_onTurn ⟨(Nat.le_of_ble_eq_true rfl), (Nat.le_of_ble_eq_true rfl)⟩ rfl rfl (As := []) (rest := []) rfl rfl (Nat.le_of_ble_eq_true rfl) dX2_startGuarding_1 ⟨by show cells + 0 ≤ 0; omega, by show slots + 0 ≤ 0; omega⟩) (kx_out C hex (fun _ _ _ h => h) (by omega) (by omega)) (fun r2 S1 H locs P hE hw hR => ?_)
  have p_a0 : pI S1 2 a0 := pI_x hE p_a0
  cases r2 with
  | none =>
    have hw := hw.1 rfl
    refine lv_astore_nN (lv' := [(1, .null), (0, .ref a0)]) hx hb dX2_startGuarding_4 rfl hl (by decide) rfl (fun ls hl => ?_)
    refine lv_aload_nN hx hb dX2_startGuarding_5 rfl (lv_at hl 0 rfl) ?_
    refine lv_ifnonnullN hx hb dX2_startGuarding_6 ?_
    refine lv_iconst (v := 0) hx hb dX2_startGuarding_9 (by decide) ?_
    exact e_i C hr rfl P hw (by omega) (by omega) dX2_startGuarding_10
  | some a3 =>
    have hw := hw.2 a3 rfl
    have p_a3 : pI S1 7 a3 := hR a3 rfl
    refine lv_astore_n (lv' := [(1, .ref a3), (0, .ref a0)]) hx hb dX2_startGuarding_4 rfl hl (by decide) rfl (fun ls hl => ?_)
    refine lv_aload_n hx hb dX2_startGuarding_5 rfl (lv_at hl 0 rfl) ?_
    refine lv_ifnonnull (tgt := 11) hx hb dX2_startGuarding_6 (by decide) ?_
    refine lv_aload_n hx hb dX2_startGuarding_11 rfl (lv_at hl 0 rfl) ?_
    refine lv_iconst (v := 1) hx hb dX2_startGuarding_12 (by decide) ?_
    refine pf_7_11 C P p_a3 (isZ_dec (by decide)) q_130 dX2_startGuarding_13 (fun H locs P => ?_)
    obtain ⟨S4, hS⟩ : ∃ z, z = (sI S1 a3 11 1) := ⟨_, rfl⟩
    have P : PW G A s H locs S0 S4 := by rw [hS]; exact P
    have p_a0 : pI S4 2 a0 := by rw [hS]; exact pI_x ext_sI p_a0
    have p_a3 : pI S4 7 a3 := by rw [hS]; exact pI_x ext_sI p_a3
    have hw := hw S4 hS
    refine lv_aload_n hx hb dX2_startGuarding_16 rfl (lv_at hl 1 rfl) ?_
    refine lv_dup hx hb dX2_startGuarding_17 rfl ?_
    refine gf_2_7 C P p_a0 q_179 dX2_startGuarding_18 ?_
    refine lv_iconst (v := 1) hx hb dX2_startGuarding_21 (by decide) ?_
    refine lv_isub hx hb dX2_startGuarding_22 ?_
    refine pf_2_7 C P p_a0 q_179 dX2_startGuarding_23 (fun H locs P => ?_)
    obtain ⟨S5, hS⟩ : ∃ z, z = (sI S4 a0 7 ((mI S4 a0 7) - 1)) := ⟨_, rfl⟩
    have P : PW G A s H locs S0 S5 := by rw [hS]; exact P
    have p_a0 : pI S5 2 a0 := by rw [hS]; exact pI_x ext_sI p_a0
    have hw := hw S5 hS
    refine lv_aload_n hx hb dX2_startGuarding_26 rfl (lv_at hl 1 rfl) ?_
    refine gf_2_7 C P p_a0 q_179 dX2_startGuarding_27 ?_
    exact e_i C hr rfl P hw (by omega) (by omega) dX2_startGuarding_30
def wp_X2_startGuarding (Q : Int32 → MS → Prop) (QX : String → MS → Prop) (S : MS) (a0 : Nat) : Prop := wX2_startGuarding_0 Q QX S a0
set_option maxHeartbeats 4000000 in
set_option maxRecDepth 100000 in
theorem met_X2_startGuarding {l : Launch} (hst : l.stackTraces = false) (G : GP) (sz : Nat) (Q : Int32 → MS → Prop) (QX : String → MS → Prop) (S : MS) (a0 : Nat) (p_a0 : pI S 2 a0) (hw : wp_X2_startGuarding Q QX S a0) : vx_Met l yX2_startGuarding (.code yX2_startGuarding cX2_startGuarding 2 (some .int) :: GW) rmX2_startGuarding (va_Pc [.ref a0] (PR G S sz)) (QI G S (FA G S sz) Q) (XX G S (FA G S sz) QX) 0 0 (FA G S sz) := by
  refine st_m (by decide +kernel) hst (fun p e s m below meth c C hr hnm hex P => ?_)
  refine en_m (Nat.le_of_ble_eq_true rfl) (lv := [(0, .ref a0)]) rfl (fun ls hl => ?_)
  have C : CF p l s m _ meth c "SkirmishGrid$Fight" cX2_startGuarding 2 G (FA G S sz) := C
  exact tX2_startGuarding_0 C hr hex Q QX S a0 p_a0 P hl (by omega) (by omega) hw
theorem cd_X2_startGuarding : yX2_startGuarding.cls = RX2 ∧ yX2_startGuarding.cls ≠ "java/lang/invoke/MethodHandle" ∧ yX2_startGuarding.cls ≠ "java/lang/invoke/VarHandle" ∧ (parseMethodDescriptor yX2_startGuarding.desc).map (fun d => d.parameters.length) = some 0 := by decide +kernel
abbrev rmX2_startWatching : Room := { frames := 1, cells := 0, slots := 0, locals := 20 }
def wX2_startWatching_0 (Q : Int32 → MS → Prop) (QX : String → MS → Prop) (S : MS) (a0 : Nat) : Prop := wp_X2_onTurn (fun r2 S1 => ((r2 = none → Q 0 S1) ∧ (∀ a3, r2 = some a3 → (∀ S4, S4 = (sI S1 a3 12 1) → (∀ S5, S5 = (sI S4 a0 7 0) → Q (mI S4 a0 7) S5))))) QX S a0
set_option maxHeartbeats 4000000 in
set_option maxRecDepth 100000 in
theorem tX2_startWatching_0 {p : Program} {l : Launch} {e : Env} {s : State} {m : MethodId} {args : Array Value} {below : List Frame} {meth : Method} {c : Code} {H : Heap} {locs : List Loc} {cells slots : Nat} {G : GP} {A : Nat → Prop} {S0 : MS} {ls : Array Slot} (C : CF p l s m args meth c "SkirmishGrid$Fight" cX2_startWatching 3 G A) (hr : meth.sig.returnType = (some .int)) (hex : ∀ x ∈ c.exceptionTable.toList, False) (Q : Int32 → MS → Prop) (QX : String → MS → Prop) (S : MS) (a0 : Nat) (p_a0 : pI S 2 a0) (P : PW G A s H locs S0 S) (hl : lv_has ls 3 [(0, .ref a0)]) (hcc : cells + 0 ≤ 0) (hss : slots + 0 ≤ 0) (hw : wX2_startWatching_0 Q QX S a0) : W p l e rmX2_startWatching s m args below meth c H locs cells slots (vx_MQ below (QI G S0 A Q) (XX G S0 A QX) args s 0 0 A) (F0 m 0 ls []) := by
  have hx := CF_x C
  have hb := CF_b C
  unfold wX2_startWatching_0 at hw
  refine lv_aload_n hx hb dX2_startWatching_0 rfl (lv_at hl 0 rfl) ?_
  refine cl_q C P (run_V C P hl.1 (kd := 2) (met_X2_onTurn (CF_n C) G H.size _ _ S a0 p_a0 hw) p_a0 (by decide) rfl q_1056 q_879 q_880 q_2 q_881 cd_X2_onTurn ⟨(Nat.le_of_ble_eq_true rfl), (Nat.le_of_ble_eq_true rfl)⟩ rfl rfl (As := []) (rest := []) rfl rfl (Nat.le_of_ble_eq_true rfl) dX2_startWatching_1 ⟨by show cells + 0 ≤ 0; omega, by show slots + 0 ≤ 0; omega⟩) (kx_out C hex (fun _ _ _ h => h) (by omega) (by omega)) (fun r2 S1 H locs P hE hw hR => ?_)
  have p_a0 : pI S1 2 a0 := pI_x hE p_a0
  cases r2 with
  | none =>
    have hw := hw.1 rfl
    refine lv_astore_nN (lv' := [(1, .null), (0, .ref a0)]) hx hb dX2_startWatching_4 rfl hl (by decide) rfl (fun ls hl => ?_)
    refine lv_aload_nN hx hb dX2_startWatching_5 rfl (lv_at hl 0 rfl) ?_
    refine lv_ifnonnullN hx hb dX2_startWatching_6 ?_
    refine lv_iconst (v := 0) hx hb dX2_startWatching_9 (by decide) ?_
    exact e_i C hr rfl P hw (by omega) (by omega) dX2_startWatching_10
  | some a3 =>
    have hw := hw.2 a3 rfl
    have p_a3 : pI S1 7 a3 := hR a3 rfl
    refine lv_astore_n (lv' := [(1, .ref a3), (0, .ref a0)]) hx hb dX2_startWatching_4 rfl hl (by decide) rfl (fun ls hl => ?_)
    refine lv_aload_n hx hb dX2_startWatching_5 rfl (lv_at hl 0 rfl) ?_
    refine lv_ifnonnull (tgt := 11) hx hb dX2_startWatching_6 (by decide) ?_
    refine lv_aload_n hx hb dX2_startWatching_11 rfl (lv_at hl 0 rfl) ?_
    refine lv_iconst (v := 1) hx hb dX2_startWatching_12 (by decide) ?_
    refine pf_7_12 C P p_a3 (isZ_dec (by decide)) q_133 dX2_startWatching_13 (fun H locs P => ?_)
    obtain ⟨S4, hS⟩ : ∃ z, z = (sI S1 a3 12 1) := ⟨_, rfl⟩
    have P : PW G A s H locs S0 S4 := by rw [hS]; exact P
    have p_a0 : pI S4 2 a0 := by rw [hS]; exact pI_x ext_sI p_a0
    have p_a3 : pI S4 7 a3 := by rw [hS]; exact pI_x ext_sI p_a3
    have hw := hw S4 hS
    refine lv_aload_n hx hb dX2_startWatching_16 rfl (lv_at hl 1 rfl) ?_
    refine gf_2_7 C P p_a0 q_179 dX2_startWatching_17 ?_
    refine lv_istore_n (lv' := [(2, .int (mI S4 a0 7)), (1, .ref a3), (0, .ref a0)]) hx hb dX2_startWatching_20 rfl hl (by decide) rfl (fun ls hl => ?_)
    refine lv_aload_n hx hb dX2_startWatching_21 rfl (lv_at hl 2 rfl) ?_
    refine lv_iconst (v := 0) hx hb dX2_startWatching_22 (by decide) ?_
    refine pf_2_7 C P p_a0 q_179 dX2_startWatching_23 (fun H locs P => ?_)
    obtain ⟨S5, hS⟩ : ∃ z, z = (sI S4 a0 7 0) := ⟨_, rfl⟩
    have P : PW G A s H locs S0 S5 := by rw [hS]; exact P
    have p_a0 : pI S5 2 a0 := by rw [hS]; exact pI_x ext_sI p_a0
    have hw := hw S5 hS
    refine lv_iload_n hx hb dX2_startWatching_26 rfl (lv_at hl 0 rfl) ?_
    exact e_i C hr rfl P hw (by omega) (by omega) dX2_startWatching_27
def wp_X2_startWatching (Q : Int32 → MS → Prop) (QX : String → MS → Prop) (S : MS) (a0 : Nat) : Prop := wX2_startWatching_0 Q QX S a0
set_option maxHeartbeats 4000000 in
set_option maxRecDepth 100000 in
theorem met_X2_startWatching {l : Launch} (hst : l.stackTraces = false) (G : GP) (sz : Nat) (Q : Int32 → MS → Prop) (QX : String → MS → Prop) (S : MS) (a0 : Nat) (p_a0 : pI S 2 a0) (hw : wp_X2_startWatching Q QX S a0) : vx_Met l yX2_startWatching (.code yX2_startWatching cX2_startWatching 3 (some .int) :: GW) rmX2_startWatching (va_Pc [.ref a0] (PR G S sz)) (QI G S (FA G S sz) Q) (XX G S (FA G S sz) QX) 0 0 (FA G S sz) := by
  refine st_m (by decide +kernel) hst (fun p e s m below meth c C hr hnm hex P => ?_)
  refine en_m (Nat.le_of_ble_eq_true rfl) (lv := [(0, .ref a0)]) rfl (fun ls hl => ?_)
  have C : CF p l s m _ meth c "SkirmishGrid$Fight" cX2_startWatching 3 G (FA G S sz) := C
  exact tX2_startWatching_0 C hr hex Q QX S a0 p_a0 P hl (by omega) (by omega) hw
theorem cd_X2_startWatching : yX2_startWatching.cls = RX2 ∧ yX2_startWatching.cls ≠ "java/lang/invoke/MethodHandle" ∧ yX2_startWatching.cls ≠ "java/lang/invoke/VarHandle" ∧ (parseMethodDescriptor yX2_startWatching.desc).map (fun d => d.parameters.length) = some 0 := by decide +kernel
abbrev rmX2_isStoppedIn : Room := { frames := 4, cells := 0, slots := 0, locals := 136 }
def wX2_isStoppedIn_24 (Q : Int32 → MS → Prop) (QX : String → MS → Prop) (k24 : MS → Nat → Nat → Int32 → Prop) (S : MS) (a0 : Nat) (u2 : Nat) (y3 : Int32) : Prop := (((mI S a0 2) ≤ y3 → Q 0 S) ∧ (¬ (mI S a0 2) ≤ y3 → (∃ a1, mR S a0 1 = some a1 ∧ (vp_in y3 (mN S a1) ∧ (∃ a2, mR S a1 (y3 : Int32).toNatClampNeg = some a2 ∧ (((mI S a2 12) = 0 → k24 S a0 u2 (y3 + 1)) ∧ (¬ (mI S a2 12) = 0 → (((mI S a2 6) ≤ 0 → k24 S a0 u2 (y3 + 1)) ∧ (¬ (mI S a2 6) ≤ 0 → wp_X2_canStrike (fun r4 S3 => ((r4 = 0 → k24 S3 a0 u2 (y3 + 1)) ∧ (¬ r4 = 0 → (∀ S5, S5 = (sI S3 a2 12 0) → (∃ a6, mR S5 a0 11 = some a6 ∧ wp_X1_note (fun S7 => wp_X2_strike (fun r9 S8 => ((r9 ≤ 0 → k24 S8 a0 u2 (y3 + 1)) ∧ (¬ r9 ≤ 0 → Q 1 S8))) QX S7 a0 a2 u2) QX S5 a6 7 y3 (mI S5 u2 0)))))) QX S a0 a2 u2)))))))))
set_option maxHeartbeats 4000000 in
set_option maxRecDepth 100000 in
theorem tX2_isStoppedIn_24 {p : Program} {l : Launch} {e : Env} {s : State} {m : MethodId} {args : Array Value} {below : List Frame} {meth : Method} {c : Code} {H : Heap} {locs : List Loc} {cells slots : Nat} {G : GP} {A : Nat → Prop} {S0 : MS} {ls : Array Slot} (C : CF p l s m args meth c "SkirmishGrid$Fight" cX2_isStoppedIn 5 G A) (hr : meth.sig.returnType = (some .boolean)) (hex : ∀ x ∈ c.exceptionTable.toList, False) (Q : Int32 → MS → Prop) (QX : String → MS → Prop) (k24 : MS → Nat → Nat → Int32 → Prop) (kh24 : ∀ (S : MS) (a0 : Nat) (u2 : Nat) (y3 : Int32) (cells slots : Nat) (H : Heap) (locs : List Loc) (ls : Array Slot), pI S 2 a0 → pI S 7 u2 → PW G A s H locs S0 S → lv_has ls 5 [(0, .ref a0), (2, .ref u2), (3, .int y3)] → cells + 0 ≤ 0 → slots + 0 ≤ 0 → k24 S a0 u2 y3 → W p l e rmX2_isStoppedIn s m args below meth c H locs cells slots (vx_MQ below (QI G S0 A Q) (XX G S0 A QX) args s 0 0 A) (F0 m 24 ls [])) (S : MS) (a0 : Nat) (u2 : Nat) (y3 : Int32) (p_a0 : pI S 2 a0) (p_u2 : pI S 7 u2) (P : PW G A s H locs S0 S) (hl : lv_has ls 5 [(0, .ref a0), (2, .ref u2), (3, .int y3)]) (hcc : cells + 0 ≤ 0) (hss : slots + 0 ≤ 0) (hw : wX2_isStoppedIn_24 Q QX k24 S a0 u2 y3) : W p l e rmX2_isStoppedIn s m args below meth c H locs cells slots (vx_MQ below (QI G S0 A Q) (XX G S0 A QX) args s 0 0 A) (F0 m 24 ls []) := by
  have hx := CF_x C
  have hb := CF_b C
  unfold wX2_isStoppedIn_24 at hw
  refine lv_iload_n hx hb dX2_isStoppedIn_24 rfl (lv_at hl 2 rfl) ?_
  refine lv_aload_n hx hb dX2_isStoppedIn_25 rfl (lv_at hl 0 rfl) ?_
  refine gf_2_2 C P p_a0 q_168 dX2_isStoppedIn_26 ?_
  refine lv_icmp_ge (tgt := 104) hx hb dX2_isStoppedIn_29 (by decide) (fun hc => ?_) (fun hc => ?_)
  · have hw := hw.1 hc
    refine lv_iconst (v := 0) hx hb dX2_isStoppedIn_104 (by decide) ?_
    exact e_i C hr (by decide +kernel) P hw (by omega) (by omega) dX2_isStoppedIn_105
  · have hw := hw.2 hc
    refine lv_aload_n hx hb dX2_isStoppedIn_32 rfl (lv_at hl 0 rfl) ?_
    obtain ⟨a1, e1, hw⟩ := hw
    have p_a1 : pI S 15 a1 := wf_r P.2.2.2.1 p_a0 e1
    refine gf_2_1 C P p_a0 e1 q_164 dX2_isStoppedIn_33 ?_
    refine lv_iload_n hx hb dX2_isStoppedIn_36 rfl (lv_at hl 2 rfl) ?_
    obtain ⟨h1, hw⟩ := hw
    obtain ⟨a2, e1, hw⟩ := hw
    have p_a2 : pI S 7 a2 := wf_r P.2.2.2.1 p_a1 e1
    refine ra_a5 C P p_a1 h1 e1 dX2_isStoppedIn_37 ?_
    refine lv_astore (lv' := [(4, .ref a2), (0, .ref a0), (2, .ref u2), (3, .int y3)]) hx hb dX2_isStoppedIn_38 hl (by decide) rfl (fun ls hl => ?_)
    refine lv_aload hx hb dX2_isStoppedIn_40 (lv_at hl 0 rfl) ?_
    refine gf_7_12 C P p_a2 q_133 dX2_isStoppedIn_42 ?_
    refine lv_if_eq (tgt := 98) hx hb dX2_isStoppedIn_45 (by decide) (fun hc => ?_) (fun hc => ?_)
    · have hw := hw.1 hc
      refine lv_iinc (v := (y3 + 1)) (lv' := [(3, .int (y3 + 1)), (4, .ref a2), (0, .ref a0), (2, .ref u2)]) hx hb dX2_isStoppedIn_98 hl (k := 3) rfl (by rfl) (by decide) rfl (fun ls hl => ?_)
      refine lv_goto (tgt := 24) hx hb dX2_isStoppedIn_101 (by decide) ?_
      exact kh24 S a0 u2 (y3 + 1) _ _ _ _ _ p_a0 p_u2 P (lv_sub hl [2, 3, 0] rfl) (by omega) (by omega) hw
    · have hw := hw.2 hc
      refine lv_aload hx hb dX2_isStoppedIn_48 (lv_at hl 0 rfl) ?_
      refine gf_7_6 C P p_a2 q_115 dX2_isStoppedIn_50 ?_
      refine lv_if_le (tgt := 98) hx hb dX2_isStoppedIn_53 (by decide) (fun hc => ?_) (fun hc => ?_)
      · have hw := hw.1 hc
        refine lv_iinc (v := (y3 + 1)) (lv' := [(3, .int (y3 + 1)), (4, .ref a2), (0, .ref a0), (2, .ref u2)]) hx hb dX2_isStoppedIn_98 hl (k := 3) rfl (by rfl) (by decide) rfl (fun ls hl => ?_)
        refine lv_goto (tgt := 24) hx hb dX2_isStoppedIn_101 (by decide) ?_
        exact kh24 S a0 u2 (y3 + 1) _ _ _ _ _ p_a0 p_u2 P (lv_sub hl [2, 3, 0] rfl) (by omega) (by omega) hw
      · have hw := hw.2 hc
        refine lv_aload_n hx hb dX2_isStoppedIn_56 rfl (lv_at hl 1 rfl) ?_
        refine lv_aload hx hb dX2_isStoppedIn_57 (lv_at hl 0 rfl) ?_
        refine lv_aload_n hx hb dX2_isStoppedIn_59 rfl (lv_at hl 2 rfl) ?_
        refine cl_i C P (run_V C P hl.1 (kd := 2) (met_X2_canStrike (CF_n C) G H.size _ _ S a0 a2 u2 p_a0 p_a2 p_u2 hw) p_a0 (by decide) rfl q_1020 q_962 q_963 q_2 q_964 cd_X2_canStrike ⟨(Nat.le_of_ble_eq_true rfl), (Nat.le_of_ble_eq_true rfl)⟩ rfl rfl (As := [.ref a2, .ref u2]) (rest := []) rfl rfl (Nat.le_of_ble_eq_true rfl) dX2_isStoppedIn_60 ⟨by show cells + 0 ≤ 0; omega, by show slots + 0 ≤ 0; omega⟩) (kx_out C hex (fun _ _ _ h => h) (by omega) (by omega)) (fun r4 S3 H locs P hE hw => ?_)
        have p_a0 : pI S3 2 a0 := pI_x hE p_a0
        have p_u2 : pI S3 7 u2 := pI_x hE p_u2
        have p_a2 : pI S3 7 a2 := pI_x hE p_a2
        refine lv_if_eq (tgt := 98) hx hb dX2_isStoppedIn_63 (by decide) (fun hc => ?_) (fun hc => ?_)
        · have hw := hw.1 hc
          refine lv_iinc (v := (y3 + 1)) (lv' := [(3, .int (y3 + 1)), (4, .ref a2), (0, .ref a0), (2, .ref u2)]) hx hb dX2_isStoppedIn_98 hl (k := 3) rfl (by rfl) (by decide) rfl (fun ls hl => ?_)
          refine lv_goto (tgt := 24) hx hb dX2_isStoppedIn_101 (by decide) ?_
          exact kh24 S3 a0 u2 (y3 + 1) _ _ _ _ _ p_a0 p_u2 P (lv_sub hl [2, 3, 0] rfl) (by omega) (by omega) hw
        · have hw := hw.2 hc
          refine lv_aload hx hb dX2_isStoppedIn_66 (lv_at hl 0 rfl) ?_
          refine lv_iconst (v := 0) hx hb dX2_isStoppedIn_68 (by decide) ?_
          refine pf_7_12 C P p_a2 (isZ_dec (by decide)) q_133 dX2_isStoppedIn_69 (fun H locs P => ?_)
          obtain ⟨S5, hS⟩ : ∃ z, z = (sI S3 a2 12 0) := ⟨_, rfl⟩
          have P : PW G A s H locs S0 S5 := by rw [hS]; exact P
          have p_a0 : pI S5 2 a0 := by rw [hS]; exact pI_x ext_sI p_a0
          have p_u2 : pI S5 7 u2 := by rw [hS]; exact pI_x ext_sI p_u2
          have p_a2 : pI S5 7 a2 := by rw [hS]; exact pI_x ext_sI p_a2
          have hw := hw S5 hS
          refine lv_aload_n hx hb dX2_isStoppedIn_72 rfl (lv_at hl 1 rfl) ?_
          obtain ⟨a6, e1, hw⟩ := hw
          have p_a6 : pI S5 1 a6 := wf_r P.2.2.2.1 p_a0 e1
          refine gf_2_11 C P p_a0 e1 q_185 dX2_isStoppedIn_73 ?_
          refine lv_bipush (v := 7) hx hb dX2_isStoppedIn_76 (by decide) ?_
          refine lv_iload_n hx hb dX2_isStoppedIn_78 rfl (lv_at hl 3 rfl) ?_
          refine lv_aload_n hx hb dX2_isStoppedIn_79 rfl (lv_at hl 2 rfl) ?_
          refine gf_7_0 C P p_u2 q_95 dX2_isStoppedIn_80 ?_
          refine cl_v C P (run_V C P hl.1 (kd := 1) (met_X1_note (CF_n C) G H.size _ _ S5 a6 7 y3 (mI S5 u2 0) p_a6 hw) p_a6 (by decide) rfl q_843 q_844 q_845 q_4 q_846 cd_X1_note ⟨(Nat.le_of_ble_eq_true rfl), (Nat.le_of_ble_eq_true rfl)⟩ rfl rfl (As := [.int 7, .int y3, .int (mI S5 u2 0)]) (rest := []) rfl rfl (Nat.le_of_ble_eq_true rfl) dX2_isStoppedIn_83 ⟨by show cells + 0 ≤ 0; omega, by show slots + 0 ≤ 0; omega⟩) (kx_out C hex (fun _ _ _ h => h) (by omega) (by omega)) (fun S7 H locs P hE hw => ?_)
          have p_a0 : pI S7 2 a0 := pI_x hE p_a0
          have p_u2 : pI S7 7 u2 := pI_x hE p_u2
          have p_a2 : pI S7 7 a2 := pI_x hE p_a2
          have p_a6 : pI S7 1 a6 := pI_x hE p_a6
          refine lv_aload_n hx hb dX2_isStoppedIn_86 rfl (lv_at hl 1 rfl) ?_
          refine lv_aload hx hb dX2_isStoppedIn_87 (lv_at hl 0 rfl) ?_
          refine lv_aload_n hx hb dX2_isStoppedIn_89 rfl (lv_at hl 2 rfl) ?_
          refine cl_i C P (run_V C P hl.1 (kd := 2) (met_X2_strike (CF_n C) G H.size _ _ S7 a0 a2 u2 p_a0 p_a2 p_u2 hw) p_a0 (by decide) rfl q_1064 q_1066 q_p19 q_2 q_1067 cd_X2_strike ⟨(Nat.le_of_ble_eq_true rfl), (Nat.le_of_ble_eq_true rfl)⟩ rfl rfl (As := [.ref a2, .ref u2]) (rest := []) rfl rfl (Nat.le_of_ble_eq_true rfl) dX2_isStoppedIn_90 ⟨by show cells + 0 ≤ 0; omega, by show slots + 0 ≤ 0; omega⟩) (kx_out C hex (fun _ _ _ h => h) (by omega) (by omega)) (fun r9 S8 H locs P hE hw => ?_)
          have p_a0 : pI S8 2 a0 := pI_x hE p_a0
          have p_u2 : pI S8 7 u2 := pI_x hE p_u2
          have p_a2 : pI S8 7 a2 := pI_x hE p_a2
          refine lv_if_le (tgt := 98) hx hb dX2_isStoppedIn_93 (by decide) (fun hc => ?_) (fun hc => ?_)
          · have hw := hw.1 hc
            refine lv_iinc (v := (y3 + 1)) (lv' := [(3, .int (y3 + 1)), (4, .ref a2), (0, .ref a0), (2, .ref u2)]) hx hb dX2_isStoppedIn_98 hl (k := 3) rfl (by rfl) (by decide) rfl (fun ls hl => ?_)
            refine lv_goto (tgt := 24) hx hb dX2_isStoppedIn_101 (by decide) ?_
            exact kh24 S8 a0 u2 (y3 + 1) _ _ _ _ _ p_a0 p_u2 P (lv_sub hl [2, 3, 0] rfl) (by omega) (by omega) hw
          · have hw := hw.2 hc
            refine lv_iconst (v := 1) hx hb dX2_isStoppedIn_96 (by decide) ?_
            exact e_i C hr (by decide +kernel) P hw (by omega) (by omega) dX2_isStoppedIn_97
def lX2_isStoppedIn_24 (Q : Int32 → MS → Prop) (QX : String → MS → Prop) : Nat → MS → Nat → Nat → Int32 → Prop
  | 0 => fun _ _ _ _ => False
  | n + 1 => fun S a0 u2 y3 => wX2_isStoppedIn_24 Q QX (lX2_isStoppedIn_24 Q QX n) S a0 u2 y3
theorem tlX2_isStoppedIn_24 {p : Program} {l : Launch} {e : Env} {s : State} {m : MethodId} {args : Array Value} {below : List Frame} {meth : Method} {c : Code} {G : GP} {A : Nat → Prop} {S0 : MS} (C : CF p l s m args meth c "SkirmishGrid$Fight" cX2_isStoppedIn 5 G A) (hr : meth.sig.returnType = (some .boolean)) (hex : ∀ x ∈ c.exceptionTable.toList, False) (Q : Int32 → MS → Prop) (QX : String → MS → Prop) : ∀ (n : Nat), ∀ (S : MS) (a0 : Nat) (u2 : Nat) (y3 : Int32) (cells slots : Nat) (H : Heap) (locs : List Loc) (ls : Array Slot), pI S 2 a0 → pI S 7 u2 → PW G A s H locs S0 S → lv_has ls 5 [(0, .ref a0), (2, .ref u2), (3, .int y3)] → cells + 0 ≤ 0 → slots + 0 ≤ 0 → lX2_isStoppedIn_24 Q QX n S a0 u2 y3 → W p l e rmX2_isStoppedIn s m args below meth c H locs cells slots (vx_MQ below (QI G S0 A Q) (XX G S0 A QX) args s 0 0 A) (F0 m 24 ls []) := by
  intro n
  induction n with
  | zero => intro S a0 u2 y3 cells slots H locs ls p_a0 p_u2 P hl hcc hss hw; exact hw.elim
  | succ n ih => intro S a0 u2 y3 cells slots H locs ls p_a0 p_u2 P hl hcc hss hw; exact tX2_isStoppedIn_24 C hr hex Q QX (lX2_isStoppedIn_24 Q QX n) ih S a0 u2 y3 p_a0 p_u2 P hl hcc hss hw
def wX2_isStoppedIn_0 (Q : Int32 → MS → Prop) (QX : String → MS → Prop) (S : MS) (a0 : Nat) (x1 : Int32) (b2 : Nat) : Prop := (∀ S1, S1 = (sI S b2 4 x1) → (∃ a2, mR S1 a0 0 = some a2 ∧ wp_X3_ground (fun r4 S3 => ((¬ r4 = 4 → (∃ n, lX2_isStoppedIn_24 Q QX n S3 a0 b2 0)) ∧ (r4 = 4 → (∀ S5, S5 = (sI S3 b2 10 2) → (∃ n, lX2_isStoppedIn_24 Q QX n S5 a0 b2 0))))) QX S1 a2 x1))
set_option maxHeartbeats 4000000 in
set_option maxRecDepth 100000 in
theorem tX2_isStoppedIn_0 {p : Program} {l : Launch} {e : Env} {s : State} {m : MethodId} {args : Array Value} {below : List Frame} {meth : Method} {c : Code} {H : Heap} {locs : List Loc} {cells slots : Nat} {G : GP} {A : Nat → Prop} {S0 : MS} {ls : Array Slot} (C : CF p l s m args meth c "SkirmishGrid$Fight" cX2_isStoppedIn 5 G A) (hr : meth.sig.returnType = (some .boolean)) (hex : ∀ x ∈ c.exceptionTable.toList, False) (Q : Int32 → MS → Prop) (QX : String → MS → Prop) (S : MS) (a0 : Nat) (x1 : Int32) (b2 : Nat) (p_a0 : pI S 2 a0) (p_b2 : pI S 7 b2) (P : PW G A s H locs S0 S) (hl : lv_has ls 5 [(0, .ref a0), (1, .int x1), (2, .ref b2)]) (hcc : cells + 0 ≤ 0) (hss : slots + 0 ≤ 0) (hw : wX2_isStoppedIn_0 Q QX S a0 x1 b2) : W p l e rmX2_isStoppedIn s m args below meth c H locs cells slots (vx_MQ below (QI G S0 A Q) (XX G S0 A QX) args s 0 0 A) (F0 m 0 ls []) := by
  have hx := CF_x C
  have hb := CF_b C
  unfold wX2_isStoppedIn_0 at hw
  refine lv_aload_n hx hb dX2_isStoppedIn_0 rfl (lv_at hl 2 rfl) ?_
  refine lv_iload_n hx hb dX2_isStoppedIn_1 rfl (lv_at hl 1 rfl) ?_
  refine pf_7_4 C P p_b2 q_107 dX2_isStoppedIn_2 (fun H locs P => ?_)
  obtain ⟨S1, hS⟩ : ∃ z, z = (sI S b2 4 x1) := ⟨_, rfl⟩
  have P : PW G A s H locs S0 S1 := by rw [hS]; exact P
  have p_a0 : pI S1 2 a0 := by rw [hS]; exact pI_x ext_sI p_a0
  have p_b2 : pI S1 7 b2 := by rw [hS]; exact pI_x ext_sI p_b2
  have hw := hw S1 hS
  refine lv_aload_n hx hb dX2_isStoppedIn_5 rfl (lv_at hl 0 rfl) ?_
  obtain ⟨a2, e1, hw⟩ := hw
  have p_a2 : pI S1 3 a2 := wf_r P.2.2.2.1 p_a0 e1
  refine gf_2_0 C P p_a0 e1 q_161 dX2_isStoppedIn_6 ?_
  refine lv_iload_n hx hb dX2_isStoppedIn_9 rfl (lv_at hl 1 rfl) ?_
  refine cl_i C P (run_V C P hl.1 (kd := 3) (met_X3_ground (CF_n C) G H.size _ _ S1 a2 x1 p_a2 hw) p_a2 (by decide) rfl q_1063 q_702 q_703 q_3 q_704 cd_X3_ground ⟨(Nat.le_of_ble_eq_true rfl), (Nat.le_of_ble_eq_true rfl)⟩ rfl rfl (As := [.int x1]) (rest := []) rfl rfl (Nat.le_of_ble_eq_true rfl) dX2_isStoppedIn_10 ⟨by show cells + 0 ≤ 0; omega, by show slots + 0 ≤ 0; omega⟩) (kx_out C hex (fun _ _ _ h => h) (by omega) (by omega)) (fun r4 S3 H locs P hE hw => ?_)
  have p_a0 : pI S3 2 a0 := pI_x hE p_a0
  have p_b2 : pI S3 7 b2 := pI_x hE p_b2
  have p_a2 : pI S3 3 a2 := pI_x hE p_a2
  refine lv_iconst (v := 4) hx hb dX2_isStoppedIn_13 (by decide) ?_
  refine lv_icmp_ne (tgt := 22) hx hb dX2_isStoppedIn_14 (by decide) (fun hc => ?_) (fun hc => ?_)
  · have hw := hw.1 hc
    refine lv_iconst (v := 0) hx hb dX2_isStoppedIn_22 (by decide) ?_
    refine lv_istore_n (lv' := [(3, .int 0), (0, .ref a0), (1, .int x1), (2, .ref b2)]) hx hb dX2_isStoppedIn_23 rfl hl (by decide) rfl (fun ls hl => ?_)
    obtain ⟨n, hw⟩ := hw
    exact tlX2_isStoppedIn_24 C hr hex Q QX n S3 a0 b2 0 _ _ _ _ _ p_a0 p_b2 P (lv_sub hl [1, 3, 0] rfl) (by omega) (by omega) hw
  · have hw := hw.2 hc
    refine lv_aload_n hx hb dX2_isStoppedIn_17 rfl (lv_at hl 2 rfl) ?_
    refine lv_iconst (v := 2) hx hb dX2_isStoppedIn_18 (by decide) ?_
    refine pf_7_10 C P p_b2 q_127 dX2_isStoppedIn_19 (fun H locs P => ?_)
    obtain ⟨S5, hS⟩ : ∃ z, z = (sI S3 b2 10 2) := ⟨_, rfl⟩
    have P : PW G A s H locs S0 S5 := by rw [hS]; exact P
    have p_a0 : pI S5 2 a0 := by rw [hS]; exact pI_x ext_sI p_a0
    have p_b2 : pI S5 7 b2 := by rw [hS]; exact pI_x ext_sI p_b2
    have hw := hw S5 hS
    refine lv_iconst (v := 0) hx hb dX2_isStoppedIn_22 (by decide) ?_
    refine lv_istore_n (lv' := [(3, .int 0), (0, .ref a0), (1, .int x1), (2, .ref b2)]) hx hb dX2_isStoppedIn_23 rfl hl (by decide) rfl (fun ls hl => ?_)
    obtain ⟨n, hw⟩ := hw
    exact tlX2_isStoppedIn_24 C hr hex Q QX n S5 a0 b2 0 _ _ _ _ _ p_a0 p_b2 P (lv_sub hl [1, 3, 0] rfl) (by omega) (by omega) hw
def wp_X2_isStoppedIn (Q : Int32 → MS → Prop) (QX : String → MS → Prop) (S : MS) (a0 : Nat) (x1 : Int32) (b2 : Nat) : Prop := wX2_isStoppedIn_0 Q QX S a0 x1 b2
set_option maxHeartbeats 4000000 in
set_option maxRecDepth 100000 in
theorem met_X2_isStoppedIn {l : Launch} (hst : l.stackTraces = false) (G : GP) (sz : Nat) (Q : Int32 → MS → Prop) (QX : String → MS → Prop) (S : MS) (a0 : Nat) (x1 : Int32) (b2 : Nat) (p_a0 : pI S 2 a0) (p_b2 : pI S 7 b2) (hw : wp_X2_isStoppedIn Q QX S a0 x1 b2) : vx_Met l yX2_isStoppedIn (.code yX2_isStoppedIn cX2_isStoppedIn 5 (some .boolean) :: GW) rmX2_isStoppedIn (va_Pc [.ref a0, .int x1, .ref b2] (PR G S sz)) (QI G S (FA G S sz) Q) (XX G S (FA G S sz) QX) 0 0 (FA G S sz) := by
  refine st_m (by decide +kernel) hst (fun p e s m below meth c C hr hnm hex P => ?_)
  refine en_m (Nat.le_of_ble_eq_true rfl) (lv := [(0, .ref a0), (1, .int x1), (2, .ref b2)]) rfl (fun ls hl => ?_)
  have C : CF p l s m _ meth c "SkirmishGrid$Fight" cX2_isStoppedIn 5 G (FA G S sz) := C
  exact tX2_isStoppedIn_0 C hr hex Q QX S a0 x1 b2 p_a0 p_b2 P hl (by omega) (by omega) hw
theorem cd_X2_isStoppedIn : yX2_isStoppedIn.cls = RX2 ∧ yX2_isStoppedIn.cls ≠ "java/lang/invoke/MethodHandle" ∧ yX2_isStoppedIn.cls ≠ "java/lang/invoke/VarHandle" ∧ (parseMethodDescriptor yX2_isStoppedIn.desc).map (fun d => d.parameters.length) = some 2 := by decide +kernel
abbrev rmX2_walk : Room := { frames := 5, cells := 0, slots := 0, locals := 160 }
def wX2_walk_82 (Q : Int32 → MS → Prop) (QX : String → MS → Prop) (k33 : MS → Nat → Int32 → Nat → Nat → Int32 → Int32 → Prop) (S : MS) (a0 : Nat) (y1 : Int32) (u2 : Nat) (u3 : Nat) (y5 : Int32) : Prop := k33 S a0 y1 u2 u3 1 (y5 + 1)
set_option maxHeartbeats 4000000 in
set_option maxRecDepth 100000 in
theorem tX2_walk_82 {p : Program} {l : Launch} {e : Env} {s : State} {m : MethodId} {args : Array Value} {below : List Frame} {meth : Method} {c : Code} {H : Heap} {locs : List Loc} {cells slots : Nat} {G : GP} {A : Nat → Prop} {S0 : MS} {ls : Array Slot} (C : CF p l s m args meth c "SkirmishGrid$Fight" cX2_walk 7 G A) (hr : meth.sig.returnType = (some .int)) (hex : ∀ x ∈ c.exceptionTable.toList, False) (Q : Int32 → MS → Prop) (QX : String → MS → Prop) (k33 : MS → Nat → Int32 → Nat → Nat → Int32 → Int32 → Prop) (kh33 : ∀ (S : MS) (a0 : Nat) (y1 : Int32) (u2 : Nat) (u3 : Nat) (y4 : Int32) (y5 : Int32) (cells slots : Nat) (H : Heap) (locs : List Loc) (ls : Array Slot), pI S 2 a0 → pI S 5 u2 → pI S 7 u3 → PW G A s H locs S0 S → lv_has ls 7 [(0, .ref a0), (1, .int y1), (2, .ref u2), (3, .ref u3), (4, .int y4), (5, .int y5)] → cells + 0 ≤ 0 → slots + 0 ≤ 0 → k33 S a0 y1 u2 u3 y4 y5 → W p l e rmX2_walk s m args below meth c H locs cells slots (vx_MQ below (QI G S0 A Q) (XX G S0 A QX) args s 0 0 A) (F0 m 33 ls [])) (S : MS) (a0 : Nat) (y1 : Int32) (u2 : Nat) (u3 : Nat) (y5 : Int32) (p_a0 : pI S 2 a0) (p_u2 : pI S 5 u2) (p_u3 : pI S 7 u3) (P : PW G A s H locs S0 S) (hl : lv_has ls 7 [(0, .ref a0), (1, .int y1), (2, .ref u2), (3, .ref u3), (5, .int y5)]) (hcc : cells + 0 ≤ 0) (hss : slots + 0 ≤ 0) (hw : wX2_walk_82 Q QX k33 S a0 y1 u2 u3 y5) : W p l e rmX2_walk s m args below meth c H locs cells slots (vx_MQ below (QI G S0 A Q) (XX G S0 A QX) args s 0 0 A) (F0 m 82 ls []) := by
  have hx := CF_x C
  have hb := CF_b C
  unfold wX2_walk_82 at hw
  refine lv_iconst (v := 1) hx hb dX2_walk_82 (by decide) ?_
  refine lv_goto (tgt := 87) hx hb dX2_walk_83 (by decide) ?_
  refine lv_istore (lv' := [(4, .int 1), (0, .ref a0), (1, .int y1), (2, .ref u2), (3, .ref u3), (5, .int y5)]) hx hb dX2_walk_87 hl (by decide) rfl (fun ls hl => ?_)
  refine lv_iinc (v := (y5 + 1)) (lv' := [(5, .int (y5 + 1)), (4, .int 1), (0, .ref a0), (1, .int y1), (2, .ref u2), (3, .ref u3)]) hx hb dX2_walk_89 hl (k := 5) rfl (by rfl) (by decide) rfl (fun ls hl => ?_)
  refine lv_goto (tgt := 33) hx hb dX2_walk_92 (by decide) ?_
  exact kh33 S a0 y1 u2 u3 1 (y5 + 1) _ _ _ _ _ p_a0 p_u2 p_u3 P (lv_sub hl [2, 3, 4, 5, 1, 0] rfl) (by omega) (by omega) hw
def wX2_walk_95 (Q : Int32 → MS → Prop) (QX : String → MS → Prop) (S : MS) (a0 : Nat) (u3 : Nat) : Prop := (∃ a1, mR S a0 11 = some a1 ∧ wp_X1_note (fun S2 => wp_X2_settle (fun S3 => Q (mI S3 u3 4) S3) QX S2 a0 u3) QX S a1 1 (mI S u3 0) (mI S u3 4))
set_option maxHeartbeats 4000000 in
set_option maxRecDepth 100000 in
theorem tX2_walk_95 {p : Program} {l : Launch} {e : Env} {s : State} {m : MethodId} {args : Array Value} {below : List Frame} {meth : Method} {c : Code} {H : Heap} {locs : List Loc} {cells slots : Nat} {G : GP} {A : Nat → Prop} {S0 : MS} {ls : Array Slot} (C : CF p l s m args meth c "SkirmishGrid$Fight" cX2_walk 7 G A) (hr : meth.sig.returnType = (some .int)) (hex : ∀ x ∈ c.exceptionTable.toList, False) (Q : Int32 → MS → Prop) (QX : String → MS → Prop) (S : MS) (a0 : Nat) (u3 : Nat) (p_a0 : pI S 2 a0) (p_u3 : pI S 7 u3) (P : PW G A s H locs S0 S) (hl : lv_has ls 7 [(0, .ref a0), (3, .ref u3)]) (hcc : cells + 0 ≤ 0) (hss : slots + 0 ≤ 0) (hw : wX2_walk_95 Q QX S a0 u3) : W p l e rmX2_walk s m args below meth c H locs cells slots (vx_MQ below (QI G S0 A Q) (XX G S0 A QX) args s 0 0 A) (F0 m 95 ls []) := by
  have hx := CF_x C
  have hb := CF_b C
  unfold wX2_walk_95 at hw
  refine lv_aload_n hx hb dX2_walk_95 rfl (lv_at hl 0 rfl) ?_
  obtain ⟨a1, e1, hw⟩ := hw
  have p_a1 : pI S 1 a1 := wf_r P.2.2.2.1 p_a0 e1
  refine gf_2_11 C P p_a0 e1 q_185 dX2_walk_96 ?_
  refine lv_iconst (v := 1) hx hb dX2_walk_99 (by decide) ?_
  refine lv_aload_n hx hb dX2_walk_100 rfl (lv_at hl 1 rfl) ?_
  refine gf_7_0 C P p_u3 q_95 dX2_walk_101 ?_
  refine lv_aload_n hx hb dX2_walk_104 rfl (lv_at hl 1 rfl) ?_
  refine gf_7_4 C P p_u3 q_107 dX2_walk_105 ?_
  refine cl_v C P (run_V C P hl.1 (kd := 1) (met_X1_note (CF_n C) G H.size _ _ S a1 1 (mI S u3 0) (mI S u3 4) p_a1 hw) p_a1 (by decide) rfl q_843 q_844 q_845 q_4 q_846 cd_X1_note ⟨(Nat.le_of_ble_eq_true rfl), (Nat.le_of_ble_eq_true rfl)⟩ rfl rfl (As := [.int 1, .int (mI S u3 0), .int (mI S u3 4)]) (rest := []) rfl rfl (Nat.le_of_ble_eq_true rfl) dX2_walk_108 ⟨by show cells + 0 ≤ 0; omega, by show slots + 0 ≤ 0; omega⟩) (kx_out C hex (fun _ _ _ h => h) (by omega) (by omega)) (fun S2 H locs P hE hw => ?_)
  have p_a0 : pI S2 2 a0 := pI_x hE p_a0
  have p_u3 : pI S2 7 u3 := pI_x hE p_u3
  have p_a1 : pI S2 1 a1 := pI_x hE p_a1
  refine lv_aload_n hx hb dX2_walk_111 rfl (lv_at hl 0 rfl) ?_
  refine lv_aload_n hx hb dX2_walk_112 rfl (lv_at hl 1 rfl) ?_
  refine cl_v C P (run_V C P hl.1 (kd := 2) (met_X2_settle (CF_n C) G H.size _ _ S2 a0 u3 p_a0 p_u3 hw) p_a0 (by decide) rfl q_1068 q_1070 q_p20 q_2 q_1071 cd_X2_settle ⟨(Nat.le_of_ble_eq_true rfl), (Nat.le_of_ble_eq_true rfl)⟩ rfl rfl (As := [.ref u3]) (rest := []) rfl rfl (Nat.le_of_ble_eq_true rfl) dX2_walk_113 ⟨by show cells + 0 ≤ 0; omega, by show slots + 0 ≤ 0; omega⟩) (kx_out C hex (fun _ _ _ h => h) (by omega) (by omega)) (fun S3 H locs P hE hw => ?_)
  have p_a0 : pI S3 2 a0 := pI_x hE p_a0
  have p_u3 : pI S3 7 u3 := pI_x hE p_u3
  refine lv_aload_n hx hb dX2_walk_116 rfl (lv_at hl 1 rfl) ?_
  refine gf_7_4 C P p_u3 q_107 dX2_walk_117 ?_
  exact e_i C hr rfl P hw (by omega) (by omega) dX2_walk_120
def wX2_walk_33 (Q : Int32 → MS → Prop) (QX : String → MS → Prop) (k33 : MS → Nat → Int32 → Nat → Nat → Int32 → Int32 → Prop) (S : MS) (a0 : Nat) (y1 : Int32) (u2 : Nat) (u3 : Nat) (y4 : Int32) (y5 : Int32) : Prop := ((64 ≤ y5 → wX2_walk_95 Q QX S a0 u3) ∧ (¬ 64 ≤ y5 → ((¬ y4 = 0 → wX2_walk_95 Q QX S a0 u3) ∧ (y4 = 0 → (((mI S u3 4) = y1 → wX2_walk_95 Q QX S a0 u3) ∧ (¬ (mI S u3 4) = y1 → (∃ a1, mR S a0 0 = some a1 ∧ wp_X5_next (fun r3 S2 => ((r3 < 0 → wX2_walk_82 Q QX k33 S2 a0 y1 u2 u3 y5) ∧ (¬ r3 < 0 → wp_X2_isStoppedIn (fun r5 S4 => ((r5 = 0 → k33 S4 a0 y1 u2 u3 0 (y5 + 1)) ∧ (¬ r5 = 0 → wX2_walk_82 Q QX k33 S4 a0 y1 u2 u3 y5))) QX S2 a0 r3 u3))) QX S u2 a1 (mI S u3 4))))))))
set_option maxHeartbeats 4000000 in
set_option maxRecDepth 100000 in
theorem tX2_walk_33 {p : Program} {l : Launch} {e : Env} {s : State} {m : MethodId} {args : Array Value} {below : List Frame} {meth : Method} {c : Code} {H : Heap} {locs : List Loc} {cells slots : Nat} {G : GP} {A : Nat → Prop} {S0 : MS} {ls : Array Slot} (C : CF p l s m args meth c "SkirmishGrid$Fight" cX2_walk 7 G A) (hr : meth.sig.returnType = (some .int)) (hex : ∀ x ∈ c.exceptionTable.toList, False) (Q : Int32 → MS → Prop) (QX : String → MS → Prop) (k33 : MS → Nat → Int32 → Nat → Nat → Int32 → Int32 → Prop) (kh33 : ∀ (S : MS) (a0 : Nat) (y1 : Int32) (u2 : Nat) (u3 : Nat) (y4 : Int32) (y5 : Int32) (cells slots : Nat) (H : Heap) (locs : List Loc) (ls : Array Slot), pI S 2 a0 → pI S 5 u2 → pI S 7 u3 → PW G A s H locs S0 S → lv_has ls 7 [(0, .ref a0), (1, .int y1), (2, .ref u2), (3, .ref u3), (4, .int y4), (5, .int y5)] → cells + 0 ≤ 0 → slots + 0 ≤ 0 → k33 S a0 y1 u2 u3 y4 y5 → W p l e rmX2_walk s m args below meth c H locs cells slots (vx_MQ below (QI G S0 A Q) (XX G S0 A QX) args s 0 0 A) (F0 m 33 ls [])) (S : MS) (a0 : Nat) (y1 : Int32) (u2 : Nat) (u3 : Nat) (y4 : Int32) (y5 : Int32) (p_a0 : pI S 2 a0) (p_u2 : pI S 5 u2) (p_u3 : pI S 7 u3) (P : PW G A s H locs S0 S) (hl : lv_has ls 7 [(0, .ref a0), (1, .int y1), (2, .ref u2), (3, .ref u3), (4, .int y4), (5, .int y5)]) (hcc : cells + 0 ≤ 0) (hss : slots + 0 ≤ 0) (hw : wX2_walk_33 Q QX k33 S a0 y1 u2 u3 y4 y5) : W p l e rmX2_walk s m args below meth c H locs cells slots (vx_MQ below (QI G S0 A Q) (XX G S0 A QX) args s 0 0 A) (F0 m 33 ls []) := by
  have hx := CF_x C
  have hb := CF_b C
  unfold wX2_walk_33 at hw
  refine lv_iload hx hb dX2_walk_33 (lv_at hl 5 rfl) ?_
  refine lv_bipush (v := 64) hx hb dX2_walk_35 (by decide) ?_
  refine lv_icmp_ge (tgt := 95) hx hb dX2_walk_37 (by decide) (fun hc => ?_) (fun hc => ?_)
  · have hw := hw.1 hc
    exact tX2_walk_95 C hr hex Q QX S a0 u3 p_a0 p_u3 P (lv_sub hl [0, 3] rfl) (by omega) (by omega) hw
  · have hw := hw.2 hc
    refine lv_iload hx hb dX2_walk_40 (lv_at hl 4 rfl) ?_
    refine lv_if_ne (tgt := 95) hx hb dX2_walk_42 (by decide) (fun hc => ?_) (fun hc => ?_)
    · have hw := hw.1 hc
      exact tX2_walk_95 C hr hex Q QX S a0 u3 p_a0 p_u3 P (lv_sub hl [0, 3] rfl) (by omega) (by omega) hw
    · have hw := hw.2 hc
      refine lv_aload_n hx hb dX2_walk_45 rfl (lv_at hl 3 rfl) ?_
      refine gf_7_4 C P p_u3 q_107 dX2_walk_46 ?_
      refine lv_iload_n hx hb dX2_walk_49 rfl (lv_at hl 1 rfl) ?_
      refine lv_icmp_eq (tgt := 95) hx hb dX2_walk_50 (by decide) (fun hc => ?_) (fun hc => ?_)
      · have hw := hw.1 hc
        exact tX2_walk_95 C hr hex Q QX S a0 u3 p_a0 p_u3 P (lv_sub hl [0, 3] rfl) (by omega) (by omega) hw
      · have hw := hw.2 hc
        refine lv_aload_n hx hb dX2_walk_53 rfl (lv_at hl 2 rfl) ?_
        refine lv_aload_n hx hb dX2_walk_54 rfl (lv_at hl 0 rfl) ?_
        obtain ⟨a1, e1, hw⟩ := hw
        have p_a1 : pI S 3 a1 := wf_r P.2.2.2.1 p_a0 e1
        refine gf_2_0 C P p_a0 e1 q_161 dX2_walk_55 ?_
        refine lv_aload_n hx hb dX2_walk_58 rfl (lv_at hl 3 rfl) ?_
        refine gf_7_4 C P p_u3 q_107 dX2_walk_59 ?_
        refine cl_i C P (run_V C P hl.1 (kd := 5) (met_X5_next (CF_n C) G H.size _ _ S u2 a1 (mI S u3 4) p_u2 p_a1 hw) p_u2 (by decide) rfl q_1058 q_945 q_946 q_8 q_947 cd_X5_next ⟨(Nat.le_of_ble_eq_true rfl), (Nat.le_of_ble_eq_true rfl)⟩ rfl rfl (As := [.ref a1, .int (mI S u3 4)]) (rest := []) rfl rfl (Nat.le_of_ble_eq_true rfl) dX2_walk_62 ⟨by show cells + 0 ≤ 0; omega, by show slots + 0 ≤ 0; omega⟩) (kx_out C hex (fun _ _ _ h => h) (by omega) (by omega)) (fun r3 S2 H locs P hE hw => ?_)
        have p_a0 : pI S2 2 a0 := pI_x hE p_a0
        have p_u2 : pI S2 5 u2 := pI_x hE p_u2
        have p_u3 : pI S2 7 u3 := pI_x hE p_u3
        have p_a1 : pI S2 3 a1 := pI_x hE p_a1
        refine lv_istore (lv' := [(6, .int r3), (0, .ref a0), (1, .int y1), (2, .ref u2), (3, .ref u3), (4, .int y4), (5, .int y5)]) hx hb dX2_walk_65 hl (by decide) rfl (fun ls hl => ?_)
        refine lv_iload hx hb dX2_walk_67 (lv_at hl 0 rfl) ?_
        refine lv_if_lt (tgt := 82) hx hb dX2_walk_69 (by decide) (fun hc => ?_) (fun hc => ?_)
        · have hw := hw.1 hc
          exact tX2_walk_82 C hr hex Q QX k33 kh33 S2 a0 y1 u2 u3 y5 p_a0 p_u2 p_u3 P (lv_sub hl [1, 2, 3, 4, 6] rfl) (by omega) (by omega) hw
        · have hw := hw.2 hc
          refine lv_aload_n hx hb dX2_walk_72 rfl (lv_at hl 1 rfl) ?_
          refine lv_iload hx hb dX2_walk_73 (lv_at hl 0 rfl) ?_
          refine lv_aload_n hx hb dX2_walk_75 rfl (lv_at hl 4 rfl) ?_
          refine cl_i C P (run_V C P hl.1 (kd := 2) (met_X2_isStoppedIn (CF_n C) G H.size _ _ S2 a0 r3 u3 p_a0 p_u3 hw) p_a0 (by decide) rfl q_1059 q_1061 q_p18 q_2 q_1062 cd_X2_isStoppedIn ⟨(Nat.le_of_ble_eq_true rfl), (Nat.le_of_ble_eq_true rfl)⟩ rfl rfl (As := [.int r3, .ref u3]) (rest := []) rfl rfl (Nat.le_of_ble_eq_true rfl) dX2_walk_76 ⟨by show cells + 0 ≤ 0; omega, by show slots + 0 ≤ 0; omega⟩) (kx_out C hex (fun _ _ _ h => h) (by omega) (by omega)) (fun r5 S4 H locs P hE hw => ?_)
          have p_a0 : pI S4 2 a0 := pI_x hE p_a0
          have p_u2 : pI S4 5 u2 := pI_x hE p_u2
          have p_u3 : pI S4 7 u3 := pI_x hE p_u3
          refine lv_if_eq (tgt := 86) hx hb dX2_walk_79 (by decide) (fun hc => ?_) (fun hc => ?_)
          · have hw := hw.1 hc
            refine lv_iconst (v := 0) hx hb dX2_walk_86 (by decide) ?_
            refine lv_istore (lv' := [(4, .int 0), (6, .int r3), (0, .ref a0), (1, .int y1), (2, .ref u2), (3, .ref u3), (5, .int y5)]) hx hb dX2_walk_87 hl (by decide) rfl (fun ls hl => ?_)
            refine lv_iinc (v := (y5 + 1)) (lv' := [(5, .int (y5 + 1)), (4, .int 0), (6, .int r3), (0, .ref a0), (1, .int y1), (2, .ref u2), (3, .ref u3)]) hx hb dX2_walk_89 hl (k := 6) rfl (by rfl) (by decide) rfl (fun ls hl => ?_)
            refine lv_goto (tgt := 33) hx hb dX2_walk_92 (by decide) ?_
            exact kh33 S4 a0 y1 u2 u3 0 (y5 + 1) _ _ _ _ _ p_a0 p_u2 p_u3 P (lv_sub hl [3, 4, 5, 6, 1, 0] rfl) (by omega) (by omega) hw
          · have hw := hw.2 hc
            exact tX2_walk_82 C hr hex Q QX k33 kh33 S4 a0 y1 u2 u3 y5 p_a0 p_u2 p_u3 P (lv_sub hl [1, 2, 3, 4, 6] rfl) (by omega) (by omega) hw
def lX2_walk_33 (Q : Int32 → MS → Prop) (QX : String → MS → Prop) : Nat → MS → Nat → Int32 → Nat → Nat → Int32 → Int32 → Prop
  | 0 => fun _ _ _ _ _ _ _ => False
  | n + 1 => fun S a0 y1 u2 u3 y4 y5 => wX2_walk_33 Q QX (lX2_walk_33 Q QX n) S a0 y1 u2 u3 y4 y5
theorem tlX2_walk_33 {p : Program} {l : Launch} {e : Env} {s : State} {m : MethodId} {args : Array Value} {below : List Frame} {meth : Method} {c : Code} {G : GP} {A : Nat → Prop} {S0 : MS} (C : CF p l s m args meth c "SkirmishGrid$Fight" cX2_walk 7 G A) (hr : meth.sig.returnType = (some .int)) (hex : ∀ x ∈ c.exceptionTable.toList, False) (Q : Int32 → MS → Prop) (QX : String → MS → Prop) : ∀ (n : Nat), ∀ (S : MS) (a0 : Nat) (y1 : Int32) (u2 : Nat) (u3 : Nat) (y4 : Int32) (y5 : Int32) (cells slots : Nat) (H : Heap) (locs : List Loc) (ls : Array Slot), pI S 2 a0 → pI S 5 u2 → pI S 7 u3 → PW G A s H locs S0 S → lv_has ls 7 [(0, .ref a0), (1, .int y1), (2, .ref u2), (3, .ref u3), (4, .int y4), (5, .int y5)] → cells + 0 ≤ 0 → slots + 0 ≤ 0 → lX2_walk_33 Q QX n S a0 y1 u2 u3 y4 y5 → W p l e rmX2_walk s m args below meth c H locs cells slots (vx_MQ below (QI G S0 A Q) (XX G S0 A QX) args s 0 0 A) (F0 m 33 ls []) := by
  intro n
  induction n with
  | zero => intro S a0 y1 u2 u3 y4 y5 cells slots H locs ls p_a0 p_u2 p_u3 P hl hcc hss hw; exact hw.elim
  | succ n ih => intro S a0 y1 u2 u3 y4 y5 cells slots H locs ls p_a0 p_u2 p_u3 P hl hcc hss hw; exact tX2_walk_33 C hr hex Q QX (lX2_walk_33 Q QX n) ih S a0 y1 u2 u3 y4 y5 p_a0 p_u2 p_u3 P hl hcc hss hw
def wX2_walk_0 (Q : Int32 → MS → Prop) (QX : String → MS → Prop) (S : MS) (a0 : Nat) (x1 : Int32) (b2 : Nat) : Prop := wp_X2_onTurn (fun r2 S1 => ((r2 = none → Q (-1) S1) ∧ (∀ a3, r2 = some a3 → (∀ S4, S4 = (sI S1 a0 7 ((mI S1 a0 7) - 1)) → wp_X5_measure (fun S5 => (∃ n, lX2_walk_33 Q QX n S5 a0 x1 b2 a3 0 0)) QX S4 b2 a0 x1)))) QX S a0
set_option maxHeartbeats 4000000 in
set_option maxRecDepth 100000 in
theorem tX2_walk_0 {p : Program} {l : Launch} {e : Env} {s : State} {m : MethodId} {args : Array Value} {below : List Frame} {meth : Method} {c : Code} {H : Heap} {locs : List Loc} {cells slots : Nat} {G : GP} {A : Nat → Prop} {S0 : MS} {ls : Array Slot} (C : CF p l s m args meth c "SkirmishGrid$Fight" cX2_walk 7 G A) (hr : meth.sig.returnType = (some .int)) (hex : ∀ x ∈ c.exceptionTable.toList, False) (Q : Int32 → MS → Prop) (QX : String → MS → Prop) (S : MS) (a0 : Nat) (x1 : Int32) (b2 : Nat) (p_a0 : pI S 2 a0) (p_b2 : pI S 5 b2) (P : PW G A s H locs S0 S) (hl : lv_has ls 7 [(0, .ref a0), (1, .int x1), (2, .ref b2)]) (hcc : cells + 0 ≤ 0) (hss : slots + 0 ≤ 0) (hw : wX2_walk_0 Q QX S a0 x1 b2) : W p l e rmX2_walk s m args below meth c H locs cells slots (vx_MQ below (QI G S0 A Q) (XX G S0 A QX) args s 0 0 A) (F0 m 0 ls []) := by
  have hx := CF_x C
  have hb := CF_b C
  unfold wX2_walk_0 at hw
  refine lv_aload_n hx hb dX2_walk_0 rfl (lv_at hl 0 rfl) ?_
  refine cl_q C P (run_V C P hl.1 (kd := 2) (met_X2_onTurn (CF_n C) G H.size _ _ S a0 p_a0 hw) p_a0 (by decide) rfl q_1056 q_879 q_880 q_2 q_881 cd_X2_onTurn ⟨(Nat.le_of_ble_eq_true rfl), (Nat.le_of_ble_eq_true rfl)⟩ rfl rfl (As := []) (rest := []) rfl rfl (Nat.le_of_ble_eq_true rfl) dX2_walk_1 ⟨by show cells + 0 ≤ 0; omega, by show slots + 0 ≤ 0; omega⟩) (kx_out C hex (fun _ _ _ h => h) (by omega) (by omega)) (fun r2 S1 H locs P hE hw hR => ?_)
  have p_a0 : pI S1 2 a0 := pI_x hE p_a0
  have p_b2 : pI S1 5 b2 := pI_x hE p_b2
  cases r2 with
  | none =>
    have hw := hw.1 rfl
    refine lv_astore_nN (lv' := [(3, .null), (0, .ref a0), (1, .int x1), (2, .ref b2)]) hx hb dX2_walk_4 rfl hl (by decide) rfl (fun ls hl => ?_)
    refine lv_aload_nN hx hb dX2_walk_5 rfl (lv_at hl 0 rfl) ?_
    refine lv_ifnonnullN hx hb dX2_walk_6 ?_
    refine lv_iconst (v := (-1)) hx hb dX2_walk_9 (by decide) ?_
    exact e_i C hr rfl P hw (by omega) (by omega) dX2_walk_10
  | some a3 =>
    have hw := hw.2 a3 rfl
    have p_a3 : pI S1 7 a3 := hR a3 rfl
    refine lv_astore_n (lv' := [(3, .ref a3), (0, .ref a0), (1, .int x1), (2, .ref b2)]) hx hb dX2_walk_4 rfl hl (by decide) rfl (fun ls hl => ?_)
    refine lv_aload_n hx hb dX2_walk_5 rfl (lv_at hl 0 rfl) ?_
    refine lv_ifnonnull (tgt := 11) hx hb dX2_walk_6 (by decide) ?_
    refine lv_aload_n hx hb dX2_walk_11 rfl (lv_at hl 1 rfl) ?_
    refine lv_dup hx hb dX2_walk_12 rfl ?_
    refine gf_2_7 C P p_a0 q_179 dX2_walk_13 ?_
    refine lv_iconst (v := 1) hx hb dX2_walk_16 (by decide) ?_
    refine lv_isub hx hb dX2_walk_17 ?_
    refine pf_2_7 C P p_a0 q_179 dX2_walk_18 (fun H locs P => ?_)
    obtain ⟨S4, hS⟩ : ∃ z, z = (sI S1 a0 7 ((mI S1 a0 7) - 1)) := ⟨_, rfl⟩
    have P : PW G A s H locs S0 S4 := by rw [hS]; exact P
    have p_a0 : pI S4 2 a0 := by rw [hS]; exact pI_x ext_sI p_a0
    have p_b2 : pI S4 5 b2 := by rw [hS]; exact pI_x ext_sI p_b2
    have p_a3 : pI S4 7 a3 := by rw [hS]; exact pI_x ext_sI p_a3
    have hw := hw S4 hS
    refine lv_aload_n hx hb dX2_walk_21 rfl (lv_at hl 3 rfl) ?_
    refine lv_aload_n hx hb dX2_walk_22 rfl (lv_at hl 1 rfl) ?_
    refine lv_iload_n hx hb dX2_walk_23 rfl (lv_at hl 2 rfl) ?_
    refine cl_v C P (run_V C P hl.1 (kd := 5) (met_X5_measure (CF_n C) G H.size _ _ S4 b2 a0 x1 p_b2 p_a0 hw) p_b2 (by decide) rfl q_1057 q_907 q_908 q_8 q_909 cd_X5_measure ⟨(Nat.le_of_ble_eq_true rfl), (Nat.le_of_ble_eq_true rfl)⟩ rfl rfl (As := [.ref a0, .int x1]) (rest := []) rfl rfl (Nat.le_of_ble_eq_true rfl) dX2_walk_24 ⟨by show cells + 0 ≤ 0; omega, by show slots + 0 ≤ 0; omega⟩) (kx_out C hex (fun _ _ _ h => h) (by omega) (by omega)) (fun S5 H locs P hE hw => ?_)
    have p_a0 : pI S5 2 a0 := pI_x hE p_a0
    have p_b2 : pI S5 5 b2 := pI_x hE p_b2
    have p_a3 : pI S5 7 a3 := pI_x hE p_a3
    refine lv_iconst (v := 0) hx hb dX2_walk_27 (by decide) ?_
    refine lv_istore (lv' := [(4, .int 0), (3, .ref a3), (0, .ref a0), (1, .int x1), (2, .ref b2)]) hx hb dX2_walk_28 hl (by decide) rfl (fun ls hl => ?_)
    refine lv_iconst (v := 0) hx hb dX2_walk_30 (by decide) ?_
    refine lv_istore (lv' := [(5, .int 0), (4, .int 0), (3, .ref a3), (0, .ref a0), (1, .int x1), (2, .ref b2)]) hx hb dX2_walk_31 hl (by decide) rfl (fun ls hl => ?_)
    obtain ⟨n, hw⟩ := hw
    exact tlX2_walk_33 C hr hex Q QX n S5 a0 x1 b2 a3 0 0 _ _ _ _ _ p_a0 p_b2 p_a3 P (lv_sub hl [3, 4, 5, 2, 1, 0] rfl) (by omega) (by omega) hw
def wp_X2_walk (Q : Int32 → MS → Prop) (QX : String → MS → Prop) (S : MS) (a0 : Nat) (x1 : Int32) (b2 : Nat) : Prop := wX2_walk_0 Q QX S a0 x1 b2
set_option maxHeartbeats 4000000 in
set_option maxRecDepth 100000 in
theorem met_X2_walk {l : Launch} (hst : l.stackTraces = false) (G : GP) (sz : Nat) (Q : Int32 → MS → Prop) (QX : String → MS → Prop) (S : MS) (a0 : Nat) (x1 : Int32) (b2 : Nat) (p_a0 : pI S 2 a0) (p_b2 : pI S 5 b2) (hw : wp_X2_walk Q QX S a0 x1 b2) : vx_Met l yX2_walk (.code yX2_walk cX2_walk 7 (some .int) :: GW) rmX2_walk (va_Pc [.ref a0, .int x1, .ref b2] (PR G S sz)) (QI G S (FA G S sz) Q) (XX G S (FA G S sz) QX) 0 0 (FA G S sz) := by
  refine st_m (by decide +kernel) hst (fun p e s m below meth c C hr hnm hex P => ?_)
  refine en_m (Nat.le_of_ble_eq_true rfl) (lv := [(0, .ref a0), (1, .int x1), (2, .ref b2)]) rfl (fun ls hl => ?_)
  have C : CF p l s m _ meth c "SkirmishGrid$Fight" cX2_walk 7 G (FA G S sz) := C
  exact tX2_walk_0 C hr hex Q QX S a0 x1 b2 p_a0 p_b2 P hl (by omega) (by omega) hw
theorem cd_X2_walk : yX2_walk.cls = RX2 ∧ yX2_walk.cls ≠ "java/lang/invoke/MethodHandle" ∧ yX2_walk.cls ≠ "java/lang/invoke/VarHandle" ∧ (parseMethodDescriptor yX2_walk.desc).map (fun d => d.parameters.length) = some 2 := by decide +kernel
abbrev rmX2_carryOut : Room := { frames := 6, cells := 0, slots := 0, locals := 186 }
def wX2_carryOut_0 (Q : Int32 → MS → Prop) (QX : String → MS → Prop) (S : MS) (a0 : Nat) (x1 : Int32) (x2 : Int32) (b3 : Nat) : Prop := ((((x1 : Int32).toInt < 0 ∨ 5 < (x1 : Int32).toInt) → wp_X2_finishTurn (fun r2 S1 => Q r2 S1) QX S a0) ∧ ((x1 : Int32).toInt = 0 → wp_X2_walk (fun r4 S3 => Q r4 S3) QX S a0 x2 b3) ∧ ((x1 : Int32).toInt = 1 → wp_X2_shoot (fun r6 S5 => Q r6 S5) QX S a0 x2) ∧ ((x1 : Int32).toInt = 2 → wp_X2_hurl (fun r8 S7 => Q r8 S7) QX S a0 x2) ∧ ((x1 : Int32).toInt = 3 → wp_X2_startGuarding (fun r10 S9 => Q r10 S9) QX S a0) ∧ ((x1 : Int32).toInt = 4 → wp_X2_startWatching (fun r12 S11 => Q r12 S11) QX S a0) ∧ ((x1 : Int32).toInt = 5 → wp_X2_refill (fun r14 S13 => Q r14 S13) QX S a0))
set_option maxHeartbeats 4000000 in
set_option maxRecDepth 100000 in
theorem tX2_carryOut_0 {p : Program} {l : Launch} {e : Env} {s : State} {m : MethodId} {args : Array Value} {below : List Frame} {meth : Method} {c : Code} {H : Heap} {locs : List Loc} {cells slots : Nat} {G : GP} {A : Nat → Prop} {S0 : MS} {ls : Array Slot} (C : CF p l s m args meth c "SkirmishGrid$Fight" cX2_carryOut 4 G A) (hr : meth.sig.returnType = (some .int)) (hex : ∀ x ∈ c.exceptionTable.toList, False) (Q : Int32 → MS → Prop) (QX : String → MS → Prop) (S : MS) (a0 : Nat) (x1 : Int32) (x2 : Int32) (b3 : Nat) (p_a0 : pI S 2 a0) (p_b3 : pI S 5 b3) (P : PW G A s H locs S0 S) (hl : lv_has ls 4 [(0, .ref a0), (1, .int x1), (2, .int x2), (3, .ref b3)]) (hcc : cells + 0 ≤ 0) (hss : slots + 0 ≤ 0) (hw : wX2_carryOut_0 Q QX S a0 x1 x2 b3) : W p l e rmX2_carryOut s m args below meth c H locs cells slots (vx_MQ below (QI G S0 A Q) (XX G S0 A QX) args s 0 0 A) (F0 m 0 ls []) := by
  have hx := CF_x C
  have hb := CF_b C
  unfold wX2_carryOut_0 at hw
  refine lv_iload_n hx hb dX2_carryOut_0 rfl (lv_at hl 1 rfl) ?_
  rcases ts_split (lo := 0) (hi := 5) x1 with hc | ⟨i, hi, hc⟩
  · have hw := hw.1 hc
    refine lv_tableOut (tgt := 74) hx hb dX2_carryOut_1 hc (by decide) ?_
    refine lv_aload_n hx hb dX2_carryOut_74 rfl (lv_at hl 0 rfl) ?_
    refine cl_i C P (run_V C P hl.1 (kd := 2) (met_X2_finishTurn (CF_n C) G H.size _ _ S a0 p_a0 hw) p_a0 (by decide) rfl q_1211 q_1152 q_1153 q_2 q_1154 cd_X2_finishTurn ⟨(Nat.le_of_ble_eq_true rfl), (Nat.le_of_ble_eq_true rfl)⟩ rfl rfl (As := []) (rest := []) rfl rfl (Nat.le_of_ble_eq_true rfl) dX2_carryOut_75 ⟨by show cells + 0 ≤ 0; omega, by show slots + 0 ≤ 0; omega⟩) (kx_out C hex (fun _ _ _ h => h) (by omega) (by omega)) (fun r2 S1 H locs P hE hw => ?_)
    have p_a0 : pI S1 2 a0 := pI_x hE p_a0
    exact e_i C hr rfl P hw (by omega) (by omega) dX2_carryOut_78
  · rcases (show i = 0 ∨ i = 1 ∨ i = 2 ∨ i = 3 ∨ i = 4 ∨ i = 5 by omega) with rfl | rfl | rfl | rfl | rfl | rfl
    · have hw := hw.2.1 hc
      refine lv_tableIn (tgt := 40) hx hb dX2_carryOut_1 (by omega) (by omega) (by rw [hc]; rfl) (by decide) ?_
      refine lv_aload_n hx hb dX2_carryOut_40 rfl (lv_at hl 0 rfl) ?_
      refine lv_iload_n hx hb dX2_carryOut_41 rfl (lv_at hl 2 rfl) ?_
      refine lv_aload_n hx hb dX2_carryOut_42 rfl (lv_at hl 3 rfl) ?_
      refine cl_i C P (run_V C P hl.1 (kd := 2) (met_X2_walk (CF_n C) G H.size _ _ S a0 x2 b3 p_a0 p_b3 hw) p_a0 (by decide) rfl q_1205 q_1053 q_1054 q_2 q_1055 cd_X2_walk ⟨(Nat.le_of_ble_eq_true rfl), (Nat.le_of_ble_eq_true rfl)⟩ rfl rfl (As := [.int x2, .ref b3]) (rest := []) rfl rfl (Nat.le_of_ble_eq_true rfl) dX2_carryOut_43 ⟨by show cells + 0 ≤ 0; omega, by show slots + 0 ≤ 0; omega⟩) (kx_out C hex (fun _ _ _ h => h) (by omega) (by omega)) (fun r4 S3 H locs P hE hw => ?_)
      have p_a0 : pI S3 2 a0 := pI_x hE p_a0
      have p_b3 : pI S3 5 b3 := pI_x hE p_b3
      exact e_i C hr rfl P hw (by omega) (by omega) dX2_carryOut_46
    · have hw := hw.2.2.1 hc
      refine lv_tableIn (tgt := 47) hx hb dX2_carryOut_1 (by omega) (by omega) (by rw [hc]; rfl) (by decide) ?_
      refine lv_aload_n hx hb dX2_carryOut_47 rfl (lv_at hl 0 rfl) ?_
      refine lv_iload_n hx hb dX2_carryOut_48 rfl (lv_at hl 2 rfl) ?_
      refine cl_i C P (run_V C P hl.1 (kd := 2) (met_X2_shoot (CF_n C) G H.size _ _ S a0 x2 p_a0 hw) p_a0 (by decide) rfl q_1206 q_1084 q_1085 q_2 q_1086 cd_X2_shoot ⟨(Nat.le_of_ble_eq_true rfl), (Nat.le_of_ble_eq_true rfl)⟩ rfl rfl (As := [.int x2]) (rest := []) rfl rfl (Nat.le_of_ble_eq_true rfl) dX2_carryOut_49 ⟨by show cells + 0 ≤ 0; omega, by show slots + 0 ≤ 0; omega⟩) (kx_out C hex (fun _ _ _ h => h) (by omega) (by omega)) (fun r6 S5 H locs P hE hw => ?_)
      have p_a0 : pI S5 2 a0 := pI_x hE p_a0
      exact e_i C hr rfl P hw (by omega) (by omega) dX2_carryOut_52
    · have hw := hw.2.2.2.1 hc
      refine lv_tableIn (tgt := 53) hx hb dX2_carryOut_1 (by omega) (by omega) (by rw [hc]; rfl) (by decide) ?_
      refine lv_aload_n hx hb dX2_carryOut_53 rfl (lv_at hl 0 rfl) ?_
      refine lv_iload_n hx hb dX2_carryOut_54 rfl (lv_at hl 2 rfl) ?_
      refine cl_i C P (run_V C P hl.1 (kd := 2) (met_X2_hurl (CF_n C) G H.size _ _ S a0 x2 p_a0 hw) p_a0 (by decide) rfl q_1207 q_1102 q_1103 q_2 q_1104 cd_X2_hurl ⟨(Nat.le_of_ble_eq_true rfl), (Nat.le_of_ble_eq_true rfl)⟩ rfl rfl (As := [.int x2]) (rest := []) rfl rfl (Nat.le_of_ble_eq_true rfl) dX2_carryOut_55 ⟨by show cells + 0 ≤ 0; omega, by show slots + 0 ≤ 0; omega⟩) (kx_out C hex (fun _ _ _ h => h) (by omega) (by omega)) (fun r8 S7 H locs P hE hw => ?_)
      have p_a0 : pI S7 2 a0 := pI_x hE p_a0
      exact e_i C hr rfl P hw (by omega) (by omega) dX2_carryOut_58
    · have hw := hw.2.2.2.2.1 hc
      refine lv_tableIn (tgt := 59) hx hb dX2_carryOut_1 (by omega) (by omega) (by rw [hc]; rfl) (by decide) ?_
      refine lv_aload_n hx hb dX2_carryOut_59 rfl (lv_at hl 0 rfl) ?_
      refine cl_i C P (run_V C P hl.1 (kd := 2) (met_X2_startGuarding (CF_n C) G H.size _ _ S a0 p_a0 hw) p_a0 (by decide) rfl q_1208 q_1118 q_1119 q_2 q_1120 cd_X2_startGuarding ⟨(Nat.le_of_ble_eq_true rfl), (Nat.le_of_ble_eq_true rfl)⟩ rfl rfl (As := []) (rest := []) rfl rfl (Nat.le_of_ble_eq_true rfl) dX2_carryOut_60 ⟨by show cells + 0 ≤ 0; omega, by show slots + 0 ≤ 0; omega⟩) (kx_out C hex (fun _ _ _ h => h) (by omega) (by omega)) (fun r10 S9 H locs P hE hw => ?_)
      have p_a0 : pI S9 2 a0 := pI_x hE p_a0
      exact e_i C hr rfl P hw (by omega) (by omega) dX2_carryOut_63
    · have hw := hw.2.2.2.2.2.1 hc
      refine lv_tableIn (tgt := 64) hx hb dX2_carryOut_1 (by omega) (by omega) (by rw [hc]; rfl) (by decide) ?_
      refine lv_aload_n hx hb dX2_carryOut_64 rfl (lv_at hl 0 rfl) ?_
      refine cl_i C P (run_V C P hl.1 (kd := 2) (met_X2_startWatching (CF_n C) G H.size _ _ S a0 p_a0 hw) p_a0 (by decide) rfl q_1209 q_1129 q_1130 q_2 q_1131 cd_X2_startWatching ⟨(Nat.le_of_ble_eq_true rfl), (Nat.le_of_ble_eq_true rfl)⟩ rfl rfl (As := []) (rest := []) rfl rfl (Nat.le_of_ble_eq_true rfl) dX2_carryOut_65 ⟨by show cells + 0 ≤ 0; omega, by show slots + 0 ≤ 0; omega⟩) (kx_out C hex (fun _ _ _ h => h) (by omega) (by omega)) (fun r12 S11 H locs P hE hw => ?_)
      have p_a0 : pI S11 2 a0 := pI_x hE p_a0
      exact e_i C hr rfl P hw (by omega) (by omega) dX2_carryOut_68
    · have hw := hw.2.2.2.2.2.2 hc
      refine lv_tableIn (tgt := 69) hx hb dX2_carryOut_1 (by omega) (by omega) (by rw [hc]; rfl) (by decide) ?_
      refine lv_aload_n hx hb dX2_carryOut_69 rfl (lv_at hl 0 rfl) ?_
      refine cl_i C P (run_V C P hl.1 (kd := 2) (met_X2_refill (CF_n C) G H.size _ _ S a0 p_a0 hw) p_a0 (by decide) rfl q_1210 q_1140 q_1141 q_2 q_1142 cd_X2_refill ⟨(Nat.le_of_ble_eq_true rfl), (Nat.le_of_ble_eq_true rfl)⟩ rfl rfl (As := []) (rest := []) rfl rfl (Nat.le_of_ble_eq_true rfl) dX2_carryOut_70 ⟨by show cells + 0 ≤ 0; omega, by show slots + 0 ≤ 0; omega⟩) (kx_out C hex (fun _ _ _ h => h) (by omega) (by omega)) (fun r14 S13 H locs P hE hw => ?_)
      have p_a0 : pI S13 2 a0 := pI_x hE p_a0
      exact e_i C hr rfl P hw (by omega) (by omega) dX2_carryOut_73
def wp_X2_carryOut (Q : Int32 → MS → Prop) (QX : String → MS → Prop) (S : MS) (a0 : Nat) (x1 : Int32) (x2 : Int32) (b3 : Nat) : Prop := wX2_carryOut_0 Q QX S a0 x1 x2 b3
set_option maxHeartbeats 4000000 in
set_option maxRecDepth 100000 in
theorem met_X2_carryOut {l : Launch} (hst : l.stackTraces = false) (G : GP) (sz : Nat) (Q : Int32 → MS → Prop) (QX : String → MS → Prop) (S : MS) (a0 : Nat) (x1 : Int32) (x2 : Int32) (b3 : Nat) (p_a0 : pI S 2 a0) (p_b3 : pI S 5 b3) (hw : wp_X2_carryOut Q QX S a0 x1 x2 b3) : vx_Met l yX2_carryOut (.code yX2_carryOut cX2_carryOut 4 (some .int) :: GW) rmX2_carryOut (va_Pc [.ref a0, .int x1, .int x2, .ref b3] (PR G S sz)) (QI G S (FA G S sz) Q) (XX G S (FA G S sz) QX) 0 0 (FA G S sz) := by
  refine st_m (by decide +kernel) hst (fun p e s m below meth c C hr hnm hex P => ?_)
  refine en_m (Nat.le_of_ble_eq_true rfl) (lv := [(0, .ref a0), (1, .int x1), (2, .int x2), (3, .ref b3)]) rfl (fun ls hl => ?_)
  have C : CF p l s m _ meth c "SkirmishGrid$Fight" cX2_carryOut 4 G (FA G S sz) := C
  exact tX2_carryOut_0 C hr hex Q QX S a0 x1 x2 b3 p_a0 p_b3 P hl (by omega) (by omega) hw
theorem cd_X2_carryOut : yX2_carryOut.cls = RX2 ∧ yX2_carryOut.cls ≠ "java/lang/invoke/MethodHandle" ∧ yX2_carryOut.cls ≠ "java/lang/invoke/VarHandle" ∧ (parseMethodDescriptor yX2_carryOut.desc).map (fun d => d.parameters.length) = some 3 := by decide +kernel
