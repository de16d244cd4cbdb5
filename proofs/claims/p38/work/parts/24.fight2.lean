theorem q_95 : Cond.fieldLink "SkirmishGrid$Fight" 143 "SkirmishGrid$Unit" "number" "I" ∈ GW := gw_t 95 (by decide +kernel) (by decide +kernel)
theorem q_121 : Cond.fieldLink "SkirmishGrid$Fight" 130 "SkirmishGrid$Unit" "roll" "I" ∈ GW := gw_t 121 (by decide +kernel) (by decide +kernel)
theorem q_847 : Cond.methodLink "SkirmishGrid$Fight" 133 yX2_rollDie ∈ GW := gw_t 847 (by decide +kernel) (by decide +kernel)
theorem q_849 : Cond.instanceMethod yX2_rollDie ∈ GW := gw_t 849 (by decide +kernel) (by decide +kernel)
theorem q_p5 : Cond.selects "SkirmishGrid$Fight" yX2_rollDie yX2_rollDie ∈ GW := gw_p 5 (by decide +kernel) (by decide +kernel)
theorem q_850 : Cond.code yX2_rollDie cX2_rollDie 2 (some .int) ∈ GW := gw_t 850 (by decide +kernel) (by decide +kernel)
theorem q_854 : Cond.methodLink "SkirmishGrid$Fight" 140 yX2_insertByRoll ∈ GW := gw_t 854 (by decide +kernel) (by decide +kernel)
theorem q_856 : Cond.instanceMethod yX2_insertByRoll ∈ GW := gw_t 856 (by decide +kernel) (by decide +kernel)
theorem q_p6 : Cond.selects "SkirmishGrid$Fight" yX2_insertByRoll yX2_insertByRoll ∈ GW := gw_p 6 (by decide +kernel) (by decide +kernel)
theorem q_857 : Cond.code yX2_insertByRoll cX2_insertByRoll 3 none ∈ GW := gw_t 857 (by decide +kernel) (by decide +kernel)
theorem q_843 : Cond.methodLink "SkirmishGrid$Fight" 127 yX1_note ∈ GW := gw_t 843 (by decide +kernel) (by decide +kernel)
theorem q_844 : Cond.instanceMethod yX1_note ∈ GW := gw_t 844 (by decide +kernel) (by decide +kernel)
theorem q_845 : Cond.selects "SkirmishGrid$Events" yX1_note yX1_note ∈ GW := gw_t 845 (by decide +kernel) (by decide +kernel)
theorem q_846 : Cond.code yX1_note cX1_note 4 none ∈ GW := gw_t 846 (by decide +kernel) (by decide +kernel)
theorem q_124 : Cond.fieldLink "SkirmishGrid$Fight" 165 "SkirmishGrid$Unit" "stunned" "I" ∈ GW := gw_t 124 (by decide +kernel) (by decide +kernel)
theorem q_130 : Cond.fieldLink "SkirmishGrid$Fight" 152 "SkirmishGrid$Unit" "isGuarding" "Z" ∈ GW := gw_t 130 (by decide +kernel) (by decide +kernel)
theorem q_133 : Cond.fieldLink "SkirmishGrid$Fight" 156 "SkirmishGrid$Unit" "isWatching" "Z" ∈ GW := gw_t 133 (by decide +kernel) (by decide +kernel)
theorem q_127 : Cond.fieldLink "SkirmishGrid$Fight" 159 "SkirmishGrid$Unit" "burning" "I" ∈ GW := gw_t 127 (by decide +kernel) (by decide +kernel)
theorem q_867 : Cond.methodLink "SkirmishGrid$Fight" 162 yX7_lose ∈ GW := gw_t 867 (by decide +kernel) (by decide +kernel)
theorem q_868 : Cond.instanceMethod yX7_lose ∈ GW := gw_t 868 (by decide +kernel) (by decide +kernel)
theorem q_869 : Cond.selects "SkirmishGrid$Unit" yX7_lose yX7_lose ∈ GW := gw_t 869 (by decide +kernel) (by decide +kernel)
theorem q_870 : Cond.code yX7_lose cX7_lose 2 none ∈ GW := gw_t 870 (by decide +kernel) (by decide +kernel)
theorem q_863 : Cond.methodLink "SkirmishGrid$Fight" 149 yX2_beginTurn ∈ GW := gw_t 863 (by decide +kernel) (by decide +kernel)
theorem q_865 : Cond.instanceMethod yX2_beginTurn ∈ GW := gw_t 865 (by decide +kernel) (by decide +kernel)
theorem q_p8 : Cond.selects "SkirmishGrid$Fight" yX2_beginTurn yX2_beginTurn ∈ GW := gw_p 8 (by decide +kernel) (by decide +kernel)
theorem q_866 : Cond.code yX2_beginTurn cX2_beginTurn 2 none ∈ GW := gw_t 866 (by decide +kernel) (by decide +kernel)
theorem q_862 : Cond.methodLink "SkirmishGrid$Fight" 146 yX2_goesOn ∈ GW := gw_t 862 (by decide +kernel) (by decide +kernel)
theorem q_830 : Cond.instanceMethod yX2_goesOn ∈ GW := gw_t 830 (by decide +kernel) (by decide +kernel)
theorem q_831 : Cond.selects "SkirmishGrid$Fight" yX2_goesOn yX2_goesOn ∈ GW := gw_t 831 (by decide +kernel) (by decide +kernel)
theorem q_832 : Cond.code yX2_goesOn cX2_goesOn 1 (some .boolean) ∈ GW := gw_t 832 (by decide +kernel) (by decide +kernel)
theorem q_839 : Cond.methodLink "SkirmishGrid$Fight" 121 yX2_beginRound ∈ GW := gw_t 839 (by decide +kernel) (by decide +kernel)
theorem q_841 : Cond.instanceMethod yX2_beginRound ∈ GW := gw_t 841 (by decide +kernel) (by decide +kernel)
theorem q_p4 : Cond.selects "SkirmishGrid$Fight" yX2_beginRound yX2_beginRound ∈ GW := gw_p 4 (by decide +kernel) (by decide +kernel)
theorem q_842 : Cond.code yX2_beginRound cX2_beginRound 3 none ∈ GW := gw_t 842 (by decide +kernel) (by decide +kernel)
theorem q_858 : Cond.methodLink "SkirmishGrid$Fight" 124 yX2_passTurn ∈ GW := gw_t 858 (by decide +kernel) (by decide +kernel)
theorem q_860 : Cond.instanceMethod yX2_passTurn ∈ GW := gw_t 860 (by decide +kernel) (by decide +kernel)
theorem q_p7 : Cond.selects "SkirmishGrid$Fight" yX2_passTurn yX2_passTurn ∈ GW := gw_p 7 (by decide +kernel) (by decide +kernel)
theorem q_861 : Cond.code yX2_passTurn cX2_passTurn 2 none ∈ GW := gw_t 861 (by decide +kernel) (by decide +kernel)
theorem q_965 : Cond.methodLink "SkirmishGrid$Fight" 168 yX3_distance ∈ GW := gw_t 965 (by decide +kernel) (by decide +kernel)
theorem q_966 : Cond.instanceMethod yX3_distance ∈ GW := gw_t 966 (by decide +kernel) (by decide +kernel)
theorem q_967 : Cond.selects "SkirmishGrid$Grid" yX3_distance yX3_distance ∈ GW := gw_t 967 (by decide +kernel) (by decide +kernel)
theorem q_968 : Cond.code yX3_distance cX3_distance 5 (some .int) ∈ GW := gw_t 968 (by decide +kernel) (by decide +kernel)
theorem q_972 : Cond.methodLink "SkirmishGrid$Fight" 175 yX3_isClear ∈ GW := gw_t 972 (by decide +kernel) (by decide +kernel)
theorem q_742 : Cond.instanceMethod yX3_isClear ∈ GW := gw_t 742 (by decide +kernel) (by decide +kernel)
theorem q_743 : Cond.selects "SkirmishGrid$Grid" yX3_isClear yX3_isClear ∈ GW := gw_t 743 (by decide +kernel) (by decide +kernel)
theorem q_744 : Cond.code yX3_isClear cX3_isClear 5 (some .boolean) ∈ GW := gw_t 744 (by decide +kernel) (by decide +kernel)
theorem q_982 : Cond.methodLink "SkirmishGrid$Fight" 179 yX3_coverOf ∈ GW := gw_t 982 (by decide +kernel) (by decide +kernel)
theorem q_769 : Cond.instanceMethod yX3_coverOf ∈ GW := gw_t 769 (by decide +kernel) (by decide +kernel)
theorem q_770 : Cond.selects "SkirmishGrid$Grid" yX3_coverOf yX3_coverOf ∈ GW := gw_t 770 (by decide +kernel) (by decide +kernel)
theorem q_771 : Cond.code yX3_coverOf cX3_coverOf 7 (some .int) ∈ GW := gw_t 771 (by decide +kernel) (by decide +kernel)
theorem q_1007 : Cond.methodLink "SkirmishGrid$Fight" 191 Lib.Math.max.name ∈ GW := gw_t 1007 (by decide +kernel) (by decide +kernel)
theorem q_985 : Cond.methodLink "SkirmishGrid$Fight" 200 yX2_isHit ∈ GW := gw_t 985 (by decide +kernel) (by decide +kernel)
theorem q_986 : Cond.static yX2_isHit ∈ GW := gw_t 986 (by decide +kernel) (by decide +kernel)
theorem q_987 : Cond.code yX2_isHit cX2_isHit 2 (some .boolean) ∈ GW := gw_t 987 (by decide +kernel) (by decide +kernel)
theorem q_978 : Cond.methodLink "SkirmishGrid$Fight" 196 yX2_neededResult ∈ GW := gw_t 978 (by decide +kernel) (by decide +kernel)
theorem q_980 : Cond.instanceMethod yX2_neededResult ∈ GW := gw_t 980 (by decide +kernel) (by decide +kernel)
theorem q_p15 : Cond.selects "SkirmishGrid$Fight" yX2_neededResult yX2_neededResult ∈ GW := gw_p 15 (by decide +kernel) (by decide +kernel)
theorem q_981 : Cond.code yX2_neededResult cX2_neededResult 3 (some .int) ∈ GW := gw_t 981 (by decide +kernel) (by decide +kernel)
theorem q_1000 : Cond.methodLink "SkirmishGrid$Fight" 203 yX2_damageOf ∈ GW := gw_t 1000 (by decide +kernel) (by decide +kernel)
theorem q_1001 : Cond.static yX2_damageOf ∈ GW := gw_t 1001 (by decide +kernel) (by decide +kernel)
theorem q_1002 : Cond.code yX2_damageOf cX2_damageOf 5 (some .int) ∈ GW := gw_t 1002 (by decide +kernel) (by decide +kernel)
theorem q_112 : Cond.fieldLink "SkirmishGrid$Fight" 214 "SkirmishGrid$Unit" "health" "I" ∈ GW := gw_t 112 (by decide +kernel) (by decide +kernel)
theorem q_1020 : Cond.methodLink "SkirmishGrid$Fight" 207 yX2_canStrike ∈ GW := gw_t 1020 (by decide +kernel) (by decide +kernel)
theorem q_962 : Cond.instanceMethod yX2_canStrike ∈ GW := gw_t 962 (by decide +kernel) (by decide +kernel)
theorem q_963 : Cond.selects "SkirmishGrid$Fight" yX2_canStrike yX2_canStrike ∈ GW := gw_t 963 (by decide +kernel) (by decide +kernel)
theorem q_964 : Cond.code yX2_canStrike cX2_canStrike 3 (some .boolean) ∈ GW := gw_t 964 (by decide +kernel) (by decide +kernel)
theorem q_1021 : Cond.methodLink "SkirmishGrid$Fight" 211 yX2_sumDamages ∈ GW := gw_t 1021 (by decide +kernel) (by decide +kernel)
theorem q_997 : Cond.instanceMethod yX2_sumDamages ∈ GW := gw_t 997 (by decide +kernel) (by decide +kernel)
theorem q_998 : Cond.selects "SkirmishGrid$Fight" yX2_sumDamages yX2_sumDamages ∈ GW := gw_t 998 (by decide +kernel) (by decide +kernel)
theorem q_999 : Cond.code yX2_sumDamages cX2_sumDamages 7 (some .int) ∈ GW := gw_t 999 (by decide +kernel) (by decide +kernel)
theorem q_115 : Cond.fieldLink "SkirmishGrid$Fight" 217 "SkirmishGrid$Unit" "ammunition" "I" ∈ GW := gw_t 115 (by decide +kernel) (by decide +kernel)
theorem dX2_insertByRoll_0 : decode cX2_insertByRoll 0 = .ok (.aload_n 0, 1) := by decide +kernel
theorem dX2_insertByRoll_1 : decode cX2_insertByRoll 1 = .ok (.getfield 51, 3) := by decide +kernel
theorem dX2_insertByRoll_4 : decode cX2_insertByRoll 4 = .ok (.istore_n 2, 1) := by decide +kernel
theorem dX2_insertByRoll_5 : decode cX2_insertByRoll 5 = .ok (.iload_n 2, 1) := by decide +kernel
theorem dX2_insertByRoll_6 : decode cX2_insertByRoll 6 = .ok (.ifCond .le 46, 3) := by decide +kernel
theorem dX2_insertByRoll_9 : decode cX2_insertByRoll 9 = .ok (.aload_n 0, 1) := by decide +kernel
theorem dX2_insertByRoll_10 : decode cX2_insertByRoll 10 = .ok (.getfield 20, 3) := by decide +kernel
theorem dX2_insertByRoll_13 : decode cX2_insertByRoll 13 = .ok (.aload_n 0, 1) := by decide +kernel
theorem dX2_insertByRoll_14 : decode cX2_insertByRoll 14 = .ok (.getfield 24, 3) := by decide +kernel
theorem dX2_insertByRoll_17 : decode cX2_insertByRoll 17 = .ok (.iload_n 2, 1) := by decide +kernel
theorem dX2_insertByRoll_18 : decode cX2_insertByRoll 18 = .ok (.iconst 1, 1) := by decide +kernel
theorem dX2_insertByRoll_19 : decode cX2_insertByRoll 19 = .ok (.isub, 1) := by decide +kernel
theorem dX2_insertByRoll_20 : decode cX2_insertByRoll 20 = .ok (.iaload, 1) := by decide +kernel
theorem dX2_insertByRoll_21 : decode cX2_insertByRoll 21 = .ok (.aaload, 1) := by decide +kernel
theorem dX2_insertByRoll_22 : decode cX2_insertByRoll 22 = .ok (.getfield 130, 3) := by decide +kernel
theorem dX2_insertByRoll_25 : decode cX2_insertByRoll 25 = .ok (.aload_n 1, 1) := by decide +kernel
theorem dX2_insertByRoll_26 : decode cX2_insertByRoll 26 = .ok (.getfield 130, 3) := by decide +kernel
theorem dX2_insertByRoll_29 : decode cX2_insertByRoll 29 = .ok (.if_icmp .ge 23, 3) := by decide +kernel
theorem dX2_insertByRoll_32 : decode cX2_insertByRoll 32 = .ok (.aload_n 0, 1) := by decide +kernel
theorem dX2_insertByRoll_33 : decode cX2_insertByRoll 33 = .ok (.getfield 24, 3) := by decide +kernel
theorem dX2_insertByRoll_36 : decode cX2_insertByRoll 36 = .ok (.iload_n 2, 1) := by decide +kernel
theorem dX2_insertByRoll_37 : decode cX2_insertByRoll 37 = .ok (.aload_n 0, 1) := by decide +kernel
theorem dX2_insertByRoll_38 : decode cX2_insertByRoll 38 = .ok (.getfield 24, 3) := by decide +kernel
theorem dX2_insertByRoll_41 : decode cX2_insertByRoll 41 = .ok (.iload_n 2, 1) := by decide +kernel
theorem dX2_insertByRoll_42 : decode cX2_insertByRoll 42 = .ok (.iconst 1, 1) := by decide +kernel
theorem dX2_insertByRoll_43 : decode cX2_insertByRoll 43 = .ok (.isub, 1) := by decide +kernel
theorem dX2_insertByRoll_44 : decode cX2_insertByRoll 44 = .ok (.iaload, 1) := by decide +kernel
theorem dX2_insertByRoll_45 : decode cX2_insertByRoll 45 = .ok (.iastore, 1) := by decide +kernel
theorem dX2_insertByRoll_46 : decode cX2_insertByRoll 46 = .ok (.iinc 2 (-1), 3) := by decide +kernel
theorem dX2_insertByRoll_49 : decode cX2_insertByRoll 49 = .ok (.goto (-44), 3) := by decide +kernel
theorem dX2_insertByRoll_52 : decode cX2_insertByRoll 52 = .ok (.aload_n 0, 1) := by decide +kernel
theorem dX2_insertByRoll_53 : decode cX2_insertByRoll 53 = .ok (.getfield 24, 3) := by decide +kernel
theorem dX2_insertByRoll_56 : decode cX2_insertByRoll 56 = .ok (.iload_n 2, 1) := by decide +kernel
theorem dX2_insertByRoll_57 : decode cX2_insertByRoll 57 = .ok (.aload_n 1, 1) := by decide +kernel
theorem dX2_insertByRoll_58 : decode cX2_insertByRoll 58 = .ok (.getfield 143, 3) := by decide +kernel
theorem dX2_insertByRoll_61 : decode cX2_insertByRoll 61 = .ok (.iastore, 1) := by decide +kernel
theorem dX2_insertByRoll_62 : decode cX2_insertByRoll 62 = .ok (.aload_n 0, 1) := by decide +kernel
theorem dX2_insertByRoll_63 : decode cX2_insertByRoll 63 = .ok (.dup, 1) := by decide +kernel
theorem dX2_insertByRoll_64 : decode cX2_insertByRoll 64 = .ok (.getfield 51, 3) := by decide +kernel
theorem dX2_insertByRoll_67 : decode cX2_insertByRoll 67 = .ok (.iconst 1, 1) := by decide +kernel
theorem dX2_insertByRoll_68 : decode cX2_insertByRoll 68 = .ok (.iadd, 1) := by decide +kernel
theorem dX2_insertByRoll_69 : decode cX2_insertByRoll 69 = .ok (.putfield 51, 3) := by decide +kernel
theorem dX2_insertByRoll_72 : decode cX2_insertByRoll 72 = .ok (.return_, 1) := by decide +kernel
theorem dX2_beginRound_0 : decode cX2_beginRound 0 = .ok (.aload_n 0, 1) := by decide +kernel
theorem dX2_beginRound_1 : decode cX2_beginRound 1 = .ok (.dup, 1) := by decide +kernel
theorem dX2_beginRound_2 : decode cX2_beginRound 2 = .ok (.getfield 60, 3) := by decide +kernel
theorem dX2_beginRound_5 : decode cX2_beginRound 5 = .ok (.iconst 1, 1) := by decide +kernel
theorem dX2_beginRound_6 : decode cX2_beginRound 6 = .ok (.iadd, 1) := by decide +kernel
theorem dX2_beginRound_7 : decode cX2_beginRound 7 = .ok (.putfield 60, 3) := by decide +kernel
theorem dX2_beginRound_10 : decode cX2_beginRound 10 = .ok (.aload_n 0, 1) := by decide +kernel
theorem dX2_beginRound_11 : decode cX2_beginRound 11 = .ok (.getfield 41, 3) := by decide +kernel
theorem dX2_beginRound_14 : decode cX2_beginRound 14 = .ok (.bipush 9, 2) := by decide +kernel
theorem dX2_beginRound_16 : decode cX2_beginRound 16 = .ok (.iconst (-1), 1) := by decide +kernel
theorem dX2_beginRound_17 : decode cX2_beginRound 17 = .ok (.aload_n 0, 1) := by decide +kernel
theorem dX2_beginRound_18 : decode cX2_beginRound 18 = .ok (.getfield 60, 3) := by decide +kernel
theorem dX2_beginRound_21 : decode cX2_beginRound 21 = .ok (.invokevirtual 127, 3) := by decide +kernel
theorem dX2_beginRound_24 : decode cX2_beginRound 24 = .ok (.aload_n 0, 1) := by decide +kernel
theorem dX2_beginRound_25 : decode cX2_beginRound 25 = .ok (.iconst 0, 1) := by decide +kernel
theorem dX2_beginRound_26 : decode cX2_beginRound 26 = .ok (.putfield 51, 3) := by decide +kernel
theorem dX2_beginRound_29 : decode cX2_beginRound 29 = .ok (.aload_n 0, 1) := by decide +kernel
theorem dX2_beginRound_30 : decode cX2_beginRound 30 = .ok (.iconst (-1), 1) := by decide +kernel
theorem dX2_beginRound_31 : decode cX2_beginRound 31 = .ok (.putfield 54, 3) := by decide +kernel
theorem dX2_beginRound_34 : decode cX2_beginRound 34 = .ok (.iconst 0, 1) := by decide +kernel
theorem dX2_beginRound_35 : decode cX2_beginRound 35 = .ok (.istore_n 1, 1) := by decide +kernel
theorem dX2_beginRound_36 : decode cX2_beginRound 36 = .ok (.iload_n 1, 1) := by decide +kernel
theorem dX2_beginRound_37 : decode cX2_beginRound 37 = .ok (.aload_n 0, 1) := by decide +kernel
theorem dX2_beginRound_38 : decode cX2_beginRound 38 = .ok (.getfield 48, 3) := by decide +kernel
theorem dX2_beginRound_41 : decode cX2_beginRound 41 = .ok (.if_icmp .ge 52, 3) := by decide +kernel
theorem dX2_beginRound_44 : decode cX2_beginRound 44 = .ok (.aload_n 0, 1) := by decide +kernel
theorem dX2_beginRound_45 : decode cX2_beginRound 45 = .ok (.getfield 20, 3) := by decide +kernel
theorem dX2_beginRound_48 : decode cX2_beginRound 48 = .ok (.iload_n 1, 1) := by decide +kernel
theorem dX2_beginRound_49 : decode cX2_beginRound 49 = .ok (.aaload, 1) := by decide +kernel
theorem dX2_beginRound_50 : decode cX2_beginRound 50 = .ok (.astore_n 2, 1) := by decide +kernel
theorem dX2_beginRound_51 : decode cX2_beginRound 51 = .ok (.aload_n 2, 1) := by decide +kernel
theorem dX2_beginRound_52 : decode cX2_beginRound 52 = .ok (.iconst 0, 1) := by decide +kernel
theorem dX2_beginRound_53 : decode cX2_beginRound 53 = .ok (.putfield 130, 3) := by decide +kernel
theorem dX2_beginRound_56 : decode cX2_beginRound 56 = .ok (.aload_n 2, 1) := by decide +kernel
theorem dX2_beginRound_57 : decode cX2_beginRound 57 = .ok (.invokevirtual 105, 3) := by decide +kernel
theorem dX2_beginRound_60 : decode cX2_beginRound 60 = .ok (.ifCond .eq 27, 3) := by decide +kernel
theorem dX2_beginRound_63 : decode cX2_beginRound 63 = .ok (.aload_n 2, 1) := by decide +kernel
theorem dX2_beginRound_64 : decode cX2_beginRound 64 = .ok (.aload_n 0, 1) := by decide +kernel
theorem dX2_beginRound_65 : decode cX2_beginRound 65 = .ok (.bipush 6, 2) := by decide +kernel
theorem dX2_beginRound_67 : decode cX2_beginRound 67 = .ok (.invokevirtual 133, 3) := by decide +kernel
theorem dX2_beginRound_70 : decode cX2_beginRound 70 = .ok (.getstatic 137, 3) := by decide +kernel
theorem dX2_beginRound_73 : decode cX2_beginRound 73 = .ok (.aload_n 2, 1) := by decide +kernel
theorem dX2_beginRound_74 : decode cX2_beginRound 74 = .ok (.getfield 88, 3) := by decide +kernel
theorem dX2_beginRound_77 : decode cX2_beginRound 77 = .ok (.iaload, 1) := by decide +kernel
theorem dX2_beginRound_78 : decode cX2_beginRound 78 = .ok (.iadd, 1) := by decide +kernel
theorem dX2_beginRound_79 : decode cX2_beginRound 79 = .ok (.putfield 130, 3) := by decide +kernel
theorem dX2_beginRound_82 : decode cX2_beginRound 82 = .ok (.aload_n 0, 1) := by decide +kernel
theorem dX2_beginRound_83 : decode cX2_beginRound 83 = .ok (.aload_n 2, 1) := by decide +kernel
theorem dX2_beginRound_84 : decode cX2_beginRound 84 = .ok (.invokevirtual 140, 3) := by decide +kernel
theorem dX2_beginRound_87 : decode cX2_beginRound 87 = .ok (.iinc 1 1, 3) := by decide +kernel
theorem dX2_beginRound_90 : decode cX2_beginRound 90 = .ok (.goto (-54), 3) := by decide +kernel
theorem dX2_beginRound_93 : decode cX2_beginRound 93 = .ok (.return_, 1) := by decide +kernel
theorem dX2_beginTurn_0 : decode cX2_beginTurn 0 = .ok (.aload_n 1, 1) := by decide +kernel
theorem dX2_beginTurn_1 : decode cX2_beginTurn 1 = .ok (.invokevirtual 105, 3) := by decide +kernel
theorem dX2_beginTurn_4 : decode cX2_beginTurn 4 = .ok (.ifCond .ne 4, 3) := by decide +kernel
theorem dX2_beginTurn_7 : decode cX2_beginTurn 7 = .ok (.return_, 1) := by decide +kernel
theorem dX2_beginTurn_8 : decode cX2_beginTurn 8 = .ok (.aload_n 1, 1) := by decide +kernel
theorem dX2_beginTurn_9 : decode cX2_beginTurn 9 = .ok (.iconst 0, 1) := by decide +kernel
theorem dX2_beginTurn_10 : decode cX2_beginTurn 10 = .ok (.putfield 152, 3) := by decide +kernel
theorem dX2_beginTurn_13 : decode cX2_beginTurn 13 = .ok (.aload_n 1, 1) := by decide +kernel
theorem dX2_beginTurn_14 : decode cX2_beginTurn 14 = .ok (.iconst 0, 1) := by decide +kernel
theorem dX2_beginTurn_15 : decode cX2_beginTurn 15 = .ok (.putfield 156, 3) := by decide +kernel
theorem dX2_beginTurn_18 : decode cX2_beginTurn 18 = .ok (.aload_n 1, 1) := by decide +kernel
theorem dX2_beginTurn_19 : decode cX2_beginTurn 19 = .ok (.getfield 159, 3) := by decide +kernel
theorem dX2_beginTurn_22 : decode cX2_beginTurn 22 = .ok (.ifCond .le 21, 3) := by decide +kernel
theorem dX2_beginTurn_25 : decode cX2_beginTurn 25 = .ok (.aload_n 1, 1) := by decide +kernel
theorem dX2_beginTurn_26 : decode cX2_beginTurn 26 = .ok (.iconst 2, 1) := by decide +kernel
theorem dX2_beginTurn_27 : decode cX2_beginTurn 27 = .ok (.invokevirtual 162, 3) := by decide +kernel
theorem dX2_beginTurn_30 : decode cX2_beginTurn 30 = .ok (.aload_n 0, 1) := by decide +kernel
theorem dX2_beginTurn_31 : decode cX2_beginTurn 31 = .ok (.getfield 41, 3) := by decide +kernel
theorem dX2_beginTurn_34 : decode cX2_beginTurn 34 = .ok (.iconst 5, 1) := by decide +kernel
theorem dX2_beginTurn_35 : decode cX2_beginTurn 35 = .ok (.aload_n 1, 1) := by decide +kernel
theorem dX2_beginTurn_36 : decode cX2_beginTurn 36 = .ok (.getfield 143, 3) := by decide +kernel
theorem dX2_beginTurn_39 : decode cX2_beginTurn 39 = .ok (.iconst 2, 1) := by decide +kernel
theorem dX2_beginTurn_40 : decode cX2_beginTurn 40 = .ok (.invokevirtual 127, 3) := by decide +kernel
theorem dX2_beginTurn_43 : decode cX2_beginTurn 43 = .ok (.aload_n 1, 1) := by decide +kernel
theorem dX2_beginTurn_44 : decode cX2_beginTurn 44 = .ok (.invokevirtual 105, 3) := by decide +kernel
theorem dX2_beginTurn_47 : decode cX2_beginTurn 47 = .ok (.ifCond .eq 30, 3) := by decide +kernel
theorem dX2_beginTurn_50 : decode cX2_beginTurn 50 = .ok (.aload_n 0, 1) := by decide +kernel
theorem dX2_beginTurn_51 : decode cX2_beginTurn 51 = .ok (.aload_n 1, 1) := by decide +kernel
theorem dX2_beginTurn_52 : decode cX2_beginTurn 52 = .ok (.getfield 143, 3) := by decide +kernel
theorem dX2_beginTurn_55 : decode cX2_beginTurn 55 = .ok (.putfield 28, 3) := by decide +kernel
theorem dX2_beginTurn_58 : decode cX2_beginTurn 58 = .ok (.aload_n 0, 1) := by decide +kernel
theorem dX2_beginTurn_59 : decode cX2_beginTurn 59 = .ok (.aload_n 1, 1) := by decide +kernel
theorem dX2_beginTurn_60 : decode cX2_beginTurn 60 = .ok (.getfield 165, 3) := by decide +kernel
theorem dX2_beginTurn_63 : decode cX2_beginTurn 63 = .ok (.ifCond .le 7, 3) := by decide +kernel
theorem dX2_beginTurn_66 : decode cX2_beginTurn 66 = .ok (.iconst 0, 1) := by decide +kernel
theorem dX2_beginTurn_67 : decode cX2_beginTurn 67 = .ok (.goto 4, 3) := by decide +kernel
theorem dX2_beginTurn_70 : decode cX2_beginTurn 70 = .ok (.iconst 2, 1) := by decide +kernel
theorem dX2_beginTurn_71 : decode cX2_beginTurn 71 = .ok (.putfield 57, 3) := by decide +kernel
theorem dX2_beginTurn_74 : decode cX2_beginTurn 74 = .ok (.goto 16, 3) := by decide +kernel
theorem dX2_beginTurn_77 : decode cX2_beginTurn 77 = .ok (.aload_n 0, 1) := by decide +kernel
theorem dX2_beginTurn_78 : decode cX2_beginTurn 78 = .ok (.getfield 41, 3) := by decide +kernel
theorem dX2_beginTurn_81 : decode cX2_beginTurn 81 = .ok (.iconst 4, 1) := by decide +kernel
theorem dX2_beginTurn_82 : decode cX2_beginTurn 82 = .ok (.aload_n 1, 1) := by decide +kernel
theorem dX2_beginTurn_83 : decode cX2_beginTurn 83 = .ok (.getfield 143, 3) := by decide +kernel
theorem dX2_beginTurn_86 : decode cX2_beginTurn 86 = .ok (.iconst 0, 1) := by decide +kernel
theorem dX2_beginTurn_87 : decode cX2_beginTurn 87 = .ok (.invokevirtual 127, 3) := by decide +kernel
theorem dX2_beginTurn_90 : decode cX2_beginTurn 90 = .ok (.return_, 1) := by decide +kernel
theorem dX2_passTurn_0 : decode cX2_passTurn 0 = .ok (.aload_n 0, 1) := by decide +kernel
theorem dX2_passTurn_1 : decode cX2_passTurn 1 = .ok (.iconst (-1), 1) := by decide +kernel
theorem dX2_passTurn_2 : decode cX2_passTurn 2 = .ok (.putfield 28, 3) := by decide +kernel
theorem dX2_passTurn_5 : decode cX2_passTurn 5 = .ok (.aload_n 0, 1) := by decide +kernel
theorem dX2_passTurn_6 : decode cX2_passTurn 6 = .ok (.iconst 0, 1) := by decide +kernel
theorem dX2_passTurn_7 : decode cX2_passTurn 7 = .ok (.putfield 57, 3) := by decide +kernel
theorem dX2_passTurn_10 : decode cX2_passTurn 10 = .ok (.iconst 0, 1) := by decide +kernel
theorem dX2_passTurn_11 : decode cX2_passTurn 11 = .ok (.istore_n 1, 1) := by decide +kernel
theorem dX2_passTurn_12 : decode cX2_passTurn 12 = .ok (.iload_n 1, 1) := by decide +kernel
theorem dX2_passTurn_13 : decode cX2_passTurn 13 = .ok (.bipush 16, 2) := by decide +kernel
theorem dX2_passTurn_15 : decode cX2_passTurn 15 = .ok (.if_icmp .ge 68, 3) := by decide +kernel
theorem dX2_passTurn_18 : decode cX2_passTurn 18 = .ok (.aload_n 0, 1) := by decide +kernel
theorem dX2_passTurn_19 : decode cX2_passTurn 19 = .ok (.getfield 28, 3) := by decide +kernel
theorem dX2_passTurn_22 : decode cX2_passTurn 22 = .ok (.ifCond .ge 61, 3) := by decide +kernel
theorem dX2_passTurn_25 : decode cX2_passTurn 25 = .ok (.aload_n 0, 1) := by decide +kernel
theorem dX2_passTurn_26 : decode cX2_passTurn 26 = .ok (.invokevirtual 146, 3) := by decide +kernel
theorem dX2_passTurn_29 : decode cX2_passTurn 29 = .ok (.ifCond .eq 54, 3) := by decide +kernel
theorem dX2_passTurn_32 : decode cX2_passTurn 32 = .ok (.aload_n 0, 1) := by decide +kernel
theorem dX2_passTurn_33 : decode cX2_passTurn 33 = .ok (.getfield 54, 3) := by decide +kernel
theorem dX2_passTurn_36 : decode cX2_passTurn 36 = .ok (.iconst 1, 1) := by decide +kernel
theorem dX2_passTurn_37 : decode cX2_passTurn 37 = .ok (.iadd, 1) := by decide +kernel
theorem dX2_passTurn_38 : decode cX2_passTurn 38 = .ok (.aload_n 0, 1) := by decide +kernel
theorem dX2_passTurn_39 : decode cX2_passTurn 39 = .ok (.getfield 51, 3) := by decide +kernel
theorem dX2_passTurn_42 : decode cX2_passTurn 42 = .ok (.if_icmp .lt 7, 3) := by decide +kernel
theorem dX2_passTurn_45 : decode cX2_passTurn 45 = .ok (.aload_n 0, 1) := by decide +kernel
theorem dX2_passTurn_46 : decode cX2_passTurn 46 = .ok (.invokevirtual 121, 3) := by decide +kernel
theorem dX2_passTurn_49 : decode cX2_passTurn 49 = .ok (.aload_n 0, 1) := by decide +kernel
theorem dX2_passTurn_50 : decode cX2_passTurn 50 = .ok (.dup, 1) := by decide +kernel
theorem dX2_passTurn_51 : decode cX2_passTurn 51 = .ok (.getfield 54, 3) := by decide +kernel
theorem dX2_passTurn_54 : decode cX2_passTurn 54 = .ok (.iconst 1, 1) := by decide +kernel
theorem dX2_passTurn_55 : decode cX2_passTurn 55 = .ok (.iadd, 1) := by decide +kernel
theorem dX2_passTurn_56 : decode cX2_passTurn 56 = .ok (.putfield 54, 3) := by decide +kernel
theorem dX2_passTurn_59 : decode cX2_passTurn 59 = .ok (.aload_n 0, 1) := by decide +kernel
theorem dX2_passTurn_60 : decode cX2_passTurn 60 = .ok (.aload_n 0, 1) := by decide +kernel
theorem dX2_passTurn_61 : decode cX2_passTurn 61 = .ok (.getfield 20, 3) := by decide +kernel
theorem dX2_passTurn_64 : decode cX2_passTurn 64 = .ok (.aload_n 0, 1) := by decide +kernel
theorem dX2_passTurn_65 : decode cX2_passTurn 65 = .ok (.getfield 24, 3) := by decide +kernel
theorem dX2_passTurn_68 : decode cX2_passTurn 68 = .ok (.aload_n 0, 1) := by decide +kernel
theorem dX2_passTurn_69 : decode cX2_passTurn 69 = .ok (.getfield 54, 3) := by decide +kernel
theorem dX2_passTurn_72 : decode cX2_passTurn 72 = .ok (.iaload, 1) := by decide +kernel
theorem dX2_passTurn_73 : decode cX2_passTurn 73 = .ok (.aaload, 1) := by decide +kernel
theorem dX2_passTurn_74 : decode cX2_passTurn 74 = .ok (.invokevirtual 149, 3) := by decide +kernel
theorem dX2_passTurn_77 : decode cX2_passTurn 77 = .ok (.iinc 1 1, 3) := by decide +kernel
theorem dX2_passTurn_80 : decode cX2_passTurn 80 = .ok (.goto (-68), 3) := by decide +kernel
theorem dX2_passTurn_83 : decode cX2_passTurn 83 = .ok (.return_, 1) := by decide +kernel
theorem dX2_startRounds_0 : decode cX2_startRounds 0 = .ok (.aload_n 0, 1) := by decide +kernel
theorem dX2_startRounds_1 : decode cX2_startRounds 1 = .ok (.invokevirtual 121, 3) := by decide +kernel
theorem dX2_startRounds_4 : decode cX2_startRounds 4 = .ok (.aload_n 0, 1) := by decide +kernel
theorem dX2_startRounds_5 : decode cX2_startRounds 5 = .ok (.invokevirtual 124, 3) := by decide +kernel
theorem dX2_startRounds_8 : decode cX2_startRounds 8 = .ok (.return_, 1) := by decide +kernel
theorem dX2_settle_0 : decode cX2_settle 0 = .ok (.aload_n 0, 1) := by decide +kernel
theorem dX2_settle_1 : decode cX2_settle 1 = .ok (.invokevirtual 146, 3) := by decide +kernel
theorem dX2_settle_4 : decode cX2_settle 4 = .ok (.ifCond .ne 16, 3) := by decide +kernel
theorem dX2_settle_7 : decode cX2_settle 7 = .ok (.aload_n 0, 1) := by decide +kernel
theorem dX2_settle_8 : decode cX2_settle 8 = .ok (.iconst (-1), 1) := by decide +kernel
theorem dX2_settle_9 : decode cX2_settle 9 = .ok (.putfield 28, 3) := by decide +kernel
theorem dX2_settle_12 : decode cX2_settle 12 = .ok (.aload_n 0, 1) := by decide +kernel
theorem dX2_settle_13 : decode cX2_settle 13 = .ok (.iconst 0, 1) := by decide +kernel
theorem dX2_settle_14 : decode cX2_settle 14 = .ok (.putfield 57, 3) := by decide +kernel
theorem dX2_settle_17 : decode cX2_settle 17 = .ok (.goto 14, 3) := by decide +kernel
theorem dX2_settle_20 : decode cX2_settle 20 = .ok (.aload_n 1, 1) := by decide +kernel
theorem dX2_settle_21 : decode cX2_settle 21 = .ok (.invokevirtual 105, 3) := by decide +kernel
theorem dX2_settle_24 : decode cX2_settle 24 = .ok (.ifCond .ne 7, 3) := by decide +kernel
theorem dX2_settle_27 : decode cX2_settle 27 = .ok (.aload_n 0, 1) := by decide +kernel
theorem dX2_settle_28 : decode cX2_settle 28 = .ok (.invokevirtual 124, 3) := by decide +kernel
theorem dX2_settle_31 : decode cX2_settle 31 = .ok (.return_, 1) := by decide +kernel
theorem dX2_canStrike_0 : decode cX2_canStrike 0 = .ok (.aload_n 1, 1) := by decide +kernel
theorem dX2_canStrike_1 : decode cX2_canStrike 1 = .ok (.invokevirtual 105, 3) := by decide +kernel
theorem dX2_canStrike_4 : decode cX2_canStrike 4 = .ok (.ifCond .eq 69, 3) := by decide +kernel
theorem dX2_canStrike_7 : decode cX2_canStrike 7 = .ok (.aload_n 2, 1) := by decide +kernel
theorem dX2_canStrike_8 : decode cX2_canStrike 8 = .ok (.invokevirtual 105, 3) := by decide +kernel
theorem dX2_canStrike_11 : decode cX2_canStrike 11 = .ok (.ifCond .eq 62, 3) := by decide +kernel
theorem dX2_canStrike_14 : decode cX2_canStrike 14 = .ok (.aload_n 1, 1) := by decide +kernel
theorem dX2_canStrike_15 : decode cX2_canStrike 15 = .ok (.getfield 85, 3) := by decide +kernel
theorem dX2_canStrike_18 : decode cX2_canStrike 18 = .ok (.aload_n 2, 1) := by decide +kernel
theorem dX2_canStrike_19 : decode cX2_canStrike 19 = .ok (.getfield 85, 3) := by decide +kernel
theorem dX2_canStrike_22 : decode cX2_canStrike 22 = .ok (.if_icmp .eq 51, 3) := by decide +kernel
theorem dX2_canStrike_25 : decode cX2_canStrike 25 = .ok (.aload_n 0, 1) := by decide +kernel
theorem dX2_canStrike_26 : decode cX2_canStrike 26 = .ok (.getfield 12, 3) := by decide +kernel
theorem dX2_canStrike_29 : decode cX2_canStrike 29 = .ok (.aload_n 1, 1) := by decide +kernel
theorem dX2_canStrike_30 : decode cX2_canStrike 30 = .ok (.getfield 113, 3) := by decide +kernel
theorem dX2_canStrike_33 : decode cX2_canStrike 33 = .ok (.aload_n 2, 1) := by decide +kernel
theorem dX2_canStrike_34 : decode cX2_canStrike 34 = .ok (.getfield 113, 3) := by decide +kernel
theorem dX2_canStrike_37 : decode cX2_canStrike 37 = .ok (.invokevirtual 168, 3) := by decide +kernel
theorem dX2_canStrike_40 : decode cX2_canStrike 40 = .ok (.getstatic 172, 3) := by decide +kernel
theorem dX2_canStrike_43 : decode cX2_canStrike 43 = .ok (.aload_n 1, 1) := by decide +kernel
theorem dX2_canStrike_44 : decode cX2_canStrike 44 = .ok (.getfield 88, 3) := by decide +kernel
theorem dX2_canStrike_47 : decode cX2_canStrike 47 = .ok (.iaload, 1) := by decide +kernel
theorem dX2_canStrike_48 : decode cX2_canStrike 48 = .ok (.if_icmp .gt 25, 3) := by decide +kernel
theorem dX2_canStrike_51 : decode cX2_canStrike 51 = .ok (.aload_n 0, 1) := by decide +kernel
theorem dX2_canStrike_52 : decode cX2_canStrike 52 = .ok (.getfield 12, 3) := by decide +kernel
theorem dX2_canStrike_55 : decode cX2_canStrike 55 = .ok (.aload_n 1, 1) := by decide +kernel
theorem dX2_canStrike_56 : decode cX2_canStrike 56 = .ok (.getfield 113, 3) := by decide +kernel
theorem dX2_canStrike_59 : decode cX2_canStrike 59 = .ok (.aload_n 2, 1) := by decide +kernel
theorem dX2_canStrike_60 : decode cX2_canStrike 60 = .ok (.getfield 113, 3) := by decide +kernel
theorem dX2_canStrike_63 : decode cX2_canStrike 63 = .ok (.invokevirtual 175, 3) := by decide +kernel
theorem dX2_canStrike_66 : decode cX2_canStrike 66 = .ok (.ifCond .eq 7, 3) := by decide +kernel
theorem dX2_canStrike_69 : decode cX2_canStrike 69 = .ok (.iconst 1, 1) := by decide +kernel
theorem dX2_canStrike_70 : decode cX2_canStrike 70 = .ok (.goto 4, 3) := by decide +kernel
theorem dX2_canStrike_73 : decode cX2_canStrike 73 = .ok (.iconst 0, 1) := by decide +kernel
theorem dX2_canStrike_74 : decode cX2_canStrike 74 = .ok (.ireturn, 1) := by decide +kernel
theorem dX2_neededResult_0 : decode cX2_neededResult 0 = .ok (.bipush 8, 2) := by decide +kernel
theorem dX2_neededResult_2 : decode cX2_neededResult 2 = .ok (.aload_n 0, 1) := by decide +kernel
theorem dX2_neededResult_3 : decode cX2_neededResult 3 = .ok (.getfield 12, 3) := by decide +kernel
theorem dX2_neededResult_6 : decode cX2_neededResult 6 = .ok (.aload_n 1, 1) := by decide +kernel
theorem dX2_neededResult_7 : decode cX2_neededResult 7 = .ok (.getfield 113, 3) := by decide +kernel
theorem dX2_neededResult_10 : decode cX2_neededResult 10 = .ok (.aload_n 2, 1) := by decide +kernel
theorem dX2_neededResult_11 : decode cX2_neededResult 11 = .ok (.getfield 113, 3) := by decide +kernel
theorem dX2_neededResult_14 : decode cX2_neededResult 14 = .ok (.invokevirtual 168, 3) := by decide +kernel
theorem dX2_neededResult_17 : decode cX2_neededResult 17 = .ok (.iadd, 1) := by decide +kernel
theorem dX2_neededResult_18 : decode cX2_neededResult 18 = .ok (.iconst 3, 1) := by decide +kernel
theorem dX2_neededResult_19 : decode cX2_neededResult 19 = .ok (.aload_n 0, 1) := by decide +kernel
theorem dX2_neededResult_20 : decode cX2_neededResult 20 = .ok (.getfield 12, 3) := by decide +kernel
theorem dX2_neededResult_23 : decode cX2_neededResult 23 = .ok (.aload_n 2, 1) := by decide +kernel
theorem dX2_neededResult_24 : decode cX2_neededResult 24 = .ok (.getfield 113, 3) := by decide +kernel
theorem dX2_neededResult_27 : decode cX2_neededResult 27 = .ok (.aload_n 1, 1) := by decide +kernel
theorem dX2_neededResult_28 : decode cX2_neededResult 28 = .ok (.getfield 113, 3) := by decide +kernel
theorem dX2_neededResult_31 : decode cX2_neededResult 31 = .ok (.invokevirtual 179, 3) := by decide +kernel
theorem dX2_neededResult_34 : decode cX2_neededResult 34 = .ok (.imul, 1) := by decide +kernel
theorem dX2_neededResult_35 : decode cX2_neededResult 35 = .ok (.iadd, 1) := by decide +kernel
theorem dX2_neededResult_36 : decode cX2_neededResult 36 = .ok (.aload_n 2, 1) := by decide +kernel
theorem dX2_neededResult_37 : decode cX2_neededResult 37 = .ok (.getfield 152, 3) := by decide +kernel
theorem dX2_neededResult_40 : decode cX2_neededResult 40 = .ok (.ifCond .eq 7, 3) := by decide +kernel
theorem dX2_neededResult_43 : decode cX2_neededResult 43 = .ok (.iconst 2, 1) := by decide +kernel
theorem dX2_neededResult_44 : decode cX2_neededResult 44 = .ok (.goto 4, 3) := by decide +kernel
theorem dX2_neededResult_47 : decode cX2_neededResult 47 = .ok (.iconst 0, 1) := by decide +kernel
theorem dX2_neededResult_48 : decode cX2_neededResult 48 = .ok (.iadd, 1) := by decide +kernel
theorem dX2_neededResult_49 : decode cX2_neededResult 49 = .ok (.getstatic 182, 3) := by decide +kernel
theorem dX2_neededResult_52 : decode cX2_neededResult 52 = .ok (.aload_n 1, 1) := by decide +kernel
theorem dX2_neededResult_53 : decode cX2_neededResult 53 = .ok (.getfield 88, 3) := by decide +kernel
theorem dX2_neededResult_56 : decode cX2_neededResult 56 = .ok (.iaload, 1) := by decide +kernel
theorem dX2_neededResult_57 : decode cX2_neededResult 57 = .ok (.isub, 1) := by decide +kernel
theorem dX2_neededResult_58 : decode cX2_neededResult 58 = .ok (.ireturn, 1) := by decide +kernel
theorem dX2_isHit_0 : decode cX2_isHit 0 = .ok (.iload_n 0, 1) := by decide +kernel
theorem dX2_isHit_1 : decode cX2_isHit 1 = .ok (.bipush 20, 2) := by decide +kernel
theorem dX2_isHit_3 : decode cX2_isHit 3 = .ok (.if_icmp .eq 13, 3) := by decide +kernel
theorem dX2_isHit_6 : decode cX2_isHit 6 = .ok (.iload_n 0, 1) := by decide +kernel
theorem dX2_isHit_7 : decode cX2_isHit 7 = .ok (.iconst 1, 1) := by decide +kernel
theorem dX2_isHit_8 : decode cX2_isHit 8 = .ok (.if_icmp .le 12, 3) := by decide +kernel
theorem dX2_isHit_11 : decode cX2_isHit 11 = .ok (.iload_n 0, 1) := by decide +kernel
theorem dX2_isHit_12 : decode cX2_isHit 12 = .ok (.iload_n 1, 1) := by decide +kernel
theorem dX2_isHit_13 : decode cX2_isHit 13 = .ok (.if_icmp .lt 7, 3) := by decide +kernel
theorem dX2_isHit_16 : decode cX2_isHit 16 = .ok (.iconst 1, 1) := by decide +kernel
theorem dX2_isHit_17 : decode cX2_isHit 17 = .ok (.goto 4, 3) := by decide +kernel
theorem dX2_isHit_20 : decode cX2_isHit 20 = .ok (.iconst 0, 1) := by decide +kernel
theorem dX2_isHit_21 : decode cX2_isHit 21 = .ok (.ireturn, 1) := by decide +kernel
theorem dX2_damageOf_0 : decode cX2_damageOf 0 = .ok (.iconst 1, 1) := by decide +kernel
theorem dX2_damageOf_1 : decode cX2_damageOf 1 = .ok (.iload_n 3, 1) := by decide +kernel
theorem dX2_damageOf_2 : decode cX2_damageOf 2 = .ok (.getstatic 185, 3) := by decide +kernel
theorem dX2_damageOf_5 : decode cX2_damageOf 5 = .ok (.aload_n 0, 1) := by decide +kernel
theorem dX2_damageOf_6 : decode cX2_damageOf 6 = .ok (.getfield 88, 3) := by decide +kernel
theorem dX2_damageOf_9 : decode cX2_damageOf 9 = .ok (.iaload, 1) := by decide +kernel
theorem dX2_damageOf_10 : decode cX2_damageOf 10 = .ok (.iadd, 1) := by decide +kernel
theorem dX2_damageOf_11 : decode cX2_damageOf 11 = .ok (.getstatic 188, 3) := by decide +kernel
theorem dX2_damageOf_14 : decode cX2_damageOf 14 = .ok (.aload_n 1, 1) := by decide +kernel
theorem dX2_damageOf_15 : decode cX2_damageOf 15 = .ok (.getfield 88, 3) := by decide +kernel
theorem dX2_damageOf_18 : decode cX2_damageOf 18 = .ok (.iaload, 1) := by decide +kernel
theorem dX2_damageOf_19 : decode cX2_damageOf 19 = .ok (.isub, 1) := by decide +kernel
theorem dX2_damageOf_20 : decode cX2_damageOf 20 = .ok (.invokestatic 191, 3) := by decide +kernel
theorem dX2_damageOf_23 : decode cX2_damageOf 23 = .ok (.istore 4, 2) := by decide +kernel
theorem dX2_damageOf_25 : decode cX2_damageOf 25 = .ok (.iload_n 2, 1) := by decide +kernel
theorem dX2_damageOf_26 : decode cX2_damageOf 26 = .ok (.bipush 20, 2) := by decide +kernel
theorem dX2_damageOf_28 : decode cX2_damageOf 28 = .ok (.if_icmp .ne 10, 3) := by decide +kernel
theorem dX2_damageOf_31 : decode cX2_damageOf 31 = .ok (.iconst 2, 1) := by decide +kernel
theorem dX2_damageOf_32 : decode cX2_damageOf 32 = .ok (.iload 4, 2) := by decide +kernel
theorem dX2_damageOf_34 : decode cX2_damageOf 34 = .ok (.imul, 1) := by decide +kernel
theorem dX2_damageOf_35 : decode cX2_damageOf 35 = .ok (.goto 5, 3) := by decide +kernel
theorem dX2_damageOf_38 : decode cX2_damageOf 38 = .ok (.iload 4, 2) := by decide +kernel
theorem dX2_damageOf_40 : decode cX2_damageOf 40 = .ok (.ireturn, 1) := by decide +kernel
theorem dX2_countHits_0 : decode cX2_countHits 0 = .ok (.aload_n 0, 1) := by decide +kernel
theorem dX2_countHits_1 : decode cX2_countHits 1 = .ok (.aload_n 1, 1) := by decide +kernel
theorem dX2_countHits_2 : decode cX2_countHits 2 = .ok (.aload_n 2, 1) := by decide +kernel
theorem dX2_countHits_3 : decode cX2_countHits 3 = .ok (.invokevirtual 196, 3) := by decide +kernel
theorem dX2_countHits_6 : decode cX2_countHits 6 = .ok (.istore_n 3, 1) := by decide +kernel
theorem dX2_countHits_7 : decode cX2_countHits 7 = .ok (.iconst 0, 1) := by decide +kernel
theorem dX2_countHits_8 : decode cX2_countHits 8 = .ok (.istore 4, 2) := by decide +kernel
theorem dX2_countHits_10 : decode cX2_countHits 10 = .ok (.iconst 1, 1) := by decide +kernel
theorem dX2_countHits_11 : decode cX2_countHits 11 = .ok (.istore 5, 2) := by decide +kernel
theorem dX2_countHits_13 : decode cX2_countHits 13 = .ok (.iload 5, 2) := by decide +kernel
theorem dX2_countHits_15 : decode cX2_countHits 15 = .ok (.bipush 20, 2) := by decide +kernel
theorem dX2_countHits_17 : decode cX2_countHits 17 = .ok (.if_icmp .gt 21, 3) := by decide +kernel
theorem dX2_countHits_20 : decode cX2_countHits 20 = .ok (.iload 5, 2) := by decide +kernel
theorem dX2_countHits_22 : decode cX2_countHits 22 = .ok (.iload_n 3, 1) := by decide +kernel
theorem dX2_countHits_23 : decode cX2_countHits 23 = .ok (.invokestatic 200, 3) := by decide +kernel
theorem dX2_countHits_26 : decode cX2_countHits 26 = .ok (.ifCond .eq 6, 3) := by decide +kernel
theorem dX2_countHits_29 : decode cX2_countHits 29 = .ok (.iinc 4 1, 3) := by decide +kernel
theorem dX2_countHits_32 : decode cX2_countHits 32 = .ok (.iinc 5 1, 3) := by decide +kernel
theorem dX2_countHits_35 : decode cX2_countHits 35 = .ok (.goto (-22), 3) := by decide +kernel
theorem dX2_countHits_38 : decode cX2_countHits 38 = .ok (.iload 4, 2) := by decide +kernel
theorem dX2_countHits_40 : decode cX2_countHits 40 = .ok (.ireturn, 1) := by decide +kernel
theorem dX2_sumDamages_0 : decode cX2_sumDamages 0 = .ok (.aload_n 0, 1) := by decide +kernel
theorem dX2_sumDamages_1 : decode cX2_sumDamages 1 = .ok (.aload_n 1, 1) := by decide +kernel
theorem dX2_sumDamages_2 : decode cX2_sumDamages 2 = .ok (.aload_n 2, 1) := by decide +kernel
theorem dX2_sumDamages_3 : decode cX2_sumDamages 3 = .ok (.invokevirtual 196, 3) := by decide +kernel
theorem dX2_sumDamages_6 : decode cX2_sumDamages 6 = .ok (.istore_n 3, 1) := by decide +kernel
theorem dX2_sumDamages_7 : decode cX2_sumDamages 7 = .ok (.iconst 0, 1) := by decide +kernel
theorem dX2_sumDamages_8 : decode cX2_sumDamages 8 = .ok (.istore 4, 2) := by decide +kernel
theorem dX2_sumDamages_10 : decode cX2_sumDamages 10 = .ok (.iconst 1, 1) := by decide +kernel
theorem dX2_sumDamages_11 : decode cX2_sumDamages 11 = .ok (.istore 5, 2) := by decide +kernel
theorem dX2_sumDamages_13 : decode cX2_sumDamages 13 = .ok (.iload 5, 2) := by decide +kernel
theorem dX2_sumDamages_15 : decode cX2_sumDamages 15 = .ok (.bipush 20, 2) := by decide +kernel
theorem dX2_sumDamages_17 : decode cX2_sumDamages 17 = .ok (.if_icmp .gt 47, 3) := by decide +kernel
theorem dX2_sumDamages_20 : decode cX2_sumDamages 20 = .ok (.iconst 1, 1) := by decide +kernel
theorem dX2_sumDamages_21 : decode cX2_sumDamages 21 = .ok (.istore 6, 2) := by decide +kernel
theorem dX2_sumDamages_23 : decode cX2_sumDamages 23 = .ok (.iload 6, 2) := by decide +kernel
theorem dX2_sumDamages_25 : decode cX2_sumDamages 25 = .ok (.iconst 4, 1) := by decide +kernel
theorem dX2_sumDamages_26 : decode cX2_sumDamages 26 = .ok (.if_icmp .gt 32, 3) := by decide +kernel
theorem dX2_sumDamages_29 : decode cX2_sumDamages 29 = .ok (.iload 5, 2) := by decide +kernel
theorem dX2_sumDamages_31 : decode cX2_sumDamages 31 = .ok (.iload_n 3, 1) := by decide +kernel
theorem dX2_sumDamages_32 : decode cX2_sumDamages 32 = .ok (.invokestatic 200, 3) := by decide +kernel
theorem dX2_sumDamages_35 : decode cX2_sumDamages 35 = .ok (.ifCond .eq 17, 3) := by decide +kernel
theorem dX2_sumDamages_38 : decode cX2_sumDamages 38 = .ok (.iload 4, 2) := by decide +kernel
theorem dX2_sumDamages_40 : decode cX2_sumDamages 40 = .ok (.aload_n 1, 1) := by decide +kernel
theorem dX2_sumDamages_41 : decode cX2_sumDamages 41 = .ok (.aload_n 2, 1) := by decide +kernel
theorem dX2_sumDamages_42 : decode cX2_sumDamages 42 = .ok (.iload 5, 2) := by decide +kernel
theorem dX2_sumDamages_44 : decode cX2_sumDamages 44 = .ok (.iload 6, 2) := by decide +kernel
theorem dX2_sumDamages_46 : decode cX2_sumDamages 46 = .ok (.invokestatic 203, 3) := by decide +kernel
theorem dX2_sumDamages_49 : decode cX2_sumDamages 49 = .ok (.iadd, 1) := by decide +kernel
theorem dX2_sumDamages_50 : decode cX2_sumDamages 50 = .ok (.istore 4, 2) := by decide +kernel
theorem dX2_sumDamages_52 : decode cX2_sumDamages 52 = .ok (.iinc 6 1, 3) := by decide +kernel
theorem dX2_sumDamages_55 : decode cX2_sumDamages 55 = .ok (.goto (-32), 3) := by decide +kernel
theorem dX2_sumDamages_58 : decode cX2_sumDamages 58 = .ok (.iinc 5 1, 3) := by decide +kernel
theorem dX2_sumDamages_61 : decode cX2_sumDamages 61 = .ok (.goto (-48), 3) := by decide +kernel
theorem dX2_sumDamages_64 : decode cX2_sumDamages 64 = .ok (.iload 4, 2) := by decide +kernel
theorem dX2_sumDamages_66 : decode cX2_sumDamages 66 = .ok (.ireturn, 1) := by decide +kernel
theorem dX2_chooseTarget_0 : decode cX2_chooseTarget 0 = .ok (.iconst (-1), 1) := by decide +kernel
theorem dX2_chooseTarget_1 : decode cX2_chooseTarget 1 = .ok (.istore_n 2, 1) := by decide +kernel
theorem dX2_chooseTarget_2 : decode cX2_chooseTarget 2 = .ok (.iconst 0, 1) := by decide +kernel
theorem dX2_chooseTarget_3 : decode cX2_chooseTarget 3 = .ok (.istore_n 3, 1) := by decide +kernel
theorem dX2_chooseTarget_4 : decode cX2_chooseTarget 4 = .ok (.iconst 0, 1) := by decide +kernel
theorem dX2_chooseTarget_5 : decode cX2_chooseTarget 5 = .ok (.istore 4, 2) := by decide +kernel
theorem dX2_chooseTarget_7 : decode cX2_chooseTarget 7 = .ok (.iconst 0, 1) := by decide +kernel
theorem dX2_chooseTarget_8 : decode cX2_chooseTarget 8 = .ok (.istore 5, 2) := by decide +kernel
theorem dX2_chooseTarget_10 : decode cX2_chooseTarget 10 = .ok (.iload 5, 2) := by decide +kernel
theorem dX2_chooseTarget_12 : decode cX2_chooseTarget 12 = .ok (.aload_n 0, 1) := by decide +kernel
theorem dX2_chooseTarget_13 : decode cX2_chooseTarget 13 = .ok (.getfield 48, 3) := by decide +kernel
theorem dX2_chooseTarget_16 : decode cX2_chooseTarget 16 = .ok (.if_icmp .ge 76, 3) := by decide +kernel
theorem dX2_chooseTarget_19 : decode cX2_chooseTarget 19 = .ok (.aload_n 0, 1) := by decide +kernel
theorem dX2_chooseTarget_20 : decode cX2_chooseTarget 20 = .ok (.getfield 20, 3) := by decide +kernel
theorem dX2_chooseTarget_23 : decode cX2_chooseTarget 23 = .ok (.iload 5, 2) := by decide +kernel
theorem dX2_chooseTarget_25 : decode cX2_chooseTarget 25 = .ok (.aaload, 1) := by decide +kernel
theorem dX2_chooseTarget_26 : decode cX2_chooseTarget 26 = .ok (.astore 6, 2) := by decide +kernel
theorem dX2_chooseTarget_28 : decode cX2_chooseTarget 28 = .ok (.aload_n 0, 1) := by decide +kernel
theorem dX2_chooseTarget_29 : decode cX2_chooseTarget 29 = .ok (.aload_n 1, 1) := by decide +kernel
theorem dX2_chooseTarget_30 : decode cX2_chooseTarget 30 = .ok (.aload 6, 2) := by decide +kernel
theorem dX2_chooseTarget_32 : decode cX2_chooseTarget 32 = .ok (.invokevirtual 207, 3) := by decide +kernel
theorem dX2_chooseTarget_35 : decode cX2_chooseTarget 35 = .ok (.ifCond .eq 51, 3) := by decide +kernel
theorem dX2_chooseTarget_38 : decode cX2_chooseTarget 38 = .ok (.aload_n 0, 1) := by decide +kernel
theorem dX2_chooseTarget_39 : decode cX2_chooseTarget 39 = .ok (.aload_n 1, 1) := by decide +kernel
theorem dX2_chooseTarget_40 : decode cX2_chooseTarget 40 = .ok (.aload 6, 2) := by decide +kernel
theorem dX2_chooseTarget_42 : decode cX2_chooseTarget 42 = .ok (.invokevirtual 211, 3) := by decide +kernel
theorem dX2_chooseTarget_45 : decode cX2_chooseTarget 45 = .ok (.istore 7, 2) := by decide +kernel
theorem dX2_chooseTarget_47 : decode cX2_chooseTarget 47 = .ok (.iload_n 2, 1) := by decide +kernel
theorem dX2_chooseTarget_48 : decode cX2_chooseTarget 48 = .ok (.ifCond .lt 25, 3) := by decide +kernel
theorem dX2_chooseTarget_51 : decode cX2_chooseTarget 51 = .ok (.iload 7, 2) := by decide +kernel
theorem dX2_chooseTarget_53 : decode cX2_chooseTarget 53 = .ok (.iload_n 3, 1) := by decide +kernel
theorem dX2_chooseTarget_54 : decode cX2_chooseTarget 54 = .ok (.if_icmp .gt 19, 3) := by decide +kernel
theorem dX2_chooseTarget_57 : decode cX2_chooseTarget 57 = .ok (.iload 7, 2) := by decide +kernel
theorem dX2_chooseTarget_59 : decode cX2_chooseTarget 59 = .ok (.iload_n 3, 1) := by decide +kernel
theorem dX2_chooseTarget_60 : decode cX2_chooseTarget 60 = .ok (.if_icmp .ne 26, 3) := by decide +kernel
theorem dX2_chooseTarget_63 : decode cX2_chooseTarget 63 = .ok (.aload 6, 2) := by decide +kernel
theorem dX2_chooseTarget_65 : decode cX2_chooseTarget 65 = .ok (.getfield 214, 3) := by decide +kernel
theorem dX2_chooseTarget_68 : decode cX2_chooseTarget 68 = .ok (.iload 4, 2) := by decide +kernel
theorem dX2_chooseTarget_70 : decode cX2_chooseTarget 70 = .ok (.if_icmp .ge 16, 3) := by decide +kernel
theorem dX2_chooseTarget_73 : decode cX2_chooseTarget 73 = .ok (.iload 5, 2) := by decide +kernel
theorem dX2_chooseTarget_75 : decode cX2_chooseTarget 75 = .ok (.istore_n 2, 1) := by decide +kernel
theorem dX2_chooseTarget_76 : decode cX2_chooseTarget 76 = .ok (.iload 7, 2) := by decide +kernel
theorem dX2_chooseTarget_78 : decode cX2_chooseTarget 78 = .ok (.istore_n 3, 1) := by decide +kernel
theorem dX2_chooseTarget_79 : decode cX2_chooseTarget 79 = .ok (.aload 6, 2) := by decide +kernel
theorem dX2_chooseTarget_81 : decode cX2_chooseTarget 81 = .ok (.getfield 214, 3) := by decide +kernel
theorem dX2_chooseTarget_84 : decode cX2_chooseTarget 84 = .ok (.istore 4, 2) := by decide +kernel
theorem dX2_chooseTarget_86 : decode cX2_chooseTarget 86 = .ok (.iinc 5 1, 3) := by decide +kernel
theorem dX2_chooseTarget_89 : decode cX2_chooseTarget 89 = .ok (.goto (-79), 3) := by decide +kernel
theorem dX2_chooseTarget_92 : decode cX2_chooseTarget 92 = .ok (.iload_n 2, 1) := by decide +kernel
theorem dX2_chooseTarget_93 : decode cX2_chooseTarget 93 = .ok (.ireturn, 1) := by decide +kernel
theorem dX2_strike_0 : decode cX2_strike 0 = .ok (.aload_n 1, 1) := by decide +kernel
theorem dX2_strike_1 : decode cX2_strike 1 = .ok (.dup, 1) := by decide +kernel
theorem dX2_strike_2 : decode cX2_strike 2 = .ok (.getfield 217, 3) := by decide +kernel
theorem dX2_strike_5 : decode cX2_strike 5 = .ok (.iconst 1, 1) := by decide +kernel
theorem dX2_strike_6 : decode cX2_strike 6 = .ok (.isub, 1) := by decide +kernel
theorem dX2_strike_7 : decode cX2_strike 7 = .ok (.putfield 217, 3) := by decide +kernel
theorem dX2_strike_10 : decode cX2_strike 10 = .ok (.aload_n 0, 1) := by decide +kernel
theorem dX2_strike_11 : decode cX2_strike 11 = .ok (.bipush 20, 2) := by decide +kernel
theorem dX2_strike_13 : decode cX2_strike 13 = .ok (.invokevirtual 133, 3) := by decide +kernel
theorem dX2_strike_16 : decode cX2_strike 16 = .ok (.istore_n 3, 1) := by decide +kernel
theorem dX2_strike_17 : decode cX2_strike 17 = .ok (.iload_n 3, 1) := by decide +kernel
theorem dX2_strike_18 : decode cX2_strike 18 = .ok (.aload_n 0, 1) := by decide +kernel
theorem dX2_strike_19 : decode cX2_strike 19 = .ok (.aload_n 1, 1) := by decide +kernel
theorem dX2_strike_20 : decode cX2_strike 20 = .ok (.aload_n 2, 1) := by decide +kernel
theorem dX2_strike_21 : decode cX2_strike 21 = .ok (.invokevirtual 196, 3) := by decide +kernel
theorem dX2_strike_24 : decode cX2_strike 24 = .ok (.invokestatic 200, 3) := by decide +kernel
theorem dX2_strike_27 : decode cX2_strike 27 = .ok (.ifCond .ne 21, 3) := by decide +kernel
theorem dX2_strike_30 : decode cX2_strike 30 = .ok (.aload_n 0, 1) := by decide +kernel
theorem dX2_strike_31 : decode cX2_strike 31 = .ok (.getfield 41, 3) := by decide +kernel
theorem dX2_strike_34 : decode cX2_strike 34 = .ok (.iconst 3, 1) := by decide +kernel
theorem dX2_strike_35 : decode cX2_strike 35 = .ok (.aload_n 1, 1) := by decide +kernel
theorem dX2_strike_36 : decode cX2_strike 36 = .ok (.getfield 143, 3) := by decide +kernel
theorem dX2_strike_39 : decode cX2_strike 39 = .ok (.aload_n 2, 1) := by decide +kernel
theorem dX2_strike_40 : decode cX2_strike 40 = .ok (.getfield 143, 3) := by decide +kernel
theorem dX2_strike_43 : decode cX2_strike 43 = .ok (.invokevirtual 127, 3) := by decide +kernel
theorem dX2_strike_46 : decode cX2_strike 46 = .ok (.iconst 0, 1) := by decide +kernel
theorem dX2_strike_47 : decode cX2_strike 47 = .ok (.ireturn, 1) := by decide +kernel
theorem dX2_strike_48 : decode cX2_strike 48 = .ok (.aload_n 1, 1) := by decide +kernel
theorem dX2_strike_49 : decode cX2_strike 49 = .ok (.aload_n 2, 1) := by decide +kernel
theorem dX2_strike_50 : decode cX2_strike 50 = .ok (.iload_n 3, 1) := by decide +kernel
theorem dX2_strike_51 : decode cX2_strike 51 = .ok (.aload_n 0, 1) := by decide +kernel
theorem dX2_strike_52 : decode cX2_strike 52 = .ok (.iconst 4, 1) := by decide +kernel
theorem dX2_strike_53 : decode cX2_strike 53 = .ok (.invokevirtual 133, 3) := by decide +kernel
theorem dX2_strike_56 : decode cX2_strike 56 = .ok (.invokestatic 203, 3) := by decide +kernel
theorem dX2_strike_59 : decode cX2_strike 59 = .ok (.istore 4, 2) := by decide +kernel
theorem dX2_strike_61 : decode cX2_strike 61 = .ok (.aload_n 2, 1) := by decide +kernel
theorem dX2_strike_62 : decode cX2_strike 62 = .ok (.iload 4, 2) := by decide +kernel
theorem dX2_strike_64 : decode cX2_strike 64 = .ok (.invokevirtual 162, 3) := by decide +kernel
theorem dX2_strike_67 : decode cX2_strike 67 = .ok (.aload_n 0, 1) := by decide +kernel
theorem dX2_strike_68 : decode cX2_strike 68 = .ok (.getfield 41, 3) := by decide +kernel
theorem dX2_strike_71 : decode cX2_strike 71 = .ok (.iconst 2, 1) := by decide +kernel
theorem dX2_strike_72 : decode cX2_strike 72 = .ok (.aload_n 1, 1) := by decide +kernel
theorem dX2_strike_73 : decode cX2_strike 73 = .ok (.getfield 143, 3) := by decide +kernel
theorem dX2_strike_76 : decode cX2_strike 76 = .ok (.iload 4, 2) := by decide +kernel
theorem dX2_strike_78 : decode cX2_strike 78 = .ok (.invokevirtual 127, 3) := by decide +kernel
theorem dX2_strike_81 : decode cX2_strike 81 = .ok (.aload_n 2, 1) := by decide +kernel
theorem dX2_strike_82 : decode cX2_strike 82 = .ok (.invokevirtual 105, 3) := by decide +kernel
theorem dX2_strike_85 : decode cX2_strike 85 = .ok (.ifCond .ne 16, 3) := by decide +kernel
theorem dX2_strike_88 : decode cX2_strike 88 = .ok (.aload_n 0, 1) := by decide +kernel
theorem dX2_strike_89 : decode cX2_strike 89 = .ok (.getfield 41, 3) := by decide +kernel
theorem dX2_strike_92 : decode cX2_strike 92 = .ok (.iconst 4, 1) := by decide +kernel
theorem dX2_strike_93 : decode cX2_strike 93 = .ok (.aload_n 2, 1) := by decide +kernel
theorem dX2_strike_94 : decode cX2_strike 94 = .ok (.getfield 143, 3) := by decide +kernel
theorem dX2_strike_97 : decode cX2_strike 97 = .ok (.iconst 0, 1) := by decide +kernel
theorem dX2_strike_98 : decode cX2_strike 98 = .ok (.invokevirtual 127, 3) := by decide +kernel
theorem dX2_strike_101 : decode cX2_strike 101 = .ok (.iload 4, 2) := by decide +kernel
theorem dX2_strike_103 : decode cX2_strike 103 = .ok (.ireturn, 1) := by decide +kernel
abbrev rmX2_insertByRoll : Room := { frames := 0, cells := 0, slots := 0, locals := 0 }
def wX2_insertByRoll_52 (Q : MS → Prop) (QX : String → MS → Prop) (S : MS) (a0 : Nat) (u1 : Nat) (y2 : Int32) : Prop := (∃ a1, mR S a0 3 = some a1 ∧ (vp_in y2 (mN S a1) ∧ (∀ S2, S2 = (sI S a1 (y2 : Int32).toNatClampNeg (mI S u1 0)) → (∀ S3, S3 = (sI S2 a0 4 ((mI S2 a0 4) + 1)) → Q S3))))
set_option maxHeartbeats 4000000 in
set_option maxRecDepth 100000 in
theorem tX2_insertByRoll_52 {p : Program} {l : Launch} {e : Env} {s : State} {m : MethodId} {args : Array Value} {below : List Frame} {meth : Method} {c : Code} {H : Heap} {locs : List Loc} {cells slots : Nat} {G : GP} {A : Nat → Prop} {S0 : MS} {ls : Array Slot} (C : CF p l s m args meth c "SkirmishGrid$Fight" cX2_insertByRoll 3 G A) (hr : meth.sig.returnType = none) (hex : ∀ x ∈ c.exceptionTable.toList, False) (Q : MS → Prop) (QX : String → MS → Prop) (S : MS) (a0 : Nat) (u1 : Nat) (y2 : Int32) (p_a0 : pI S 2 a0) (p_u1 : pI S 7 u1) (P : PW G A s H locs S0 S) (hl : lv_has ls 3 [(0, .ref a0), (1, .ref u1), (2, .int y2)]) (hcc : cells + 0 ≤ 0) (hss : slots + 0 ≤ 0) (hw : wX2_insertByRoll_52 Q QX S a0 u1 y2) : W p l e rmX2_insertByRoll s m args below meth c H locs cells slots (vx_MQ below (QV G S0 A Q) (XX G S0 A QX) args s 0 0 A) (F0 m 52 ls []) := by
  have hx := CF_x C
  have hb := CF_b C
  unfold wX2_insertByRoll_52 at hw
  refine lv_aload_n hx hb dX2_insertByRoll_52 rfl (lv_at hl 0 rfl) ?_
  obtain ⟨a1, e1, hw⟩ := hw
  have p_a1 : pI S 12 a1 := wf_r P.2.2.2.1 p_a0 e1
  refine gf_2_3 C P p_a0 e1 q_172 dX2_insertByRoll_53 ?_
  refine lv_iload_n hx hb dX2_insertByRoll_56 rfl (lv_at hl 2 rfl) ?_
  refine lv_aload_n hx hb dX2_insertByRoll_57 rfl (lv_at hl 1 rfl) ?_
  refine gf_7_0 C P p_u1 q_95 dX2_insertByRoll_58 ?_
  obtain ⟨h1, hw⟩ := hw
  refine rs_i C P p_a1 h1 dX2_insertByRoll_61 (fun H locs P => ?_)
  obtain ⟨S2, hS⟩ : ∃ z, z = (sI S a1 (y2 : Int32).toNatClampNeg (mI S u1 0)) := ⟨_, rfl⟩
  have P : PW G A s H locs S0 S2 := by rw [hS]; exact P
  have p_a0 : pI S2 2 a0 := by rw [hS]; exact pI_x ext_sI p_a0
  have p_a1 : pI S2 12 a1 := by rw [hS]; exact pI_x ext_sI p_a1
  have hw := hw S2 hS
  refine lv_aload_n hx hb dX2_insertByRoll_62 rfl (lv_at hl 0 rfl) ?_
  refine lv_dup hx hb dX2_insertByRoll_63 rfl ?_
  refine gf_2_4 C P p_a0 q_174 dX2_insertByRoll_64 ?_
  refine lv_iconst (v := 1) hx hb dX2_insertByRoll_67 (by decide) ?_
  refine lv_iadd hx hb dX2_insertByRoll_68 ?_
  refine pf_2_4 C P p_a0 q_174 dX2_insertByRoll_69 (fun H locs P => ?_)
  obtain ⟨S3, hS⟩ : ∃ z, z = (sI S2 a0 4 ((mI S2 a0 4) + 1)) := ⟨_, rfl⟩
  have P : PW G A s H locs S0 S3 := by rw [hS]; exact P
  have p_a0 : pI S3 2 a0 := by rw [hS]; exact pI_x ext_sI p_a0
  have hw := hw S3 hS
  exact e_v C hr P hw (by omega) (by omega) dX2_insertByRoll_72
def wX2_insertByRoll_5 (Q : MS → Prop) (QX : String → MS → Prop) (k5 : MS → Nat → Nat → Int32 → Prop) (S : MS) (a0 : Nat) (u1 : Nat) (y2 : Int32) : Prop := ((y2 ≤ 0 → wX2_insertByRoll_52 Q QX S a0 u1 y2) ∧ (¬ y2 ≤ 0 → (∃ a1, mR S a0 1 = some a1 ∧ (∃ a2, mR S a0 3 = some a2 ∧ (vp_in (y2 - 1) (mN S a2) ∧ (vp_in (mI S a2 ((y2 - 1) : Int32).toNatClampNeg) (mN S a1) ∧ (∃ a3, mR S a1 ((mI S a2 ((y2 - 1) : Int32).toNatClampNeg) : Int32).toNatClampNeg = some a3 ∧ (((mI S u1 8) ≤ (mI S a3 8) → wX2_insertByRoll_52 Q QX S a0 u1 y2) ∧ (¬ (mI S u1 8) ≤ (mI S a3 8) → (∃ a4, mR S a0 3 = some a4 ∧ (∃ a5, mR S a0 3 = some a5 ∧ (vp_in (y2 - 1) (mN S a5) ∧ (vp_in y2 (mN S a4) ∧ (∀ S6, S6 = (sI S a4 (y2 : Int32).toNatClampNeg (mI S a5 ((y2 - 1) : Int32).toNatClampNeg)) → k5 S6 a0 u1 (y2 + (-1))))))))))))))))
set_option maxHeartbeats 4000000 in
set_option maxRecDepth 100000 in
theorem tX2_insertByRoll_5 {p : Program} {l : Launch} {e : Env} {s : State} {m : MethodId} {args : Array Value} {below : List Frame} {meth : Method} {c : Code} {H : Heap} {locs : List Loc} {cells slots : Nat} {G : GP} {A : Nat → Prop} {S0 : MS} {ls : Array Slot} (C : CF p l s m args meth c "SkirmishGrid$Fight" cX2_insertByRoll 3 G A) (hr : meth.sig.returnType = none) (hex : ∀ x ∈ c.exceptionTable.toList, False) (Q : MS → Prop) (QX : String → MS → Prop) (k5 : MS → Nat → Nat → Int32 → Prop) (kh5 : ∀ (S : MS) (a0 : Nat) (u1 : Nat) (y2 : Int32) (cells slots : Nat) (H : Heap) (locs : List Loc) (ls : Array Slot), pI S 2 a0 → pI S 7 u1 → PW G A s H locs S0 S → lv_has ls 3 [(0, .ref a0), (1, .ref u1), (2, .int y2)] → cells + 0 ≤ 0 → slots + 0 ≤ 0 → k5 S a0 u1 y2 → W p l e rmX2_insertByRoll s m args below meth c H locs cells slots (vx_MQ below (QV G S0 A Q) (XX G S0 A QX) args s 0 0 A) (F0 m 5 ls [])) (S : MS) (a0 : Nat) (u1 : Nat) (y2 : Int32) (p_a0 : pI S 2 a0) (p_u1 : pI S 7 u1) (P : PW G A s H locs S0 S) (hl : lv_has ls 3 [(0, .ref a0), (1, .ref u1), (2, .int y2)]) (hcc : cells + 0 ≤ 0) (hss : slots + 0 ≤ 0) (hw : wX2_insertByRoll_5 Q QX k5 S a0 u1 y2) : W p l e rmX2_insertByRoll s m args below meth c H locs cells slots (vx_MQ below (QV G S0 A Q) (XX G S0 A QX) args s 0 0 A) (F0 m 5 ls []) := by
  have hx := CF_x C
  have hb := CF_b C
  unfold wX2_insertByRoll_5 at hw
  refine lv_iload_n hx hb dX2_insertByRoll_5 rfl (lv_at hl 2 rfl) ?_
  refine lv_if_le (tgt := 52) hx hb dX2_insertByRoll_6 (by decide) (fun hc => ?_) (fun hc => ?_)
  · have hw := hw.1 hc
    exact tX2_insertByRoll_52 C hr hex Q QX S a0 u1 y2 p_a0 p_u1 P (lv_sub hl [0, 1, 2] rfl) (by omega) (by omega) hw
  · have hw := hw.2 hc
    refine lv_aload_n hx hb dX2_insertByRoll_9 rfl (lv_at hl 0 rfl) ?_
    obtain ⟨a1, e1, hw⟩ := hw
    have p_a1 : pI S 15 a1 := wf_r P.2.2.2.1 p_a0 e1
    refine gf_2_1 C P p_a0 e1 q_164 dX2_insertByRoll_10 ?_
    refine lv_aload_n hx hb dX2_insertByRoll_13 rfl (lv_at hl 0 rfl) ?_
    obtain ⟨a2, e1, hw⟩ := hw
    have p_a2 : pI S 12 a2 := wf_r P.2.2.2.1 p_a0 e1
    refine gf_2_3 C P p_a0 e1 q_172 dX2_insertByRoll_14 ?_
    refine lv_iload_n hx hb dX2_insertByRoll_17 rfl (lv_at hl 2 rfl) ?_
    refine lv_iconst (v := 1) hx hb dX2_insertByRoll_18 (by decide) ?_
    refine lv_isub hx hb dX2_insertByRoll_19 ?_
    obtain ⟨h1, hw⟩ := hw
    refine ra_i C P p_a2 h1 dX2_insertByRoll_20 ?_
    obtain ⟨h1, hw⟩ := hw
    obtain ⟨a3, e1, hw⟩ := hw
    have p_a3 : pI S 7 a3 := wf_r P.2.2.2.1 p_a1 e1
    refine ra_a5 C P p_a1 h1 e1 dX2_insertByRoll_21 ?_
    refine gf_7_8 C P p_a3 q_121 dX2_insertByRoll_22 ?_
    refine lv_aload_n hx hb dX2_insertByRoll_25 rfl (lv_at hl 1 rfl) ?_
    refine gf_7_8 C P p_u1 q_121 dX2_insertByRoll_26 ?_
    refine lv_icmp_ge (tgt := 52) hx hb dX2_insertByRoll_29 (by decide) (fun hc => ?_) (fun hc => ?_)
    · have hw := hw.1 hc
      exact tX2_insertByRoll_52 C hr hex Q QX S a0 u1 y2 p_a0 p_u1 P (lv_sub hl [0, 1, 2] rfl) (by omega) (by omega) hw
    · have hw := hw.2 hc
      refine lv_aload_n hx hb dX2_insertByRoll_32 rfl (lv_at hl 0 rfl) ?_
      obtain ⟨a4, e1, hw⟩ := hw
      have p_a4 : pI S 12 a4 := wf_r P.2.2.2.1 p_a0 e1
      refine gf_2_3 C P p_a0 e1 q_172 dX2_insertByRoll_33 ?_
      refine lv_iload_n hx hb dX2_insertByRoll_36 rfl (lv_at hl 2 rfl) ?_
      refine lv_aload_n hx hb dX2_insertByRoll_37 rfl (lv_at hl 0 rfl) ?_
      obtain ⟨a5, e1, hw⟩ := hw
      have p_a5 : pI S 12 a5 := wf_r P.2.2.2.1 p_a0 e1
      refine gf_2_3 C P p_a0 e1 q_172 dX2_insertByRoll_38 ?_
      refine lv_iload_n hx hb dX2_insertByRoll_41 rfl (lv_at hl 2 rfl) ?_
      refine lv_iconst (v := 1) hx hb dX2_insertByRoll_42 (by decide) ?_
      refine lv_isub hx hb dX2_insertByRoll_43 ?_
      obtain ⟨h1, hw⟩ := hw
      refine ra_i C P p_a5 h1 dX2_insertByRoll_44 ?_
      obtain ⟨h1, hw⟩ := hw
      refine rs_i C P p_a4 h1 dX2_insertByRoll_45 (fun H locs P => ?_)
      obtain ⟨S6, hS⟩ : ∃ z, z = (sI S a4 (y2 : Int32).toNatClampNeg (mI S a5 ((y2 - 1) : Int32).toNatClampNeg)) := ⟨_, rfl⟩
      have P : PW G A s H locs S0 S6 := by rw [hS]; exact P
      have p_a0 : pI S6 2 a0 := by rw [hS]; exact pI_x ext_sI p_a0
      have p_u1 : pI S6 7 u1 := by rw [hS]; exact pI_x ext_sI p_u1
      have p_a4 : pI S6 12 a4 := by rw [hS]; exact pI_x ext_sI p_a4
      have hw := hw S6 hS
      refine lv_iinc (v := (y2 + (-1))) (lv' := [(2, .int (y2 + (-1))), (0, .ref a0), (1, .ref u1)]) hx hb dX2_insertByRoll_46 hl (k := 2) rfl (by rfl) (by decide) rfl (fun ls hl => ?_)
      refine lv_goto (tgt := 5) hx hb dX2_insertByRoll_49 (by decide) ?_
      exact kh5 S6 a0 u1 (y2 + (-1)) _ _ _ _ _ p_a0 p_u1 P (lv_sub hl [1, 2, 0] rfl) (by omega) (by omega) hw
def lX2_insertByRoll_5 (Q : MS → Prop) (QX : String → MS → Prop) : Nat → MS → Nat → Nat → Int32 → Prop
  | 0 => fun _ _ _ _ => False
  | n + 1 => fun S a0 u1 y2 => wX2_insertByRoll_5 Q QX (lX2_insertByRoll_5 Q QX n) S a0 u1 y2
theorem tlX2_insertByRoll_5 {p : Program} {l : Launch} {e : Env} {s : State} {m : MethodId} {args : Array Value} {below : List Frame} {meth : Method} {c : Code} {G : GP} {A : Nat → Prop} {S0 : MS} (C : CF p l s m args meth c "SkirmishGrid$Fight" cX2_insertByRoll 3 G A) (hr : meth.sig.returnType = none) (hex : ∀ x ∈ c.exceptionTable.toList, False) (Q : MS → Prop) (QX : String → MS → Prop) : ∀ (n : Nat), ∀ (S : MS) (a0 : Nat) (u1 : Nat) (y2 : Int32) (cells slots : Nat) (H : Heap) (locs : List Loc) (ls : Array Slot), pI S 2 a0 → pI S 7 u1 → PW G A s H locs S0 S → lv_has ls 3 [(0, .ref a0), (1, .ref u1), (2, .int y2)] → cells + 0 ≤ 0 → slots + 0 ≤ 0 → lX2_insertByRoll_5 Q QX n S a0 u1 y2 → W p l e rmX2_insertByRoll s m args below meth c H locs cells slots (vx_MQ below (QV G S0 A Q) (XX G S0 A QX) args s 0 0 A) (F0 m 5 ls []) := by
  intro n
  induction n with
  | zero => intro S a0 u1 y2 cells slots H locs ls p_a0 p_u1 P hl hcc hss hw; exact hw.elim
  | succ n ih => intro S a0 u1 y2 cells slots H locs ls p_a0 p_u1 P hl hcc hss hw; exact tX2_insertByRoll_5 C hr hex Q QX (lX2_insertByRoll_5 Q QX n) ih S a0 u1 y2 p_a0 p_u1 P hl hcc hss hw
def wX2_insertByRoll_0 (Q : MS → Prop) (QX : String → MS → Prop) (S : MS) (a0 : Nat) (b1 : Nat) : Prop := (∃ n, lX2_insertByRoll_5 Q QX n S a0 b1 (mI S a0 4))
set_option maxHeartbeats 4000000 in
set_option maxRecDepth 100000 in
theorem tX2_insertByRoll_0 {p : Program} {l : Launch} {e : Env} {s : State} {m : MethodId} {args : Array Value} {below : List Frame} {meth : Method} {c : Code} {H : Heap} {locs : List Loc} {cells slots : Nat} {G : GP} {A : Nat → Prop} {S0 : MS} {ls : Array Slot} (C : CF p l s m args meth c "SkirmishGrid$Fight" cX2_insertByRoll 3 G A) (hr : meth.sig.returnType = none) (hex : ∀ x ∈ c.exceptionTable.toList, False) (Q : MS → Prop) (QX : String → MS → Prop) (S : MS) (a0 : Nat) (b1 : Nat) (p_a0 : pI S 2 a0) (p_b1 : pI S 7 b1) (P : PW G A s H locs S0 S) (hl : lv_has ls 3 [(0, .ref a0), (1, .ref b1)]) (hcc : cells + 0 ≤ 0) (hss : slots + 0 ≤ 0) (hw : wX2_insertByRoll_0 Q QX S a0 b1) : W p l e rmX2_insertByRoll s m args below meth c H locs cells slots (vx_MQ below (QV G S0 A Q) (XX G S0 A QX) args s 0 0 A) (F0 m 0 ls []) := by
  have hx := CF_x C
  have hb := CF_b C
  unfold wX2_insertByRoll_0 at hw
  refine lv_aload_n hx hb dX2_insertByRoll_0 rfl (lv_at hl 0 rfl) ?_
  refine gf_2_4 C P p_a0 q_174 dX2_insertByRoll_1 ?_
  refine lv_istore_n (lv' := [(2, .int (mI S a0 4)), (0, .ref a0), (1, .ref b1)]) hx hb dX2_insertByRoll_4 rfl hl (by decide) rfl (fun ls hl => ?_)
  obtain ⟨n, hw⟩ := hw
  exact tlX2_insertByRoll_5 C hr hex Q QX n S a0 b1 (mI S a0 4) _ _ _ _ _ p_a0 p_b1 P (lv_sub hl [1, 2, 0] rfl) (by omega) (by omega) hw
def wp_X2_insertByRoll (Q : MS → Prop) (QX : String → MS → Prop) (S : MS) (a0 : Nat) (b1 : Nat) : Prop := wX2_insertByRoll_0 Q QX S a0 b1
set_option maxHeartbeats 4000000 in
set_option maxRecDepth 100000 in
theorem met_X2_insertByRoll {l : Launch} (hst : l.stackTraces = false) (G : GP) (sz : Nat) (Q : MS → Prop) (QX : String → MS → Prop) (S : MS) (a0 : Nat) (b1 : Nat) (p_a0 : pI S 2 a0) (p_b1 : pI S 7 b1) (hw : wp_X2_insertByRoll Q QX S a0 b1) : vx_Met l yX2_insertByRoll (.code yX2_insertByRoll cX2_insertByRoll 3 none :: GW) rmX2_insertByRoll (va_Pc [.ref a0, .ref b1] (PR G S sz)) (QV G S (FA G S sz) Q) (XX G S (FA G S sz) QX) 0 0 (FA G S sz) := by
  refine st_m (by decide +kernel) hst (fun p e s m below meth c C hr hnm hex P => ?_)
  refine en_m (Nat.le_of_ble_eq_true rfl) (lv := [(0, .ref a0), (1, .ref b1)]) rfl (fun ls hl => ?_)
  have C : CF p l s m _ meth c "SkirmishGrid$Fight" cX2_insertByRoll 3 G (FA G S sz) := C
  exact tX2_insertByRoll_0 C hr hex Q QX S a0 b1 p_a0 p_b1 P hl (by omega) (by omega) hw
theorem cd_X2_insertByRoll : yX2_insertByRoll.cls = RX2 ∧ yX2_insertByRoll.cls ≠ "java/lang/invoke/MethodHandle" ∧ yX2_insertByRoll.cls ≠ "java/lang/invoke/VarHandle" ∧ (parseMethodDescriptor yX2_insertByRoll.desc).map (fun d => d.parameters.length) = some 1 := by decide +kernel
abbrev rmX2_beginRound : Room := { frames := 2, cells := 0, slots := 0, locals := 83 }
def wX2_beginRound_36 (Q : MS → Prop) (QX : String → MS → Prop) (k36 : MS → Nat → Int32 → Prop) (S : MS) (a0 : Nat) (y1 : Int32) : Prop := (((mI S a0 2) ≤ y1 → Q S) ∧ (¬ (mI S a0 2) ≤ y1 → (∃ a1, mR S a0 1 = some a1 ∧ (vp_in y1 (mN S a1) ∧ (∃ a2, mR S a1 (y1 : Int32).toNatClampNeg = some a2 ∧ (∀ S3, S3 = (sI S a2 8 0) → wp_X7_lives (fun r5 S4 => ((r5 = 0 → k36 S4 a0 (y1 + 1)) ∧ (¬ r5 = 0 → wp_X2_rollDie (fun r7 S6 => (vp_in (mI S6 a2 2) 4 ∧ (∀ S9, S9 = (sI S6 a2 8 (r7 + (tbI 5 (mI S6 a2 2)))) → wp_X2_insertByRoll (fun S10 => k36 S10 a0 (y1 + 1)) QX S9 a0 a2))) QX S4 a0 6))) QX S3 a2))))))
set_option maxHeartbeats 4000000 in
set_option maxRecDepth 100000 in
theorem tX2_beginRound_36 {p : Program} {l : Launch} {e : Env} {s : State} {m : MethodId} {args : Array Value} {below : List Frame} {meth : Method} {c : Code} {H : Heap} {locs : List Loc} {cells slots : Nat} {G : GP} {A : Nat → Prop} {S0 : MS} {ls : Array Slot} (C : CF p l s m args meth c "SkirmishGrid$Fight" cX2_beginRound 3 G A) (hr : meth.sig.returnType = none) (hex : ∀ x ∈ c.exceptionTable.toList, False) (Q : MS → Prop) (QX : String → MS → Prop) (k36 : MS → Nat → Int32 → Prop) (kh36 : ∀ (S : MS) (a0 : Nat) (y1 : Int32) (cells slots : Nat) (H : Heap) (locs : List Loc) (ls : Array Slot), pI S 2 a0 → PW G A s H locs S0 S → lv_has ls 3 [(0, .ref a0), (1, .int y1)] → cells + 0 ≤ 0 → slots + 0 ≤ 0 → k36 S a0 y1 → W p l e rmX2_beginRound s m args below meth c H locs cells slots (vx_MQ below (QV G S0 A Q) (XX G S0 A QX) args s 0 0 A) (F0 m 36 ls [])) (S : MS) (a0 : Nat) (y1 : Int32) (p_a0 : pI S 2 a0) (P : PW G A s H locs S0 S) (hl : lv_has ls 3 [(0, .ref a0), (1, .int y1)]) (hcc : cells + 0 ≤ 0) (hss : slots + 0 ≤ 0) (hw : wX2_beginRound_36 Q QX k36 S a0 y1) : W p l e rmX2_beginRound s m args below meth c H locs cells slots (vx_MQ below (QV G S0 A Q) (XX G S0 A QX) args s 0 0 A) (F0 m 36 ls []) := by
  have hx := CF_x C
  have hb := CF_b C
  unfold wX2_beginRound_36 at hw
  refine lv_iload_n hx hb dX2_beginRound_36 rfl (lv_at hl 1 rfl) ?_
  refine lv_aload_n hx hb dX2_beginRound_37 rfl (lv_at hl 0 rfl) ?_
  refine gf_2_2 C P p_a0 q_168 dX2_beginRound_38 ?_
  refine lv_icmp_ge (tgt := 93) hx hb dX2_beginRound_41 (by decide) (fun hc => ?_) (fun hc => ?_)
  · have hw := hw.1 hc
    exact e_v C hr P hw (by omega) (by omega) dX2_beginRound_93
  · have hw := hw.2 hc
    refine lv_aload_n hx hb dX2_beginRound_44 rfl (lv_at hl 0 rfl) ?_
    obtain ⟨a1, e1, hw⟩ := hw
    have p_a1 : pI S 15 a1 := wf_r P.2.2.2.1 p_a0 e1
    refine gf_2_1 C P p_a0 e1 q_164 dX2_beginRound_45 ?_
    refine lv_iload_n hx hb dX2_beginRound_48 rfl (lv_at hl 1 rfl) ?_
    obtain ⟨h1, hw⟩ := hw
    obtain ⟨a2, e1, hw⟩ := hw
    have p_a2 : pI S 7 a2 := wf_r P.2.2.2.1 p_a1 e1
    refine ra_a5 C P p_a1 h1 e1 dX2_beginRound_49 ?_
    refine lv_astore_n (lv' := [(2, .ref a2), (0, .ref a0), (1, .int y1)]) hx hb dX2_beginRound_50 rfl hl (by decide) rfl (fun ls hl => ?_)
    refine lv_aload_n hx hb dX2_beginRound_51 rfl (lv_at hl 0 rfl) ?_
    refine lv_iconst (v := 0) hx hb dX2_beginRound_52 (by decide) ?_
    refine pf_7_8 C P p_a2 q_121 dX2_beginRound_53 (fun H locs P => ?_)
    obtain ⟨S3, hS⟩ : ∃ z, z = (sI S a2 8 0) := ⟨_, rfl⟩
    have P : PW G A s H locs S0 S3 := by rw [hS]; exact P
    have p_a0 : pI S3 2 a0 := by rw [hS]; exact pI_x ext_sI p_a0
    have p_a2 : pI S3 7 a2 := by rw [hS]; exact pI_x ext_sI p_a2
    have hw := hw S3 hS
    refine lv_aload_n hx hb dX2_beginRound_56 rfl (lv_at hl 0 rfl) ?_
    refine cl_i C P (run_V C P hl.1 (kd := 7) (met_X7_lives (CF_n C) G H.size _ _ S3 a2 p_a2 hw) p_a2 (by decide) rfl q_355 q_356 q_357 q_5 q_358 cd_X7_lives ⟨(Nat.le_of_ble_eq_true rfl), (Nat.le_of_ble_eq_true rfl)⟩ rfl rfl (As := []) (rest := []) rfl rfl (Nat.le_of_ble_eq_true rfl) dX2_beginRound_57 ⟨by show cells + 0 ≤ 0; omega, by show slots + 0 ≤ 0; omega⟩) (kx_out C hex (fun _ _ _ h => h) (by omega) (by omega)) (fun r5 S4 H locs P hE hw => ?_)
    have p_a0 : pI S4 2 a0 := pI_x hE p_a0
    have p_a2 : pI S4 7 a2 := pI_x hE p_a2
    refine lv_if_eq (tgt := 87) hx hb dX2_beginRound_60 (by decide) (fun hc => ?_) (fun hc => ?_)
    · have hw := hw.1 hc
      refine lv_iinc (v := (y1 + 1)) (lv' := [(1, .int (y1 + 1)), (2, .ref a2), (0, .ref a0)]) hx hb dX2_beginRound_87 hl (k := 2) rfl (by rfl) (by decide) rfl (fun ls hl => ?_)
      refine lv_goto (tgt := 36) hx hb dX2_beginRound_90 (by decide) ?_
      exact kh36 S4 a0 (y1 + 1) _ _ _ _ _ p_a0 P (lv_sub hl [2, 0] rfl) (by omega) (by omega) hw
    · have hw := hw.2 hc
      refine lv_aload_n hx hb dX2_beginRound_63 rfl (lv_at hl 0 rfl) ?_
      refine lv_aload_n hx hb dX2_beginRound_64 rfl (lv_at hl 1 rfl) ?_
      refine lv_bipush (v := 6) hx hb dX2_beginRound_65 (by decide) ?_
      refine cl_i C P (run_V C P hl.1 (kd := 2) (met_X2_rollDie (CF_n C) G H.size _ _ S4 a0 6 p_a0 hw) p_a0 (by decide) rfl q_847 q_849 q_p5 q_2 q_850 cd_X2_rollDie ⟨(Nat.le_of_ble_eq_true rfl), (Nat.le_of_ble_eq_true rfl)⟩ rfl rfl (As := [.int 6]) (rest := [.ref a2]) rfl rfl (Nat.le_of_ble_eq_true rfl) dX2_beginRound_67 ⟨by show cells + 0 ≤ 0; omega, by show slots + 0 ≤ 0; omega⟩) (kx_out C hex (fun _ _ _ h => h) (by omega) (by omega)) (fun r7 S6 H locs P hE hw => ?_)
      have p_a0 : pI S6 2 a0 := pI_x hE p_a0
      have p_a2 : pI S6 7 a2 := pI_x hE p_a2
      refine rt_gN C P (i := 5) (by decide) rfl (List.mem_of_getElem? (i := 3) rfl) dX2_beginRound_70 (fun t8 ht8 => ?_)
      refine lv_aload_n hx hb dX2_beginRound_73 rfl (lv_at hl 0 rfl) ?_
      refine gf_7_2 C P p_a2 q_101 dX2_beginRound_74 ?_
      obtain ⟨h1, hw⟩ := hw
      refine rt_l (i := 5) C P ht8 h1 dX2_beginRound_77 ?_
      refine lv_iadd hx hb dX2_beginRound_78 ?_
      refine pf_7_8 C P p_a2 q_121 dX2_beginRound_79 (fun H locs P => ?_)
      obtain ⟨S9, hS⟩ : ∃ z, z = (sI S6 a2 8 (r7 + (tbI 5 (mI S6 a2 2)))) := ⟨_, rfl⟩
      have P : PW G A s H locs S0 S9 := by rw [hS]; exact P
      have p_a0 : pI S9 2 a0 := by rw [hS]; exact pI_x ext_sI p_a0
      have p_a2 : pI S9 7 a2 := by rw [hS]; exact pI_x ext_sI p_a2
      have hw := hw S9 hS
      refine lv_aload_n hx hb dX2_beginRound_82 rfl (lv_at hl 1 rfl) ?_
      refine lv_aload_n hx hb dX2_beginRound_83 rfl (lv_at hl 0 rfl) ?_
      refine cl_v C P (run_V C P hl.1 (kd := 2) (met_X2_insertByRoll (CF_n C) G H.size _ _ S9 a0 a2 p_a0 p_a2 hw) p_a0 (by decide) rfl q_854 q_856 q_p6 q_2 q_857 cd_X2_insertByRoll ⟨(Nat.le_of_ble_eq_true rfl), (Nat.le_of_ble_eq_true rfl)⟩ rfl rfl (As := [.ref a2]) (rest := []) rfl rfl (Nat.le_of_ble_eq_true rfl) dX2_beginRound_84 ⟨by show cells + 0 ≤ 0; omega, by show slots + 0 ≤ 0; omega⟩) (kx_out C hex (fun _ _ _ h => h) (by omega) (by omega)) (fun S10 H locs P hE hw => ?_)
      have p_a0 : pI S10 2 a0 := pI_x hE p_a0
      have p_a2 : pI S10 7 a2 := pI_x hE p_a2
      refine lv_iinc (v := (y1 + 1)) (lv' := [(1, .int (y1 + 1)), (2, .ref a2), (0, .ref a0)]) hx hb dX2_beginRound_87 hl (k := 2) rfl (by rfl) (by decide) rfl (fun ls hl => ?_)
      refine lv_goto (tgt := 36) hx hb dX2_beginRound_90 (by decide) ?_
      exact kh36 S10 a0 (y1 + 1) _ _ _ _ _ p_a0 P (lv_sub hl [2, 0] rfl) (by omega) (by omega) hw
def lX2_beginRound_36 (Q : MS → Prop) (QX : String → MS → Prop) : Nat → MS → Nat → Int32 → Prop
  | 0 => fun _ _ _ => False
  | n + 1 => fun S a0 y1 => wX2_beginRound_36 Q QX (lX2_beginRound_36 Q QX n) S a0 y1
theorem tlX2_beginRound_36 {p : Program} {l : Launch} {e : Env} {s : State} {m : MethodId} {args : Array Value} {below : List Frame} {meth : Method} {c : Code} {G : GP} {A : Nat → Prop} {S0 : MS} (C : CF p l s m args meth c "SkirmishGrid$Fight" cX2_beginRound 3 G A) (hr : meth.sig.returnType = none) (hex : ∀ x ∈ c.exceptionTable.toList, False) (Q : MS → Prop) (QX : String → MS → Prop) : ∀ (n : Nat), ∀ (S : MS) (a0 : Nat) (y1 : Int32) (cells slots : Nat) (H : Heap) (locs : List Loc) (ls : Array Slot), pI S 2 a0 → PW G A s H locs S0 S → lv_has ls 3 [(0, .ref a0), (1, .int y1)] → cells + 0 ≤ 0 → slots + 0 ≤ 0 → lX2_beginRound_36 Q QX n S a0 y1 → W p l e rmX2_beginRound s m args below meth c H locs cells slots (vx_MQ below (QV G S0 A Q) (XX G S0 A QX) args s 0 0 A) (F0 m 36 ls []) := by
  intro n
  induction n with
  | zero => intro S a0 y1 cells slots H locs ls p_a0 P hl hcc hss hw; exact hw.elim
  | succ n ih => intro S a0 y1 cells slots H locs ls p_a0 P hl hcc hss hw; exact tX2_beginRound_36 C hr hex Q QX (lX2_beginRound_36 Q QX n) ih S a0 y1 p_a0 P hl hcc hss hw
def wX2_beginRound_0 (Q : MS → Prop) (QX : String → MS → Prop) (S : MS) (a0 : Nat) : Prop := (∀ S1, S1 = (sI S a0 8 ((mI S a0 8) + 1)) → (∃ a2, mR S1 a0 11 = some a2 ∧ wp_X1_note (fun S3 => (∀ S4, S4 = (sI S3 a0 4 0) → (∀ S5, S5 = (sI S4 a0 5 (-1)) → (∃ n, lX2_beginRound_36 Q QX n S5 a0 0)))) QX S1 a2 9 (-1) (mI S1 a0 8)))
set_option maxHeartbeats 4000000 in
set_option maxRecDepth 100000 in
theorem tX2_beginRound_0 {p : Program} {l : Launch} {e : Env} {s : State} {m : MethodId} {args : Array Value} {below : List Frame} {meth : Method} {c : Code} {H : Heap} {locs : List Loc} {cells slots : Nat} {G : GP} {A : Nat → Prop} {S0 : MS} {ls : Array Slot} (C : CF p l s m args meth c "SkirmishGrid$Fight" cX2_beginRound 3 G A) (hr : meth.sig.returnType = none) (hex : ∀ x ∈ c.exceptionTable.toList, False) (Q : MS → Prop) (QX : String → MS → Prop) (S : MS) (a0 : Nat) (p_a0 : pI S 2 a0) (P : PW G A s H locs S0 S) (hl : lv_has ls 3 [(0, .ref a0)]) (hcc : cells + 0 ≤ 0) (hss : slots + 0 ≤ 0) (hw : wX2_beginRound_0 Q QX S a0) : W p l e rmX2_beginRound s m args below meth c H locs cells slots (vx_MQ below (QV G S0 A Q) (XX G S0 A QX) args s 0 0 A) (F0 m 0 ls []) := by
  have hx := CF_x C
  have hb := CF_b C
  unfold wX2_beginRound_0 at hw
  refine lv_aload_n hx hb dX2_beginRound_0 rfl (lv_at hl 0 rfl) ?_
  refine lv_dup hx hb dX2_beginRound_1 rfl ?_
  refine gf_2_8 C P p_a0 q_181 dX2_beginRound_2 ?_
  refine lv_iconst (v := 1) hx hb dX2_beginRound_5 (by decide) ?_
  refine lv_iadd hx hb dX2_beginRound_6 ?_
  refine pf_2_8 C P p_a0 q_181 dX2_beginRound_7 (fun H locs P => ?_)
  obtain ⟨S1, hS⟩ : ∃ z, z = (sI S a0 8 ((mI S a0 8) + 1)) := ⟨_, rfl⟩
  have P : PW G A s H locs S0 S1 := by rw [hS]; exact P
  have p_a0 : pI S1 2 a0 := by rw [hS]; exact pI_x ext_sI p_a0
  have hw := hw S1 hS
  refine lv_aload_n hx hb dX2_beginRound_10 rfl (lv_at hl 0 rfl) ?_
  obtain ⟨a2, e1, hw⟩ := hw
  have p_a2 : pI S1 1 a2 := wf_r P.2.2.2.1 p_a0 e1
  refine gf_2_11 C P p_a0 e1 q_185 dX2_beginRound_11 ?_
  refine lv_bipush (v := 9) hx hb dX2_beginRound_14 (by decide) ?_
  refine lv_iconst (v := (-1)) hx hb dX2_beginRound_16 (by decide) ?_
  refine lv_aload_n hx hb dX2_beginRound_17 rfl (lv_at hl 0 rfl) ?_
  refine gf_2_8 C P p_a0 q_181 dX2_beginRound_18 ?_
  refine cl_v C P (run_V C P hl.1 (kd := 1) (met_X1_note (CF_n C) G H.size _ _ S1 a2 9 (-1) (mI S1 a0 8) p_a2 hw) p_a2 (by decide) rfl q_843 q_844 q_845 q_4 q_846 cd_X1_note ⟨(Nat.le_of_ble_eq_true rfl), (Nat.le_of_ble_eq_true rfl)⟩ rfl rfl (As := [.int 9, .int (-1), .int (mI S1 a0 8)]) (rest := []) rfl rfl (Nat.le_of_ble_eq_true rfl) dX2_beginRound_21 ⟨by show cells + 0 ≤ 0; omega, by show slots + 0 ≤ 0; omega⟩) (kx_out C hex (fun _ _ _ h => h) (by omega) (by omega)) (fun S3 H locs P hE hw => ?_)
  have p_a0 : pI S3 2 a0 := pI_x hE p_a0
  have p_a2 : pI S3 1 a2 := pI_x hE p_a2
  refine lv_aload_n hx hb dX2_beginRound_24 rfl (lv_at hl 0 rfl) ?_
  refine lv_iconst (v := 0) hx hb dX2_beginRound_25 (by decide) ?_
  refine pf_2_4 C P p_a0 q_174 dX2_beginRound_26 (fun H locs P => ?_)
  obtain ⟨S4, hS⟩ : ∃ z, z = (sI S3 a0 4 0) := ⟨_, rfl⟩
  have P : PW G A s H locs S0 S4 := by rw [hS]; exact P
  have p_a0 : pI S4 2 a0 := by rw [hS]; exact pI_x ext_sI p_a0
  have hw := hw S4 hS
  refine lv_aload_n hx hb dX2_beginRound_29 rfl (lv_at hl 0 rfl) ?_
  refine lv_iconst (v := (-1)) hx hb dX2_beginRound_30 (by decide) ?_
  refine pf_2_5 C P p_a0 q_176 dX2_beginRound_31 (fun H locs P => ?_)
  obtain ⟨S5, hS⟩ : ∃ z, z = (sI S4 a0 5 (-1)) := ⟨_, rfl⟩
  have P : PW G A s H locs S0 S5 := by rw [hS]; exact P
  have p_a0 : pI S5 2 a0 := by rw [hS]; exact pI_x ext_sI p_a0
  have hw := hw S5 hS
  refine lv_iconst (v := 0) hx hb dX2_beginRound_34 (by decide) ?_
  refine lv_istore_n (lv' := [(1, .int 0), (0, .ref a0)]) hx hb dX2_beginRound_35 rfl hl (by decide) rfl (fun ls hl => ?_)
  obtain ⟨n, hw⟩ := hw
  exact tlX2_beginRound_36 C hr hex Q QX n S5 a0 0 _ _ _ _ _ p_a0 P (lv_sub hl [1, 0] rfl) (by omega) (by omega) hw
def wp_X2_beginRound (Q : MS → Prop) (QX : String → MS → Prop) (S : MS) (a0 : Nat) : Prop := wX2_beginRound_0 Q QX S a0
set_option maxHeartbeats 4000000 in
set_option maxRecDepth 100000 in
theorem met_X2_beginRound {l : Launch} (hst : l.stackTraces = false) (G : GP) (sz : Nat) (Q : MS → Prop) (QX : String → MS → Prop) (S : MS) (a0 : Nat) (p_a0 : pI S 2 a0) (hw : wp_X2_beginRound Q QX S a0) : vx_Met l yX2_beginRound (.code yX2_beginRound cX2_beginRound 3 none :: GW) rmX2_beginRound (va_Pc [.ref a0] (PR G S sz)) (QV G S (FA G S sz) Q) (XX G S (FA G S sz) QX) 0 0 (FA G S sz) := by
  refine st_m (by decide +kernel) hst (fun p e s m below meth c C hr hnm hex P => ?_)
  refine en_m (Nat.le_of_ble_eq_true rfl) (lv := [(0, .ref a0)]) rfl (fun ls hl => ?_)
  have C : CF p l s m _ meth c "SkirmishGrid$Fight" cX2_beginRound 3 G (FA G S sz) := C
  exact tX2_beginRound_0 C hr hex Q QX S a0 p_a0 P hl (by omega) (by omega) hw
theorem cd_X2_beginRound : yX2_beginRound.cls = RX2 ∧ yX2_beginRound.cls ≠ "java/lang/invoke/MethodHandle" ∧ yX2_beginRound.cls ≠ "java/lang/invoke/VarHandle" ∧ (parseMethodDescriptor yX2_beginRound.desc).map (fun d => d.parameters.length) = some 0 := by decide +kernel
abbrev rmX2_beginTurn : Room := { frames := 2, cells := 0, slots := 0, locals := 83 }
def wX2_beginTurn_43 (Q : MS → Prop) (QX : String → MS → Prop) (S : MS) (a0 : Nat) (u1 : Nat) : Prop := wp_X7_lives (fun r2 S1 => ((r2 = 0 → (∃ a3, mR S1 a0 11 = some a3 ∧ wp_X1_note (fun S4 => Q S4) QX S1 a3 4 (mI S1 u1 0) 0)) ∧ (¬ r2 = 0 → (∀ S5, S5 = (sI S1 a0 6 (mI S1 u1 0)) → (((mI S5 u1 9) ≤ 0 → (∀ S6, S6 = (sI S5 a0 7 2) → Q S6)) ∧ (¬ (mI S5 u1 9) ≤ 0 → (∀ S7, S7 = (sI S5 a0 7 0) → Q S7))))))) QX S u1
set_option maxHeartbeats 4000000 in
set_option maxRecDepth 100000 in
theorem tX2_beginTurn_43 {p : Program} {l : Launch} {e : Env} {s : State} {m : MethodId} {args : Array Value} {below : List Frame} {meth : Method} {c : Code} {H : Heap} {locs : List Loc} {cells slots : Nat} {G : GP} {A : Nat → Prop} {S0 : MS} {ls : Array Slot} (C : CF p l s m args meth c "SkirmishGrid$Fight" cX2_beginTurn 2 G A) (hr : meth.sig.returnType = none) (hex : ∀ x ∈ c.exceptionTable.toList, False) (Q : MS → Prop) (QX : String → MS → Prop) (S : MS) (a0 : Nat) (u1 : Nat) (p_a0 : pI S 2 a0) (p_u1 : pI S 7 u1) (P : PW G A s H locs S0 S) (hl : lv_has ls 2 [(0, .ref a0), (1, .ref u1)]) (hcc : cells + 0 ≤ 0) (hss : slots + 0 ≤ 0) (hw : wX2_beginTurn_43 Q QX S a0 u1) : W p l e rmX2_beginTurn s m args below meth c H locs cells slots (vx_MQ below (QV G S0 A Q) (XX G S0 A QX) args s 0 0 A) (F0 m 43 ls []) := by
  have hx := CF_x C
  have hb := CF_b C
  unfold wX2_beginTurn_43 at hw
  refine lv_aload_n hx hb dX2_beginTurn_43 rfl (lv_at hl 1 rfl) ?_
  refine cl_i C P (run_V C P hl.1 (kd := 7) (met_X7_lives (CF_n C) G H.size _ _ S u1 p_u1 hw) p_u1 (by decide) rfl q_355 q_356 q_357 q_5 q_358 cd_X7_lives ⟨(Nat.le_of_ble_eq_true rfl), (Nat.le_of_ble_eq_true rfl)⟩ rfl rfl (As := []) (rest := []) rfl rfl (Nat.le_of_ble_eq_true rfl) dX2_beginTurn_44 ⟨by show cells + 0 ≤ 0; omega, by show slots + 0 ≤ 0; omega⟩) (kx_out C hex (fun _ _ _ h => h) (by omega) (by omega)) (fun r2 S1 H locs P hE hw => ?_)
  have p_a0 : pI S1 2 a0 := pI_x hE p_a0
  have p_u1 : pI S1 7 u1 := pI_x hE p_u1
  refine lv_if_eq (tgt := 77) hx hb dX2_beginTurn_47 (by decide) (fun hc => ?_) (fun hc => ?_)
  · have hw := hw.1 hc
    refine lv_aload_n hx hb dX2_beginTurn_77 rfl (lv_at hl 0 rfl) ?_
    obtain ⟨a3, e1, hw⟩ := hw
    have p_a3 : pI S1 1 a3 := wf_r P.2.2.2.1 p_a0 e1
    refine gf_2_11 C P p_a0 e1 q_185 dX2_beginTurn_78 ?_
    refine lv_iconst (v := 4) hx hb dX2_beginTurn_81 (by decide) ?_
    refine lv_aload_n hx hb dX2_beginTurn_82 rfl (lv_at hl 1 rfl) ?_
    refine gf_7_0 C P p_u1 q_95 dX2_beginTurn_83 ?_
    refine lv_iconst (v := 0) hx hb dX2_beginTurn_86 (by decide) ?_
    refine cl_v C P (run_V C P hl.1 (kd := 1) (met_X1_note (CF_n C) G H.size _ _ S1 a3 4 (mI S1 u1 0) 0 p_a3 hw) p_a3 (by decide) rfl q_843 q_844 q_845 q_4 q_846 cd_X1_note ⟨(Nat.le_of_ble_eq_true rfl), (Nat.le_of_ble_eq_true rfl)⟩ rfl rfl (As := [.int 4, .int (mI S1 u1 0), .int 0]) (rest := []) rfl rfl (Nat.le_of_ble_eq_true rfl) dX2_beginTurn_87 ⟨by show cells + 0 ≤ 0; omega, by show slots + 0 ≤ 0; omega⟩) (kx_out C hex (fun _ _ _ h => h) (by omega) (by omega)) (fun S4 H locs P hE hw => ?_)
    have p_a3 : pI S4 1 a3 := pI_x hE p_a3
    exact e_v C hr P hw (by omega) (by omega) dX2_beginTurn_90
  · have hw := hw.2 hc
    refine lv_aload_n hx hb dX2_beginTurn_50 rfl (lv_at hl 0 rfl) ?_
    refine lv_aload_n hx hb dX2_beginTurn_51 rfl (lv_at hl 1 rfl) ?_
    refine gf_7_0 C P p_u1 q_95 dX2_beginTurn_52 ?_
    refine pf_2_6 C P p_a0 q_177 dX2_beginTurn_55 (fun H locs P => ?_)
    obtain ⟨S5, hS⟩ : ∃ z, z = (sI S1 a0 6 (mI S1 u1 0)) := ⟨_, rfl⟩
    have P : PW G A s H locs S0 S5 := by rw [hS]; exact P
    have p_a0 : pI S5 2 a0 := by rw [hS]; exact pI_x ext_sI p_a0
    have p_u1 : pI S5 7 u1 := by rw [hS]; exact pI_x ext_sI p_u1
    have hw := hw S5 hS
    refine lv_aload_n hx hb dX2_beginTurn_58 rfl (lv_at hl 0 rfl) ?_
    refine lv_aload_n hx hb dX2_beginTurn_59 rfl (lv_at hl 1 rfl) ?_
    refine gf_7_9 C P p_u1 q_124 dX2_beginTurn_60 ?_
    refine lv_if_le (tgt := 70) hx hb dX2_beginTurn_63 (by decide) (fun hc => ?_) (fun hc => ?_)
    · have hw := hw.1 hc
      refine lv_iconst (v := 2) hx hb dX2_beginTurn_70 (by decide) ?_
      refine pf_2_7 C P p_a0 q_179 dX2_beginTurn_71 (fun H locs P => ?_)
      obtain ⟨S6, hS⟩ : ∃ z, z = (sI S5 a0 7 2) := ⟨_, rfl⟩
      have P : PW G A s H locs S0 S6 := by rw [hS]; exact P
      have p_a0 : pI S6 2 a0 := by rw [hS]; exact pI_x ext_sI p_a0
      have hw := hw S6 hS
      refine lv_goto (tgt := 90) hx hb dX2_beginTurn_74 (by decide) ?_
      exact e_v C hr P hw (by omega) (by omega) dX2_beginTurn_90
    · have hw := hw.2 hc
      refine lv_iconst (v := 0) hx hb dX2_beginTurn_66 (by decide) ?_
      refine lv_goto (tgt := 71) hx hb dX2_beginTurn_67 (by decide) ?_
      refine pf_2_7 C P p_a0 q_179 dX2_beginTurn_71 (fun H locs P => ?_)
      obtain ⟨S7, hS⟩ : ∃ z, z = (sI S5 a0 7 0) := ⟨_, rfl⟩
      have P : PW G A s H locs S0 S7 := by rw [hS]; exact P
      have p_a0 : pI S7 2 a0 := by rw [hS]; exact pI_x ext_sI p_a0
      have hw := hw S7 hS
      refine lv_goto (tgt := 90) hx hb dX2_beginTurn_74 (by decide) ?_
      exact e_v C hr P hw (by omega) (by omega) dX2_beginTurn_90
def wX2_beginTurn_0 (Q : MS → Prop) (QX : String → MS → Prop) (S : MS) (a0 : Nat) (b1 : Nat) : Prop := wp_X7_lives (fun r2 S1 => ((¬ r2 = 0 → (∀ S3, S3 = (sI S1 b1 11 0) → (∀ S4, S4 = (sI S3 b1 12 0) → (((mI S4 b1 10) ≤ 0 → wX2_beginTurn_43 Q QX S4 a0 b1) ∧ (¬ (mI S4 b1 10) ≤ 0 → wp_X7_lose (fun S5 => (∃ a6, mR S5 a0 11 = some a6 ∧ wp_X1_note (fun S7 => wX2_beginTurn_43 Q QX S7 a0 b1) QX S5 a6 5 (mI S5 b1 0) 2)) QX S4 b1 2))))) ∧ (r2 = 0 → Q S1))) QX S b1
set_option maxHeartbeats 4000000 in
set_option maxRecDepth 100000 in
theorem tX2_beginTurn_0 {p : Program} {l : Launch} {e : Env} {s : State} {m : MethodId} {args : Array Value} {below : List Frame} {meth : Method} {c : Code} {H : Heap} {locs : List Loc} {cells slots : Nat} {G : GP} {A : Nat → Prop} {S0 : MS} {ls : Array Slot} (C : CF p l s m args meth c "SkirmishGrid$Fight" cX2_beginTurn 2 G A) (hr : meth.sig.returnType = none) (hex : ∀ x ∈ c.exceptionTable.toList, False) (Q : MS → Prop) (QX : String → MS → Prop) (S : MS) (a0 : Nat) (b1 : Nat) (p_a0 : pI S 2 a0) (p_b1 : pI S 7 b1) (P : PW G A s H locs S0 S) (hl : lv_has ls 2 [(0, .ref a0), (1, .ref b1)]) (hcc : cells + 0 ≤ 0) (hss : slots + 0 ≤ 0) (hw : wX2_beginTurn_0 Q QX S a0 b1) : W p l e rmX2_beginTurn s m args below meth c H locs cells slots (vx_MQ below (QV G S0 A Q) (XX G S0 A QX) args s 0 0 A) (F0 m 0 ls []) := by
  have hx := CF_x C
  have hb := CF_b C
  unfold wX2_beginTurn_0 at hw
  refine lv_aload_n hx hb dX2_beginTurn_0 rfl (lv_at hl 1 rfl) ?_
  refine cl_i C P (run_V C P hl.1 (kd := 7) (met_X7_lives (CF_n C) G H.size _ _ S b1 p_b1 hw) p_b1 (by decide) rfl q_355 q_356 q_357 q_5 q_358 cd_X7_lives ⟨(Nat.le_of_ble_eq_true rfl), (Nat.le_of_ble_eq_true rfl)⟩ rfl rfl (As := []) (rest := []) rfl rfl (Nat.le_of_ble_eq_true rfl) dX2_beginTurn_1 ⟨by show cells + 0 ≤ 0; omega, by show slots + 0 ≤ 0; omega⟩) (kx_out C hex (fun _ _ _ h => h) (by omega) (by omega)) (fun r2 S1 H locs P hE hw => ?_)
  have p_a0 : pI S1 2 a0 := pI_x hE p_a0
  have p_b1 : pI S1 7 b1 := pI_x hE p_b1
  refine lv_if_ne (tgt := 8) hx hb dX2_beginTurn_4 (by decide) (fun hc => ?_) (fun hc => ?_)
  · have hw := hw.1 hc
    refine lv_aload_n hx hb dX2_beginTurn_8 rfl (lv_at hl 1 rfl) ?_
    refine lv_iconst (v := 0) hx hb dX2_beginTurn_9 (by decide) ?_
    refine pf_7_11 C P p_b1 (isZ_dec (by decide)) q_130 dX2_beginTurn_10 (fun H locs P => ?_)
    obtain ⟨S3, hS⟩ : ∃ z, z = (sI S1 b1 11 0) := ⟨_, rfl⟩
    have P : PW G A s H locs S0 S3 := by rw [hS]; exact P
    have p_a0 : pI S3 2 a0 := by rw [hS]; exact pI_x ext_sI p_a0
    have p_b1 : pI S3 7 b1 := by rw [hS]; exact pI_x ext_sI p_b1
    have hw := hw S3 hS
    refine lv_aload_n hx hb dX2_beginTurn_13 rfl (lv_at hl 1 rfl) ?_
    refine lv_iconst (v := 0) hx hb dX2_beginTurn_14 (by decide) ?_
    refine pf_7_12 C P p_b1 (isZ_dec (by decide)) q_133 dX2_beginTurn_15 (fun H locs P => ?_)
    obtain ⟨S4, hS⟩ : ∃ z, z = (sI S3 b1 12 0) := ⟨_, rfl⟩
    have P : PW G A s H locs S0 S4 := by rw [hS]; exact P
    have p_a0 : pI S4 2 a0 := by rw [hS]; exact pI_x ext_sI p_a0
    have p_b1 : pI S4 7 b1 := by rw [hS]; exact pI_x ext_sI p_b1
    have hw := hw S4 hS
    refine lv_aload_n hx hb dX2_beginTurn_18 rfl (lv_at hl 1 rfl) ?_
    refine gf_7_10 C P p_b1 q_127 dX2_beginTurn_19 ?_
    refine lv_if_le (tgt := 43) hx hb dX2_beginTurn_22 (by decide) (fun hc => ?_) (fun hc => ?_)
    · have hw := hw.1 hc
      exact tX2_beginTurn_43 C hr hex Q QX S4 a0 b1 p_a0 p_b1 P (lv_sub hl [0, 1] rfl) (by omega) (by omega) hw
    · have hw := hw.2 hc
      refine lv_aload_n hx hb dX2_beginTurn_25 rfl (lv_at hl 1 rfl) ?_
      refine lv_iconst (v := 2) hx hb dX2_beginTurn_26 (by decide) ?_
      refine cl_v C P (run_V C P hl.1 (kd := 7) (met_X7_lose (CF_n C) G H.size _ _ S4 b1 2 p_b1 hw) p_b1 (by decide) rfl q_867 q_868 q_869 q_5 q_870 cd_X7_lose ⟨(Nat.le_of_ble_eq_true rfl), (Nat.le_of_ble_eq_true rfl)⟩ rfl rfl (As := [.int 2]) (rest := []) rfl rfl (Nat.le_of_ble_eq_true rfl) dX2_beginTurn_27 ⟨by show cells + 0 ≤ 0; omega, by show slots + 0 ≤ 0; omega⟩) (kx_out C hex (fun _ _ _ h => h) (by omega) (by omega)) (fun S5 H locs P hE hw => ?_)
      have p_a0 : pI S5 2 a0 := pI_x hE p_a0
      have p_b1 : pI S5 7 b1 := pI_x hE p_b1
      refine lv_aload_n hx hb dX2_beginTurn_30 rfl (lv_at hl 0 rfl) ?_
      obtain ⟨a6, e1, hw⟩ := hw
      have p_a6 : pI S5 1 a6 := wf_r P.2.2.2.1 p_a0 e1
      refine gf_2_11 C P p_a0 e1 q_185 dX2_beginTurn_31 ?_
      refine lv_iconst (v := 5) hx hb dX2_beginTurn_34 (by decide) ?_
      refine lv_aload_n hx hb dX2_beginTurn_35 rfl (lv_at hl 1 rfl) ?_
      refine gf_7_0 C P p_b1 q_95 dX2_beginTurn_36 ?_
      refine lv_iconst (v := 2) hx hb dX2_beginTurn_39 (by decide) ?_
      refine cl_v C P (run_V C P hl.1 (kd := 1) (met_X1_note (CF_n C) G H.size _ _ S5 a6 5 (mI S5 b1 0) 2 p_a6 hw) p_a6 (by decide) rfl q_843 q_844 q_845 q_4 q_846 cd_X1_note ⟨(Nat.le_of_ble_eq_true rfl), (Nat.le_of_ble_eq_true rfl)⟩ rfl rfl (As := [.int 5, .int (mI S5 b1 0), .int 2]) (rest := []) rfl rfl (Nat.le_of_ble_eq_true rfl) dX2_beginTurn_40 ⟨by show cells + 0 ≤ 0; omega, by show slots + 0 ≤ 0; omega⟩) (kx_out C hex (fun _ _ _ h => h) (by omega) (by omega)) (fun S7 H locs P hE hw => ?_)
      have p_a0 : pI S7 2 a0 := pI_x hE p_a0
      have p_b1 : pI S7 7 b1 := pI_x hE p_b1
      have p_a6 : pI S7 1 a6 := pI_x hE p_a6
      exact tX2_beginTurn_43 C hr hex Q QX S7 a0 b1 p_a0 p_b1 P (lv_sub hl [0, 1] rfl) (by omega) (by omega) hw
  · have hw := hw.2 hc
    exact e_v C hr P hw (by omega) (by omega) dX2_beginTurn_7
def wp_X2_beginTurn (Q : MS → Prop) (QX : String → MS → Prop) (S : MS) (a0 : Nat) (b1 : Nat) : Prop := wX2_beginTurn_0 Q QX S a0 b1
set_option maxHeartbeats 4000000 in
set_option maxRecDepth 100000 in
theorem met_X2_beginTurn {l : Launch} (hst : l.stackTraces = false) (G : GP) (sz : Nat) (Q : MS → Prop) (QX : String → MS → Prop) (S : MS) (a0 : Nat) (b1 : Nat) (p_a0 : pI S 2 a0) (p_b1 : pI S 7 b1) (hw : wp_X2_beginTurn Q QX S a0 b1) : vx_Met l yX2_beginTurn (.code yX2_beginTurn cX2_beginTurn 2 none :: GW) rmX2_beginTurn (va_Pc [.ref a0, .ref b1] (PR G S sz)) (QV G S (FA G S sz) Q) (XX G S (FA G S sz) QX) 0 0 (FA G S sz) := by
  refine st_m (by decide +kernel) hst (fun p e s m below meth c C hr hnm hex P => ?_)
  refine en_m (Nat.le_of_ble_eq_true rfl) (lv := [(0, .ref a0), (1, .ref b1)]) rfl (fun ls hl => ?_)
  have C : CF p l s m _ meth c "SkirmishGrid$Fight" cX2_beginTurn 2 G (FA G S sz) := C
  exact tX2_beginTurn_0 C hr hex Q QX S a0 b1 p_a0 p_b1 P hl (by omega) (by omega) hw
theorem cd_X2_beginTurn : yX2_beginTurn.cls = RX2 ∧ yX2_beginTurn.cls ≠ "java/lang/invoke/MethodHandle" ∧ yX2_beginTurn.cls ≠ "java/lang/invoke/VarHandle" ∧ (parseMethodDescriptor yX2_beginTurn.desc).map (fun d => d.parameters.length) = some 1 := by decide +kernel
abbrev rmX2_passTurn : Room := { frames := 3, cells := 0, slots := 0, locals := 105 }
def wX2_passTurn_49 (Q : MS → Prop) (QX : String → MS → Prop) (k12 : MS → Nat → Int32 → Prop) (S : MS) (a0 : Nat) (y1 : Int32) : Prop := (∀ S1, S1 = (sI S a0 5 ((mI S a0 5) + 1)) → (∃ a2, mR S1 a0 1 = some a2 ∧ (∃ a3, mR S1 a0 3 = some a3 ∧ (vp_in (mI S1 a0 5) (mN S1 a3) ∧ (vp_in (mI S1 a3 ((mI S1 a0 5) : Int32).toNatClampNeg) (mN S1 a2) ∧ (∃ a4, mR S1 a2 ((mI S1 a3 ((mI S1 a0 5) : Int32).toNatClampNeg) : Int32).toNatClampNeg = some a4 ∧ wp_X2_beginTurn (fun S5 => k12 S5 a0 (y1 + 1)) QX S1 a0 a4))))))
set_option maxHeartbeats 4000000 in
set_option maxRecDepth 100000 in
theorem tX2_passTurn_49 {p : Program} {l : Launch} {e : Env} {s : State} {m : MethodId} {args : Array Value} {below : List Frame} {meth : Method} {c : Code} {H : Heap} {locs : List Loc} {cells slots : Nat} {G : GP} {A : Nat → Prop} {S0 : MS} {ls : Array Slot} (C : CF p l s m args meth c "SkirmishGrid$Fight" cX2_passTurn 2 G A) (hr : meth.sig.returnType = none) (hex : ∀ x ∈ c.exceptionTable.toList, False) (Q : MS → Prop) (QX : String → MS → Prop) (k12 : MS → Nat → Int32 → Prop) (kh12 : ∀ (S : MS) (a0 : Nat) (y1 : Int32) (cells slots : Nat) (H : Heap) (locs : List Loc) (ls : Array Slot), pI S 2 a0 → PW G A s H locs S0 S → lv_has ls 2 [(0, .ref a0), (1, .int y1)] → cells + 0 ≤ 0 → slots + 0 ≤ 0 → k12 S a0 y1 → W p l e rmX2_passTurn s m args below meth c H locs cells slots (vx_MQ below (QV G S0 A Q) (XX G S0 A QX) args s 0 0 A) (F0 m 12 ls [])) (S : MS) (a0 : Nat) (y1 : Int32) (p_a0 : pI S 2 a0) (P : PW G A s H locs S0 S) (hl : lv_has ls 2 [(0, .ref a0), (1, .int y1)]) (hcc : cells + 0 ≤ 0) (hss : slots + 0 ≤ 0) (hw : wX2_passTurn_49 Q QX k12 S a0 y1) : W p l e rmX2_passTurn s m args below meth c H locs cells slots (vx_MQ below (QV G S0 A Q) (XX G S0 A QX) args s 0 0 A) (F0 m 49 ls []) := by
  have hx := CF_x C
  have hb := CF_b C
  unfold wX2_passTurn_49 at hw
  refine lv_aload_n hx hb dX2_passTurn_49 rfl (lv_at hl 0 rfl) ?_
  refine lv_dup hx hb dX2_passTurn_50 rfl ?_
  refine gf_2_5 C P p_a0 q_176 dX2_passTurn_51 ?_
  refine lv_iconst (v := 1) hx hb dX2_passTurn_54 (by decide) ?_
  refine lv_iadd hx hb dX2_passTurn_55 ?_
  refine pf_2_5 C P p_a0 q_176 dX2_passTurn_56 (fun H locs P => ?_)
  obtain ⟨S1, hS⟩ : ∃ z, z = (sI S a0 5 ((mI S a0 5) + 1)) := ⟨_, rfl⟩
  have P : PW G A s H locs S0 S1 := by rw [hS]; exact P
  have p_a0 : pI S1 2 a0 := by rw [hS]; exact pI_x ext_sI p_a0
  have hw := hw S1 hS
  refine lv_aload_n hx hb dX2_passTurn_59 rfl (lv_at hl 0 rfl) ?_
  refine lv_aload_n hx hb dX2_passTurn_60 rfl (lv_at hl 0 rfl) ?_
  obtain ⟨a2, e1, hw⟩ := hw
  have p_a2 : pI S1 15 a2 := wf_r P.2.2.2.1 p_a0 e1
  refine gf_2_1 C P p_a0 e1 q_164 dX2_passTurn_61 ?_
  refine lv_aload_n hx hb dX2_passTurn_64 rfl (lv_at hl 0 rfl) ?_
  obtain ⟨a3, e1, hw⟩ := hw
  have p_a3 : pI S1 12 a3 := wf_r P.2.2.2.1 p_a0 e1
  refine gf_2_3 C P p_a0 e1 q_172 dX2_passTurn_65 ?_
  refine lv_aload_n hx hb dX2_passTurn_68 rfl (lv_at hl 0 rfl) ?_
  refine gf_2_5 C P p_a0 q_176 dX2_passTurn_69 ?_
  obtain ⟨h1, hw⟩ := hw
  refine ra_i C P p_a3 h1 dX2_passTurn_72 ?_
  obtain ⟨h1, hw⟩ := hw
  obtain ⟨a4, e1, hw⟩ := hw
  have p_a4 : pI S1 7 a4 := wf_r P.2.2.2.1 p_a2 e1
  refine ra_a5 C P p_a2 h1 e1 dX2_passTurn_73 ?_
  refine cl_v C P (run_V C P hl.1 (kd := 2) (met_X2_beginTurn (CF_n C) G H.size _ _ S1 a0 a4 p_a0 p_a4 hw) p_a0 (by decide) rfl q_863 q_865 q_p8 q_2 q_866 cd_X2_beginTurn ⟨(Nat.le_of_ble_eq_true rfl), (Nat.le_of_ble_eq_true rfl)⟩ rfl rfl (As := [.ref a4]) (rest := []) rfl rfl (Nat.le_of_ble_eq_true rfl) dX2_passTurn_74 ⟨by show cells + 0 ≤ 0; omega, by show slots + 0 ≤ 0; omega⟩) (kx_out C hex (fun _ _ _ h => h) (by omega) (by omega)) (fun S5 H locs P hE hw => ?_)
  have p_a0 : pI S5 2 a0 := pI_x hE p_a0
  have p_a4 : pI S5 7 a4 := pI_x hE p_a4
  refine lv_iinc (v := (y1 + 1)) (lv' := [(1, .int (y1 + 1)), (0, .ref a0)]) hx hb dX2_passTurn_77 hl (k := 1) rfl (by rfl) (by decide) rfl (fun ls hl => ?_)
  refine lv_goto (tgt := 12) hx hb dX2_passTurn_80 (by decide) ?_
  exact kh12 S5 a0 (y1 + 1) _ _ _ _ _ p_a0 P (lv_sub hl [1, 0] rfl) (by omega) (by omega) hw
def wX2_passTurn_12 (Q : MS → Prop) (QX : String → MS → Prop) (k12 : MS → Nat → Int32 → Prop) (S : MS) (a0 : Nat) (y1 : Int32) : Prop := ((16 ≤ y1 → Q S) ∧ (¬ 16 ≤ y1 → ((0 ≤ (mI S a0 6) → Q S) ∧ (¬ 0 ≤ (mI S a0 6) → wp_X2_goesOn (fun r2 S1 => ((r2 = 0 → Q S1) ∧ (¬ r2 = 0 → ((((mI S1 a0 5) + 1) < (mI S1 a0 4) → wX2_passTurn_49 Q QX k12 S1 a0 y1) ∧ (¬ ((mI S1 a0 5) + 1) < (mI S1 a0 4) → wp_X2_beginRound (fun S3 => wX2_passTurn_49 Q QX k12 S3 a0 y1) QX S1 a0))))) QX S a0))))
set_option maxHeartbeats 4000000 in
set_option maxRecDepth 100000 in
theorem tX2_passTurn_12 {p : Program} {l : Launch} {e : Env} {s : State} {m : MethodId} {args : Array Value} {below : List Frame} {meth : Method} {c : Code} {H : Heap} {locs : List Loc} {cells slots : Nat} {G : GP} {A : Nat → Prop} {S0 : MS} {ls : Array Slot} (C : CF p l s m args meth c "SkirmishGrid$Fight" cX2_passTurn 2 G A) (hr : meth.sig.returnType = none) (hex : ∀ x ∈ c.exceptionTable.toList, False) (Q : MS → Prop) (QX : String → MS → Prop) (k12 : MS → Nat → Int32 → Prop) (kh12 : ∀ (S : MS) (a0 : Nat) (y1 : Int32) (cells slots : Nat) (H : Heap) (locs : List Loc) (ls : Array Slot), pI S 2 a0 → PW G A s H locs S0 S → lv_has ls 2 [(0, .ref a0), (1, .int y1)] → cells + 0 ≤ 0 → slots + 0 ≤ 0 → k12 S a0 y1 → W p l e rmX2_passTurn s m args below meth c H locs cells slots (vx_MQ below (QV G S0 A Q) (XX G S0 A QX) args s 0 0 A) (F0 m 12 ls [])) (S : MS) (a0 : Nat) (y1 : Int32) (p_a0 : pI S 2 a0) (P : PW G A s H locs S0 S) (hl : lv_has ls 2 [(0, .ref a0), (1, .int y1)]) (hcc : cells + 0 ≤ 0) (hss : slots + 0 ≤ 0) (hw : wX2_passTurn_12 Q QX k12 S a0 y1) : W p l e rmX2_passTurn s m args below meth c H locs cells slots (vx_MQ below (QV G S0 A Q) (XX G S0 A QX) args s 0 0 A) (F0 m 12 ls []) := by
  have hx := CF_x C
  have hb := CF_b C
  unfold wX2_passTurn_12 at hw
  refine lv_iload_n hx hb dX2_passTurn_12 rfl (lv_at hl 1 rfl) ?_
  refine lv_bipush (v := 16) hx hb dX2_passTurn_13 (by decide) ?_
  refine lv_icmp_ge (tgt := 83) hx hb dX2_passTurn_15 (by decide) (fun hc => ?_) (fun hc => ?_)
  · have hw := hw.1 hc
    exact e_v C hr P hw (by omega) (by omega) dX2_passTurn_83
  · have hw := hw.2 hc
    refine lv_aload_n hx hb dX2_passTurn_18 rfl (lv_at hl 0 rfl) ?_
    refine gf_2_6 C P p_a0 q_177 dX2_passTurn_19 ?_
    refine lv_if_ge (tgt := 83) hx hb dX2_passTurn_22 (by decide) (fun hc => ?_) (fun hc => ?_)
    · have hw := hw.1 hc
      exact e_v C hr P hw (by omega) (by omega) dX2_passTurn_83
    · have hw := hw.2 hc
      refine lv_aload_n hx hb dX2_passTurn_25 rfl (lv_at hl 0 rfl) ?_
      refine cl_i C P (run_V C P hl.1 (kd := 2) (met_X2_goesOn (CF_n C) G H.size _ _ S a0 p_a0 hw) p_a0 (by decide) rfl q_862 q_830 q_831 q_2 q_832 cd_X2_goesOn ⟨(Nat.le_of_ble_eq_true rfl), (Nat.le_of_ble_eq_true rfl)⟩ rfl rfl (As := []) (rest := []) rfl rfl (Nat.le_of_ble_eq_true rfl) dX2_passTurn_26 ⟨by show cells + 0 ≤ 0; omega, by show slots + 0 ≤ 0; omega⟩) (kx_out C hex (fun _ _ _ h => h) (by omega) (by omega)) (fun r2 S1 H locs P hE hw => ?_)
      have p_a0 : pI S1 2 a0 := pI_x hE p_a0
      refine lv_if_eq (tgt := 83) hx hb dX2_passTurn_29 (by decide) (fun hc => ?_) (fun hc => ?_)
      · have hw := hw.1 hc
        exact e_v C hr P hw (by omega) (by omega) dX2_passTurn_83
      · have hw := hw.2 hc
        refine lv_aload_n hx hb dX2_passTurn_32 rfl (lv_at hl 0 rfl) ?_
        refine gf_2_5 C P p_a0 q_176 dX2_passTurn_33 ?_
        refine lv_iconst (v := 1) hx hb dX2_passTurn_36 (by decide) ?_
        refine lv_iadd hx hb dX2_passTurn_37 ?_
        refine lv_aload_n hx hb dX2_passTurn_38 rfl (lv_at hl 0 rfl) ?_
        refine gf_2_4 C P p_a0 q_174 dX2_passTurn_39 ?_
        refine lv_icmp_lt (tgt := 49) hx hb dX2_passTurn_42 (by decide) (fun hc => ?_) (fun hc => ?_)
        · have hw := hw.1 hc
          exact tX2_passTurn_49 C hr hex Q QX k12 kh12 S1 a0 y1 p_a0 P (lv_sub hl [0, 1] rfl) (by omega) (by omega) hw
        · have hw := hw.2 hc
          refine lv_aload_n hx hb dX2_passTurn_45 rfl (lv_at hl 0 rfl) ?_
          refine cl_v C P (run_V C P hl.1 (kd := 2) (met_X2_beginRound (CF_n C) G H.size _ _ S1 a0 p_a0 hw) p_a0 (by decide) rfl q_839 q_841 q_p4 q_2 q_842 cd_X2_beginRound ⟨(Nat.le_of_ble_eq_true rfl), (Nat.le_of_ble_eq_true rfl)⟩ rfl rfl (As := []) (rest := []) rfl rfl (Nat.le_of_ble_eq_true rfl) dX2_passTurn_46 ⟨by show cells + 0 ≤ 0; omega, by show slots + 0 ≤ 0; omega⟩) (kx_out C hex (fun _ _ _ h => h) (by omega) (by omega)) (fun S3 H locs P hE hw => ?_)
          have p_a0 : pI S3 2 a0 := pI_x hE p_a0
          exact tX2_passTurn_49 C hr hex Q QX k12 kh12 S3 a0 y1 p_a0 P (lv_sub hl [0, 1] rfl) (by omega) (by omega) hw
def lX2_passTurn_12 (Q : MS → Prop) (QX : String → MS → Prop) : Nat → MS → Nat → Int32 → Prop
  | 0 => fun _ _ _ => False
  | n + 1 => fun S a0 y1 => wX2_passTurn_12 Q QX (lX2_passTurn_12 Q QX n) S a0 y1
theorem tlX2_passTurn_12 {p : Program} {l : Launch} {e : Env} {s : State} {m : MethodId} {args : Array Value} {below : List Frame} {meth : Method} {c : Code} {G : GP} {A : Nat → Prop} {S0 : MS} (C : CF p l s m args meth c "SkirmishGrid$Fight" cX2_passTurn 2 G A) (hr : meth.sig.returnType = none) (hex : ∀ x ∈ c.exceptionTable.toList, False) (Q : MS → Prop) (QX : String → MS → Prop) : ∀ (n : Nat), ∀ (S : MS) (a0 : Nat) (y1 : Int32) (cells slots : Nat) (H : Heap) (locs : List Loc) (ls : Array Slot), pI S 2 a0 → PW G A s H locs S0 S → lv_has ls 2 [(0, .ref a0), (1, .int y1)] → cells + 0 ≤ 0 → slots + 0 ≤ 0 → lX2_passTurn_12 Q QX n S a0 y1 → W p l e rmX2_passTurn s m args below meth c H locs cells slots (vx_MQ below (QV G S0 A Q) (XX G S0 A QX) args s 0 0 A) (F0 m 12 ls []) := by
  intro n
  induction n with
  | zero => intro S a0 y1 cells slots H locs ls p_a0 P hl hcc hss hw; exact hw.elim
  | succ n ih => intro S a0 y1 cells slots H locs ls p_a0 P hl hcc hss hw; exact tX2_passTurn_12 C hr hex Q QX (lX2_passTurn_12 Q QX n) ih S a0 y1 p_a0 P hl hcc hss hw
def wX2_passTurn_0 (Q : MS → Prop) (QX : String → MS → Prop) (S : MS) (a0 : Nat) : Prop := (∀ S1, S1 = (sI S a0 6 (-1)) → (∀ S2, S2 = (sI S1 a0 7 0) → (∃ n, lX2_passTurn_12 Q QX n S2 a0 0)))
set_option maxHeartbeats 4000000 in
set_option maxRecDepth 100000 in
theorem tX2_passTurn_0 {p : Program} {l : Launch} {e : Env} {s : State} {m : MethodId} {args : Array Value} {below : List Frame} {meth : Method} {c : Code} {H : Heap} {locs : List Loc} {cells slots : Nat} {G : GP} {A : Nat → Prop} {S0 : MS} {ls : Array Slot} (C : CF p l s m args meth c "SkirmishGrid$Fight" cX2_passTurn 2 G A) (hr : meth.sig.returnType = none) (hex : ∀ x ∈ c.exceptionTable.toList, False) (Q : MS → Prop) (QX : String → MS → Prop) (S : MS) (a0 : Nat) (p_a0 : pI S 2 a0) (P : PW G A s H locs S0 S) (hl : lv_has ls 2 [(0, .ref a0)]) (hcc : cells + 0 ≤ 0) (hss : slots + 0 ≤ 0) (hw : wX2_passTurn_0 Q QX S a0) : W p l e rmX2_passTurn s m args below meth c H locs cells slots (vx_MQ below (QV G S0 A Q) (XX G S0 A QX) args s 0 0 A) (F0 m 0 ls []) := by
  have hx := CF_x C
  have hb := CF_b C
  unfold wX2_passTurn_0 at hw
  refine lv_aload_n hx hb dX2_passTurn_0 rfl (lv_at hl 0 rfl) ?_
  refine lv_iconst (v := (-1)) hx hb dX2_passTurn_1 (by decide) ?_
  refine pf_2_6 C P p_a0 q_177 dX2_passTurn_2 (fun H locs P => ?_)
  obtain ⟨S1, hS⟩ : ∃ z, z = (sI S a0 6 (-1)) := ⟨_, rfl⟩
  have P : PW G A s H locs S0 S1 := by rw [hS]; exact P
  have p_a0 : pI S1 2 a0 := by rw [hS]; exact pI_x ext_sI p_a0
  have hw := hw S1 hS
  refine lv_aload_n hx hb dX2_passTurn_5 rfl (lv_at hl 0 rfl) ?_
  refine lv_iconst (v := 0) hx hb dX2_passTurn_6 (by decide) ?_
  refine pf_2_7 C P p_a0 q_179 dX2_passTurn_7 (fun H locs P => ?_)
  obtain ⟨S2, hS⟩ : ∃ z, z = (sI S1 a0 7 0) := ⟨_, rfl⟩
  have P : PW G A s H locs S0 S2 := by rw [hS]; exact P
  have p_a0 : pI S2 2 a0 := by rw [hS]; exact pI_x ext_sI p_a0
  have hw := hw S2 hS
  refine lv_iconst (v := 0) hx hb dX2_passTurn_10 (by decide) ?_
  refine lv_istore_n (lv' := [(1, .int 0), (0, .ref a0)]) hx hb dX2_passTurn_11 rfl hl (by decide) rfl (fun ls hl => ?_)
  obtain ⟨n, hw⟩ := hw
  exact tlX2_passTurn_12 C hr hex Q QX n S2 a0 0 _ _ _ _ _ p_a0 P (lv_sub hl [1, 0] rfl) (by omega) (by omega) hw
def wp_X2_passTurn (Q : MS → Prop) (QX : String → MS → Prop) (S : MS) (a0 : Nat) : Prop := wX2_passTurn_0 Q QX S a0
set_option maxHeartbeats 4000000 in
set_option maxRecDepth 100000 in
theorem met_X2_passTurn {l : Launch} (hst : l.stackTraces = false) (G : GP) (sz : Nat) (Q : MS → Prop) (QX : String → MS → Prop) (S : MS) (a0 : Nat) (p_a0 : pI S 2 a0) (hw : wp_X2_passTurn Q QX S a0) : vx_Met l yX2_passTurn (.code yX2_passTurn cX2_passTurn 2 none :: GW) rmX2_passTurn (va_Pc [.ref a0] (PR G S sz)) (QV G S (FA G S sz) Q) (XX G S (FA G S sz) QX) 0 0 (FA G S sz) := by
  refine st_m (by decide +kernel) hst (fun p e s m below meth c C hr hnm hex P => ?_)
  refine en_m (Nat.le_of_ble_eq_true rfl) (lv := [(0, .ref a0)]) rfl (fun ls hl => ?_)
  have C : CF p l s m _ meth c "SkirmishGrid$Fight" cX2_passTurn 2 G (FA G S sz) := C
  exact tX2_passTurn_0 C hr hex Q QX S a0 p_a0 P hl (by omega) (by omega) hw
theorem cd_X2_passTurn : yX2_passTurn.cls = RX2 ∧ yX2_passTurn.cls ≠ "java/lang/invoke/MethodHandle" ∧ yX2_passTurn.cls ≠ "java/lang/invoke/VarHandle" ∧ (parseMethodDescriptor yX2_passTurn.desc).map (fun d => d.parameters.length) = some 0 := by decide +kernel
abbrev rmX2_startRounds : Room := { frames := 4, cells := 0, slots := 0, locals := 126 }
def wX2_startRounds_0 (Q : MS → Prop) (QX : String → MS → Prop) (S : MS) (a0 : Nat) : Prop := wp_X2_beginRound (fun S1 => wp_X2_passTurn (fun S2 => Q S2) QX S1 a0) QX S a0
set_option maxHeartbeats 4000000 in
set_option maxRecDepth 100000 in
theorem tX2_startRounds_0 {p : Program} {l : Launch} {e : Env} {s : State} {m : MethodId} {args : Array Value} {below : List Frame} {meth : Method} {c : Code} {H : Heap} {locs : List Loc} {cells slots : Nat} {G : GP} {A : Nat → Prop} {S0 : MS} {ls : Array Slot} (C : CF p l s m args meth c "SkirmishGrid$Fight" cX2_startRounds 1 G A) (hr : meth.sig.returnType = none) (hex : ∀ x ∈ c.exceptionTable.toList, False) (Q : MS → Prop) (QX : String → MS → Prop) (S : MS) (a0 : Nat) (p_a0 : pI S 2 a0) (P : PW G A s H locs S0 S) (hl : lv_has ls 1 [(0, .ref a0)]) (hcc : cells + 0 ≤ 0) (hss : slots + 0 ≤ 0) (hw : wX2_startRounds_0 Q QX S a0) : W p l e rmX2_startRounds s m args below meth c H locs cells slots (vx_MQ below (QV G S0 A Q) (XX G S0 A QX) args s 0 0 A) (F0 m 0 ls []) := by
  have hx := CF_x C
  have hb := CF_b C
  unfold wX2_startRounds_0 at hw
  refine lv_aload_n hx hb dX2_startRounds_0 rfl (lv_at hl 0 rfl) ?_
  refine cl_v C P (run_V C P hl.1 (kd := 2) (met_X2_beginRound (CF_n C) G H.size _ _ S a0 p_a0 hw) p_a0 (by decide) rfl q_839 q_841 q_p4 q_2 q_842 cd_X2_beginRound ⟨(Nat.le_of_ble_eq_true rfl), (Nat.le_of_ble_eq_true rfl)⟩ rfl rfl (As := []) (rest := []) rfl rfl (Nat.le_of_ble_eq_true rfl) dX2_startRounds_1 ⟨by show cells + 0 ≤ 0; omega, by show slots + 0 ≤ 0; omega⟩) (kx_out C hex (fun _ _ _ h => h) (by omega) (by omega)) (fun S1 H locs P hE hw => ?_)
  have p_a0 : pI S1 2 a0 := pI_x hE p_a0
  refine lv_aload_n hx hb dX2_startRounds_4 rfl (lv_at hl 0 rfl) ?_
  refine cl_v C P (run_V C P hl.1 (kd := 2) (met_X2_passTurn (CF_n C) G H.size _ _ S1 a0 p_a0 hw) p_a0 (by decide) rfl q_858 q_860 q_p7 q_2 q_861 cd_X2_passTurn ⟨(Nat.le_of_ble_eq_true rfl), (Nat.le_of_ble_eq_true rfl)⟩ rfl rfl (As := []) (rest := []) rfl rfl (Nat.le_of_ble_eq_true rfl) dX2_startRounds_5 ⟨by show cells + 0 ≤ 0; omega, by show slots + 0 ≤ 0; omega⟩) (kx_out C hex (fun _ _ _ h => h) (by omega) (by omega)) (fun S2 H locs P hE hw => ?_)
  have p_a0 : pI S2 2 a0 := pI_x hE p_a0
  exact e_v C hr P hw (by omega) (by omega) dX2_startRounds_8
def wp_X2_startRounds (Q : MS → Prop) (QX : String → MS → Prop) (S : MS) (a0 : Nat) : Prop := wX2_startRounds_0 Q QX S a0
set_option maxHeartbeats 4000000 in
set_option maxRecDepth 100000 in
theorem met_X2_startRounds {l : Launch} (hst : l.stackTraces = false) (G : GP) (sz : Nat) (Q : MS → Prop) (QX : String → MS → Prop) (S : MS) (a0 : Nat) (p_a0 : pI S 2 a0) (hw : wp_X2_startRounds Q QX S a0) : vx_Met l yX2_startRounds (.code yX2_startRounds cX2_startRounds 1 none :: GW) rmX2_startRounds (va_Pc [.ref a0] (PR G S sz)) (QV G S (FA G S sz) Q) (XX G S (FA G S sz) QX) 0 0 (FA G S sz) := by
  refine st_m (by decide +kernel) hst (fun p e s m below meth c C hr hnm hex P => ?_)
  refine en_m (Nat.le_of_ble_eq_true rfl) (lv := [(0, .ref a0)]) rfl (fun ls hl => ?_)
  have C : CF p l s m _ meth c "SkirmishGrid$Fight" cX2_startRounds 1 G (FA G S sz) := C
  exact tX2_startRounds_0 C hr hex Q QX S a0 p_a0 P hl (by omega) (by omega) hw
theorem cd_X2_startRounds : yX2_startRounds.cls = RX2 ∧ yX2_startRounds.cls ≠ "java/lang/invoke/MethodHandle" ∧ yX2_startRounds.cls ≠ "java/lang/invoke/VarHandle" ∧ (parseMethodDescriptor yX2_startRounds.desc).map (fun d => d.parameters.length) = some 0 := by decide +kernel
abbrev rmX2_settle : Room := { frames := 4, cells := 0, slots := 0, locals := 126 }
def wX2_settle_0 (Q : MS → Prop) (QX : String → MS → Prop) (S : MS) (a0 : Nat) (b1 : Nat) : Prop := wp_X2_goesOn (fun r2 S1 => ((¬ r2 = 0 → wp_X7_lives (fun r4 S3 => ((¬ r4 = 0 → Q S3) ∧ (r4 = 0 → wp_X2_passTurn (fun S5 => Q S5) QX S3 a0))) QX S1 b1) ∧ (r2 = 0 → (∀ S6, S6 = (sI S1 a0 6 (-1)) → (∀ S7, S7 = (sI S6 a0 7 0) → Q S7))))) QX S a0
set_option maxHeartbeats 4000000 in
set_option maxRecDepth 100000 in
theorem tX2_settle_0 {p : Program} {l : Launch} {e : Env} {s : State} {m : MethodId} {args : Array Value} {below : List Frame} {meth : Method} {c : Code} {H : Heap} {locs : List Loc} {cells slots : Nat} {G : GP} {A : Nat → Prop} {S0 : MS} {ls : Array Slot} (C : CF p l s m args meth c "SkirmishGrid$Fight" cX2_settle 2 G A) (hr : meth.sig.returnType = none) (hex : ∀ x ∈ c.exceptionTable.toList, False) (Q : MS → Prop) (QX : String → MS → Prop) (S : MS) (a0 : Nat) (b1 : Nat) (p_a0 : pI S 2 a0) (p_b1 : pI S 7 b1) (P : PW G A s H locs S0 S) (hl : lv_has ls 2 [(0, .ref a0), (1, .ref b1)]) (hcc : cells + 0 ≤ 0) (hss : slots + 0 ≤ 0) (hw : wX2_settle_0 Q QX S a0 b1) : W p l e rmX2_settle s m args below meth c H locs cells slots (vx_MQ below (QV G S0 A Q) (XX G S0 A QX) args s 0 0 A) (F0 m 0 ls []) := by
  have hx := CF_x C
  have hb := CF_b C
  unfold wX2_settle_0 at hw
  refine lv_aload_n hx hb dX2_settle_0 rfl (lv_at hl 0 rfl) ?_
  refine cl_i C P (run_V C P hl.1 (kd := 2) (met_X2_goesOn (CF_n C) G H.size _ _ S a0 p_a0 hw) p_a0 (by decide) rfl q_862 q_830 q_831 q_2 q_832 cd_X2_goesOn ⟨(Nat.le_of_ble_eq_true rfl), (Nat.le_of_ble_eq_true rfl)⟩ rfl rfl (As := []) (rest := []) rfl rfl (Nat.le_of_ble_eq_true rfl) dX2_settle_1 ⟨by show cells + 0 ≤ 0; omega, by show slots + 0 ≤ 0; omega⟩) (kx_out C hex (fun _ _ _ h => h) (by omega) (by omega)) (fun r2 S1 H locs P hE hw => ?_)
  have p_a0 : pI S1 2 a0 := pI_x hE p_a0
  have p_b1 : pI S1 7 b1 := pI_x hE p_b1
  refine lv_if_ne (tgt := 20) hx hb dX2_settle_4 (by decide) (fun hc => ?_) (fun hc => ?_)
  · have hw := hw.1 hc
    refine lv_aload_n hx hb dX2_settle_20 rfl (lv_at hl 1 rfl) ?_
    refine cl_i C P (run_V C P hl.1 (kd := 7) (met_X7_lives (CF_n C) G H.size _ _ S1 b1 p_b1 hw) p_b1 (by decide) rfl q_355 q_356 q_357 q_5 q_358 cd_X7_lives ⟨(Nat.le_of_ble_eq_true rfl), (Nat.le_of_ble_eq_true rfl)⟩ rfl rfl (As := []) (rest := []) rfl rfl (Nat.le_of_ble_eq_true rfl) dX2_settle_21 ⟨by show cells + 0 ≤ 0; omega, by show slots + 0 ≤ 0; omega⟩) (kx_out C hex (fun _ _ _ h => h) (by omega) (by omega)) (fun r4 S3 H locs P hE hw => ?_)
    have p_a0 : pI S3 2 a0 := pI_x hE p_a0
    have p_b1 : pI S3 7 b1 := pI_x hE p_b1
    refine lv_if_ne (tgt := 31) hx hb dX2_settle_24 (by decide) (fun hc => ?_) (fun hc => ?_)
    · have hw := hw.1 hc
      exact e_v C hr P hw (by omega) (by omega) dX2_settle_31
    · have hw := hw.2 hc
      refine lv_aload_n hx hb dX2_settle_27 rfl (lv_at hl 0 rfl) ?_
      refine cl_v C P (run_V C P hl.1 (kd := 2) (met_X2_passTurn (CF_n C) G H.size _ _ S3 a0 p_a0 hw) p_a0 (by decide) rfl q_858 q_860 q_p7 q_2 q_861 cd_X2_passTurn ⟨(Nat.le_of_ble_eq_true rfl), (Nat.le_of_ble_eq_true rfl)⟩ rfl rfl (As := []) (rest := []) rfl rfl (Nat.le_of_ble_eq_true rfl) dX2_settle_28 ⟨by show cells + 0 ≤ 0; omega, by show slots + 0 ≤ 0; omega⟩) (kx_out C hex (fun _ _ _ h => h) (by omega) (by omega)) (fun S5 H locs P hE hw => ?_)
      have p_a0 : pI S5 2 a0 := pI_x hE p_a0
      exact e_v C hr P hw (by omega) (by omega) dX2_settle_31
  · have hw := hw.2 hc
    refine lv_aload_n hx hb dX2_settle_7 rfl (lv_at hl 0 rfl) ?_
    refine lv_iconst (v := (-1)) hx hb dX2_settle_8 (by decide) ?_
    refine pf_2_6 C P p_a0 q_177 dX2_settle_9 (fun H locs P => ?_)
    obtain ⟨S6, hS⟩ : ∃ z, z = (sI S1 a0 6 (-1)) := ⟨_, rfl⟩
    have P : PW G A s H locs S0 S6 := by rw [hS]; exact P
    have p_a0 : pI S6 2 a0 := by rw [hS]; exact pI_x ext_sI p_a0
    have hw := hw S6 hS
    refine lv_aload_n hx hb dX2_settle_12 rfl (lv_at hl 0 rfl) ?_
    refine lv_iconst (v := 0) hx hb dX2_settle_13 (by decide) ?_
    refine pf_2_7 C P p_a0 q_179 dX2_settle_14 (fun H locs P => ?_)
    obtain ⟨S7, hS⟩ : ∃ z, z = (sI S6 a0 7 0) := ⟨_, rfl⟩
    have P : PW G A s H locs S0 S7 := by rw [hS]; exact P
    have p_a0 : pI S7 2 a0 := by rw [hS]; exact pI_x ext_sI p_a0
    have hw := hw S7 hS
    refine lv_goto (tgt := 31) hx hb dX2_settle_17 (by decide) ?_
    exact e_v C hr P hw (by omega) (by omega) dX2_settle_31
def wp_X2_settle (Q : MS → Prop) (QX : String → MS → Prop) (S : MS) (a0 : Nat) (b1 : Nat) : Prop := wX2_settle_0 Q QX S a0 b1
set_option maxHeartbeats 4000000 in
set_option maxRecDepth 100000 in
theorem met_X2_settle {l : Launch} (hst : l.stackTraces = false) (G : GP) (sz : Nat) (Q : MS → Prop) (QX : String → MS → Prop) (S : MS) (a0 : Nat) (b1 : Nat) (p_a0 : pI S 2 a0) (p_b1 : pI S 7 b1) (hw : wp_X2_settle Q QX S a0 b1) : vx_Met l yX2_settle (.code yX2_settle cX2_settle 2 none :: GW) rmX2_settle (va_Pc [.ref a0, .ref b1] (PR G S sz)) (QV G S (FA G S sz) Q) (XX G S (FA G S sz) QX) 0 0 (FA G S sz) := by
  refine st_m (by decide +kernel) hst (fun p e s m below meth c C hr hnm hex P => ?_)
  refine en_m (Nat.le_of_ble_eq_true rfl) (lv := [(0, .ref a0), (1, .ref b1)]) rfl (fun ls hl => ?_)
  have C : CF p l s m _ meth c "SkirmishGrid$Fight" cX2_settle 2 G (FA G S sz) := C
  exact tX2_settle_0 C hr hex Q QX S a0 b1 p_a0 p_b1 P hl (by omega) (by omega) hw
theorem cd_X2_settle : yX2_settle.cls = RX2 ∧ yX2_settle.cls ≠ "java/lang/invoke/MethodHandle" ∧ yX2_settle.cls ≠ "java/lang/invoke/VarHandle" ∧ (parseMethodDescriptor yX2_settle.desc).map (fun d => d.parameters.length) = some 1 := by decide +kernel
abbrev rmX2_canStrike : Room := { frames := 3, cells := 0, slots := 0, locals := 114 }
def wX2_canStrike_0 (Q : Int32 → MS → Prop) (QX : String → MS → Prop) (S : MS) (a0 : Nat) (b1 : Nat) (b2 : Nat) : Prop := wp_X7_lives (fun r2 S1 => ((r2 = 0 → Q 0 S1) ∧ (¬ r2 = 0 → wp_X7_lives (fun r4 S3 => ((r4 = 0 → Q 0 S3) ∧ (¬ r4 = 0 → (((mI S3 b1 1) = (mI S3 b2 1) → Q 0 S3) ∧ (¬ (mI S3 b1 1) = (mI S3 b2 1) → (∃ a5, mR S3 a0 0 = some a5 ∧ wp_X3_distance (fun r7 S6 => (vp_in (mI S6 b1 2) 4 ∧ (((tbI 3 (mI S6 b1 2)) < r7 → Q 0 S6) ∧ (¬ (tbI 3 (mI S6 b1 2)) < r7 → (∃ a9, mR S6 a0 0 = some a9 ∧ wp_X3_isClear (fun r11 S10 => ((r11 = 0 → Q 0 S10) ∧ (¬ r11 = 0 → Q 1 S10))) QX S6 a9 (mI S6 b1 4) (mI S6 b2 4)))))) QX S3 a5 (mI S3 b1 4) (mI S3 b2 4))))))) QX S1 b2))) QX S b1
set_option maxHeartbeats 4000000 in
set_option maxRecDepth 100000 in
theorem tX2_canStrike_0 {p : Program} {l : Launch} {e : Env} {s : State} {m : MethodId} {args : Array Value} {below : List Frame} {meth : Method} {c : Code} {H : Heap} {locs : List Loc} {cells slots : Nat} {G : GP} {A : Nat → Prop} {S0 : MS} {ls : Array Slot} (C : CF p l s m args meth c "SkirmishGrid$Fight" cX2_canStrike 3 G A) (hr : meth.sig.returnType = (some .boolean)) (hex : ∀ x ∈ c.exceptionTable.toList, False) (Q : Int32 → MS → Prop) (QX : String → MS → Prop) (S : MS) (a0 : Nat) (b1 : Nat) (b2 : Nat) (p_a0 : pI S 2 a0) (p_b1 : pI S 7 b1) (p_b2 : pI S 7 b2) (P : PW G A s H locs S0 S) (hl : lv_has ls 3 [(0, .ref a0), (1, .ref b1), (2, .ref b2)]) (hcc : cells + 0 ≤ 0) (hss : slots + 0 ≤ 0) (hw : wX2_canStrike_0 Q QX S a0 b1 b2) : W p l e rmX2_canStrike s m args below meth c H locs cells slots (vx_MQ below (QI G S0 A Q) (XX G S0 A QX) args s 0 0 A) (F0 m 0 ls []) := by
  have hx := CF_x C
  have hb := CF_b C
  unfold wX2_canStrike_0 at hw
  refine lv_aload_n hx hb dX2_canStrike_0 rfl (lv_at hl 1 rfl) ?_
  refine cl_i C P (run_V C P hl.1 (kd := 7) (met_X7_lives (CF_n C) G H.size _ _ S b1 p_b1 hw) p_b1 (by decide) rfl q_355 q_356 q_357 q_5 q_358 cd_X7_lives ⟨(Nat.le_of_ble_eq_true rfl), (Nat.le_of_ble_eq_true rfl)⟩ rfl rfl (As := []) (rest := []) rfl rfl (Nat.le_of_ble_eq_true rfl) dX2_canStrike_1 ⟨by show cells + 0 ≤ 0; omega, by show slots + 0 ≤ 0; omega⟩) (kx_out C hex (fun _ _ _ h => h) (by omega) (by omega)) (fun r2 S1 H locs P hE hw => ?_)
  have p_a0 : pI S1 2 a0 := pI_x hE p_a0
  have p_b1 : pI S1 7 b1 := pI_x hE p_b1
  have p_b2 : pI S1 7 b2 := pI_x hE p_b2
  refine lv_if_eq (tgt := 73) hx hb dX2_canStrike_4 (by decide) (fun hc => ?_) (fun hc => ?_)
  · have hw := hw.1 hc
    refine lv_iconst (v := 0) hx hb dX2_canStrike_73 (by decide) ?_
    exact e_i C hr (by decide +kernel) P hw (by omega) (by omega) dX2_canStrike_74
  · have hw := hw.2 hc
    refine lv_aload_n hx hb dX2_canStrike_7 rfl (lv_at hl 2 rfl) ?_
    refine cl_i C P (run_V C P hl.1 (kd := 7) (met_X7_lives (CF_n C) G H.size _ _ S1 b2 p_b2 hw) p_b2 (by decide) rfl q_355 q_356 q_357 q_5 q_358 cd_X7_lives ⟨(Nat.le_of_ble_eq_true rfl), (Nat.le_of_ble_eq_true rfl)⟩ rfl rfl (As := []) (rest := []) rfl rfl (Nat.le_of_ble_eq_true rfl) dX2_canStrike_8 ⟨by show cells + 0 ≤ 0; omega, by show slots + 0 ≤ 0; omega⟩) (kx_out C hex (fun _ _ _ h => h) (by omega) (by omega)) (fun r4 S3 H locs P hE hw => ?_)
    have p_a0 : pI S3 2 a0 := pI_x hE p_a0
    have p_b1 : pI S3 7 b1 := pI_x hE p_b1
    have p_b2 : pI S3 7 b2 := pI_x hE p_b2
    refine lv_if_eq (tgt := 73) hx hb dX2_canStrike_11 (by decide) (fun hc => ?_) (fun hc => ?_)
    · have hw := hw.1 hc
      refine lv_iconst (v := 0) hx hb dX2_canStrike_73 (by decide) ?_
      exact e_i C hr (by decide +kernel) P hw (by omega) (by omega) dX2_canStrike_74
    · have hw := hw.2 hc
      refine lv_aload_n hx hb dX2_canStrike_14 rfl (lv_at hl 1 rfl) ?_
      refine gf_7_1 C P p_b1 q_97 dX2_canStrike_15 ?_
      refine lv_aload_n hx hb dX2_canStrike_18 rfl (lv_at hl 2 rfl) ?_
      refine gf_7_1 C P p_b2 q_97 dX2_canStrike_19 ?_
      refine lv_icmp_eq (tgt := 73) hx hb dX2_canStrike_22 (by decide) (fun hc => ?_) (fun hc => ?_)
      · have hw := hw.1 hc
        refine lv_iconst (v := 0) hx hb dX2_canStrike_73 (by decide) ?_
        exact e_i C hr (by decide +kernel) P hw (by omega) (by omega) dX2_canStrike_74
      · have hw := hw.2 hc
        refine lv_aload_n hx hb dX2_canStrike_25 rfl (lv_at hl 0 rfl) ?_
        obtain ⟨a5, e1, hw⟩ := hw
        have p_a5 : pI S3 3 a5 := wf_r P.2.2.2.1 p_a0 e1
        refine gf_2_0 C P p_a0 e1 q_161 dX2_canStrike_26 ?_
        refine lv_aload_n hx hb dX2_canStrike_29 rfl (lv_at hl 1 rfl) ?_
        refine gf_7_4 C P p_b1 q_107 dX2_canStrike_30 ?_
        refine lv_aload_n hx hb dX2_canStrike_33 rfl (lv_at hl 2 rfl) ?_
        refine gf_7_4 C P p_b2 q_107 dX2_canStrike_34 ?_
        refine cl_i C P (run_V C P hl.1 (kd := 3) (met_X3_distance (CF_n C) G H.size _ _ S3 a5 (mI S3 b1 4) (mI S3 b2 4) p_a5 hw) p_a5 (by decide) rfl q_965 q_966 q_967 q_3 q_968 cd_X3_distance ⟨(Nat.le_of_ble_eq_true rfl), (Nat.le_of_ble_eq_true rfl)⟩ rfl rfl (As := [.int (mI S3 b1 4), .int (mI S3 b2 4)]) (rest := []) rfl rfl (Nat.le_of_ble_eq_true rfl) dX2_canStrike_37 ⟨by show cells + 0 ≤ 0; omega, by show slots + 0 ≤ 0; omega⟩) (kx_out C hex (fun _ _ _ h => h) (by omega) (by omega)) (fun r7 S6 H locs P hE hw => ?_)
        have p_a0 : pI S6 2 a0 := pI_x hE p_a0
        have p_b1 : pI S6 7 b1 := pI_x hE p_b1
        have p_b2 : pI S6 7 b2 := pI_x hE p_b2
        have p_a5 : pI S6 3 a5 := pI_x hE p_a5
        refine rt_gN C P (i := 3) (by decide) rfl (List.mem_of_getElem? (i := 4) rfl) dX2_canStrike_40 (fun t8 ht8 => ?_)
        refine lv_aload_n hx hb dX2_canStrike_43 rfl (lv_at hl 1 rfl) ?_
        refine gf_7_2 C P p_b1 q_101 dX2_canStrike_44 ?_
        obtain ⟨h1, hw⟩ := hw
        refine rt_l (i := 3) C P ht8 h1 dX2_canStrike_47 ?_
        refine lv_icmp_gt (tgt := 73) hx hb dX2_canStrike_48 (by decide) (fun hc => ?_) (fun hc => ?_)
        · have hw := hw.1 hc
          refine lv_iconst (v := 0) hx hb dX2_canStrike_73 (by decide) ?_
          exact e_i C hr (by decide +kernel) P hw (by omega) (by omega) dX2_canStrike_74
        · have hw := hw.2 hc
          refine lv_aload_n hx hb dX2_canStrike_51 rfl (lv_at hl 0 rfl) ?_
          obtain ⟨a9, e1, hw⟩ := hw
          have p_a9 : pI S6 3 a9 := wf_r P.2.2.2.1 p_a0 e1
          refine gf_2_0 C P p_a0 e1 q_161 dX2_canStrike_52 ?_
          refine lv_aload_n hx hb dX2_canStrike_55 rfl (lv_at hl 1 rfl) ?_
          refine gf_7_4 C P p_b1 q_107 dX2_canStrike_56 ?_
          refine lv_aload_n hx hb dX2_canStrike_59 rfl (lv_at hl 2 rfl) ?_
          refine gf_7_4 C P p_b2 q_107 dX2_canStrike_60 ?_
          refine cl_i C P (run_V C P hl.1 (kd := 3) (met_X3_isClear (CF_n C) G H.size _ _ S6 a9 (mI S6 b1 4) (mI S6 b2 4) p_a9 hw) p_a9 (by decide) rfl q_972 q_742 q_743 q_3 q_744 cd_X3_isClear ⟨(Nat.le_of_ble_eq_true rfl), (Nat.le_of_ble_eq_true rfl)⟩ rfl rfl (As := [.int (mI S6 b1 4), .int (mI S6 b2 4)]) (rest := []) rfl rfl (Nat.le_of_ble_eq_true rfl) dX2_canStrike_63 ⟨by show cells + 0 ≤ 0; omega, by show slots + 0 ≤ 0; omega⟩) (kx_out C hex (fun _ _ _ h => h) (by omega) (by omega)) (fun r11 S10 H locs P hE hw => ?_)
          have p_a9 : pI S10 3 a9 := pI_x hE p_a9
          refine lv_if_eq (tgt := 73) hx hb dX2_canStrike_66 (by decide) (fun hc => ?_) (fun hc => ?_)
          · have hw := hw.1 hc
            refine lv_iconst (v := 0) hx hb dX2_canStrike_73 (by decide) ?_
            exact e_i C hr (by decide +kernel) P hw (by omega) (by omega) dX2_canStrike_74
          · have hw := hw.2 hc
            refine lv_iconst (v := 1) hx hb dX2_canStrike_69 (by decide) ?_
            refine lv_goto (tgt := 74) hx hb dX2_canStrike_70 (by decide) ?_
            exact e_i C hr (by decide +kernel) P hw (by omega) (by omega) dX2_canStrike_74
def wp_X2_canStrike (Q : Int32 → MS → Prop) (QX : String → MS → Prop) (S : MS) (a0 : Nat) (b1 : Nat) (b2 : Nat) : Prop := wX2_canStrike_0 Q QX S a0 b1 b2
set_option maxHeartbeats 4000000 in
set_option maxRecDepth 100000 in
theorem met_X2_canStrike {l : Launch} (hst : l.stackTraces = false) (G : GP) (sz : Nat) (Q : Int32 → MS → Prop) (QX : String → MS → Prop) (S : MS) (a0 : Nat) (b1 : Nat) (b2 : Nat) (p_a0 : pI S 2 a0) (p_b1 : pI S 7 b1) (p_b2 : pI S 7 b2) (hw : wp_X2_canStrike Q QX S a0 b1 b2) : vx_Met l yX2_canStrike (.code yX2_canStrike cX2_canStrike 3 (some .boolean) :: GW) rmX2_canStrike (va_Pc [.ref a0, .ref b1, .ref b2] (PR G S sz)) (QI G S (FA G S sz) Q) (XX G S (FA G S sz) QX) 0 0 (FA G S sz) := by
  refine st_m (by decide +kernel) hst (fun p e s m below meth c C hr hnm hex P => ?_)
  refine en_m (Nat.le_of_ble_eq_true rfl) (lv := [(0, .ref a0), (1, .ref b1), (2, .ref b2)]) rfl (fun ls hl => ?_)
  have C : CF p l s m _ meth c "SkirmishGrid$Fight" cX2_canStrike 3 G (FA G S sz) := C
  exact tX2_canStrike_0 C hr hex Q QX S a0 b1 b2 p_a0 p_b1 p_b2 P hl (by omega) (by omega) hw
theorem cd_X2_canStrike : yX2_canStrike.cls = RX2 ∧ yX2_canStrike.cls ≠ "java/lang/invoke/MethodHandle" ∧ yX2_canStrike.cls ≠ "java/lang/invoke/VarHandle" ∧ (parseMethodDescriptor yX2_canStrike.desc).map (fun d => d.parameters.length) = some 2 := by decide +kernel
abbrev rmX2_neededResult : Room := { frames := 2, cells := 0, slots := 0, locals := 84 }
def wX2_neededResult_48 (Q : Int32 → MS → Prop) (QX : String → MS → Prop) (S : MS) (u1 : Nat) (z0 : Int32) (z1 : Int32) : Prop := (vp_in (mI S u1 2) 4 ∧ Q ((z1 + z0) - (tbI 2 (mI S u1 2))) S)
set_option maxHeartbeats 4000000 in
set_option maxRecDepth 100000 in
theorem tX2_neededResult_48 {p : Program} {l : Launch} {e : Env} {s : State} {m : MethodId} {args : Array Value} {below : List Frame} {meth : Method} {c : Code} {H : Heap} {locs : List Loc} {cells slots : Nat} {G : GP} {A : Nat → Prop} {S0 : MS} {ls : Array Slot} (C : CF p l s m args meth c "SkirmishGrid$Fight" cX2_neededResult 3 G A) (hr : meth.sig.returnType = (some .int)) (hex : ∀ x ∈ c.exceptionTable.toList, False) (Q : Int32 → MS → Prop) (QX : String → MS → Prop) (S : MS) (u1 : Nat) (z0 : Int32) (z1 : Int32) (p_u1 : pI S 7 u1) (P : PW G A s H locs S0 S) (hl : lv_has ls 3 [(1, .ref u1)]) (hcc : cells + 0 ≤ 0) (hss : slots + 0 ≤ 0) (hw : wX2_neededResult_48 Q QX S u1 z0 z1) : W p l e rmX2_neededResult s m args below meth c H locs cells slots (vx_MQ below (QI G S0 A Q) (XX G S0 A QX) args s 0 0 A) (F0 m 48 ls [.int z0, .int z1]) := by
  have hx := CF_x C
  have hb := CF_b C
  unfold wX2_neededResult_48 at hw
  refine lv_iadd hx hb dX2_neededResult_48 ?_
  refine rt_gN C P (i := 2) (by decide) rfl (List.mem_of_getElem? (i := 5) rfl) dX2_neededResult_49 (fun t1 ht1 => ?_)
  refine lv_aload_n hx hb dX2_neededResult_52 rfl (lv_at hl 0 rfl) ?_
  refine gf_7_2 C P p_u1 q_101 dX2_neededResult_53 ?_
  obtain ⟨h1, hw⟩ := hw
  refine rt_l (i := 2) C P ht1 h1 dX2_neededResult_56 ?_
  refine lv_isub hx hb dX2_neededResult_57 ?_
  exact e_i C hr rfl P hw (by omega) (by omega) dX2_neededResult_58
def wX2_neededResult_0 (Q : Int32 → MS → Prop) (QX : String → MS → Prop) (S : MS) (a0 : Nat) (b1 : Nat) (b2 : Nat) : Prop := (∃ a1, mR S a0 0 = some a1 ∧ wp_X3_distance (fun r3 S2 => (∃ a4, mR S2 a0 0 = some a4 ∧ wp_X3_coverOf (fun r6 S5 => (((mI S5 b2 11) = 0 → wX2_neededResult_48 Q QX S5 b1 0 ((8 + r3) + (3 * r6))) ∧ (¬ (mI S5 b2 11) = 0 → wX2_neededResult_48 Q QX S5 b1 2 ((8 + r3) + (3 * r6))))) QX S2 a4 (mI S2 b2 4) (mI S2 b1 4))) QX S a1 (mI S b1 4) (mI S b2 4))
set_option maxHeartbeats 4000000 in
set_option maxRecDepth 100000 in
theorem tX2_neededResult_0 {p : Program} {l : Launch} {e : Env} {s : State} {m : MethodId} {args : Array Value} {below : List Frame} {meth : Method} {c : Code} {H : Heap} {locs : List Loc} {cells slots : Nat} {G : GP} {A : Nat → Prop} {S0 : MS} {ls : Array Slot} (C : CF p l s m args meth c "SkirmishGrid$Fight" cX2_neededResult 3 G A) (hr : meth.sig.returnType = (some .int)) (hex : ∀ x ∈ c.exceptionTable.toList, False) (Q : Int32 → MS → Prop) (QX : String → MS → Prop) (S : MS) (a0 : Nat) (b1 : Nat) (b2 : Nat) (p_a0 : pI S 2 a0) (p_b1 : pI S 7 b1) (p_b2 : pI S 7 b2) (P : PW G A s H locs S0 S) (hl : lv_has ls 3 [(0, .ref a0), (1, .ref b1), (2, .ref b2)]) (hcc : cells + 0 ≤ 0) (hss : slots + 0 ≤ 0) (hw : wX2_neededResult_0 Q QX S a0 b1 b2) : W p l e rmX2_neededResult s m args below meth c H locs cells slots (vx_MQ below (QI G S0 A Q) (XX G S0 A QX) args s 0 0 A) (F0 m 0 ls []) := by
  have hx := CF_x C
  have hb := CF_b C
  unfold wX2_neededResult_0 at hw
  refine lv_bipush (v := 8) hx hb dX2_neededResult_0 (by decide) ?_
  refine lv_aload_n hx hb dX2_neededResult_2 rfl (lv_at hl 0 rfl) ?_
  obtain ⟨a1, e1, hw⟩ := hw
  have p_a1 : pI S 3 a1 := wf_r P.2.2.2.1 p_a0 e1
  refine gf_2_0 C P p_a0 e1 q_161 dX2_neededResult_3 ?_
  refine lv_aload_n hx hb dX2_neededResult_6 rfl (lv_at hl 1 rfl) ?_
  refine gf_7_4 C P p_b1 q_107 dX2_neededResult_7 ?_
  refine lv_aload_n hx hb dX2_neededResult_10 rfl (lv_at hl 2 rfl) ?_
  refine gf_7_4 C P p_b2 q_107 dX2_neededResult_11 ?_
  refine cl_i C P (run_V C P hl.1 (kd := 3) (met_X3_distance (CF_n C) G H.size _ _ S a1 (mI S b1 4) (mI S b2 4) p_a1 hw) p_a1 (by decide) rfl q_965 q_966 q_967 q_3 q_968 cd_X3_distance ⟨(Nat.le_of_ble_eq_true rfl), (Nat.le_of_ble_eq_true rfl)⟩ rfl rfl (As := [.int (mI S b1 4), .int (mI S b2 4)]) (rest := [.int 8]) rfl rfl (Nat.le_of_ble_eq_true rfl) dX2_neededResult_14 ⟨by show cells + 0 ≤ 0; omega, by show slots + 0 ≤ 0; omega⟩) (kx_out C hex (fun _ _ _ h => h) (by omega) (by omega)) (fun r3 S2 H locs P hE hw => ?_)
  have p_a0 : pI S2 2 a0 := pI_x hE p_a0
  have p_b1 : pI S2 7 b1 := pI_x hE p_b1
  have p_b2 : pI S2 7 b2 := pI_x hE p_b2
  have p_a1 : pI S2 3 a1 := pI_x hE p_a1
  refine lv_iadd hx hb dX2_neededResult_17 ?_
  refine lv_iconst (v := 3) hx hb dX2_neededResult_18 (by decide) ?_
  refine lv_aload_n hx hb dX2_neededResult_19 rfl (lv_at hl 0 rfl) ?_
  obtain ⟨a4, e1, hw⟩ := hw
  have p_a4 : pI S2 3 a4 := wf_r P.2.2.2.1 p_a0 e1
  refine gf_2_0 C P p_a0 e1 q_161 dX2_neededResult_20 ?_
  refine lv_aload_n hx hb dX2_neededResult_23 rfl (lv_at hl 2 rfl) ?_
  refine gf_7_4 C P p_b2 q_107 dX2_neededResult_24 ?_
  refine lv_aload_n hx hb dX2_neededResult_27 rfl (lv_at hl 1 rfl) ?_
  refine gf_7_4 C P p_b1 q_107 dX2_neededResult_28 ?_
  refine cl_i C P (run_V C P hl.1 (kd := 3) (met_X3_coverOf (CF_n C) G H.size _ _ S2 a4 (mI S2 b2 4) (mI S2 b1 4) p_a4 hw) p_a4 (by decide) rfl q_982 q_769 q_770 q_3 q_771 cd_X3_coverOf ⟨(Nat.le_of_ble_eq_true rfl), (Nat.le_of_ble_eq_true rfl)⟩ rfl rfl (As := [.int (mI S2 b2 4), .int (mI S2 b1 4)]) (rest := [.int 3, .int (8 + r3)]) rfl rfl (Nat.le_of_ble_eq_true rfl) dX2_neededResult_31 ⟨by show cells + 0 ≤ 0; omega, by show slots + 0 ≤ 0; omega⟩) (kx_out C hex (fun _ _ _ h => h) (by omega) (by omega)) (fun r6 S5 H locs P hE hw => ?_)
  have p_b1 : pI S5 7 b1 := pI_x hE p_b1
  have p_b2 : pI S5 7 b2 := pI_x hE p_b2
  have p_a4 : pI S5 3 a4 := pI_x hE p_a4
  refine lv_imul hx hb dX2_neededResult_34 ?_
  refine lv_iadd hx hb dX2_neededResult_35 ?_
  refine lv_aload_n hx hb dX2_neededResult_36 rfl (lv_at hl 2 rfl) ?_
  refine gf_7_11 C P p_b2 q_130 dX2_neededResult_37 ?_
  refine lv_if_eq (tgt := 47) hx hb dX2_neededResult_40 (by decide) (fun hc => ?_) (fun hc => ?_)
  · have hw := hw.1 hc
    refine lv_iconst (v := 0) hx hb dX2_neededResult_47 (by decide) ?_
    exact tX2_neededResult_48 C hr hex Q QX S5 b1 0 ((8 + r3) + (3 * r6)) p_b1 P (lv_sub hl [1] rfl) (by omega) (by omega) hw
  · have hw := hw.2 hc
    refine lv_iconst (v := 2) hx hb dX2_neededResult_43 (by decide) ?_
    refine lv_goto (tgt := 48) hx hb dX2_neededResult_44 (by decide) ?_
    exact tX2_neededResult_48 C hr hex Q QX S5 b1 2 ((8 + r3) + (3 * r6)) p_b1 P (lv_sub hl [1] rfl) (by omega) (by omega) hw
def wp_X2_neededResult (Q : Int32 → MS → Prop) (QX : String → MS → Prop) (S : MS) (a0 : Nat) (b1 : Nat) (b2 : Nat) : Prop := wX2_neededResult_0 Q QX S a0 b1 b2
set_option maxHeartbeats 4000000 in
set_option maxRecDepth 100000 in
theorem met_X2_neededResult {l : Launch} (hst : l.stackTraces = false) (G : GP) (sz : Nat) (Q : Int32 → MS → Prop) (QX : String → MS → Prop) (S : MS) (a0 : Nat) (b1 : Nat) (b2 : Nat) (p_a0 : pI S 2 a0) (p_b1 : pI S 7 b1) (p_b2 : pI S 7 b2) (hw : wp_X2_neededResult Q QX S a0 b1 b2) : vx_Met l yX2_neededResult (.code yX2_neededResult cX2_neededResult 3 (some .int) :: GW) rmX2_neededResult (va_Pc [.ref a0, .ref b1, .ref b2] (PR G S sz)) (QI G S (FA G S sz) Q) (XX G S (FA G S sz) QX) 0 0 (FA G S sz) := by
  refine st_m (by decide +kernel) hst (fun p e s m below meth c C hr hnm hex P => ?_)
  refine en_m (Nat.le_of_ble_eq_true rfl) (lv := [(0, .ref a0), (1, .ref b1), (2, .ref b2)]) rfl (fun ls hl => ?_)
  have C : CF p l s m _ meth c "SkirmishGrid$Fight" cX2_neededResult 3 G (FA G S sz) := C
  exact tX2_neededResult_0 C hr hex Q QX S a0 b1 b2 p_a0 p_b1 p_b2 P hl (by omega) (by omega) hw
theorem cd_X2_neededResult : yX2_neededResult.cls = RX2 ∧ yX2_neededResult.cls ≠ "java/lang/invoke/MethodHandle" ∧ yX2_neededResult.cls ≠ "java/lang/invoke/VarHandle" ∧ (parseMethodDescriptor yX2_neededResult.desc).map (fun d => d.parameters.length) = some 2 := by decide +kernel
abbrev rmX2_isHit : Room := { frames := 0, cells := 0, slots := 0, locals := 0 }
def wX2_isHit_0 (Q : Int32 → MS → Prop) (QX : String → MS → Prop) (S : MS) (x1 : Int32) (x2 : Int32) : Prop := ((x1 = 20 → Q 1 S) ∧ (¬ x1 = 20 → ((x1 ≤ 1 → Q 0 S) ∧ (¬ x1 ≤ 1 → ((x1 < x2 → Q 0 S) ∧ (¬ x1 < x2 → Q 1 S))))))
set_option maxHeartbeats 4000000 in
set_option maxRecDepth 100000 in
theorem tX2_isHit_0 {p : Program} {l : Launch} {e : Env} {s : State} {m : MethodId} {args : Array Value} {below : List Frame} {meth : Method} {c : Code} {H : Heap} {locs : List Loc} {cells slots : Nat} {G : GP} {A : Nat → Prop} {S0 : MS} {ls : Array Slot} (C : CF p l s m args meth c "SkirmishGrid$Fight" cX2_isHit 2 G A) (hr : meth.sig.returnType = (some .boolean)) (hex : ∀ x ∈ c.exceptionTable.toList, False) (Q : Int32 → MS → Prop) (QX : String → MS → Prop) (S : MS) (x1 : Int32) (x2 : Int32) (P : PW G A s H locs S0 S) (hl : lv_has ls 2 [(0, .int x1), (1, .int x2)]) (hcc : cells + 0 ≤ 0) (hss : slots + 0 ≤ 0) (hw : wX2_isHit_0 Q QX S x1 x2) : W p l e rmX2_isHit s m args below meth c H locs cells slots (vx_MQ below (QI G S0 A Q) (XX G S0 A QX) args s 0 0 A) (F0 m 0 ls []) := by
  have hx := CF_x C
  have hb := CF_b C
  unfold wX2_isHit_0 at hw
  refine lv_iload_n hx hb dX2_isHit_0 rfl (lv_at hl 0 rfl) ?_
  refine lv_bipush (v := 20) hx hb dX2_isHit_1 (by decide) ?_
  refine lv_icmp_eq (tgt := 16) hx hb dX2_isHit_3 (by decide) (fun hc => ?_) (fun hc => ?_)
  · have hw := hw.1 hc
    refine lv_iconst (v := 1) hx hb dX2_isHit_16 (by decide) ?_
    refine lv_goto (tgt := 21) hx hb dX2_isHit_17 (by decide) ?_
    exact e_i C hr (by decide +kernel) P hw (by omega) (by omega) dX2_isHit_21
  · have hw := hw.2 hc
    refine lv_iload_n hx hb dX2_isHit_6 rfl (lv_at hl 0 rfl) ?_
    refine lv_iconst (v := 1) hx hb dX2_isHit_7 (by decide) ?_
    refine lv_icmp_le (tgt := 20) hx hb dX2_isHit_8 (by decide) (fun hc => ?_) (fun hc => ?_)
    · have hw := hw.1 hc
      refine lv_iconst (v := 0) hx hb dX2_isHit_20 (by decide) ?_
      exact e_i C hr (by decide +kernel) P hw (by omega) (by omega) dX2_isHit_21
    · have hw := hw.2 hc
      refine lv_iload_n hx hb dX2_isHit_11 rfl (lv_at hl 0 rfl) ?_
      refine lv_iload_n hx hb dX2_isHit_12 rfl (lv_at hl 1 rfl) ?_
      refine lv_icmp_lt (tgt := 20) hx hb dX2_isHit_13 (by decide) (fun hc => ?_) (fun hc => ?_)
      · have hw := hw.1 hc
        refine lv_iconst (v := 0) hx hb dX2_isHit_20 (by decide) ?_
        exact e_i C hr (by decide +kernel) P hw (by omega) (by omega) dX2_isHit_21
      · have hw := hw.2 hc
        refine lv_iconst (v := 1) hx hb dX2_isHit_16 (by decide) ?_
        refine lv_goto (tgt := 21) hx hb dX2_isHit_17 (by decide) ?_
        exact e_i C hr (by decide +kernel) P hw (by omega) (by omega) dX2_isHit_21
def wp_X2_isHit (Q : Int32 → MS → Prop) (QX : String → MS → Prop) (S : MS) (x1 : Int32) (x2 : Int32) : Prop := wX2_isHit_0 Q QX S x1 x2
set_option maxHeartbeats 4000000 in
set_option maxRecDepth 100000 in
theorem met_X2_isHit {l : Launch} (hst : l.stackTraces = false) (G : GP) (sz : Nat) (Q : Int32 → MS → Prop) (QX : String → MS → Prop) (S : MS) (x1 : Int32) (x2 : Int32) (hw : wp_X2_isHit Q QX S x1 x2) : vx_Met l yX2_isHit (.code yX2_isHit cX2_isHit 2 (some .boolean) :: GW) rmX2_isHit (va_Pc [.int x1, .int x2] (PR G S sz)) (QI G S (FA G S sz) Q) (XX G S (FA G S sz) QX) 0 0 (FA G S sz) := by
  refine st_m (by decide +kernel) hst (fun p e s m below meth c C hr hnm hex P => ?_)
  refine en_m (Nat.le_of_ble_eq_true rfl) (lv := [(0, .int x1), (1, .int x2)]) rfl (fun ls hl => ?_)
  have C : CF p l s m _ meth c "SkirmishGrid$Fight" cX2_isHit 2 G (FA G S sz) := C
  exact tX2_isHit_0 C hr hex Q QX S x1 x2 P hl (by omega) (by omega) hw
theorem cd_X2_isHit : yX2_isHit.cls = RX2 ∧ yX2_isHit.cls ≠ "java/lang/invoke/MethodHandle" ∧ yX2_isHit.cls ≠ "java/lang/invoke/VarHandle" ∧ (parseMethodDescriptor yX2_isHit.desc).map (fun d => d.parameters.length) = some 2 := by decide +kernel
abbrev rmX2_damageOf : Room := { frames := 1, cells := 0, slots := 0, locals := 60 }
def wX2_damageOf_0 (Q : Int32 → MS → Prop) (QX : String → MS → Prop) (S : MS) (b1 : Nat) (b2 : Nat) (x3 : Int32) (x4 : Int32) : Prop := (vp_in (mI S b1 2) 4 ∧ (vp_in (mI S b2 2) 4 ∧ ((¬ x3 = 20 → Q (if 1 < ((x4 + (tbI 6 (mI S b1 2))) - (tbI 1 (mI S b2 2))) then ((x4 + (tbI 6 (mI S b1 2))) - (tbI 1 (mI S b2 2))) else 1) S) ∧ (x3 = 20 → Q (2 * (if 1 < ((x4 + (tbI 6 (mI S b1 2))) - (tbI 1 (mI S b2 2))) then ((x4 + (tbI 6 (mI S b1 2))) - (tbI 1 (mI S b2 2))) else 1)) S))))
set_option maxHeartbeats 4000000 in
set_option maxRecDepth 100000 in
theorem tX2_damageOf_0 {p : Program} {l : Launch} {e : Env} {s : State} {m : MethodId} {args : Array Value} {below : List Frame} {meth : Method} {c : Code} {H : Heap} {locs : List Loc} {cells slots : Nat} {G : GP} {A : Nat → Prop} {S0 : MS} {ls : Array Slot} (C : CF p l s m args meth c "SkirmishGrid$Fight" cX2_damageOf 5 G A) (hr : meth.sig.returnType = (some .int)) (hex : ∀ x ∈ c.exceptionTable.toList, False) (Q : Int32 → MS → Prop) (QX : String → MS → Prop) (S : MS) (b1 : Nat) (b2 : Nat) (x3 : Int32) (x4 : Int32) (p_b1 : pI S 7 b1) (p_b2 : pI S 7 b2) (P : PW G A s H locs S0 S) (hl : lv_has ls 5 [(0, .ref b1), (1, .ref b2), (2, .int x3), (3, .int x4)]) (hcc : cells + 0 ≤ 0) (hss : slots + 0 ≤ 0) (hw : wX2_damageOf_0 Q QX S b1 b2 x3 x4) : W p l e rmX2_damageOf s m args below meth c H locs cells slots (vx_MQ below (QI G S0 A Q) (XX G S0 A QX) args s 0 0 A) (F0 m 0 ls []) := by
  have hx := CF_x C
  have hb := CF_b C
  unfold wX2_damageOf_0 at hw
  refine lv_iconst (v := 1) hx hb dX2_damageOf_0 (by decide) ?_
  refine lv_iload_n hx hb dX2_damageOf_1 rfl (lv_at hl 3 rfl) ?_
  refine rt_gN C P (i := 6) (by decide) rfl (List.mem_of_getElem? (i := 6) rfl) dX2_damageOf_2 (fun t1 ht1 => ?_)
  refine lv_aload_n hx hb dX2_damageOf_5 rfl (lv_at hl 0 rfl) ?_
  refine gf_7_2 C P p_b1 q_101 dX2_damageOf_6 ?_
  obtain ⟨h1, hw⟩ := hw
  refine rt_l (i := 6) C P ht1 h1 dX2_damageOf_9 ?_
  refine lv_iadd hx hb dX2_damageOf_10 ?_
  refine rt_gN C P (i := 1) (by decide) rfl (List.mem_of_getElem? (i := 7) rfl) dX2_damageOf_11 (fun t2 ht2 => ?_)
  refine lv_aload_n hx hb dX2_damageOf_14 rfl (lv_at hl 1 rfl) ?_
  refine gf_7_2 C P p_b2 q_101 dX2_damageOf_15 ?_
  obtain ⟨h1, hw⟩ := hw
  refine rt_l (i := 1) C P ht2 h1 dX2_damageOf_18 ?_
  refine lv_isub hx hb dX2_damageOf_19 ?_
  refine va_mmax hx hb ((CF_m C).trans hl.1.symm) (CF_o C) (CF_t C _ q_1007) (CF_t C _ q_539) (CF_t C _ q_18) (CF_t C _ q_540) (Nat.le_of_ble_eq_true rfl) (Nat.le_of_ble_eq_true rfl) (by show cells ≤ 0; omega) (by show slots ≤ 0; omega) dX2_damageOf_20 ?_
  refine lv_istore (lv' := [(4, .int (if 1 < ((x4 + (tbI 6 (mI S b1 2))) - (tbI 1 (mI S b2 2))) then ((x4 + (tbI 6 (mI S b1 2))) - (tbI 1 (mI S b2 2))) else 1)), (0, .ref b1), (1, .ref b2), (2, .int x3), (3, .int x4)]) hx hb dX2_damageOf_23 hl (by decide) rfl (fun ls hl => ?_)
  refine lv_iload_n hx hb dX2_damageOf_25 rfl (lv_at hl 3 rfl) ?_
  refine lv_bipush (v := 20) hx hb dX2_damageOf_26 (by decide) ?_
  refine lv_icmp_ne (tgt := 38) hx hb dX2_damageOf_28 (by decide) (fun hc => ?_) (fun hc => ?_)
  · have hw := hw.1 hc
    refine lv_iload hx hb dX2_damageOf_38 (lv_at hl 0 rfl) ?_
    exact e_i C hr rfl P hw (by omega) (by omega) dX2_damageOf_40
  · have hw := hw.2 hc
    refine lv_iconst (v := 2) hx hb dX2_damageOf_31 (by decide) ?_
    refine lv_iload hx hb dX2_damageOf_32 (lv_at hl 0 rfl) ?_
    refine lv_imul hx hb dX2_damageOf_34 ?_
    refine lv_goto (tgt := 40) hx hb dX2_damageOf_35 (by decide) ?_
    exact e_i C hr rfl P hw (by omega) (by omega) dX2_damageOf_40
def wp_X2_damageOf (Q : Int32 → MS → Prop) (QX : String → MS → Prop) (S : MS) (b1 : Nat) (b2 : Nat) (x3 : Int32) (x4 : Int32) : Prop := wX2_damageOf_0 Q QX S b1 b2 x3 x4
set_option maxHeartbeats 4000000 in
set_option maxRecDepth 100000 in
theorem met_X2_damageOf {l : Launch} (hst : l.stackTraces = false) (G : GP) (sz : Nat) (Q : Int32 → MS → Prop) (QX : String → MS → Prop) (S : MS) (b1 : Nat) (b2 : Nat) (x3 : Int32) (x4 : Int32) (p_b1 : pI S 7 b1) (p_b2 : pI S 7 b2) (hw : wp_X2_damageOf Q QX S b1 b2 x3 x4) : vx_Met l yX2_damageOf (.code yX2_damageOf cX2_damageOf 5 (some .int) :: GW) rmX2_damageOf (va_Pc [.ref b1, .ref b2, .int x3, .int x4] (PR G S sz)) (QI G S (FA G S sz) Q) (XX G S (FA G S sz) QX) 0 0 (FA G S sz) := by
  refine st_m (by decide +kernel) hst (fun p e s m below meth c C hr hnm hex P => ?_)
  refine en_m (Nat.le_of_ble_eq_true rfl) (lv := [(0, .ref b1), (1, .ref b2), (2, .int x3), (3, .int x4)]) rfl (fun ls hl => ?_)
  have C : CF p l s m _ meth c "SkirmishGrid$Fight" cX2_damageOf 5 G (FA G S sz) := C
  exact tX2_damageOf_0 C hr hex Q QX S b1 b2 x3 x4 p_b1 p_b2 P hl (by omega) (by omega) hw
theorem cd_X2_damageOf : yX2_damageOf.cls = RX2 ∧ yX2_damageOf.cls ≠ "java/lang/invoke/MethodHandle" ∧ yX2_damageOf.cls ≠ "java/lang/invoke/VarHandle" ∧ (parseMethodDescriptor yX2_damageOf.desc).map (fun d => d.parameters.length) = some 4 := by decide +kernel
abbrev rmX2_countHits : Room := { frames := 3, cells := 0, slots := 0, locals := 106 }
def wX2_countHits_13 (Q : Int32 → MS → Prop) (QX : String → MS → Prop) (k13 : MS → Int32 → Int32 → Int32 → Prop) (S : MS) (y3 : Int32) (y4 : Int32) (y5 : Int32) : Prop := ((20 < y5 → Q y4 S) ∧ (¬ 20 < y5 → wp_X2_isHit (fun r2 S1 => ((r2 = 0 → k13 S1 y3 y4 (y5 + 1)) ∧ (¬ r2 = 0 → k13 S1 y3 (y4 + 1) (y5 + 1)))) QX S y5 y3))
set_option maxHeartbeats 4000000 in
set_option maxRecDepth 100000 in
theorem tX2_countHits_13 {p : Program} {l : Launch} {e : Env} {s : State} {m : MethodId} {args : Array Value} {below : List Frame} {meth : Method} {c : Code} {H : Heap} {locs : List Loc} {cells slots : Nat} {G : GP} {A : Nat → Prop} {S0 : MS} {ls : Array Slot} (C : CF p l s m args meth c "SkirmishGrid$Fight" cX2_countHits 6 G A) (hr : meth.sig.returnType = (some .int)) (hex : ∀ x ∈ c.exceptionTable.toList, False) (Q : Int32 → MS → Prop) (QX : String → MS → Prop) (k13 : MS → Int32 → Int32 → Int32 → Prop) (kh13 : ∀ (S : MS) (y3 : Int32) (y4 : Int32) (y5 : Int32) (cells slots : Nat) (H : Heap) (locs : List Loc) (ls : Array Slot), PW G A s H locs S0 S → lv_has ls 6 [(3, .int y3), (4, .int y4), (5, .int y5)] → cells + 0 ≤ 0 → slots + 0 ≤ 0 → k13 S y3 y4 y5 → W p l e rmX2_countHits s m args below meth c H locs cells slots (vx_MQ below (QI G S0 A Q) (XX G S0 A QX) args s 0 0 A) (F0 m 13 ls [])) (S : MS) (y3 : Int32) (y4 : Int32) (y5 : Int32) (P : PW G A s H locs S0 S) (hl : lv_has ls 6 [(3, .int y3), (4, .int y4), (5, .int y5)]) (hcc : cells + 0 ≤ 0) (hss : slots + 0 ≤ 0) (hw : wX2_countHits_13 Q QX k13 S y3 y4 y5) : W p l e rmX2_countHits s m args below meth c H locs cells slots (vx_MQ below (QI G S0 A Q) (XX G S0 A QX) args s 0 0 A) (F0 m 13 ls []) := by
  have hx := CF_x C
  have hb := CF_b C
  unfold wX2_countHits_13 at hw
  refine lv_iload hx hb dX2_countHits_13 (lv_at hl 2 rfl) ?_
  refine lv_bipush (v := 20) hx hb dX2_countHits_15 (by decide) ?_
  refine lv_icmp_gt (tgt := 38) hx hb dX2_countHits_17 (by decide) (fun hc => ?_) (fun hc => ?_)
  · have hw := hw.1 hc
    refine lv_iload hx hb dX2_countHits_38 (lv_at hl 1 rfl) ?_
    exact e_i C hr rfl P hw (by omega) (by omega) dX2_countHits_40
  · have hw := hw.2 hc
    refine lv_iload hx hb dX2_countHits_20 (lv_at hl 2 rfl) ?_
    refine lv_iload_n hx hb dX2_countHits_22 rfl (lv_at hl 0 rfl) ?_
    refine cl_i C P (run_S C P hl.1 (met_X2_isHit (CF_n C) G H.size _ _ S y5 y3 hw) q_985 q_986 q_2 q_987 cd_X2_isHit.2 ⟨(Nat.le_of_ble_eq_true rfl), (Nat.le_of_ble_eq_true rfl)⟩ rfl rfl (As := [.int y5, .int y3]) (rest := []) rfl rfl (Nat.le_of_ble_eq_true rfl) dX2_countHits_23 ⟨by show cells + 0 ≤ 0; omega, by show slots + 0 ≤ 0; omega⟩) (kx_out C hex (fun _ _ _ h => h) (by omega) (by omega)) (fun r2 S1 H locs P hE hw => ?_)
    refine lv_if_eq (tgt := 32) hx hb dX2_countHits_26 (by decide) (fun hc => ?_) (fun hc => ?_)
    · have hw := hw.1 hc
      refine lv_iinc (v := (y5 + 1)) (lv' := [(5, .int (y5 + 1)), (3, .int y3), (4, .int y4)]) hx hb dX2_countHits_32 hl (k := 2) rfl (by rfl) (by decide) rfl (fun ls hl => ?_)
      refine lv_goto (tgt := 13) hx hb dX2_countHits_35 (by decide) ?_
      exact kh13 S1 y3 y4 (y5 + 1) _ _ _ _ _ P (lv_sub hl [1, 2, 0] rfl) (by omega) (by omega) hw
    · have hw := hw.2 hc
      refine lv_iinc (v := (y4 + 1)) (lv' := [(4, .int (y4 + 1)), (3, .int y3), (5, .int y5)]) hx hb dX2_countHits_29 hl (k := 1) rfl (by rfl) (by decide) rfl (fun ls hl => ?_)
      refine lv_iinc (v := (y5 + 1)) (lv' := [(5, .int (y5 + 1)), (4, .int (y4 + 1)), (3, .int y3)]) hx hb dX2_countHits_32 hl (k := 2) rfl (by rfl) (by decide) rfl (fun ls hl => ?_)
      refine lv_goto (tgt := 13) hx hb dX2_countHits_35 (by decide) ?_
      exact kh13 S1 y3 (y4 + 1) (y5 + 1) _ _ _ _ _ P (lv_sub hl [2, 1, 0] rfl) (by omega) (by omega) hw
def lX2_countHits_13 (Q : Int32 → MS → Prop) (QX : String → MS → Prop) : Nat → MS → Int32 → Int32 → Int32 → Prop
  | 0 => fun _ _ _ _ => False
  | n + 1 => fun S y3 y4 y5 => wX2_countHits_13 Q QX (lX2_countHits_13 Q QX n) S y3 y4 y5
theorem tlX2_countHits_13 {p : Program} {l : Launch} {e : Env} {s : State} {m : MethodId} {args : Array Value} {below : List Frame} {meth : Method} {c : Code} {G : GP} {A : Nat → Prop} {S0 : MS} (C : CF p l s m args meth c "SkirmishGrid$Fight" cX2_countHits 6 G A) (hr : meth.sig.returnType = (some .int)) (hex : ∀ x ∈ c.exceptionTable.toList, False) (Q : Int32 → MS → Prop) (QX : String → MS → Prop) : ∀ (n : Nat), ∀ (S : MS) (y3 : Int32) (y4 : Int32) (y5 : Int32) (cells slots : Nat) (H : Heap) (locs : List Loc) (ls : Array Slot), PW G A s H locs S0 S → lv_has ls 6 [(3, .int y3), (4, .int y4), (5, .int y5)] → cells + 0 ≤ 0 → slots + 0 ≤ 0 → lX2_countHits_13 Q QX n S y3 y4 y5 → W p l e rmX2_countHits s m args below meth c H locs cells slots (vx_MQ below (QI G S0 A Q) (XX G S0 A QX) args s 0 0 A) (F0 m 13 ls []) := by
  intro n
  induction n with
  | zero => intro S y3 y4 y5 cells slots H locs ls P hl hcc hss hw; exact hw.elim
  | succ n ih => intro S y3 y4 y5 cells slots H locs ls P hl hcc hss hw; exact tX2_countHits_13 C hr hex Q QX (lX2_countHits_13 Q QX n) ih S y3 y4 y5 P hl hcc hss hw
def wX2_countHits_0 (Q : Int32 → MS → Prop) (QX : String → MS → Prop) (S : MS) (a0 : Nat) (b1 : Nat) (b2 : Nat) : Prop := wp_X2_neededResult (fun r2 S1 => (∃ n, lX2_countHits_13 Q QX n S1 r2 0 1)) QX S a0 b1 b2
set_option maxHeartbeats 4000000 in
set_option maxRecDepth 100000 in
theorem tX2_countHits_0 {p : Program} {l : Launch} {e : Env} {s : State} {m : MethodId} {args : Array Value} {below : List Frame} {meth : Method} {c : Code} {H : Heap} {locs : List Loc} {cells slots : Nat} {G : GP} {A : Nat → Prop} {S0 : MS} {ls : Array Slot} (C : CF p l s m args meth c "SkirmishGrid$Fight" cX2_countHits 6 G A) (hr : meth.sig.returnType = (some .int)) (hex : ∀ x ∈ c.exceptionTable.toList, False) (Q : Int32 → MS → Prop) (QX : String → MS → Prop) (S : MS) (a0 : Nat) (b1 : Nat) (b2 : Nat) (p_a0 : pI S 2 a0) (p_b1 : pI S 7 b1) (p_b2 : pI S 7 b2) (P : PW G A s H locs S0 S) (hl : lv_has ls 6 [(0, .ref a0), (1, .ref b1), (2, .ref b2)]) (hcc : cells + 0 ≤ 0) (hss : slots + 0 ≤ 0) (hw : wX2_countHits_0 Q QX S a0 b1 b2) : W p l e rmX2_countHits s m args below meth c H locs cells slots (vx_MQ below (QI G S0 A Q) (XX G S0 A QX) args s 0 0 A) (F0 m 0 ls []) := by
  have hx := CF_x C
  have hb := CF_b C
  unfold wX2_countHits_0 at hw
  refine lv_aload_n hx hb dX2_countHits_0 rfl (lv_at hl 0 rfl) ?_
  refine lv_aload_n hx hb dX2_countHits_1 rfl (lv_at hl 1 rfl) ?_
  refine lv_aload_n hx hb dX2_countHits_2 rfl (lv_at hl 2 rfl) ?_
  refine cl_i C P (run_V C P hl.1 (kd := 2) (met_X2_neededResult (CF_n C) G H.size _ _ S a0 b1 b2 p_a0 p_b1 p_b2 hw) p_a0 (by decide) rfl q_978 q_980 q_p15 q_2 q_981 cd_X2_neededResult ⟨(Nat.le_of_ble_eq_true rfl), (Nat.le_of_ble_eq_true rfl)⟩ rfl rfl (As := [.ref b1, .ref b2]) (rest := []) rfl rfl (Nat.le_of_ble_eq_true rfl) dX2_countHits_3 ⟨by show cells + 0 ≤ 0; omega, by show slots + 0 ≤ 0; omega⟩) (kx_out C hex (fun _ _ _ h => h) (by omega) (by omega)) (fun r2 S1 H locs P hE hw => ?_)
  have p_a0 : pI S1 2 a0 := pI_x hE p_a0
  have p_b1 : pI S1 7 b1 := pI_x hE p_b1
  have p_b2 : pI S1 7 b2 := pI_x hE p_b2
  refine lv_istore_n (lv' := [(3, .int r2), (0, .ref a0), (1, .ref b1), (2, .ref b2)]) hx hb dX2_countHits_6 rfl hl (by decide) rfl (fun ls hl => ?_)
  refine lv_iconst (v := 0) hx hb dX2_countHits_7 (by decide) ?_
  refine lv_istore (lv' := [(4, .int 0), (3, .int r2), (0, .ref a0), (1, .ref b1), (2, .ref b2)]) hx hb dX2_countHits_8 hl (by decide) rfl (fun ls hl => ?_)
  refine lv_iconst (v := 1) hx hb dX2_countHits_10 (by decide) ?_
  refine lv_istore (lv' := [(5, .int 1), (4, .int 0), (3, .int r2), (0, .ref a0), (1, .ref b1), (2, .ref b2)]) hx hb dX2_countHits_11 hl (by decide) rfl (fun ls hl => ?_)
  obtain ⟨n, hw⟩ := hw
  exact tlX2_countHits_13 C hr hex Q QX n S1 r2 0 1 _ _ _ _ _ P (lv_sub hl [2, 1, 0] rfl) (by omega) (by omega) hw
def wp_X2_countHits (Q : Int32 → MS → Prop) (QX : String → MS → Prop) (S : MS) (a0 : Nat) (b1 : Nat) (b2 : Nat) : Prop := wX2_countHits_0 Q QX S a0 b1 b2
set_option maxHeartbeats 4000000 in
set_option maxRecDepth 100000 in
theorem met_X2_countHits {l : Launch} (hst : l.stackTraces = false) (G : GP) (sz : Nat) (Q : Int32 → MS → Prop) (QX : String → MS → Prop) (S : MS) (a0 : Nat) (b1 : Nat) (b2 : Nat) (p_a0 : pI S 2 a0) (p_b1 : pI S 7 b1) (p_b2 : pI S 7 b2) (hw : wp_X2_countHits Q QX S a0 b1 b2) : vx_Met l yX2_countHits (.code yX2_countHits cX2_countHits 6 (some .int) :: GW) rmX2_countHits (va_Pc [.ref a0, .ref b1, .ref b2] (PR G S sz)) (QI G S (FA G S sz) Q) (XX G S (FA G S sz) QX) 0 0 (FA G S sz) := by
  refine st_m (by decide +kernel) hst (fun p e s m below meth c C hr hnm hex P => ?_)
  refine en_m (Nat.le_of_ble_eq_true rfl) (lv := [(0, .ref a0), (1, .ref b1), (2, .ref b2)]) rfl (fun ls hl => ?_)
  have C : CF p l s m _ meth c "SkirmishGrid$Fight" cX2_countHits 6 G (FA G S sz) := C
  exact tX2_countHits_0 C hr hex Q QX S a0 b1 b2 p_a0 p_b1 p_b2 P hl (by omega) (by omega) hw
theorem cd_X2_countHits : yX2_countHits.cls = RX2 ∧ yX2_countHits.cls ≠ "java/lang/invoke/MethodHandle" ∧ yX2_countHits.cls ≠ "java/lang/invoke/VarHandle" ∧ (parseMethodDescriptor yX2_countHits.desc).map (fun d => d.parameters.length) = some 2 := by decide +kernel
abbrev rmX2_sumDamages : Room := { frames := 3, cells := 0, slots := 0, locals := 106 }
def wX2_sumDamages_23 (Q : Int32 → MS → Prop) (QX : String → MS → Prop) (k13 : MS → Nat → Nat → Int32 → Int32 → Int32 → Prop) (k23 : MS → Nat → Nat → Int32 → Int32 → Int32 → Int32 → Prop) (S : MS) (u1 : Nat) (u2 : Nat) (y3 : Int32) (y4 : Int32) (y5 : Int32) (y6 : Int32) : Prop := ((4 < y6 → k13 S u1 u2 y3 y4 (y5 + 1)) ∧ (¬ 4 < y6 → wp_X2_isHit (fun r2 S1 => ((r2 = 0 → k23 S1 u1 u2 y3 y4 y5 (y6 + 1)) ∧ (¬ r2 = 0 → wp_X2_damageOf (fun r4 S3 => k23 S3 u1 u2 y3 (y4 + r4) y5 (y6 + 1)) QX S1 u1 u2 y5 y6))) QX S y5 y3))
set_option maxHeartbeats 4000000 in
set_option maxRecDepth 100000 in
theorem tX2_sumDamages_23 {p : Program} {l : Launch} {e : Env} {s : State} {m : MethodId} {args : Array Value} {below : List Frame} {meth : Method} {c : Code} {H : Heap} {locs : List Loc} {cells slots : Nat} {G : GP} {A : Nat → Prop} {S0 : MS} {ls : Array Slot} (C : CF p l s m args meth c "SkirmishGrid$Fight" cX2_sumDamages 7 G A) (hr : meth.sig.returnType = (some .int)) (hex : ∀ x ∈ c.exceptionTable.toList, False) (Q : Int32 → MS → Prop) (QX : String → MS → Prop) (k13 : MS → Nat → Nat → Int32 → Int32 → Int32 → Prop) (k23 : MS → Nat → Nat → Int32 → Int32 → Int32 → Int32 → Prop) (kh13 : ∀ (S : MS) (u1 : Nat) (u2 : Nat) (y3 : Int32) (y4 : Int32) (y5 : Int32) (cells slots : Nat) (H : Heap) (locs : List Loc) (ls : Array Slot), pI S 7 u1 → pI S 7 u2 → PW G A s H locs S0 S → lv_has ls 7 [(1, .ref u1), (2, .ref u2), (3, .int y3), (4, .int y4), (5, .int y5)] → cells + 0 ≤ 0 → slots + 0 ≤ 0 → k13 S u1 u2 y3 y4 y5 → W p l e rmX2_sumDamages s m args below meth c H locs cells slots (vx_MQ below (QI G S0 A Q) (XX G S0 A QX) args s 0 0 A) (F0 m 13 ls [])) (kh23 : ∀ (S : MS) (u1 : Nat) (u2 : Nat) (y3 : Int32) (y4 : Int32) (y5 : Int32) (y6 : Int32) (cells slots : Nat) (H : Heap) (locs : List Loc) (ls : Array Slot), pI S 7 u1 → pI S 7 u2 → PW G A s H locs S0 S → lv_has ls 7 [(1, .ref u1), (2, .ref u2), (3, .int y3), (4, .int y4), (5, .int y5), (6, .int y6)] → cells + 0 ≤ 0 → slots + 0 ≤ 0 → k23 S u1 u2 y3 y4 y5 y6 → W p l e rmX2_sumDamages s m args below meth c H locs cells slots (vx_MQ below (QI G S0 A Q) (XX G S0 A QX) args s 0 0 A) (F0 m 23 ls [])) (S : MS) (u1 : Nat) (u2 : Nat) (y3 : Int32) (y4 : Int32) (y5 : Int32) (y6 : Int32) (p_u1 : pI S 7 u1) (p_u2 : pI S 7 u2) (P : PW G A s H locs S0 S) (hl : lv_has ls 7 [(1, .ref u1), (2, .ref u2), (3, .int y3), (4, .int y4), (5, .int y5), (6, .int y6)]) (hcc : cells + 0 ≤ 0) (hss : slots + 0 ≤ 0) (hw : wX2_sumDamages_23 Q QX k13 k23 S u1 u2 y3 y4 y5 y6) : W p l e rmX2_sumDamages s m args below meth c H locs cells slots (vx_MQ below (QI G S0 A Q) (XX G S0 A QX) args s 0 0 A) (F0 m 23 ls []) := by
  have hx := CF_x C
  have hb := CF_b C
  unfold wX2_sumDamages_23 at hw
  refine lv_iload hx hb dX2_sumDamages_23 (lv_at hl 5 rfl) ?_
  refine lv_iconst (v := 4) hx hb dX2_sumDamages_25 (by decide) ?_
  refine lv_icmp_gt (tgt := 58) hx hb dX2_sumDamages_26 (by decide) (fun hc => ?_) (fun hc => ?_)
  · have hw := hw.1 hc
    refine lv_iinc (v := (y5 + 1)) (lv' := [(5, .int (y5 + 1)), (1, .ref u1), (2, .ref u2), (3, .int y3), (4, .int y4), (6, .int y6)]) hx hb dX2_sumDamages_58 hl (k := 4) rfl (by rfl) (by decide) rfl (fun ls hl => ?_)
    refine lv_goto (tgt := 13) hx hb dX2_sumDamages_61 (by decide) ?_
    exact kh13 S u1 u2 y3 y4 (y5 + 1) _ _ _ _ _ p_u1 p_u2 P (lv_sub hl [1, 2, 3, 4, 0] rfl) (by omega) (by omega) hw
  · have hw := hw.2 hc
    refine lv_iload hx hb dX2_sumDamages_29 (lv_at hl 4 rfl) ?_
    refine lv_iload_n hx hb dX2_sumDamages_31 rfl (lv_at hl 2 rfl) ?_
    refine cl_i C P (run_S C P hl.1 (met_X2_isHit (CF_n C) G H.size _ _ S y5 y3 hw) q_985 q_986 q_2 q_987 cd_X2_isHit.2 ⟨(Nat.le_of_ble_eq_true rfl), (Nat.le_of_ble_eq_true rfl)⟩ rfl rfl (As := [.int y5, .int y3]) (rest := []) rfl rfl (Nat.le_of_ble_eq_true rfl) dX2_sumDamages_32 ⟨by show cells + 0 ≤ 0; omega, by show slots + 0 ≤ 0; omega⟩) (kx_out C hex (fun _ _ _ h => h) (by omega) (by omega)) (fun r2 S1 H locs P hE hw => ?_)
    have p_u1 : pI S1 7 u1 := pI_x hE p_u1
    have p_u2 : pI S1 7 u2 := pI_x hE p_u2
    refine lv_if_eq (tgt := 52) hx hb dX2_sumDamages_35 (by decide) (fun hc => ?_) (fun hc => ?_)
    · have hw := hw.1 hc
      refine lv_iinc (v := (y6 + 1)) (lv' := [(6, .int (y6 + 1)), (1, .ref u1), (2, .ref u2), (3, .int y3), (4, .int y4), (5, .int y5)]) hx hb dX2_sumDamages_52 hl (k := 5) rfl (by rfl) (by decide) rfl (fun ls hl => ?_)
      refine lv_goto (tgt := 23) hx hb dX2_sumDamages_55 (by decide) ?_
      exact kh23 S1 u1 u2 y3 y4 y5 (y6 + 1) _ _ _ _ _ p_u1 p_u2 P (lv_sub hl [1, 2, 3, 4, 5, 0] rfl) (by omega) (by omega) hw
    · have hw := hw.2 hc
      refine lv_iload hx hb dX2_sumDamages_38 (lv_at hl 3 rfl) ?_
      refine lv_aload_n hx hb dX2_sumDamages_40 rfl (lv_at hl 0 rfl) ?_
      refine lv_aload_n hx hb dX2_sumDamages_41 rfl (lv_at hl 1 rfl) ?_
      refine lv_iload hx hb dX2_sumDamages_42 (lv_at hl 4 rfl) ?_
      refine lv_iload hx hb dX2_sumDamages_44 (lv_at hl 5 rfl) ?_
      refine cl_i C P (run_S C P hl.1 (met_X2_damageOf (CF_n C) G H.size _ _ S1 u1 u2 y5 y6 p_u1 p_u2 hw) q_1000 q_1001 q_2 q_1002 cd_X2_damageOf.2 ⟨(Nat.le_of_ble_eq_true rfl), (Nat.le_of_ble_eq_true rfl)⟩ rfl rfl (As := [.ref u1, .ref u2, .int y5, .int y6]) (rest := [.int y4]) rfl rfl (Nat.le_of_ble_eq_true rfl) dX2_sumDamages_46 ⟨by show cells + 0 ≤ 0; omega, by show slots + 0 ≤ 0; omega⟩) (kx_out C hex (fun _ _ _ h => h) (by omega) (by omega)) (fun r4 S3 H locs P hE hw => ?_)
      have p_u1 : pI S3 7 u1 := pI_x hE p_u1
      have p_u2 : pI S3 7 u2 := pI_x hE p_u2
      refine lv_iadd hx hb dX2_sumDamages_49 ?_
      refine lv_istore (lv' := [(4, .int (y4 + r4)), (1, .ref u1), (2, .ref u2), (3, .int y3), (5, .int y5), (6, .int y6)]) hx hb dX2_sumDamages_50 hl (by decide) rfl (fun ls hl => ?_)
      refine lv_iinc (v := (y6 + 1)) (lv' := [(6, .int (y6 + 1)), (4, .int (y4 + r4)), (1, .ref u1), (2, .ref u2), (3, .int y3), (5, .int y5)]) hx hb dX2_sumDamages_52 hl (k := 5) rfl (by rfl) (by decide) rfl (fun ls hl => ?_)
      refine lv_goto (tgt := 23) hx hb dX2_sumDamages_55 (by decide) ?_
      exact kh23 S3 u1 u2 y3 (y4 + r4) y5 (y6 + 1) _ _ _ _ _ p_u1 p_u2 P (lv_sub hl [2, 3, 4, 1, 5, 0] rfl) (by omega) (by omega) hw
def lX2_sumDamages_23 (Q : Int32 → MS → Prop) (QX : String → MS → Prop) (k13 : MS → Nat → Nat → Int32 → Int32 → Int32 → Prop) : Nat → MS → Nat → Nat → Int32 → Int32 → Int32 → Int32 → Prop
  | 0 => fun _ _ _ _ _ _ _ => False
  | n + 1 => fun S u1 u2 y3 y4 y5 y6 => wX2_sumDamages_23 Q QX k13 (lX2_sumDamages_23 Q QX k13 n) S u1 u2 y3 y4 y5 y6
theorem tlX2_sumDamages_23 {p : Program} {l : Launch} {e : Env} {s : State} {m : MethodId} {args : Array Value} {below : List Frame} {meth : Method} {c : Code} {G : GP} {A : Nat → Prop} {S0 : MS} (C : CF p l s m args meth c "SkirmishGrid$Fight" cX2_sumDamages 7 G A) (hr : meth.sig.returnType = (some .int)) (hex : ∀ x ∈ c.exceptionTable.toList, False) (Q : Int32 → MS → Prop) (QX : String → MS → Prop) (k13 : MS → Nat → Nat → Int32 → Int32 → Int32 → Prop) (kh13 : ∀ (S : MS) (u1 : Nat) (u2 : Nat) (y3 : Int32) (y4 : Int32) (y5 : Int32) (cells slots : Nat) (H : Heap) (locs : List Loc) (ls : Array Slot), pI S 7 u1 → pI S 7 u2 → PW G A s H locs S0 S → lv_has ls 7 [(1, .ref u1), (2, .ref u2), (3, .int y3), (4, .int y4), (5, .int y5)] → cells + 0 ≤ 0 → slots + 0 ≤ 0 → k13 S u1 u2 y3 y4 y5 → W p l e rmX2_sumDamages s m args below meth c H locs cells slots (vx_MQ below (QI G S0 A Q) (XX G S0 A QX) args s 0 0 A) (F0 m 13 ls [])) : ∀ (n : Nat), ∀ (S : MS) (u1 : Nat) (u2 : Nat) (y3 : Int32) (y4 : Int32) (y5 : Int32) (y6 : Int32) (cells slots : Nat) (H : Heap) (locs : List Loc) (ls : Array Slot), pI S 7 u1 → pI S 7 u2 → PW G A s H locs S0 S → lv_has ls 7 [(1, .ref u1), (2, .ref u2), (3, .int y3), (4, .int y4), (5, .int y5), (6, .int y6)] → cells + 0 ≤ 0 → slots + 0 ≤ 0 → lX2_sumDamages_23 Q QX k13 n S u1 u2 y3 y4 y5 y6 → W p l e rmX2_sumDamages s m args below meth c H locs cells slots (vx_MQ below (QI G S0 A Q) (XX G S0 A QX) args s 0 0 A) (F0 m 23 ls []) := by
  intro n
  induction n with
  | zero => intro S u1 u2 y3 y4 y5 y6 cells slots H locs ls p_u1 p_u2 P hl hcc hss hw; exact hw.elim
  | succ n ih => intro S u1 u2 y3 y4 y5 y6 cells slots H locs ls p_u1 p_u2 P hl hcc hss hw; exact tX2_sumDamages_23 C hr hex Q QX k13 (lX2_sumDamages_23 Q QX k13 n) kh13 ih S u1 u2 y3 y4 y5 y6 p_u1 p_u2 P hl hcc hss hw
def wX2_sumDamages_13 (Q : Int32 → MS → Prop) (QX : String → MS → Prop) (k13 : MS → Nat → Nat → Int32 → Int32 → Int32 → Prop) (S : MS) (u1 : Nat) (u2 : Nat) (y3 : Int32) (y4 : Int32) (y5 : Int32) : Prop := ((20 < y5 → Q y4 S) ∧ (¬ 20 < y5 → (∃ n, lX2_sumDamages_23 Q QX k13 n S u1 u2 y3 y4 y5 1)))
set_option maxHeartbeats 4000000 in
set_option maxRecDepth 100000 in
theorem tX2_sumDamages_13 {p : Program} {l : Launch} {e : Env} {s : State} {m : MethodId} {args : Array Value} {below : List Frame} {meth : Method} {c : Code} {H : Heap} {locs : List Loc} {cells slots : Nat} {G : GP} {A : Nat → Prop} {S0 : MS} {ls : Array Slot} (C : CF p l s m args meth c "SkirmishGrid$Fight" cX2_sumDamages 7 G A) (hr : meth.sig.returnType = (some .int)) (hex : ∀ x ∈ c.exceptionTable.toList, False) (Q : Int32 → MS → Prop) (QX : String → MS → Prop) (k13 : MS → Nat → Nat → Int32 → Int32 → Int32 → Prop) (kh13 : ∀ (S : MS) (u1 : Nat) (u2 : Nat) (y3 : Int32) (y4 : Int32) (y5 : Int32) (cells slots : Nat) (H : Heap) (locs : List Loc) (ls : Array Slot), pI S 7 u1 → pI S 7 u2 → PW G A s H locs S0 S → lv_has ls 7 [(1, .ref u1), (2, .ref u2), (3, .int y3), (4, .int y4), (5, .int y5)] → cells + 0 ≤ 0 → slots + 0 ≤ 0 → k13 S u1 u2 y3 y4 y5 → W p l e rmX2_sumDamages s m args below meth c H locs cells slots (vx_MQ below (QI G S0 A Q) (XX G S0 A QX) args s 0 0 A) (F0 m 13 ls [])) (S : MS) (u1 : Nat) (u2 : Nat) (y3 : Int32) (y4 : Int32) (y5 : Int32) (p_u1 : pI S 7 u1) (p_u2 : pI S 7 u2) (P : PW G A s H locs S0 S) (hl : lv_has ls 7 [(1, .ref u1), (2, .ref u2), (3, .int y3), (4, .int y4), (5, .int y5)]) (hcc : cells + 0 ≤ 0) (hss : slots + 0 ≤ 0) (hw : wX2_sumDamages_13 Q QX k13 S u1 u2 y3 y4 y5) : W p l e rmX2_sumDamages s m args below meth c H locs cells slots (vx_MQ below (QI G S0 A Q) (XX G S0 A QX) args s 0 0 A) (F0 m 13 ls []) := by
  have hx := CF_x C
  have hb := CF_b C
  unfold wX2_sumDamages_13 at hw
  refine lv_iload hx hb dX2_sumDamages_13 (lv_at hl 4 rfl) ?_
  refine lv_bipush (v := 20) hx hb dX2_sumDamages_15 (by decide) ?_
  refine lv_icmp_gt (tgt := 64) hx hb dX2_sumDamages_17 (by decide) (fun hc => ?_) (fun hc => ?_)
  · have hw := hw.1 hc
    refine lv_iload hx hb dX2_sumDamages_64 (lv_at hl 3 rfl) ?_
    exact e_i C hr rfl P hw (by omega) (by omega) dX2_sumDamages_66
  · have hw := hw.2 hc
    refine lv_iconst (v := 1) hx hb dX2_sumDamages_20 (by decide) ?_
    refine lv_istore (lv' := [(6, .int 1), (1, .ref u1), (2, .ref u2), (3, .int y3), (4, .int y4), (5, .int y5)]) hx hb dX2_sumDamages_21 hl (by decide) rfl (fun ls hl => ?_)
    obtain ⟨n, hw⟩ := hw
    exact tlX2_sumDamages_23 C hr hex Q QX k13 kh13 n S u1 u2 y3 y4 y5 1 _ _ _ _ _ p_u1 p_u2 P (lv_sub hl [1, 2, 3, 4, 5, 0] rfl) (by omega) (by omega) hw
def lX2_sumDamages_13 (Q : Int32 → MS → Prop) (QX : String → MS → Prop) : Nat → MS → Nat → Nat → Int32 → Int32 → Int32 → Prop
  | 0 => fun _ _ _ _ _ _ => False
  | n + 1 => fun S u1 u2 y3 y4 y5 => wX2_sumDamages_13 Q QX (lX2_sumDamages_13 Q QX n) S u1 u2 y3 y4 y5
theorem tlX2_sumDamages_13 {p : Program} {l : Launch} {e : Env} {s : State} {m : MethodId} {args : Array Value} {below : List Frame} {meth : Method} {c : Code} {G : GP} {A : Nat → Prop} {S0 : MS} (C : CF p l s m args meth c "SkirmishGrid$Fight" cX2_sumDamages 7 G A) (hr : meth.sig.returnType = (some .int)) (hex : ∀ x ∈ c.exceptionTable.toList, False) (Q : Int32 → MS → Prop) (QX : String → MS → Prop) : ∀ (n : Nat), ∀ (S : MS) (u1 : Nat) (u2 : Nat) (y3 : Int32) (y4 : Int32) (y5 : Int32) (cells slots : Nat) (H : Heap) (locs : List Loc) (ls : Array Slot), pI S 7 u1 → pI S 7 u2 → PW G A s H locs S0 S → lv_has ls 7 [(1, .ref u1), (2, .ref u2), (3, .int y3), (4, .int y4), (5, .int y5)] → cells + 0 ≤ 0 → slots + 0 ≤ 0 → lX2_sumDamages_13 Q QX n S u1 u2 y3 y4 y5 → W p l e rmX2_sumDamages s m args below meth c H locs cells slots (vx_MQ below (QI G S0 A Q) (XX G S0 A QX) args s 0 0 A) (F0 m 13 ls []) := by
  intro n
  induction n with
  | zero => intro S u1 u2 y3 y4 y5 cells slots H locs ls p_u1 p_u2 P hl hcc hss hw; exact hw.elim
  | succ n ih => intro S u1 u2 y3 y4 y5 cells slots H locs ls p_u1 p_u2 P hl hcc hss hw; exact tX2_sumDamages_13 C hr hex Q QX (lX2_sumDamages_13 Q QX n) ih S u1 u2 y3 y4 y5 p_u1 p_u2 P hl hcc hss hw
def wX2_sumDamages_0 (Q : Int32 → MS → Prop) (QX : String → MS → Prop) (S : MS) (a0 : Nat) (b1 : Nat) (b2 : Nat) : Prop := wp_X2_neededResult (fun r2 S1 => (∃ n, lX2_sumDamages_13 Q QX n S1 b1 b2 r2 0 1)) QX S a0 b1 b2
set_option maxHeartbeats 4000000 in
set_option maxRecDepth 100000 in
theorem tX2_sumDamages_0 {p : Program} {l : Launch} {e : Env} {s : State} {m : MethodId} {args : Array Value} {below : List Frame} {meth : Method} {c : Code} {H : Heap} {locs : List Loc} {cells slots : Nat} {G : GP} {A : Nat → Prop} {S0 : MS} {ls : Array Slot} (C : CF p l s m args meth c "SkirmishGrid$Fight" cX2_sumDamages 7 G A) (hr : meth.sig.returnType = (some .int)) (hex : ∀ x ∈ c.exceptionTable.toList, False) (Q : Int32 → MS → Prop) (QX : String → MS → Prop) (S : MS) (a0 : Nat) (b1 : Nat) (b2 : Nat) (p_a0 : pI S 2 a0) (p_b1 : pI S 7 b1) (p_b2 : pI S 7 b2) (P : PW G A s H locs S0 S) (hl : lv_has ls 7 [(0, .ref a0), (1, .ref b1), (2, .ref b2)]) (hcc : cells + 0 ≤ 0) (hss : slots + 0 ≤ 0) (hw : wX2_sumDamages_0 Q QX S a0 b1 b2) : W p l e rmX2_sumDamages s m args below meth c H locs cells slots (vx_MQ below (QI G S0 A Q) (XX G S0 A QX) args s 0 0 A) (F0 m 0 ls []) := by
  have hx := CF_x C
  have hb := CF_b C
  unfold wX2_sumDamages_0 at hw
  refine lv_aload_n hx hb dX2_sumDamages_0 rfl (lv_at hl 0 rfl) ?_
  refine lv_aload_n hx hb dX2_sumDamages_1 rfl (lv_at hl 1 rfl) ?_
  refine lv_aload_n hx hb dX2_sumDamages_2 rfl (lv_at hl 2 rfl) ?_
  refine cl_i C P (run_V C P hl.1 (kd := 2) (met_X2_neededResult (CF_n C) G H.size _ _ S a0 b1 b2 p_a0 p_b1 p_b2 hw) p_a0 (by decide) rfl q_978 q_980 q_p15 q_2 q_981 cd_X2_neededResult ⟨(Nat.le_of_ble_eq_true rfl), (Nat.le_of_ble_eq_true rfl)⟩ rfl rfl (As := [.ref b1, .ref b2]) (rest := []) rfl rfl (Nat.le_of_ble_eq_true rfl) dX2_sumDamages_3 ⟨by show cells + 0 ≤ 0; omega, by show slots + 0 ≤ 0; omega⟩) (kx_out C hex (fun _ _ _ h => h) (by omega) (by omega)) (fun r2 S1 H locs P hE hw => ?_)
  have p_a0 : pI S1 2 a0 := pI_x hE p_a0
  have p_b1 : pI S1 7 b1 := pI_x hE p_b1
  have p_b2 : pI S1 7 b2 := pI_x hE p_b2
  refine lv_istore_n (lv' := [(3, .int r2), (0, .ref a0), (1, .ref b1), (2, .ref b2)]) hx hb dX2_sumDamages_6 rfl hl (by decide) rfl (fun ls hl => ?_)
  refine lv_iconst (v := 0) hx hb dX2_sumDamages_7 (by decide) ?_
  refine lv_istore (lv' := [(4, .int 0), (3, .int r2), (0, .ref a0), (1, .ref b1), (2, .ref b2)]) hx hb dX2_sumDamages_8 hl (by decide) rfl (fun ls hl => ?_)
  refine lv_iconst (v := 1) hx hb dX2_sumDamages_10 (by decide) ?_
  refine lv_istore (lv' := [(5, .int 1), (4, .int 0), (3, .int r2), (0, .ref a0), (1, .ref b1), (2, .ref b2)]) hx hb dX2_sumDamages_11 hl (by decide) rfl (fun ls hl => ?_)
  obtain ⟨n, hw⟩ := hw
  exact tlX2_sumDamages_13 C hr hex Q QX n S1 b1 b2 r2 0 1 _ _ _ _ _ p_b1 p_b2 P (lv_sub hl [4, 5, 2, 1, 0] rfl) (by omega) (by omega) hw
def wp_X2_sumDamages (Q : Int32 → MS → Prop) (QX : String → MS → Prop) (S : MS) (a0 : Nat) (b1 : Nat) (b2 : Nat) : Prop := wX2_sumDamages_0 Q QX S a0 b1 b2
set_option maxHeartbeats 4000000 in
set_option maxRecDepth 100000 in
theorem met_X2_sumDamages {l : Launch} (hst : l.stackTraces = false) (G : GP) (sz : Nat) (Q : Int32 → MS → Prop) (QX : String → MS → Prop) (S : MS) (a0 : Nat) (b1 : Nat) (b2 : Nat) (p_a0 : pI S 2 a0) (p_b1 : pI S 7 b1) (p_b2 : pI S 7 b2) (hw : wp_X2_sumDamages Q QX S a0 b1 b2) : vx_Met l yX2_sumDamages (.code yX2_sumDamages cX2_sumDamages 7 (some .int) :: GW) rmX2_sumDamages (va_Pc [.ref a0, .ref b1, .ref b2] (PR G S sz)) (QI G S (FA G S sz) Q) (XX G S (FA G S sz) QX) 0 0 (FA G S sz) := by
  refine st_m (by decide +kernel) hst (fun p e s m below meth c C hr hnm hex P => ?_)
  refine en_m (Nat.le_of_ble_eq_true rfl) (lv := [(0, .ref a0), (1, .ref b1), (2, .ref b2)]) rfl (fun ls hl => ?_)
  have C : CF p l s m _ meth c "SkirmishGrid$Fight" cX2_sumDamages 7 G (FA G S sz) := C
  exact tX2_sumDamages_0 C hr hex Q QX S a0 b1 b2 p_a0 p_b1 p_b2 P hl (by omega) (by omega) hw
theorem cd_X2_sumDamages : yX2_sumDamages.cls = RX2 ∧ yX2_sumDamages.cls ≠ "java/lang/invoke/MethodHandle" ∧ yX2_sumDamages.cls ≠ "java/lang/invoke/VarHandle" ∧ (parseMethodDescriptor yX2_sumDamages.desc).map (fun d => d.parameters.length) = some 2 := by decide +kernel
abbrev rmX2_chooseTarget : Room := { frames := 4, cells := 0, slots := 0, locals := 136 }
def wX2_chooseTarget_73 (Q : Int32 → MS → Prop) (QX : String → MS → Prop) (k10 : MS → Nat → Nat → Int32 → Int32 → Int32 → Int32 → Prop) (S : MS) (a0 : Nat) (u1 : Nat) (y5 : Int32) (u6 : Nat) (y7 : Int32) : Prop := k10 S a0 u1 y5 y7 (mI S u6 5) (y5 + 1)
set_option maxHeartbeats 4000000 in
set_option maxRecDepth 100000 in
theorem tX2_chooseTarget_73 {p : Program} {l : Launch} {e : Env} {s : State} {m : MethodId} {args : Array Value} {below : List Frame} {meth : Method} {c : Code} {H : Heap} {locs : List Loc} {cells slots : Nat} {G : GP} {A : Nat → Prop} {S0 : MS} {ls : Array Slot} (C : CF p l s m args meth c "SkirmishGrid$Fight" cX2_chooseTarget 8 G A) (hr : meth.sig.returnType = (some .int)) (hex : ∀ x ∈ c.exceptionTable.toList, False) (Q : Int32 → MS → Prop) (QX : String → MS → Prop) (k10 : MS → Nat → Nat → Int32 → Int32 → Int32 → Int32 → Prop) (kh10 : ∀ (S : MS) (a0 : Nat) (u1 : Nat) (y2 : Int32) (y3 : Int32) (y4 : Int32) (y5 : Int32) (cells slots : Nat) (H : Heap) (locs : List Loc) (ls : Array Slot), pI S 2 a0 → pI S 7 u1 → PW G A s H locs S0 S → lv_has ls 8 [(0, .ref a0), (1, .ref u1), (2, .int y2), (3, .int y3), (4, .int y4), (5, .int y5)] → cells + 0 ≤ 0 → slots + 0 ≤ 0 → k10 S a0 u1 y2 y3 y4 y5 → W p l e rmX2_chooseTarget s m args below meth c H locs cells slots (vx_MQ below (QI G S0 A Q) (XX G S0 A QX) args s 0 0 A) (F0 m 10 ls [])) (S : MS) (a0 : Nat) (u1 : Nat) (y5 : Int32) (u6 : Nat) (y7 : Int32) (p_a0 : pI S 2 a0) (p_u1 : pI S 7 u1) (p_u6 : pI S 7 u6) (P : PW G A s H locs S0 S) (hl : lv_has ls 8 [(0, .ref a0), (1, .ref u1), (5, .int y5), (6, .ref u6), (7, .int y7)]) (hcc : cells + 0 ≤ 0) (hss : slots + 0 ≤ 0) (hw : wX2_chooseTarget_73 Q QX k10 S a0 u1 y5 u6 y7) : W p l e rmX2_chooseTarget s m args below meth c H locs cells slots (vx_MQ below (QI G S0 A Q) (XX G S0 A QX) args s 0 0 A) (F0 m 73 ls []) := by
  have hx := CF_x C
  have hb := CF_b C
  unfold wX2_chooseTarget_73 at hw
  refine lv_iload hx hb dX2_chooseTarget_73 (lv_at hl 2 rfl) ?_
  refine lv_istore_n (lv' := [(2, .int y5), (0, .ref a0), (1, .ref u1), (5, .int y5), (6, .ref u6), (7, .int y7)]) hx hb dX2_chooseTarget_75 rfl hl (by decide) rfl (fun ls hl => ?_)
  refine lv_iload hx hb dX2_chooseTarget_76 (lv_at hl 5 rfl) ?_
  refine lv_istore_n (lv' := [(3, .int y7), (2, .int y5), (0, .ref a0), (1, .ref u1), (5, .int y5), (6, .ref u6), (7, .int y7)]) hx hb dX2_chooseTarget_78 rfl hl (by decide) rfl (fun ls hl => ?_)
  refine lv_aload hx hb dX2_chooseTarget_79 (lv_at hl 5 rfl) ?_
  refine gf_7_5 C P p_u6 q_112 dX2_chooseTarget_81 ?_
  refine lv_istore (lv' := [(4, .int (mI S u6 5)), (3, .int y7), (2, .int y5), (0, .ref a0), (1, .ref u1), (5, .int y5), (6, .ref u6), (7, .int y7)]) hx hb dX2_chooseTarget_84 hl (by decide) rfl (fun ls hl => ?_)
  refine lv_iinc (v := (y5 + 1)) (lv' := [(5, .int (y5 + 1)), (4, .int (mI S u6 5)), (3, .int y7), (2, .int y5), (0, .ref a0), (1, .ref u1), (6, .ref u6), (7, .int y7)]) hx hb dX2_chooseTarget_86 hl (k := 5) rfl (by rfl) (by decide) rfl (fun ls hl => ?_)
  refine lv_goto (tgt := 10) hx hb dX2_chooseTarget_89 (by decide) ?_
  exact kh10 S a0 u1 y5 y7 (mI S u6 5) (y5 + 1) _ _ _ _ _ p_a0 p_u1 P (lv_sub hl [4, 5, 3, 2, 1, 0] rfl) (by omega) (by omega) hw
def wX2_chooseTarget_10 (Q : Int32 → MS → Prop) (QX : String → MS → Prop) (k10 : MS → Nat → Nat → Int32 → Int32 → Int32 → Int32 → Prop) (S : MS) (a0 : Nat) (u1 : Nat) (y2 : Int32) (y3 : Int32) (y4 : Int32) (y5 : Int32) : Prop := (((mI S a0 2) ≤ y5 → Q y2 S) ∧ (¬ (mI S a0 2) ≤ y5 → (∃ a1, mR S a0 1 = some a1 ∧ (vp_in y5 (mN S a1) ∧ (∃ a2, mR S a1 (y5 : Int32).toNatClampNeg = some a2 ∧ wp_X2_canStrike (fun r4 S3 => ((r4 = 0 → k10 S3 a0 u1 y2 y3 y4 (y5 + 1)) ∧ (¬ r4 = 0 → wp_X2_sumDamages (fun r6 S5 => ((y2 < 0 → wX2_chooseTarget_73 Q QX k10 S5 a0 u1 y5 a2 r6) ∧ (¬ y2 < 0 → ((y3 < r6 → wX2_chooseTarget_73 Q QX k10 S5 a0 u1 y5 a2 r6) ∧ (¬ y3 < r6 → ((¬ r6 = y3 → k10 S5 a0 u1 y2 y3 y4 (y5 + 1)) ∧ (r6 = y3 → ((y4 ≤ (mI S5 a2 5) → k10 S5 a0 u1 y2 y3 y4 (y5 + 1)) ∧ (¬ y4 ≤ (mI S5 a2 5) → wX2_chooseTarget_73 Q QX k10 S5 a0 u1 y5 a2 r6))))))))) QX S3 a0 u1 a2))) QX S a0 u1 a2)))))
set_option maxHeartbeats 4000000 in
set_option maxRecDepth 100000 in
theorem tX2_chooseTarget_10 {p : Program} {l : Launch} {e : Env} {s : State} {m : MethodId} {args : Array Value} {below : List Frame} {meth : Method} {c : Code} {H : Heap} {locs : List Loc} {cells slots : Nat} {G : GP} {A : Nat → Prop} {S0 : MS} {ls : Array Slot} (C : CF p l s m args meth c "SkirmishGrid$Fight" cX2_chooseTarget 8 G A) (hr : meth.sig.returnType = (some .int)) (hex : ∀ x ∈ c.exceptionTable.toList, False) (Q : Int32 → MS → Prop) (QX : String → MS → Prop) (k10 : MS → Nat → Nat → Int32 → Int32 → Int32 → Int32 → Prop) (kh10 : ∀ (S : MS) (a0 : Nat) (u1 : Nat) (y2 : Int32) (y3 : Int32) (y4 : Int32) (y5 : Int32) (cells slots : Nat) (H : Heap) (locs : List Loc) (ls : Array Slot), pI S 2 a0 → pI S 7 u1 → PW G A s H locs S0 S → lv_has ls 8 [(0, .ref a0), (1, .ref u1), (2, .int y2), (3, .int y3), (4, .int y4), (5, .int y5)] → cells + 0 ≤ 0 → slots + 0 ≤ 0 → k10 S a0 u1 y2 y3 y4 y5 → W p l e rmX2_chooseTarget s m args below meth c H locs cells slots (vx_MQ below (QI G S0 A Q) (XX G S0 A QX) args s 0 0 A) (F0 m 10 ls [])) (S : MS) (a0 : Nat) (u1 : Nat) (y2 : Int32) (y3 : Int32) (y4 : Int32) (y5 : Int32) (p_a0 : pI S 2 a0) (p_u1 : pI S 7 u1) (P : PW G A s H locs S0 S) (hl : lv_has ls 8 [(0, .ref a0), (1, .ref u1), (2, .int y2), (3, .int y3), (4, .int y4), (5, .int y5)]) (hcc : cells + 0 ≤ 0) (hss : slots + 0 ≤ 0) (hw : wX2_chooseTarget_10 Q QX k10 S a0 u1 y2 y3 y4 y5) : W p l e rmX2_chooseTarget s m args below meth c H locs cells slots (vx_MQ below (QI G S0 A Q) (XX G S0 A QX) args s 0 0 A) (F0 m 10 ls []) := by
  have hx := CF_x C
  have hb := CF_b C
  unfold wX2_chooseTarget_10 at hw
  refine lv_iload hx hb dX2_chooseTarget_10 (lv_at hl 5 rfl) ?_
  refine lv_aload_n hx hb dX2_chooseTarget_12 rfl (lv_at hl 0 rfl) ?_
  refine gf_2_2 C P p_a0 q_168 dX2_chooseTarget_13 ?_
  refine lv_icmp_ge (tgt := 92) hx hb dX2_chooseTarget_16 (by decide) (fun hc => ?_) (fun hc => ?_)
  · have hw := hw.1 hc
    refine lv_iload_n hx hb dX2_chooseTarget_92 rfl (lv_at hl 2 rfl) ?_
    exact e_i C hr rfl P hw (by omega) (by omega) dX2_chooseTarget_93
  · have hw := hw.2 hc
    refine lv_aload_n hx hb dX2_chooseTarget_19 rfl (lv_at hl 0 rfl) ?_
    obtain ⟨a1, e1, hw⟩ := hw
    have p_a1 : pI S 15 a1 := wf_r P.2.2.2.1 p_a0 e1
    refine gf_2_1 C P p_a0 e1 q_164 dX2_chooseTarget_20 ?_
    refine lv_iload hx hb dX2_chooseTarget_23 (lv_at hl 5 rfl) ?_
    obtain ⟨h1, hw⟩ := hw
    obtain ⟨a2, e1, hw⟩ := hw
    have p_a2 : pI S 7 a2 := wf_r P.2.2.2.1 p_a1 e1
    refine ra_a5 C P p_a1 h1 e1 dX2_chooseTarget_25 ?_
    refine lv_astore (lv' := [(6, .ref a2), (0, .ref a0), (1, .ref u1), (2, .int y2), (3, .int y3), (4, .int y4), (5, .int y5)]) hx hb dX2_chooseTarget_26 hl (by decide) rfl (fun ls hl => ?_)
    refine lv_aload_n hx hb dX2_chooseTarget_28 rfl (lv_at hl 1 rfl) ?_
    refine lv_aload_n hx hb dX2_chooseTarget_29 rfl (lv_at hl 2 rfl) ?_
    refine lv_aload hx hb dX2_chooseTarget_30 (lv_at hl 0 rfl) ?_
    refine cl_i C P (run_V C P hl.1 (kd := 2) (met_X2_canStrike (CF_n C) G H.size _ _ S a0 u1 a2 p_a0 p_u1 p_a2 hw) p_a0 (by decide) rfl q_1020 q_962 q_963 q_2 q_964 cd_X2_canStrike ⟨(Nat.le_of_ble_eq_true rfl), (Nat.le_of_ble_eq_true rfl)⟩ rfl rfl (As := [.ref u1, .ref a2]) (rest := []) rfl rfl (Nat.le_of_ble_eq_true rfl) dX2_chooseTarget_32 ⟨by show cells + 0 ≤ 0; omega, by show slots + 0 ≤ 0; omega⟩) (kx_out C hex (fun _ _ _ h => h) (by omega) (by omega)) (fun r4 S3 H locs P hE hw => ?_)
    have p_a0 : pI S3 2 a0 := pI_x hE p_a0
    have p_u1 : pI S3 7 u1 := pI_x hE p_u1
    have p_a2 : pI S3 7 a2 := pI_x hE p_a2
    refine lv_if_eq (tgt := 86) hx hb dX2_chooseTarget_35 (by decide) (fun hc => ?_) (fun hc => ?_)
    · have hw := hw.1 hc
      refine lv_iinc (v := (y5 + 1)) (lv' := [(5, .int (y5 + 1)), (6, .ref a2), (0, .ref a0), (1, .ref u1), (2, .int y2), (3, .int y3), (4, .int y4)]) hx hb dX2_chooseTarget_86 hl (k := 6) rfl (by rfl) (by decide) rfl (fun ls hl => ?_)
      refine lv_goto (tgt := 10) hx hb dX2_chooseTarget_89 (by decide) ?_
      exact kh10 S3 a0 u1 y2 y3 y4 (y5 + 1) _ _ _ _ _ p_a0 p_u1 P (lv_sub hl [2, 3, 4, 5, 6, 0] rfl) (by omega) (by omega) hw
    · have hw := hw.2 hc
      refine lv_aload_n hx hb dX2_chooseTarget_38 rfl (lv_at hl 1 rfl) ?_
      refine lv_aload_n hx hb dX2_chooseTarget_39 rfl (lv_at hl 2 rfl) ?_
      refine lv_aload hx hb dX2_chooseTarget_40 (lv_at hl 0 rfl) ?_
      refine cl_i C P (run_V C P hl.1 (kd := 2) (met_X2_sumDamages (CF_n C) G H.size _ _ S3 a0 u1 a2 p_a0 p_u1 p_a2 hw) p_a0 (by decide) rfl q_1021 q_997 q_998 q_2 q_999 cd_X2_sumDamages ⟨(Nat.le_of_ble_eq_true rfl), (Nat.le_of_ble_eq_true rfl)⟩ rfl rfl (As := [.ref u1, .ref a2]) (rest := []) rfl rfl (Nat.le_of_ble_eq_true rfl) dX2_chooseTarget_42 ⟨by show cells + 0 ≤ 0; omega, by show slots + 0 ≤ 0; omega⟩) (kx_out C hex (fun _ _ _ h => h) (by omega) (by omega)) (fun r6 S5 H locs P hE hw => ?_)
      have p_a0 : pI S5 2 a0 := pI_x hE p_a0
      have p_u1 : pI S5 7 u1 := pI_x hE p_u1
      have p_a2 : pI S5 7 a2 := pI_x hE p_a2
      refine lv_istore (lv' := [(7, .int r6), (6, .ref a2), (0, .ref a0), (1, .ref u1), (2, .int y2), (3, .int y3), (4, .int y4), (5, .int y5)]) hx hb dX2_chooseTarget_45 hl (by decide) rfl (fun ls hl => ?_)
      refine lv_iload_n hx hb dX2_chooseTarget_47 rfl (lv_at hl 4 rfl) ?_
      refine lv_if_lt (tgt := 73) hx hb dX2_chooseTarget_48 (by decide) (fun hc => ?_) (fun hc => ?_)
      · have hw := hw.1 hc
        exact tX2_chooseTarget_73 C hr hex Q QX k10 kh10 S5 a0 u1 y5 a2 r6 p_a0 p_u1 p_a2 P (lv_sub hl [2, 3, 7, 1, 0] rfl) (by omega) (by omega) hw
      · have hw := hw.2 hc
        refine lv_iload hx hb dX2_chooseTarget_51 (lv_at hl 0 rfl) ?_
        refine lv_iload_n hx hb dX2_chooseTarget_53 rfl (lv_at hl 5 rfl) ?_
        refine lv_icmp_gt (tgt := 73) hx hb dX2_chooseTarget_54 (by decide) (fun hc => ?_) (fun hc => ?_)
        · have hw := hw.1 hc
          exact tX2_chooseTarget_73 C hr hex Q QX k10 kh10 S5 a0 u1 y5 a2 r6 p_a0 p_u1 p_a2 P (lv_sub hl [2, 3, 7, 1, 0] rfl) (by omega) (by omega) hw
        · have hw := hw.2 hc
          refine lv_iload hx hb dX2_chooseTarget_57 (lv_at hl 0 rfl) ?_
          refine lv_iload_n hx hb dX2_chooseTarget_59 rfl (lv_at hl 5 rfl) ?_
          refine lv_icmp_ne (tgt := 86) hx hb dX2_chooseTarget_60 (by decide) (fun hc => ?_) (fun hc => ?_)
          · have hw := hw.1 hc
            refine lv_iinc (v := (y5 + 1)) (lv' := [(5, .int (y5 + 1)), (7, .int r6), (6, .ref a2), (0, .ref a0), (1, .ref u1), (2, .int y2), (3, .int y3), (4, .int y4)]) hx hb dX2_chooseTarget_86 hl (k := 7) rfl (by rfl) (by decide) rfl (fun ls hl => ?_)
            refine lv_goto (tgt := 10) hx hb dX2_chooseTarget_89 (by decide) ?_
            exact kh10 S5 a0 u1 y2 y3 y4 (y5 + 1) _ _ _ _ _ p_a0 p_u1 P (lv_sub hl [3, 4, 5, 6, 7, 0] rfl) (by omega) (by omega) hw
          · have hw := hw.2 hc
            refine lv_aload hx hb dX2_chooseTarget_63 (lv_at hl 1 rfl) ?_
            refine gf_7_5 C P p_a2 q_112 dX2_chooseTarget_65 ?_
            refine lv_iload hx hb dX2_chooseTarget_68 (lv_at hl 6 rfl) ?_
            refine lv_icmp_ge (tgt := 86) hx hb dX2_chooseTarget_70 (by decide) (fun hc => ?_) (fun hc => ?_)
            · have hw := hw.1 hc
              refine lv_iinc (v := (y5 + 1)) (lv' := [(5, .int (y5 + 1)), (7, .int r6), (6, .ref a2), (0, .ref a0), (1, .ref u1), (2, .int y2), (3, .int y3), (4, .int y4)]) hx hb dX2_chooseTarget_86 hl (k := 7) rfl (by rfl) (by decide) rfl (fun ls hl => ?_)
              refine lv_goto (tgt := 10) hx hb dX2_chooseTarget_89 (by decide) ?_
              exact kh10 S5 a0 u1 y2 y3 y4 (y5 + 1) _ _ _ _ _ p_a0 p_u1 P (lv_sub hl [3, 4, 5, 6, 7, 0] rfl) (by omega) (by omega) hw
            · have hw := hw.2 hc
              exact tX2_chooseTarget_73 C hr hex Q QX k10 kh10 S5 a0 u1 y5 a2 r6 p_a0 p_u1 p_a2 P (lv_sub hl [2, 3, 7, 1, 0] rfl) (by omega) (by omega) hw
def lX2_chooseTarget_10 (Q : Int32 → MS → Prop) (QX : String → MS → Prop) : Nat → MS → Nat → Nat → Int32 → Int32 → Int32 → Int32 → Prop
  | 0 => fun _ _ _ _ _ _ _ => False
  | n + 1 => fun S a0 u1 y2 y3 y4 y5 => wX2_chooseTarget_10 Q QX (lX2_chooseTarget_10 Q QX n) S a0 u1 y2 y3 y4 y5
theorem tlX2_chooseTarget_10 {p : Program} {l : Launch} {e : Env} {s : State} {m : MethodId} {args : Array Value} {below : List Frame} {meth : Method} {c : Code} {G : GP} {A : Nat → Prop} {S0 : MS} (C : CF p l s m args meth c "SkirmishGrid$Fight" cX2_chooseTarget 8 G A) (hr : meth.sig.returnType = (some .int)) (hex : ∀ x ∈ c.exceptionTable.toList, False) (Q : Int32 → MS → Prop) (QX : String → MS → Prop) : ∀ (n : Nat), ∀ (S : MS) (a0 : Nat) (u1 : Nat) (y2 : Int32) (y3 : Int32) (y4 : Int32) (y5 : Int32) (cells slots : Nat) (H : Heap) (locs : List Loc) (ls : Array Slot), pI S 2 a0 → pI S 7 u1 → PW G A s H locs S0 S → lv_has ls 8 [(0, .ref a0), (1, .ref u1), (2, .int y2), (3, .int y3), (4, .int y4), (5, .int y5)] → cells + 0 ≤ 0 → slots + 0 ≤ 0 → lX2_chooseTarget_10 Q QX n S a0 u1 y2 y3 y4 y5 → W p l e rmX2_chooseTarget s m args below meth c H locs cells slots (vx_MQ below (QI G S0 A Q) (XX G S0 A QX) args s 0 0 A) (F0 m 10 ls []) := by
  intro n
  induction n with
  | zero => intro S a0 u1 y2 y3 y4 y5 cells slots H locs ls p_a0 p_u1 P hl hcc hss hw; exact hw.elim
  | succ n ih => intro S a0 u1 y2 y3 y4 y5 cells slots H locs ls p_a0 p_u1 P hl hcc hss hw; exact tX2_chooseTarget_10 C hr hex Q QX (lX2_chooseTarget_10 Q QX n) ih S a0 u1 y2 y3 y4 y5 p_a0 p_u1 P hl hcc hss hw
def wX2_chooseTarget_0 (Q : Int32 → MS → Prop) (QX : String → MS → Prop) (S : MS) (a0 : Nat) (b1 : Nat) : Prop := (∃ n, lX2_chooseTarget_10 Q QX n S a0 b1 (-1) 0 0 0)
set_option maxHeartbeats 4000000 in
set_option maxRecDepth 100000 in
theorem tX2_chooseTarget_0 {p : Program} {l : Launch} {e : Env} {s : State} {m : MethodId} {args : Array Value} {below : List Frame} {meth : Method} {c : Code} {H : Heap} {locs : List Loc} {cells slots : Nat} {G : GP} {A : Nat → Prop} {S0 : MS} {ls : Array Slot} (C : CF p l s m args meth c "SkirmishGrid$Fight" cX2_chooseTarget 8 G A) (hr : meth.sig.returnType = (some .int)) (hex : ∀ x ∈ c.exceptionTable.toList, False) (Q : Int32 → MS → Prop) (QX : String → MS → Prop) (S : MS) (a0 : Nat) (b1 : Nat) (p_a0 : pI S 2 a0) (p_b1 : pI S 7 b1) (P : PW G A s H locs S0 S) (hl : lv_has ls 8 [(0, .ref a0), (1, .ref b1)]) (hcc : cells + 0 ≤ 0) (hss : slots + 0 ≤ 0) (hw : wX2_chooseTarget_0 Q QX S a0 b1) : W p l e rmX2_chooseTarget s m args below meth c H locs cells slots (vx_MQ below (QI G S0 A Q) (XX G S0 A QX) args s 0 0 A) (F0 m 0 ls []) := by
  have hx := CF_x C
  have hb := CF_b C
  unfold wX2_chooseTarget_0 at hw
  refine lv_iconst (v := (-1)) hx hb dX2_chooseTarget_0 (by decide) ?_
  refine lv_istore_n (lv' := [(2, .int (-1)), (0, .ref a0), (1, .ref b1)]) hx hb dX2_chooseTarget_1 rfl hl (by decide) rfl (fun ls hl => ?_)
  refine lv_iconst (v := 0) hx hb dX2_chooseTarget_2 (by decide) ?_
  refine lv_istore_n (lv' := [(3, .int 0), (2, .int (-1)), (0, .ref a0), (1, .ref b1)]) hx hb dX2_chooseTarget_3 rfl hl (by decide) rfl (fun ls hl => ?_)
  refine lv_iconst (v := 0) hx hb dX2_chooseTarget_4 (by decide) ?_
  refine lv_istore (lv' := [(4, .int 0), (3, .int 0), (2, .int (-1)), (0, .ref a0), (1, .ref b1)]) hx hb dX2_chooseTarget_5 hl (by decide) rfl (fun ls hl => ?_)
  refine lv_iconst (v := 0) hx hb dX2_chooseTarget_7 (by decide) ?_
  refine lv_istore (lv' := [(5, .int 0), (4, .int 0), (3, .int 0), (2, .int (-1)), (0, .ref a0), (1, .ref b1)]) hx hb dX2_chooseTarget_8 hl (by decide) rfl (fun ls hl => ?_)
  obtain ⟨n, hw⟩ := hw
  exact tlX2_chooseTarget_10 C hr hex Q QX n S a0 b1 (-1) 0 0 0 _ _ _ _ _ p_a0 p_b1 P (lv_sub hl [4, 5, 3, 2, 1, 0] rfl) (by omega) (by omega) hw
def wp_X2_chooseTarget (Q : Int32 → MS → Prop) (QX : String → MS → Prop) (S : MS) (a0 : Nat) (b1 : Nat) : Prop := wX2_chooseTarget_0 Q QX S a0 b1
set_option maxHeartbeats 4000000 in
set_option maxRecDepth 100000 in
theorem met_X2_chooseTarget {l : Launch} (hst : l.stackTraces = false) (G : GP) (sz : Nat) (Q : Int32 → MS → Prop) (QX : String → MS → Prop) (S : MS) (a0 : Nat) (b1 : Nat) (p_a0 : pI S 2 a0) (p_b1 : pI S 7 b1) (hw : wp_X2_chooseTarget Q QX S a0 b1) : vx_Met l yX2_chooseTarget (.code yX2_chooseTarget cX2_chooseTarget 8 (some .int) :: GW) rmX2_chooseTarget (va_Pc [.ref a0, .ref b1] (PR G S sz)) (QI G S (FA G S sz) Q) (XX G S (FA G S sz) QX) 0 0 (FA G S sz) := by
  refine st_m (by decide +kernel) hst (fun p e s m below meth c C hr hnm hex P => ?_)
  refine en_m (Nat.le_of_ble_eq_true rfl) (lv := [(0, .ref a0), (1, .ref b1)]) rfl (fun ls hl => ?_)
  have C : CF p l s m _ meth c "SkirmishGrid$Fight" cX2_chooseTarget 8 G (FA G S sz) := C
  exact tX2_chooseTarget_0 C hr hex Q QX S a0 b1 p_a0 p_b1 P hl (by omega) (by omega) hw
theorem cd_X2_chooseTarget : yX2_chooseTarget.cls = RX2 ∧ yX2_chooseTarget.cls ≠ "java/lang/invoke/MethodHandle" ∧ yX2_chooseTarget.cls ≠ "java/lang/invoke/VarHandle" ∧ (parseMethodDescriptor yX2_chooseTarget.desc).map (fun d => d.parameters.length) = some 1 := by decide +kernel
abbrev rmX2_strike : Room := { frames := 3, cells := 0, slots := 0, locals := 106 }
def wX2_strike_0 (Q : Int32 → MS → Prop) (QX : String → MS → Prop) (S : MS) (a0 : Nat) (b1 : Nat) (b2 : Nat) : Prop := (∀ S1, S1 = (sI S b1 6 ((mI S b1 6) - 1)) → wp_X2_rollDie (fun r3 S2 => wp_X2_neededResult (fun r5 S4 => wp_X2_isHit (fun r7 S6 => ((¬ r7 = 0 → wp_X2_rollDie (fun r9 S8 => wp_X2_damageOf (fun r11 S10 => wp_X7_lose (fun S12 => (∃ a13, mR S12 a0 11 = some a13 ∧ wp_X1_note (fun S14 => wp_X7_lives (fun r16 S15 => ((¬ r16 = 0 → Q r11 S15) ∧ (r16 = 0 → (∃ a17, mR S15 a0 11 = some a17 ∧ wp_X1_note (fun S18 => Q r11 S18) QX S15 a17 4 (mI S15 b2 0) 0)))) QX S14 b2) QX S12 a13 2 (mI S12 b1 0) r11)) QX S10 b2 r11) QX S8 b1 b2 r3 r9) QX S6 a0 4) ∧ (r7 = 0 → (∃ a19, mR S6 a0 11 = some a19 ∧ wp_X1_note (fun S20 => Q 0 S20) QX S6 a19 3 (mI S6 b1 0) (mI S6 b2 0))))) QX S4 r3 r5) QX S2 a0 b1 b2) QX S1 a0 20)
set_option maxHeartbeats 4000000 in
set_option maxRecDepth 100000 in
theorem tX2_strike_0 {p : Program} {l : Launch} {e : Env} {s : State} {m : MethodId} {args : Array Value} {below : List Frame} {meth : Method} {c : Code} {H : Heap} {locs : List Loc} {cells slots : Nat} {G : GP} {A : Nat → Prop} {S0 : MS} {ls : Array Slot} (C : CF p l s m args meth c "SkirmishGrid$Fight" cX2_strike 5 G A) (hr : meth.sig.returnType = (some .int)) (hex : ∀ x ∈ c.exceptionTable.toList, False) (Q : Int32 → MS → Prop) (QX : String → MS → Prop) (S : MS) (a0 : Nat) (b1 : Nat) (b2 : Nat) (p_a0 : pI S 2 a0) (p_b1 : pI S 7 b1) (p_b2 : pI S 7 b2) (P : PW G A s H locs S0 S) (hl : lv_has ls 5 [(0, .ref a0), (1, .ref b1), (2, .ref b2)]) (hcc : cells + 0 ≤ 0) (hss : slots + 0 ≤ 0) (hw : wX2_strike_0 Q QX S a0 b1 b2) : W p l e rmX2_strike s m args below meth c H locs cells slots (vx_MQ below (QI G S0 A Q) (XX G S0 A QX) args s 0 0 A) (F0 m 0 ls []) := by
  have hx := CF_x C
  have hb := CF_b C
  unfold wX2_strike_0 at hw
  refine lv_aload_n hx hb dX2_strike_0 rfl (lv_at hl 1 rfl) ?_
  refine lv_dup hx hb dX2_strike_1 rfl ?_
  refine gf_7_6 C P p_b1 q_115 dX2_strike_2 ?_
  refine lv_iconst (v := 1) hx hb dX2_strike_5 (by decide) ?_
  refine lv_isub hx hb dX2_strike_6 ?_
  refine pf_7_6 C P p_b1 q_115 dX2_strike_7 (fun H locs P => ?_)
  obtain ⟨S1, hS⟩ : ∃ z, z = (sI S b1 6 ((mI S b1 6) - 1)) := ⟨_, rfl⟩
  have P : PW G A s H locs S0 S1 := by rw [hS]; exact P
  have p_a0 : pI S1 2 a0 := by rw [hS]; exact pI_x ext_sI p_a0
  have p_b1 : pI S1 7 b1 := by rw [hS]; exact pI_x ext_sI p_b1
  have p_b2 : pI S1 7 b2 := by rw [hS]; exact pI_x ext_sI p_b2
  have hw := hw S1 hS
  refine lv_aload_n hx hb dX2_strike_10 rfl (lv_at hl 0 rfl) ?_
  refine lv_bipush (v := 20) hx hb dX2_strike_11 (by decide) ?_
  refine cl_i C P (run_V C P hl.1 (kd := 2) (met_X2_rollDie (CF_n C) G H.size _ _ S1 a0 20 p_a0 hw) p_a0 (by decide) rfl q_847 q_849 q_p5 q_2 q_850 cd_X2_rollDie ⟨(Nat.le_of_ble_eq_true rfl), (Nat.le_of_ble_eq_true rfl)⟩ rfl rfl (As := [.int 20]) (rest := []) rfl rfl (Nat.le_of_ble_eq_true rfl) dX2_strike_13 ⟨by show cells + 0 ≤ 0; omega, by show slots + 0 ≤ 0; omega⟩) (kx_out C hex (fun _ _ _ h => h) (by omega) (by omega)) (fun r3 S2 H locs P hE hw => ?_)
  have p_a0 : pI S2 2 a0 := pI_x hE p_a0
  have p_b1 : pI S2 7 b1 := pI_x hE p_b1
  have p_b2 : pI S2 7 b2 := pI_x hE p_b2
  refine lv_istore_n (lv' := [(3, .int r3), (0, .ref a0), (1, .ref b1), (2, .ref b2)]) hx hb dX2_strike_16 rfl hl (by decide) rfl (fun ls hl => ?_)
  refine lv_iload_n hx hb dX2_strike_17 rfl (lv_at hl 0 rfl) ?_
  refine lv_aload_n hx hb dX2_strike_18 rfl (lv_at hl 1 rfl) ?_
  refine lv_aload_n hx hb dX2_strike_19 rfl (lv_at hl 2 rfl) ?_
  refine lv_aload_n hx hb dX2_strike_20 rfl (lv_at hl 3 rfl) ?_
  refine cl_i C P (run_V C P hl.1 (kd := 2) (met_X2_neededResult (CF_n C) G H.size _ _ S2 a0 b1 b2 p_a0 p_b1 p_b2 hw) p_a0 (by decide) rfl q_978 q_980 q_p15 q_2 q_981 cd_X2_neededResult ⟨(Nat.le_of_ble_eq_true rfl), (Nat.le_of_ble_eq_true rfl)⟩ rfl rfl (As := [.ref b1, .ref b2]) (rest := [.int r3]) rfl rfl (Nat.le_of_ble_eq_true rfl) dX2_strike_21 ⟨by show cells + 0 ≤ 0; omega, by show slots + 0 ≤ 0; omega⟩) (kx_out C hex (fun _ _ _ h => h) (by omega) (by omega)) (fun r5 S4 H locs P hE hw => ?_)
  have p_a0 : pI S4 2 a0 := pI_x hE p_a0
  have p_b1 : pI S4 7 b1 := pI_x hE p_b1
  have p_b2 : pI S4 7 b2 := pI_x hE p_b2
  refine cl_i C P (run_S C P hl.1 (met_X2_isHit (CF_n C) G H.size _ _ S4 r3 r5 hw) q_985 q_986 q_2 q_987 cd_X2_isHit.2 ⟨(Nat.le_of_ble_eq_true rfl), (Nat.le_of_ble_eq_true rfl)⟩ rfl rfl (As := [.int r3, .int r5]) (rest := []) rfl rfl (Nat.le_of_ble_eq_true rfl) dX2_strike_24 ⟨by show cells + 0 ≤ 0; omega, by show slots + 0 ≤ 0; omega⟩) (kx_out C hex (fun _ _ _ h => h) (by omega) (by omega)) (fun r7 S6 H locs P hE hw => ?_)
  have p_a0 : pI S6 2 a0 := pI_x hE p_a0
  have p_b1 : pI S6 7 b1 := pI_x hE p_b1
  have p_b2 : pI S6 7 b2 := pI_x hE p_b2
  refine lv_if_ne (tgt := 48) hx hb dX2_strike_27 (by decide) (fun hc => ?_) (fun hc => ?_)
  · have hw := hw.1 hc
    refine lv_aload_n hx hb dX2_strike_48 rfl (lv_at hl 2 rfl) ?_
    refine lv_aload_n hx hb dX2_strike_49 rfl (lv_at hl 3 rfl) ?_
    refine lv_iload_n hx hb dX2_strike_50 rfl (lv_at hl 0 rfl) ?_
    refine lv_aload_n hx hb dX2_strike_51 rfl (lv_at hl 1 rfl) ?_
    refine lv_iconst (v := 4) hx hb dX2_strike_52 (by decide) ?_
    refine cl_i C P (run_V C P hl.1 (kd := 2) (met_X2_rollDie (CF_n C) G H.size _ _ S6 a0 4 p_a0 hw) p_a0 (by decide) rfl q_847 q_849 q_p5 q_2 q_850 cd_X2_rollDie ⟨(Nat.le_of_ble_eq_true rfl), (Nat.le_of_ble_eq_true rfl)⟩ rfl rfl (As := [.int 4]) (rest := [.int r3, .ref b2, .ref b1]) rfl rfl (Nat.le_of_ble_eq_true rfl) dX2_strike_53 ⟨by show cells + 0 ≤ 0; omega, by show slots + 0 ≤ 0; omega⟩) (kx_out C hex (fun _ _ _ h => h) (by omega) (by omega)) (fun r9 S8 H locs P hE hw => ?_)
    have p_a0 : pI S8 2 a0 := pI_x hE p_a0
    have p_b1 : pI S8 7 b1 := pI_x hE p_b1
    have p_b2 : pI S8 7 b2 := pI_x hE p_b2
    refine cl_i C P (run_S C P hl.1 (met_X2_damageOf (CF_n C) G H.size _ _ S8 b1 b2 r3 r9 p_b1 p_b2 hw) q_1000 q_1001 q_2 q_1002 cd_X2_damageOf.2 ⟨(Nat.le_of_ble_eq_true rfl), (Nat.le_of_ble_eq_true rfl)⟩ rfl rfl (As := [.ref b1, .ref b2, .int r3, .int r9]) (rest := []) rfl rfl (Nat.le_of_ble_eq_true rfl) dX2_strike_56 ⟨by show cells + 0 ≤ 0; omega, by show slots + 0 ≤ 0; omega⟩) (kx_out C hex (fun _ _ _ h => h) (by omega) (by omega)) (fun r11 S10 H locs P hE hw => ?_)
    have p_a0 : pI S10 2 a0 := pI_x hE p_a0
    have p_b1 : pI S10 7 b1 := pI_x hE p_b1
    have p_b2 : pI S10 7 b2 := pI_x hE p_b2
    refine lv_istore (lv' := [(4, .int r11), (3, .int r3), (0, .ref a0), (1, .ref b1), (2, .ref b2)]) hx hb dX2_strike_59 hl (by decide) rfl (fun ls hl => ?_)
    refine lv_aload_n hx hb dX2_strike_61 rfl (lv_at hl 4 rfl) ?_
    refine lv_iload hx hb dX2_strike_62 (lv_at hl 0 rfl) ?_
    refine cl_v C P (run_V C P hl.1 (kd := 7) (met_X7_lose (CF_n C) G H.size _ _ S10 b2 r11 p_b2 hw) p_b2 (by decide) rfl q_867 q_868 q_869 q_5 q_870 cd_X7_lose ⟨(Nat.le_of_ble_eq_true rfl), (Nat.le_of_ble_eq_true rfl)⟩ rfl rfl (As := [.int r11]) (rest := []) rfl rfl (Nat.le_of_ble_eq_true rfl) dX2_strike_64 ⟨by show cells + 0 ≤ 0; omega, by show slots + 0 ≤ 0; omega⟩) (kx_out C hex (fun _ _ _ h => h) (by omega) (by omega)) (fun S12 H locs P hE hw => ?_)
    have p_a0 : pI S12 2 a0 := pI_x hE p_a0
    have p_b1 : pI S12 7 b1 := pI_x hE p_b1
    have p_b2 : pI S12 7 b2 := pI_x hE p_b2
    refine lv_aload_n hx hb dX2_strike_67 rfl (lv_at hl 2 rfl) ?_
    obtain ⟨a13, e1, hw⟩ := hw
    have p_a13 : pI S12 1 a13 := wf_r P.2.2.2.1 p_a0 e1
    refine gf_2_11 C P p_a0 e1 q_185 dX2_strike_68 ?_
    refine lv_iconst (v := 2) hx hb dX2_strike_71 (by decide) ?_
    refine lv_aload_n hx hb dX2_strike_72 rfl (lv_at hl 3 rfl) ?_
    refine gf_7_0 C P p_b1 q_95 dX2_strike_73 ?_
    refine lv_iload hx hb dX2_strike_76 (lv_at hl 0 rfl) ?_
    refine cl_v C P (run_V C P hl.1 (kd := 1) (met_X1_note (CF_n C) G H.size _ _ S12 a13 2 (mI S12 b1 0) r11 p_a13 hw) p_a13 (by decide) rfl q_843 q_844 q_845 q_4 q_846 cd_X1_note ⟨(Nat.le_of_ble_eq_true rfl), (Nat.le_of_ble_eq_true rfl)⟩ rfl rfl (As := [.int 2, .int (mI S12 b1 0), .int r11]) (rest := []) rfl rfl (Nat.le_of_ble_eq_true rfl) dX2_strike_78 ⟨by show cells + 0 ≤ 0; omega, by show slots + 0 ≤ 0; omega⟩) (kx_out C hex (fun _ _ _ h => h) (by omega) (by omega)) (fun S14 H locs P hE hw => ?_)
    have p_a0 : pI S14 2 a0 := pI_x hE p_a0
    have p_b2 : pI S14 7 b2 := pI_x hE p_b2
    have p_a13 : pI S14 1 a13 := pI_x hE p_a13
    refine lv_aload_n hx hb dX2_strike_81 rfl (lv_at hl 4 rfl) ?_
    refine cl_i C P (run_V C P hl.1 (kd := 7) (met_X7_lives (CF_n C) G H.size _ _ S14 b2 p_b2 hw) p_b2 (by decide) rfl q_355 q_356 q_357 q_5 q_358 cd_X7_lives ⟨(Nat.le_of_ble_eq_true rfl), (Nat.le_of_ble_eq_true rfl)⟩ rfl rfl (As := []) (rest := []) rfl rfl (Nat.le_of_ble_eq_true rfl) dX2_strike_82 ⟨by show cells + 0 ≤ 0; omega, by show slots + 0 ≤ 0; omega⟩) (kx_out C hex (fun _ _ _ h => h) (by omega) (by omega)) (fun r16 S15 H locs P hE hw => ?_)
    have p_a0 : pI S15 2 a0 := pI_x hE p_a0
    have p_b2 : pI S15 7 b2 := pI_x hE p_b2
    refine lv_if_ne (tgt := 101) hx hb dX2_strike_85 (by decide) (fun hc => ?_) (fun hc => ?_)
    · have hw := hw.1 hc
      refine lv_iload hx hb dX2_strike_101 (lv_at hl 0 rfl) ?_
      exact e_i C hr rfl P hw (by omega) (by omega) dX2_strike_103
    · have hw := hw.2 hc
      refine lv_aload_n hx hb dX2_strike_88 rfl (lv_at hl 2 rfl) ?_
      obtain ⟨a17, e1, hw⟩ := hw
      have p_a17 : pI S15 1 a17 := wf_r P.2.2.2.1 p_a0 e1
      refine gf_2_11 C P p_a0 e1 q_185 dX2_strike_89 ?_
      refine lv_iconst (v := 4) hx hb dX2_strike_92 (by decide) ?_
      refine lv_aload_n hx hb dX2_strike_93 rfl (lv_at hl 4 rfl) ?_
      refine gf_7_0 C P p_b2 q_95 dX2_strike_94 ?_
      refine lv_iconst (v := 0) hx hb dX2_strike_97 (by decide) ?_
      refine cl_v C P (run_V C P hl.1 (kd := 1) (met_X1_note (CF_n C) G H.size _ _ S15 a17 4 (mI S15 b2 0) 0 p_a17 hw) p_a17 (by decide) rfl q_843 q_844 q_845 q_4 q_846 cd_X1_note ⟨(Nat.le_of_ble_eq_true rfl), (Nat.le_of_ble_eq_true rfl)⟩ rfl rfl (As := [.int 4, .int (mI S15 b2 0), .int 0]) (rest := []) rfl rfl (Nat.le_of_ble_eq_true rfl) dX2_strike_98 ⟨by show cells + 0 ≤ 0; omega, by show slots + 0 ≤ 0; omega⟩) (kx_out C hex (fun _ _ _ h => h) (by omega) (by omega)) (fun S18 H locs P hE hw => ?_)
      have p_a17 : pI S18 1 a17 := pI_x hE p_a17
      refine lv_iload hx hb dX2_strike_101 (lv_at hl 0 rfl) ?_
      exact e_i C hr rfl P hw (by omega) (by omega) dX2_strike_103
  · have hw := hw.2 hc
    refine lv_aload_n hx hb dX2_strike_30 rfl (lv_at hl 1 rfl) ?_
    obtain ⟨a19, e1, hw⟩ := hw
    have p_a19 : pI S6 1 a19 := wf_r P.2.2.2.1 p_a0 e1
    refine gf_2_11 C P p_a0 e1 q_185 dX2_strike_31 ?_
    refine lv_iconst (v := 3) hx hb dX2_strike_34 (by decide) ?_
    refine lv_aload_n hx hb dX2_strike_35 rfl (lv_at hl 2 rfl) ?_
    refine gf_7_0 C P p_b1 q_95 dX2_strike_36 ?_
    refine lv_aload_n hx hb dX2_strike_39 rfl (lv_at hl 3 rfl) ?_
    refine gf_7_0 C P p_b2 q_95 dX2_strike_40 ?_
    refine cl_v C P (run_V C P hl.1 (kd := 1) (met_X1_note (CF_n C) G H.size _ _ S6 a19 3 (mI S6 b1 0) (mI S6 b2 0) p_a19 hw) p_a19 (by decide) rfl q_843 q_844 q_845 q_4 q_846 cd_X1_note ⟨(Nat.le_of_ble_eq_true rfl), (Nat.le_of_ble_eq_true rfl)⟩ rfl rfl (As := [.int 3, .int (mI S6 b1 0), .int (mI S6 b2 0)]) (rest := []) rfl rfl (Nat.le_of_ble_eq_true rfl) dX2_strike_43 ⟨by show cells + 0 ≤ 0; omega, by show slots + 0 ≤ 0; omega⟩) (kx_out C hex (fun _ _ _ h => h) (by omega) (by omega)) (fun S20 H locs P hE hw => ?_)
    have p_a19 : pI S20 1 a19 := pI_x hE p_a19
    refine lv_iconst (v := 0) hx hb dX2_strike_46 (by decide) ?_
    exact e_i C hr rfl P hw (by omega) (by omega) dX2_strike_47
def wp_X2_strike (Q : Int32 → MS → Prop) (QX : String → MS → Prop) (S : MS) (a0 : Nat) (b1 : Nat) (b2 : Nat) : Prop := wX2_strike_0 Q QX S a0 b1 b2
set_option maxHeartbeats 4000000 in
set_option maxRecDepth 100000 in
theorem met_X2_strike {l : Launch} (hst : l.stackTraces = false) (G : GP) (sz : Nat) (Q : Int32 → MS → Prop) (QX : String → MS → Prop) (S : MS) (a0 : Nat) (b1 : Nat) (b2 : Nat) (p_a0 : pI S 2 a0) (p_b1 : pI S 7 b1) (p_b2 : pI S 7 b2) (hw : wp_X2_strike Q QX S a0 b1 b2) : vx_Met l yX2_strike (.code yX2_strike cX2_strike 5 (some .int) :: GW) rmX2_strike (va_Pc [.ref a0, .ref b1, .ref b2] (PR G S sz)) (QI G S (FA G S sz) Q) (XX G S (FA G S sz) QX) 0 0 (FA G S sz) := by
  refine st_m (by decide +kernel) hst (fun p e s m below meth c C hr hnm hex P => ?_)
  refine en_m (Nat.le_of_ble_eq_true rfl) (lv := [(0, .ref a0), (1, .ref b1), (2, .ref b2)]) rfl (fun ls hl => ?_)
  have C : CF p l s m _ meth c "SkirmishGrid$Fight" cX2_strike 5 G (FA G S sz) := C
  exact tX2_strike_0 C hr hex Q QX S a0 b1 b2 p_a0 p_b1 p_b2 P hl (by omega) (by omega) hw
theorem cd_X2_strike : yX2_strike.cls = RX2 ∧ yX2_strike.cls ≠ "java/lang/invoke/MethodHandle" ∧ yX2_strike.cls ≠ "java/lang/invoke/VarHandle" ∧ (parseMethodDescriptor yX2_strike.desc).map (fun d => d.parameters.length) = some 2 := by decide +kernel
