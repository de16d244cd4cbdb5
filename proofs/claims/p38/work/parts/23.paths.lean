theorem q_256 : Cond.methodLink "SkirmishGrid$Paths" 3 objectInit ∈ GW := gw_t 256 (by decide +kernel) (by decide +kernel)
theorem q_257 : Cond.fieldLink "SkirmishGrid$Paths" 9 "SkirmishGrid$Paths" "entering" "[I" ∈ GW := gw_t 257 (by decide +kernel) (by decide +kernel)
theorem q_258 : Cond.fieldLink "SkirmishGrid$Paths" 15 "SkirmishGrid$Paths" "costs" "[I" ∈ GW := gw_t 258 (by decide +kernel) (by decide +kernel)
theorem q_270 : Cond.arrayClass .boolean ∈ GW := gw_t 270 (by decide +kernel) (by decide +kernel)
theorem q_259 : Cond.fieldLink "SkirmishGrid$Paths" 18 "SkirmishGrid$Paths" "isSettled" "[Z" ∈ GW := gw_t 259 (by decide +kernel) (by decide +kernel)
theorem q_916 : Cond.constant "SkirmishGrid$Paths" 71 1000000 ∈ GW := gw_t 916 (by decide +kernel) (by decide +kernel)
theorem q_170 : Cond.fieldLink "SkirmishGrid$Paths" 72 "SkirmishGrid$Fight" "unitCount" "I" ∈ GW := gw_t 170 (by decide +kernel) (by decide +kernel)
theorem q_166 : Cond.fieldLink "SkirmishGrid$Paths" 75 "SkirmishGrid$Fight" "units" "[LSkirmishGrid$Unit;" ∈ GW := gw_t 166 (by decide +kernel) (by decide +kernel)
theorem q_917 : Cond.methodLink "SkirmishGrid$Paths" 79 yX7_lives ∈ GW := gw_t 917 (by decide +kernel) (by decide +kernel)
theorem q_105 : Cond.fieldLink "SkirmishGrid$Paths" 32 "SkirmishGrid$Unit" "cell" "I" ∈ GW := gw_t 105 (by decide +kernel) (by decide +kernel)
theorem q_260 : Cond.fieldLink "SkirmishGrid$Paths" 38 "SkirmishGrid$Paths" "count" "I" ∈ GW := gw_t 260 (by decide +kernel) (by decide +kernel)
theorem q_915 : Cond.methodLink "SkirmishGrid$Paths" 67 yX3_ground ∈ GW := gw_t 915 (by decide +kernel) (by decide +kernel)
theorem q_162 : Cond.fieldLink "SkirmishGrid$Paths" 41 "SkirmishGrid$Fight" "grid" "LSkirmishGrid$Grid;" ∈ GW := gw_t 162 (by decide +kernel) (by decide +kernel)
theorem q_52 : Cond.fieldLink "SkirmishGrid$Paths" 53 "SkirmishGrid$Grid" "rows" "I" ∈ GW := gw_t 52 (by decide +kernel) (by decide +kernel)
theorem q_55 : Cond.fieldLink "SkirmishGrid$Paths" 58 "SkirmishGrid$Grid" "columns" "I" ∈ GW := gw_t 55 (by decide +kernel) (by decide +kernel)
theorem q_914 : Cond.methodLink "SkirmishGrid$Paths" 61 Lib.Math.min.name ∈ GW := gw_t 914 (by decide +kernel) (by decide +kernel)
theorem q_923 : Cond.methodLink "SkirmishGrid$Paths" 83 yX3_neighbor ∈ GW := gw_t 923 (by decide +kernel) (by decide +kernel)
theorem q_924 : Cond.instanceMethod yX3_neighbor ∈ GW := gw_t 924 (by decide +kernel) (by decide +kernel)
theorem q_925 : Cond.selects "SkirmishGrid$Grid" yX3_neighbor yX3_neighbor ∈ GW := gw_t 925 (by decide +kernel) (by decide +kernel)
theorem q_926 : Cond.code yX3_neighbor cX3_neighbor 5 (some .int) ∈ GW := gw_t 926 (by decide +kernel) (by decide +kernel)
theorem q_919 : Cond.methodLink "SkirmishGrid$Paths" 45 yX5_spread ∈ GW := gw_t 919 (by decide +kernel) (by decide +kernel)
theorem q_921 : Cond.instanceMethod yX5_spread ∈ GW := gw_t 921 (by decide +kernel) (by decide +kernel)
theorem q_p12 : Cond.selects "SkirmishGrid$Paths" yX5_spread yX5_spread ∈ GW := gw_p 12 (by decide +kernel) (by decide +kernel)
theorem q_8 : Cond.initialized "SkirmishGrid$Paths" ∈ GW := gw_t 8 (by decide +kernel) (by decide +kernel)
theorem q_922 : Cond.code yX5_spread cX5_spread 6 none ∈ GW := gw_t 922 (by decide +kernel) (by decide +kernel)
theorem q_927 : Cond.methodLink "SkirmishGrid$Paths" 49 yX5_findCheapest ∈ GW := gw_t 927 (by decide +kernel) (by decide +kernel)
theorem q_929 : Cond.instanceMethod yX5_findCheapest ∈ GW := gw_t 929 (by decide +kernel) (by decide +kernel)
theorem q_p13 : Cond.selects "SkirmishGrid$Paths" yX5_findCheapest yX5_findCheapest ∈ GW := gw_p 13 (by decide +kernel) (by decide +kernel)
theorem q_930 : Cond.code yX5_findCheapest cX5_findCheapest 4 (some .int) ∈ GW := gw_t 930 (by decide +kernel) (by decide +kernel)
theorem q_910 : Cond.methodLink "SkirmishGrid$Paths" 22 yX5_clear ∈ GW := gw_t 910 (by decide +kernel) (by decide +kernel)
theorem q_912 : Cond.instanceMethod yX5_clear ∈ GW := gw_t 912 (by decide +kernel) (by decide +kernel)
theorem q_p11 : Cond.selects "SkirmishGrid$Paths" yX5_clear yX5_clear ∈ GW := gw_p 11 (by decide +kernel) (by decide +kernel)
theorem q_913 : Cond.code yX5_clear cX5_clear 5 none ∈ GW := gw_t 913 (by decide +kernel) (by decide +kernel)
theorem q_918 : Cond.methodLink "SkirmishGrid$Paths" 26 yX2_onTurn ∈ GW := gw_t 918 (by decide +kernel) (by decide +kernel)
theorem q_879 : Cond.instanceMethod yX2_onTurn ∈ GW := gw_t 879 (by decide +kernel) (by decide +kernel)
theorem q_880 : Cond.selects "SkirmishGrid$Fight" yX2_onTurn yX2_onTurn ∈ GW := gw_t 880 (by decide +kernel) (by decide +kernel)
theorem q_881 : Cond.code yX2_onTurn cX2_onTurn 1 (some (.object "SkirmishGrid$Unit")) ∈ GW := gw_t 881 (by decide +kernel) (by decide +kernel)
theorem q_948 : Cond.methodLink "SkirmishGrid$Paths" 86 yX5_costsFrom ∈ GW := gw_t 948 (by decide +kernel) (by decide +kernel)
theorem q_932 : Cond.instanceMethod yX5_costsFrom ∈ GW := gw_t 932 (by decide +kernel) (by decide +kernel)
theorem q_933 : Cond.selects "SkirmishGrid$Paths" yX5_costsFrom yX5_costsFrom ∈ GW := gw_t 933 (by decide +kernel) (by decide +kernel)
theorem q_934 : Cond.code yX5_costsFrom cX5_costsFrom 2 (some .int) ∈ GW := gw_t 934 (by decide +kernel) (by decide +kernel)
theorem dX5_init_0 : decode cX5_init 0 = .ok (.aload_n 0, 1) := by decide +kernel
theorem dX5_init_1 : decode cX5_init 1 = .ok (.invokespecial 3, 3) := by decide +kernel
theorem dX5_init_4 : decode cX5_init 4 = .ok (.aload_n 0, 1) := by decide +kernel
theorem dX5_init_5 : decode cX5_init 5 = .ok (.bipush 64, 2) := by decide +kernel
theorem dX5_init_7 : decode cX5_init 7 = .ok (.newarray .int, 2) := by decide +kernel
theorem dX5_init_9 : decode cX5_init 9 = .ok (.putfield 9, 3) := by decide +kernel
theorem dX5_init_12 : decode cX5_init 12 = .ok (.aload_n 0, 1) := by decide +kernel
theorem dX5_init_13 : decode cX5_init 13 = .ok (.bipush 64, 2) := by decide +kernel
theorem dX5_init_15 : decode cX5_init 15 = .ok (.newarray .int, 2) := by decide +kernel
theorem dX5_init_17 : decode cX5_init 17 = .ok (.putfield 15, 3) := by decide +kernel
theorem dX5_init_20 : decode cX5_init 20 = .ok (.aload_n 0, 1) := by decide +kernel
theorem dX5_init_21 : decode cX5_init 21 = .ok (.bipush 64, 2) := by decide +kernel
theorem dX5_init_23 : decode cX5_init 23 = .ok (.newarray .boolean, 2) := by decide +kernel
theorem dX5_init_25 : decode cX5_init 25 = .ok (.putfield 18, 3) := by decide +kernel
theorem dX5_init_28 : decode cX5_init 28 = .ok (.return_, 1) := by decide +kernel
theorem dX5_clear_0 : decode cX5_clear 0 = .ok (.aload_n 1, 1) := by decide +kernel
theorem dX5_clear_1 : decode cX5_clear 1 = .ok (.getfield 41, 3) := by decide +kernel
theorem dX5_clear_4 : decode cX5_clear 4 = .ok (.astore_n 2, 1) := by decide +kernel
theorem dX5_clear_5 : decode cX5_clear 5 = .ok (.aload_n 0, 1) := by decide +kernel
theorem dX5_clear_6 : decode cX5_clear 6 = .ok (.aload_n 2, 1) := by decide +kernel
theorem dX5_clear_7 : decode cX5_clear 7 = .ok (.getfield 53, 3) := by decide +kernel
theorem dX5_clear_10 : decode cX5_clear 10 = .ok (.aload_n 2, 1) := by decide +kernel
theorem dX5_clear_11 : decode cX5_clear 11 = .ok (.getfield 58, 3) := by decide +kernel
theorem dX5_clear_14 : decode cX5_clear 14 = .ok (.imul, 1) := by decide +kernel
theorem dX5_clear_15 : decode cX5_clear 15 = .ok (.bipush 64, 2) := by decide +kernel
theorem dX5_clear_17 : decode cX5_clear 17 = .ok (.invokestatic 61, 3) := by decide +kernel
theorem dX5_clear_20 : decode cX5_clear 20 = .ok (.putfield 38, 3) := by decide +kernel
theorem dX5_clear_23 : decode cX5_clear 23 = .ok (.iconst 0, 1) := by decide +kernel
theorem dX5_clear_24 : decode cX5_clear 24 = .ok (.istore_n 3, 1) := by decide +kernel
theorem dX5_clear_25 : decode cX5_clear 25 = .ok (.iload_n 3, 1) := by decide +kernel
theorem dX5_clear_26 : decode cX5_clear 26 = .ok (.aload_n 0, 1) := by decide +kernel
theorem dX5_clear_27 : decode cX5_clear 27 = .ok (.getfield 38, 3) := by decide +kernel
theorem dX5_clear_30 : decode cX5_clear 30 = .ok (.if_icmp .ge 67, 3) := by decide +kernel
theorem dX5_clear_33 : decode cX5_clear 33 = .ok (.aload_n 2, 1) := by decide +kernel
theorem dX5_clear_34 : decode cX5_clear 34 = .ok (.iload_n 3, 1) := by decide +kernel
theorem dX5_clear_35 : decode cX5_clear 35 = .ok (.invokevirtual 67, 3) := by decide +kernel
theorem dX5_clear_38 : decode cX5_clear 38 = .ok (.istore 4, 2) := by decide +kernel
theorem dX5_clear_40 : decode cX5_clear 40 = .ok (.aload_n 0, 1) := by decide +kernel
theorem dX5_clear_41 : decode cX5_clear 41 = .ok (.getfield 9, 3) := by decide +kernel
theorem dX5_clear_44 : decode cX5_clear 44 = .ok (.iload_n 3, 1) := by decide +kernel
theorem dX5_clear_45 : decode cX5_clear 45 = .ok (.iload 4, 2) := by decide +kernel
theorem dX5_clear_47 : decode cX5_clear 47 = .ok (.iconst 3, 1) := by decide +kernel
theorem dX5_clear_48 : decode cX5_clear 48 = .ok (.if_icmp .eq 9, 3) := by decide +kernel
theorem dX5_clear_51 : decode cX5_clear 51 = .ok (.iload 4, 2) := by decide +kernel
theorem dX5_clear_53 : decode cX5_clear 53 = .ok (.iconst 2, 1) := by decide +kernel
theorem dX5_clear_54 : decode cX5_clear 54 = .ok (.if_icmp .ne 7, 3) := by decide +kernel
theorem dX5_clear_57 : decode cX5_clear 57 = .ok (.iconst 2, 1) := by decide +kernel
theorem dX5_clear_58 : decode cX5_clear 58 = .ok (.goto 4, 3) := by decide +kernel
theorem dX5_clear_61 : decode cX5_clear 61 = .ok (.iconst 1, 1) := by decide +kernel
theorem dX5_clear_62 : decode cX5_clear 62 = .ok (.iastore, 1) := by decide +kernel
theorem dX5_clear_63 : decode cX5_clear 63 = .ok (.iload 4, 2) := by decide +kernel
theorem dX5_clear_65 : decode cX5_clear 65 = .ok (.iconst 1, 1) := by decide +kernel
theorem dX5_clear_66 : decode cX5_clear 66 = .ok (.if_icmp .ne 10, 3) := by decide +kernel
theorem dX5_clear_69 : decode cX5_clear 69 = .ok (.aload_n 0, 1) := by decide +kernel
theorem dX5_clear_70 : decode cX5_clear 70 = .ok (.getfield 9, 3) := by decide +kernel
theorem dX5_clear_73 : decode cX5_clear 73 = .ok (.iload_n 3, 1) := by decide +kernel
theorem dX5_clear_74 : decode cX5_clear 74 = .ok (.iconst 0, 1) := by decide +kernel
theorem dX5_clear_75 : decode cX5_clear 75 = .ok (.iastore, 1) := by decide +kernel
theorem dX5_clear_76 : decode cX5_clear 76 = .ok (.aload_n 0, 1) := by decide +kernel
theorem dX5_clear_77 : decode cX5_clear 77 = .ok (.getfield 15, 3) := by decide +kernel
theorem dX5_clear_80 : decode cX5_clear 80 = .ok (.iload_n 3, 1) := by decide +kernel
theorem dX5_clear_81 : decode cX5_clear 81 = .ok (.ldc 71, 2) := by decide +kernel
theorem dX5_clear_83 : decode cX5_clear 83 = .ok (.iastore, 1) := by decide +kernel
theorem dX5_clear_84 : decode cX5_clear 84 = .ok (.aload_n 0, 1) := by decide +kernel
theorem dX5_clear_85 : decode cX5_clear 85 = .ok (.getfield 18, 3) := by decide +kernel
theorem dX5_clear_88 : decode cX5_clear 88 = .ok (.iload_n 3, 1) := by decide +kernel
theorem dX5_clear_89 : decode cX5_clear 89 = .ok (.iconst 0, 1) := by decide +kernel
theorem dX5_clear_90 : decode cX5_clear 90 = .ok (.bastore, 1) := by decide +kernel
theorem dX5_clear_91 : decode cX5_clear 91 = .ok (.iinc 3 1, 3) := by decide +kernel
theorem dX5_clear_94 : decode cX5_clear 94 = .ok (.goto (-69), 3) := by decide +kernel
theorem dX5_clear_97 : decode cX5_clear 97 = .ok (.iconst 0, 1) := by decide +kernel
theorem dX5_clear_98 : decode cX5_clear 98 = .ok (.istore_n 3, 1) := by decide +kernel
theorem dX5_clear_99 : decode cX5_clear 99 = .ok (.iload_n 3, 1) := by decide +kernel
theorem dX5_clear_100 : decode cX5_clear 100 = .ok (.aload_n 1, 1) := by decide +kernel
theorem dX5_clear_101 : decode cX5_clear 101 = .ok (.getfield 72, 3) := by decide +kernel
theorem dX5_clear_104 : decode cX5_clear 104 = .ok (.if_icmp .ge 48, 3) := by decide +kernel
theorem dX5_clear_107 : decode cX5_clear 107 = .ok (.aload_n 1, 1) := by decide +kernel
theorem dX5_clear_108 : decode cX5_clear 108 = .ok (.getfield 75, 3) := by decide +kernel
theorem dX5_clear_111 : decode cX5_clear 111 = .ok (.iload_n 3, 1) := by decide +kernel
theorem dX5_clear_112 : decode cX5_clear 112 = .ok (.aaload, 1) := by decide +kernel
theorem dX5_clear_113 : decode cX5_clear 113 = .ok (.astore 4, 2) := by decide +kernel
theorem dX5_clear_115 : decode cX5_clear 115 = .ok (.aload 4, 2) := by decide +kernel
theorem dX5_clear_117 : decode cX5_clear 117 = .ok (.invokevirtual 79, 3) := by decide +kernel
theorem dX5_clear_120 : decode cX5_clear 120 = .ok (.ifCond .eq 26, 3) := by decide +kernel
theorem dX5_clear_123 : decode cX5_clear 123 = .ok (.aload 4, 2) := by decide +kernel
theorem dX5_clear_125 : decode cX5_clear 125 = .ok (.getfield 32, 3) := by decide +kernel
theorem dX5_clear_128 : decode cX5_clear 128 = .ok (.aload_n 0, 1) := by decide +kernel
theorem dX5_clear_129 : decode cX5_clear 129 = .ok (.getfield 38, 3) := by decide +kernel
theorem dX5_clear_132 : decode cX5_clear 132 = .ok (.if_icmp .ge 14, 3) := by decide +kernel
theorem dX5_clear_135 : decode cX5_clear 135 = .ok (.aload_n 0, 1) := by decide +kernel
theorem dX5_clear_136 : decode cX5_clear 136 = .ok (.getfield 9, 3) := by decide +kernel
theorem dX5_clear_139 : decode cX5_clear 139 = .ok (.aload 4, 2) := by decide +kernel
theorem dX5_clear_141 : decode cX5_clear 141 = .ok (.getfield 32, 3) := by decide +kernel
theorem dX5_clear_144 : decode cX5_clear 144 = .ok (.iconst 0, 1) := by decide +kernel
theorem dX5_clear_145 : decode cX5_clear 145 = .ok (.iastore, 1) := by decide +kernel
theorem dX5_clear_146 : decode cX5_clear 146 = .ok (.iinc 3 1, 3) := by decide +kernel
theorem dX5_clear_149 : decode cX5_clear 149 = .ok (.goto (-50), 3) := by decide +kernel
theorem dX5_clear_152 : decode cX5_clear 152 = .ok (.return_, 1) := by decide +kernel
theorem dX5_spread_0 : decode cX5_spread 0 = .ok (.aload_n 0, 1) := by decide +kernel
theorem dX5_spread_1 : decode cX5_spread 1 = .ok (.getfield 9, 3) := by decide +kernel
theorem dX5_spread_4 : decode cX5_spread 4 = .ok (.iload_n 2, 1) := by decide +kernel
theorem dX5_spread_5 : decode cX5_spread 5 = .ok (.iaload, 1) := by decide +kernel
theorem dX5_spread_6 : decode cX5_spread 6 = .ok (.ifCond .ne 4, 3) := by decide +kernel
theorem dX5_spread_9 : decode cX5_spread 9 = .ok (.return_, 1) := by decide +kernel
theorem dX5_spread_10 : decode cX5_spread 10 = .ok (.aload_n 0, 1) := by decide +kernel
theorem dX5_spread_11 : decode cX5_spread 11 = .ok (.getfield 15, 3) := by decide +kernel
theorem dX5_spread_14 : decode cX5_spread 14 = .ok (.iload_n 2, 1) := by decide +kernel
theorem dX5_spread_15 : decode cX5_spread 15 = .ok (.iaload, 1) := by decide +kernel
theorem dX5_spread_16 : decode cX5_spread 16 = .ok (.aload_n 0, 1) := by decide +kernel
theorem dX5_spread_17 : decode cX5_spread 17 = .ok (.getfield 9, 3) := by decide +kernel
theorem dX5_spread_20 : decode cX5_spread 20 = .ok (.iload_n 2, 1) := by decide +kernel
theorem dX5_spread_21 : decode cX5_spread 21 = .ok (.iaload, 1) := by decide +kernel
theorem dX5_spread_22 : decode cX5_spread 22 = .ok (.iadd, 1) := by decide +kernel
theorem dX5_spread_23 : decode cX5_spread 23 = .ok (.istore_n 3, 1) := by decide +kernel
theorem dX5_spread_24 : decode cX5_spread 24 = .ok (.iconst 0, 1) := by decide +kernel
theorem dX5_spread_25 : decode cX5_spread 25 = .ok (.istore 4, 2) := by decide +kernel
theorem dX5_spread_27 : decode cX5_spread 27 = .ok (.iload 4, 2) := by decide +kernel
theorem dX5_spread_29 : decode cX5_spread 29 = .ok (.iconst 3, 1) := by decide +kernel
theorem dX5_spread_30 : decode cX5_spread 30 = .ok (.if_icmp .gt 51, 3) := by decide +kernel
theorem dX5_spread_33 : decode cX5_spread 33 = .ok (.aload_n 1, 1) := by decide +kernel
theorem dX5_spread_34 : decode cX5_spread 34 = .ok (.iload_n 2, 1) := by decide +kernel
theorem dX5_spread_35 : decode cX5_spread 35 = .ok (.iload 4, 2) := by decide +kernel
theorem dX5_spread_37 : decode cX5_spread 37 = .ok (.invokevirtual 83, 3) := by decide +kernel
theorem dX5_spread_40 : decode cX5_spread 40 = .ok (.istore 5, 2) := by decide +kernel
theorem dX5_spread_42 : decode cX5_spread 42 = .ok (.iload 5, 2) := by decide +kernel
theorem dX5_spread_44 : decode cX5_spread 44 = .ok (.ifCond .lt 31, 3) := by decide +kernel
theorem dX5_spread_47 : decode cX5_spread 47 = .ok (.iload 5, 2) := by decide +kernel
theorem dX5_spread_49 : decode cX5_spread 49 = .ok (.aload_n 0, 1) := by decide +kernel
theorem dX5_spread_50 : decode cX5_spread 50 = .ok (.getfield 38, 3) := by decide +kernel
theorem dX5_spread_53 : decode cX5_spread 53 = .ok (.if_icmp .ge 22, 3) := by decide +kernel
theorem dX5_spread_56 : decode cX5_spread 56 = .ok (.iload_n 3, 1) := by decide +kernel
theorem dX5_spread_57 : decode cX5_spread 57 = .ok (.aload_n 0, 1) := by decide +kernel
theorem dX5_spread_58 : decode cX5_spread 58 = .ok (.getfield 15, 3) := by decide +kernel
theorem dX5_spread_61 : decode cX5_spread 61 = .ok (.iload 5, 2) := by decide +kernel
theorem dX5_spread_63 : decode cX5_spread 63 = .ok (.iaload, 1) := by decide +kernel
theorem dX5_spread_64 : decode cX5_spread 64 = .ok (.if_icmp .ge 11, 3) := by decide +kernel
theorem dX5_spread_67 : decode cX5_spread 67 = .ok (.aload_n 0, 1) := by decide +kernel
theorem dX5_spread_68 : decode cX5_spread 68 = .ok (.getfield 15, 3) := by decide +kernel
theorem dX5_spread_71 : decode cX5_spread 71 = .ok (.iload 5, 2) := by decide +kernel
theorem dX5_spread_73 : decode cX5_spread 73 = .ok (.iload_n 3, 1) := by decide +kernel
theorem dX5_spread_74 : decode cX5_spread 74 = .ok (.iastore, 1) := by decide +kernel
theorem dX5_spread_75 : decode cX5_spread 75 = .ok (.iinc 4 1, 3) := by decide +kernel
theorem dX5_spread_78 : decode cX5_spread 78 = .ok (.goto (-51), 3) := by decide +kernel
theorem dX5_spread_81 : decode cX5_spread 81 = .ok (.return_, 1) := by decide +kernel
theorem dX5_findCheapest_0 : decode cX5_findCheapest 0 = .ok (.iconst (-1), 1) := by decide +kernel
theorem dX5_findCheapest_1 : decode cX5_findCheapest 1 = .ok (.istore_n 1, 1) := by decide +kernel
theorem dX5_findCheapest_2 : decode cX5_findCheapest 2 = .ok (.ldc 71, 2) := by decide +kernel
theorem dX5_findCheapest_4 : decode cX5_findCheapest 4 = .ok (.istore_n 2, 1) := by decide +kernel
theorem dX5_findCheapest_5 : decode cX5_findCheapest 5 = .ok (.iconst 0, 1) := by decide +kernel
theorem dX5_findCheapest_6 : decode cX5_findCheapest 6 = .ok (.istore_n 3, 1) := by decide +kernel
theorem dX5_findCheapest_7 : decode cX5_findCheapest 7 = .ok (.iload_n 3, 1) := by decide +kernel
theorem dX5_findCheapest_8 : decode cX5_findCheapest 8 = .ok (.aload_n 0, 1) := by decide +kernel
theorem dX5_findCheapest_9 : decode cX5_findCheapest 9 = .ok (.getfield 38, 3) := by decide +kernel
theorem dX5_findCheapest_12 : decode cX5_findCheapest 12 = .ok (.if_icmp .ge 37, 3) := by decide +kernel
theorem dX5_findCheapest_15 : decode cX5_findCheapest 15 = .ok (.aload_n 0, 1) := by decide +kernel
theorem dX5_findCheapest_16 : decode cX5_findCheapest 16 = .ok (.getfield 18, 3) := by decide +kernel
theorem dX5_findCheapest_19 : decode cX5_findCheapest 19 = .ok (.iload_n 3, 1) := by decide +kernel
theorem dX5_findCheapest_20 : decode cX5_findCheapest 20 = .ok (.baload, 1) := by decide +kernel
theorem dX5_findCheapest_21 : decode cX5_findCheapest 21 = .ok (.ifCond .ne 22, 3) := by decide +kernel
theorem dX5_findCheapest_24 : decode cX5_findCheapest 24 = .ok (.aload_n 0, 1) := by decide +kernel
theorem dX5_findCheapest_25 : decode cX5_findCheapest 25 = .ok (.getfield 15, 3) := by decide +kernel
theorem dX5_findCheapest_28 : decode cX5_findCheapest 28 = .ok (.iload_n 3, 1) := by decide +kernel
theorem dX5_findCheapest_29 : decode cX5_findCheapest 29 = .ok (.iaload, 1) := by decide +kernel
theorem dX5_findCheapest_30 : decode cX5_findCheapest 30 = .ok (.iload_n 2, 1) := by decide +kernel
theorem dX5_findCheapest_31 : decode cX5_findCheapest 31 = .ok (.if_icmp .ge 12, 3) := by decide +kernel
theorem dX5_findCheapest_34 : decode cX5_findCheapest 34 = .ok (.iload_n 3, 1) := by decide +kernel
theorem dX5_findCheapest_35 : decode cX5_findCheapest 35 = .ok (.istore_n 1, 1) := by decide +kernel
theorem dX5_findCheapest_36 : decode cX5_findCheapest 36 = .ok (.aload_n 0, 1) := by decide +kernel
theorem dX5_findCheapest_37 : decode cX5_findCheapest 37 = .ok (.getfield 15, 3) := by decide +kernel
theorem dX5_findCheapest_40 : decode cX5_findCheapest 40 = .ok (.iload_n 3, 1) := by decide +kernel
theorem dX5_findCheapest_41 : decode cX5_findCheapest 41 = .ok (.iaload, 1) := by decide +kernel
theorem dX5_findCheapest_42 : decode cX5_findCheapest 42 = .ok (.istore_n 2, 1) := by decide +kernel
theorem dX5_findCheapest_43 : decode cX5_findCheapest 43 = .ok (.iinc 3 1, 3) := by decide +kernel
theorem dX5_findCheapest_46 : decode cX5_findCheapest 46 = .ok (.goto (-39), 3) := by decide +kernel
theorem dX5_findCheapest_49 : decode cX5_findCheapest 49 = .ok (.iload_n 1, 1) := by decide +kernel
theorem dX5_findCheapest_50 : decode cX5_findCheapest 50 = .ok (.ireturn, 1) := by decide +kernel
theorem dX5_measure_0 : decode cX5_measure 0 = .ok (.aload_n 0, 1) := by decide +kernel
theorem dX5_measure_1 : decode cX5_measure 1 = .ok (.aload_n 1, 1) := by decide +kernel
theorem dX5_measure_2 : decode cX5_measure 2 = .ok (.invokevirtual 22, 3) := by decide +kernel
theorem dX5_measure_5 : decode cX5_measure 5 = .ok (.aload_n 1, 1) := by decide +kernel
theorem dX5_measure_6 : decode cX5_measure 6 = .ok (.invokevirtual 26, 3) := by decide +kernel
theorem dX5_measure_9 : decode cX5_measure 9 = .ok (.astore_n 3, 1) := by decide +kernel
theorem dX5_measure_10 : decode cX5_measure 10 = .ok (.aload_n 3, 1) := by decide +kernel
theorem dX5_measure_11 : decode cX5_measure 11 = .ok (.ifnull 15, 3) := by decide +kernel
theorem dX5_measure_14 : decode cX5_measure 14 = .ok (.aload_n 3, 1) := by decide +kernel
theorem dX5_measure_15 : decode cX5_measure 15 = .ok (.getfield 32, 3) := by decide +kernel
theorem dX5_measure_18 : decode cX5_measure 18 = .ok (.iload_n 2, 1) := by decide +kernel
theorem dX5_measure_19 : decode cX5_measure 19 = .ok (.if_icmp .ne 7, 3) := by decide +kernel
theorem dX5_measure_22 : decode cX5_measure 22 = .ok (.iconst 1, 1) := by decide +kernel
theorem dX5_measure_23 : decode cX5_measure 23 = .ok (.goto 4, 3) := by decide +kernel
theorem dX5_measure_26 : decode cX5_measure 26 = .ok (.iconst 0, 1) := by decide +kernel
theorem dX5_measure_27 : decode cX5_measure 27 = .ok (.istore 4, 2) := by decide +kernel
theorem dX5_measure_29 : decode cX5_measure 29 = .ok (.iload_n 2, 1) := by decide +kernel
theorem dX5_measure_30 : decode cX5_measure 30 = .ok (.ifCond .lt 25, 3) := by decide +kernel
theorem dX5_measure_33 : decode cX5_measure 33 = .ok (.iload_n 2, 1) := by decide +kernel
theorem dX5_measure_34 : decode cX5_measure 34 = .ok (.aload_n 0, 1) := by decide +kernel
theorem dX5_measure_35 : decode cX5_measure 35 = .ok (.getfield 38, 3) := by decide +kernel
theorem dX5_measure_38 : decode cX5_measure 38 = .ok (.if_icmp .ge 17, 3) := by decide +kernel
theorem dX5_measure_41 : decode cX5_measure 41 = .ok (.aload_n 0, 1) := by decide +kernel
theorem dX5_measure_42 : decode cX5_measure 42 = .ok (.getfield 9, 3) := by decide +kernel
theorem dX5_measure_45 : decode cX5_measure 45 = .ok (.iload_n 2, 1) := by decide +kernel
theorem dX5_measure_46 : decode cX5_measure 46 = .ok (.iaload, 1) := by decide +kernel
theorem dX5_measure_47 : decode cX5_measure 47 = .ok (.ifCond .ne 9, 3) := by decide +kernel
theorem dX5_measure_50 : decode cX5_measure 50 = .ok (.iload 4, 2) := by decide +kernel
theorem dX5_measure_52 : decode cX5_measure 52 = .ok (.ifCond .ne 4, 3) := by decide +kernel
theorem dX5_measure_55 : decode cX5_measure 55 = .ok (.return_, 1) := by decide +kernel
theorem dX5_measure_56 : decode cX5_measure 56 = .ok (.aload_n 0, 1) := by decide +kernel
theorem dX5_measure_57 : decode cX5_measure 57 = .ok (.getfield 15, 3) := by decide +kernel
theorem dX5_measure_60 : decode cX5_measure 60 = .ok (.iload_n 2, 1) := by decide +kernel
theorem dX5_measure_61 : decode cX5_measure 61 = .ok (.iconst 0, 1) := by decide +kernel
theorem dX5_measure_62 : decode cX5_measure 62 = .ok (.iastore, 1) := by decide +kernel
theorem dX5_measure_63 : decode cX5_measure 63 = .ok (.iload_n 2, 1) := by decide +kernel
theorem dX5_measure_64 : decode cX5_measure 64 = .ok (.istore 5, 2) := by decide +kernel
theorem dX5_measure_66 : decode cX5_measure 66 = .ok (.iconst 0, 1) := by decide +kernel
theorem dX5_measure_67 : decode cX5_measure 67 = .ok (.istore 6, 2) := by decide +kernel
theorem dX5_measure_69 : decode cX5_measure 69 = .ok (.iload 6, 2) := by decide +kernel
theorem dX5_measure_71 : decode cX5_measure 71 = .ok (.bipush 64, 2) := by decide +kernel
theorem dX5_measure_73 : decode cX5_measure 73 = .ok (.if_icmp .ge 38, 3) := by decide +kernel
theorem dX5_measure_76 : decode cX5_measure 76 = .ok (.iload 5, 2) := by decide +kernel
theorem dX5_measure_78 : decode cX5_measure 78 = .ok (.ifCond .lt 33, 3) := by decide +kernel
theorem dX5_measure_81 : decode cX5_measure 81 = .ok (.aload_n 0, 1) := by decide +kernel
theorem dX5_measure_82 : decode cX5_measure 82 = .ok (.getfield 18, 3) := by decide +kernel
theorem dX5_measure_85 : decode cX5_measure 85 = .ok (.iload 5, 2) := by decide +kernel
theorem dX5_measure_87 : decode cX5_measure 87 = .ok (.iconst 1, 1) := by decide +kernel
theorem dX5_measure_88 : decode cX5_measure 88 = .ok (.bastore, 1) := by decide +kernel
theorem dX5_measure_89 : decode cX5_measure 89 = .ok (.aload_n 0, 1) := by decide +kernel
theorem dX5_measure_90 : decode cX5_measure 90 = .ok (.aload_n 1, 1) := by decide +kernel
theorem dX5_measure_91 : decode cX5_measure 91 = .ok (.getfield 41, 3) := by decide +kernel
theorem dX5_measure_94 : decode cX5_measure 94 = .ok (.iload 5, 2) := by decide +kernel
theorem dX5_measure_96 : decode cX5_measure 96 = .ok (.invokevirtual 45, 3) := by decide +kernel
theorem dX5_measure_99 : decode cX5_measure 99 = .ok (.aload_n 0, 1) := by decide +kernel
theorem dX5_measure_100 : decode cX5_measure 100 = .ok (.invokevirtual 49, 3) := by decide +kernel
theorem dX5_measure_103 : decode cX5_measure 103 = .ok (.istore 5, 2) := by decide +kernel
theorem dX5_measure_105 : decode cX5_measure 105 = .ok (.iinc 6 1, 3) := by decide +kernel
theorem dX5_measure_108 : decode cX5_measure 108 = .ok (.goto (-39), 3) := by decide +kernel
theorem dX5_measure_111 : decode cX5_measure 111 = .ok (.return_, 1) := by decide +kernel
theorem dX5_costsFrom_0 : decode cX5_costsFrom 0 = .ok (.iload_n 1, 1) := by decide +kernel
theorem dX5_costsFrom_1 : decode cX5_costsFrom 1 = .ok (.ifCond .lt 20, 3) := by decide +kernel
theorem dX5_costsFrom_4 : decode cX5_costsFrom 4 = .ok (.iload_n 1, 1) := by decide +kernel
theorem dX5_costsFrom_5 : decode cX5_costsFrom 5 = .ok (.aload_n 0, 1) := by decide +kernel
theorem dX5_costsFrom_6 : decode cX5_costsFrom 6 = .ok (.getfield 38, 3) := by decide +kernel
theorem dX5_costsFrom_9 : decode cX5_costsFrom 9 = .ok (.if_icmp .ge 12, 3) := by decide +kernel
theorem dX5_costsFrom_12 : decode cX5_costsFrom 12 = .ok (.aload_n 0, 1) := by decide +kernel
theorem dX5_costsFrom_13 : decode cX5_costsFrom 13 = .ok (.getfield 15, 3) := by decide +kernel
theorem dX5_costsFrom_16 : decode cX5_costsFrom 16 = .ok (.iload_n 1, 1) := by decide +kernel
theorem dX5_costsFrom_17 : decode cX5_costsFrom 17 = .ok (.iaload, 1) := by decide +kernel
theorem dX5_costsFrom_18 : decode cX5_costsFrom 18 = .ok (.goto 5, 3) := by decide +kernel
theorem dX5_costsFrom_21 : decode cX5_costsFrom 21 = .ok (.ldc 71, 2) := by decide +kernel
theorem dX5_costsFrom_23 : decode cX5_costsFrom 23 = .ok (.ireturn, 1) := by decide +kernel
theorem dX5_next_0 : decode cX5_next 0 = .ok (.aload_n 0, 1) := by decide +kernel
theorem dX5_next_1 : decode cX5_next 1 = .ok (.iload_n 2, 1) := by decide +kernel
theorem dX5_next_2 : decode cX5_next 2 = .ok (.invokevirtual 86, 3) := by decide +kernel
theorem dX5_next_5 : decode cX5_next 5 = .ok (.ldc 71, 2) := by decide +kernel
theorem dX5_next_7 : decode cX5_next 7 = .ok (.if_icmp .lt 5, 3) := by decide +kernel
theorem dX5_next_10 : decode cX5_next 10 = .ok (.iconst (-1), 1) := by decide +kernel
theorem dX5_next_11 : decode cX5_next 11 = .ok (.ireturn, 1) := by decide +kernel
theorem dX5_next_12 : decode cX5_next 12 = .ok (.iconst 0, 1) := by decide +kernel
theorem dX5_next_13 : decode cX5_next 13 = .ok (.istore_n 3, 1) := by decide +kernel
theorem dX5_next_14 : decode cX5_next 14 = .ok (.iload_n 3, 1) := by decide +kernel
theorem dX5_next_15 : decode cX5_next 15 = .ok (.iconst 3, 1) := by decide +kernel
theorem dX5_next_16 : decode cX5_next 16 = .ok (.if_icmp .gt 68, 3) := by decide +kernel
theorem dX5_next_19 : decode cX5_next 19 = .ok (.aload_n 1, 1) := by decide +kernel
theorem dX5_next_20 : decode cX5_next 20 = .ok (.iload_n 2, 1) := by decide +kernel
theorem dX5_next_21 : decode cX5_next 21 = .ok (.iload_n 3, 1) := by decide +kernel
theorem dX5_next_22 : decode cX5_next 22 = .ok (.invokevirtual 83, 3) := by decide +kernel
theorem dX5_next_25 : decode cX5_next 25 = .ok (.istore 4, 2) := by decide +kernel
theorem dX5_next_27 : decode cX5_next 27 = .ok (.iload 4, 2) := by decide +kernel
theorem dX5_next_29 : decode cX5_next 29 = .ok (.ifCond .lt 49, 3) := by decide +kernel
theorem dX5_next_32 : decode cX5_next 32 = .ok (.iload 4, 2) := by decide +kernel
theorem dX5_next_34 : decode cX5_next 34 = .ok (.aload_n 0, 1) := by decide +kernel
theorem dX5_next_35 : decode cX5_next 35 = .ok (.getfield 38, 3) := by decide +kernel
theorem dX5_next_38 : decode cX5_next 38 = .ok (.if_icmp .ge 40, 3) := by decide +kernel
theorem dX5_next_41 : decode cX5_next 41 = .ok (.aload_n 0, 1) := by decide +kernel
theorem dX5_next_42 : decode cX5_next 42 = .ok (.getfield 9, 3) := by decide +kernel
theorem dX5_next_45 : decode cX5_next 45 = .ok (.iload 4, 2) := by decide +kernel
theorem dX5_next_47 : decode cX5_next 47 = .ok (.iaload, 1) := by decide +kernel
theorem dX5_next_48 : decode cX5_next 48 = .ok (.ifCond .le 30, 3) := by decide +kernel
theorem dX5_next_51 : decode cX5_next 51 = .ok (.aload_n 0, 1) := by decide +kernel
theorem dX5_next_52 : decode cX5_next 52 = .ok (.getfield 15, 3) := by decide +kernel
theorem dX5_next_55 : decode cX5_next 55 = .ok (.iload 4, 2) := by decide +kernel
theorem dX5_next_57 : decode cX5_next 57 = .ok (.iaload, 1) := by decide +kernel
theorem dX5_next_58 : decode cX5_next 58 = .ok (.aload_n 0, 1) := by decide +kernel
theorem dX5_next_59 : decode cX5_next 59 = .ok (.getfield 9, 3) := by decide +kernel
theorem dX5_next_62 : decode cX5_next 62 = .ok (.iload 4, 2) := by decide +kernel
theorem dX5_next_64 : decode cX5_next 64 = .ok (.iaload, 1) := by decide +kernel
theorem dX5_next_65 : decode cX5_next 65 = .ok (.iadd, 1) := by decide +kernel
theorem dX5_next_66 : decode cX5_next 66 = .ok (.aload_n 0, 1) := by decide +kernel
theorem dX5_next_67 : decode cX5_next 67 = .ok (.getfield 15, 3) := by decide +kernel
theorem dX5_next_70 : decode cX5_next 70 = .ok (.iload_n 2, 1) := by decide +kernel
theorem dX5_next_71 : decode cX5_next 71 = .ok (.iaload, 1) := by decide +kernel
theorem dX5_next_72 : decode cX5_next 72 = .ok (.if_icmp .ne 6, 3) := by decide +kernel
theorem dX5_next_75 : decode cX5_next 75 = .ok (.iload 4, 2) := by decide +kernel
theorem dX5_next_77 : decode cX5_next 77 = .ok (.ireturn, 1) := by decide +kernel
theorem dX5_next_78 : decode cX5_next 78 = .ok (.iinc 3 1, 3) := by decide +kernel
theorem dX5_next_81 : decode cX5_next 81 = .ok (.goto (-67), 3) := by decide +kernel
theorem dX5_next_84 : decode cX5_next 84 = .ok (.iconst (-1), 1) := by decide +kernel
theorem dX5_next_85 : decode cX5_next 85 = .ok (.ireturn, 1) := by decide +kernel
abbrev rmX5_init : Room := { frames := 1, cells := 3, slots := 192, locals := 40 }
def wX5_init_0 (Q : MS → Prop) (QX : String → MS → Prop) (S : MS) (a0 : Nat) : Prop := (∀ a1, a1 ∉ mL S → (∀ S2, S2 = (nw S a1 12 64) → (∀ S3, S3 = (sR S2 a0 0 (some a1)) → (∀ a4, a4 ∉ mL S3 → (∀ S5, S5 = (nw S3 a4 12 64) → (∀ S6, S6 = (sR S5 a0 1 (some a4)) → (∀ a7, a7 ∉ mL S6 → (∀ S8, S8 = (nw S6 a7 13 64) → (∀ S9, S9 = (sR S8 a0 2 (some a7)) → Q S9)))))))))
set_option maxHeartbeats 4000000 in
set_option maxRecDepth 100000 in
theorem tX5_init_0 {p : Program} {l : Launch} {e : Env} {s : State} {m : MethodId} {args : Array Value} {below : List Frame} {meth : Method} {c : Code} {H : Heap} {locs : List Loc} {cells slots : Nat} {G : GP} {A : Nat → Prop} {S0 : MS} {ls : Array Slot} (C : CF p l s m args meth c "SkirmishGrid$Paths" cX5_init 1 G A) (hr : meth.sig.returnType = none) (hin2 : meth.name = "<init>") (hex : ∀ x ∈ c.exceptionTable.toList, False) (Q : MS → Prop) (QX : String → MS → Prop) (S : MS) (a0 : Nat) (p_a0 : pI S 5 a0) (P : PW G A s H locs S0 S) (hl : lv_has ls 1 [(0, .ref a0)]) (hcc : cells + 3 ≤ 3) (hss : slots + 192 ≤ 192) (hw : wX5_init_0 Q QX S a0) : W p l e rmX5_init s m args below meth c H locs cells slots (vx_MQ below (QV G S0 A Q) (XX G S0 A QX) args s 3 192 A) (F0 m 0 ls []) := by
  have hx := CF_x C
  have hb := CF_b C
  unfold wX5_init_0 at hw
  refine lv_aload_n hx hb dX5_init_0 rfl (lv_at hl 0 rfl) ?_
  refine W.objInit hx hb (CF_o C) (CF_t C _ q_256) (CF_t C _ q_36) (CF_t C _ q_37) rfl (hl.1.trans (CF_m C).symm) rfl dX5_init_1 (Nat.le_of_ble_eq_true rfl) (Nat.le_of_ble_eq_true rfl) ?_
  refine W.eq (g2 := F0 m 4 ls []) rfl ?_
  refine lv_aload_n hx hb dX5_init_4 rfl (lv_at hl 0 rfl) ?_
  refine lv_bipush (v := 64) hx hb dX5_init_5 (by decide) ?_
  refine rn_a (atype := .int) C P 2 (N' := 64) (64, .inl (fun _ => 0)) rfl (fun _ h => by cases h) q_65 rfl (fun _ => rfl) (fun S q => aE_nw (d := 2)) (by decide) (by decide) (by decide) (by show cells + 1 ≤ 3; omega) (by show slots + 64 ≤ 192; omega) dX5_init_7 (fun a1 H hq P => ?_)
  have hw := hw a1 hq
  obtain ⟨S2, hS⟩ : ∃ z, z = (nw S a1 12 64) := ⟨_, rfl⟩
  have P : PW G A s H locs S0 S2 := by rw [hS]; exact P
  have p_a0 : pI S2 5 a0 := by rw [hS]; exact pI_x (ext_nw hq) p_a0
  have hw := hw S2 hS
  have p_a1 : pI S2 12 a1 := by rw [hS]; exact pI_nw
  refine pf_5_0 C hin2 P p_a0 p_a1 q_257 dX5_init_9 (fun H locs P => ?_)
  obtain ⟨S3, hS⟩ : ∃ z, z = (sR S2 a0 0 (some a1)) := ⟨_, rfl⟩
  have P : PW G A s H locs S0 S3 := by rw [hS]; exact P
  have p_a0 : pI S3 5 a0 := by rw [hS]; exact pI_x ext_sR p_a0
  have p_a1 : pI S3 12 a1 := by rw [hS]; exact pI_x ext_sR p_a1
  have hw := hw S3 hS
  refine lv_aload_n hx hb dX5_init_12 rfl (lv_at hl 0 rfl) ?_
  refine lv_bipush (v := 64) hx hb dX5_init_13 (by decide) ?_
  refine rn_a (atype := .int) C P 2 (N' := 64) (64, .inl (fun _ => 0)) rfl (fun _ h => by cases h) q_65 rfl (fun _ => rfl) (fun S q => aE_nw (d := 2)) (by decide) (by decide) (by decide) (by show cells + 1 + 1 ≤ 3; omega) (by show slots + 64 + 64 ≤ 192; omega) dX5_init_15 (fun a4 H hq P => ?_)
  have hw := hw a4 hq
  obtain ⟨S5, hS⟩ : ∃ z, z = (nw S3 a4 12 64) := ⟨_, rfl⟩
  have P : PW G A s H locs S0 S5 := by rw [hS]; exact P
  have p_a0 : pI S5 5 a0 := by rw [hS]; exact pI_x (ext_nw hq) p_a0
  have hw := hw S5 hS
  have p_a4 : pI S5 12 a4 := by rw [hS]; exact pI_nw
  refine pf_5_1 C hin2 P p_a0 p_a4 q_258 dX5_init_17 (fun H locs P => ?_)
  obtain ⟨S6, hS⟩ : ∃ z, z = (sR S5 a0 1 (some a4)) := ⟨_, rfl⟩
  have P : PW G A s H locs S0 S6 := by rw [hS]; exact P
  have p_a0 : pI S6 5 a0 := by rw [hS]; exact pI_x ext_sR p_a0
  have p_a4 : pI S6 12 a4 := by rw [hS]; exact pI_x ext_sR p_a4
  have hw := hw S6 hS
  refine lv_aload_n hx hb dX5_init_20 rfl (lv_at hl 0 rfl) ?_
  refine lv_bipush (v := 64) hx hb dX5_init_21 (by decide) ?_
  refine rn_a (atype := .boolean) C P 3 (N' := 64) (64, .inl (fun _ => 0)) rfl (fun _ h => by cases h) q_270 rfl (fun _ => rfl) (fun S q => aE_nw (d := 3)) (by decide) (by decide) (by decide) (by show cells + 1 + 1 + 1 ≤ 3; omega) (by show slots + 64 + 64 + 64 ≤ 192; omega) dX5_init_23 (fun a7 H hq P => ?_)
  have hw := hw a7 hq
  obtain ⟨S8, hS⟩ : ∃ z, z = (nw S6 a7 13 64) := ⟨_, rfl⟩
  have P : PW G A s H locs S0 S8 := by rw [hS]; exact P
  have p_a0 : pI S8 5 a0 := by rw [hS]; exact pI_x (ext_nw hq) p_a0
  have hw := hw S8 hS
  have p_a7 : pI S8 13 a7 := by rw [hS]; exact pI_nw
  refine pf_5_2 C hin2 P p_a0 p_a7 q_259 dX5_init_25 (fun H locs P => ?_)
  obtain ⟨S9, hS⟩ : ∃ z, z = (sR S8 a0 2 (some a7)) := ⟨_, rfl⟩
  have P : PW G A s H locs S0 S9 := by rw [hS]; exact P
  have p_a0 : pI S9 5 a0 := by rw [hS]; exact pI_x ext_sR p_a0
  have p_a7 : pI S9 13 a7 := by rw [hS]; exact pI_x ext_sR p_a7
  have hw := hw S9 hS
  exact e_v C hr P hw (by omega) (by omega) dX5_init_28
def wp_X5_init (Q : MS → Prop) (QX : String → MS → Prop) (S : MS) (a0 : Nat) : Prop := wX5_init_0 Q QX S a0
set_option maxHeartbeats 4000000 in
set_option maxRecDepth 100000 in
theorem met_X5_init {l : Launch} (hst : l.stackTraces = false) (G : GP) (sz : Nat) (Q : MS → Prop) (QX : String → MS → Prop) (S : MS) (a0 : Nat) (p_a0 : pI S 5 a0) (hw : wp_X5_init Q QX S a0) : vx_Met l yX5_init (.code yX5_init cX5_init 1 none :: GW) rmX5_init (va_Pc [.ref a0] (PR G S sz)) (QV G S (FA G S sz) Q) (XX G S (FA G S sz) QX) 3 192 (FA G S sz) := by
  refine st_m (by decide +kernel) hst (fun p e s m below meth c C hr hnm hex P => ?_)
  refine en_m (Nat.le_of_ble_eq_true rfl) (lv := [(0, .ref a0)]) rfl (fun ls hl => ?_)
  have C : CF p l s m _ meth c "SkirmishGrid$Paths" cX5_init 1 G (FA G S sz) := C
  exact tX5_init_0 C hr hnm hex Q QX S a0 p_a0 P hl (by omega) (by omega) hw
theorem cd_X5_init : yX5_init.cls = RX5 ∧ yX5_init.cls ≠ "java/lang/invoke/MethodHandle" ∧ yX5_init.cls ≠ "java/lang/invoke/VarHandle" ∧ (parseMethodDescriptor yX5_init.desc).map (fun d => d.parameters.length) = some 0 := by decide +kernel
abbrev rmX5_clear : Room := { frames := 1, cells := 0, slots := 0, locals := 60 }
def wX5_clear_76 (Q : MS → Prop) (QX : String → MS → Prop) (k25 : MS → Nat → Nat → Nat → Int32 → Prop) (S : MS) (a0 : Nat) (u1 : Nat) (u2 : Nat) (y3 : Int32) : Prop := (∃ a1, mR S a0 1 = some a1 ∧ (vp_in y3 (mN S a1) ∧ (∀ S2, S2 = (sI S a1 (y3 : Int32).toNatClampNeg 1000000) → (∃ a3, mR S2 a0 2 = some a3 ∧ (vp_in y3 (mN S2 a3) ∧ (∀ S4, S4 = (sI S2 a3 (y3 : Int32).toNatClampNeg 0) → k25 S4 a0 u1 u2 (y3 + 1)))))))
set_option maxHeartbeats 4000000 in
set_option maxRecDepth 100000 in
theorem tX5_clear_76 {p : Program} {l : Launch} {e : Env} {s : State} {m : MethodId} {args : Array Value} {below : List Frame} {meth : Method} {c : Code} {H : Heap} {locs : List Loc} {cells slots : Nat} {G : GP} {A : Nat → Prop} {S0 : MS} {ls : Array Slot} (C : CF p l s m args meth c "SkirmishGrid$Paths" cX5_clear 5 G A) (hr : meth.sig.returnType = none) (hex : ∀ x ∈ c.exceptionTable.toList, False) (Q : MS → Prop) (QX : String → MS → Prop) (k25 : MS → Nat → Nat → Nat → Int32 → Prop) (kh25 : ∀ (S : MS) (a0 : Nat) (u1 : Nat) (u2 : Nat) (y3 : Int32) (cells slots : Nat) (H : Heap) (locs : List Loc) (ls : Array Slot), pI S 5 a0 → pI S 2 u1 → pI S 3 u2 → PW G A s H locs S0 S → lv_has ls 5 [(0, .ref a0), (1, .ref u1), (2, .ref u2), (3, .int y3)] → cells + 0 ≤ 0 → slots + 0 ≤ 0 → k25 S a0 u1 u2 y3 → W p l e rmX5_clear s m args below meth c H locs cells slots (vx_MQ below (QV G S0 A Q) (XX G S0 A QX) args s 0 0 A) (F0 m 25 ls [])) (S : MS) (a0 : Nat) (u1 : Nat) (u2 : Nat) (y3 : Int32) (p_a0 : pI S 5 a0) (p_u1 : pI S 2 u1) (p_u2 : pI S 3 u2) (P : PW G A s H locs S0 S) (hl : lv_has ls 5 [(0, .ref a0), (1, .ref u1), (2, .ref u2), (3, .int y3)]) (hcc : cells + 0 ≤ 0) (hss : slots + 0 ≤ 0) (hw : wX5_clear_76 Q QX k25 S a0 u1 u2 y3) : W p l e rmX5_clear s m args below meth c H locs cells slots (vx_MQ below (QV G S0 A Q) (XX G S0 A QX) args s 0 0 A) (F0 m 76 ls []) := by
  have hx := CF_x C
  have hb := CF_b C
  unfold wX5_clear_76 at hw
  refine lv_aload_n hx hb dX5_clear_76 rfl (lv_at hl 0 rfl) ?_
  obtain ⟨a1, e1, hw⟩ := hw
  have p_a1 : pI S 12 a1 := wf_r P.2.2.2.1 p_a0 e1
  refine gf_5_1 C P p_a0 e1 q_258 dX5_clear_77 ?_
  refine lv_iload_n hx hb dX5_clear_80 rfl (lv_at hl 3 rfl) ?_
  refine lv_ldc (v := 1000000) hx hb (CF_o C) (CF_t C _ q_916) dX5_clear_81 ?_
  obtain ⟨h1, hw⟩ := hw
  refine rs_i C P p_a1 h1 dX5_clear_83 (fun H locs P => ?_)
  obtain ⟨S2, hS⟩ : ∃ z, z = (sI S a1 (y3 : Int32).toNatClampNeg 1000000) := ⟨_, rfl⟩
  have P : PW G A s H locs S0 S2 := by rw [hS]; exact P
  have p_a0 : pI S2 5 a0 := by rw [hS]; exact pI_x ext_sI p_a0
  have p_u1 : pI S2 2 u1 := by rw [hS]; exact pI_x ext_sI p_u1
  have p_u2 : pI S2 3 u2 := by rw [hS]; exact pI_x ext_sI p_u2
  have p_a1 : pI S2 12 a1 := by rw [hS]; exact pI_x ext_sI p_a1
  have hw := hw S2 hS
  refine lv_aload_n hx hb dX5_clear_84 rfl (lv_at hl 0 rfl) ?_
  obtain ⟨a3, e1, hw⟩ := hw
  have p_a3 : pI S2 13 a3 := wf_r P.2.2.2.1 p_a0 e1
  refine gf_5_2 C P p_a0 e1 q_259 dX5_clear_85 ?_
  refine lv_iload_n hx hb dX5_clear_88 rfl (lv_at hl 3 rfl) ?_
  refine lv_iconst (v := 0) hx hb dX5_clear_89 (by decide) ?_
  obtain ⟨h1, hw⟩ := hw
  refine rs_z C P p_a3 h1 (by decide) dX5_clear_90 (fun H locs P => ?_)
  obtain ⟨S4, hS⟩ : ∃ z, z = (sI S2 a3 (y3 : Int32).toNatClampNeg 0) := ⟨_, rfl⟩
  have P : PW G A s H locs S0 S4 := by rw [hS]; exact P
  have p_a0 : pI S4 5 a0 := by rw [hS]; exact pI_x ext_sI p_a0
  have p_u1 : pI S4 2 u1 := by rw [hS]; exact pI_x ext_sI p_u1
  have p_u2 : pI S4 3 u2 := by rw [hS]; exact pI_x ext_sI p_u2
  have p_a3 : pI S4 13 a3 := by rw [hS]; exact pI_x ext_sI p_a3
  have hw := hw S4 hS
  refine lv_iinc (v := (y3 + 1)) (lv' := [(3, .int (y3 + 1)), (0, .ref a0), (1, .ref u1), (2, .ref u2)]) hx hb dX5_clear_91 hl (k := 3) rfl (by rfl) (by decide) rfl (fun ls hl => ?_)
  refine lv_goto (tgt := 25) hx hb dX5_clear_94 (by decide) ?_
  exact kh25 S4 a0 u1 u2 (y3 + 1) _ _ _ _ _ p_a0 p_u1 p_u2 P (lv_sub hl [1, 2, 3, 0] rfl) (by omega) (by omega) hw
def wX5_clear_62 (Q : MS → Prop) (QX : String → MS → Prop) (k25 : MS → Nat → Nat → Nat → Int32 → Prop) (S : MS) (a0 : Nat) (u1 : Nat) (u2 : Nat) (y3 : Int32) (y4 : Int32) (z0 : Int32) (z1 : Int32) (w2 : Nat) : Prop := (vp_in z1 (mN S w2) ∧ (∀ S1, S1 = (sI S w2 (z1 : Int32).toNatClampNeg z0) → ((¬ y4 = 1 → wX5_clear_76 Q QX k25 S1 a0 u1 u2 y3) ∧ (y4 = 1 → (∃ a2, mR S1 a0 0 = some a2 ∧ (vp_in y3 (mN S1 a2) ∧ (∀ S3, S3 = (sI S1 a2 (y3 : Int32).toNatClampNeg 0) → wX5_clear_76 Q QX k25 S3 a0 u1 u2 y3)))))))
set_option maxHeartbeats 4000000 in
set_option maxRecDepth 100000 in
theorem tX5_clear_62 {p : Program} {l : Launch} {e : Env} {s : State} {m : MethodId} {args : Array Value} {below : List Frame} {meth : Method} {c : Code} {H : Heap} {locs : List Loc} {cells slots : Nat} {G : GP} {A : Nat → Prop} {S0 : MS} {ls : Array Slot} (C : CF p l s m args meth c "SkirmishGrid$Paths" cX5_clear 5 G A) (hr : meth.sig.returnType = none) (hex : ∀ x ∈ c.exceptionTable.toList, False) (Q : MS → Prop) (QX : String → MS → Prop) (k25 : MS → Nat → Nat → Nat → Int32 → Prop) (kh25 : ∀ (S : MS) (a0 : Nat) (u1 : Nat) (u2 : Nat) (y3 : Int32) (cells slots : Nat) (H : Heap) (locs : List Loc) (ls : Array Slot), pI S 5 a0 → pI S 2 u1 → pI S 3 u2 → PW G A s H locs S0 S → lv_has ls 5 [(0, .ref a0), (1, .ref u1), (2, .ref u2), (3, .int y3)] → cells + 0 ≤ 0 → slots + 0 ≤ 0 → k25 S a0 u1 u2 y3 → W p l e rmX5_clear s m args below meth c H locs cells slots (vx_MQ below (QV G S0 A Q) (XX G S0 A QX) args s 0 0 A) (F0 m 25 ls [])) (S : MS) (a0 : Nat) (u1 : Nat) (u2 : Nat) (y3 : Int32) (y4 : Int32) (z0 : Int32) (z1 : Int32) (w2 : Nat) (p_a0 : pI S 5 a0) (p_u1 : pI S 2 u1) (p_u2 : pI S 3 u2) (p_w2 : pI S 12 w2) (P : PW G A s H locs S0 S) (hl : lv_has ls 5 [(0, .ref a0), (1, .ref u1), (2, .ref u2), (3, .int y3), (4, .int y4)]) (hcc : cells + 0 ≤ 0) (hss : slots + 0 ≤ 0) (hw : wX5_clear_62 Q QX k25 S a0 u1 u2 y3 y4 z0 z1 w2) : W p l e rmX5_clear s m args below meth c H locs cells slots (vx_MQ below (QV G S0 A Q) (XX G S0 A QX) args s 0 0 A) (F0 m 62 ls [.int z0, .int z1, .ref w2]) := by
  have hx := CF_x C
  have hb := CF_b C
  unfold wX5_clear_62 at hw
  obtain ⟨h1, hw⟩ := hw
  refine rs_i C P p_w2 h1 dX5_clear_62 (fun H locs P => ?_)
  obtain ⟨S1, hS⟩ : ∃ z, z = (sI S w2 (z1 : Int32).toNatClampNeg z0) := ⟨_, rfl⟩
  have P : PW G A s H locs S0 S1 := by rw [hS]; exact P
  have p_a0 : pI S1 5 a0 := by rw [hS]; exact pI_x ext_sI p_a0
  have p_u1 : pI S1 2 u1 := by rw [hS]; exact pI_x ext_sI p_u1
  have p_u2 : pI S1 3 u2 := by rw [hS]; exact pI_x ext_sI p_u2
  have p_w2 : pI S1 12 w2 := by rw [hS]; exact pI_x ext_sI p_w2
  have hw := hw S1 hS
  refine lv_iload hx hb dX5_clear_63 (lv_at hl 4 rfl) ?_
  refine lv_iconst (v := 1) hx hb dX5_clear_65 (by decide) ?_
  refine lv_icmp_ne (tgt := 76) hx hb dX5_clear_66 (by decide) (fun hc => ?_) (fun hc => ?_)
  · have hw := hw.1 hc
    exact tX5_clear_76 C hr hex Q QX k25 kh25 S1 a0 u1 u2 y3 p_a0 p_u1 p_u2 P (lv_sub hl [0, 1, 2, 3] rfl) (by omega) (by omega) hw
  · have hw := hw.2 hc
    refine lv_aload_n hx hb dX5_clear_69 rfl (lv_at hl 0 rfl) ?_
    obtain ⟨a2, e1, hw⟩ := hw
    have p_a2 : pI S1 12 a2 := wf_r P.2.2.2.1 p_a0 e1
    refine gf_5_0 C P p_a0 e1 q_257 dX5_clear_70 ?_
    refine lv_iload_n hx hb dX5_clear_73 rfl (lv_at hl 3 rfl) ?_
    refine lv_iconst (v := 0) hx hb dX5_clear_74 (by decide) ?_
    obtain ⟨h1, hw⟩ := hw
    refine rs_i C P p_a2 h1 dX5_clear_75 (fun H locs P => ?_)
    obtain ⟨S3, hS⟩ : ∃ z, z = (sI S1 a2 (y3 : Int32).toNatClampNeg 0) := ⟨_, rfl⟩
    have P : PW G A s H locs S0 S3 := by rw [hS]; exact P
    have p_a0 : pI S3 5 a0 := by rw [hS]; exact pI_x ext_sI p_a0
    have p_u1 : pI S3 2 u1 := by rw [hS]; exact pI_x ext_sI p_u1
    have p_u2 : pI S3 3 u2 := by rw [hS]; exact pI_x ext_sI p_u2
    have p_a2 : pI S3 12 a2 := by rw [hS]; exact pI_x ext_sI p_a2
    have hw := hw S3 hS
    exact tX5_clear_76 C hr hex Q QX k25 kh25 S3 a0 u1 u2 y3 p_a0 p_u1 p_u2 P (lv_sub hl [0, 1, 2, 3] rfl) (by omega) (by omega) hw
def wX5_clear_57 (Q : MS → Prop) (QX : String → MS → Prop) (k25 : MS → Nat → Nat → Nat → Int32 → Prop) (S : MS) (a0 : Nat) (u1 : Nat) (u2 : Nat) (y3 : Int32) (y4 : Int32) (z0 : Int32) (w1 : Nat) : Prop := wX5_clear_62 Q QX k25 S a0 u1 u2 y3 y4 2 z0 w1
set_option maxHeartbeats 4000000 in
set_option maxRecDepth 100000 in
theorem tX5_clear_57 {p : Program} {l : Launch} {e : Env} {s : State} {m : MethodId} {args : Array Value} {below : List Frame} {meth : Method} {c : Code} {H : Heap} {locs : List Loc} {cells slots : Nat} {G : GP} {A : Nat → Prop} {S0 : MS} {ls : Array Slot} (C : CF p l s m args meth c "SkirmishGrid$Paths" cX5_clear 5 G A) (hr : meth.sig.returnType = none) (hex : ∀ x ∈ c.exceptionTable.toList, False) (Q : MS → Prop) (QX : String → MS → Prop) (k25 : MS → Nat → Nat → Nat → Int32 → Prop) (kh25 : ∀ (S : MS) (a0 : Nat) (u1 : Nat) (u2 : Nat) (y3 : Int32) (cells slots : Nat) (H : Heap) (locs : List Loc) (ls : Array Slot), pI S 5 a0 → pI S 2 u1 → pI S 3 u2 → PW G A s H locs S0 S → lv_has ls 5 [(0, .ref a0), (1, .ref u1), (2, .ref u2), (3, .int y3)] → cells + 0 ≤ 0 → slots + 0 ≤ 0 → k25 S a0 u1 u2 y3 → W p l e rmX5_clear s m args below meth c H locs cells slots (vx_MQ below (QV G S0 A Q) (XX G S0 A QX) args s 0 0 A) (F0 m 25 ls [])) (S : MS) (a0 : Nat) (u1 : Nat) (u2 : Nat) (y3 : Int32) (y4 : Int32) (z0 : Int32) (w1 : Nat) (p_a0 : pI S 5 a0) (p_u1 : pI S 2 u1) (p_u2 : pI S 3 u2) (p_w1 : pI S 12 w1) (P : PW G A s H locs S0 S) (hl : lv_has ls 5 [(0, .ref a0), (1, .ref u1), (2, .ref u2), (3, .int y3), (4, .int y4)]) (hcc : cells + 0 ≤ 0) (hss : slots + 0 ≤ 0) (hw : wX5_clear_57 Q QX k25 S a0 u1 u2 y3 y4 z0 w1) : W p l e rmX5_clear s m args below meth c H locs cells slots (vx_MQ below (QV G S0 A Q) (XX G S0 A QX) args s 0 0 A) (F0 m 57 ls [.int z0, .ref w1]) := by
  have hx := CF_x C
  have hb := CF_b C
  unfold wX5_clear_57 at hw
  refine lv_iconst (v := 2) hx hb dX5_clear_57 (by decide) ?_
  refine lv_goto (tgt := 62) hx hb dX5_clear_58 (by decide) ?_
  exact tX5_clear_62 C hr hex Q QX k25 kh25 S a0 u1 u2 y3 y4 2 z0 w1 p_a0 p_u1 p_u2 p_w1 P (lv_sub hl [0, 1, 2, 3, 4] rfl) (by omega) (by omega) hw
def wX5_clear_99 (Q : MS → Prop) (QX : String → MS → Prop) (k99 : MS → Nat → Nat → Int32 → Prop) (S : MS) (a0 : Nat) (u1 : Nat) (y3 : Int32) : Prop := (((mI S u1 2) ≤ y3 → Q S) ∧ (¬ (mI S u1 2) ≤ y3 → (∃ a1, mR S u1 1 = some a1 ∧ (vp_in y3 (mN S a1) ∧ (∃ a2, mR S a1 (y3 : Int32).toNatClampNeg = some a2 ∧ wp_X7_lives (fun r4 S3 => ((r4 = 0 → k99 S3 a0 u1 (y3 + 1)) ∧ (¬ r4 = 0 → (((mI S3 a0 3) ≤ (mI S3 a2 4) → k99 S3 a0 u1 (y3 + 1)) ∧ (¬ (mI S3 a0 3) ≤ (mI S3 a2 4) → (∃ a5, mR S3 a0 0 = some a5 ∧ (vp_in (mI S3 a2 4) (mN S3 a5) ∧ (∀ S6, S6 = (sI S3 a5 ((mI S3 a2 4) : Int32).toNatClampNeg 0) → k99 S6 a0 u1 (y3 + 1))))))))) QX S a2)))))
set_option maxHeartbeats 4000000 in
set_option maxRecDepth 100000 in
theorem tX5_clear_99 {p : Program} {l : Launch} {e : Env} {s : State} {m : MethodId} {args : Array Value} {below : List Frame} {meth : Method} {c : Code} {H : Heap} {locs : List Loc} {cells slots : Nat} {G : GP} {A : Nat → Prop} {S0 : MS} {ls : Array Slot} (C : CF p l s m args meth c "SkirmishGrid$Paths" cX5_clear 5 G A) (hr : meth.sig.returnType = none) (hex : ∀ x ∈ c.exceptionTable.toList, False) (Q : MS → Prop) (QX : String → MS → Prop) (k99 : MS → Nat → Nat → Int32 → Prop) (kh99 : ∀ (S : MS) (a0 : Nat) (u1 : Nat) (y3 : Int32) (cells slots : Nat) (H : Heap) (locs : List Loc) (ls : Array Slot), pI S 5 a0 → pI S 2 u1 → PW G A s H locs S0 S → lv_has ls 5 [(0, .ref a0), (1, .ref u1), (3, .int y3)] → cells + 0 ≤ 0 → slots + 0 ≤ 0 → k99 S a0 u1 y3 → W p l e rmX5_clear s m args below meth c H locs cells slots (vx_MQ below (QV G S0 A Q) (XX G S0 A QX) args s 0 0 A) (F0 m 99 ls [])) (S : MS) (a0 : Nat) (u1 : Nat) (y3 : Int32) (p_a0 : pI S 5 a0) (p_u1 : pI S 2 u1) (P : PW G A s H locs S0 S) (hl : lv_has ls 5 [(0, .ref a0), (1, .ref u1), (3, .int y3)]) (hcc : cells + 0 ≤ 0) (hss : slots + 0 ≤ 0) (hw : wX5_clear_99 Q QX k99 S a0 u1 y3) : W p l e rmX5_clear s m args below meth c H locs cells slots (vx_MQ below (QV G S0 A Q) (XX G S0 A QX) args s 0 0 A) (F0 m 99 ls []) := by
  have hx := CF_x C
  have hb := CF_b C
  unfold wX5_clear_99 at hw
  refine lv_iload_n hx hb dX5_clear_99 rfl (lv_at hl 2 rfl) ?_
  refine lv_aload_n hx hb dX5_clear_100 rfl (lv_at hl 1 rfl) ?_
  refine gf_2_2 C P p_u1 q_170 dX5_clear_101 ?_
  refine lv_icmp_ge (tgt := 152) hx hb dX5_clear_104 (by decide) (fun hc => ?_) (fun hc => ?_)
  · have hw := hw.1 hc
    exact e_v C hr P hw (by omega) (by omega) dX5_clear_152
  · have hw := hw.2 hc
    refine lv_aload_n hx hb dX5_clear_107 rfl (lv_at hl 1 rfl) ?_
    obtain ⟨a1, e1, hw⟩ := hw
    have p_a1 : pI S 15 a1 := wf_r P.2.2.2.1 p_u1 e1
    refine gf_2_1 C P p_u1 e1 q_166 dX5_clear_108 ?_
    refine lv_iload_n hx hb dX5_clear_111 rfl (lv_at hl 2 rfl) ?_
    obtain ⟨h1, hw⟩ := hw
    obtain ⟨a2, e1, hw⟩ := hw
    have p_a2 : pI S 7 a2 := wf_r P.2.2.2.1 p_a1 e1
    refine ra_a5 C P p_a1 h1 e1 dX5_clear_112 ?_
    refine lv_astore (lv' := [(4, .ref a2), (0, .ref a0), (1, .ref u1), (3, .int y3)]) hx hb dX5_clear_113 hl (by decide) rfl (fun ls hl => ?_)
    refine lv_aload hx hb dX5_clear_115 (lv_at hl 0 rfl) ?_
    refine cl_i C P (run_V C P hl.1 (kd := 7) (met_X7_lives (CF_n C) G H.size _ _ S a2 p_a2 hw) p_a2 (by decide) rfl q_917 q_356 q_357 q_5 q_358 cd_X7_lives ⟨(Nat.le_of_ble_eq_true rfl), (Nat.le_of_ble_eq_true rfl)⟩ rfl rfl (As := []) (rest := []) rfl rfl (Nat.le_of_ble_eq_true rfl) dX5_clear_117 ⟨by show cells + 0 ≤ 0; omega, by show slots + 0 ≤ 0; omega⟩) (kx_out C hex (fun _ _ _ h => h) (by omega) (by omega)) (fun r4 S3 H locs P hE hw => ?_)
    have p_a0 : pI S3 5 a0 := pI_x hE p_a0
    have p_u1 : pI S3 2 u1 := pI_x hE p_u1
    have p_a2 : pI S3 7 a2 := pI_x hE p_a2
    refine lv_if_eq (tgt := 146) hx hb dX5_clear_120 (by decide) (fun hc => ?_) (fun hc => ?_)
    · have hw := hw.1 hc
      refine lv_iinc (v := (y3 + 1)) (lv' := [(3, .int (y3 + 1)), (4, .ref a2), (0, .ref a0), (1, .ref u1)]) hx hb dX5_clear_146 hl (k := 3) rfl (by rfl) (by decide) rfl (fun ls hl => ?_)
      refine lv_goto (tgt := 99) hx hb dX5_clear_149 (by decide) ?_
      exact kh99 S3 a0 u1 (y3 + 1) _ _ _ _ _ p_a0 p_u1 P (lv_sub hl [2, 3, 0] rfl) (by omega) (by omega) hw
    · have hw := hw.2 hc
      refine lv_aload hx hb dX5_clear_123 (lv_at hl 0 rfl) ?_
      refine gf_7_4 C P p_a2 q_105 dX5_clear_125 ?_
      refine lv_aload_n hx hb dX5_clear_128 rfl (lv_at hl 1 rfl) ?_
      refine gf_5_3 C P p_a0 q_260 dX5_clear_129 ?_
      refine lv_icmp_ge (tgt := 146) hx hb dX5_clear_132 (by decide) (fun hc => ?_) (fun hc => ?_)
      · have hw := hw.1 hc
        refine lv_iinc (v := (y3 + 1)) (lv' := [(3, .int (y3 + 1)), (4, .ref a2), (0, .ref a0), (1, .ref u1)]) hx hb dX5_clear_146 hl (k := 3) rfl (by rfl) (by decide) rfl (fun ls hl => ?_)
        refine lv_goto (tgt := 99) hx hb dX5_clear_149 (by decide) ?_
        exact kh99 S3 a0 u1 (y3 + 1) _ _ _ _ _ p_a0 p_u1 P (lv_sub hl [2, 3, 0] rfl) (by omega) (by omega) hw
      · have hw := hw.2 hc
        refine lv_aload_n hx hb dX5_clear_135 rfl (lv_at hl 1 rfl) ?_
        obtain ⟨a5, e1, hw⟩ := hw
        have p_a5 : pI S3 12 a5 := wf_r P.2.2.2.1 p_a0 e1
        refine gf_5_0 C P p_a0 e1 q_257 dX5_clear_136 ?_
        refine lv_aload hx hb dX5_clear_139 (lv_at hl 0 rfl) ?_
        refine gf_7_4 C P p_a2 q_105 dX5_clear_141 ?_
        refine lv_iconst (v := 0) hx hb dX5_clear_144 (by decide) ?_
        obtain ⟨h1, hw⟩ := hw
        refine rs_i C P p_a5 h1 dX5_clear_145 (fun H locs P => ?_)
        obtain ⟨S6, hS⟩ : ∃ z, z = (sI S3 a5 ((mI S3 a2 4) : Int32).toNatClampNeg 0) := ⟨_, rfl⟩
        have P : PW G A s H locs S0 S6 := by rw [hS]; exact P
        have p_a0 : pI S6 5 a0 := by rw [hS]; exact pI_x ext_sI p_a0
        have p_u1 : pI S6 2 u1 := by rw [hS]; exact pI_x ext_sI p_u1
        have p_a5 : pI S6 12 a5 := by rw [hS]; exact pI_x ext_sI p_a5
        have hw := hw S6 hS
        refine lv_iinc (v := (y3 + 1)) (lv' := [(3, .int (y3 + 1)), (4, .ref a2), (0, .ref a0), (1, .ref u1)]) hx hb dX5_clear_146 hl (k := 3) rfl (by rfl) (by decide) rfl (fun ls hl => ?_)
        refine lv_goto (tgt := 99) hx hb dX5_clear_149 (by decide) ?_
        exact kh99 S6 a0 u1 (y3 + 1) _ _ _ _ _ p_a0 p_u1 P (lv_sub hl [2, 3, 0] rfl) (by omega) (by omega) hw
def lX5_clear_99 (Q : MS → Prop) (QX : String → MS → Prop) : Nat → MS → Nat → Nat → Int32 → Prop
  | 0 => fun _ _ _ _ => False
  | n + 1 => fun S a0 u1 y3 => wX5_clear_99 Q QX (lX5_clear_99 Q QX n) S a0 u1 y3
theorem tlX5_clear_99 {p : Program} {l : Launch} {e : Env} {s : State} {m : MethodId} {args : Array Value} {below : List Frame} {meth : Method} {c : Code} {G : GP} {A : Nat → Prop} {S0 : MS} (C : CF p l s m args meth c "SkirmishGrid$Paths" cX5_clear 5 G A) (hr : meth.sig.returnType = none) (hex : ∀ x ∈ c.exceptionTable.toList, False) (Q : MS → Prop) (QX : String → MS → Prop) : ∀ (n : Nat), ∀ (S : MS) (a0 : Nat) (u1 : Nat) (y3 : Int32) (cells slots : Nat) (H : Heap) (locs : List Loc) (ls : Array Slot), pI S 5 a0 → pI S 2 u1 → PW G A s H locs S0 S → lv_has ls 5 [(0, .ref a0), (1, .ref u1), (3, .int y3)] → cells + 0 ≤ 0 → slots + 0 ≤ 0 → lX5_clear_99 Q QX n S a0 u1 y3 → W p l e rmX5_clear s m args below meth c H locs cells slots (vx_MQ below (QV G S0 A Q) (XX G S0 A QX) args s 0 0 A) (F0 m 99 ls []) := by
  intro n
  induction n with
  | zero => intro S a0 u1 y3 cells slots H locs ls p_a0 p_u1 P hl hcc hss hw; exact hw.elim
  | succ n ih => intro S a0 u1 y3 cells slots H locs ls p_a0 p_u1 P hl hcc hss hw; exact tX5_clear_99 C hr hex Q QX (lX5_clear_99 Q QX n) ih S a0 u1 y3 p_a0 p_u1 P hl hcc hss hw
def wX5_clear_25 (Q : MS → Prop) (QX : String → MS → Prop) (k25 : MS → Nat → Nat → Nat → Int32 → Prop) (S : MS) (a0 : Nat) (u1 : Nat) (u2 : Nat) (y3 : Int32) : Prop := (((mI S a0 3) ≤ y3 → (∃ n, lX5_clear_99 Q QX n S a0 u1 0)) ∧ (¬ (mI S a0 3) ≤ y3 → wp_X3_ground (fun r2 S1 => (∃ a3, mR S1 a0 0 = some a3 ∧ ((r2 = 3 → wX5_clear_57 Q QX k25 S1 a0 u1 u2 y3 r2 y3 a3) ∧ (¬ r2 = 3 → ((¬ r2 = 2 → wX5_clear_62 Q QX k25 S1 a0 u1 u2 y3 r2 1 y3 a3) ∧ (r2 = 2 → wX5_clear_57 Q QX k25 S1 a0 u1 u2 y3 r2 y3 a3)))))) QX S u2 y3))
set_option maxHeartbeats 4000000 in
set_option maxRecDepth 100000 in
theorem tX5_clear_25 {p : Program} {l : Launch} {e : Env} {s : State} {m : MethodId} {args : Array Value} {below : List Frame} {meth : Method} {c : Code} {H : Heap} {locs : List Loc} {cells slots : Nat} {G : GP} {A : Nat → Prop} {S0 : MS} {ls : Array Slot} (C : CF p l s m args meth c "SkirmishGrid$Paths" cX5_clear 5 G A) (hr : meth.sig.returnType = none) (hex : ∀ x ∈ c.exceptionTable.toList, False) (Q : MS → Prop) (QX : String → MS → Prop) (k25 : MS → Nat → Nat → Nat → Int32 → Prop) (kh25 : ∀ (S : MS) (a0 : Nat) (u1 : Nat) (u2 : Nat) (y3 : Int32) (cells slots : Nat) (H : Heap) (locs : List Loc) (ls : Array Slot), pI S 5 a0 → pI S 2 u1 → pI S 3 u2 → PW G A s H locs S0 S → lv_has ls 5 [(0, .ref a0), (1, .ref u1), (2, .ref u2), (3, .int y3)] → cells + 0 ≤ 0 → slots + 0 ≤ 0 → k25 S a0 u1 u2 y3 → W p l e rmX5_clear s m args below meth c H locs cells slots (vx_MQ below (QV G S0 A Q) (XX G S0 A QX) args s 0 0 A) (F0 m 25 ls [])) (S : MS) (a0 : Nat) (u1 : Nat) (u2 : Nat) (y3 : Int32) (p_a0 : pI S 5 a0) (p_u1 : pI S 2 u1) (p_u2 : pI S 3 u2) (P : PW G A s H locs S0 S) (hl : lv_has ls 5 [(0, .ref a0), (1, .ref u1), (2, .ref u2), (3, .int y3)]) (hcc : cells + 0 ≤ 0) (hss : slots + 0 ≤ 0) (hw : wX5_clear_25 Q QX k25 S a0 u1 u2 y3) : W p l e rmX5_clear s m args below meth c H locs cells slots (vx_MQ below (QV G S0 A Q) (XX G S0 A QX) args s 0 0 A) (F0 m 25 ls []) := by
  have hx := CF_x C
  have hb := CF_b C
  unfold wX5_clear_25 at hw
  refine lv_iload_n hx hb dX5_clear_25 rfl (lv_at hl 3 rfl) ?_
  refine lv_aload_n hx hb dX5_clear_26 rfl (lv_at hl 0 rfl) ?_
  refine gf_5_3 C P p_a0 q_260 dX5_clear_27 ?_
  refine lv_icmp_ge (tgt := 97) hx hb dX5_clear_30 (by decide) (fun hc => ?_) (fun hc => ?_)
  · have hw := hw.1 hc
    refine lv_iconst (v := 0) hx hb dX5_clear_97 (by decide) ?_
    refine lv_istore_n (lv' := [(3, .int 0), (0, .ref a0), (1, .ref u1), (2, .ref u2)]) hx hb dX5_clear_98 rfl hl (by decide) rfl (fun ls hl => ?_)
    obtain ⟨n, hw⟩ := hw
    exact tlX5_clear_99 C hr hex Q QX n S a0 u1 0 _ _ _ _ _ p_a0 p_u1 P (lv_sub hl [1, 2, 0] rfl) (by omega) (by omega) hw
  · have hw := hw.2 hc
    refine lv_aload_n hx hb dX5_clear_33 rfl (lv_at hl 2 rfl) ?_
    refine lv_iload_n hx hb dX5_clear_34 rfl (lv_at hl 3 rfl) ?_
    refine cl_i C P (run_V C P hl.1 (kd := 3) (met_X3_ground (CF_n C) G H.size _ _ S u2 y3 p_u2 hw) p_u2 (by decide) rfl q_915 q_702 q_703 q_3 q_704 cd_X3_ground ⟨(Nat.le_of_ble_eq_true rfl), (Nat.le_of_ble_eq_true rfl)⟩ rfl rfl (As := [.int y3]) (rest := []) rfl rfl (Nat.le_of_ble_eq_true rfl) dX5_clear_35 ⟨by show cells + 0 ≤ 0; omega, by show slots + 0 ≤ 0; omega⟩) (kx_out C hex (fun _ _ _ h => h) (by omega) (by omega)) (fun r2 S1 H locs P hE hw => ?_)
    have p_a0 : pI S1 5 a0 := pI_x hE p_a0
    have p_u1 : pI S1 2 u1 := pI_x hE p_u1
    have p_u2 : pI S1 3 u2 := pI_x hE p_u2
    refine lv_istore (lv' := [(4, .int r2), (0, .ref a0), (1, .ref u1), (2, .ref u2), (3, .int y3)]) hx hb dX5_clear_38 hl (by decide) rfl (fun ls hl => ?_)
    refine lv_aload_n hx hb dX5_clear_40 rfl (lv_at hl 1 rfl) ?_
    obtain ⟨a3, e1, hw⟩ := hw
    have p_a3 : pI S1 12 a3 := wf_r P.2.2.2.1 p_a0 e1
    refine gf_5_0 C P p_a0 e1 q_257 dX5_clear_41 ?_
    refine lv_iload_n hx hb dX5_clear_44 rfl (lv_at hl 4 rfl) ?_
    refine lv_iload hx hb dX5_clear_45 (lv_at hl 0 rfl) ?_
    refine lv_iconst (v := 3) hx hb dX5_clear_47 (by decide) ?_
    refine lv_icmp_eq (tgt := 57) hx hb dX5_clear_48 (by decide) (fun hc => ?_) (fun hc => ?_)
    · have hw := hw.1 hc
      exact tX5_clear_57 C hr hex Q QX k25 kh25 S1 a0 u1 u2 y3 r2 y3 a3 p_a0 p_u1 p_u2 p_a3 P (lv_sub hl [1, 2, 3, 4, 0] rfl) (by omega) (by omega) hw
    · have hw := hw.2 hc
      refine lv_iload hx hb dX5_clear_51 (lv_at hl 0 rfl) ?_
      refine lv_iconst (v := 2) hx hb dX5_clear_53 (by decide) ?_
      refine lv_icmp_ne (tgt := 61) hx hb dX5_clear_54 (by decide) (fun hc => ?_) (fun hc => ?_)
      · have hw := hw.1 hc
        refine lv_iconst (v := 1) hx hb dX5_clear_61 (by decide) ?_
        exact tX5_clear_62 C hr hex Q QX k25 kh25 S1 a0 u1 u2 y3 r2 1 y3 a3 p_a0 p_u1 p_u2 p_a3 P (lv_sub hl [1, 2, 3, 4, 0] rfl) (by omega) (by omega) hw
      · have hw := hw.2 hc
        exact tX5_clear_57 C hr hex Q QX k25 kh25 S1 a0 u1 u2 y3 r2 y3 a3 p_a0 p_u1 p_u2 p_a3 P (lv_sub hl [1, 2, 3, 4, 0] rfl) (by omega) (by omega) hw
def lX5_clear_25 (Q : MS → Prop) (QX : String → MS → Prop) : Nat → MS → Nat → Nat → Nat → Int32 → Prop
  | 0 => fun _ _ _ _ _ => False
  | n + 1 => fun S a0 u1 u2 y3 => wX5_clear_25 Q QX (lX5_clear_25 Q QX n) S a0 u1 u2 y3
theorem tlX5_clear_25 {p : Program} {l : Launch} {e : Env} {s : State} {m : MethodId} {args : Array Value} {below : List Frame} {meth : Method} {c : Code} {G : GP} {A : Nat → Prop} {S0 : MS} (C : CF p l s m args meth c "SkirmishGrid$Paths" cX5_clear 5 G A) (hr : meth.sig.returnType = none) (hex : ∀ x ∈ c.exceptionTable.toList, False) (Q : MS → Prop) (QX : String → MS → Prop) : ∀ (n : Nat), ∀ (S : MS) (a0 : Nat) (u1 : Nat) (u2 : Nat) (y3 : Int32) (cells slots : Nat) (H : Heap) (locs : List Loc) (ls : Array Slot), pI S 5 a0 → pI S 2 u1 → pI S 3 u2 → PW G A s H locs S0 S → lv_has ls 5 [(0, .ref a0), (1, .ref u1), (2, .ref u2), (3, .int y3)] → cells + 0 ≤ 0 → slots + 0 ≤ 0 → lX5_clear_25 Q QX n S a0 u1 u2 y3 → W p l e rmX5_clear s m args below meth c H locs cells slots (vx_MQ below (QV G S0 A Q) (XX G S0 A QX) args s 0 0 A) (F0 m 25 ls []) := by
  intro n
  induction n with
  | zero => intro S a0 u1 u2 y3 cells slots H locs ls p_a0 p_u1 p_u2 P hl hcc hss hw; exact hw.elim
  | succ n ih => intro S a0 u1 u2 y3 cells slots H locs ls p_a0 p_u1 p_u2 P hl hcc hss hw; exact tX5_clear_25 C hr hex Q QX (lX5_clear_25 Q QX n) ih S a0 u1 u2 y3 p_a0 p_u1 p_u2 P hl hcc hss hw
def wX5_clear_0 (Q : MS → Prop) (QX : String → MS → Prop) (S : MS) (a0 : Nat) (b1 : Nat) : Prop := (∃ a1, mR S b1 0 = some a1 ∧ (∀ S2, S2 = (sI S a0 3 (if 64 < ((mI S a1 1) * (mI S a1 2)) then 64 else ((mI S a1 1) * (mI S a1 2)))) → (∃ n, lX5_clear_25 Q QX n S2 a0 b1 a1 0)))
set_option maxHeartbeats 4000000 in
set_option maxRecDepth 100000 in
theorem tX5_clear_0 {p : Program} {l : Launch} {e : Env} {s : State} {m : MethodId} {args : Array Value} {below : List Frame} {meth : Method} {c : Code} {H : Heap} {locs : List Loc} {cells slots : Nat} {G : GP} {A : Nat → Prop} {S0 : MS} {ls : Array Slot} (C : CF p l s m args meth c "SkirmishGrid$Paths" cX5_clear 5 G A) (hr : meth.sig.returnType = none) (hex : ∀ x ∈ c.exceptionTable.toList, False) (Q : MS → Prop) (QX : String → MS → Prop) (S : MS) (a0 : Nat) (b1 : Nat) (p_a0 : pI S 5 a0) (p_b1 : pI S 2 b1) (P : PW G A s H locs S0 S) (hl : lv_has ls 5 [(0, .ref a0), (1, .ref b1)]) (hcc : cells + 0 ≤ 0) (hss : slots + 0 ≤ 0) (hw : wX5_clear_0 Q QX S a0 b1) : W p l e rmX5_clear s m args below meth c H locs cells slots (vx_MQ below (QV G S0 A Q) (XX G S0 A QX) args s 0 0 A) (F0 m 0 ls []) := by
  have hx := CF_x C
  have hb := CF_b C
  unfold wX5_clear_0 at hw
  refine lv_aload_n hx hb dX5_clear_0 rfl (lv_at hl 1 rfl) ?_
  obtain ⟨a1, e1, hw⟩ := hw
  have p_a1 : pI S 3 a1 := wf_r P.2.2.2.1 p_b1 e1
  refine gf_2_0 C P p_b1 e1 q_162 dX5_clear_1 ?_
  refine lv_astore_n (lv' := [(2, .ref a1), (0, .ref a0), (1, .ref b1)]) hx hb dX5_clear_4 rfl hl (by decide) rfl (fun ls hl => ?_)
  refine lv_aload_n hx hb dX5_clear_5 rfl (lv_at hl 1 rfl) ?_
  refine lv_aload_n hx hb dX5_clear_6 rfl (lv_at hl 0 rfl) ?_
  refine gf_3_1 C P p_a1 q_52 dX5_clear_7 ?_
  refine lv_aload_n hx hb dX5_clear_10 rfl (lv_at hl 0 rfl) ?_
  refine gf_3_2 C P p_a1 q_55 dX5_clear_11 ?_
  refine lv_imul hx hb dX5_clear_14 ?_
  refine lv_bipush (v := 64) hx hb dX5_clear_15 (by decide) ?_
  refine va_mmin hx hb ((CF_m C).trans hl.1.symm) (CF_o C) (CF_t C _ q_914) (CF_t C _ q_542) (CF_t C _ q_18) (CF_t C _ q_543) (Nat.le_of_ble_eq_true rfl) (Nat.le_of_ble_eq_true rfl) (by show cells ≤ 0; omega) (by show slots ≤ 0; omega) dX5_clear_17 ?_
  refine pf_5_3 C P p_a0 q_260 dX5_clear_20 (fun H locs P => ?_)
  obtain ⟨S2, hS⟩ : ∃ z, z = (sI S a0 3 (if 64 < ((mI S a1 1) * (mI S a1 2)) then 64 else ((mI S a1 1) * (mI S a1 2)))) := ⟨_, rfl⟩
  have P : PW G A s H locs S0 S2 := by rw [hS]; exact P
  have p_a0 : pI S2 5 a0 := by rw [hS]; exact pI_x ext_sI p_a0
  have p_b1 : pI S2 2 b1 := by rw [hS]; exact pI_x ext_sI p_b1
  have p_a1 : pI S2 3 a1 := by rw [hS]; exact pI_x ext_sI p_a1
  have hw := hw S2 hS
  refine lv_iconst (v := 0) hx hb dX5_clear_23 (by decide) ?_
  refine lv_istore_n (lv' := [(3, .int 0), (2, .ref a1), (0, .ref a0), (1, .ref b1)]) hx hb dX5_clear_24 rfl hl (by decide) rfl (fun ls hl => ?_)
  obtain ⟨n, hw⟩ := hw
  exact tlX5_clear_25 C hr hex Q QX n S2 a0 b1 a1 0 _ _ _ _ _ p_a0 p_b1 p_a1 P (lv_sub hl [2, 3, 1, 0] rfl) (by omega) (by omega) hw
def wp_X5_clear (Q : MS → Prop) (QX : String → MS → Prop) (S : MS) (a0 : Nat) (b1 : Nat) : Prop := wX5_clear_0 Q QX S a0 b1
set_option maxHeartbeats 4000000 in
set_option maxRecDepth 100000 in
theorem met_X5_clear {l : Launch} (hst : l.stackTraces = false) (G : GP) (sz : Nat) (Q : MS → Prop) (QX : String → MS → Prop) (S : MS) (a0 : Nat) (b1 : Nat) (p_a0 : pI S 5 a0) (p_b1 : pI S 2 b1) (hw : wp_X5_clear Q QX S a0 b1) : vx_Met l yX5_clear (.code yX5_clear cX5_clear 5 none :: GW) rmX5_clear (va_Pc [.ref a0, .ref b1] (PR G S sz)) (QV G S (FA G S sz) Q) (XX G S (FA G S sz) QX) 0 0 (FA G S sz) := by
  refine st_m (by decide +kernel) hst (fun p e s m below meth c C hr hnm hex P => ?_)
  refine en_m (Nat.le_of_ble_eq_true rfl) (lv := [(0, .ref a0), (1, .ref b1)]) rfl (fun ls hl => ?_)
  have C : CF p l s m _ meth c "SkirmishGrid$Paths" cX5_clear 5 G (FA G S sz) := C
  exact tX5_clear_0 C hr hex Q QX S a0 b1 p_a0 p_b1 P hl (by omega) (by omega) hw
theorem cd_X5_clear : yX5_clear.cls = RX5 ∧ yX5_clear.cls ≠ "java/lang/invoke/MethodHandle" ∧ yX5_clear.cls ≠ "java/lang/invoke/VarHandle" ∧ (parseMethodDescriptor yX5_clear.desc).map (fun d => d.parameters.length) = some 1 := by decide +kernel
abbrev rmX5_spread : Room := { frames := 2, cells := 0, slots := 0, locals := 45 }
def wX5_spread_27 (Q : MS → Prop) (QX : String → MS → Prop) (k27 : MS → Nat → Nat → Int32 → Int32 → Int32 → Prop) (S : MS) (a0 : Nat) (u1 : Nat) (y2 : Int32) (y3 : Int32) (y4 : Int32) : Prop := ((3 < y4 → Q S) ∧ (¬ 3 < y4 → wp_X3_neighbor (fun r2 S1 => ((r2 < 0 → k27 S1 a0 u1 y2 y3 (y4 + 1)) ∧ (¬ r2 < 0 → (((mI S1 a0 3) ≤ r2 → k27 S1 a0 u1 y2 y3 (y4 + 1)) ∧ (¬ (mI S1 a0 3) ≤ r2 → (∃ a3, mR S1 a0 1 = some a3 ∧ (vp_in r2 (mN S1 a3) ∧ (((mI S1 a3 (r2 : Int32).toNatClampNeg) ≤ y3 → k27 S1 a0 u1 y2 y3 (y4 + 1)) ∧ (¬ (mI S1 a3 (r2 : Int32).toNatClampNeg) ≤ y3 → (∃ a4, mR S1 a0 1 = some a4 ∧ (vp_in r2 (mN S1 a4) ∧ (∀ S5, S5 = (sI S1 a4 (r2 : Int32).toNatClampNeg y3) → k27 S5 a0 u1 y2 y3 (y4 + 1))))))))))))) QX S u1 y2 y4))
set_option maxHeartbeats 4000000 in
set_option maxRecDepth 100000 in
theorem tX5_spread_27 {p : Program} {l : Launch} {e : Env} {s : State} {m : MethodId} {args : Array Value} {below : List Frame} {meth : Method} {c : Code} {H : Heap} {locs : List Loc} {cells slots : Nat} {G : GP} {A : Nat → Prop} {S0 : MS} {ls : Array Slot} (C : CF p l s m args meth c "SkirmishGrid$Paths" cX5_spread 6 G A) (hr : meth.sig.returnType = none) (hex : ∀ x ∈ c.exceptionTable.toList, False) (Q : MS → Prop) (QX : String → MS → Prop) (k27 : MS → Nat → Nat → Int32 → Int32 → Int32 → Prop) (kh27 : ∀ (S : MS) (a0 : Nat) (u1 : Nat) (y2 : Int32) (y3 : Int32) (y4 : Int32) (cells slots : Nat) (H : Heap) (locs : List Loc) (ls : Array Slot), pI S 5 a0 → pI S 3 u1 → PW G A s H locs S0 S → lv_has ls 6 [(0, .ref a0), (1, .ref u1), (2, .int y2), (3, .int y3), (4, .int y4)] → cells + 0 ≤ 0 → slots + 0 ≤ 0 → k27 S a0 u1 y2 y3 y4 → W p l e rmX5_spread s m args below meth c H locs cells slots (vx_MQ below (QV G S0 A Q) (XX G S0 A QX) args s 0 0 A) (F0 m 27 ls [])) (S : MS) (a0 : Nat) (u1 : Nat) (y2 : Int32) (y3 : Int32) (y4 : Int32) (p_a0 : pI S 5 a0) (p_u1 : pI S 3 u1) (P : PW G A s H locs S0 S) (hl : lv_has ls 6 [(0, .ref a0), (1, .ref u1), (2, .int y2), (3, .int y3), (4, .int y4)]) (hcc : cells + 0 ≤ 0) (hss : slots + 0 ≤ 0) (hw : wX5_spread_27 Q QX k27 S a0 u1 y2 y3 y4) : W p l e rmX5_spread s m args below meth c H locs cells slots (vx_MQ below (QV G S0 A Q) (XX G S0 A QX) args s 0 0 A) (F0 m 27 ls []) := by
  have hx := CF_x C
  have hb := CF_b C
  unfold wX5_spread_27 at hw
  refine lv_iload hx hb dX5_spread_27 (lv_at hl 4 rfl) ?_
  refine lv_iconst (v := 3) hx hb dX5_spread_29 (by decide) ?_
  refine lv_icmp_gt (tgt := 81) hx hb dX5_spread_30 (by decide) (fun hc => ?_) (fun hc => ?_)
  · have hw := hw.1 hc
    exact e_v C hr P hw (by omega) (by omega) dX5_spread_81
  · have hw := hw.2 hc
    refine lv_aload_n hx hb dX5_spread_33 rfl (lv_at hl 1 rfl) ?_
    refine lv_iload_n hx hb dX5_spread_34 rfl (lv_at hl 2 rfl) ?_
    refine lv_iload hx hb dX5_spread_35 (lv_at hl 4 rfl) ?_
    refine cl_i C P (run_V C P hl.1 (kd := 3) (met_X3_neighbor (CF_n C) G H.size _ _ S u1 y2 y4 p_u1 hw) p_u1 (by decide) rfl q_923 q_924 q_925 q_3 q_926 cd_X3_neighbor ⟨(Nat.le_of_ble_eq_true rfl), (Nat.le_of_ble_eq_true rfl)⟩ rfl rfl (As := [.int y2, .int y4]) (rest := []) rfl rfl (Nat.le_of_ble_eq_true rfl) dX5_spread_37 ⟨by show cells + 0 ≤ 0; omega, by show slots + 0 ≤ 0; omega⟩) (kx_out C hex (fun _ _ _ h => h) (by omega) (by omega)) (fun r2 S1 H locs P hE hw => ?_)
    have p_a0 : pI S1 5 a0 := pI_x hE p_a0
    have p_u1 : pI S1 3 u1 := pI_x hE p_u1
    refine lv_istore (lv' := [(5, .int r2), (0, .ref a0), (1, .ref u1), (2, .int y2), (3, .int y3), (4, .int y4)]) hx hb dX5_spread_40 hl (by decide) rfl (fun ls hl => ?_)
    refine lv_iload hx hb dX5_spread_42 (lv_at hl 0 rfl) ?_
    refine lv_if_lt (tgt := 75) hx hb dX5_spread_44 (by decide) (fun hc => ?_) (fun hc => ?_)
    · have hw := hw.1 hc
      refine lv_iinc (v := (y4 + 1)) (lv' := [(4, .int (y4 + 1)), (5, .int r2), (0, .ref a0), (1, .ref u1), (2, .int y2), (3, .int y3)]) hx hb dX5_spread_75 hl (k := 5) rfl (by rfl) (by decide) rfl (fun ls hl => ?_)
      refine lv_goto (tgt := 27) hx hb dX5_spread_78 (by decide) ?_
      exact kh27 S1 a0 u1 y2 y3 (y4 + 1) _ _ _ _ _ p_a0 p_u1 P (lv_sub hl [2, 3, 4, 5, 0] rfl) (by omega) (by omega) hw
    · have hw := hw.2 hc
      refine lv_iload hx hb dX5_spread_47 (lv_at hl 0 rfl) ?_
      refine lv_aload_n hx hb dX5_spread_49 rfl (lv_at hl 1 rfl) ?_
      refine gf_5_3 C P p_a0 q_260 dX5_spread_50 ?_
      refine lv_icmp_ge (tgt := 75) hx hb dX5_spread_53 (by decide) (fun hc => ?_) (fun hc => ?_)
      · have hw := hw.1 hc
        refine lv_iinc (v := (y4 + 1)) (lv' := [(4, .int (y4 + 1)), (5, .int r2), (0, .ref a0), (1, .ref u1), (2, .int y2), (3, .int y3)]) hx hb dX5_spread_75 hl (k := 5) rfl (by rfl) (by decide) rfl (fun ls hl => ?_)
        refine lv_goto (tgt := 27) hx hb dX5_spread_78 (by decide) ?_
        exact kh27 S1 a0 u1 y2 y3 (y4 + 1) _ _ _ _ _ p_a0 p_u1 P (lv_sub hl [2, 3, 4, 5, 0] rfl) (by omega) (by omega) hw
      · have hw := hw.2 hc
        refine lv_iload_n hx hb dX5_spread_56 rfl (lv_at hl 4 rfl) ?_
        refine lv_aload_n hx hb dX5_spread_57 rfl (lv_at hl 1 rfl) ?_
        obtain ⟨a3, e1, hw⟩ := hw
        have p_a3 : pI S1 12 a3 := wf_r P.2.2.2.1 p_a0 e1
        refine gf_5_1 C P p_a0 e1 q_258 dX5_spread_58 ?_
        refine lv_iload hx hb dX5_spread_61 (lv_at hl 0 rfl) ?_
        obtain ⟨h1, hw⟩ := hw
        refine ra_i C P p_a3 h1 dX5_spread_63 ?_
        refine lv_icmp_ge (tgt := 75) hx hb dX5_spread_64 (by decide) (fun hc => ?_) (fun hc => ?_)
        · have hw := hw.1 hc
          refine lv_iinc (v := (y4 + 1)) (lv' := [(4, .int (y4 + 1)), (5, .int r2), (0, .ref a0), (1, .ref u1), (2, .int y2), (3, .int y3)]) hx hb dX5_spread_75 hl (k := 5) rfl (by rfl) (by decide) rfl (fun ls hl => ?_)
          refine lv_goto (tgt := 27) hx hb dX5_spread_78 (by decide) ?_
          exact kh27 S1 a0 u1 y2 y3 (y4 + 1) _ _ _ _ _ p_a0 p_u1 P (lv_sub hl [2, 3, 4, 5, 0] rfl) (by omega) (by omega) hw
        · have hw := hw.2 hc
          refine lv_aload_n hx hb dX5_spread_67 rfl (lv_at hl 1 rfl) ?_
          obtain ⟨a4, e1, hw⟩ := hw
          have p_a4 : pI S1 12 a4 := wf_r P.2.2.2.1 p_a0 e1
          refine gf_5_1 C P p_a0 e1 q_258 dX5_spread_68 ?_
          refine lv_iload hx hb dX5_spread_71 (lv_at hl 0 rfl) ?_
          refine lv_iload_n hx hb dX5_spread_73 rfl (lv_at hl 4 rfl) ?_
          obtain ⟨h1, hw⟩ := hw
          refine rs_i C P p_a4 h1 dX5_spread_74 (fun H locs P => ?_)
          obtain ⟨S5, hS⟩ : ∃ z, z = (sI S1 a4 (r2 : Int32).toNatClampNeg y3) := ⟨_, rfl⟩
          have P : PW G A s H locs S0 S5 := by rw [hS]; exact P
          have p_a0 : pI S5 5 a0 := by rw [hS]; exact pI_x ext_sI p_a0
          have p_u1 : pI S5 3 u1 := by rw [hS]; exact pI_x ext_sI p_u1
          have p_a4 : pI S5 12 a4 := by rw [hS]; exact pI_x ext_sI p_a4
          have hw := hw S5 hS
          refine lv_iinc (v := (y4 + 1)) (lv' := [(4, .int (y4 + 1)), (5, .int r2), (0, .ref a0), (1, .ref u1), (2, .int y2), (3, .int y3)]) hx hb dX5_spread_75 hl (k := 5) rfl (by rfl) (by decide) rfl (fun ls hl => ?_)
          refine lv_goto (tgt := 27) hx hb dX5_spread_78 (by decide) ?_
          exact kh27 S5 a0 u1 y2 y3 (y4 + 1) _ _ _ _ _ p_a0 p_u1 P (lv_sub hl [2, 3, 4, 5, 0] rfl) (by omega) (by omega) hw
def lX5_spread_27 (Q : MS → Prop) (QX : String → MS → Prop) : Nat → MS → Nat → Nat → Int32 → Int32 → Int32 → Prop
  | 0 => fun _ _ _ _ _ _ => False
  | n + 1 => fun S a0 u1 y2 y3 y4 => wX5_spread_27 Q QX (lX5_spread_27 Q QX n) S a0 u1 y2 y3 y4
theorem tlX5_spread_27 {p : Program} {l : Launch} {e : Env} {s : State} {m : MethodId} {args : Array Value} {below : List Frame} {meth : Method} {c : Code} {G : GP} {A : Nat → Prop} {S0 : MS} (C : CF p l s m args meth c "SkirmishGrid$Paths" cX5_spread 6 G A) (hr : meth.sig.returnType = none) (hex : ∀ x ∈ c.exceptionTable.toList, False) (Q : MS → Prop) (QX : String → MS → Prop) : ∀ (n : Nat), ∀ (S : MS) (a0 : Nat) (u1 : Nat) (y2 : Int32) (y3 : Int32) (y4 : Int32) (cells slots : Nat) (H : Heap) (locs : List Loc) (ls : Array Slot), pI S 5 a0 → pI S 3 u1 → PW G A s H locs S0 S → lv_has ls 6 [(0, .ref a0), (1, .ref u1), (2, .int y2), (3, .int y3), (4, .int y4)] → cells + 0 ≤ 0 → slots + 0 ≤ 0 → lX5_spread_27 Q QX n S a0 u1 y2 y3 y4 → W p l e rmX5_spread s m args below meth c H locs cells slots (vx_MQ below (QV G S0 A Q) (XX G S0 A QX) args s 0 0 A) (F0 m 27 ls []) := by
  intro n
  induction n with
  | zero => intro S a0 u1 y2 y3 y4 cells slots H locs ls p_a0 p_u1 P hl hcc hss hw; exact hw.elim
  | succ n ih => intro S a0 u1 y2 y3 y4 cells slots H locs ls p_a0 p_u1 P hl hcc hss hw; exact tX5_spread_27 C hr hex Q QX (lX5_spread_27 Q QX n) ih S a0 u1 y2 y3 y4 p_a0 p_u1 P hl hcc hss hw
def wX5_spread_0 (Q : MS → Prop) (QX : String → MS → Prop) (S : MS) (a0 : Nat) (b1 : Nat) (x2 : Int32) : Prop := (∃ a1, mR S a0 0 = some a1 ∧ (vp_in x2 (mN S a1) ∧ ((¬ (mI S a1 (x2 : Int32).toNatClampNeg) = 0 → (∃ a2, mR S a0 1 = some a2 ∧ (vp_in x2 (mN S a2) ∧ (∃ a3, mR S a0 0 = some a3 ∧ (vp_in x2 (mN S a3) ∧ (∃ n, lX5_spread_27 Q QX n S a0 b1 x2 ((mI S a2 (x2 : Int32).toNatClampNeg) + (mI S a3 (x2 : Int32).toNatClampNeg)) 0)))))) ∧ ((mI S a1 (x2 : Int32).toNatClampNeg) = 0 → Q S))))
set_option maxHeartbeats 4000000 in
set_option maxRecDepth 100000 in
theorem tX5_spread_0 {p : Program} {l : Launch} {e : Env} {s : State} {m : MethodId} {args : Array Value} {below : List Frame} {meth : Method} {c : Code} {H : Heap} {locs : List Loc} {cells slots : Nat} {G : GP} {A : Nat → Prop} {S0 : MS} {ls : Array Slot} (C : CF p l s m args meth c "SkirmishGrid$Paths" cX5_spread 6 G A) (hr : meth.sig.returnType = none) (hex : ∀ x ∈ c.exceptionTable.toList, False) (Q : MS → Prop) (QX : String → MS → Prop) (S : MS) (a0 : Nat) (b1 : Nat) (x2 : Int32) (p_a0 : pI S 5 a0) (p_b1 : pI S 3 b1) (P : PW G A s H locs S0 S) (hl : lv_has ls 6 [(0, .ref a0), (1, .ref b1), (2, .int x2)]) (hcc : cells + 0 ≤ 0) (hss : slots + 0 ≤ 0) (hw : wX5_spread_0 Q QX S a0 b1 x2) : W p l e rmX5_spread s m args below meth c H locs cells slots (vx_MQ below (QV G S0 A Q) (XX G S0 A QX) args s 0 0 A) (F0 m 0 ls []) := by
  have hx := CF_x C
  have hb := CF_b C
  unfold wX5_spread_0 at hw
  refine lv_aload_n hx hb dX5_spread_0 rfl (lv_at hl 0 rfl) ?_
  obtain ⟨a1, e1, hw⟩ := hw
  have p_a1 : pI S 12 a1 := wf_r P.2.2.2.1 p_a0 e1
  refine gf_5_0 C P p_a0 e1 q_257 dX5_spread_1 ?_
  refine lv_iload_n hx hb dX5_spread_4 rfl (lv_at hl 2 rfl) ?_
  obtain ⟨h1, hw⟩ := hw
  refine ra_i C P p_a1 h1 dX5_spread_5 ?_
  refine lv_if_ne (tgt := 10) hx hb dX5_spread_6 (by decide) (fun hc => ?_) (fun hc => ?_)
  · have hw := hw.1 hc
    refine lv_aload_n hx hb dX5_spread_10 rfl (lv_at hl 0 rfl) ?_
    obtain ⟨a2, e1, hw⟩ := hw
    have p_a2 : pI S 12 a2 := wf_r P.2.2.2.1 p_a0 e1
    refine gf_5_1 C P p_a0 e1 q_258 dX5_spread_11 ?_
    refine lv_iload_n hx hb dX5_spread_14 rfl (lv_at hl 2 rfl) ?_
    obtain ⟨h1, hw⟩ := hw
    refine ra_i C P p_a2 h1 dX5_spread_15 ?_
    refine lv_aload_n hx hb dX5_spread_16 rfl (lv_at hl 0 rfl) ?_
    obtain ⟨a3, e1, hw⟩ := hw
    have p_a3 : pI S 12 a3 := wf_r P.2.2.2.1 p_a0 e1
    refine gf_5_0 C P p_a0 e1 q_257 dX5_spread_17 ?_
    refine lv_iload_n hx hb dX5_spread_20 rfl (lv_at hl 2 rfl) ?_
    obtain ⟨h1, hw⟩ := hw
    refine ra_i C P p_a3 h1 dX5_spread_21 ?_
    refine lv_iadd hx hb dX5_spread_22 ?_
    refine lv_istore_n (lv' := [(3, .int ((mI S a2 (x2 : Int32).toNatClampNeg) + (mI S a3 (x2 : Int32).toNatClampNeg))), (0, .ref a0), (1, .ref b1), (2, .int x2)]) hx hb dX5_spread_23 rfl hl (by decide) rfl (fun ls hl => ?_)
    refine lv_iconst (v := 0) hx hb dX5_spread_24 (by decide) ?_
    refine lv_istore (lv' := [(4, .int 0), (3, .int ((mI S a2 (x2 : Int32).toNatClampNeg) + (mI S a3 (x2 : Int32).toNatClampNeg))), (0, .ref a0), (1, .ref b1), (2, .int x2)]) hx hb dX5_spread_25 hl (by decide) rfl (fun ls hl => ?_)
    obtain ⟨n, hw⟩ := hw
    exact tlX5_spread_27 C hr hex Q QX n S a0 b1 x2 ((mI S a2 (x2 : Int32).toNatClampNeg) + (mI S a3 (x2 : Int32).toNatClampNeg)) 0 _ _ _ _ _ p_a0 p_b1 P (lv_sub hl [2, 3, 4, 1, 0] rfl) (by omega) (by omega) hw
  · have hw := hw.2 hc
    exact e_v C hr P hw (by omega) (by omega) dX5_spread_9
def wp_X5_spread (Q : MS → Prop) (QX : String → MS → Prop) (S : MS) (a0 : Nat) (b1 : Nat) (x2 : Int32) : Prop := wX5_spread_0 Q QX S a0 b1 x2
set_option maxHeartbeats 4000000 in
set_option maxRecDepth 100000 in
theorem met_X5_spread {l : Launch} (hst : l.stackTraces = false) (G : GP) (sz : Nat) (Q : MS → Prop) (QX : String → MS → Prop) (S : MS) (a0 : Nat) (b1 : Nat) (x2 : Int32) (p_a0 : pI S 5 a0) (p_b1 : pI S 3 b1) (hw : wp_X5_spread Q QX S a0 b1 x2) : vx_Met l yX5_spread (.code yX5_spread cX5_spread 6 none :: GW) rmX5_spread (va_Pc [.ref a0, .ref b1, .int x2] (PR G S sz)) (QV G S (FA G S sz) Q) (XX G S (FA G S sz) QX) 0 0 (FA G S sz) := by
  refine st_m (by decide +kernel) hst (fun p e s m below meth c C hr hnm hex P => ?_)
  refine en_m (Nat.le_of_ble_eq_true rfl) (lv := [(0, .ref a0), (1, .ref b1), (2, .int x2)]) rfl (fun ls hl => ?_)
  have C : CF p l s m _ meth c "SkirmishGrid$Paths" cX5_spread 6 G (FA G S sz) := C
  exact tX5_spread_0 C hr hex Q QX S a0 b1 x2 p_a0 p_b1 P hl (by omega) (by omega) hw
theorem cd_X5_spread : yX5_spread.cls = RX5 ∧ yX5_spread.cls ≠ "java/lang/invoke/MethodHandle" ∧ yX5_spread.cls ≠ "java/lang/invoke/VarHandle" ∧ (parseMethodDescriptor yX5_spread.desc).map (fun d => d.parameters.length) = some 2 := by decide +kernel
abbrev rmX5_findCheapest : Room := { frames := 0, cells := 0, slots := 0, locals := 0 }
def wX5_findCheapest_7 (Q : Int32 → MS → Prop) (QX : String → MS → Prop) (k7 : MS → Nat → Int32 → Int32 → Int32 → Prop) (S : MS) (a0 : Nat) (y1 : Int32) (y2 : Int32) (y3 : Int32) : Prop := (((mI S a0 3) ≤ y3 → Q y1 S) ∧ (¬ (mI S a0 3) ≤ y3 → (∃ a1, mR S a0 2 = some a1 ∧ (vp_in y3 (mN S a1) ∧ ((¬ (mI S a1 (y3 : Int32).toNatClampNeg) = 0 → k7 S a0 y1 y2 (y3 + 1)) ∧ ((mI S a1 (y3 : Int32).toNatClampNeg) = 0 → (∃ a2, mR S a0 1 = some a2 ∧ (vp_in y3 (mN S a2) ∧ ((y2 ≤ (mI S a2 (y3 : Int32).toNatClampNeg) → k7 S a0 y1 y2 (y3 + 1)) ∧ (¬ y2 ≤ (mI S a2 (y3 : Int32).toNatClampNeg) → (∃ a3, mR S a0 1 = some a3 ∧ (vp_in y3 (mN S a3) ∧ k7 S a0 y3 (mI S a3 (y3 : Int32).toNatClampNeg) (y3 + 1)))))))))))))
set_option maxHeartbeats 4000000 in
set_option maxRecDepth 100000 in
theorem tX5_findCheapest_7 {p : Program} {l : Launch} {e : Env} {s : State} {m : MethodId} {args : Array Value} {below : List Frame} {meth : Method} {c : Code} {H : Heap} {locs : List Loc} {cells slots : Nat} {G : GP} {A : Nat → Prop} {S0 : MS} {ls : Array Slot} (C : CF p l s m args meth c "SkirmishGrid$Paths" cX5_findCheapest 4 G A) (hr : meth.sig.returnType = (some .int)) (hex : ∀ x ∈ c.exceptionTable.toList, False) (Q : Int32 → MS → Prop) (QX : String → MS → Prop) (k7 : MS → Nat → Int32 → Int32 → Int32 → Prop) (kh7 : ∀ (S : MS) (a0 : Nat) (y1 : Int32) (y2 : Int32) (y3 : Int32) (cells slots : Nat) (H : Heap) (locs : List Loc) (ls : Array Slot), pI S 5 a0 → PW G A s H locs S0 S → lv_has ls 4 [(0, .ref a0), (1, .int y1), (2, .int y2), (3, .int y3)] → cells + 0 ≤ 0 → slots + 0 ≤ 0 → k7 S a0 y1 y2 y3 → W p l e rmX5_findCheapest s m args below meth c H locs cells slots (vx_MQ below (QI G S0 A Q) (XX G S0 A QX) args s 0 0 A) (F0 m 7 ls [])) (S : MS) (a0 : Nat) (y1 : Int32) (y2 : Int32) (y3 : Int32) (p_a0 : pI S 5 a0) (P : PW G A s H locs S0 S) (hl : lv_has ls 4 [(0, .ref a0), (1, .int y1), (2, .int y2), (3, .int y3)]) (hcc : cells + 0 ≤ 0) (hss : slots + 0 ≤ 0) (hw : wX5_findCheapest_7 Q QX k7 S a0 y1 y2 y3) : W p l e rmX5_findCheapest s m args below meth c H locs cells slots (vx_MQ below (QI G S0 A Q) (XX G S0 A QX) args s 0 0 A) (F0 m 7 ls []) := by
  have hx := CF_x C
  have hb := CF_b C
  unfold wX5_findCheapest_7 at hw
  refine lv_iload_n hx hb dX5_findCheapest_7 rfl (lv_at hl 3 rfl) ?_
  refine lv_aload_n hx hb dX5_findCheapest_8 rfl (lv_at hl 0 rfl) ?_
  refine gf_5_3 C P p_a0 q_260 dX5_findCheapest_9 ?_
  refine lv_icmp_ge (tgt := 49) hx hb dX5_findCheapest_12 (by decide) (fun hc => ?_) (fun hc => ?_)
  · have hw := hw.1 hc
    refine lv_iload_n hx hb dX5_findCheapest_49 rfl (lv_at hl 1 rfl) ?_
    exact e_i C hr rfl P hw (by omega) (by omega) dX5_findCheapest_50
  · have hw := hw.2 hc
    refine lv_aload_n hx hb dX5_findCheapest_15 rfl (lv_at hl 0 rfl) ?_
    obtain ⟨a1, e1, hw⟩ := hw
    have p_a1 : pI S 13 a1 := wf_r P.2.2.2.1 p_a0 e1
    refine gf_5_2 C P p_a0 e1 q_259 dX5_findCheapest_16 ?_
    refine lv_iload_n hx hb dX5_findCheapest_19 rfl (lv_at hl 3 rfl) ?_
    obtain ⟨h1, hw⟩ := hw
    refine ra_z C P p_a1 h1 dX5_findCheapest_20 ?_
    refine lv_if_ne (tgt := 43) hx hb dX5_findCheapest_21 (by decide) (fun hc => ?_) (fun hc => ?_)
    · have hw := hw.1 hc
      refine lv_iinc (v := (y3 + 1)) (lv' := [(3, .int (y3 + 1)), (0, .ref a0), (1, .int y1), (2, .int y2)]) hx hb dX5_findCheapest_43 hl (k := 3) rfl (by rfl) (by decide) rfl (fun ls hl => ?_)
      refine lv_goto (tgt := 7) hx hb dX5_findCheapest_46 (by decide) ?_
      exact kh7 S a0 y1 y2 (y3 + 1) _ _ _ _ _ p_a0 P (lv_sub hl [1, 2, 3, 0] rfl) (by omega) (by omega) hw
    · have hw := hw.2 hc
      refine lv_aload_n hx hb dX5_findCheapest_24 rfl (lv_at hl 0 rfl) ?_
      obtain ⟨a2, e1, hw⟩ := hw
      have p_a2 : pI S 12 a2 := wf_r P.2.2.2.1 p_a0 e1
      refine gf_5_1 C P p_a0 e1 q_258 dX5_findCheapest_25 ?_
      refine lv_iload_n hx hb dX5_findCheapest_28 rfl (lv_at hl 3 rfl) ?_
      obtain ⟨h1, hw⟩ := hw
      refine ra_i C P p_a2 h1 dX5_findCheapest_29 ?_
      refine lv_iload_n hx hb dX5_findCheapest_30 rfl (lv_at hl 2 rfl) ?_
      refine lv_icmp_ge (tgt := 43) hx hb dX5_findCheapest_31 (by decide) (fun hc => ?_) (fun hc => ?_)
      · have hw := hw.1 hc
        refine lv_iinc (v := (y3 + 1)) (lv' := [(3, .int (y3 + 1)), (0, .ref a0), (1, .int y1), (2, .int y2)]) hx hb dX5_findCheapest_43 hl (k := 3) rfl (by rfl) (by decide) rfl (fun ls hl => ?_)
        refine lv_goto (tgt := 7) hx hb dX5_findCheapest_46 (by decide) ?_
        exact kh7 S a0 y1 y2 (y3 + 1) _ _ _ _ _ p_a0 P (lv_sub hl [1, 2, 3, 0] rfl) (by omega) (by omega) hw
      · have hw := hw.2 hc
        refine lv_iload_n hx hb dX5_findCheapest_34 rfl (lv_at hl 3 rfl) ?_
        refine lv_istore_n (lv' := [(1, .int y3), (0, .ref a0), (2, .int y2), (3, .int y3)]) hx hb dX5_findCheapest_35 rfl hl (by decide) rfl (fun ls hl => ?_)
        refine lv_aload_n hx hb dX5_findCheapest_36 rfl (lv_at hl 1 rfl) ?_
        obtain ⟨a3, e1, hw⟩ := hw
        have p_a3 : pI S 12 a3 := wf_r P.2.2.2.1 p_a0 e1
        refine gf_5_1 C P p_a0 e1 q_258 dX5_findCheapest_37 ?_
        refine lv_iload_n hx hb dX5_findCheapest_40 rfl (lv_at hl 3 rfl) ?_
        obtain ⟨h1, hw⟩ := hw
        refine ra_i C P p_a3 h1 dX5_findCheapest_41 ?_
        refine lv_istore_n (lv' := [(2, .int (mI S a3 (y3 : Int32).toNatClampNeg)), (1, .int y3), (0, .ref a0), (3, .int y3)]) hx hb dX5_findCheapest_42 rfl hl (by decide) rfl (fun ls hl => ?_)
        refine lv_iinc (v := (y3 + 1)) (lv' := [(3, .int (y3 + 1)), (2, .int (mI S a3 (y3 : Int32).toNatClampNeg)), (1, .int y3), (0, .ref a0)]) hx hb dX5_findCheapest_43 hl (k := 3) rfl (by rfl) (by decide) rfl (fun ls hl => ?_)
        refine lv_goto (tgt := 7) hx hb dX5_findCheapest_46 (by decide) ?_
        exact kh7 S a0 y3 (mI S a3 (y3 : Int32).toNatClampNeg) (y3 + 1) _ _ _ _ _ p_a0 P (lv_sub hl [3, 2, 1, 0] rfl) (by omega) (by omega) hw
def lX5_findCheapest_7 (Q : Int32 → MS → Prop) (QX : String → MS → Prop) : Nat → MS → Nat → Int32 → Int32 → Int32 → Prop
  | 0 => fun _ _ _ _ _ => False
  | n + 1 => fun S a0 y1 y2 y3 => wX5_findCheapest_7 Q QX (lX5_findCheapest_7 Q QX n) S a0 y1 y2 y3
theorem tlX5_findCheapest_7 {p : Program} {l : Launch} {e : Env} {s : State} {m : MethodId} {args : Array Value} {below : List Frame} {meth : Method} {c : Code} {G : GP} {A : Nat → Prop} {S0 : MS} (C : CF p l s m args meth c "SkirmishGrid$Paths" cX5_findCheapest 4 G A) (hr : meth.sig.returnType = (some .int)) (hex : ∀ x ∈ c.exceptionTable.toList, False) (Q : Int32 → MS → Prop) (QX : String → MS → Prop) : ∀ (n : Nat), ∀ (S : MS) (a0 : Nat) (y1 : Int32) (y2 : Int32) (y3 : Int32) (cells slots : Nat) (H : Heap) (locs : List Loc) (ls : Array Slot), pI S 5 a0 → PW G A s H locs S0 S → lv_has ls 4 [(0, .ref a0), (1, .int y1), (2, .int y2), (3, .int y3)] → cells + 0 ≤ 0 → slots + 0 ≤ 0 → lX5_findCheapest_7 Q QX n S a0 y1 y2 y3 → W p l e rmX5_findCheapest s m args below meth c H locs cells slots (vx_MQ below (QI G S0 A Q) (XX G S0 A QX) args s 0 0 A) (F0 m 7 ls []) := by
  intro n
  induction n with
  | zero => intro S a0 y1 y2 y3 cells slots H locs ls p_a0 P hl hcc hss hw; exact hw.elim
  | succ n ih => intro S a0 y1 y2 y3 cells slots H locs ls p_a0 P hl hcc hss hw; exact tX5_findCheapest_7 C hr hex Q QX (lX5_findCheapest_7 Q QX n) ih S a0 y1 y2 y3 p_a0 P hl hcc hss hw
def wX5_findCheapest_0 (Q : Int32 → MS → Prop) (QX : String → MS → Prop) (S : MS) (a0 : Nat) : Prop := (∃ n, lX5_findCheapest_7 Q QX n S a0 (-1) 1000000 0)
set_option maxHeartbeats 4000000 in
set_option maxRecDepth 100000 in
theorem tX5_findCheapest_0 {p : Program} {l : Launch} {e : Env} {s : State} {m : MethodId} {args : Array Value} {below : List Frame} {meth : Method} {c : Code} {H : Heap} {locs : List Loc} {cells slots : Nat} {G : GP} {A : Nat → Prop} {S0 : MS} {ls : Array Slot} (C : CF p l s m args meth c "SkirmishGrid$Paths" cX5_findCheapest 4 G A) (hr : meth.sig.returnType = (some .int)) (hex : ∀ x ∈ c.exceptionTable.toList, False) (Q : Int32 → MS → Prop) (QX : String → MS → Prop) (S : MS) (a0 : Nat) (p_a0 : pI S 5 a0) (P : PW G A s H locs S0 S) (hl : lv_has ls 4 [(0, .ref a0)]) (hcc : cells + 0 ≤ 0) (hss : slots + 0 ≤ 0) (hw : wX5_findCheapest_0 Q QX S a0) : W p l e rmX5_findCheapest s m args below meth c H locs cells slots (vx_MQ below (QI G S0 A Q) (XX G S0 A QX) args s 0 0 A) (F0 m 0 ls []) := by
  have hx := CF_x C
  have hb := CF_b C
  unfold wX5_findCheapest_0 at hw
  refine lv_iconst (v := (-1)) hx hb dX5_findCheapest_0 (by decide) ?_
  refine lv_istore_n (lv' := [(1, .int (-1)), (0, .ref a0)]) hx hb dX5_findCheapest_1 rfl hl (by decide) rfl (fun ls hl => ?_)
  refine lv_ldc (v := 1000000) hx hb (CF_o C) (CF_t C _ q_916) dX5_findCheapest_2 ?_
  refine lv_istore_n (lv' := [(2, .int 1000000), (1, .int (-1)), (0, .ref a0)]) hx hb dX5_findCheapest_4 rfl hl (by decide) rfl (fun ls hl => ?_)
  refine lv_iconst (v := 0) hx hb dX5_findCheapest_5 (by decide) ?_
  refine lv_istore_n (lv' := [(3, .int 0), (2, .int 1000000), (1, .int (-1)), (0, .ref a0)]) hx hb dX5_findCheapest_6 rfl hl (by decide) rfl (fun ls hl => ?_)
  obtain ⟨n, hw⟩ := hw
  exact tlX5_findCheapest_7 C hr hex Q QX n S a0 (-1) 1000000 0 _ _ _ _ _ p_a0 P (lv_sub hl [3, 2, 1, 0] rfl) (by omega) (by omega) hw
def wp_X5_findCheapest (Q : Int32 → MS → Prop) (QX : String → MS → Prop) (S : MS) (a0 : Nat) : Prop := wX5_findCheapest_0 Q QX S a0
set_option maxHeartbeats 4000000 in
set_option maxRecDepth 100000 in
theorem met_X5_findCheapest {l : Launch} (hst : l.stackTraces = false) (G : GP) (sz : Nat) (Q : Int32 → MS → Prop) (QX : String → MS → Prop) (S : MS) (a0 : Nat) (p_a0 : pI S 5 a0) (hw : wp_X5_findCheapest Q QX S a0) : vx_Met l yX5_findCheapest (.code yX5_findCheapest cX5_findCheapest 4 (some .int) :: GW) rmX5_findCheapest (va_Pc [.ref a0] (PR G S sz)) (QI G S (FA G S sz) Q) (XX G S (FA G S sz) QX) 0 0 (FA G S sz) := by
  refine st_m (by decide +kernel) hst (fun p e s m below meth c C hr hnm hex P => ?_)
  refine en_m (Nat.le_of_ble_eq_true rfl) (lv := [(0, .ref a0)]) rfl (fun ls hl => ?_)
  have C : CF p l s m _ meth c "SkirmishGrid$Paths" cX5_findCheapest 4 G (FA G S sz) := C
  exact tX5_findCheapest_0 C hr hex Q QX S a0 p_a0 P hl (by omega) (by omega) hw
theorem cd_X5_findCheapest : yX5_findCheapest.cls = RX5 ∧ yX5_findCheapest.cls ≠ "java/lang/invoke/MethodHandle" ∧ yX5_findCheapest.cls ≠ "java/lang/invoke/VarHandle" ∧ (parseMethodDescriptor yX5_findCheapest.desc).map (fun d => d.parameters.length) = some 0 := by decide +kernel
abbrev rmX5_measure : Room := { frames := 3, cells := 0, slots := 0, locals := 84 }
def wX5_measure_69 (Q : MS → Prop) (QX : String → MS → Prop) (k69 : MS → Nat → Nat → Int32 → Int32 → Prop) (S : MS) (a0 : Nat) (u1 : Nat) (y5 : Int32) (y6 : Int32) : Prop := ((64 ≤ y6 → Q S) ∧ (¬ 64 ≤ y6 → ((y5 < 0 → Q S) ∧ (¬ y5 < 0 → (∃ a1, mR S a0 2 = some a1 ∧ (vp_in y5 (mN S a1) ∧ (∀ S2, S2 = (sI S a1 (y5 : Int32).toNatClampNeg 1) → (∃ a3, mR S2 u1 0 = some a3 ∧ wp_X5_spread (fun S4 => wp_X5_findCheapest (fun r6 S5 => k69 S5 a0 u1 r6 (y6 + 1)) QX S4 a0) QX S2 a0 a3 y5))))))))
set_option maxHeartbeats 4000000 in
set_option maxRecDepth 100000 in
theorem tX5_measure_69 {p : Program} {l : Launch} {e : Env} {s : State} {m : MethodId} {args : Array Value} {below : List Frame} {meth : Method} {c : Code} {H : Heap} {locs : List Loc} {cells slots : Nat} {G : GP} {A : Nat → Prop} {S0 : MS} {ls : Array Slot} (C : CF p l s m args meth c "SkirmishGrid$Paths" cX5_measure 7 G A) (hr : meth.sig.returnType = none) (hex : ∀ x ∈ c.exceptionTable.toList, False) (Q : MS → Prop) (QX : String → MS → Prop) (k69 : MS → Nat → Nat → Int32 → Int32 → Prop) (kh69 : ∀ (S : MS) (a0 : Nat) (u1 : Nat) (y5 : Int32) (y6 : Int32) (cells slots : Nat) (H : Heap) (locs : List Loc) (ls : Array Slot), pI S 5 a0 → pI S 2 u1 → PW G A s H locs S0 S → lv_has ls 7 [(0, .ref a0), (1, .ref u1), (5, .int y5), (6, .int y6)] → cells + 0 ≤ 0 → slots + 0 ≤ 0 → k69 S a0 u1 y5 y6 → W p l e rmX5_measure s m args below meth c H locs cells slots (vx_MQ below (QV G S0 A Q) (XX G S0 A QX) args s 0 0 A) (F0 m 69 ls [])) (S : MS) (a0 : Nat) (u1 : Nat) (y5 : Int32) (y6 : Int32) (p_a0 : pI S 5 a0) (p_u1 : pI S 2 u1) (P : PW G A s H locs S0 S) (hl : lv_has ls 7 [(0, .ref a0), (1, .ref u1), (5, .int y5), (6, .int y6)]) (hcc : cells + 0 ≤ 0) (hss : slots + 0 ≤ 0) (hw : wX5_measure_69 Q QX k69 S a0 u1 y5 y6) : W p l e rmX5_measure s m args below meth c H locs cells slots (vx_MQ below (QV G S0 A Q) (XX G S0 A QX) args s 0 0 A) (F0 m 69 ls []) := by
  have hx := CF_x C
  have hb := CF_b C
  unfold wX5_measure_69 at hw
  refine lv_iload hx hb dX5_measure_69 (lv_at hl 3 rfl) ?_
  refine lv_bipush (v := 64) hx hb dX5_measure_71 (by decide) ?_
  refine lv_icmp_ge (tgt := 111) hx hb dX5_measure_73 (by decide) (fun hc => ?_) (fun hc => ?_)
  · have hw := hw.1 hc
    exact e_v C hr P hw (by omega) (by omega) dX5_measure_111
  · have hw := hw.2 hc
    refine lv_iload hx hb dX5_measure_76 (lv_at hl 2 rfl) ?_
    refine lv_if_lt (tgt := 111) hx hb dX5_measure_78 (by decide) (fun hc => ?_) (fun hc => ?_)
    · have hw := hw.1 hc
      exact e_v C hr P hw (by omega) (by omega) dX5_measure_111
    · have hw := hw.2 hc
      refine lv_aload_n hx hb dX5_measure_81 rfl (lv_at hl 0 rfl) ?_
      obtain ⟨a1, e1, hw⟩ := hw
      have p_a1 : pI S 13 a1 := wf_r P.2.2.2.1 p_a0 e1
      refine gf_5_2 C P p_a0 e1 q_259 dX5_measure_82 ?_
      refine lv_iload hx hb dX5_measure_85 (lv_at hl 2 rfl) ?_
      refine lv_iconst (v := 1) hx hb dX5_measure_87 (by decide) ?_
      obtain ⟨h1, hw⟩ := hw
      refine rs_z C P p_a1 h1 (by decide) dX5_measure_88 (fun H locs P => ?_)
      obtain ⟨S2, hS⟩ : ∃ z, z = (sI S a1 (y5 : Int32).toNatClampNeg 1) := ⟨_, rfl⟩
      have P : PW G A s H locs S0 S2 := by rw [hS]; exact P
      have p_a0 : pI S2 5 a0 := by rw [hS]; exact pI_x ext_sI p_a0
      have p_u1 : pI S2 2 u1 := by rw [hS]; exact pI_x ext_sI p_u1
      have p_a1 : pI S2 13 a1 := by rw [hS]; exact pI_x ext_sI p_a1
      have hw := hw S2 hS
      refine lv_aload_n hx hb dX5_measure_89 rfl (lv_at hl 0 rfl) ?_
      refine lv_aload_n hx hb dX5_measure_90 rfl (lv_at hl 1 rfl) ?_
      obtain ⟨a3, e1, hw⟩ := hw
      have p_a3 : pI S2 3 a3 := wf_r P.2.2.2.1 p_u1 e1
      refine gf_2_0 C P p_u1 e1 q_162 dX5_measure_91 ?_
      refine lv_iload hx hb dX5_measure_94 (lv_at hl 2 rfl) ?_
      refine cl_v C P (run_V C P hl.1 (kd := 5) (met_X5_spread (CF_n C) G H.size _ _ S2 a0 a3 y5 p_a0 p_a3 hw) p_a0 (by decide) rfl q_919 q_921 q_p12 q_8 q_922 cd_X5_spread ⟨(Nat.le_of_ble_eq_true rfl), (Nat.le_of_ble_eq_true rfl)⟩ rfl rfl (As := [.ref a3, .int y5]) (rest := []) rfl rfl (Nat.le_of_ble_eq_true rfl) dX5_measure_96 ⟨by show cells + 0 ≤ 0; omega, by show slots + 0 ≤ 0; omega⟩) (kx_out C hex (fun _ _ _ h => h) (by omega) (by omega)) (fun S4 H locs P hE hw => ?_)
      have p_a0 : pI S4 5 a0 := pI_x hE p_a0
      have p_u1 : pI S4 2 u1 := pI_x hE p_u1
      have p_a3 : pI S4 3 a3 := pI_x hE p_a3
      refine lv_aload_n hx hb dX5_measure_99 rfl (lv_at hl 0 rfl) ?_
      refine cl_i C P (run_V C P hl.1 (kd := 5) (met_X5_findCheapest (CF_n C) G H.size _ _ S4 a0 p_a0 hw) p_a0 (by decide) rfl q_927 q_929 q_p13 q_8 q_930 cd_X5_findCheapest ⟨(Nat.le_of_ble_eq_true rfl), (Nat.le_of_ble_eq_true rfl)⟩ rfl rfl (As := []) (rest := []) rfl rfl (Nat.le_of_ble_eq_true rfl) dX5_measure_100 ⟨by show cells + 0 ≤ 0; omega, by show slots + 0 ≤ 0; omega⟩) (kx_out C hex (fun _ _ _ h => h) (by omega) (by omega)) (fun r6 S5 H locs P hE hw => ?_)
      have p_a0 : pI S5 5 a0 := pI_x hE p_a0
      have p_u1 : pI S5 2 u1 := pI_x hE p_u1
      refine lv_istore (lv' := [(5, .int r6), (0, .ref a0), (1, .ref u1), (6, .int y6)]) hx hb dX5_measure_103 hl (by decide) rfl (fun ls hl => ?_)
      refine lv_iinc (v := (y6 + 1)) (lv' := [(6, .int (y6 + 1)), (5, .int r6), (0, .ref a0), (1, .ref u1)]) hx hb dX5_measure_105 hl (k := 3) rfl (by rfl) (by decide) rfl (fun ls hl => ?_)
      refine lv_goto (tgt := 69) hx hb dX5_measure_108 (by decide) ?_
      exact kh69 S5 a0 u1 r6 (y6 + 1) _ _ _ _ _ p_a0 p_u1 P (lv_sub hl [2, 3, 1, 0] rfl) (by omega) (by omega) hw
def lX5_measure_69 (Q : MS → Prop) (QX : String → MS → Prop) : Nat → MS → Nat → Nat → Int32 → Int32 → Prop
  | 0 => fun _ _ _ _ _ => False
  | n + 1 => fun S a0 u1 y5 y6 => wX5_measure_69 Q QX (lX5_measure_69 Q QX n) S a0 u1 y5 y6
theorem tlX5_measure_69 {p : Program} {l : Launch} {e : Env} {s : State} {m : MethodId} {args : Array Value} {below : List Frame} {meth : Method} {c : Code} {G : GP} {A : Nat → Prop} {S0 : MS} (C : CF p l s m args meth c "SkirmishGrid$Paths" cX5_measure 7 G A) (hr : meth.sig.returnType = none) (hex : ∀ x ∈ c.exceptionTable.toList, False) (Q : MS → Prop) (QX : String → MS → Prop) : ∀ (n : Nat), ∀ (S : MS) (a0 : Nat) (u1 : Nat) (y5 : Int32) (y6 : Int32) (cells slots : Nat) (H : Heap) (locs : List Loc) (ls : Array Slot), pI S 5 a0 → pI S 2 u1 → PW G A s H locs S0 S → lv_has ls 7 [(0, .ref a0), (1, .ref u1), (5, .int y5), (6, .int y6)] → cells + 0 ≤ 0 → slots + 0 ≤ 0 → lX5_measure_69 Q QX n S a0 u1 y5 y6 → W p l e rmX5_measure s m args below meth c H locs cells slots (vx_MQ below (QV G S0 A Q) (XX G S0 A QX) args s 0 0 A) (F0 m 69 ls []) := by
  intro n
  induction n with
  | zero => intro S a0 u1 y5 y6 cells slots H locs ls p_a0 p_u1 P hl hcc hss hw; exact hw.elim
  | succ n ih => intro S a0 u1 y5 y6 cells slots H locs ls p_a0 p_u1 P hl hcc hss hw; exact tX5_measure_69 C hr hex Q QX (lX5_measure_69 Q QX n) ih S a0 u1 y5 y6 p_a0 p_u1 P hl hcc hss hw
def wX5_measure_56 (Q : MS → Prop) (QX : String → MS → Prop) (S : MS) (a0 : Nat) (u1 : Nat) (y2 : Int32) : Prop := (∃ a1, mR S a0 1 = some a1 ∧ (vp_in y2 (mN S a1) ∧ (∀ S2, S2 = (sI S a1 (y2 : Int32).toNatClampNeg 0) → (∃ n, lX5_measure_69 Q QX n S2 a0 u1 y2 0))))
set_option maxHeartbeats 4000000 in
set_option maxRecDepth 100000 in
theorem tX5_measure_56 {p : Program} {l : Launch} {e : Env} {s : State} {m : MethodId} {args : Array Value} {below : List Frame} {meth : Method} {c : Code} {H : Heap} {locs : List Loc} {cells slots : Nat} {G : GP} {A : Nat → Prop} {S0 : MS} {ls : Array Slot} (C : CF p l s m args meth c "SkirmishGrid$Paths" cX5_measure 7 G A) (hr : meth.sig.returnType = none) (hex : ∀ x ∈ c.exceptionTable.toList, False) (Q : MS → Prop) (QX : String → MS → Prop) (S : MS) (a0 : Nat) (u1 : Nat) (y2 : Int32) (p_a0 : pI S 5 a0) (p_u1 : pI S 2 u1) (P : PW G A s H locs S0 S) (hl : lv_has ls 7 [(0, .ref a0), (1, .ref u1), (2, .int y2)]) (hcc : cells + 0 ≤ 0) (hss : slots + 0 ≤ 0) (hw : wX5_measure_56 Q QX S a0 u1 y2) : W p l e rmX5_measure s m args below meth c H locs cells slots (vx_MQ below (QV G S0 A Q) (XX G S0 A QX) args s 0 0 A) (F0 m 56 ls []) := by
  have hx := CF_x C
  have hb := CF_b C
  unfold wX5_measure_56 at hw
  refine lv_aload_n hx hb dX5_measure_56 rfl (lv_at hl 0 rfl) ?_
  obtain ⟨a1, e1, hw⟩ := hw
  have p_a1 : pI S 12 a1 := wf_r P.2.2.2.1 p_a0 e1
  refine gf_5_1 C P p_a0 e1 q_258 dX5_measure_57 ?_
  refine lv_iload_n hx hb dX5_measure_60 rfl (lv_at hl 2 rfl) ?_
  refine lv_iconst (v := 0) hx hb dX5_measure_61 (by decide) ?_
  obtain ⟨h1, hw⟩ := hw
  refine rs_i C P p_a1 h1 dX5_measure_62 (fun H locs P => ?_)
  obtain ⟨S2, hS⟩ : ∃ z, z = (sI S a1 (y2 : Int32).toNatClampNeg 0) := ⟨_, rfl⟩
  have P : PW G A s H locs S0 S2 := by rw [hS]; exact P
  have p_a0 : pI S2 5 a0 := by rw [hS]; exact pI_x ext_sI p_a0
  have p_u1 : pI S2 2 u1 := by rw [hS]; exact pI_x ext_sI p_u1
  have p_a1 : pI S2 12 a1 := by rw [hS]; exact pI_x ext_sI p_a1
  have hw := hw S2 hS
  refine lv_iload_n hx hb dX5_measure_63 rfl (lv_at hl 2 rfl) ?_
  refine lv_istore (lv' := [(5, .int y2), (0, .ref a0), (1, .ref u1), (2, .int y2)]) hx hb dX5_measure_64 hl (by decide) rfl (fun ls hl => ?_)
  refine lv_iconst (v := 0) hx hb dX5_measure_66 (by decide) ?_
  refine lv_istore (lv' := [(6, .int 0), (5, .int y2), (0, .ref a0), (1, .ref u1), (2, .int y2)]) hx hb dX5_measure_67 hl (by decide) rfl (fun ls hl => ?_)
  obtain ⟨n, hw⟩ := hw
  exact tlX5_measure_69 C hr hex Q QX n S2 a0 u1 y2 0 _ _ _ _ _ p_a0 p_u1 P (lv_sub hl [2, 3, 1, 0] rfl) (by omega) (by omega) hw
def wX5_measure_27 (Q : MS → Prop) (QX : String → MS → Prop) (S : MS) (a0 : Nat) (u1 : Nat) (y2 : Int32) (z0 : Int32) : Prop := ((y2 < 0 → Q S) ∧ (¬ y2 < 0 → (((mI S a0 3) ≤ y2 → Q S) ∧ (¬ (mI S a0 3) ≤ y2 → (∃ a1, mR S a0 0 = some a1 ∧ (vp_in y2 (mN S a1) ∧ ((¬ (mI S a1 (y2 : Int32).toNatClampNeg) = 0 → wX5_measure_56 Q QX S a0 u1 y2) ∧ ((mI S a1 (y2 : Int32).toNatClampNeg) = 0 → ((¬ z0 = 0 → wX5_measure_56 Q QX S a0 u1 y2) ∧ (z0 = 0 → Q S))))))))))
set_option maxHeartbeats 4000000 in
set_option maxRecDepth 100000 in
theorem tX5_measure_27 {p : Program} {l : Launch} {e : Env} {s : State} {m : MethodId} {args : Array Value} {below : List Frame} {meth : Method} {c : Code} {H : Heap} {locs : List Loc} {cells slots : Nat} {G : GP} {A : Nat → Prop} {S0 : MS} {ls : Array Slot} (C : CF p l s m args meth c "SkirmishGrid$Paths" cX5_measure 7 G A) (hr : meth.sig.returnType = none) (hex : ∀ x ∈ c.exceptionTable.toList, False) (Q : MS → Prop) (QX : String → MS → Prop) (S : MS) (a0 : Nat) (u1 : Nat) (y2 : Int32) (z0 : Int32) (p_a0 : pI S 5 a0) (p_u1 : pI S 2 u1) (P : PW G A s H locs S0 S) (hl : lv_has ls 7 [(0, .ref a0), (1, .ref u1), (2, .int y2)]) (hcc : cells + 0 ≤ 0) (hss : slots + 0 ≤ 0) (hw : wX5_measure_27 Q QX S a0 u1 y2 z0) : W p l e rmX5_measure s m args below meth c H locs cells slots (vx_MQ below (QV G S0 A Q) (XX G S0 A QX) args s 0 0 A) (F0 m 27 ls [.int z0]) := by
  have hx := CF_x C
  have hb := CF_b C
  unfold wX5_measure_27 at hw
  refine lv_istore (lv' := [(4, .int z0), (0, .ref a0), (1, .ref u1), (2, .int y2)]) hx hb dX5_measure_27 hl (by decide) rfl (fun ls hl => ?_)
  refine lv_iload_n hx hb dX5_measure_29 rfl (lv_at hl 3 rfl) ?_
  refine lv_if_lt (tgt := 55) hx hb dX5_measure_30 (by decide) (fun hc => ?_) (fun hc => ?_)
  · have hw := hw.1 hc
    exact e_v C hr P hw (by omega) (by omega) dX5_measure_55
  · have hw := hw.2 hc
    refine lv_iload_n hx hb dX5_measure_33 rfl (lv_at hl 3 rfl) ?_
    refine lv_aload_n hx hb dX5_measure_34 rfl (lv_at hl 1 rfl) ?_
    refine gf_5_3 C P p_a0 q_260 dX5_measure_35 ?_
    refine lv_icmp_ge (tgt := 55) hx hb dX5_measure_38 (by decide) (fun hc => ?_) (fun hc => ?_)
    · have hw := hw.1 hc
      exact e_v C hr P hw (by omega) (by omega) dX5_measure_55
    · have hw := hw.2 hc
      refine lv_aload_n hx hb dX5_measure_41 rfl (lv_at hl 1 rfl) ?_
      obtain ⟨a1, e1, hw⟩ := hw
      have p_a1 : pI S 12 a1 := wf_r P.2.2.2.1 p_a0 e1
      refine gf_5_0 C P p_a0 e1 q_257 dX5_measure_42 ?_
      refine lv_iload_n hx hb dX5_measure_45 rfl (lv_at hl 3 rfl) ?_
      obtain ⟨h1, hw⟩ := hw
      refine ra_i C P p_a1 h1 dX5_measure_46 ?_
      refine lv_if_ne (tgt := 56) hx hb dX5_measure_47 (by decide) (fun hc => ?_) (fun hc => ?_)
      · have hw := hw.1 hc
        exact tX5_measure_56 C hr hex Q QX S a0 u1 y2 p_a0 p_u1 P (lv_sub hl [1, 2, 3] rfl) (by omega) (by omega) hw
      · have hw := hw.2 hc
        refine lv_iload hx hb dX5_measure_50 (lv_at hl 0 rfl) ?_
        refine lv_if_ne (tgt := 56) hx hb dX5_measure_52 (by decide) (fun hc => ?_) (fun hc => ?_)
        · have hw := hw.1 hc
          exact tX5_measure_56 C hr hex Q QX S a0 u1 y2 p_a0 p_u1 P (lv_sub hl [1, 2, 3] rfl) (by omega) (by omega) hw
        · have hw := hw.2 hc
          exact e_v C hr P hw (by omega) (by omega) dX5_measure_55
def wX5_measure_26 (Q : MS → Prop) (QX : String → MS → Prop) (S : MS) (a0 : Nat) (u1 : Nat) (y2 : Int32) : Prop := wX5_measure_27 Q QX S a0 u1 y2 0
set_option maxHeartbeats 4000000 in
set_option maxRecDepth 100000 in
theorem tX5_measure_26 {p : Program} {l : Launch} {e : Env} {s : State} {m : MethodId} {args : Array Value} {below : List Frame} {meth : Method} {c : Code} {H : Heap} {locs : List Loc} {cells slots : Nat} {G : GP} {A : Nat → Prop} {S0 : MS} {ls : Array Slot} (C : CF p l s m args meth c "SkirmishGrid$Paths" cX5_measure 7 G A) (hr : meth.sig.returnType = none) (hex : ∀ x ∈ c.exceptionTable.toList, False) (Q : MS → Prop) (QX : String → MS → Prop) (S : MS) (a0 : Nat) (u1 : Nat) (y2 : Int32) (p_a0 : pI S 5 a0) (p_u1 : pI S 2 u1) (P : PW G A s H locs S0 S) (hl : lv_has ls 7 [(0, .ref a0), (1, .ref u1), (2, .int y2)]) (hcc : cells + 0 ≤ 0) (hss : slots + 0 ≤ 0) (hw : wX5_measure_26 Q QX S a0 u1 y2) : W p l e rmX5_measure s m args below meth c H locs cells slots (vx_MQ below (QV G S0 A Q) (XX G S0 A QX) args s 0 0 A) (F0 m 26 ls []) := by
  have hx := CF_x C
  have hb := CF_b C
  unfold wX5_measure_26 at hw
  refine lv_iconst (v := 0) hx hb dX5_measure_26 (by decide) ?_
  exact tX5_measure_27 C hr hex Q QX S a0 u1 y2 0 p_a0 p_u1 P (lv_sub hl [0, 1, 2] rfl) (by omega) (by omega) hw
def wX5_measure_0 (Q : MS → Prop) (QX : String → MS → Prop) (S : MS) (a0 : Nat) (b1 : Nat) (x2 : Int32) : Prop := wp_X5_clear (fun S1 => wp_X2_onTurn (fun r3 S2 => ((r3 = none → wX5_measure_26 Q QX S2 a0 b1 x2) ∧ (∀ a4, r3 = some a4 → ((¬ (mI S2 a4 4) = x2 → wX5_measure_26 Q QX S2 a0 b1 x2) ∧ ((mI S2 a4 4) = x2 → wX5_measure_27 Q QX S2 a0 b1 x2 1))))) QX S1 b1) QX S a0 b1
set_option maxHeartbeats 4000000 in
set_option maxRecDepth 100000 in
theorem tX5_measure_0 {p : Program} {l : Launch} {e : Env} {s : State} {m : MethodId} {args : Array Value} {below : List Frame} {meth : Method} {c : Code} {H : Heap} {locs : List Loc} {cells slots : Nat} {G : GP} {A : Nat → Prop} {S0 : MS} {ls : Array Slot} (C : CF p l s m args meth c "SkirmishGrid$Paths" cX5_measure 7 G A) (hr : meth.sig.returnType = none) (hex : ∀ x ∈ c.exceptionTable.toList, False) (Q : MS → Prop) (QX : String → MS → Prop) (S : MS) (a0 : Nat) (b1 : Nat) (x2 : Int32) (p_a0 : pI S 5 a0) (p_b1 : pI S 2 b1) (P : PW G A s H locs S0 S) (hl : lv_has ls 7 [(0, .ref a0), (1, .ref b1), (2, .int x2)]) (hcc : cells + 0 ≤ 0) (hss : slots + 0 ≤ 0) (hw : wX5_measure_0 Q QX S a0 b1 x2) : W p l e rmX5_measure s m args below meth c H locs cells slots (vx_MQ below (QV G S0 A Q) (XX G S0 A QX) args s 0 0 A) (F0 m 0 ls []) := by
  have hx := CF_x C
  have hb := CF_b C
  unfold wX5_measure_0 at hw
  refine lv_aload_n hx hb dX5_measure_0 rfl (lv_at hl 0 rfl) ?_
  refine lv_aload_n hx hb dX5_measure_1 rfl (lv_at hl 1 rfl) ?_
  refine cl_v C P (run_V C P hl.1 (kd := 5) (met_X5_clear (CF_n C) G H.size _ _ S a0 b1 p_a0 p_b1 hw) p_a0 (by decide) rfl q_910 q_912 q_p11 q_8 q_913 cd_X5_clear ⟨(Nat.le_of_ble_eq_true rfl), (Nat.le_of_ble_eq_true rfl)⟩ rfl rfl (As := [.ref b1]) (rest := []) rfl rfl (Nat.le_of_ble_eq_true rfl) dX5_measure_2 ⟨by show cells + 0 ≤ 0; omega, by show slots + 0 ≤ 0; omega⟩) (kx_out C hex (fun _ _ _ h => h) (by omega) (by omega)) (fun S1 H locs P hE hw => ?_)
  have p_a0 : pI S1 5 a0 := pI_x hE p_a0
  have p_b1 : pI S1 2 b1 := pI_x hE p_b1
  refine lv_aload_n hx hb dX5_measure_5 rfl (lv_at hl 1 rfl) ?_
  refine cl_q C P (run_V C P hl.1 (kd := 2) (met_X2_onTurn (CF_n C) G H.size _ _ S1 b1 p_b1 hw) p_b1 (by decide) rfl q_918 q_879 q_880 q_2 q_881 cd_X2_onTurn ⟨(Nat.le_of_ble_eq_true rfl), (Nat.le_of_ble_eq_true rfl)⟩ rfl rfl (As := []) (rest := []) rfl rfl (Nat.le_of_ble_eq_true rfl) dX5_measure_6 ⟨by show cells + 0 ≤ 0; omega, by show slots + 0 ≤ 0; omega⟩) (kx_out C hex (fun _ _ _ h => h) (by omega) (by omega)) (fun r3 S2 H locs P hE hw hR => ?_)
  have p_a0 : pI S2 5 a0 := pI_x hE p_a0
  have p_b1 : pI S2 2 b1 := pI_x hE p_b1
  cases r3 with
  | none =>
    have hw := hw.1 rfl
    refine lv_astore_nN (lv' := [(3, .null), (0, .ref a0), (1, .ref b1), (2, .int x2)]) hx hb dX5_measure_9 rfl hl (by decide) rfl (fun ls hl => ?_)
    refine lv_aload_nN hx hb dX5_measure_10 rfl (lv_at hl 0 rfl) ?_
    refine lv_ifnullN (tgt := 26) hx hb dX5_measure_11 (by decide) ?_
    exact tX5_measure_26 C hr hex Q QX S2 a0 b1 x2 p_a0 p_b1 P (lv_sub hl [1, 2, 3] rfl) (by omega) (by omega) hw
  | some a4 =>
    have hw := hw.2 a4 rfl
    have p_a4 : pI S2 7 a4 := hR a4 rfl
    refine lv_astore_n (lv' := [(3, .ref a4), (0, .ref a0), (1, .ref b1), (2, .int x2)]) hx hb dX5_measure_9 rfl hl (by decide) rfl (fun ls hl => ?_)
    refine lv_aload_n hx hb dX5_measure_10 rfl (lv_at hl 0 rfl) ?_
    refine lv_ifnull hx hb dX5_measure_11 ?_
    refine lv_aload_n hx hb dX5_measure_14 rfl (lv_at hl 0 rfl) ?_
    refine gf_7_4 C P p_a4 q_105 dX5_measure_15 ?_
    refine lv_iload_n hx hb dX5_measure_18 rfl (lv_at hl 3 rfl) ?_
    refine lv_icmp_ne (tgt := 26) hx hb dX5_measure_19 (by decide) (fun hc => ?_) (fun hc => ?_)
    · have hw := hw.1 hc
      exact tX5_measure_26 C hr hex Q QX S2 a0 b1 x2 p_a0 p_b1 P (lv_sub hl [1, 2, 3] rfl) (by omega) (by omega) hw
    · have hw := hw.2 hc
      refine lv_iconst (v := 1) hx hb dX5_measure_22 (by decide) ?_
      refine lv_goto (tgt := 27) hx hb dX5_measure_23 (by decide) ?_
      exact tX5_measure_27 C hr hex Q QX S2 a0 b1 x2 1 p_a0 p_b1 P (lv_sub hl [1, 2, 3] rfl) (by omega) (by omega) hw
def wp_X5_measure (Q : MS → Prop) (QX : String → MS → Prop) (S : MS) (a0 : Nat) (b1 : Nat) (x2 : Int32) : Prop := wX5_measure_0 Q QX S a0 b1 x2
set_option maxHeartbeats 4000000 in
set_option maxRecDepth 100000 in
theorem met_X5_measure {l : Launch} (hst : l.stackTraces = false) (G : GP) (sz : Nat) (Q : MS → Prop) (QX : String → MS → Prop) (S : MS) (a0 : Nat) (b1 : Nat) (x2 : Int32) (p_a0 : pI S 5 a0) (p_b1 : pI S 2 b1) (hw : wp_X5_measure Q QX S a0 b1 x2) : vx_Met l yX5_measure (.code yX5_measure cX5_measure 7 none :: GW) rmX5_measure (va_Pc [.ref a0, .ref b1, .int x2] (PR G S sz)) (QV G S (FA G S sz) Q) (XX G S (FA G S sz) QX) 0 0 (FA G S sz) := by
  refine st_m (by decide +kernel) hst (fun p e s m below meth c C hr hnm hex P => ?_)
  refine en_m (Nat.le_of_ble_eq_true rfl) (lv := [(0, .ref a0), (1, .ref b1), (2, .int x2)]) rfl (fun ls hl => ?_)
  have C : CF p l s m _ meth c "SkirmishGrid$Paths" cX5_measure 7 G (FA G S sz) := C
  exact tX5_measure_0 C hr hex Q QX S a0 b1 x2 p_a0 p_b1 P hl (by omega) (by omega) hw
theorem cd_X5_measure : yX5_measure.cls = RX5 ∧ yX5_measure.cls ≠ "java/lang/invoke/MethodHandle" ∧ yX5_measure.cls ≠ "java/lang/invoke/VarHandle" ∧ (parseMethodDescriptor yX5_measure.desc).map (fun d => d.parameters.length) = some 2 := by decide +kernel
abbrev rmX5_costsFrom : Room := { frames := 0, cells := 0, slots := 0, locals := 0 }
def wX5_costsFrom_0 (Q : Int32 → MS → Prop) (QX : String → MS → Prop) (S : MS) (a0 : Nat) (x1 : Int32) : Prop := ((x1 < 0 → Q 1000000 S) ∧ (¬ x1 < 0 → (((mI S a0 3) ≤ x1 → Q 1000000 S) ∧ (¬ (mI S a0 3) ≤ x1 → (∃ a1, mR S a0 1 = some a1 ∧ (vp_in x1 (mN S a1) ∧ Q (mI S a1 (x1 : Int32).toNatClampNeg) S))))))
set_option maxHeartbeats 4000000 in
set_option maxRecDepth 100000 in
theorem tX5_costsFrom_0 {p : Program} {l : Launch} {e : Env} {s : State} {m : MethodId} {args : Array Value} {below : List Frame} {meth : Method} {c : Code} {H : Heap} {locs : List Loc} {cells slots : Nat} {G : GP} {A : Nat → Prop} {S0 : MS} {ls : Array Slot} (C : CF p l s m args meth c "SkirmishGrid$Paths" cX5_costsFrom 2 G A) (hr : meth.sig.returnType = (some .int)) (hex : ∀ x ∈ c.exceptionTable.toList, False) (Q : Int32 → MS → Prop) (QX : String → MS → Prop) (S : MS) (a0 : Nat) (x1 : Int32) (p_a0 : pI S 5 a0) (P : PW G A s H locs S0 S) (hl : lv_has ls 2 [(0, .ref a0), (1, .int x1)]) (hcc : cells + 0 ≤ 0) (hss : slots + 0 ≤ 0) (hw : wX5_costsFrom_0 Q QX S a0 x1) : W p l e rmX5_costsFrom s m args below meth c H locs cells slots (vx_MQ below (QI G S0 A Q) (XX G S0 A QX) args s 0 0 A) (F0 m 0 ls []) := by
  have hx := CF_x C
  have hb := CF_b C
  unfold wX5_costsFrom_0 at hw
  refine lv_iload_n hx hb dX5_costsFrom_0 rfl (lv_at hl 1 rfl) ?_
  refine lv_if_lt (tgt := 21) hx hb dX5_costsFrom_1 (by decide) (fun hc => ?_) (fun hc => ?_)
  · have hw := hw.1 hc
    refine lv_ldc (v := 1000000) hx hb (CF_o C) (CF_t C _ q_916) dX5_costsFrom_21 ?_
    exact e_i C hr rfl P hw (by omega) (by omega) dX5_costsFrom_23
  · have hw := hw.2 hc
    refine lv_iload_n hx hb dX5_costsFrom_4 rfl (lv_at hl 1 rfl) ?_
    refine lv_aload_n hx hb dX5_costsFrom_5 rfl (lv_at hl 0 rfl) ?_
    refine gf_5_3 C P p_a0 q_260 dX5_costsFrom_6 ?_
    refine lv_icmp_ge (tgt := 21) hx hb dX5_costsFrom_9 (by decide) (fun hc => ?_) (fun hc => ?_)
    · have hw := hw.1 hc
      refine lv_ldc (v := 1000000) hx hb (CF_o C) (CF_t C _ q_916) dX5_costsFrom_21 ?_
      exact e_i C hr rfl P hw (by omega) (by omega) dX5_costsFrom_23
    · have hw := hw.2 hc
      refine lv_aload_n hx hb dX5_costsFrom_12 rfl (lv_at hl 0 rfl) ?_
      obtain ⟨a1, e1, hw⟩ := hw
      have p_a1 : pI S 12 a1 := wf_r P.2.2.2.1 p_a0 e1
      refine gf_5_1 C P p_a0 e1 q_258 dX5_costsFrom_13 ?_
      refine lv_iload_n hx hb dX5_costsFrom_16 rfl (lv_at hl 1 rfl) ?_
      obtain ⟨h1, hw⟩ := hw
      refine ra_i C P p_a1 h1 dX5_costsFrom_17 ?_
      refine lv_goto (tgt := 23) hx hb dX5_costsFrom_18 (by decide) ?_
      exact e_i C hr rfl P hw (by omega) (by omega) dX5_costsFrom_23
def wp_X5_costsFrom (Q : Int32 → MS → Prop) (QX : String → MS → Prop) (S : MS) (a0 : Nat) (x1 : Int32) : Prop := wX5_costsFrom_0 Q QX S a0 x1
set_option maxHeartbeats 4000000 in
set_option maxRecDepth 100000 in
theorem met_X5_costsFrom {l : Launch} (hst : l.stackTraces = false) (G : GP) (sz : Nat) (Q : Int32 → MS → Prop) (QX : String → MS → Prop) (S : MS) (a0 : Nat) (x1 : Int32) (p_a0 : pI S 5 a0) (hw : wp_X5_costsFrom Q QX S a0 x1) : vx_Met l yX5_costsFrom (.code yX5_costsFrom cX5_costsFrom 2 (some .int) :: GW) rmX5_costsFrom (va_Pc [.ref a0, .int x1] (PR G S sz)) (QI G S (FA G S sz) Q) (XX G S (FA G S sz) QX) 0 0 (FA G S sz) := by
  refine st_m (by decide +kernel) hst (fun p e s m below meth c C hr hnm hex P => ?_)
  refine en_m (Nat.le_of_ble_eq_true rfl) (lv := [(0, .ref a0), (1, .int x1)]) rfl (fun ls hl => ?_)
  have C : CF p l s m _ meth c "SkirmishGrid$Paths" cX5_costsFrom 2 G (FA G S sz) := C
  exact tX5_costsFrom_0 C hr hex Q QX S a0 x1 p_a0 P hl (by omega) (by omega) hw
theorem cd_X5_costsFrom : yX5_costsFrom.cls = RX5 ∧ yX5_costsFrom.cls ≠ "java/lang/invoke/MethodHandle" ∧ yX5_costsFrom.cls ≠ "java/lang/invoke/VarHandle" ∧ (parseMethodDescriptor yX5_costsFrom.desc).map (fun d => d.parameters.length) = some 1 := by decide +kernel
abbrev rmX5_next : Room := { frames := 2, cells := 0, slots := 0, locals := 45 }
def wX5_next_14 (Q : Int32 → MS → Prop) (QX : String → MS → Prop) (k14 : MS → Nat → Nat → Int32 → Int32 → Prop) (S : MS) (a0 : Nat) (u1 : Nat) (y2 : Int32) (y3 : Int32) : Prop := ((3 < y3 → Q (-1) S) ∧ (¬ 3 < y3 → wp_X3_neighbor (fun r2 S1 => ((r2 < 0 → k14 S1 a0 u1 y2 (y3 + 1)) ∧ (¬ r2 < 0 → (((mI S1 a0 3) ≤ r2 → k14 S1 a0 u1 y2 (y3 + 1)) ∧ (¬ (mI S1 a0 3) ≤ r2 → (∃ a3, mR S1 a0 0 = some a3 ∧ (vp_in r2 (mN S1 a3) ∧ (((mI S1 a3 (r2 : Int32).toNatClampNeg) ≤ 0 → k14 S1 a0 u1 y2 (y3 + 1)) ∧ (¬ (mI S1 a3 (r2 : Int32).toNatClampNeg) ≤ 0 → (∃ a4, mR S1 a0 1 = some a4 ∧ (vp_in r2 (mN S1 a4) ∧ (∃ a5, mR S1 a0 0 = some a5 ∧ (vp_in r2 (mN S1 a5) ∧ (∃ a6, mR S1 a0 1 = some a6 ∧ (vp_in y2 (mN S1 a6) ∧ ((¬ ((mI S1 a4 (r2 : Int32).toNatClampNeg) + (mI S1 a5 (r2 : Int32).toNatClampNeg)) = (mI S1 a6 (y2 : Int32).toNatClampNeg) → k14 S1 a0 u1 y2 (y3 + 1)) ∧ (((mI S1 a4 (r2 : Int32).toNatClampNeg) + (mI S1 a5 (r2 : Int32).toNatClampNeg)) = (mI S1 a6 (y2 : Int32).toNatClampNeg) → Q r2 S1))))))))))))))))) QX S u1 y2 y3))
set_option maxHeartbeats 4000000 in
set_option maxRecDepth 100000 in
theorem tX5_next_14 {p : Program} {l : Launch} {e : Env} {s : State} {m : MethodId} {args : Array Value} {below : List Frame} {meth : Method} {c : Code} {H : Heap} {locs : List Loc} {cells slots : Nat} {G : GP} {A : Nat → Prop} {S0 : MS} {ls : Array Slot} (C : CF p l s m args meth c "SkirmishGrid$Paths" cX5_next 5 G A) (hr : meth.sig.returnType = (some .int)) (hex : ∀ x ∈ c.exceptionTable.toList, False) (Q : Int32 → MS → Prop) (QX : String → MS → Prop) (k14 : MS → Nat → Nat → Int32 → Int32 → Prop) (kh14 : ∀ (S : MS) (a0 : Nat) (u1 : Nat) (y2 : Int32) (y3 : Int32) (cells slots : Nat) (H : Heap) (locs : List Loc) (ls : Array Slot), pI S 5 a0 → pI S 3 u1 → PW G A s H locs S0 S → lv_has ls 5 [(0, .ref a0), (1, .ref u1), (2, .int y2), (3, .int y3)] → cells + 0 ≤ 0 → slots + 0 ≤ 0 → k14 S a0 u1 y2 y3 → W p l e rmX5_next s m args below meth c H locs cells slots (vx_MQ below (QI G S0 A Q) (XX G S0 A QX) args s 0 0 A) (F0 m 14 ls [])) (S : MS) (a0 : Nat) (u1 : Nat) (y2 : Int32) (y3 : Int32) (p_a0 : pI S 5 a0) (p_u1 : pI S 3 u1) (P : PW G A s H locs S0 S) (hl : lv_has ls 5 [(0, .ref a0), (1, .ref u1), (2, .int y2), (3, .int y3)]) (hcc : cells + 0 ≤ 0) (hss : slots + 0 ≤ 0) (hw : wX5_next_14 Q QX k14 S a0 u1 y2 y3) : W p l e rmX5_next s m args below meth c H locs cells slots (vx_MQ below (QI G S0 A Q) (XX G S0 A QX) args s 0 0 A) (F0 m 14 ls []) := by
  have hx := CF_x C
  have hb := CF_b C
  unfold wX5_next_14 at hw
  refine lv_iload_n hx hb dX5_next_14 rfl (lv_at hl 3 rfl) ?_
  refine lv_iconst (v := 3) hx hb dX5_next_15 (by decide) ?_
  refine lv_icmp_gt (tgt := 84) hx hb dX5_next_16 (by decide) (fun hc => ?_) (fun hc => ?_)
  · have hw := hw.1 hc
    refine lv_iconst (v := (-1)) hx hb dX5_next_84 (by decide) ?_
    exact e_i C hr rfl P hw (by omega) (by omega) dX5_next_85
  · have hw := hw.2 hc
    refine lv_aload_n hx hb dX5_next_19 rfl (lv_at hl 1 rfl) ?_
    refine lv_iload_n hx hb dX5_next_20 rfl (lv_at hl 2 rfl) ?_
    refine lv_iload_n hx hb dX5_next_21 rfl (lv_at hl 3 rfl) ?_
    refine cl_i C P (run_V C P hl.1 (kd := 3) (met_X3_neighbor (CF_n C) G H.size _ _ S u1 y2 y3 p_u1 hw) p_u1 (by decide) rfl q_923 q_924 q_925 q_3 q_926 cd_X3_neighbor ⟨(Nat.le_of_ble_eq_true rfl), (Nat.le_of_ble_eq_true rfl)⟩ rfl rfl (As := [.int y2, .int y3]) (rest := []) rfl rfl (Nat.le_of_ble_eq_true rfl) dX5_next_22 ⟨by show cells + 0 ≤ 0; omega, by show slots + 0 ≤ 0; omega⟩) (kx_out C hex (fun _ _ _ h => h) (by omega) (by omega)) (fun r2 S1 H locs P hE hw => ?_)
    have p_a0 : pI S1 5 a0 := pI_x hE p_a0
    have p_u1 : pI S1 3 u1 := pI_x hE p_u1
    refine lv_istore (lv' := [(4, .int r2), (0, .ref a0), (1, .ref u1), (2, .int y2), (3, .int y3)]) hx hb dX5_next_25 hl (by decide) rfl (fun ls hl => ?_)
    refine lv_iload hx hb dX5_next_27 (lv_at hl 0 rfl) ?_
    refine lv_if_lt (tgt := 78) hx hb dX5_next_29 (by decide) (fun hc => ?_) (fun hc => ?_)
    · have hw := hw.1 hc
      refine lv_iinc (v := (y3 + 1)) (lv' := [(3, .int (y3 + 1)), (4, .int r2), (0, .ref a0), (1, .ref u1), (2, .int y2)]) hx hb dX5_next_78 hl (k := 4) rfl (by rfl) (by decide) rfl (fun ls hl => ?_)
      refine lv_goto (tgt := 14) hx hb dX5_next_81 (by decide) ?_
      exact kh14 S1 a0 u1 y2 (y3 + 1) _ _ _ _ _ p_a0 p_u1 P (lv_sub hl [2, 3, 4, 0] rfl) (by omega) (by omega) hw
    · have hw := hw.2 hc
      refine lv_iload hx hb dX5_next_32 (lv_at hl 0 rfl) ?_
      refine lv_aload_n hx hb dX5_next_34 rfl (lv_at hl 1 rfl) ?_
      refine gf_5_3 C P p_a0 q_260 dX5_next_35 ?_
      refine lv_icmp_ge (tgt := 78) hx hb dX5_next_38 (by decide) (fun hc => ?_) (fun hc => ?_)
      · have hw := hw.1 hc
        refine lv_iinc (v := (y3 + 1)) (lv' := [(3, .int (y3 + 1)), (4, .int r2), (0, .ref a0), (1, .ref u1), (2, .int y2)]) hx hb dX5_next_78 hl (k := 4) rfl (by rfl) (by decide) rfl (fun ls hl => ?_)
        refine lv_goto (tgt := 14) hx hb dX5_next_81 (by decide) ?_
        exact kh14 S1 a0 u1 y2 (y3 + 1) _ _ _ _ _ p_a0 p_u1 P (lv_sub hl [2, 3, 4, 0] rfl) (by omega) (by omega) hw
      · have hw := hw.2 hc
        refine lv_aload_n hx hb dX5_next_41 rfl (lv_at hl 1 rfl) ?_
        obtain ⟨a3, e1, hw⟩ := hw
        have p_a3 : pI S1 12 a3 := wf_r P.2.2.2.1 p_a0 e1
        refine gf_5_0 C P p_a0 e1 q_257 dX5_next_42 ?_
        refine lv_iload hx hb dX5_next_45 (lv_at hl 0 rfl) ?_
        obtain ⟨h1, hw⟩ := hw
        refine ra_i C P p_a3 h1 dX5_next_47 ?_
        refine lv_if_le (tgt := 78) hx hb dX5_next_48 (by decide) (fun hc => ?_) (fun hc => ?_)
        · have hw := hw.1 hc
          refine lv_iinc (v := (y3 + 1)) (lv' := [(3, .int (y3 + 1)), (4, .int r2), (0, .ref a0), (1, .ref u1), (2, .int y2)]) hx hb dX5_next_78 hl (k := 4) rfl (by rfl) (by decide) rfl (fun ls hl => ?_)
          refine lv_goto (tgt := 14) hx hb dX5_next_81 (by decide) ?_
          exact kh14 S1 a0 u1 y2 (y3 + 1) _ _ _ _ _ p_a0 p_u1 P (lv_sub hl [2, 3, 4, 0] rfl) (by omega) (by omega) hw
        · have hw := hw.2 hc
          refine lv_aload_n hx hb dX5_next_51 rfl (lv_at hl 1 rfl) ?_
          obtain ⟨a4, e1, hw⟩ := hw
          have p_a4 : pI S1 12 a4 := wf_r P.2.2.2.1 p_a0 e1
          refine gf_5_1 C P p_a0 e1 q_258 dX5_next_52 ?_
          refine lv_iload hx hb dX5_next_55 (lv_at hl 0 rfl) ?_
          obtain ⟨h1, hw⟩ := hw
          refine ra_i C P p_a4 h1 dX5_next_57 ?_
          refine lv_aload_n hx hb dX5_next_58 rfl (lv_at hl 1 rfl) ?_
          obtain ⟨a5, e1, hw⟩ := hw
          have p_a5 : pI S1 12 a5 := wf_r P.2.2.2.1 p_a0 e1
          refine gf_5_0 C P p_a0 e1 q_257 dX5_next_59 ?_
          refine lv_iload hx hb dX5_next_62 (lv_at hl 0 rfl) ?_
          obtain ⟨h1, hw⟩ := hw
          refine ra_i C P p_a5 h1 dX5_next_64 ?_
          refine lv_iadd hx hb dX5_next_65 ?_
          refine lv_aload_n hx hb dX5_next_66 rfl (lv_at hl 1 rfl) ?_
          obtain ⟨a6, e1, hw⟩ := hw
          have p_a6 : pI S1 12 a6 := wf_r P.2.2.2.1 p_a0 e1
          refine gf_5_1 C P p_a0 e1 q_258 dX5_next_67 ?_
          refine lv_iload_n hx hb dX5_next_70 rfl (lv_at hl 3 rfl) ?_
          obtain ⟨h1, hw⟩ := hw
          refine ra_i C P p_a6 h1 dX5_next_71 ?_
          refine lv_icmp_ne (tgt := 78) hx hb dX5_next_72 (by decide) (fun hc => ?_) (fun hc => ?_)
          · have hw := hw.1 hc
            refine lv_iinc (v := (y3 + 1)) (lv' := [(3, .int (y3 + 1)), (4, .int r2), (0, .ref a0), (1, .ref u1), (2, .int y2)]) hx hb dX5_next_78 hl (k := 4) rfl (by rfl) (by decide) rfl (fun ls hl => ?_)
            refine lv_goto (tgt := 14) hx hb dX5_next_81 (by decide) ?_
            exact kh14 S1 a0 u1 y2 (y3 + 1) _ _ _ _ _ p_a0 p_u1 P (lv_sub hl [2, 3, 4, 0] rfl) (by omega) (by omega) hw
          · have hw := hw.2 hc
            refine lv_iload hx hb dX5_next_75 (lv_at hl 0 rfl) ?_
            exact e_i C hr rfl P hw (by omega) (by omega) dX5_next_77
def lX5_next_14 (Q : Int32 → MS → Prop) (QX : String → MS → Prop) : Nat → MS → Nat → Nat → Int32 → Int32 → Prop
  | 0 => fun _ _ _ _ _ => False
  | n + 1 => fun S a0 u1 y2 y3 => wX5_next_14 Q QX (lX5_next_14 Q QX n) S a0 u1 y2 y3
theorem tlX5_next_14 {p : Program} {l : Launch} {e : Env} {s : State} {m : MethodId} {args : Array Value} {below : List Frame} {meth : Method} {c : Code} {G : GP} {A : Nat → Prop} {S0 : MS} (C : CF p l s m args meth c "SkirmishGrid$Paths" cX5_next 5 G A) (hr : meth.sig.returnType = (some .int)) (hex : ∀ x ∈ c.exceptionTable.toList, False) (Q : Int32 → MS → Prop) (QX : String → MS → Prop) : ∀ (n : Nat), ∀ (S : MS) (a0 : Nat) (u1 : Nat) (y2 : Int32) (y3 : Int32) (cells slots : Nat) (H : Heap) (locs : List Loc) (ls : Array Slot), pI S 5 a0 → pI S 3 u1 → PW G A s H locs S0 S → lv_has ls 5 [(0, .ref a0), (1, .ref u1), (2, .int y2), (3, .int y3)] → cells + 0 ≤ 0 → slots + 0 ≤ 0 → lX5_next_14 Q QX n S a0 u1 y2 y3 → W p l e rmX5_next s m args below meth c H locs cells slots (vx_MQ below (QI G S0 A Q) (XX G S0 A QX) args s 0 0 A) (F0 m 14 ls []) := by
  intro n
  induction n with
  | zero => intro S a0 u1 y2 y3 cells slots H locs ls p_a0 p_u1 P hl hcc hss hw; exact hw.elim
  | succ n ih => intro S a0 u1 y2 y3 cells slots H locs ls p_a0 p_u1 P hl hcc hss hw; exact tX5_next_14 C hr hex Q QX (lX5_next_14 Q QX n) ih S a0 u1 y2 y3 p_a0 p_u1 P hl hcc hss hw
def wX5_next_0 (Q : Int32 → MS → Prop) (QX : String → MS → Prop) (S : MS) (a0 : Nat) (b1 : Nat) (x2 : Int32) : Prop := wp_X5_costsFrom (fun r2 S1 => ((r2 < 1000000 → (∃ n, lX5_next_14 Q QX n S1 a0 b1 x2 0)) ∧ (¬ r2 < 1000000 → Q (-1) S1))) QX S a0 x2
set_option maxHeartbeats 4000000 in
set_option maxRecDepth 100000 in
theorem tX5_next_0 {p : Program} {l : Launch} {e : Env} {s : State} {m : MethodId} {args : Array Value} {below : List Frame} {meth : Method} {c : Code} {H : Heap} {locs : List Loc} {cells slots : Nat} {G : GP} {A : Nat → Prop} {S0 : MS} {ls : Array Slot} (C : CF p l s m args meth c "SkirmishGrid$Paths" cX5_next 5 G A) (hr : meth.sig.returnType = (some .int)) (hex : ∀ x ∈ c.exceptionTable.toList, False) (Q : Int32 → MS → Prop) (QX : String → MS → Prop) (S : MS) (a0 : Nat) (b1 : Nat) (x2 : Int32) (p_a0 : pI S 5 a0) (p_b1 : pI S 3 b1) (P : PW G A s H locs S0 S) (hl : lv_has ls 5 [(0, .ref a0), (1, .ref b1), (2, .int x2)]) (hcc : cells + 0 ≤ 0) (hss : slots + 0 ≤ 0) (hw : wX5_next_0 Q QX S a0 b1 x2) : W p l e rmX5_next s m args below meth c H locs cells slots (vx_MQ below (QI G S0 A Q) (XX G S0 A QX) args s 0 0 A) (F0 m 0 ls []) := by
  have hx := CF_x C
  have hb := CF_b C
  unfold wX5_next_0 at hw
  refine lv_aload_n hx hb dX5_next_0 rfl (lv_at hl 0 rfl) ?_
  refine lv_iload_n hx hb dX5_next_1 rfl (lv_at hl 2 rfl) ?_
  refine cl_i C P (run_V C P hl.1 (kd := 5) (met_X5_costsFrom (CF_n C) G H.size _ _ S a0 x2 p_a0 hw) p_a0 (by decide) rfl q_948 q_932 q_933 q_8 q_934 cd_X5_costsFrom ⟨(Nat.le_of_ble_eq_true rfl), (Nat.le_of_ble_eq_true rfl)⟩ rfl rfl (As := [.int x2]) (rest := []) rfl rfl (Nat.le_of_ble_eq_true rfl) dX5_next_2 ⟨by show cells + 0 ≤ 0; omega, by show slots + 0 ≤ 0; omega⟩) (kx_out C hex (fun _ _ _ h => h) (by omega) (by omega)) (fun r2 S1 H locs P hE hw => ?_)
  have p_a0 : pI S1 5 a0 := pI_x hE p_a0
  have p_b1 : pI S1 3 b1 := pI_x hE p_b1
  refine lv_ldc (v := 1000000) hx hb (CF_o C) (CF_t C _ q_916) dX5_next_5 ?_
  refine lv_icmp_lt (tgt := 12) hx hb dX5_next_7 (by decide) (fun hc => ?_) (fun hc => ?_)
  · have hw := hw.1 hc
    refine lv_iconst (v := 0) hx hb dX5_next_12 (by decide) ?_
    refine lv_istore_n (lv' := [(3, .int 0), (0, .ref a0), (1, .ref b1), (2, .int x2)]) hx hb dX5_next_13 rfl hl (by decide) rfl (fun ls hl => ?_)
    obtain ⟨n, hw⟩ := hw
    exact tlX5_next_14 C hr hex Q QX n S1 a0 b1 x2 0 _ _ _ _ _ p_a0 p_b1 P (lv_sub hl [1, 2, 3, 0] rfl) (by omega) (by omega) hw
  · have hw := hw.2 hc
    refine lv_iconst (v := (-1)) hx hb dX5_next_10 (by decide) ?_
    exact e_i C hr rfl P hw (by omega) (by omega) dX5_next_11
def wp_X5_next (Q : Int32 → MS → Prop) (QX : String → MS → Prop) (S : MS) (a0 : Nat) (b1 : Nat) (x2 : Int32) : Prop := wX5_next_0 Q QX S a0 b1 x2
set_option maxHeartbeats 4000000 in
set_option maxRecDepth 100000 in
theorem met_X5_next {l : Launch} (hst : l.stackTraces = false) (G : GP) (sz : Nat) (Q : Int32 → MS → Prop) (QX : String → MS → Prop) (S : MS) (a0 : Nat) (b1 : Nat) (x2 : Int32) (p_a0 : pI S 5 a0) (p_b1 : pI S 3 b1) (hw : wp_X5_next Q QX S a0 b1 x2) : vx_Met l yX5_next (.code yX5_next cX5_next 5 (some .int) :: GW) rmX5_next (va_Pc [.ref a0, .ref b1, .int x2] (PR G S sz)) (QI G S (FA G S sz) Q) (XX G S (FA G S sz) QX) 0 0 (FA G S sz) := by
  refine st_m (by decide +kernel) hst (fun p e s m below meth c C hr hnm hex P => ?_)
  refine en_m (Nat.le_of_ble_eq_true rfl) (lv := [(0, .ref a0), (1, .ref b1), (2, .int x2)]) rfl (fun ls hl => ?_)
  have C : CF p l s m _ meth c "SkirmishGrid$Paths" cX5_next 5 G (FA G S sz) := C
  exact tX5_next_0 C hr hex Q QX S a0 b1 x2 p_a0 p_b1 P hl (by omega) (by omega) hw
theorem cd_X5_next : yX5_next.cls = RX5 ∧ yX5_next.cls ≠ "java/lang/invoke/MethodHandle" ∧ yX5_next.cls ≠ "java/lang/invoke/VarHandle" ∧ (parseMethodDescriptor yX5_next.desc).map (fun d => d.parameters.length) = some 2 := by decide +kernel
