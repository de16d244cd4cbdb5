theorem q_54 : Cond.fieldLink "SkirmishGrid$Grid" 19 "SkirmishGrid$Grid" "columns" "I" ∈ GW := gw_t 54 (by decide +kernel) (by decide +kernel)
theorem q_750 : Cond.methodLink "SkirmishGrid$Grid" 36 yX3_rowOf ∈ GW := gw_t 750 (by decide +kernel) (by decide +kernel)
theorem q_751 : Cond.instanceMethod yX3_rowOf ∈ GW := gw_t 751 (by decide +kernel) (by decide +kernel)
theorem q_752 : Cond.selects "SkirmishGrid$Grid" yX3_rowOf yX3_rowOf ∈ GW := gw_t 752 (by decide +kernel) (by decide +kernel)
theorem q_3 : Cond.initialized "SkirmishGrid$Grid" ∈ GW := gw_t 3 (by decide +kernel) (by decide +kernel)
theorem q_753 : Cond.code yX3_rowOf cX3_rowOf 2 (some .int) ∈ GW := gw_t 753 (by decide +kernel) (by decide +kernel)
theorem q_758 : Cond.methodLink "SkirmishGrid$Grid" 39 Lib.Math.abs.name ∈ GW := gw_t 758 (by decide +kernel) (by decide +kernel)
theorem q_759 : Cond.static Lib.Math.abs.name ∈ GW := gw_t 759 (by decide +kernel) (by decide +kernel)
theorem q_760 : Cond.code Lib.Math.abs.name Lib.Math.abs.code 1 (some .int) ∈ GW := gw_t 760 (by decide +kernel) (by decide +kernel)
theorem q_754 : Cond.methodLink "SkirmishGrid$Grid" 44 yX3_columnOf ∈ GW := gw_t 754 (by decide +kernel) (by decide +kernel)
theorem q_755 : Cond.instanceMethod yX3_columnOf ∈ GW := gw_t 755 (by decide +kernel) (by decide +kernel)
theorem q_756 : Cond.selects "SkirmishGrid$Grid" yX3_columnOf yX3_columnOf ∈ GW := gw_t 756 (by decide +kernel) (by decide +kernel)
theorem q_757 : Cond.code yX3_columnOf cX3_columnOf 2 (some .int) ∈ GW := gw_t 757 (by decide +kernel) (by decide +kernel)
theorem q_969 : Cond.methodLink "SkirmishGrid$Grid" 47 Lib.Math.max.name ∈ GW := gw_t 969 (by decide +kernel) (by decide +kernel)
theorem q_51 : Cond.fieldLink "SkirmishGrid$Grid" 15 "SkirmishGrid$Grid" "rows" "I" ∈ GW := gw_t 51 (by decide +kernel) (by decide +kernel)
theorem q_50 : Cond.fieldLink "SkirmishGrid$Grid" 9 "SkirmishGrid$Grid" "cells" "[I" ∈ GW := gw_t 50 (by decide +kernel) (by decide +kernel)
theorem q_772 : Cond.methodLink "SkirmishGrid$Grid" 51 yX3_ground ∈ GW := gw_t 772 (by decide +kernel) (by decide +kernel)
theorem q_702 : Cond.instanceMethod yX3_ground ∈ GW := gw_t 702 (by decide +kernel) (by decide +kernel)
theorem q_703 : Cond.selects "SkirmishGrid$Grid" yX3_ground yX3_ground ∈ GW := gw_t 703 (by decide +kernel) (by decide +kernel)
theorem q_704 : Cond.code yX3_ground cX3_ground 2 (some .int) ∈ GW := gw_t 704 (by decide +kernel) (by decide +kernel)
theorem q_746 : Cond.methodLink "SkirmishGrid$Grid" 57 yX3_isInWay ∈ GW := gw_t 746 (by decide +kernel) (by decide +kernel)
theorem q_748 : Cond.instanceMethod yX3_isInWay ∈ GW := gw_t 748 (by decide +kernel) (by decide +kernel)
theorem q_p2 : Cond.selects "SkirmishGrid$Grid" yX3_isInWay yX3_isInWay ∈ GW := gw_p 2 (by decide +kernel) (by decide +kernel)
theorem q_749 : Cond.code yX3_isInWay cX3_isInWay 11 (some .boolean) ∈ GW := gw_t 749 (by decide +kernel) (by decide +kernel)
theorem q_745 : Cond.methodLink "SkirmishGrid$Grid" 54 Lib.Math.min.name ∈ GW := gw_t 745 (by decide +kernel) (by decide +kernel)
theorem q_49 : Cond.methodLink "SkirmishGrid$Grid" 3 objectInit ∈ GW := gw_t 49 (by decide +kernel) (by decide +kernel)
theorem q_36 : Cond.instanceMethod objectInit ∈ GW := gw_t 36 (by decide +kernel) (by decide +kernel)
theorem q_37 : Cond.code objectInit ⟨#[0xb1]⟩ 1 none ∈ GW := gw_t 37 (by decide +kernel) (by decide +kernel)
theorem q_65 : Cond.arrayClass .int ∈ GW := gw_t 65 (by decide +kernel) (by decide +kernel)
theorem q_383 : Cond.methodLink "SkirmishGrid$Grid" 22 arraycopyName ∈ GW := gw_t 383 (by decide +kernel) (by decide +kernel)
theorem q_385 : Cond.native arraycopyName ∈ GW := gw_t 385 (by decide +kernel) (by decide +kernel)
theorem q_384 : Cond.static arraycopyName ∈ GW := gw_t 384 (by decide +kernel) (by decide +kernel)
theorem q_26 : Cond.initialized "java/lang/System" ∈ GW := gw_t 26 (by decide +kernel) (by decide +kernel)
theorem q_628 : Cond.methodLink "SkirmishGrid$Grid" 30 yJ0_indexOf_0f7a4 ∈ GW := gw_t 628 (by decide +kernel) (by decide +kernel)
theorem q_511 : Cond.instanceMethod yJ0_indexOf_0f7a4 ∈ GW := gw_t 511 (by decide +kernel) (by decide +kernel)
theorem q_512 : Cond.selects "java/lang/String" yJ0_indexOf_0f7a4 yJ0_indexOf_0f7a4 ∈ GW := gw_t 512 (by decide +kernel) (by decide +kernel)
theorem q_513 : Cond.code yJ0_indexOf_0f7a4 cJ0_indexOf_0f7a4 2 (some .int) ∈ GW := gw_t 513 (by decide +kernel) (by decide +kernel)
theorem dX3_rowOf_0 : decode cX3_rowOf 0 = .ok (.aload_n 0, 1) := by decide +kernel
theorem dX3_rowOf_1 : decode cX3_rowOf 1 = .ok (.getfield 19, 3) := by decide +kernel
theorem dX3_rowOf_4 : decode cX3_rowOf 4 = .ok (.iconst 1, 1) := by decide +kernel
theorem dX3_rowOf_5 : decode cX3_rowOf 5 = .ok (.if_icmp .ge 7, 3) := by decide +kernel
theorem dX3_rowOf_8 : decode cX3_rowOf 8 = .ok (.iconst 0, 1) := by decide +kernel
theorem dX3_rowOf_9 : decode cX3_rowOf 9 = .ok (.goto 9, 3) := by decide +kernel
theorem dX3_rowOf_12 : decode cX3_rowOf 12 = .ok (.iload_n 1, 1) := by decide +kernel
theorem dX3_rowOf_13 : decode cX3_rowOf 13 = .ok (.aload_n 0, 1) := by decide +kernel
theorem dX3_rowOf_14 : decode cX3_rowOf 14 = .ok (.getfield 19, 3) := by decide +kernel
theorem dX3_rowOf_17 : decode cX3_rowOf 17 = .ok (.idiv, 1) := by decide +kernel
theorem dX3_rowOf_18 : decode cX3_rowOf 18 = .ok (.ireturn, 1) := by decide +kernel
theorem dX3_columnOf_0 : decode cX3_columnOf 0 = .ok (.aload_n 0, 1) := by decide +kernel
theorem dX3_columnOf_1 : decode cX3_columnOf 1 = .ok (.getfield 19, 3) := by decide +kernel
theorem dX3_columnOf_4 : decode cX3_columnOf 4 = .ok (.iconst 1, 1) := by decide +kernel
theorem dX3_columnOf_5 : decode cX3_columnOf 5 = .ok (.if_icmp .ge 7, 3) := by decide +kernel
theorem dX3_columnOf_8 : decode cX3_columnOf 8 = .ok (.iconst 0, 1) := by decide +kernel
theorem dX3_columnOf_9 : decode cX3_columnOf 9 = .ok (.goto 9, 3) := by decide +kernel
theorem dX3_columnOf_12 : decode cX3_columnOf 12 = .ok (.iload_n 1, 1) := by decide +kernel
theorem dX3_columnOf_13 : decode cX3_columnOf 13 = .ok (.aload_n 0, 1) := by decide +kernel
theorem dX3_columnOf_14 : decode cX3_columnOf 14 = .ok (.getfield 19, 3) := by decide +kernel
theorem dX3_columnOf_17 : decode cX3_columnOf 17 = .ok (.irem, 1) := by decide +kernel
theorem dX3_columnOf_18 : decode cX3_columnOf 18 = .ok (.ireturn, 1) := by decide +kernel
theorem dX3_distance_0 : decode cX3_distance 0 = .ok (.aload_n 0, 1) := by decide +kernel
theorem dX3_distance_1 : decode cX3_distance 1 = .ok (.iload_n 2, 1) := by decide +kernel
theorem dX3_distance_2 : decode cX3_distance 2 = .ok (.invokevirtual 36, 3) := by decide +kernel
theorem dX3_distance_5 : decode cX3_distance 5 = .ok (.aload_n 0, 1) := by decide +kernel
theorem dX3_distance_6 : decode cX3_distance 6 = .ok (.iload_n 1, 1) := by decide +kernel
theorem dX3_distance_7 : decode cX3_distance 7 = .ok (.invokevirtual 36, 3) := by decide +kernel
theorem dX3_distance_10 : decode cX3_distance 10 = .ok (.isub, 1) := by decide +kernel
theorem dX3_distance_11 : decode cX3_distance 11 = .ok (.invokestatic 39, 3) := by decide +kernel
theorem dX3_distance_14 : decode cX3_distance 14 = .ok (.istore_n 3, 1) := by decide +kernel
theorem dX3_distance_15 : decode cX3_distance 15 = .ok (.aload_n 0, 1) := by decide +kernel
theorem dX3_distance_16 : decode cX3_distance 16 = .ok (.iload_n 2, 1) := by decide +kernel
theorem dX3_distance_17 : decode cX3_distance 17 = .ok (.invokevirtual 44, 3) := by decide +kernel
theorem dX3_distance_20 : decode cX3_distance 20 = .ok (.aload_n 0, 1) := by decide +kernel
theorem dX3_distance_21 : decode cX3_distance 21 = .ok (.iload_n 1, 1) := by decide +kernel
theorem dX3_distance_22 : decode cX3_distance 22 = .ok (.invokevirtual 44, 3) := by decide +kernel
theorem dX3_distance_25 : decode cX3_distance 25 = .ok (.isub, 1) := by decide +kernel
theorem dX3_distance_26 : decode cX3_distance 26 = .ok (.invokestatic 39, 3) := by decide +kernel
theorem dX3_distance_29 : decode cX3_distance 29 = .ok (.istore 4, 2) := by decide +kernel
theorem dX3_distance_31 : decode cX3_distance 31 = .ok (.iload_n 3, 1) := by decide +kernel
theorem dX3_distance_32 : decode cX3_distance 32 = .ok (.iload 4, 2) := by decide +kernel
theorem dX3_distance_34 : decode cX3_distance 34 = .ok (.invokestatic 47, 3) := by decide +kernel
theorem dX3_distance_37 : decode cX3_distance 37 = .ok (.ireturn, 1) := by decide +kernel
theorem dX3_hasCell_0 : decode cX3_hasCell 0 = .ok (.iload_n 1, 1) := by decide +kernel
theorem dX3_hasCell_1 : decode cX3_hasCell 1 = .ok (.ifCond .lt 20, 3) := by decide +kernel
theorem dX3_hasCell_4 : decode cX3_hasCell 4 = .ok (.iload_n 1, 1) := by decide +kernel
theorem dX3_hasCell_5 : decode cX3_hasCell 5 = .ok (.aload_n 0, 1) := by decide +kernel
theorem dX3_hasCell_6 : decode cX3_hasCell 6 = .ok (.getfield 15, 3) := by decide +kernel
theorem dX3_hasCell_9 : decode cX3_hasCell 9 = .ok (.aload_n 0, 1) := by decide +kernel
theorem dX3_hasCell_10 : decode cX3_hasCell 10 = .ok (.getfield 19, 3) := by decide +kernel
theorem dX3_hasCell_13 : decode cX3_hasCell 13 = .ok (.imul, 1) := by decide +kernel
theorem dX3_hasCell_14 : decode cX3_hasCell 14 = .ok (.if_icmp .ge 7, 3) := by decide +kernel
theorem dX3_hasCell_17 : decode cX3_hasCell 17 = .ok (.iconst 1, 1) := by decide +kernel
theorem dX3_hasCell_18 : decode cX3_hasCell 18 = .ok (.goto 4, 3) := by decide +kernel
theorem dX3_hasCell_21 : decode cX3_hasCell 21 = .ok (.iconst 0, 1) := by decide +kernel
theorem dX3_hasCell_22 : decode cX3_hasCell 22 = .ok (.ireturn, 1) := by decide +kernel
theorem dX3_ground_0 : decode cX3_ground 0 = .ok (.iload_n 1, 1) := by decide +kernel
theorem dX3_ground_1 : decode cX3_ground 1 = .ok (.ifCond .lt 21, 3) := by decide +kernel
theorem dX3_ground_4 : decode cX3_ground 4 = .ok (.iload_n 1, 1) := by decide +kernel
theorem dX3_ground_5 : decode cX3_ground 5 = .ok (.aload_n 0, 1) := by decide +kernel
theorem dX3_ground_6 : decode cX3_ground 6 = .ok (.getfield 9, 3) := by decide +kernel
theorem dX3_ground_9 : decode cX3_ground 9 = .ok (.arraylength, 1) := by decide +kernel
theorem dX3_ground_10 : decode cX3_ground 10 = .ok (.if_icmp .ge 12, 3) := by decide +kernel
theorem dX3_ground_13 : decode cX3_ground 13 = .ok (.aload_n 0, 1) := by decide +kernel
theorem dX3_ground_14 : decode cX3_ground 14 = .ok (.getfield 9, 3) := by decide +kernel
theorem dX3_ground_17 : decode cX3_ground 17 = .ok (.iload_n 1, 1) := by decide +kernel
theorem dX3_ground_18 : decode cX3_ground 18 = .ok (.iaload, 1) := by decide +kernel
theorem dX3_ground_19 : decode cX3_ground 19 = .ok (.goto 4, 3) := by decide +kernel
theorem dX3_ground_22 : decode cX3_ground 22 = .ok (.iconst 1, 1) := by decide +kernel
theorem dX3_ground_23 : decode cX3_ground 23 = .ok (.ireturn, 1) := by decide +kernel
theorem dX3_neighbor_0 : decode cX3_neighbor 0 = .ok (.aload_n 0, 1) := by decide +kernel
theorem dX3_neighbor_1 : decode cX3_neighbor 1 = .ok (.iload_n 1, 1) := by decide +kernel
theorem dX3_neighbor_2 : decode cX3_neighbor 2 = .ok (.invokevirtual 36, 3) := by decide +kernel
theorem dX3_neighbor_5 : decode cX3_neighbor 5 = .ok (.istore_n 3, 1) := by decide +kernel
theorem dX3_neighbor_6 : decode cX3_neighbor 6 = .ok (.aload_n 0, 1) := by decide +kernel
theorem dX3_neighbor_7 : decode cX3_neighbor 7 = .ok (.iload_n 1, 1) := by decide +kernel
theorem dX3_neighbor_8 : decode cX3_neighbor 8 = .ok (.invokevirtual 44, 3) := by decide +kernel
theorem dX3_neighbor_11 : decode cX3_neighbor 11 = .ok (.istore 4, 2) := by decide +kernel
theorem dX3_neighbor_13 : decode cX3_neighbor 13 = .ok (.iload_n 2, 1) := by decide +kernel
theorem dX3_neighbor_14 : decode cX3_neighbor 14 = .ok (.tableswitch 98 0 3 #[30, 45, 64, 85], 30) := by decide +kernel
theorem dX3_neighbor_44 : decode cX3_neighbor 44 = .ok (.iload_n 3, 1) := by decide +kernel
theorem dX3_neighbor_45 : decode cX3_neighbor 45 = .ok (.ifCond .le 12, 3) := by decide +kernel
theorem dX3_neighbor_48 : decode cX3_neighbor 48 = .ok (.iload_n 1, 1) := by decide +kernel
theorem dX3_neighbor_49 : decode cX3_neighbor 49 = .ok (.aload_n 0, 1) := by decide +kernel
theorem dX3_neighbor_50 : decode cX3_neighbor 50 = .ok (.getfield 19, 3) := by decide +kernel
theorem dX3_neighbor_53 : decode cX3_neighbor 53 = .ok (.isub, 1) := by decide +kernel
theorem dX3_neighbor_54 : decode cX3_neighbor 54 = .ok (.goto 4, 3) := by decide +kernel
theorem dX3_neighbor_57 : decode cX3_neighbor 57 = .ok (.iconst (-1), 1) := by decide +kernel
theorem dX3_neighbor_58 : decode cX3_neighbor 58 = .ok (.ireturn, 1) := by decide +kernel
theorem dX3_neighbor_59 : decode cX3_neighbor 59 = .ok (.iload 4, 2) := by decide +kernel
theorem dX3_neighbor_61 : decode cX3_neighbor 61 = .ok (.iconst 1, 1) := by decide +kernel
theorem dX3_neighbor_62 : decode cX3_neighbor 62 = .ok (.iadd, 1) := by decide +kernel
theorem dX3_neighbor_63 : decode cX3_neighbor 63 = .ok (.aload_n 0, 1) := by decide +kernel
theorem dX3_neighbor_64 : decode cX3_neighbor 64 = .ok (.getfield 19, 3) := by decide +kernel
theorem dX3_neighbor_67 : decode cX3_neighbor 67 = .ok (.if_icmp .ge 9, 3) := by decide +kernel
theorem dX3_neighbor_70 : decode cX3_neighbor 70 = .ok (.iload_n 1, 1) := by decide +kernel
theorem dX3_neighbor_71 : decode cX3_neighbor 71 = .ok (.iconst 1, 1) := by decide +kernel
theorem dX3_neighbor_72 : decode cX3_neighbor 72 = .ok (.iadd, 1) := by decide +kernel
theorem dX3_neighbor_73 : decode cX3_neighbor 73 = .ok (.goto 4, 3) := by decide +kernel
theorem dX3_neighbor_76 : decode cX3_neighbor 76 = .ok (.iconst (-1), 1) := by decide +kernel
theorem dX3_neighbor_77 : decode cX3_neighbor 77 = .ok (.ireturn, 1) := by decide +kernel
theorem dX3_neighbor_78 : decode cX3_neighbor 78 = .ok (.iload_n 3, 1) := by decide +kernel
theorem dX3_neighbor_79 : decode cX3_neighbor 79 = .ok (.iconst 1, 1) := by decide +kernel
theorem dX3_neighbor_80 : decode cX3_neighbor 80 = .ok (.iadd, 1) := by decide +kernel
theorem dX3_neighbor_81 : decode cX3_neighbor 81 = .ok (.aload_n 0, 1) := by decide +kernel
theorem dX3_neighbor_82 : decode cX3_neighbor 82 = .ok (.getfield 15, 3) := by decide +kernel
theorem dX3_neighbor_85 : decode cX3_neighbor 85 = .ok (.if_icmp .ge 12, 3) := by decide +kernel
theorem dX3_neighbor_88 : decode cX3_neighbor 88 = .ok (.iload_n 1, 1) := by decide +kernel
theorem dX3_neighbor_89 : decode cX3_neighbor 89 = .ok (.aload_n 0, 1) := by decide +kernel
theorem dX3_neighbor_90 : decode cX3_neighbor 90 = .ok (.getfield 19, 3) := by decide +kernel
theorem dX3_neighbor_93 : decode cX3_neighbor 93 = .ok (.iadd, 1) := by decide +kernel
theorem dX3_neighbor_94 : decode cX3_neighbor 94 = .ok (.goto 4, 3) := by decide +kernel
theorem dX3_neighbor_97 : decode cX3_neighbor 97 = .ok (.iconst (-1), 1) := by decide +kernel
theorem dX3_neighbor_98 : decode cX3_neighbor 98 = .ok (.ireturn, 1) := by decide +kernel
theorem dX3_neighbor_99 : decode cX3_neighbor 99 = .ok (.iload 4, 2) := by decide +kernel
theorem dX3_neighbor_101 : decode cX3_neighbor 101 = .ok (.ifCond .le 9, 3) := by decide +kernel
theorem dX3_neighbor_104 : decode cX3_neighbor 104 = .ok (.iload_n 1, 1) := by decide +kernel
theorem dX3_neighbor_105 : decode cX3_neighbor 105 = .ok (.iconst 1, 1) := by decide +kernel
theorem dX3_neighbor_106 : decode cX3_neighbor 106 = .ok (.isub, 1) := by decide +kernel
theorem dX3_neighbor_107 : decode cX3_neighbor 107 = .ok (.goto 4, 3) := by decide +kernel
theorem dX3_neighbor_110 : decode cX3_neighbor 110 = .ok (.iconst (-1), 1) := by decide +kernel
theorem dX3_neighbor_111 : decode cX3_neighbor 111 = .ok (.ireturn, 1) := by decide +kernel
theorem dX3_neighbor_112 : decode cX3_neighbor 112 = .ok (.iconst (-1), 1) := by decide +kernel
theorem dX3_neighbor_113 : decode cX3_neighbor 113 = .ok (.ireturn, 1) := by decide +kernel
theorem dX3_coverOf_0 : decode cX3_coverOf 0 = .ok (.aload_n 0, 1) := by decide +kernel
theorem dX3_coverOf_1 : decode cX3_coverOf 1 = .ok (.iload_n 2, 1) := by decide +kernel
theorem dX3_coverOf_2 : decode cX3_coverOf 2 = .ok (.invokevirtual 36, 3) := by decide +kernel
theorem dX3_coverOf_5 : decode cX3_coverOf 5 = .ok (.aload_n 0, 1) := by decide +kernel
theorem dX3_coverOf_6 : decode cX3_coverOf 6 = .ok (.iload_n 1, 1) := by decide +kernel
theorem dX3_coverOf_7 : decode cX3_coverOf 7 = .ok (.invokevirtual 36, 3) := by decide +kernel
theorem dX3_coverOf_10 : decode cX3_coverOf 10 = .ok (.isub, 1) := by decide +kernel
theorem dX3_coverOf_11 : decode cX3_coverOf 11 = .ok (.istore_n 3, 1) := by decide +kernel
theorem dX3_coverOf_12 : decode cX3_coverOf 12 = .ok (.aload_n 0, 1) := by decide +kernel
theorem dX3_coverOf_13 : decode cX3_coverOf 13 = .ok (.iload_n 2, 1) := by decide +kernel
theorem dX3_coverOf_14 : decode cX3_coverOf 14 = .ok (.invokevirtual 44, 3) := by decide +kernel
theorem dX3_coverOf_17 : decode cX3_coverOf 17 = .ok (.aload_n 0, 1) := by decide +kernel
theorem dX3_coverOf_18 : decode cX3_coverOf 18 = .ok (.iload_n 1, 1) := by decide +kernel
theorem dX3_coverOf_19 : decode cX3_coverOf 19 = .ok (.invokevirtual 44, 3) := by decide +kernel
theorem dX3_coverOf_22 : decode cX3_coverOf 22 = .ok (.isub, 1) := by decide +kernel
theorem dX3_coverOf_23 : decode cX3_coverOf 23 = .ok (.istore 4, 2) := by decide +kernel
theorem dX3_coverOf_25 : decode cX3_coverOf 25 = .ok (.iconst 0, 1) := by decide +kernel
theorem dX3_coverOf_26 : decode cX3_coverOf 26 = .ok (.istore 5, 2) := by decide +kernel
theorem dX3_coverOf_28 : decode cX3_coverOf 28 = .ok (.iload_n 3, 1) := by decide +kernel
theorem dX3_coverOf_29 : decode cX3_coverOf 29 = .ok (.ifCond .eq 28, 3) := by decide +kernel
theorem dX3_coverOf_32 : decode cX3_coverOf 32 = .ok (.aload_n 0, 1) := by decide +kernel
theorem dX3_coverOf_33 : decode cX3_coverOf 33 = .ok (.iload_n 3, 1) := by decide +kernel
theorem dX3_coverOf_34 : decode cX3_coverOf 34 = .ok (.ifCond .ge 12, 3) := by decide +kernel
theorem dX3_coverOf_37 : decode cX3_coverOf 37 = .ok (.iload_n 1, 1) := by decide +kernel
theorem dX3_coverOf_38 : decode cX3_coverOf 38 = .ok (.aload_n 0, 1) := by decide +kernel
theorem dX3_coverOf_39 : decode cX3_coverOf 39 = .ok (.getfield 19, 3) := by decide +kernel
theorem dX3_coverOf_42 : decode cX3_coverOf 42 = .ok (.isub, 1) := by decide +kernel
theorem dX3_coverOf_43 : decode cX3_coverOf 43 = .ok (.goto 9, 3) := by decide +kernel
theorem dX3_coverOf_46 : decode cX3_coverOf 46 = .ok (.iload_n 1, 1) := by decide +kernel
theorem dX3_coverOf_47 : decode cX3_coverOf 47 = .ok (.aload_n 0, 1) := by decide +kernel
theorem dX3_coverOf_48 : decode cX3_coverOf 48 = .ok (.getfield 19, 3) := by decide +kernel
theorem dX3_coverOf_51 : decode cX3_coverOf 51 = .ok (.iadd, 1) := by decide +kernel
theorem dX3_coverOf_52 : decode cX3_coverOf 52 = .ok (.invokevirtual 51, 3) := by decide +kernel
theorem dX3_coverOf_55 : decode cX3_coverOf 55 = .ok (.istore 5, 2) := by decide +kernel
theorem dX3_coverOf_57 : decode cX3_coverOf 57 = .ok (.iconst 0, 1) := by decide +kernel
theorem dX3_coverOf_58 : decode cX3_coverOf 58 = .ok (.istore 6, 2) := by decide +kernel
theorem dX3_coverOf_60 : decode cX3_coverOf 60 = .ok (.iload 4, 2) := by decide +kernel
theorem dX3_coverOf_62 : decode cX3_coverOf 62 = .ok (.ifCond .eq 23, 3) := by decide +kernel
theorem dX3_coverOf_65 : decode cX3_coverOf 65 = .ok (.aload_n 0, 1) := by decide +kernel
theorem dX3_coverOf_66 : decode cX3_coverOf 66 = .ok (.iload 4, 2) := by decide +kernel
theorem dX3_coverOf_68 : decode cX3_coverOf 68 = .ok (.ifCond .ge 9, 3) := by decide +kernel
theorem dX3_coverOf_71 : decode cX3_coverOf 71 = .ok (.iload_n 1, 1) := by decide +kernel
theorem dX3_coverOf_72 : decode cX3_coverOf 72 = .ok (.iconst 1, 1) := by decide +kernel
theorem dX3_coverOf_73 : decode cX3_coverOf 73 = .ok (.isub, 1) := by decide +kernel
theorem dX3_coverOf_74 : decode cX3_coverOf 74 = .ok (.goto 6, 3) := by decide +kernel
theorem dX3_coverOf_77 : decode cX3_coverOf 77 = .ok (.iload_n 1, 1) := by decide +kernel
theorem dX3_coverOf_78 : decode cX3_coverOf 78 = .ok (.iconst 1, 1) := by decide +kernel
theorem dX3_coverOf_79 : decode cX3_coverOf 79 = .ok (.iadd, 1) := by decide +kernel
theorem dX3_coverOf_80 : decode cX3_coverOf 80 = .ok (.invokevirtual 51, 3) := by decide +kernel
theorem dX3_coverOf_83 : decode cX3_coverOf 83 = .ok (.istore 6, 2) := by decide +kernel
theorem dX3_coverOf_85 : decode cX3_coverOf 85 = .ok (.iload 5, 2) := by decide +kernel
theorem dX3_coverOf_87 : decode cX3_coverOf 87 = .ok (.iconst 1, 1) := by decide +kernel
theorem dX3_coverOf_88 : decode cX3_coverOf 88 = .ok (.if_icmp .eq 9, 3) := by decide +kernel
theorem dX3_coverOf_91 : decode cX3_coverOf 91 = .ok (.iload 6, 2) := by decide +kernel
theorem dX3_coverOf_93 : decode cX3_coverOf 93 = .ok (.iconst 1, 1) := by decide +kernel
theorem dX3_coverOf_94 : decode cX3_coverOf 94 = .ok (.if_icmp .ne 5, 3) := by decide +kernel
theorem dX3_coverOf_97 : decode cX3_coverOf 97 = .ok (.iconst 2, 1) := by decide +kernel
theorem dX3_coverOf_98 : decode cX3_coverOf 98 = .ok (.ireturn, 1) := by decide +kernel
theorem dX3_coverOf_99 : decode cX3_coverOf 99 = .ok (.iload 5, 2) := by decide +kernel
theorem dX3_coverOf_101 : decode cX3_coverOf 101 = .ok (.iconst 2, 1) := by decide +kernel
theorem dX3_coverOf_102 : decode cX3_coverOf 102 = .ok (.if_icmp .eq 9, 3) := by decide +kernel
theorem dX3_coverOf_105 : decode cX3_coverOf 105 = .ok (.iload 6, 2) := by decide +kernel
theorem dX3_coverOf_107 : decode cX3_coverOf 107 = .ok (.iconst 2, 1) := by decide +kernel
theorem dX3_coverOf_108 : decode cX3_coverOf 108 = .ok (.if_icmp .ne 7, 3) := by decide +kernel
theorem dX3_coverOf_111 : decode cX3_coverOf 111 = .ok (.iconst 1, 1) := by decide +kernel
theorem dX3_coverOf_112 : decode cX3_coverOf 112 = .ok (.goto 4, 3) := by decide +kernel
theorem dX3_coverOf_115 : decode cX3_coverOf 115 = .ok (.iconst 0, 1) := by decide +kernel
theorem dX3_coverOf_116 : decode cX3_coverOf 116 = .ok (.ireturn, 1) := by decide +kernel
theorem dX3_isInWay_0 : decode cX3_isInWay 0 = .ok (.iconst 2, 1) := by decide +kernel
theorem dX3_isInWay_1 : decode cX3_isInWay 1 = .ok (.aload_n 0, 1) := by decide +kernel
theorem dX3_isInWay_2 : decode cX3_isInWay 2 = .ok (.iload_n 2, 1) := by decide +kernel
theorem dX3_isInWay_3 : decode cX3_isInWay 3 = .ok (.invokevirtual 36, 3) := by decide +kernel
theorem dX3_isInWay_6 : decode cX3_isInWay 6 = .ok (.aload_n 0, 1) := by decide +kernel
theorem dX3_isInWay_7 : decode cX3_isInWay 7 = .ok (.iload_n 1, 1) := by decide +kernel
theorem dX3_isInWay_8 : decode cX3_isInWay 8 = .ok (.invokevirtual 36, 3) := by decide +kernel
theorem dX3_isInWay_11 : decode cX3_isInWay 11 = .ok (.isub, 1) := by decide +kernel
theorem dX3_isInWay_12 : decode cX3_isInWay 12 = .ok (.imul, 1) := by decide +kernel
theorem dX3_isInWay_13 : decode cX3_isInWay 13 = .ok (.istore 4, 2) := by decide +kernel
theorem dX3_isInWay_15 : decode cX3_isInWay 15 = .ok (.iconst 2, 1) := by decide +kernel
theorem dX3_isInWay_16 : decode cX3_isInWay 16 = .ok (.aload_n 0, 1) := by decide +kernel
theorem dX3_isInWay_17 : decode cX3_isInWay 17 = .ok (.iload_n 2, 1) := by decide +kernel
theorem dX3_isInWay_18 : decode cX3_isInWay 18 = .ok (.invokevirtual 44, 3) := by decide +kernel
theorem dX3_isInWay_21 : decode cX3_isInWay 21 = .ok (.aload_n 0, 1) := by decide +kernel
theorem dX3_isInWay_22 : decode cX3_isInWay 22 = .ok (.iload_n 1, 1) := by decide +kernel
theorem dX3_isInWay_23 : decode cX3_isInWay 23 = .ok (.invokevirtual 44, 3) := by decide +kernel
theorem dX3_isInWay_26 : decode cX3_isInWay 26 = .ok (.isub, 1) := by decide +kernel
theorem dX3_isInWay_27 : decode cX3_isInWay 27 = .ok (.imul, 1) := by decide +kernel
theorem dX3_isInWay_28 : decode cX3_isInWay 28 = .ok (.istore 5, 2) := by decide +kernel
theorem dX3_isInWay_30 : decode cX3_isInWay 30 = .ok (.iconst 2, 1) := by decide +kernel
theorem dX3_isInWay_31 : decode cX3_isInWay 31 = .ok (.aload_n 0, 1) := by decide +kernel
theorem dX3_isInWay_32 : decode cX3_isInWay 32 = .ok (.iload_n 3, 1) := by decide +kernel
theorem dX3_isInWay_33 : decode cX3_isInWay 33 = .ok (.invokevirtual 36, 3) := by decide +kernel
theorem dX3_isInWay_36 : decode cX3_isInWay 36 = .ok (.aload_n 0, 1) := by decide +kernel
theorem dX3_isInWay_37 : decode cX3_isInWay 37 = .ok (.iload_n 1, 1) := by decide +kernel
theorem dX3_isInWay_38 : decode cX3_isInWay 38 = .ok (.invokevirtual 36, 3) := by decide +kernel
theorem dX3_isInWay_41 : decode cX3_isInWay 41 = .ok (.isub, 1) := by decide +kernel
theorem dX3_isInWay_42 : decode cX3_isInWay 42 = .ok (.imul, 1) := by decide +kernel
theorem dX3_isInWay_43 : decode cX3_isInWay 43 = .ok (.istore 6, 2) := by decide +kernel
theorem dX3_isInWay_45 : decode cX3_isInWay 45 = .ok (.iconst 2, 1) := by decide +kernel
theorem dX3_isInWay_46 : decode cX3_isInWay 46 = .ok (.aload_n 0, 1) := by decide +kernel
theorem dX3_isInWay_47 : decode cX3_isInWay 47 = .ok (.iload_n 3, 1) := by decide +kernel
theorem dX3_isInWay_48 : decode cX3_isInWay 48 = .ok (.invokevirtual 44, 3) := by decide +kernel
theorem dX3_isInWay_51 : decode cX3_isInWay 51 = .ok (.aload_n 0, 1) := by decide +kernel
theorem dX3_isInWay_52 : decode cX3_isInWay 52 = .ok (.iload_n 1, 1) := by decide +kernel
theorem dX3_isInWay_53 : decode cX3_isInWay 53 = .ok (.invokevirtual 44, 3) := by decide +kernel
theorem dX3_isInWay_56 : decode cX3_isInWay 56 = .ok (.isub, 1) := by decide +kernel
theorem dX3_isInWay_57 : decode cX3_isInWay 57 = .ok (.imul, 1) := by decide +kernel
theorem dX3_isInWay_58 : decode cX3_isInWay 58 = .ok (.istore 7, 2) := by decide +kernel
theorem dX3_isInWay_60 : decode cX3_isInWay 60 = .ok (.iload 4, 2) := by decide +kernel
theorem dX3_isInWay_62 : decode cX3_isInWay 62 = .ok (.iconst 1, 1) := by decide +kernel
theorem dX3_isInWay_63 : decode cX3_isInWay 63 = .ok (.if_icmp .lt 9, 3) := by decide +kernel
theorem dX3_isInWay_66 : decode cX3_isInWay 66 = .ok (.iload 6, 2) := by decide +kernel
theorem dX3_isInWay_68 : decode cX3_isInWay 68 = .ok (.iconst 1, 1) := by decide +kernel
theorem dX3_isInWay_69 : decode cX3_isInWay 69 = .ok (.if_icmp .ge 15, 3) := by decide +kernel
theorem dX3_isInWay_72 : decode cX3_isInWay 72 = .ok (.iload 4, 2) := by decide +kernel
theorem dX3_isInWay_74 : decode cX3_isInWay 74 = .ok (.iconst (-1), 1) := by decide +kernel
theorem dX3_isInWay_75 : decode cX3_isInWay 75 = .ok (.if_icmp .gt 11, 3) := by decide +kernel
theorem dX3_isInWay_78 : decode cX3_isInWay 78 = .ok (.iload 6, 2) := by decide +kernel
theorem dX3_isInWay_80 : decode cX3_isInWay 80 = .ok (.iconst (-1), 1) := by decide +kernel
theorem dX3_isInWay_81 : decode cX3_isInWay 81 = .ok (.if_icmp .gt 5, 3) := by decide +kernel
theorem dX3_isInWay_84 : decode cX3_isInWay 84 = .ok (.iconst 0, 1) := by decide +kernel
theorem dX3_isInWay_85 : decode cX3_isInWay 85 = .ok (.ireturn, 1) := by decide +kernel
theorem dX3_isInWay_86 : decode cX3_isInWay 86 = .ok (.iload 5, 2) := by decide +kernel
theorem dX3_isInWay_88 : decode cX3_isInWay 88 = .ok (.iconst 1, 1) := by decide +kernel
theorem dX3_isInWay_89 : decode cX3_isInWay 89 = .ok (.if_icmp .lt 9, 3) := by decide +kernel
theorem dX3_isInWay_92 : decode cX3_isInWay 92 = .ok (.iload 7, 2) := by decide +kernel
theorem dX3_isInWay_94 : decode cX3_isInWay 94 = .ok (.iconst 1, 1) := by decide +kernel
theorem dX3_isInWay_95 : decode cX3_isInWay 95 = .ok (.if_icmp .ge 15, 3) := by decide +kernel
theorem dX3_isInWay_98 : decode cX3_isInWay 98 = .ok (.iload 5, 2) := by decide +kernel
theorem dX3_isInWay_100 : decode cX3_isInWay 100 = .ok (.iconst (-1), 1) := by decide +kernel
theorem dX3_isInWay_101 : decode cX3_isInWay 101 = .ok (.if_icmp .gt 11, 3) := by decide +kernel
theorem dX3_isInWay_104 : decode cX3_isInWay 104 = .ok (.iload 7, 2) := by decide +kernel
theorem dX3_isInWay_106 : decode cX3_isInWay 106 = .ok (.iconst (-1), 1) := by decide +kernel
theorem dX3_isInWay_107 : decode cX3_isInWay 107 = .ok (.if_icmp .gt 5, 3) := by decide +kernel
theorem dX3_isInWay_110 : decode cX3_isInWay 110 = .ok (.iconst 0, 1) := by decide +kernel
theorem dX3_isInWay_111 : decode cX3_isInWay 111 = .ok (.ireturn, 1) := by decide +kernel
theorem dX3_isInWay_112 : decode cX3_isInWay 112 = .ok (.iload 6, 2) := by decide +kernel
theorem dX3_isInWay_114 : decode cX3_isInWay 114 = .ok (.iload 4, 2) := by decide +kernel
theorem dX3_isInWay_116 : decode cX3_isInWay 116 = .ok (.isub, 1) := by decide +kernel
theorem dX3_isInWay_117 : decode cX3_isInWay 117 = .ok (.istore 8, 2) := by decide +kernel
theorem dX3_isInWay_119 : decode cX3_isInWay 119 = .ok (.iload 7, 2) := by decide +kernel
theorem dX3_isInWay_121 : decode cX3_isInWay 121 = .ok (.iload 5, 2) := by decide +kernel
theorem dX3_isInWay_123 : decode cX3_isInWay 123 = .ok (.isub, 1) := by decide +kernel
theorem dX3_isInWay_124 : decode cX3_isInWay 124 = .ok (.istore 9, 2) := by decide +kernel
theorem dX3_isInWay_126 : decode cX3_isInWay 126 = .ok (.iload 8, 2) := by decide +kernel
theorem dX3_isInWay_128 : decode cX3_isInWay 128 = .ok (.iload 5, 2) := by decide +kernel
theorem dX3_isInWay_130 : decode cX3_isInWay 130 = .ok (.imul, 1) := by decide +kernel
theorem dX3_isInWay_131 : decode cX3_isInWay 131 = .ok (.iload 9, 2) := by decide +kernel
theorem dX3_isInWay_133 : decode cX3_isInWay 133 = .ok (.iload 4, 2) := by decide +kernel
theorem dX3_isInWay_135 : decode cX3_isInWay 135 = .ok (.imul, 1) := by decide +kernel
theorem dX3_isInWay_136 : decode cX3_isInWay 136 = .ok (.isub, 1) := by decide +kernel
theorem dX3_isInWay_137 : decode cX3_isInWay 137 = .ok (.istore 10, 2) := by decide +kernel
theorem dX3_isInWay_139 : decode cX3_isInWay 139 = .ok (.iload 10, 2) := by decide +kernel
theorem dX3_isInWay_141 : decode cX3_isInWay 141 = .ok (.invokestatic 39, 3) := by decide +kernel
theorem dX3_isInWay_144 : decode cX3_isInWay 144 = .ok (.iload 8, 2) := by decide +kernel
theorem dX3_isInWay_146 : decode cX3_isInWay 146 = .ok (.invokestatic 39, 3) := by decide +kernel
theorem dX3_isInWay_149 : decode cX3_isInWay 149 = .ok (.iload 9, 2) := by decide +kernel
theorem dX3_isInWay_151 : decode cX3_isInWay 151 = .ok (.invokestatic 39, 3) := by decide +kernel
theorem dX3_isInWay_154 : decode cX3_isInWay 154 = .ok (.iadd, 1) := by decide +kernel
theorem dX3_isInWay_155 : decode cX3_isInWay 155 = .ok (.if_icmp .ge 7, 3) := by decide +kernel
theorem dX3_isInWay_158 : decode cX3_isInWay 158 = .ok (.iconst 1, 1) := by decide +kernel
theorem dX3_isInWay_159 : decode cX3_isInWay 159 = .ok (.goto 4, 3) := by decide +kernel
theorem dX3_isInWay_162 : decode cX3_isInWay 162 = .ok (.iconst 0, 1) := by decide +kernel
theorem dX3_isInWay_163 : decode cX3_isInWay 163 = .ok (.ireturn, 1) := by decide +kernel
theorem dX3_isClear_0 : decode cX3_isClear 0 = .ok (.aload_n 0, 1) := by decide +kernel
theorem dX3_isClear_1 : decode cX3_isClear 1 = .ok (.getfield 15, 3) := by decide +kernel
theorem dX3_isClear_4 : decode cX3_isClear 4 = .ok (.aload_n 0, 1) := by decide +kernel
theorem dX3_isClear_5 : decode cX3_isClear 5 = .ok (.getfield 19, 3) := by decide +kernel
theorem dX3_isClear_8 : decode cX3_isClear 8 = .ok (.imul, 1) := by decide +kernel
theorem dX3_isClear_9 : decode cX3_isClear 9 = .ok (.aload_n 0, 1) := by decide +kernel
theorem dX3_isClear_10 : decode cX3_isClear 10 = .ok (.getfield 9, 3) := by decide +kernel
theorem dX3_isClear_13 : decode cX3_isClear 13 = .ok (.arraylength, 1) := by decide +kernel
theorem dX3_isClear_14 : decode cX3_isClear 14 = .ok (.invokestatic 54, 3) := by decide +kernel
theorem dX3_isClear_17 : decode cX3_isClear 17 = .ok (.istore_n 3, 1) := by decide +kernel
theorem dX3_isClear_18 : decode cX3_isClear 18 = .ok (.iconst 0, 1) := by decide +kernel
theorem dX3_isClear_19 : decode cX3_isClear 19 = .ok (.istore 4, 2) := by decide +kernel
theorem dX3_isClear_21 : decode cX3_isClear 21 = .ok (.iload 4, 2) := by decide +kernel
theorem dX3_isClear_23 : decode cX3_isClear 23 = .ok (.iload_n 3, 1) := by decide +kernel
theorem dX3_isClear_24 : decode cX3_isClear 24 = .ok (.if_icmp .ge 45, 3) := by decide +kernel
theorem dX3_isClear_27 : decode cX3_isClear 27 = .ok (.aload_n 0, 1) := by decide +kernel
theorem dX3_isClear_28 : decode cX3_isClear 28 = .ok (.getfield 9, 3) := by decide +kernel
theorem dX3_isClear_31 : decode cX3_isClear 31 = .ok (.iload 4, 2) := by decide +kernel
theorem dX3_isClear_33 : decode cX3_isClear 33 = .ok (.iaload, 1) := by decide +kernel
theorem dX3_isClear_34 : decode cX3_isClear 34 = .ok (.iconst 1, 1) := by decide +kernel
theorem dX3_isClear_35 : decode cX3_isClear 35 = .ok (.if_icmp .ne 28, 3) := by decide +kernel
theorem dX3_isClear_38 : decode cX3_isClear 38 = .ok (.iload 4, 2) := by decide +kernel
theorem dX3_isClear_40 : decode cX3_isClear 40 = .ok (.iload_n 1, 1) := by decide +kernel
theorem dX3_isClear_41 : decode cX3_isClear 41 = .ok (.if_icmp .eq 22, 3) := by decide +kernel
theorem dX3_isClear_44 : decode cX3_isClear 44 = .ok (.iload 4, 2) := by decide +kernel
theorem dX3_isClear_46 : decode cX3_isClear 46 = .ok (.iload_n 2, 1) := by decide +kernel
theorem dX3_isClear_47 : decode cX3_isClear 47 = .ok (.if_icmp .eq 16, 3) := by decide +kernel
theorem dX3_isClear_50 : decode cX3_isClear 50 = .ok (.aload_n 0, 1) := by decide +kernel
theorem dX3_isClear_51 : decode cX3_isClear 51 = .ok (.iload 4, 2) := by decide +kernel
theorem dX3_isClear_53 : decode cX3_isClear 53 = .ok (.iload_n 1, 1) := by decide +kernel
theorem dX3_isClear_54 : decode cX3_isClear 54 = .ok (.iload_n 2, 1) := by decide +kernel
theorem dX3_isClear_55 : decode cX3_isClear 55 = .ok (.invokevirtual 57, 3) := by decide +kernel
theorem dX3_isClear_58 : decode cX3_isClear 58 = .ok (.ifCond .eq 5, 3) := by decide +kernel
theorem dX3_isClear_61 : decode cX3_isClear 61 = .ok (.iconst 0, 1) := by decide +kernel
theorem dX3_isClear_62 : decode cX3_isClear 62 = .ok (.ireturn, 1) := by decide +kernel
theorem dX3_isClear_63 : decode cX3_isClear 63 = .ok (.iinc 4 1, 3) := by decide +kernel
theorem dX3_isClear_66 : decode cX3_isClear 66 = .ok (.goto (-45), 3) := by decide +kernel
theorem dX3_isClear_69 : decode cX3_isClear 69 = .ok (.iconst 1, 1) := by decide +kernel
theorem dX3_isClear_70 : decode cX3_isClear 70 = .ok (.ireturn, 1) := by decide +kernel
theorem dX3_init_0 : decode cX3_init 0 = .ok (.aload_n 0, 1) := by decide +kernel
theorem dX3_init_1 : decode cX3_init 1 = .ok (.invokespecial 3, 3) := by decide +kernel
theorem dX3_init_4 : decode cX3_init 4 = .ok (.aload_n 0, 1) := by decide +kernel
theorem dX3_init_5 : decode cX3_init 5 = .ok (.bipush 64, 2) := by decide +kernel
theorem dX3_init_7 : decode cX3_init 7 = .ok (.newarray .int, 2) := by decide +kernel
theorem dX3_init_9 : decode cX3_init 9 = .ok (.putfield 9, 3) := by decide +kernel
theorem dX3_init_12 : decode cX3_init 12 = .ok (.aload_n 0, 1) := by decide +kernel
theorem dX3_init_13 : decode cX3_init 13 = .ok (.iconst 5, 1) := by decide +kernel
theorem dX3_init_14 : decode cX3_init 14 = .ok (.putfield 15, 3) := by decide +kernel
theorem dX3_init_17 : decode cX3_init 17 = .ok (.aload_n 0, 1) := by decide +kernel
theorem dX3_init_18 : decode cX3_init 18 = .ok (.iconst 5, 1) := by decide +kernel
theorem dX3_init_19 : decode cX3_init 19 = .ok (.putfield 19, 3) := by decide +kernel
theorem dX3_init_22 : decode cX3_init 22 = .ok (.return_, 1) := by decide +kernel
theorem dX3_copyFrom_0 : decode cX3_copyFrom 0 = .ok (.aload_n 0, 1) := by decide +kernel
theorem dX3_copyFrom_1 : decode cX3_copyFrom 1 = .ok (.aload_n 1, 1) := by decide +kernel
theorem dX3_copyFrom_2 : decode cX3_copyFrom 2 = .ok (.getfield 15, 3) := by decide +kernel
theorem dX3_copyFrom_5 : decode cX3_copyFrom 5 = .ok (.putfield 15, 3) := by decide +kernel
theorem dX3_copyFrom_8 : decode cX3_copyFrom 8 = .ok (.aload_n 0, 1) := by decide +kernel
theorem dX3_copyFrom_9 : decode cX3_copyFrom 9 = .ok (.aload_n 1, 1) := by decide +kernel
theorem dX3_copyFrom_10 : decode cX3_copyFrom 10 = .ok (.getfield 19, 3) := by decide +kernel
theorem dX3_copyFrom_13 : decode cX3_copyFrom 13 = .ok (.putfield 19, 3) := by decide +kernel
theorem dX3_copyFrom_16 : decode cX3_copyFrom 16 = .ok (.aload_n 1, 1) := by decide +kernel
theorem dX3_copyFrom_17 : decode cX3_copyFrom 17 = .ok (.getfield 9, 3) := by decide +kernel
theorem dX3_copyFrom_20 : decode cX3_copyFrom 20 = .ok (.iconst 0, 1) := by decide +kernel
theorem dX3_copyFrom_21 : decode cX3_copyFrom 21 = .ok (.aload_n 0, 1) := by decide +kernel
theorem dX3_copyFrom_22 : decode cX3_copyFrom 22 = .ok (.getfield 9, 3) := by decide +kernel
theorem dX3_copyFrom_25 : decode cX3_copyFrom 25 = .ok (.iconst 0, 1) := by decide +kernel
theorem dX3_copyFrom_26 : decode cX3_copyFrom 26 = .ok (.bipush 64, 2) := by decide +kernel
theorem dX3_copyFrom_28 : decode cX3_copyFrom 28 = .ok (.invokestatic 22, 3) := by decide +kernel
theorem dX3_copyFrom_31 : decode cX3_copyFrom 31 = .ok (.return_, 1) := by decide +kernel
theorem dX3_read_0 : decode cX3_read 0 = .ok (.aload_n 0, 1) := by decide +kernel
theorem dX3_read_1 : decode cX3_read 1 = .ok (.iload_n 3, 1) := by decide +kernel
theorem dX3_read_2 : decode cX3_read 2 = .ok (.putfield 15, 3) := by decide +kernel
theorem dX3_read_5 : decode cX3_read 5 = .ok (.aload_n 0, 1) := by decide +kernel
theorem dX3_read_6 : decode cX3_read 6 = .ok (.iload 4, 2) := by decide +kernel
theorem dX3_read_8 : decode cX3_read 8 = .ok (.putfield 19, 3) := by decide +kernel
theorem dX3_read_11 : decode cX3_read 11 = .ok (.iconst 0, 1) := by decide +kernel
theorem dX3_read_12 : decode cX3_read 12 = .ok (.istore 5, 2) := by decide +kernel
theorem dX3_read_14 : decode cX3_read 14 = .ok (.iconst 0, 1) := by decide +kernel
theorem dX3_read_15 : decode cX3_read 15 = .ok (.istore 6, 2) := by decide +kernel
theorem dX3_read_17 : decode cX3_read 17 = .ok (.iload 6, 2) := by decide +kernel
theorem dX3_read_19 : decode cX3_read 19 = .ok (.iload_n 2, 1) := by decide +kernel
theorem dX3_read_20 : decode cX3_read 20 = .ok (.if_icmp .ge 54, 3) := by decide +kernel
theorem dX3_read_23 : decode cX3_read 23 = .ok (.iload 6, 2) := by decide +kernel
theorem dX3_read_25 : decode cX3_read 25 = .ok (.aload_n 1, 1) := by decide +kernel
theorem dX3_read_26 : decode cX3_read 26 = .ok (.arraylength, 1) := by decide +kernel
theorem dX3_read_27 : decode cX3_read 27 = .ok (.if_icmp .ge 47, 3) := by decide +kernel
theorem dX3_read_30 : decode cX3_read 30 = .ok (.ldc 28, 2) := by decide +kernel
theorem dX3_read_32 : decode cX3_read 32 = .ok (.aload_n 1, 1) := by decide +kernel
theorem dX3_read_33 : decode cX3_read 33 = .ok (.iload 6, 2) := by decide +kernel
theorem dX3_read_35 : decode cX3_read 35 = .ok (.caload, 1) := by decide +kernel
theorem dX3_read_36 : decode cX3_read 36 = .ok (.invokevirtual 30, 3) := by decide +kernel
theorem dX3_read_39 : decode cX3_read 39 = .ok (.istore 7, 2) := by decide +kernel
theorem dX3_read_41 : decode cX3_read 41 = .ok (.iload 7, 2) := by decide +kernel
theorem dX3_read_43 : decode cX3_read 43 = .ok (.ifCond .lt 25, 3) := by decide +kernel
theorem dX3_read_46 : decode cX3_read 46 = .ok (.iload 5, 2) := by decide +kernel
theorem dX3_read_48 : decode cX3_read 48 = .ok (.aload_n 0, 1) := by decide +kernel
theorem dX3_read_49 : decode cX3_read 49 = .ok (.getfield 9, 3) := by decide +kernel
theorem dX3_read_52 : decode cX3_read 52 = .ok (.arraylength, 1) := by decide +kernel
theorem dX3_read_53 : decode cX3_read 53 = .ok (.if_icmp .ge 15, 3) := by decide +kernel
theorem dX3_read_56 : decode cX3_read 56 = .ok (.aload_n 0, 1) := by decide +kernel
theorem dX3_read_57 : decode cX3_read 57 = .ok (.getfield 9, 3) := by decide +kernel
theorem dX3_read_60 : decode cX3_read 60 = .ok (.iload 5, 2) := by decide +kernel
theorem dX3_read_62 : decode cX3_read 62 = .ok (.iload 7, 2) := by decide +kernel
theorem dX3_read_64 : decode cX3_read 64 = .ok (.iastore, 1) := by decide +kernel
theorem dX3_read_65 : decode cX3_read 65 = .ok (.iinc 5 1, 3) := by decide +kernel
theorem dX3_read_68 : decode cX3_read 68 = .ok (.iinc 6 1, 3) := by decide +kernel
theorem dX3_read_71 : decode cX3_read 71 = .ok (.goto (-54), 3) := by decide +kernel
theorem dX3_read_74 : decode cX3_read 74 = .ok (.return_, 1) := by decide +kernel
abbrev rmX3_rowOf : Room := { frames := 0, cells := 0, slots := 0, locals := 0 }
def wX3_rowOf_0 (Q : Int32 → MS → Prop) (QX : String → MS → Prop) (S : MS) (a0 : Nat) (x1 : Int32) : Prop := ((1 ≤ (mI S a0 2) → (¬ (mI S a0 2) = 0 ∧ Q (x1 / (mI S a0 2)) S)) ∧ (¬ 1 ≤ (mI S a0 2) → Q 0 S))
set_option maxHeartbeats 4000000 in
set_option maxRecDepth 100000 in
theorem tX3_rowOf_0 {p : Program} {l : Launch} {e : Env} {s : State} {m : MethodId} {args : Array Value} {below : List Frame} {meth : Method} {c : Code} {H : Heap} {locs : List Loc} {cells slots : Nat} {G : GP} {A : Nat → Prop} {S0 : MS} {ls : Array Slot} (C : CF p l s m args meth c "SkirmishGrid$Grid" cX3_rowOf 2 G A) (hr : meth.sig.returnType = (some .int)) (hex : ∀ x ∈ c.exceptionTable.toList, False) (Q : Int32 → MS → Prop) (QX : String → MS → Prop) (S : MS) (a0 : Nat) (x1 : Int32) (p_a0 : pI S 3 a0) (P : PW G A s H locs S0 S) (hl : lv_has ls 2 [(0, .ref a0), (1, .int x1)]) (hcc : cells + 0 ≤ 0) (hss : slots + 0 ≤ 0) (hw : wX3_rowOf_0 Q QX S a0 x1) : W p l e rmX3_rowOf s m args below meth c H locs cells slots (vx_MQ below (QI G S0 A Q) (XX G S0 A QX) args s 0 0 A) (F0 m 0 ls []) := by
  have hx := CF_x C
  have hb := CF_b C
  unfold wX3_rowOf_0 at hw
  refine lv_aload_n hx hb dX3_rowOf_0 rfl (lv_at hl 0 rfl) ?_
  refine gf_3_2 C P p_a0 q_54 dX3_rowOf_1 ?_
  refine lv_iconst (v := 1) hx hb dX3_rowOf_4 (by decide) ?_
  refine lv_icmp_ge (tgt := 12) hx hb dX3_rowOf_5 (by decide) (fun hc => ?_) (fun hc => ?_)
  · have hw := hw.1 hc
    refine lv_iload_n hx hb dX3_rowOf_12 rfl (lv_at hl 1 rfl) ?_
    refine lv_aload_n hx hb dX3_rowOf_13 rfl (lv_at hl 0 rfl) ?_
    refine gf_3_2 C P p_a0 q_54 dX3_rowOf_14 ?_
    obtain ⟨h1, hw⟩ := hw
    refine lv_idiv hx hb dX3_rowOf_17 h1 ?_
    exact e_i C hr rfl P hw (by omega) (by omega) dX3_rowOf_18
  · have hw := hw.2 hc
    refine lv_iconst (v := 0) hx hb dX3_rowOf_8 (by decide) ?_
    refine lv_goto (tgt := 18) hx hb dX3_rowOf_9 (by decide) ?_
    exact e_i C hr rfl P hw (by omega) (by omega) dX3_rowOf_18
def wp_X3_rowOf (Q : Int32 → MS → Prop) (QX : String → MS → Prop) (S : MS) (a0 : Nat) (x1 : Int32) : Prop := wX3_rowOf_0 Q QX S a0 x1
set_option maxHeartbeats 4000000 in
set_option maxRecDepth 100000 in
theorem met_X3_rowOf {l : Launch} (hst : l.stackTraces = false) (G : GP) (sz : Nat) (Q : Int32 → MS → Prop) (QX : String → MS → Prop) (S : MS) (a0 : Nat) (x1 : Int32) (p_a0 : pI S 3 a0) (hw : wp_X3_rowOf Q QX S a0 x1) : vx_Met l yX3_rowOf (.code yX3_rowOf cX3_rowOf 2 (some .int) :: GW) rmX3_rowOf (va_Pc [.ref a0, .int x1] (PR G S sz)) (QI G S (FA G S sz) Q) (XX G S (FA G S sz) QX) 0 0 (FA G S sz) := by
  refine st_m (by decide +kernel) hst (fun p e s m below meth c C hr hnm hex P => ?_)
  refine en_m (Nat.le_of_ble_eq_true rfl) (lv := [(0, .ref a0), (1, .int x1)]) rfl (fun ls hl => ?_)
  have C : CF p l s m _ meth c "SkirmishGrid$Grid" cX3_rowOf 2 G (FA G S sz) := C
  exact tX3_rowOf_0 C hr hex Q QX S a0 x1 p_a0 P hl (by omega) (by omega) hw
theorem cd_X3_rowOf : yX3_rowOf.cls = RX3 ∧ yX3_rowOf.cls ≠ "java/lang/invoke/MethodHandle" ∧ yX3_rowOf.cls ≠ "java/lang/invoke/VarHandle" ∧ (parseMethodDescriptor yX3_rowOf.desc).map (fun d => d.parameters.length) = some 1 := by decide +kernel
abbrev rmX3_columnOf : Room := { frames := 0, cells := 0, slots := 0, locals := 0 }
def wX3_columnOf_0 (Q : Int32 → MS → Prop) (QX : String → MS → Prop) (S : MS) (a0 : Nat) (x1 : Int32) : Prop := ((1 ≤ (mI S a0 2) → (¬ (mI S a0 2) = 0 ∧ Q (x1 - x1 / (mI S a0 2) * (mI S a0 2)) S)) ∧ (¬ 1 ≤ (mI S a0 2) → Q 0 S))
set_option maxHeartbeats 4000000 in
set_option maxRecDepth 100000 in
theorem tX3_columnOf_0 {p : Program} {l : Launch} {e : Env} {s : State} {m : MethodId} {args : Array Value} {below : List Frame} {meth : Method} {c : Code} {H : Heap} {locs : List Loc} {cells slots : Nat} {G : GP} {A : Nat → Prop} {S0 : MS} {ls : Array Slot} (C : CF p l s m args meth c "SkirmishGrid$Grid" cX3_columnOf 2 G A) (hr : meth.sig.returnType = (some .int)) (hex : ∀ x ∈ c.exceptionTable.toList, False) (Q : Int32 → MS → Prop) (QX : String → MS → Prop) (S : MS) (a0 : Nat) (x1 : Int32) (p_a0 : pI S 3 a0) (P : PW G A s H locs S0 S) (hl : lv_has ls 2 [(0, .ref a0), (1, .int x1)]) (hcc : cells + 0 ≤ 0) (hss : slots + 0 ≤ 0) (hw : wX3_columnOf_0 Q QX S a0 x1) : W p l e rmX3_columnOf s m args below meth c H locs cells slots (vx_MQ below (QI G S0 A Q) (XX G S0 A QX) args s 0 0 A) (F0 m 0 ls []) := by
  have hx := CF_x C
  have hb := CF_b C
  unfold wX3_columnOf_0 at hw
  refine lv_aload_n hx hb dX3_columnOf_0 rfl (lv_at hl 0 rfl) ?_
  refine gf_3_2 C P p_a0 q_54 dX3_columnOf_1 ?_
  refine lv_iconst (v := 1) hx hb dX3_columnOf_4 (by decide) ?_
  refine lv_icmp_ge (tgt := 12) hx hb dX3_columnOf_5 (by decide) (fun hc => ?_) (fun hc => ?_)
  · have hw := hw.1 hc
    refine lv_iload_n hx hb dX3_columnOf_12 rfl (lv_at hl 1 rfl) ?_
    refine lv_aload_n hx hb dX3_columnOf_13 rfl (lv_at hl 0 rfl) ?_
    refine gf_3_2 C P p_a0 q_54 dX3_columnOf_14 ?_
    obtain ⟨h1, hw⟩ := hw
    refine lv_irem hx hb dX3_columnOf_17 h1 ?_
    exact e_i C hr rfl P hw (by omega) (by omega) dX3_columnOf_18
  · have hw := hw.2 hc
    refine lv_iconst (v := 0) hx hb dX3_columnOf_8 (by decide) ?_
    refine lv_goto (tgt := 18) hx hb dX3_columnOf_9 (by decide) ?_
    exact e_i C hr rfl P hw (by omega) (by omega) dX3_columnOf_18
def wp_X3_columnOf (Q : Int32 → MS → Prop) (QX : String → MS → Prop) (S : MS) (a0 : Nat) (x1 : Int32) : Prop := wX3_columnOf_0 Q QX S a0 x1
set_option maxHeartbeats 4000000 in
set_option maxRecDepth 100000 in
theorem met_X3_columnOf {l : Launch} (hst : l.stackTraces = false) (G : GP) (sz : Nat) (Q : Int32 → MS → Prop) (QX : String → MS → Prop) (S : MS) (a0 : Nat) (x1 : Int32) (p_a0 : pI S 3 a0) (hw : wp_X3_columnOf Q QX S a0 x1) : vx_Met l yX3_columnOf (.code yX3_columnOf cX3_columnOf 2 (some .int) :: GW) rmX3_columnOf (va_Pc [.ref a0, .int x1] (PR G S sz)) (QI G S (FA G S sz) Q) (XX G S (FA G S sz) QX) 0 0 (FA G S sz) := by
  refine st_m (by decide +kernel) hst (fun p e s m below meth c C hr hnm hex P => ?_)
  refine en_m (Nat.le_of_ble_eq_true rfl) (lv := [(0, .ref a0), (1, .int x1)]) rfl (fun ls hl => ?_)
  have C : CF p l s m _ meth c "SkirmishGrid$Grid" cX3_columnOf 2 G (FA G S sz) := C
  exact tX3_columnOf_0 C hr hex Q QX S a0 x1 p_a0 P hl (by omega) (by omega) hw
theorem cd_X3_columnOf : yX3_columnOf.cls = RX3 ∧ yX3_columnOf.cls ≠ "java/lang/invoke/MethodHandle" ∧ yX3_columnOf.cls ≠ "java/lang/invoke/VarHandle" ∧ (parseMethodDescriptor yX3_columnOf.desc).map (fun d => d.parameters.length) = some 1 := by decide +kernel
abbrev rmX3_distance : Room := { frames := 1, cells := 0, slots := 0, locals := 60 }
def wX3_distance_0 (Q : Int32 → MS → Prop) (QX : String → MS → Prop) (S : MS) (a0 : Nat) (x1 : Int32) (x2 : Int32) : Prop := wp_X3_rowOf (fun r2 S1 => wp_X3_rowOf (fun r4 S3 => wp_X3_columnOf (fun r6 S5 => wp_X3_columnOf (fun r8 S7 => Q (if (if 0 ≤ (r2 - r4) then (r2 - r4) else 0 - (r2 - r4)) < (if 0 ≤ (r6 - r8) then (r6 - r8) else 0 - (r6 - r8)) then (if 0 ≤ (r6 - r8) then (r6 - r8) else 0 - (r6 - r8)) else (if 0 ≤ (r2 - r4) then (r2 - r4) else 0 - (r2 - r4))) S7) QX S5 a0 x1) QX S3 a0 x2) QX S1 a0 x1) QX S a0 x2
set_option maxHeartbeats 4000000 in
set_option maxRecDepth 100000 in
theorem tX3_distance_0 {p : Program} {l : Launch} {e : Env} {s : State} {m : MethodId} {args : Array Value} {below : List Frame} {meth : Method} {c : Code} {H : Heap} {locs : List Loc} {cells slots : Nat} {G : GP} {A : Nat → Prop} {S0 : MS} {ls : Array Slot} (C : CF p l s m args meth c "SkirmishGrid$Grid" cX3_distance 5 G A) (hr : meth.sig.returnType = (some .int)) (hex : ∀ x ∈ c.exceptionTable.toList, False) (Q : Int32 → MS → Prop) (QX : String → MS → Prop) (S : MS) (a0 : Nat) (x1 : Int32) (x2 : Int32) (p_a0 : pI S 3 a0) (P : PW G A s H locs S0 S) (hl : lv_has ls 5 [(0, .ref a0), (1, .int x1), (2, .int x2)]) (hcc : cells + 0 ≤ 0) (hss : slots + 0 ≤ 0) (hw : wX3_distance_0 Q QX S a0 x1 x2) : W p l e rmX3_distance s m args below meth c H locs cells slots (vx_MQ below (QI G S0 A Q) (XX G S0 A QX) args s 0 0 A) (F0 m 0 ls []) := by
  have hx := CF_x C
  have hb := CF_b C
  unfold wX3_distance_0 at hw
  refine lv_aload_n hx hb dX3_distance_0 rfl (lv_at hl 0 rfl) ?_
  refine lv_iload_n hx hb dX3_distance_1 rfl (lv_at hl 2 rfl) ?_
  refine cl_i C P (run_V C P hl.1 (kd := 3) (met_X3_rowOf (CF_n C) G H.size _ _ S a0 x2 p_a0 hw) p_a0 (by decide) rfl q_750 q_751 q_752 q_3 q_753 cd_X3_rowOf ⟨(Nat.le_of_ble_eq_true rfl), (Nat.le_of_ble_eq_true rfl)⟩ rfl rfl (As := [.int x2]) (rest := []) rfl rfl (Nat.le_of_ble_eq_true rfl) dX3_distance_2 ⟨by show cells + 0 ≤ 0; omega, by show slots + 0 ≤ 0; omega⟩) (kx_out C hex (fun _ _ _ h => h) (by omega) (by omega)) (fun r2 S1 H locs P hE hw => ?_)
  have p_a0 : pI S1 3 a0 := pI_x hE p_a0
  refine lv_aload_n hx hb dX3_distance_5 rfl (lv_at hl 0 rfl) ?_
  refine lv_iload_n hx hb dX3_distance_6 rfl (lv_at hl 1 rfl) ?_
  refine cl_i C P (run_V C P hl.1 (kd := 3) (met_X3_rowOf (CF_n C) G H.size _ _ S1 a0 x1 p_a0 hw) p_a0 (by decide) rfl q_750 q_751 q_752 q_3 q_753 cd_X3_rowOf ⟨(Nat.le_of_ble_eq_true rfl), (Nat.le_of_ble_eq_true rfl)⟩ rfl rfl (As := [.int x1]) (rest := [.int r2]) rfl rfl (Nat.le_of_ble_eq_true rfl) dX3_distance_7 ⟨by show cells + 0 ≤ 0; omega, by show slots + 0 ≤ 0; omega⟩) (kx_out C hex (fun _ _ _ h => h) (by omega) (by omega)) (fun r4 S3 H locs P hE hw => ?_)
  have p_a0 : pI S3 3 a0 := pI_x hE p_a0
  refine lv_isub hx hb dX3_distance_10 ?_
  refine va_mabs hx hb ((CF_m C).trans hl.1.symm) (CF_o C) (CF_t C _ q_758) (CF_t C _ q_759) (CF_t C _ q_18) (CF_t C _ q_760) (Nat.le_of_ble_eq_true rfl) (Nat.le_of_ble_eq_true rfl) (by show cells ≤ 0; omega) (by show slots ≤ 0; omega) dX3_distance_11 ?_
  refine lv_istore_n (lv' := [(3, .int (if 0 ≤ (r2 - r4) then (r2 - r4) else 0 - (r2 - r4))), (0, .ref a0), (1, .int x1), (2, .int x2)]) hx hb dX3_distance_14 rfl hl (by decide) rfl (fun ls hl => ?_)
  refine lv_aload_n hx hb dX3_distance_15 rfl (lv_at hl 1 rfl) ?_
  refine lv_iload_n hx hb dX3_distance_16 rfl (lv_at hl 3 rfl) ?_
  refine cl_i C P (run_V C P hl.1 (kd := 3) (met_X3_columnOf (CF_n C) G H.size _ _ S3 a0 x2 p_a0 hw) p_a0 (by decide) rfl q_754 q_755 q_756 q_3 q_757 cd_X3_columnOf ⟨(Nat.le_of_ble_eq_true rfl), (Nat.le_of_ble_eq_true rfl)⟩ rfl rfl (As := [.int x2]) (rest := []) rfl rfl (Nat.le_of_ble_eq_true rfl) dX3_distance_17 ⟨by show cells + 0 ≤ 0; omega, by show slots + 0 ≤ 0; omega⟩) (kx_out C hex (fun _ _ _ h => h) (by omega) (by omega)) (fun r6 S5 H locs P hE hw => ?_)
  have p_a0 : pI S5 3 a0 := pI_x hE p_a0
  refine lv_aload_n hx hb dX3_distance_20 rfl (lv_at hl 1 rfl) ?_
  refine lv_iload_n hx hb dX3_distance_21 rfl (lv_at hl 2 rfl) ?_
  refine cl_i C P (run_V C P hl.1 (kd := 3) (met_X3_columnOf (CF_n C) G H.size _ _ S5 a0 x1 p_a0 hw) p_a0 (by decide) rfl q_754 q_755 q_756 q_3 q_757 cd_X3_columnOf ⟨(Nat.le_of_ble_eq_true rfl), (Nat.le_of_ble_eq_true rfl)⟩ rfl rfl (As := [.int x1]) (rest := [.int r6]) rfl rfl (Nat.le_of_ble_eq_true rfl) dX3_distance_22 ⟨by show cells + 0 ≤ 0; omega, by show slots + 0 ≤ 0; omega⟩) (kx_out C hex (fun _ _ _ h => h) (by omega) (by omega)) (fun r8 S7 H locs P hE hw => ?_)
  have p_a0 : pI S7 3 a0 := pI_x hE p_a0
  refine lv_isub hx hb dX3_distance_25 ?_
  refine va_mabs hx hb ((CF_m C).trans hl.1.symm) (CF_o C) (CF_t C _ q_758) (CF_t C _ q_759) (CF_t C _ q_18) (CF_t C _ q_760) (Nat.le_of_ble_eq_true rfl) (Nat.le_of_ble_eq_true rfl) (by show cells ≤ 0; omega) (by show slots ≤ 0; omega) dX3_distance_26 ?_
  refine lv_istore (lv' := [(4, .int (if 0 ≤ (r6 - r8) then (r6 - r8) else 0 - (r6 - r8))), (3, .int (if 0 ≤ (r2 - r4) then (r2 - r4) else 0 - (r2 - r4))), (0, .ref a0), (1, .int x1), (2, .int x2)]) hx hb dX3_distance_29 hl (by decide) rfl (fun ls hl => ?_)
  refine lv_iload_n hx hb dX3_distance_31 rfl (lv_at hl 1 rfl) ?_
  refine lv_iload hx hb dX3_distance_32 (lv_at hl 0 rfl) ?_
  refine va_mmax hx hb ((CF_m C).trans hl.1.symm) (CF_o C) (CF_t C _ q_969) (CF_t C _ q_539) (CF_t C _ q_18) (CF_t C _ q_540) (Nat.le_of_ble_eq_true rfl) (Nat.le_of_ble_eq_true rfl) (by show cells ≤ 0; omega) (by show slots ≤ 0; omega) dX3_distance_34 ?_
  exact e_i C hr rfl P hw (by omega) (by omega) dX3_distance_37
def wp_X3_distance (Q : Int32 → MS → Prop) (QX : String → MS → Prop) (S : MS) (a0 : Nat) (x1 : Int32) (x2 : Int32) : Prop := wX3_distance_0 Q QX S a0 x1 x2
set_option maxHeartbeats 4000000 in
set_option maxRecDepth 100000 in
theorem met_X3_distance {l : Launch} (hst : l.stackTraces = false) (G : GP) (sz : Nat) (Q : Int32 → MS → Prop) (QX : String → MS → Prop) (S : MS) (a0 : Nat) (x1 : Int32) (x2 : Int32) (p_a0 : pI S 3 a0) (hw : wp_X3_distance Q QX S a0 x1 x2) : vx_Met l yX3_distance (.code yX3_distance cX3_distance 5 (some .int) :: GW) rmX3_distance (va_Pc [.ref a0, .int x1, .int x2] (PR G S sz)) (QI G S (FA G S sz) Q) (XX G S (FA G S sz) QX) 0 0 (FA G S sz) := by
  refine st_m (by decide +kernel) hst (fun p e s m below meth c C hr hnm hex P => ?_)
  refine en_m (Nat.le_of_ble_eq_true rfl) (lv := [(0, .ref a0), (1, .int x1), (2, .int x2)]) rfl (fun ls hl => ?_)
  have C : CF p l s m _ meth c "SkirmishGrid$Grid" cX3_distance 5 G (FA G S sz) := C
  exact tX3_distance_0 C hr hex Q QX S a0 x1 x2 p_a0 P hl (by omega) (by omega) hw
theorem cd_X3_distance : yX3_distance.cls = RX3 ∧ yX3_distance.cls ≠ "java/lang/invoke/MethodHandle" ∧ yX3_distance.cls ≠ "java/lang/invoke/VarHandle" ∧ (parseMethodDescriptor yX3_distance.desc).map (fun d => d.parameters.length) = some 2 := by decide +kernel
abbrev rmX3_hasCell : Room := { frames := 0, cells := 0, slots := 0, locals := 0 }
def wX3_hasCell_0 (Q : Int32 → MS → Prop) (QX : String → MS → Prop) (S : MS) (a0 : Nat) (x1 : Int32) : Prop := ((x1 < 0 → Q 0 S) ∧ (¬ x1 < 0 → ((((mI S a0 1) * (mI S a0 2)) ≤ x1 → Q 0 S) ∧ (¬ ((mI S a0 1) * (mI S a0 2)) ≤ x1 → Q 1 S))))
set_option maxHeartbeats 4000000 in
set_option maxRecDepth 100000 in
theorem tX3_hasCell_0 {p : Program} {l : Launch} {e : Env} {s : State} {m : MethodId} {args : Array Value} {below : List Frame} {meth : Method} {c : Code} {H : Heap} {locs : List Loc} {cells slots : Nat} {G : GP} {A : Nat → Prop} {S0 : MS} {ls : Array Slot} (C : CF p l s m args meth c "SkirmishGrid$Grid" cX3_hasCell 2 G A) (hr : meth.sig.returnType = (some .boolean)) (hex : ∀ x ∈ c.exceptionTable.toList, False) (Q : Int32 → MS → Prop) (QX : String → MS → Prop) (S : MS) (a0 : Nat) (x1 : Int32) (p_a0 : pI S 3 a0) (P : PW G A s H locs S0 S) (hl : lv_has ls 2 [(0, .ref a0), (1, .int x1)]) (hcc : cells + 0 ≤ 0) (hss : slots + 0 ≤ 0) (hw : wX3_hasCell_0 Q QX S a0 x1) : W p l e rmX3_hasCell s m args below meth c H locs cells slots (vx_MQ below (QI G S0 A Q) (XX G S0 A QX) args s 0 0 A) (F0 m 0 ls []) := by
  have hx := CF_x C
  have hb := CF_b C
  unfold wX3_hasCell_0 at hw
  refine lv_iload_n hx hb dX3_hasCell_0 rfl (lv_at hl 1 rfl) ?_
  refine lv_if_lt (tgt := 21) hx hb dX3_hasCell_1 (by decide) (fun hc => ?_) (fun hc => ?_)
  · have hw := hw.1 hc
    refine lv_iconst (v := 0) hx hb dX3_hasCell_21 (by decide) ?_
    exact e_i C hr (by decide +kernel) P hw (by omega) (by omega) dX3_hasCell_22
  · have hw := hw.2 hc
    refine lv_iload_n hx hb dX3_hasCell_4 rfl (lv_at hl 1 rfl) ?_
    refine lv_aload_n hx hb dX3_hasCell_5 rfl (lv_at hl 0 rfl) ?_
    refine gf_3_1 C P p_a0 q_51 dX3_hasCell_6 ?_
    refine lv_aload_n hx hb dX3_hasCell_9 rfl (lv_at hl 0 rfl) ?_
    refine gf_3_2 C P p_a0 q_54 dX3_hasCell_10 ?_
    refine lv_imul hx hb dX3_hasCell_13 ?_
    refine lv_icmp_ge (tgt := 21) hx hb dX3_hasCell_14 (by decide) (fun hc => ?_) (fun hc => ?_)
    · have hw := hw.1 hc
      refine lv_iconst (v := 0) hx hb dX3_hasCell_21 (by decide) ?_
      exact e_i C hr (by decide +kernel) P hw (by omega) (by omega) dX3_hasCell_22
    · have hw := hw.2 hc
      refine lv_iconst (v := 1) hx hb dX3_hasCell_17 (by decide) ?_
      refine lv_goto (tgt := 22) hx hb dX3_hasCell_18 (by decide) ?_
      exact e_i C hr (by decide +kernel) P hw (by omega) (by omega) dX3_hasCell_22
def wp_X3_hasCell (Q : Int32 → MS → Prop) (QX : String → MS → Prop) (S : MS) (a0 : Nat) (x1 : Int32) : Prop := wX3_hasCell_0 Q QX S a0 x1
set_option maxHeartbeats 4000000 in
set_option maxRecDepth 100000 in
theorem met_X3_hasCell {l : Launch} (hst : l.stackTraces = false) (G : GP) (sz : Nat) (Q : Int32 → MS → Prop) (QX : String → MS → Prop) (S : MS) (a0 : Nat) (x1 : Int32) (p_a0 : pI S 3 a0) (hw : wp_X3_hasCell Q QX S a0 x1) : vx_Met l yX3_hasCell (.code yX3_hasCell cX3_hasCell 2 (some .boolean) :: GW) rmX3_hasCell (va_Pc [.ref a0, .int x1] (PR G S sz)) (QI G S (FA G S sz) Q) (XX G S (FA G S sz) QX) 0 0 (FA G S sz) := by
  refine st_m (by decide +kernel) hst (fun p e s m below meth c C hr hnm hex P => ?_)
  refine en_m (Nat.le_of_ble_eq_true rfl) (lv := [(0, .ref a0), (1, .int x1)]) rfl (fun ls hl => ?_)
  have C : CF p l s m _ meth c "SkirmishGrid$Grid" cX3_hasCell 2 G (FA G S sz) := C
  exact tX3_hasCell_0 C hr hex Q QX S a0 x1 p_a0 P hl (by omega) (by omega) hw
theorem cd_X3_hasCell : yX3_hasCell.cls = RX3 ∧ yX3_hasCell.cls ≠ "java/lang/invoke/MethodHandle" ∧ yX3_hasCell.cls ≠ "java/lang/invoke/VarHandle" ∧ (parseMethodDescriptor yX3_hasCell.desc).map (fun d => d.parameters.length) = some 1 := by decide +kernel
abbrev rmX3_ground : Room := { frames := 0, cells := 0, slots := 0, locals := 0 }
def wX3_ground_0 (Q : Int32 → MS → Prop) (QX : String → MS → Prop) (S : MS) (a0 : Nat) (x1 : Int32) : Prop := ((x1 < 0 → Q 1 S) ∧ (¬ x1 < 0 → (∃ a1, mR S a0 0 = some a1 ∧ (((Int32.ofNat (mN S a1)) ≤ x1 → Q 1 S) ∧ (¬ (Int32.ofNat (mN S a1)) ≤ x1 → (∃ a2, mR S a0 0 = some a2 ∧ (vp_in x1 (mN S a2) ∧ Q (mI S a2 (x1 : Int32).toNatClampNeg) S)))))))
set_option maxHeartbeats 4000000 in
set_option maxRecDepth 100000 in
theorem tX3_ground_0 {p : Program} {l : Launch} {e : Env} {s : State} {m : MethodId} {args : Array Value} {below : List Frame} {meth : Method} {c : Code} {H : Heap} {locs : List Loc} {cells slots : Nat} {G : GP} {A : Nat → Prop} {S0 : MS} {ls : Array Slot} (C : CF p l s m args meth c "SkirmishGrid$Grid" cX3_ground 2 G A) (hr : meth.sig.returnType = (some .int)) (hex : ∀ x ∈ c.exceptionTable.toList, False) (Q : Int32 → MS → Prop) (QX : String → MS → Prop) (S : MS) (a0 : Nat) (x1 : Int32) (p_a0 : pI S 3 a0) (P : PW G A s H locs S0 S) (hl : lv_has ls 2 [(0, .ref a0), (1, .int x1)]) (hcc : cells + 0 ≤ 0) (hss : slots + 0 ≤ 0) (hw : wX3_ground_0 Q QX S a0 x1) : W p l e rmX3_ground s m args below meth c H locs cells slots (vx_MQ below (QI G S0 A Q) (XX G S0 A QX) args s 0 0 A) (F0 m 0 ls []) := by
  have hx := CF_x C
  have hb := CF_b C
  unfold wX3_ground_0 at hw
  refine lv_iload_n hx hb dX3_ground_0 rfl (lv_at hl 1 rfl) ?_
  refine lv_if_lt (tgt := 22) hx hb dX3_ground_1 (by decide) (fun hc => ?_) (fun hc => ?_)
  · have hw := hw.1 hc
    refine lv_iconst (v := 1) hx hb dX3_ground_22 (by decide) ?_
    exact e_i C hr rfl P hw (by omega) (by omega) dX3_ground_23
  · have hw := hw.2 hc
    refine lv_iload_n hx hb dX3_ground_4 rfl (lv_at hl 1 rfl) ?_
    refine lv_aload_n hx hb dX3_ground_5 rfl (lv_at hl 0 rfl) ?_
    obtain ⟨a1, e1, hw⟩ := hw
    have p_a1 : pI S 12 a1 := wf_r P.2.2.2.1 p_a0 e1
    refine gf_3_0 C P p_a0 e1 q_50 dX3_ground_6 ?_
    refine ra_n (d := 2) C P p_a1 (by decide) dX3_ground_9 ?_
    refine lv_icmp_ge (tgt := 22) hx hb dX3_ground_10 (by decide) (fun hc => ?_) (fun hc => ?_)
    · have hw := hw.1 hc
      refine lv_iconst (v := 1) hx hb dX3_ground_22 (by decide) ?_
      exact e_i C hr rfl P hw (by omega) (by omega) dX3_ground_23
    · have hw := hw.2 hc
      refine lv_aload_n hx hb dX3_ground_13 rfl (lv_at hl 0 rfl) ?_
      obtain ⟨a2, e1, hw⟩ := hw
      have p_a2 : pI S 12 a2 := wf_r P.2.2.2.1 p_a0 e1
      refine gf_3_0 C P p_a0 e1 q_50 dX3_ground_14 ?_
      refine lv_iload_n hx hb dX3_ground_17 rfl (lv_at hl 1 rfl) ?_
      obtain ⟨h1, hw⟩ := hw
      refine ra_i C P p_a2 h1 dX3_ground_18 ?_
      refine lv_goto (tgt := 23) hx hb dX3_ground_19 (by decide) ?_
      exact e_i C hr rfl P hw (by omega) (by omega) dX3_ground_23
def wp_X3_ground (Q : Int32 → MS → Prop) (QX : String → MS → Prop) (S : MS) (a0 : Nat) (x1 : Int32) : Prop := wX3_ground_0 Q QX S a0 x1
set_option maxHeartbeats 4000000 in
set_option maxRecDepth 100000 in
theorem met_X3_ground {l : Launch} (hst : l.stackTraces = false) (G : GP) (sz : Nat) (Q : Int32 → MS → Prop) (QX : String → MS → Prop) (S : MS) (a0 : Nat) (x1 : Int32) (p_a0 : pI S 3 a0) (hw : wp_X3_ground Q QX S a0 x1) : vx_Met l yX3_ground (.code yX3_ground cX3_ground 2 (some .int) :: GW) rmX3_ground (va_Pc [.ref a0, .int x1] (PR G S sz)) (QI G S (FA G S sz) Q) (XX G S (FA G S sz) QX) 0 0 (FA G S sz) := by
  refine st_m (by decide +kernel) hst (fun p e s m below meth c C hr hnm hex P => ?_)
  refine en_m (Nat.le_of_ble_eq_true rfl) (lv := [(0, .ref a0), (1, .int x1)]) rfl (fun ls hl => ?_)
  have C : CF p l s m _ meth c "SkirmishGrid$Grid" cX3_ground 2 G (FA G S sz) := C
  exact tX3_ground_0 C hr hex Q QX S a0 x1 p_a0 P hl (by omega) (by omega) hw
theorem cd_X3_ground : yX3_ground.cls = RX3 ∧ yX3_ground.cls ≠ "java/lang/invoke/MethodHandle" ∧ yX3_ground.cls ≠ "java/lang/invoke/VarHandle" ∧ (parseMethodDescriptor yX3_ground.desc).map (fun d => d.parameters.length) = some 1 := by decide +kernel
abbrev rmX3_neighbor : Room := { frames := 1, cells := 0, slots := 0, locals := 21 }
def wX3_neighbor_0 (Q : Int32 → MS → Prop) (QX : String → MS → Prop) (S : MS) (a0 : Nat) (x1 : Int32) (x2 : Int32) : Prop := wp_X3_rowOf (fun r2 S1 => wp_X3_columnOf (fun r4 S3 => ((((x2 : Int32).toInt < 0 ∨ 3 < (x2 : Int32).toInt) → Q (-1) S3) ∧ ((x2 : Int32).toInt = 0 → ((r2 ≤ 0 → Q (-1) S3) ∧ (¬ r2 ≤ 0 → Q (x1 - (mI S3 a0 2)) S3))) ∧ ((x2 : Int32).toInt = 1 → (((mI S3 a0 2) ≤ (r4 + 1) → Q (-1) S3) ∧ (¬ (mI S3 a0 2) ≤ (r4 + 1) → Q (x1 + 1) S3))) ∧ ((x2 : Int32).toInt = 2 → (((mI S3 a0 1) ≤ (r2 + 1) → Q (-1) S3) ∧ (¬ (mI S3 a0 1) ≤ (r2 + 1) → Q (x1 + (mI S3 a0 2)) S3))) ∧ ((x2 : Int32).toInt = 3 → ((r4 ≤ 0 → Q (-1) S3) ∧ (¬ r4 ≤ 0 → Q (x1 - 1) S3))))) QX S1 a0 x1) QX S a0 x1
set_option maxHeartbeats 4000000 in
set_option maxRecDepth 100000 in
theorem tX3_neighbor_0 {p : Program} {l : Launch} {e : Env} {s : State} {m : MethodId} {args : Array Value} {below : List Frame} {meth : Method} {c : Code} {H : Heap} {locs : List Loc} {cells slots : Nat} {G : GP} {A : Nat → Prop} {S0 : MS} {ls : Array Slot} (C : CF p l s m args meth c "SkirmishGrid$Grid" cX3_neighbor 5 G A) (hr : meth.sig.returnType = (some .int)) (hex : ∀ x ∈ c.exceptionTable.toList, False) (Q : Int32 → MS → Prop) (QX : String → MS → Prop) (S : MS) (a0 : Nat) (x1 : Int32) (x2 : Int32) (p_a0 : pI S 3 a0) (P : PW G A s H locs S0 S) (hl : lv_has ls 5 [(0, .ref a0), (1, .int x1), (2, .int x2)]) (hcc : cells + 0 ≤ 0) (hss : slots + 0 ≤ 0) (hw : wX3_neighbor_0 Q QX S a0 x1 x2) : W p l e rmX3_neighbor s m args below meth c H locs cells slots (vx_MQ below (QI G S0 A Q) (XX G S0 A QX) args s 0 0 A) (F0 m 0 ls []) := by
  have hx := CF_x C
  have hb := CF_b C
  unfold wX3_neighbor_0 at hw
  refine lv_aload_n hx hb dX3_neighbor_0 rfl (lv_at hl 0 rfl) ?_
  refine lv_iload_n hx hb dX3_neighbor_1 rfl (lv_at hl 1 rfl) ?_
  refine cl_i C P (run_V C P hl.1 (kd := 3) (met_X3_rowOf (CF_n C) G H.size _ _ S a0 x1 p_a0 hw) p_a0 (by decide) rfl q_750 q_751 q_752 q_3 q_753 cd_X3_rowOf ⟨(Nat.le_of_ble_eq_true rfl), (Nat.le_of_ble_eq_true rfl)⟩ rfl rfl (As := [.int x1]) (rest := []) rfl rfl (Nat.le_of_ble_eq_true rfl) dX3_neighbor_2 ⟨by show cells + 0 ≤ 0; omega, by show slots + 0 ≤ 0; omega⟩) (kx_out C hex (fun _ _ _ h => h) (by omega) (by omega)) (fun r2 S1 H locs P hE hw => ?_)
  have p_a0 : pI S1 3 a0 := pI_x hE p_a0
  refine lv_istore_n (lv' := [(3, .int r2), (0, .ref a0), (1, .int x1), (2, .int x2)]) hx hb dX3_neighbor_5 rfl hl (by decide) rfl (fun ls hl => ?_)
  refine lv_aload_n hx hb dX3_neighbor_6 rfl (lv_at hl 1 rfl) ?_
  refine lv_iload_n hx hb dX3_neighbor_7 rfl (lv_at hl 2 rfl) ?_
  refine cl_i C P (run_V C P hl.1 (kd := 3) (met_X3_columnOf (CF_n C) G H.size _ _ S1 a0 x1 p_a0 hw) p_a0 (by decide) rfl q_754 q_755 q_756 q_3 q_757 cd_X3_columnOf ⟨(Nat.le_of_ble_eq_true rfl), (Nat.le_of_ble_eq_true rfl)⟩ rfl rfl (As := [.int x1]) (rest := []) rfl rfl (Nat.le_of_ble_eq_true rfl) dX3_neighbor_8 ⟨by show cells + 0 ≤ 0; omega, by show slots + 0 ≤ 0; omega⟩) (kx_out C hex (fun _ _ _ h => h) (by omega) (by omega)) (fun r4 S3 H locs P hE hw => ?_)
  have p_a0 : pI S3 3 a0 := pI_x hE p_a0
  refine lv_istore (lv' := [(4, .int r4), (3, .int r2), (0, .ref a0), (1, .int x1), (2, .int x2)]) hx hb dX3_neighbor_11 hl (by decide) rfl (fun ls hl => ?_)
  refine lv_iload_n hx hb dX3_neighbor_13 rfl (lv_at hl 4 rfl) ?_
  rcases ts_split (lo := 0) (hi := 3) x2 with hc | ⟨i, hi, hc⟩
  · have hw := hw.1 hc
    refine lv_tableOut (tgt := 112) hx hb dX3_neighbor_14 hc (by decide) ?_
    refine lv_iconst (v := (-1)) hx hb dX3_neighbor_112 (by decide) ?_
    exact e_i C hr rfl P hw (by omega) (by omega) dX3_neighbor_113
  · rcases (show i = 0 ∨ i = 1 ∨ i = 2 ∨ i = 3 by omega) with rfl | rfl | rfl | rfl
    · have hw := hw.2.1 hc
      refine lv_tableIn (tgt := 44) hx hb dX3_neighbor_14 (by omega) (by omega) (by rw [hc]; rfl) (by decide) ?_
      refine lv_iload_n hx hb dX3_neighbor_44 rfl (lv_at hl 1 rfl) ?_
      refine lv_if_le (tgt := 57) hx hb dX3_neighbor_45 (by decide) (fun hc => ?_) (fun hc => ?_)
      · have hw := hw.1 hc
        refine lv_iconst (v := (-1)) hx hb dX3_neighbor_57 (by decide) ?_
        exact e_i C hr rfl P hw (by omega) (by omega) dX3_neighbor_58
      · have hw := hw.2 hc
        refine lv_iload_n hx hb dX3_neighbor_48 rfl (lv_at hl 3 rfl) ?_
        refine lv_aload_n hx hb dX3_neighbor_49 rfl (lv_at hl 2 rfl) ?_
        refine gf_3_2 C P p_a0 q_54 dX3_neighbor_50 ?_
        refine lv_isub hx hb dX3_neighbor_53 ?_
        refine lv_goto (tgt := 58) hx hb dX3_neighbor_54 (by decide) ?_
        exact e_i C hr rfl P hw (by omega) (by omega) dX3_neighbor_58
    · have hw := hw.2.2.1 hc
      refine lv_tableIn (tgt := 59) hx hb dX3_neighbor_14 (by omega) (by omega) (by rw [hc]; rfl) (by decide) ?_
      refine lv_iload hx hb dX3_neighbor_59 (lv_at hl 0 rfl) ?_
      refine lv_iconst (v := 1) hx hb dX3_neighbor_61 (by decide) ?_
      refine lv_iadd hx hb dX3_neighbor_62 ?_
      refine lv_aload_n hx hb dX3_neighbor_63 rfl (lv_at hl 2 rfl) ?_
      refine gf_3_2 C P p_a0 q_54 dX3_neighbor_64 ?_
      refine lv_icmp_ge (tgt := 76) hx hb dX3_neighbor_67 (by decide) (fun hc => ?_) (fun hc => ?_)
      · have hw := hw.1 hc
        refine lv_iconst (v := (-1)) hx hb dX3_neighbor_76 (by decide) ?_
        exact e_i C hr rfl P hw (by omega) (by omega) dX3_neighbor_77
      · have hw := hw.2 hc
        refine lv_iload_n hx hb dX3_neighbor_70 rfl (lv_at hl 3 rfl) ?_
        refine lv_iconst (v := 1) hx hb dX3_neighbor_71 (by decide) ?_
        refine lv_iadd hx hb dX3_neighbor_72 ?_
        refine lv_goto (tgt := 77) hx hb dX3_neighbor_73 (by decide) ?_
        exact e_i C hr rfl P hw (by omega) (by omega) dX3_neighbor_77
    · have hw := hw.2.2.2.1 hc
      refine lv_tableIn (tgt := 78) hx hb dX3_neighbor_14 (by omega) (by omega) (by rw [hc]; rfl) (by decide) ?_
      refine lv_iload_n hx hb dX3_neighbor_78 rfl (lv_at hl 1 rfl) ?_
      refine lv_iconst (v := 1) hx hb dX3_neighbor_79 (by decide) ?_
      refine lv_iadd hx hb dX3_neighbor_80 ?_
      refine lv_aload_n hx hb dX3_neighbor_81 rfl (lv_at hl 2 rfl) ?_
      refine gf_3_1 C P p_a0 q_51 dX3_neighbor_82 ?_
      refine lv_icmp_ge (tgt := 97) hx hb dX3_neighbor_85 (by decide) (fun hc => ?_) (fun hc => ?_)
      · have hw := hw.1 hc
        refine lv_iconst (v := (-1)) hx hb dX3_neighbor_97 (by decide) ?_
        exact e_i C hr rfl P hw (by omega) (by omega) dX3_neighbor_98
      · have hw := hw.2 hc
        refine lv_iload_n hx hb dX3_neighbor_88 rfl (lv_at hl 3 rfl) ?_
        refine lv_aload_n hx hb dX3_neighbor_89 rfl (lv_at hl 2 rfl) ?_
        refine gf_3_2 C P p_a0 q_54 dX3_neighbor_90 ?_
        refine lv_iadd hx hb dX3_neighbor_93 ?_
        refine lv_goto (tgt := 98) hx hb dX3_neighbor_94 (by decide) ?_
        exact e_i C hr rfl P hw (by omega) (by omega) dX3_neighbor_98
    · have hw := hw.2.2.2.2 hc
      refine lv_tableIn (tgt := 99) hx hb dX3_neighbor_14 (by omega) (by omega) (by rw [hc]; rfl) (by decide) ?_
      refine lv_iload hx hb dX3_neighbor_99 (lv_at hl 0 rfl) ?_
      refine lv_if_le (tgt := 110) hx hb dX3_neighbor_101 (by decide) (fun hc => ?_) (fun hc => ?_)
      · have hw := hw.1 hc
        refine lv_iconst (v := (-1)) hx hb dX3_neighbor_110 (by decide) ?_
        exact e_i C hr rfl P hw (by omega) (by omega) dX3_neighbor_111
      · have hw := hw.2 hc
        refine lv_iload_n hx hb dX3_neighbor_104 rfl (lv_at hl 3 rfl) ?_
        refine lv_iconst (v := 1) hx hb dX3_neighbor_105 (by decide) ?_
        refine lv_isub hx hb dX3_neighbor_106 ?_
        refine lv_goto (tgt := 111) hx hb dX3_neighbor_107 (by decide) ?_
        exact e_i C hr rfl P hw (by omega) (by omega) dX3_neighbor_111
def wp_X3_neighbor (Q : Int32 → MS → Prop) (QX : String → MS → Prop) (S : MS) (a0 : Nat) (x1 : Int32) (x2 : Int32) : Prop := wX3_neighbor_0 Q QX S a0 x1 x2
set_option maxHeartbeats 4000000 in
set_option maxRecDepth 100000 in
theorem met_X3_neighbor {l : Launch} (hst : l.stackTraces = false) (G : GP) (sz : Nat) (Q : Int32 → MS → Prop) (QX : String → MS → Prop) (S : MS) (a0 : Nat) (x1 : Int32) (x2 : Int32) (p_a0 : pI S 3 a0) (hw : wp_X3_neighbor Q QX S a0 x1 x2) : vx_Met l yX3_neighbor (.code yX3_neighbor cX3_neighbor 5 (some .int) :: GW) rmX3_neighbor (va_Pc [.ref a0, .int x1, .int x2] (PR G S sz)) (QI G S (FA G S sz) Q) (XX G S (FA G S sz) QX) 0 0 (FA G S sz) := by
  refine st_m (by decide +kernel) hst (fun p e s m below meth c C hr hnm hex P => ?_)
  refine en_m (Nat.le_of_ble_eq_true rfl) (lv := [(0, .ref a0), (1, .int x1), (2, .int x2)]) rfl (fun ls hl => ?_)
  have C : CF p l s m _ meth c "SkirmishGrid$Grid" cX3_neighbor 5 G (FA G S sz) := C
  exact tX3_neighbor_0 C hr hex Q QX S a0 x1 x2 p_a0 P hl (by omega) (by omega) hw
theorem cd_X3_neighbor : yX3_neighbor.cls = RX3 ∧ yX3_neighbor.cls ≠ "java/lang/invoke/MethodHandle" ∧ yX3_neighbor.cls ≠ "java/lang/invoke/VarHandle" ∧ (parseMethodDescriptor yX3_neighbor.desc).map (fun d => d.parameters.length) = some 2 := by decide +kernel
abbrev rmX3_coverOf : Room := { frames := 1, cells := 0, slots := 0, locals := 21 }
def wX3_coverOf_85 (Q : Int32 → MS → Prop) (QX : String → MS → Prop) (S : MS) (y5 : Int32) (y6 : Int32) : Prop := ((y5 = 1 → Q 2 S) ∧ (¬ y5 = 1 → ((¬ y6 = 1 → ((y5 = 2 → Q 1 S) ∧ (¬ y5 = 2 → ((¬ y6 = 2 → Q 0 S) ∧ (y6 = 2 → Q 1 S))))) ∧ (y6 = 1 → Q 2 S))))
set_option maxHeartbeats 4000000 in
set_option maxRecDepth 100000 in
theorem tX3_coverOf_85 {p : Program} {l : Launch} {e : Env} {s : State} {m : MethodId} {args : Array Value} {below : List Frame} {meth : Method} {c : Code} {H : Heap} {locs : List Loc} {cells slots : Nat} {G : GP} {A : Nat → Prop} {S0 : MS} {ls : Array Slot} (C : CF p l s m args meth c "SkirmishGrid$Grid" cX3_coverOf 7 G A) (hr : meth.sig.returnType = (some .int)) (hex : ∀ x ∈ c.exceptionTable.toList, False) (Q : Int32 → MS → Prop) (QX : String → MS → Prop) (S : MS) (y5 : Int32) (y6 : Int32) (P : PW G A s H locs S0 S) (hl : lv_has ls 7 [(5, .int y5), (6, .int y6)]) (hcc : cells + 0 ≤ 0) (hss : slots + 0 ≤ 0) (hw : wX3_coverOf_85 Q QX S y5 y6) : W p l e rmX3_coverOf s m args below meth c H locs cells slots (vx_MQ below (QI G S0 A Q) (XX G S0 A QX) args s 0 0 A) (F0 m 85 ls []) := by
  have hx := CF_x C
  have hb := CF_b C
  unfold wX3_coverOf_85 at hw
  refine lv_iload hx hb dX3_coverOf_85 (lv_at hl 0 rfl) ?_
  refine lv_iconst (v := 1) hx hb dX3_coverOf_87 (by decide) ?_
  refine lv_icmp_eq (tgt := 97) hx hb dX3_coverOf_88 (by decide) (fun hc => ?_) (fun hc => ?_)
  · have hw := hw.1 hc
    refine lv_iconst (v := 2) hx hb dX3_coverOf_97 (by decide) ?_
    exact e_i C hr rfl P hw (by omega) (by omega) dX3_coverOf_98
  · have hw := hw.2 hc
    refine lv_iload hx hb dX3_coverOf_91 (lv_at hl 1 rfl) ?_
    refine lv_iconst (v := 1) hx hb dX3_coverOf_93 (by decide) ?_
    refine lv_icmp_ne (tgt := 99) hx hb dX3_coverOf_94 (by decide) (fun hc => ?_) (fun hc => ?_)
    · have hw := hw.1 hc
      refine lv_iload hx hb dX3_coverOf_99 (lv_at hl 0 rfl) ?_
      refine lv_iconst (v := 2) hx hb dX3_coverOf_101 (by decide) ?_
      refine lv_icmp_eq (tgt := 111) hx hb dX3_coverOf_102 (by decide) (fun hc => ?_) (fun hc => ?_)
      · have hw := hw.1 hc
        refine lv_iconst (v := 1) hx hb dX3_coverOf_111 (by decide) ?_
        refine lv_goto (tgt := 116) hx hb dX3_coverOf_112 (by decide) ?_
        exact e_i C hr rfl P hw (by omega) (by omega) dX3_coverOf_116
      · have hw := hw.2 hc
        refine lv_iload hx hb dX3_coverOf_105 (lv_at hl 1 rfl) ?_
        refine lv_iconst (v := 2) hx hb dX3_coverOf_107 (by decide) ?_
        refine lv_icmp_ne (tgt := 115) hx hb dX3_coverOf_108 (by decide) (fun hc => ?_) (fun hc => ?_)
        · have hw := hw.1 hc
          refine lv_iconst (v := 0) hx hb dX3_coverOf_115 (by decide) ?_
          exact e_i C hr rfl P hw (by omega) (by omega) dX3_coverOf_116
        · have hw := hw.2 hc
          refine lv_iconst (v := 1) hx hb dX3_coverOf_111 (by decide) ?_
          refine lv_goto (tgt := 116) hx hb dX3_coverOf_112 (by decide) ?_
          exact e_i C hr rfl P hw (by omega) (by omega) dX3_coverOf_116
    · have hw := hw.2 hc
      refine lv_iconst (v := 2) hx hb dX3_coverOf_97 (by decide) ?_
      exact e_i C hr rfl P hw (by omega) (by omega) dX3_coverOf_98
def wX3_coverOf_80 (Q : Int32 → MS → Prop) (QX : String → MS → Prop) (S : MS) (y5 : Int32) (z0 : Int32) (w1 : Nat) : Prop := wp_X3_ground (fun r2 S1 => wX3_coverOf_85 Q QX S1 y5 r2) QX S w1 z0
set_option maxHeartbeats 4000000 in
set_option maxRecDepth 100000 in
theorem tX3_coverOf_80 {p : Program} {l : Launch} {e : Env} {s : State} {m : MethodId} {args : Array Value} {below : List Frame} {meth : Method} {c : Code} {H : Heap} {locs : List Loc} {cells slots : Nat} {G : GP} {A : Nat → Prop} {S0 : MS} {ls : Array Slot} (C : CF p l s m args meth c "SkirmishGrid$Grid" cX3_coverOf 7 G A) (hr : meth.sig.returnType = (some .int)) (hex : ∀ x ∈ c.exceptionTable.toList, False) (Q : Int32 → MS → Prop) (QX : String → MS → Prop) (S : MS) (y5 : Int32) (z0 : Int32) (w1 : Nat) (p_w1 : pI S 3 w1) (P : PW G A s H locs S0 S) (hl : lv_has ls 7 [(5, .int y5)]) (hcc : cells + 0 ≤ 0) (hss : slots + 0 ≤ 0) (hw : wX3_coverOf_80 Q QX S y5 z0 w1) : W p l e rmX3_coverOf s m args below meth c H locs cells slots (vx_MQ below (QI G S0 A Q) (XX G S0 A QX) args s 0 0 A) (F0 m 80 ls [.int z0, .ref w1]) := by
  have hx := CF_x C
  have hb := CF_b C
  unfold wX3_coverOf_80 at hw
  refine cl_i C P (run_V C P hl.1 (kd := 3) (met_X3_ground (CF_n C) G H.size _ _ S w1 z0 p_w1 hw) p_w1 (by decide) rfl q_772 q_702 q_703 q_3 q_704 cd_X3_ground ⟨(Nat.le_of_ble_eq_true rfl), (Nat.le_of_ble_eq_true rfl)⟩ rfl rfl (As := [.int z0]) (rest := []) rfl rfl (Nat.le_of_ble_eq_true rfl) dX3_coverOf_80 ⟨by show cells + 0 ≤ 0; omega, by show slots + 0 ≤ 0; omega⟩) (kx_out C hex (fun _ _ _ h => h) (by omega) (by omega)) (fun r2 S1 H locs P hE hw => ?_)
  have p_w1 : pI S1 3 w1 := pI_x hE p_w1
  refine lv_istore (lv' := [(6, .int r2), (5, .int y5)]) hx hb dX3_coverOf_83 hl (by decide) rfl (fun ls hl => ?_)
  exact tX3_coverOf_85 C hr hex Q QX S1 y5 r2 P (lv_sub hl [1, 0] rfl) (by omega) (by omega) hw
def wX3_coverOf_57 (Q : Int32 → MS → Prop) (QX : String → MS → Prop) (S : MS) (a0 : Nat) (y1 : Int32) (y4 : Int32) (y5 : Int32) : Prop := ((y4 = 0 → wX3_coverOf_85 Q QX S y5 0) ∧ (¬ y4 = 0 → ((0 ≤ y4 → wX3_coverOf_80 Q QX S y5 (y1 + 1) a0) ∧ (¬ 0 ≤ y4 → wX3_coverOf_80 Q QX S y5 (y1 - 1) a0))))
set_option maxHeartbeats 4000000 in
set_option maxRecDepth 100000 in
theorem tX3_coverOf_57 {p : Program} {l : Launch} {e : Env} {s : State} {m : MethodId} {args : Array Value} {below : List Frame} {meth : Method} {c : Code} {H : Heap} {locs : List Loc} {cells slots : Nat} {G : GP} {A : Nat → Prop} {S0 : MS} {ls : Array Slot} (C : CF p l s m args meth c "SkirmishGrid$Grid" cX3_coverOf 7 G A) (hr : meth.sig.returnType = (some .int)) (hex : ∀ x ∈ c.exceptionTable.toList, False) (Q : Int32 → MS → Prop) (QX : String → MS → Prop) (S : MS) (a0 : Nat) (y1 : Int32) (y4 : Int32) (y5 : Int32) (p_a0 : pI S 3 a0) (P : PW G A s H locs S0 S) (hl : lv_has ls 7 [(0, .ref a0), (1, .int y1), (4, .int y4), (5, .int y5)]) (hcc : cells + 0 ≤ 0) (hss : slots + 0 ≤ 0) (hw : wX3_coverOf_57 Q QX S a0 y1 y4 y5) : W p l e rmX3_coverOf s m args below meth c H locs cells slots (vx_MQ below (QI G S0 A Q) (XX G S0 A QX) args s 0 0 A) (F0 m 57 ls []) := by
  have hx := CF_x C
  have hb := CF_b C
  unfold wX3_coverOf_57 at hw
  refine lv_iconst (v := 0) hx hb dX3_coverOf_57 (by decide) ?_
  refine lv_istore (lv' := [(6, .int 0), (0, .ref a0), (1, .int y1), (4, .int y4), (5, .int y5)]) hx hb dX3_coverOf_58 hl (by decide) rfl (fun ls hl => ?_)
  refine lv_iload hx hb dX3_coverOf_60 (lv_at hl 3 rfl) ?_
  refine lv_if_eq (tgt := 85) hx hb dX3_coverOf_62 (by decide) (fun hc => ?_) (fun hc => ?_)
  · have hw := hw.1 hc
    exact tX3_coverOf_85 C hr hex Q QX S y5 0 P (lv_sub hl [4, 0] rfl) (by omega) (by omega) hw
  · have hw := hw.2 hc
    refine lv_aload_n hx hb dX3_coverOf_65 rfl (lv_at hl 1 rfl) ?_
    refine lv_iload hx hb dX3_coverOf_66 (lv_at hl 3 rfl) ?_
    refine lv_if_ge (tgt := 77) hx hb dX3_coverOf_68 (by decide) (fun hc => ?_) (fun hc => ?_)
    · have hw := hw.1 hc
      refine lv_iload_n hx hb dX3_coverOf_77 rfl (lv_at hl 2 rfl) ?_
      refine lv_iconst (v := 1) hx hb dX3_coverOf_78 (by decide) ?_
      refine lv_iadd hx hb dX3_coverOf_79 ?_
      exact tX3_coverOf_80 C hr hex Q QX S y5 (y1 + 1) a0 p_a0 P (lv_sub hl [4] rfl) (by omega) (by omega) hw
    · have hw := hw.2 hc
      refine lv_iload_n hx hb dX3_coverOf_71 rfl (lv_at hl 2 rfl) ?_
      refine lv_iconst (v := 1) hx hb dX3_coverOf_72 (by decide) ?_
      refine lv_isub hx hb dX3_coverOf_73 ?_
      refine lv_goto (tgt := 80) hx hb dX3_coverOf_74 (by decide) ?_
      exact tX3_coverOf_80 C hr hex Q QX S y5 (y1 - 1) a0 p_a0 P (lv_sub hl [4] rfl) (by omega) (by omega) hw
def wX3_coverOf_52 (Q : Int32 → MS → Prop) (QX : String → MS → Prop) (S : MS) (a0 : Nat) (y1 : Int32) (y4 : Int32) (z0 : Int32) (w1 : Nat) : Prop := wp_X3_ground (fun r2 S1 => wX3_coverOf_57 Q QX S1 a0 y1 y4 r2) QX S w1 z0
set_option maxHeartbeats 4000000 in
set_option maxRecDepth 100000 in
theorem tX3_coverOf_52 {p : Program} {l : Launch} {e : Env} {s : State} {m : MethodId} {args : Array Value} {below : List Frame} {meth : Method} {c : Code} {H : Heap} {locs : List Loc} {cells slots : Nat} {G : GP} {A : Nat → Prop} {S0 : MS} {ls : Array Slot} (C : CF p l s m args meth c "SkirmishGrid$Grid" cX3_coverOf 7 G A) (hr : meth.sig.returnType = (some .int)) (hex : ∀ x ∈ c.exceptionTable.toList, False) (Q : Int32 → MS → Prop) (QX : String → MS → Prop) (S : MS) (a0 : Nat) (y1 : Int32) (y4 : Int32) (z0 : Int32) (w1 : Nat) (p_a0 : pI S 3 a0) (p_w1 : pI S 3 w1) (P : PW G A s H locs S0 S) (hl : lv_has ls 7 [(0, .ref a0), (1, .int y1), (4, .int y4)]) (hcc : cells + 0 ≤ 0) (hss : slots + 0 ≤ 0) (hw : wX3_coverOf_52 Q QX S a0 y1 y4 z0 w1) : W p l e rmX3_coverOf s m args below meth c H locs cells slots (vx_MQ below (QI G S0 A Q) (XX G S0 A QX) args s 0 0 A) (F0 m 52 ls [.int z0, .ref w1]) := by
  have hx := CF_x C
  have hb := CF_b C
  unfold wX3_coverOf_52 at hw
  refine cl_i C P (run_V C P hl.1 (kd := 3) (met_X3_ground (CF_n C) G H.size _ _ S w1 z0 p_w1 hw) p_w1 (by decide) rfl q_772 q_702 q_703 q_3 q_704 cd_X3_ground ⟨(Nat.le_of_ble_eq_true rfl), (Nat.le_of_ble_eq_true rfl)⟩ rfl rfl (As := [.int z0]) (rest := []) rfl rfl (Nat.le_of_ble_eq_true rfl) dX3_coverOf_52 ⟨by show cells + 0 ≤ 0; omega, by show slots + 0 ≤ 0; omega⟩) (kx_out C hex (fun _ _ _ h => h) (by omega) (by omega)) (fun r2 S1 H locs P hE hw => ?_)
  have p_a0 : pI S1 3 a0 := pI_x hE p_a0
  have p_w1 : pI S1 3 w1 := pI_x hE p_w1
  refine lv_istore (lv' := [(5, .int r2), (0, .ref a0), (1, .int y1), (4, .int y4)]) hx hb dX3_coverOf_55 hl (by decide) rfl (fun ls hl => ?_)
  exact tX3_coverOf_57 C hr hex Q QX S1 a0 y1 y4 r2 p_a0 P (lv_sub hl [1, 2, 3, 0] rfl) (by omega) (by omega) hw
def wX3_coverOf_0 (Q : Int32 → MS → Prop) (QX : String → MS → Prop) (S : MS) (a0 : Nat) (x1 : Int32) (x2 : Int32) : Prop := wp_X3_rowOf (fun r2 S1 => wp_X3_rowOf (fun r4 S3 => wp_X3_columnOf (fun r6 S5 => wp_X3_columnOf (fun r8 S7 => (((r2 - r4) = 0 → wX3_coverOf_57 Q QX S7 a0 x1 (r6 - r8) 0) ∧ (¬ (r2 - r4) = 0 → ((0 ≤ (r2 - r4) → wX3_coverOf_52 Q QX S7 a0 x1 (r6 - r8) (x1 + (mI S7 a0 2)) a0) ∧ (¬ 0 ≤ (r2 - r4) → wX3_coverOf_52 Q QX S7 a0 x1 (r6 - r8) (x1 - (mI S7 a0 2)) a0))))) QX S5 a0 x1) QX S3 a0 x2) QX S1 a0 x1) QX S a0 x2
set_option maxHeartbeats 4000000 in
set_option maxRecDepth 100000 in
theorem tX3_coverOf_0 {p : Program} {l : Launch} {e : Env} {s : State} {m : MethodId} {args : Array Value} {below : List Frame} {meth : Method} {c : Code} {H : Heap} {locs : List Loc} {cells slots : Nat} {G : GP} {A : Nat → Prop} {S0 : MS} {ls : Array Slot} (C : CF p l s m args meth c "SkirmishGrid$Grid" cX3_coverOf 7 G A) (hr : meth.sig.returnType = (some .int)) (hex : ∀ x ∈ c.exceptionTable.toList, False) (Q : Int32 → MS → Prop) (QX : String → MS → Prop) (S : MS) (a0 : Nat) (x1 : Int32) (x2 : Int32) (p_a0 : pI S 3 a0) (P : PW G A s H locs S0 S) (hl : lv_has ls 7 [(0, .ref a0), (1, .int x1), (2, .int x2)]) (hcc : cells + 0 ≤ 0) (hss : slots + 0 ≤ 0) (hw : wX3_coverOf_0 Q QX S a0 x1 x2) : W p l e rmX3_coverOf s m args below meth c H locs cells slots (vx_MQ below (QI G S0 A Q) (XX G S0 A QX) args s 0 0 A) (F0 m 0 ls []) := by
  have hx := CF_x C
  have hb := CF_b C
  unfold wX3_coverOf_0 at hw
  refine lv_aload_n hx hb dX3_coverOf_0 rfl (lv_at hl 0 rfl) ?_
  refine lv_iload_n hx hb dX3_coverOf_1 rfl (lv_at hl 2 rfl) ?_
  refine cl_i C P (run_V C P hl.1 (kd := 3) (met_X3_rowOf (CF_n C) G H.size _ _ S a0 x2 p_a0 hw) p_a0 (by decide) rfl q_750 q_751 q_752 q_3 q_753 cd_X3_rowOf ⟨(Nat.le_of_ble_eq_true rfl), (Nat.le_of_ble_eq_true rfl)⟩ rfl rfl (As := [.int x2]) (rest := []) rfl rfl (Nat.le_of_ble_eq_true rfl) dX3_coverOf_2 ⟨by show cells + 0 ≤ 0; omega, by show slots + 0 ≤ 0; omega⟩) (kx_out C hex (fun _ _ _ h => h) (by omega) (by omega)) (fun r2 S1 H locs P hE hw => ?_)
  have p_a0 : pI S1 3 a0 := pI_x hE p_a0
  refine lv_aload_n hx hb dX3_coverOf_5 rfl (lv_at hl 0 rfl) ?_
  refine lv_iload_n hx hb dX3_coverOf_6 rfl (lv_at hl 1 rfl) ?_
  refine cl_i C P (run_V C P hl.1 (kd := 3) (met_X3_rowOf (CF_n C) G H.size _ _ S1 a0 x1 p_a0 hw) p_a0 (by decide) rfl q_750 q_751 q_752 q_3 q_753 cd_X3_rowOf ⟨(Nat.le_of_ble_eq_true rfl), (Nat.le_of_ble_eq_true rfl)⟩ rfl rfl (As := [.int x1]) (rest := [.int r2]) rfl rfl (Nat.le_of_ble_eq_true rfl) dX3_coverOf_7 ⟨by show cells + 0 ≤ 0; omega, by show slots + 0 ≤ 0; omega⟩) (kx_out C hex (fun _ _ _ h => h) (by omega) (by omega)) (fun r4 S3 H locs P hE hw => ?_)
  have p_a0 : pI S3 3 a0 := pI_x hE p_a0
  refine lv_isub hx hb dX3_coverOf_10 ?_
  refine lv_istore_n (lv' := [(3, .int (r2 - r4)), (0, .ref a0), (1, .int x1), (2, .int x2)]) hx hb dX3_coverOf_11 rfl hl (by decide) rfl (fun ls hl => ?_)
  refine lv_aload_n hx hb dX3_coverOf_12 rfl (lv_at hl 1 rfl) ?_
  refine lv_iload_n hx hb dX3_coverOf_13 rfl (lv_at hl 3 rfl) ?_
  refine cl_i C P (run_V C P hl.1 (kd := 3) (met_X3_columnOf (CF_n C) G H.size _ _ S3 a0 x2 p_a0 hw) p_a0 (by decide) rfl q_754 q_755 q_756 q_3 q_757 cd_X3_columnOf ⟨(Nat.le_of_ble_eq_true rfl), (Nat.le_of_ble_eq_true rfl)⟩ rfl rfl (As := [.int x2]) (rest := []) rfl rfl (Nat.le_of_ble_eq_true rfl) dX3_coverOf_14 ⟨by show cells + 0 ≤ 0; omega, by show slots + 0 ≤ 0; omega⟩) (kx_out C hex (fun _ _ _ h => h) (by omega) (by omega)) (fun r6 S5 H locs P hE hw => ?_)
  have p_a0 : pI S5 3 a0 := pI_x hE p_a0
  refine lv_aload_n hx hb dX3_coverOf_17 rfl (lv_at hl 1 rfl) ?_
  refine lv_iload_n hx hb dX3_coverOf_18 rfl (lv_at hl 2 rfl) ?_
  refine cl_i C P (run_V C P hl.1 (kd := 3) (met_X3_columnOf (CF_n C) G H.size _ _ S5 a0 x1 p_a0 hw) p_a0 (by decide) rfl q_754 q_755 q_756 q_3 q_757 cd_X3_columnOf ⟨(Nat.le_of_ble_eq_true rfl), (Nat.le_of_ble_eq_true rfl)⟩ rfl rfl (As := [.int x1]) (rest := [.int r6]) rfl rfl (Nat.le_of_ble_eq_true rfl) dX3_coverOf_19 ⟨by show cells + 0 ≤ 0; omega, by show slots + 0 ≤ 0; omega⟩) (kx_out C hex (fun _ _ _ h => h) (by omega) (by omega)) (fun r8 S7 H locs P hE hw => ?_)
  have p_a0 : pI S7 3 a0 := pI_x hE p_a0
  refine lv_isub hx hb dX3_coverOf_22 ?_
  refine lv_istore (lv' := [(4, .int (r6 - r8)), (3, .int (r2 - r4)), (0, .ref a0), (1, .int x1), (2, .int x2)]) hx hb dX3_coverOf_23 hl (by decide) rfl (fun ls hl => ?_)
  refine lv_iconst (v := 0) hx hb dX3_coverOf_25 (by decide) ?_
  refine lv_istore (lv' := [(5, .int 0), (4, .int (r6 - r8)), (3, .int (r2 - r4)), (0, .ref a0), (1, .int x1), (2, .int x2)]) hx hb dX3_coverOf_26 hl (by decide) rfl (fun ls hl => ?_)
  refine lv_iload_n hx hb dX3_coverOf_28 rfl (lv_at hl 2 rfl) ?_
  refine lv_if_eq (tgt := 57) hx hb dX3_coverOf_29 (by decide) (fun hc => ?_) (fun hc => ?_)
  · have hw := hw.1 hc
    exact tX3_coverOf_57 C hr hex Q QX S7 a0 x1 (r6 - r8) 0 p_a0 P (lv_sub hl [3, 4, 1, 0] rfl) (by omega) (by omega) hw
  · have hw := hw.2 hc
    refine lv_aload_n hx hb dX3_coverOf_32 rfl (lv_at hl 3 rfl) ?_
    refine lv_iload_n hx hb dX3_coverOf_33 rfl (lv_at hl 2 rfl) ?_
    refine lv_if_ge (tgt := 46) hx hb dX3_coverOf_34 (by decide) (fun hc => ?_) (fun hc => ?_)
    · have hw := hw.1 hc
      refine lv_iload_n hx hb dX3_coverOf_46 rfl (lv_at hl 4 rfl) ?_
      refine lv_aload_n hx hb dX3_coverOf_47 rfl (lv_at hl 3 rfl) ?_
      refine gf_3_2 C P p_a0 q_54 dX3_coverOf_48 ?_
      refine lv_iadd hx hb dX3_coverOf_51 ?_
      exact tX3_coverOf_52 C hr hex Q QX S7 a0 x1 (r6 - r8) (x1 + (mI S7 a0 2)) a0 p_a0 p_a0 P (lv_sub hl [3, 4, 1] rfl) (by omega) (by omega) hw
    · have hw := hw.2 hc
      refine lv_iload_n hx hb dX3_coverOf_37 rfl (lv_at hl 4 rfl) ?_
      refine lv_aload_n hx hb dX3_coverOf_38 rfl (lv_at hl 3 rfl) ?_
      refine gf_3_2 C P p_a0 q_54 dX3_coverOf_39 ?_
      refine lv_isub hx hb dX3_coverOf_42 ?_
      refine lv_goto (tgt := 52) hx hb dX3_coverOf_43 (by decide) ?_
      exact tX3_coverOf_52 C hr hex Q QX S7 a0 x1 (r6 - r8) (x1 - (mI S7 a0 2)) a0 p_a0 p_a0 P (lv_sub hl [3, 4, 1] rfl) (by omega) (by omega) hw
def wp_X3_coverOf (Q : Int32 → MS → Prop) (QX : String → MS → Prop) (S : MS) (a0 : Nat) (x1 : Int32) (x2 : Int32) : Prop := wX3_coverOf_0 Q QX S a0 x1 x2
set_option maxHeartbeats 4000000 in
set_option maxRecDepth 100000 in
theorem met_X3_coverOf {l : Launch} (hst : l.stackTraces = false) (G : GP) (sz : Nat) (Q : Int32 → MS → Prop) (QX : String → MS → Prop) (S : MS) (a0 : Nat) (x1 : Int32) (x2 : Int32) (p_a0 : pI S 3 a0) (hw : wp_X3_coverOf Q QX S a0 x1 x2) : vx_Met l yX3_coverOf (.code yX3_coverOf cX3_coverOf 7 (some .int) :: GW) rmX3_coverOf (va_Pc [.ref a0, .int x1, .int x2] (PR G S sz)) (QI G S (FA G S sz) Q) (XX G S (FA G S sz) QX) 0 0 (FA G S sz) := by
  refine st_m (by decide +kernel) hst (fun p e s m below meth c C hr hnm hex P => ?_)
  refine en_m (Nat.le_of_ble_eq_true rfl) (lv := [(0, .ref a0), (1, .int x1), (2, .int x2)]) rfl (fun ls hl => ?_)
  have C : CF p l s m _ meth c "SkirmishGrid$Grid" cX3_coverOf 7 G (FA G S sz) := C
  exact tX3_coverOf_0 C hr hex Q QX S a0 x1 x2 p_a0 P hl (by omega) (by omega) hw
theorem cd_X3_coverOf : yX3_coverOf.cls = RX3 ∧ yX3_coverOf.cls ≠ "java/lang/invoke/MethodHandle" ∧ yX3_coverOf.cls ≠ "java/lang/invoke/VarHandle" ∧ (parseMethodDescriptor yX3_coverOf.desc).map (fun d => d.parameters.length) = some 2 := by decide +kernel
abbrev rmX3_isInWay : Room := { frames := 1, cells := 0, slots := 0, locals := 60 }
def wX3_isInWay_112 (Q : Int32 → MS → Prop) (QX : String → MS → Prop) (S : MS) (y4 : Int32) (y5 : Int32) (y6 : Int32) (y7 : Int32) : Prop := ((((if 0 ≤ (y6 - y4) then (y6 - y4) else 0 - (y6 - y4)) + (if 0 ≤ (y7 - y5) then (y7 - y5) else 0 - (y7 - y5))) ≤ (if 0 ≤ (((y6 - y4) * y5) - ((y7 - y5) * y4)) then (((y6 - y4) * y5) - ((y7 - y5) * y4)) else 0 - (((y6 - y4) * y5) - ((y7 - y5) * y4))) → Q 0 S) ∧ (¬ ((if 0 ≤ (y6 - y4) then (y6 - y4) else 0 - (y6 - y4)) + (if 0 ≤ (y7 - y5) then (y7 - y5) else 0 - (y7 - y5))) ≤ (if 0 ≤ (((y6 - y4) * y5) - ((y7 - y5) * y4)) then (((y6 - y4) * y5) - ((y7 - y5) * y4)) else 0 - (((y6 - y4) * y5) - ((y7 - y5) * y4))) → Q 1 S))
set_option maxHeartbeats 4000000 in
set_option maxRecDepth 100000 in
theorem tX3_isInWay_112 {p : Program} {l : Launch} {e : Env} {s : State} {m : MethodId} {args : Array Value} {below : List Frame} {meth : Method} {c : Code} {H : Heap} {locs : List Loc} {cells slots : Nat} {G : GP} {A : Nat → Prop} {S0 : MS} {ls : Array Slot} (C : CF p l s m args meth c "SkirmishGrid$Grid" cX3_isInWay 11 G A) (hr : meth.sig.returnType = (some .boolean)) (hex : ∀ x ∈ c.exceptionTable.toList, False) (Q : Int32 → MS → Prop) (QX : String → MS → Prop) (S : MS) (y4 : Int32) (y5 : Int32) (y6 : Int32) (y7 : Int32) (P : PW G A s H locs S0 S) (hl : lv_has ls 11 [(4, .int y4), (5, .int y5), (6, .int y6), (7, .int y7)]) (hcc : cells + 0 ≤ 0) (hss : slots + 0 ≤ 0) (hw : wX3_isInWay_112 Q QX S y4 y5 y6 y7) : W p l e rmX3_isInWay s m args below meth c H locs cells slots (vx_MQ below (QI G S0 A Q) (XX G S0 A QX) args s 0 0 A) (F0 m 112 ls []) := by
  have hx := CF_x C
  have hb := CF_b C
  unfold wX3_isInWay_112 at hw
  refine lv_iload hx hb dX3_isInWay_112 (lv_at hl 2 rfl) ?_
  refine lv_iload hx hb dX3_isInWay_114 (lv_at hl 0 rfl) ?_
  refine lv_isub hx hb dX3_isInWay_116 ?_
  refine lv_istore (lv' := [(8, .int (y6 - y4)), (4, .int y4), (5, .int y5), (6, .int y6), (7, .int y7)]) hx hb dX3_isInWay_117 hl (by decide) rfl (fun ls hl => ?_)
  refine lv_iload hx hb dX3_isInWay_119 (lv_at hl 4 rfl) ?_
  refine lv_iload hx hb dX3_isInWay_121 (lv_at hl 2 rfl) ?_
  refine lv_isub hx hb dX3_isInWay_123 ?_
  refine lv_istore (lv' := [(9, .int (y7 - y5)), (8, .int (y6 - y4)), (4, .int y4), (5, .int y5), (6, .int y6), (7, .int y7)]) hx hb dX3_isInWay_124 hl (by decide) rfl (fun ls hl => ?_)
  refine lv_iload hx hb dX3_isInWay_126 (lv_at hl 1 rfl) ?_
  refine lv_iload hx hb dX3_isInWay_128 (lv_at hl 3 rfl) ?_
  refine lv_imul hx hb dX3_isInWay_130 ?_
  refine lv_iload hx hb dX3_isInWay_131 (lv_at hl 0 rfl) ?_
  refine lv_iload hx hb dX3_isInWay_133 (lv_at hl 2 rfl) ?_
  refine lv_imul hx hb dX3_isInWay_135 ?_
  refine lv_isub hx hb dX3_isInWay_136 ?_
  refine lv_istore (lv' := [(10, .int (((y6 - y4) * y5) - ((y7 - y5) * y4))), (9, .int (y7 - y5)), (8, .int (y6 - y4)), (4, .int y4), (5, .int y5), (6, .int y6), (7, .int y7)]) hx hb dX3_isInWay_137 hl (by decide) rfl (fun ls hl => ?_)
  refine lv_iload hx hb dX3_isInWay_139 (lv_at hl 0 rfl) ?_
  refine va_mabs hx hb ((CF_m C).trans hl.1.symm) (CF_o C) (CF_t C _ q_758) (CF_t C _ q_759) (CF_t C _ q_18) (CF_t C _ q_760) (Nat.le_of_ble_eq_true rfl) (Nat.le_of_ble_eq_true rfl) (by show cells ≤ 0; omega) (by show slots ≤ 0; omega) dX3_isInWay_141 ?_
  refine lv_iload hx hb dX3_isInWay_144 (lv_at hl 2 rfl) ?_
  refine va_mabs hx hb ((CF_m C).trans hl.1.symm) (CF_o C) (CF_t C _ q_758) (CF_t C _ q_759) (CF_t C _ q_18) (CF_t C _ q_760) (Nat.le_of_ble_eq_true rfl) (Nat.le_of_ble_eq_true rfl) (by show cells ≤ 0; omega) (by show slots ≤ 0; omega) dX3_isInWay_146 ?_
  refine lv_iload hx hb dX3_isInWay_149 (lv_at hl 1 rfl) ?_
  refine va_mabs hx hb ((CF_m C).trans hl.1.symm) (CF_o C) (CF_t C _ q_758) (CF_t C _ q_759) (CF_t C _ q_18) (CF_t C _ q_760) (Nat.le_of_ble_eq_true rfl) (Nat.le_of_ble_eq_true rfl) (by show cells ≤ 0; omega) (by show slots ≤ 0; omega) dX3_isInWay_151 ?_
  refine lv_iadd hx hb dX3_isInWay_154 ?_
  refine lv_icmp_ge (tgt := 162) hx hb dX3_isInWay_155 (by decide) (fun hc => ?_) (fun hc => ?_)
  · have hw := hw.1 hc
    refine lv_iconst (v := 0) hx hb dX3_isInWay_162 (by decide) ?_
    exact e_i C hr (by decide +kernel) P hw (by omega) (by omega) dX3_isInWay_163
  · have hw := hw.2 hc
    refine lv_iconst (v := 1) hx hb dX3_isInWay_158 (by decide) ?_
    refine lv_goto (tgt := 163) hx hb dX3_isInWay_159 (by decide) ?_
    exact e_i C hr (by decide +kernel) P hw (by omega) (by omega) dX3_isInWay_163
def wX3_isInWay_98 (Q : Int32 → MS → Prop) (QX : String → MS → Prop) (S : MS) (y4 : Int32) (y5 : Int32) (y6 : Int32) (y7 : Int32) : Prop := (((-1) < y5 → wX3_isInWay_112 Q QX S y4 y5 y6 y7) ∧ (¬ (-1) < y5 → (((-1) < y7 → wX3_isInWay_112 Q QX S y4 y5 y6 y7) ∧ (¬ (-1) < y7 → Q 0 S))))
set_option maxHeartbeats 4000000 in
set_option maxRecDepth 100000 in
theorem tX3_isInWay_98 {p : Program} {l : Launch} {e : Env} {s : State} {m : MethodId} {args : Array Value} {below : List Frame} {meth : Method} {c : Code} {H : Heap} {locs : List Loc} {cells slots : Nat} {G : GP} {A : Nat → Prop} {S0 : MS} {ls : Array Slot} (C : CF p l s m args meth c "SkirmishGrid$Grid" cX3_isInWay 11 G A) (hr : meth.sig.returnType = (some .boolean)) (hex : ∀ x ∈ c.exceptionTable.toList, False) (Q : Int32 → MS → Prop) (QX : String → MS → Prop) (S : MS) (y4 : Int32) (y5 : Int32) (y6 : Int32) (y7 : Int32) (P : PW G A s H locs S0 S) (hl : lv_has ls 11 [(4, .int y4), (5, .int y5), (6, .int y6), (7, .int y7)]) (hcc : cells + 0 ≤ 0) (hss : slots + 0 ≤ 0) (hw : wX3_isInWay_98 Q QX S y4 y5 y6 y7) : W p l e rmX3_isInWay s m args below meth c H locs cells slots (vx_MQ below (QI G S0 A Q) (XX G S0 A QX) args s 0 0 A) (F0 m 98 ls []) := by
  have hx := CF_x C
  have hb := CF_b C
  unfold wX3_isInWay_98 at hw
  refine lv_iload hx hb dX3_isInWay_98 (lv_at hl 1 rfl) ?_
  refine lv_iconst (v := (-1)) hx hb dX3_isInWay_100 (by decide) ?_
  refine lv_icmp_gt (tgt := 112) hx hb dX3_isInWay_101 (by decide) (fun hc => ?_) (fun hc => ?_)
  · have hw := hw.1 hc
    exact tX3_isInWay_112 C hr hex Q QX S y4 y5 y6 y7 P (lv_sub hl [0, 1, 2, 3] rfl) (by omega) (by omega) hw
  · have hw := hw.2 hc
    refine lv_iload hx hb dX3_isInWay_104 (lv_at hl 3 rfl) ?_
    refine lv_iconst (v := (-1)) hx hb dX3_isInWay_106 (by decide) ?_
    refine lv_icmp_gt (tgt := 112) hx hb dX3_isInWay_107 (by decide) (fun hc => ?_) (fun hc => ?_)
    · have hw := hw.1 hc
      exact tX3_isInWay_112 C hr hex Q QX S y4 y5 y6 y7 P (lv_sub hl [0, 1, 2, 3] rfl) (by omega) (by omega) hw
    · have hw := hw.2 hc
      refine lv_iconst (v := 0) hx hb dX3_isInWay_110 (by decide) ?_
      exact e_i C hr (by decide +kernel) P hw (by omega) (by omega) dX3_isInWay_111
def wX3_isInWay_86 (Q : Int32 → MS → Prop) (QX : String → MS → Prop) (S : MS) (y4 : Int32) (y5 : Int32) (y6 : Int32) (y7 : Int32) : Prop := ((y5 < 1 → wX3_isInWay_98 Q QX S y4 y5 y6 y7) ∧ (¬ y5 < 1 → ((1 ≤ y7 → Q 0 S) ∧ (¬ 1 ≤ y7 → wX3_isInWay_98 Q QX S y4 y5 y6 y7))))
set_option maxHeartbeats 4000000 in
set_option maxRecDepth 100000 in
theorem tX3_isInWay_86 {p : Program} {l : Launch} {e : Env} {s : State} {m : MethodId} {args : Array Value} {below : List Frame} {meth : Method} {c : Code} {H : Heap} {locs : List Loc} {cells slots : Nat} {G : GP} {A : Nat → Prop} {S0 : MS} {ls : Array Slot} (C : CF p l s m args meth c "SkirmishGrid$Grid" cX3_isInWay 11 G A) (hr : meth.sig.returnType = (some .boolean)) (hex : ∀ x ∈ c.exceptionTable.toList, False) (Q : Int32 → MS → Prop) (QX : String → MS → Prop) (S : MS) (y4 : Int32) (y5 : Int32) (y6 : Int32) (y7 : Int32) (P : PW G A s H locs S0 S) (hl : lv_has ls 11 [(4, .int y4), (5, .int y5), (6, .int y6), (7, .int y7)]) (hcc : cells + 0 ≤ 0) (hss : slots + 0 ≤ 0) (hw : wX3_isInWay_86 Q QX S y4 y5 y6 y7) : W p l e rmX3_isInWay s m args below meth c H locs cells slots (vx_MQ below (QI G S0 A Q) (XX G S0 A QX) args s 0 0 A) (F0 m 86 ls []) := by
  have hx := CF_x C
  have hb := CF_b C
  unfold wX3_isInWay_86 at hw
  refine lv_iload hx hb dX3_isInWay_86 (lv_at hl 1 rfl) ?_
  refine lv_iconst (v := 1) hx hb dX3_isInWay_88 (by decide) ?_
  refine lv_icmp_lt (tgt := 98) hx hb dX3_isInWay_89 (by decide) (fun hc => ?_) (fun hc => ?_)
  · have hw := hw.1 hc
    exact tX3_isInWay_98 C hr hex Q QX S y4 y5 y6 y7 P (lv_sub hl [0, 1, 2, 3] rfl) (by omega) (by omega) hw
  · have hw := hw.2 hc
    refine lv_iload hx hb dX3_isInWay_92 (lv_at hl 3 rfl) ?_
    refine lv_iconst (v := 1) hx hb dX3_isInWay_94 (by decide) ?_
    refine lv_icmp_ge (tgt := 110) hx hb dX3_isInWay_95 (by decide) (fun hc => ?_) (fun hc => ?_)
    · have hw := hw.1 hc
      refine lv_iconst (v := 0) hx hb dX3_isInWay_110 (by decide) ?_
      exact e_i C hr (by decide +kernel) P hw (by omega) (by omega) dX3_isInWay_111
    · have hw := hw.2 hc
      exact tX3_isInWay_98 C hr hex Q QX S y4 y5 y6 y7 P (lv_sub hl [0, 1, 2, 3] rfl) (by omega) (by omega) hw
def wX3_isInWay_72 (Q : Int32 → MS → Prop) (QX : String → MS → Prop) (S : MS) (y4 : Int32) (y5 : Int32) (y6 : Int32) (y7 : Int32) : Prop := (((-1) < y4 → wX3_isInWay_86 Q QX S y4 y5 y6 y7) ∧ (¬ (-1) < y4 → (((-1) < y6 → wX3_isInWay_86 Q QX S y4 y5 y6 y7) ∧ (¬ (-1) < y6 → Q 0 S))))
set_option maxHeartbeats 4000000 in
set_option maxRecDepth 100000 in
theorem tX3_isInWay_72 {p : Program} {l : Launch} {e : Env} {s : State} {m : MethodId} {args : Array Value} {below : List Frame} {meth : Method} {c : Code} {H : Heap} {locs : List Loc} {cells slots : Nat} {G : GP} {A : Nat → Prop} {S0 : MS} {ls : Array Slot} (C : CF p l s m args meth c "SkirmishGrid$Grid" cX3_isInWay 11 G A) (hr : meth.sig.returnType = (some .boolean)) (hex : ∀ x ∈ c.exceptionTable.toList, False) (Q : Int32 → MS → Prop) (QX : String → MS → Prop) (S : MS) (y4 : Int32) (y5 : Int32) (y6 : Int32) (y7 : Int32) (P : PW G A s H locs S0 S) (hl : lv_has ls 11 [(4, .int y4), (5, .int y5), (6, .int y6), (7, .int y7)]) (hcc : cells + 0 ≤ 0) (hss : slots + 0 ≤ 0) (hw : wX3_isInWay_72 Q QX S y4 y5 y6 y7) : W p l e rmX3_isInWay s m args below meth c H locs cells slots (vx_MQ below (QI G S0 A Q) (XX G S0 A QX) args s 0 0 A) (F0 m 72 ls []) := by
  have hx := CF_x C
  have hb := CF_b C
  unfold wX3_isInWay_72 at hw
  refine lv_iload hx hb dX3_isInWay_72 (lv_at hl 0 rfl) ?_
  refine lv_iconst (v := (-1)) hx hb dX3_isInWay_74 (by decide) ?_
  refine lv_icmp_gt (tgt := 86) hx hb dX3_isInWay_75 (by decide) (fun hc => ?_) (fun hc => ?_)
  · have hw := hw.1 hc
    exact tX3_isInWay_86 C hr hex Q QX S y4 y5 y6 y7 P (lv_sub hl [0, 1, 2, 3] rfl) (by omega) (by omega) hw
  · have hw := hw.2 hc
    refine lv_iload hx hb dX3_isInWay_78 (lv_at hl 2 rfl) ?_
    refine lv_iconst (v := (-1)) hx hb dX3_isInWay_80 (by decide) ?_
    refine lv_icmp_gt (tgt := 86) hx hb dX3_isInWay_81 (by decide) (fun hc => ?_) (fun hc => ?_)
    · have hw := hw.1 hc
      exact tX3_isInWay_86 C hr hex Q QX S y4 y5 y6 y7 P (lv_sub hl [0, 1, 2, 3] rfl) (by omega) (by omega) hw
    · have hw := hw.2 hc
      refine lv_iconst (v := 0) hx hb dX3_isInWay_84 (by decide) ?_
      exact e_i C hr (by decide +kernel) P hw (by omega) (by omega) dX3_isInWay_85
def wX3_isInWay_0 (Q : Int32 → MS → Prop) (QX : String → MS → Prop) (S : MS) (a0 : Nat) (x1 : Int32) (x2 : Int32) (x3 : Int32) : Prop := wp_X3_rowOf (fun r2 S1 => wp_X3_rowOf (fun r4 S3 => wp_X3_columnOf (fun r6 S5 => wp_X3_columnOf (fun r8 S7 => wp_X3_rowOf (fun r10 S9 => wp_X3_rowOf (fun r12 S11 => wp_X3_columnOf (fun r14 S13 => wp_X3_columnOf (fun r16 S15 => (((2 * (r2 - r4)) < 1 → wX3_isInWay_72 Q QX S15 (2 * (r2 - r4)) (2 * (r6 - r8)) (2 * (r10 - r12)) (2 * (r14 - r16))) ∧ (¬ (2 * (r2 - r4)) < 1 → ((1 ≤ (2 * (r10 - r12)) → Q 0 S15) ∧ (¬ 1 ≤ (2 * (r10 - r12)) → wX3_isInWay_72 Q QX S15 (2 * (r2 - r4)) (2 * (r6 - r8)) (2 * (r10 - r12)) (2 * (r14 - r16))))))) QX S13 a0 x1) QX S11 a0 x3) QX S9 a0 x1) QX S7 a0 x3) QX S5 a0 x1) QX S3 a0 x2) QX S1 a0 x1) QX S a0 x2
set_option maxHeartbeats 4000000 in
set_option maxRecDepth 100000 in
theorem tX3_isInWay_0 {p : Program} {l : Launch} {e : Env} {s : State} {m : MethodId} {args : Array Value} {below : List Frame} {meth : Method} {c : Code} {H : Heap} {locs : List Loc} {cells slots : Nat} {G : GP} {A : Nat → Prop} {S0 : MS} {ls : Array Slot} (C : CF p l s m args meth c "SkirmishGrid$Grid" cX3_isInWay 11 G A) (hr : meth.sig.returnType = (some .boolean)) (hex : ∀ x ∈ c.exceptionTable.toList, False) (Q : Int32 → MS → Prop) (QX : String → MS → Prop) (S : MS) (a0 : Nat) (x1 : Int32) (x2 : Int32) (x3 : Int32) (p_a0 : pI S 3 a0) (P : PW G A s H locs S0 S) (hl : lv_has ls 11 [(0, .ref a0), (1, .int x1), (2, .int x2), (3, .int x3)]) (hcc : cells + 0 ≤ 0) (hss : slots + 0 ≤ 0) (hw : wX3_isInWay_0 Q QX S a0 x1 x2 x3) : W p l e rmX3_isInWay s m args below meth c H locs cells slots (vx_MQ below (QI G S0 A Q) (XX G S0 A QX) args s 0 0 A) (F0 m 0 ls []) := by
  have hx := CF_x C
  have hb := CF_b C
  unfold wX3_isInWay_0 at hw
  refine lv_iconst (v := 2) hx hb dX3_isInWay_0 (by decide) ?_
  refine lv_aload_n hx hb dX3_isInWay_1 rfl (lv_at hl 0 rfl) ?_
  refine lv_iload_n hx hb dX3_isInWay_2 rfl (lv_at hl 2 rfl) ?_
  refine cl_i C P (run_V C P hl.1 (kd := 3) (met_X3_rowOf (CF_n C) G H.size _ _ S a0 x2 p_a0 hw) p_a0 (by decide) rfl q_750 q_751 q_752 q_3 q_753 cd_X3_rowOf ⟨(Nat.le_of_ble_eq_true rfl), (Nat.le_of_ble_eq_true rfl)⟩ rfl rfl (As := [.int x2]) (rest := [.int 2]) rfl rfl (Nat.le_of_ble_eq_true rfl) dX3_isInWay_3 ⟨by show cells + 0 ≤ 0; omega, by show slots + 0 ≤ 0; omega⟩) (kx_out C hex (fun _ _ _ h => h) (by omega) (by omega)) (fun r2 S1 H locs P hE hw => ?_)
  have p_a0 : pI S1 3 a0 := pI_x hE p_a0
  refine lv_aload_n hx hb dX3_isInWay_6 rfl (lv_at hl 0 rfl) ?_
  refine lv_iload_n hx hb dX3_isInWay_7 rfl (lv_at hl 1 rfl) ?_
  refine cl_i C P (run_V C P hl.1 (kd := 3) (met_X3_rowOf (CF_n C) G H.size _ _ S1 a0 x1 p_a0 hw) p_a0 (by decide) rfl q_750 q_751 q_752 q_3 q_753 cd_X3_rowOf ⟨(Nat.le_of_ble_eq_true rfl), (Nat.le_of_ble_eq_true rfl)⟩ rfl rfl (As := [.int x1]) (rest := [.int r2, .int 2]) rfl rfl (Nat.le_of_ble_eq_true rfl) dX3_isInWay_8 ⟨by show cells + 0 ≤ 0; omega, by show slots + 0 ≤ 0; omega⟩) (kx_out C hex (fun _ _ _ h => h) (by omega) (by omega)) (fun r4 S3 H locs P hE hw => ?_)
  have p_a0 : pI S3 3 a0 := pI_x hE p_a0
  refine lv_isub hx hb dX3_isInWay_11 ?_
  refine lv_imul hx hb dX3_isInWay_12 ?_
  refine lv_istore (lv' := [(4, .int (2 * (r2 - r4))), (0, .ref a0), (1, .int x1), (2, .int x2), (3, .int x3)]) hx hb dX3_isInWay_13 hl (by decide) rfl (fun ls hl => ?_)
  refine lv_iconst (v := 2) hx hb dX3_isInWay_15 (by decide) ?_
  refine lv_aload_n hx hb dX3_isInWay_16 rfl (lv_at hl 1 rfl) ?_
  refine lv_iload_n hx hb dX3_isInWay_17 rfl (lv_at hl 3 rfl) ?_
  refine cl_i C P (run_V C P hl.1 (kd := 3) (met_X3_columnOf (CF_n C) G H.size _ _ S3 a0 x2 p_a0 hw) p_a0 (by decide) rfl q_754 q_755 q_756 q_3 q_757 cd_X3_columnOf ⟨(Nat.le_of_ble_eq_true rfl), (Nat.le_of_ble_eq_true rfl)⟩ rfl rfl (As := [.int x2]) (rest := [.int 2]) rfl rfl (Nat.le_of_ble_eq_true rfl) dX3_isInWay_18 ⟨by show cells + 0 ≤ 0; omega, by show slots + 0 ≤ 0; omega⟩) (kx_out C hex (fun _ _ _ h => h) (by omega) (by omega)) (fun r6 S5 H locs P hE hw => ?_)
  have p_a0 : pI S5 3 a0 := pI_x hE p_a0
  refine lv_aload_n hx hb dX3_isInWay_21 rfl (lv_at hl 1 rfl) ?_
  refine lv_iload_n hx hb dX3_isInWay_22 rfl (lv_at hl 2 rfl) ?_
  refine cl_i C P (run_V C P hl.1 (kd := 3) (met_X3_columnOf (CF_n C) G H.size _ _ S5 a0 x1 p_a0 hw) p_a0 (by decide) rfl q_754 q_755 q_756 q_3 q_757 cd_X3_columnOf ⟨(Nat.le_of_ble_eq_true rfl), (Nat.le_of_ble_eq_true rfl)⟩ rfl rfl (As := [.int x1]) (rest := [.int r6, .int 2]) rfl rfl (Nat.le_of_ble_eq_true rfl) dX3_isInWay_23 ⟨by show cells + 0 ≤ 0; omega, by show slots + 0 ≤ 0; omega⟩) (kx_out C hex (fun _ _ _ h => h) (by omega) (by omega)) (fun r8 S7 H locs P hE hw => ?_)
  have p_a0 : pI S7 3 a0 := pI_x hE p_a0
  refine lv_isub hx hb dX3_isInWay_26 ?_
  refine lv_imul hx hb dX3_isInWay_27 ?_
  refine lv_istore (lv' := [(5, .int (2 * (r6 - r8))), (4, .int (2 * (r2 - r4))), (0, .ref a0), (1, .int x1), (2, .int x2), (3, .int x3)]) hx hb dX3_isInWay_28 hl (by decide) rfl (fun ls hl => ?_)
  refine lv_iconst (v := 2) hx hb dX3_isInWay_30 (by decide) ?_
  refine lv_aload_n hx hb dX3_isInWay_31 rfl (lv_at hl 2 rfl) ?_
  refine lv_iload_n hx hb dX3_isInWay_32 rfl (lv_at hl 5 rfl) ?_
  refine cl_i C P (run_V C P hl.1 (kd := 3) (met_X3_rowOf (CF_n C) G H.size _ _ S7 a0 x3 p_a0 hw) p_a0 (by decide) rfl q_750 q_751 q_752 q_3 q_753 cd_X3_rowOf ⟨(Nat.le_of_ble_eq_true rfl), (Nat.le_of_ble_eq_true rfl)⟩ rfl rfl (As := [.int x3]) (rest := [.int 2]) rfl rfl (Nat.le_of_ble_eq_true rfl) dX3_isInWay_33 ⟨by show cells + 0 ≤ 0; omega, by show slots + 0 ≤ 0; omega⟩) (kx_out C hex (fun _ _ _ h => h) (by omega) (by omega)) (fun r10 S9 H locs P hE hw => ?_)
  have p_a0 : pI S9 3 a0 := pI_x hE p_a0
  refine lv_aload_n hx hb dX3_isInWay_36 rfl (lv_at hl 2 rfl) ?_
  refine lv_iload_n hx hb dX3_isInWay_37 rfl (lv_at hl 3 rfl) ?_
  refine cl_i C P (run_V C P hl.1 (kd := 3) (met_X3_rowOf (CF_n C) G H.size _ _ S9 a0 x1 p_a0 hw) p_a0 (by decide) rfl q_750 q_751 q_752 q_3 q_753 cd_X3_rowOf ⟨(Nat.le_of_ble_eq_true rfl), (Nat.le_of_ble_eq_true rfl)⟩ rfl rfl (As := [.int x1]) (rest := [.int r10, .int 2]) rfl rfl (Nat.le_of_ble_eq_true rfl) dX3_isInWay_38 ⟨by show cells + 0 ≤ 0; omega, by show slots + 0 ≤ 0; omega⟩) (kx_out C hex (fun _ _ _ h => h) (by omega) (by omega)) (fun r12 S11 H locs P hE hw => ?_)
  have p_a0 : pI S11 3 a0 := pI_x hE p_a0
  refine lv_isub hx hb dX3_isInWay_41 ?_
  refine lv_imul hx hb dX3_isInWay_42 ?_
  refine lv_istore (lv' := [(6, .int (2 * (r10 - r12))), (5, .int (2 * (r6 - r8))), (4, .int (2 * (r2 - r4))), (0, .ref a0), (1, .int x1), (2, .int x2), (3, .int x3)]) hx hb dX3_isInWay_43 hl (by decide) rfl (fun ls hl => ?_)
  refine lv_iconst (v := 2) hx hb dX3_isInWay_45 (by decide) ?_
  refine lv_aload_n hx hb dX3_isInWay_46 rfl (lv_at hl 3 rfl) ?_
  refine lv_iload_n hx hb dX3_isInWay_47 rfl (lv_at hl 6 rfl) ?_
  refine cl_i C P (run_V C P hl.1 (kd := 3) (met_X3_columnOf (CF_n C) G H.size _ _ S11 a0 x3 p_a0 hw) p_a0 (by decide) rfl q_754 q_755 q_756 q_3 q_757 cd_X3_columnOf ⟨(Nat.le_of_ble_eq_true rfl), (Nat.le_of_ble_eq_true rfl)⟩ rfl rfl (As := [.int x3]) (rest := [.int 2]) rfl rfl (Nat.le_of_ble_eq_true rfl) dX3_isInWay_48 ⟨by show cells + 0 ≤ 0; omega, by show slots + 0 ≤ 0; omega⟩) (kx_out C hex (fun _ _ _ h => h) (by omega) (by omega)) (fun r14 S13 H locs P hE hw => ?_)
  have p_a0 : pI S13 3 a0 := pI_x hE p_a0
  refine lv_aload_n hx hb dX3_isInWay_51 rfl (lv_at hl 3 rfl) ?_
  refine lv_iload_n hx hb dX3_isInWay_52 rfl (lv_at hl 4 rfl) ?_
  refine cl_i C P (run_V C P hl.1 (kd := 3) (met_X3_columnOf (CF_n C) G H.size _ _ S13 a0 x1 p_a0 hw) p_a0 (by decide) rfl q_754 q_755 q_756 q_3 q_757 cd_X3_columnOf ⟨(Nat.le_of_ble_eq_true rfl), (Nat.le_of_ble_eq_true rfl)⟩ rfl rfl (As := [.int x1]) (rest := [.int r14, .int 2]) rfl rfl (Nat.le_of_ble_eq_true rfl) dX3_isInWay_53 ⟨by show cells + 0 ≤ 0; omega, by show slots + 0 ≤ 0; omega⟩) (kx_out C hex (fun _ _ _ h => h) (by omega) (by omega)) (fun r16 S15 H locs P hE hw => ?_)
  have p_a0 : pI S15 3 a0 := pI_x hE p_a0
  refine lv_isub hx hb dX3_isInWay_56 ?_
  refine lv_imul hx hb dX3_isInWay_57 ?_
  refine lv_istore (lv' := [(7, .int (2 * (r14 - r16))), (6, .int (2 * (r10 - r12))), (5, .int (2 * (r6 - r8))), (4, .int (2 * (r2 - r4))), (0, .ref a0), (1, .int x1), (2, .int x2), (3, .int x3)]) hx hb dX3_isInWay_58 hl (by decide) rfl (fun ls hl => ?_)
  refine lv_iload hx hb dX3_isInWay_60 (lv_at hl 3 rfl) ?_
  refine lv_iconst (v := 1) hx hb dX3_isInWay_62 (by decide) ?_
  refine lv_icmp_lt (tgt := 72) hx hb dX3_isInWay_63 (by decide) (fun hc => ?_) (fun hc => ?_)
  · have hw := hw.1 hc
    exact tX3_isInWay_72 C hr hex Q QX S15 (2 * (r2 - r4)) (2 * (r6 - r8)) (2 * (r10 - r12)) (2 * (r14 - r16)) P (lv_sub hl [3, 2, 1, 0] rfl) (by omega) (by omega) hw
  · have hw := hw.2 hc
    refine lv_iload hx hb dX3_isInWay_66 (lv_at hl 1 rfl) ?_
    refine lv_iconst (v := 1) hx hb dX3_isInWay_68 (by decide) ?_
    refine lv_icmp_ge (tgt := 84) hx hb dX3_isInWay_69 (by decide) (fun hc => ?_) (fun hc => ?_)
    · have hw := hw.1 hc
      refine lv_iconst (v := 0) hx hb dX3_isInWay_84 (by decide) ?_
      exact e_i C hr (by decide +kernel) P hw (by omega) (by omega) dX3_isInWay_85
    · have hw := hw.2 hc
      exact tX3_isInWay_72 C hr hex Q QX S15 (2 * (r2 - r4)) (2 * (r6 - r8)) (2 * (r10 - r12)) (2 * (r14 - r16)) P (lv_sub hl [3, 2, 1, 0] rfl) (by omega) (by omega) hw
def wp_X3_isInWay (Q : Int32 → MS → Prop) (QX : String → MS → Prop) (S : MS) (a0 : Nat) (x1 : Int32) (x2 : Int32) (x3 : Int32) : Prop := wX3_isInWay_0 Q QX S a0 x1 x2 x3
set_option maxHeartbeats 4000000 in
set_option maxRecDepth 100000 in
theorem met_X3_isInWay {l : Launch} (hst : l.stackTraces = false) (G : GP) (sz : Nat) (Q : Int32 → MS → Prop) (QX : String → MS → Prop) (S : MS) (a0 : Nat) (x1 : Int32) (x2 : Int32) (x3 : Int32) (p_a0 : pI S 3 a0) (hw : wp_X3_isInWay Q QX S a0 x1 x2 x3) : vx_Met l yX3_isInWay (.code yX3_isInWay cX3_isInWay 11 (some .boolean) :: GW) rmX3_isInWay (va_Pc [.ref a0, .int x1, .int x2, .int x3] (PR G S sz)) (QI G S (FA G S sz) Q) (XX G S (FA G S sz) QX) 0 0 (FA G S sz) := by
  refine st_m (by decide +kernel) hst (fun p e s m below meth c C hr hnm hex P => ?_)
  refine en_m (Nat.le_of_ble_eq_true rfl) (lv := [(0, .ref a0), (1, .int x1), (2, .int x2), (3, .int x3)]) rfl (fun ls hl => ?_)
  have C : CF p l s m _ meth c "SkirmishGrid$Grid" cX3_isInWay 11 G (FA G S sz) := C
  exact tX3_isInWay_0 C hr hex Q QX S a0 x1 x2 x3 p_a0 P hl (by omega) (by omega) hw
theorem cd_X3_isInWay : yX3_isInWay.cls = RX3 ∧ yX3_isInWay.cls ≠ "java/lang/invoke/MethodHandle" ∧ yX3_isInWay.cls ≠ "java/lang/invoke/VarHandle" ∧ (parseMethodDescriptor yX3_isInWay.desc).map (fun d => d.parameters.length) = some 3 := by decide +kernel
abbrev rmX3_isClear : Room := { frames := 2, cells := 0, slots := 0, locals := 90 }
def wX3_isClear_21 (Q : Int32 → MS → Prop) (QX : String → MS → Prop) (k21 : MS → Nat → Int32 → Int32 → Int32 → Int32 → Prop) (S : MS) (a0 : Nat) (y1 : Int32) (y2 : Int32) (y3 : Int32) (y4 : Int32) : Prop := ((y3 ≤ y4 → Q 1 S) ∧ (¬ y3 ≤ y4 → (∃ a1, mR S a0 0 = some a1 ∧ (vp_in y4 (mN S a1) ∧ ((¬ (mI S a1 (y4 : Int32).toNatClampNeg) = 1 → k21 S a0 y1 y2 y3 (y4 + 1)) ∧ ((mI S a1 (y4 : Int32).toNatClampNeg) = 1 → ((y4 = y1 → k21 S a0 y1 y2 y3 (y4 + 1)) ∧ (¬ y4 = y1 → ((y4 = y2 → k21 S a0 y1 y2 y3 (y4 + 1)) ∧ (¬ y4 = y2 → wp_X3_isInWay (fun r3 S2 => ((r3 = 0 → k21 S2 a0 y1 y2 y3 (y4 + 1)) ∧ (¬ r3 = 0 → Q 0 S2))) QX S a0 y4 y1 y2))))))))))
set_option maxHeartbeats 4000000 in
set_option maxRecDepth 100000 in
theorem tX3_isClear_21 {p : Program} {l : Launch} {e : Env} {s : State} {m : MethodId} {args : Array Value} {below : List Frame} {meth : Method} {c : Code} {H : Heap} {locs : List Loc} {cells slots : Nat} {G : GP} {A : Nat → Prop} {S0 : MS} {ls : Array Slot} (C : CF p l s m args meth c "SkirmishGrid$Grid" cX3_isClear 5 G A) (hr : meth.sig.returnType = (some .boolean)) (hex : ∀ x ∈ c.exceptionTable.toList, False) (Q : Int32 → MS → Prop) (QX : String → MS → Prop) (k21 : MS → Nat → Int32 → Int32 → Int32 → Int32 → Prop) (kh21 : ∀ (S : MS) (a0 : Nat) (y1 : Int32) (y2 : Int32) (y3 : Int32) (y4 : Int32) (cells slots : Nat) (H : Heap) (locs : List Loc) (ls : Array Slot), pI S 3 a0 → PW G A s H locs S0 S → lv_has ls 5 [(0, .ref a0), (1, .int y1), (2, .int y2), (3, .int y3), (4, .int y4)] → cells + 0 ≤ 0 → slots + 0 ≤ 0 → k21 S a0 y1 y2 y3 y4 → W p l e rmX3_isClear s m args below meth c H locs cells slots (vx_MQ below (QI G S0 A Q) (XX G S0 A QX) args s 0 0 A) (F0 m 21 ls [])) (S : MS) (a0 : Nat) (y1 : Int32) (y2 : Int32) (y3 : Int32) (y4 : Int32) (p_a0 : pI S 3 a0) (P : PW G A s H locs S0 S) (hl : lv_has ls 5 [(0, .ref a0), (1, .int y1), (2, .int y2), (3, .int y3), (4, .int y4)]) (hcc : cells + 0 ≤ 0) (hss : slots + 0 ≤ 0) (hw : wX3_isClear_21 Q QX k21 S a0 y1 y2 y3 y4) : W p l e rmX3_isClear s m args below meth c H locs cells slots (vx_MQ below (QI G S0 A Q) (XX G S0 A QX) args s 0 0 A) (F0 m 21 ls []) := by
  have hx := CF_x C
  have hb := CF_b C
  unfold wX3_isClear_21 at hw
  refine lv_iload hx hb dX3_isClear_21 (lv_at hl 4 rfl) ?_
  refine lv_iload_n hx hb dX3_isClear_23 rfl (lv_at hl 3 rfl) ?_
  refine lv_icmp_ge (tgt := 69) hx hb dX3_isClear_24 (by decide) (fun hc => ?_) (fun hc => ?_)
  · have hw := hw.1 hc
    refine lv_iconst (v := 1) hx hb dX3_isClear_69 (by decide) ?_
    exact e_i C hr (by decide +kernel) P hw (by omega) (by omega) dX3_isClear_70
  · have hw := hw.2 hc
    refine lv_aload_n hx hb dX3_isClear_27 rfl (lv_at hl 0 rfl) ?_
    obtain ⟨a1, e1, hw⟩ := hw
    have p_a1 : pI S 12 a1 := wf_r P.2.2.2.1 p_a0 e1
    refine gf_3_0 C P p_a0 e1 q_50 dX3_isClear_28 ?_
    refine lv_iload hx hb dX3_isClear_31 (lv_at hl 4 rfl) ?_
    obtain ⟨h1, hw⟩ := hw
    refine ra_i C P p_a1 h1 dX3_isClear_33 ?_
    refine lv_iconst (v := 1) hx hb dX3_isClear_34 (by decide) ?_
    refine lv_icmp_ne (tgt := 63) hx hb dX3_isClear_35 (by decide) (fun hc => ?_) (fun hc => ?_)
    · have hw := hw.1 hc
      refine lv_iinc (v := (y4 + 1)) (lv' := [(4, .int (y4 + 1)), (0, .ref a0), (1, .int y1), (2, .int y2), (3, .int y3)]) hx hb dX3_isClear_63 hl (k := 4) rfl (by rfl) (by decide) rfl (fun ls hl => ?_)
      refine lv_goto (tgt := 21) hx hb dX3_isClear_66 (by decide) ?_
      exact kh21 S a0 y1 y2 y3 (y4 + 1) _ _ _ _ _ p_a0 P (lv_sub hl [1, 2, 3, 4, 0] rfl) (by omega) (by omega) hw
    · have hw := hw.2 hc
      refine lv_iload hx hb dX3_isClear_38 (lv_at hl 4 rfl) ?_
      refine lv_iload_n hx hb dX3_isClear_40 rfl (lv_at hl 1 rfl) ?_
      refine lv_icmp_eq (tgt := 63) hx hb dX3_isClear_41 (by decide) (fun hc => ?_) (fun hc => ?_)
      · have hw := hw.1 hc
        refine lv_iinc (v := (y4 + 1)) (lv' := [(4, .int (y4 + 1)), (0, .ref a0), (1, .int y1), (2, .int y2), (3, .int y3)]) hx hb dX3_isClear_63 hl (k := 4) rfl (by rfl) (by decide) rfl (fun ls hl => ?_)
        refine lv_goto (tgt := 21) hx hb dX3_isClear_66 (by decide) ?_
        exact kh21 S a0 y1 y2 y3 (y4 + 1) _ _ _ _ _ p_a0 P (lv_sub hl [1, 2, 3, 4, 0] rfl) (by omega) (by omega) hw
      · have hw := hw.2 hc
        refine lv_iload hx hb dX3_isClear_44 (lv_at hl 4 rfl) ?_
        refine lv_iload_n hx hb dX3_isClear_46 rfl (lv_at hl 2 rfl) ?_
        refine lv_icmp_eq (tgt := 63) hx hb dX3_isClear_47 (by decide) (fun hc => ?_) (fun hc => ?_)
        · have hw := hw.1 hc
          refine lv_iinc (v := (y4 + 1)) (lv' := [(4, .int (y4 + 1)), (0, .ref a0), (1, .int y1), (2, .int y2), (3, .int y3)]) hx hb dX3_isClear_63 hl (k := 4) rfl (by rfl) (by decide) rfl (fun ls hl => ?_)
          refine lv_goto (tgt := 21) hx hb dX3_isClear_66 (by decide) ?_
          exact kh21 S a0 y1 y2 y3 (y4 + 1) _ _ _ _ _ p_a0 P (lv_sub hl [1, 2, 3, 4, 0] rfl) (by omega) (by omega) hw
        · have hw := hw.2 hc
          refine lv_aload_n hx hb dX3_isClear_50 rfl (lv_at hl 0 rfl) ?_
          refine lv_iload hx hb dX3_isClear_51 (lv_at hl 4 rfl) ?_
          refine lv_iload_n hx hb dX3_isClear_53 rfl (lv_at hl 1 rfl) ?_
          refine lv_iload_n hx hb dX3_isClear_54 rfl (lv_at hl 2 rfl) ?_
          refine cl_i C P (run_V C P hl.1 (kd := 3) (met_X3_isInWay (CF_n C) G H.size _ _ S a0 y4 y1 y2 p_a0 hw) p_a0 (by decide) rfl q_746 q_748 q_p2 q_3 q_749 cd_X3_isInWay ⟨(Nat.le_of_ble_eq_true rfl), (Nat.le_of_ble_eq_true rfl)⟩ rfl rfl (As := [.int y4, .int y1, .int y2]) (rest := []) rfl rfl (Nat.le_of_ble_eq_true rfl) dX3_isClear_55 ⟨by show cells + 0 ≤ 0; omega, by show slots + 0 ≤ 0; omega⟩) (kx_out C hex (fun _ _ _ h => h) (by omega) (by omega)) (fun r3 S2 H locs P hE hw => ?_)
          have p_a0 : pI S2 3 a0 := pI_x hE p_a0
          refine lv_if_eq (tgt := 63) hx hb dX3_isClear_58 (by decide) (fun hc => ?_) (fun hc => ?_)
          · have hw := hw.1 hc
            refine lv_iinc (v := (y4 + 1)) (lv' := [(4, .int (y4 + 1)), (0, .ref a0), (1, .int y1), (2, .int y2), (3, .int y3)]) hx hb dX3_isClear_63 hl (k := 4) rfl (by rfl) (by decide) rfl (fun ls hl => ?_)
            refine lv_goto (tgt := 21) hx hb dX3_isClear_66 (by decide) ?_
            exact kh21 S2 a0 y1 y2 y3 (y4 + 1) _ _ _ _ _ p_a0 P (lv_sub hl [1, 2, 3, 4, 0] rfl) (by omega) (by omega) hw
          · have hw := hw.2 hc
            refine lv_iconst (v := 0) hx hb dX3_isClear_61 (by decide) ?_
            exact e_i C hr (by decide +kernel) P hw (by omega) (by omega) dX3_isClear_62
def lX3_isClear_21 (Q : Int32 → MS → Prop) (QX : String → MS → Prop) : Nat → MS → Nat → Int32 → Int32 → Int32 → Int32 → Prop
  | 0 => fun _ _ _ _ _ _ => False
  | n + 1 => fun S a0 y1 y2 y3 y4 => wX3_isClear_21 Q QX (lX3_isClear_21 Q QX n) S a0 y1 y2 y3 y4
theorem tlX3_isClear_21 {p : Program} {l : Launch} {e : Env} {s : State} {m : MethodId} {args : Array Value} {below : List Frame} {meth : Method} {c : Code} {G : GP} {A : Nat → Prop} {S0 : MS} (C : CF p l s m args meth c "SkirmishGrid$Grid" cX3_isClear 5 G A) (hr : meth.sig.returnType = (some .boolean)) (hex : ∀ x ∈ c.exceptionTable.toList, False) (Q : Int32 → MS → Prop) (QX : String → MS → Prop) : ∀ (n : Nat), ∀ (S : MS) (a0 : Nat) (y1 : Int32) (y2 : Int32) (y3 : Int32) (y4 : Int32) (cells slots : Nat) (H : Heap) (locs : List Loc) (ls : Array Slot), pI S 3 a0 → PW G A s H locs S0 S → lv_has ls 5 [(0, .ref a0), (1, .int y1), (2, .int y2), (3, .int y3), (4, .int y4)] → cells + 0 ≤ 0 → slots + 0 ≤ 0 → lX3_isClear_21 Q QX n S a0 y1 y2 y3 y4 → W p l e rmX3_isClear s m args below meth c H locs cells slots (vx_MQ below (QI G S0 A Q) (XX G S0 A QX) args s 0 0 A) (F0 m 21 ls []) := by
  intro n
  induction n with
  | zero => intro S a0 y1 y2 y3 y4 cells slots H locs ls p_a0 P hl hcc hss hw; exact hw.elim
  | succ n ih => intro S a0 y1 y2 y3 y4 cells slots H locs ls p_a0 P hl hcc hss hw; exact tX3_isClear_21 C hr hex Q QX (lX3_isClear_21 Q QX n) ih S a0 y1 y2 y3 y4 p_a0 P hl hcc hss hw
def wX3_isClear_0 (Q : Int32 → MS → Prop) (QX : String → MS → Prop) (S : MS) (a0 : Nat) (x1 : Int32) (x2 : Int32) : Prop := (∃ a1, mR S a0 0 = some a1 ∧ (∃ n, lX3_isClear_21 Q QX n S a0 x1 x2 (if (Int32.ofNat (mN S a1)) < ((mI S a0 1) * (mI S a0 2)) then (Int32.ofNat (mN S a1)) else ((mI S a0 1) * (mI S a0 2))) 0))
set_option maxHeartbeats 4000000 in
set_option maxRecDepth 100000 in
theorem tX3_isClear_0 {p : Program} {l : Launch} {e : Env} {s : State} {m : MethodId} {args : Array Value} {below : List Frame} {meth : Method} {c : Code} {H : Heap} {locs : List Loc} {cells slots : Nat} {G : GP} {A : Nat → Prop} {S0 : MS} {ls : Array Slot} (C : CF p l s m args meth c "SkirmishGrid$Grid" cX3_isClear 5 G A) (hr : meth.sig.returnType = (some .boolean)) (hex : ∀ x ∈ c.exceptionTable.toList, False) (Q : Int32 → MS → Prop) (QX : String → MS → Prop) (S : MS) (a0 : Nat) (x1 : Int32) (x2 : Int32) (p_a0 : pI S 3 a0) (P : PW G A s H locs S0 S) (hl : lv_has ls 5 [(0, .ref a0), (1, .int x1), (2, .int x2)]) (hcc : cells + 0 ≤ 0) (hss : slots + 0 ≤ 0) (hw : wX3_isClear_0 Q QX S a0 x1 x2) : W p l e rmX3_isClear s m args below meth c H locs cells slots (vx_MQ below (QI G S0 A Q) (XX G S0 A QX) args s 0 0 A) (F0 m 0 ls []) := by
  have hx := CF_x C
  have hb := CF_b C
  unfold wX3_isClear_0 at hw
  refine lv_aload_n hx hb dX3_isClear_0 rfl (lv_at hl 0 rfl) ?_
  refine gf_3_1 C P p_a0 q_51 dX3_isClear_1 ?_
  refine lv_aload_n hx hb dX3_isClear_4 rfl (lv_at hl 0 rfl) ?_
  refine gf_3_2 C P p_a0 q_54 dX3_isClear_5 ?_
  refine lv_imul hx hb dX3_isClear_8 ?_
  refine lv_aload_n hx hb dX3_isClear_9 rfl (lv_at hl 0 rfl) ?_
  obtain ⟨a1, e1, hw⟩ := hw
  have p_a1 : pI S 12 a1 := wf_r P.2.2.2.1 p_a0 e1
  refine gf_3_0 C P p_a0 e1 q_50 dX3_isClear_10 ?_
  refine ra_n (d := 2) C P p_a1 (by decide) dX3_isClear_13 ?_
  refine va_mmin hx hb ((CF_m C).trans hl.1.symm) (CF_o C) (CF_t C _ q_745) (CF_t C _ q_542) (CF_t C _ q_18) (CF_t C _ q_543) (Nat.le_of_ble_eq_true rfl) (Nat.le_of_ble_eq_true rfl) (by show cells ≤ 0; omega) (by show slots ≤ 0; omega) dX3_isClear_14 ?_
  refine lv_istore_n (lv' := [(3, .int (if (Int32.ofNat (mN S a1)) < ((mI S a0 1) * (mI S a0 2)) then (Int32.ofNat (mN S a1)) else ((mI S a0 1) * (mI S a0 2)))), (0, .ref a0), (1, .int x1), (2, .int x2)]) hx hb dX3_isClear_17 rfl hl (by decide) rfl (fun ls hl => ?_)
  refine lv_iconst (v := 0) hx hb dX3_isClear_18 (by decide) ?_
  refine lv_istore (lv' := [(4, .int 0), (3, .int (if (Int32.ofNat (mN S a1)) < ((mI S a0 1) * (mI S a0 2)) then (Int32.ofNat (mN S a1)) else ((mI S a0 1) * (mI S a0 2)))), (0, .ref a0), (1, .int x1), (2, .int x2)]) hx hb dX3_isClear_19 hl (by decide) rfl (fun ls hl => ?_)
  obtain ⟨n, hw⟩ := hw
  exact tlX3_isClear_21 C hr hex Q QX n S a0 x1 x2 (if (Int32.ofNat (mN S a1)) < ((mI S a0 1) * (mI S a0 2)) then (Int32.ofNat (mN S a1)) else ((mI S a0 1) * (mI S a0 2))) 0 _ _ _ _ _ p_a0 P (lv_sub hl [2, 3, 4, 1, 0] rfl) (by omega) (by omega) hw
def wp_X3_isClear (Q : Int32 → MS → Prop) (QX : String → MS → Prop) (S : MS) (a0 : Nat) (x1 : Int32) (x2 : Int32) : Prop := wX3_isClear_0 Q QX S a0 x1 x2
set_option maxHeartbeats 4000000 in
set_option maxRecDepth 100000 in
theorem met_X3_isClear {l : Launch} (hst : l.stackTraces = false) (G : GP) (sz : Nat) (Q : Int32 → MS → Prop) (QX : String → MS → Prop) (S : MS) (a0 : Nat) (x1 : Int32) (x2 : Int32) (p_a0 : pI S 3 a0) (hw : wp_X3_isClear Q QX S a0 x1 x2) : vx_Met l yX3_isClear (.code yX3_isClear cX3_isClear 5 (some .boolean) :: GW) rmX3_isClear (va_Pc [.ref a0, .int x1, .int x2] (PR G S sz)) (QI G S (FA G S sz) Q) (XX G S (FA G S sz) QX) 0 0 (FA G S sz) := by
  refine st_m (by decide +kernel) hst (fun p e s m below meth c C hr hnm hex P => ?_)
  refine en_m (Nat.le_of_ble_eq_true rfl) (lv := [(0, .ref a0), (1, .int x1), (2, .int x2)]) rfl (fun ls hl => ?_)
  have C : CF p l s m _ meth c "SkirmishGrid$Grid" cX3_isClear 5 G (FA G S sz) := C
  exact tX3_isClear_0 C hr hex Q QX S a0 x1 x2 p_a0 P hl (by omega) (by omega) hw
theorem cd_X3_isClear : yX3_isClear.cls = RX3 ∧ yX3_isClear.cls ≠ "java/lang/invoke/MethodHandle" ∧ yX3_isClear.cls ≠ "java/lang/invoke/VarHandle" ∧ (parseMethodDescriptor yX3_isClear.desc).map (fun d => d.parameters.length) = some 2 := by decide +kernel
abbrev rmX3_init : Room := { frames := 1, cells := 1, slots := 64, locals := 40 }
def wX3_init_0 (Q : MS → Prop) (QX : String → MS → Prop) (S : MS) (a0 : Nat) : Prop := (∀ a1, a1 ∉ mL S → (∀ S2, S2 = (nw S a1 12 64) → (∀ S3, S3 = (sR S2 a0 0 (some a1)) → (∀ S4, S4 = (sI S3 a0 1 5) → (∀ S5, S5 = (sI S4 a0 2 5) → Q S5)))))
set_option maxHeartbeats 4000000 in
set_option maxRecDepth 100000 in
theorem tX3_init_0 {p : Program} {l : Launch} {e : Env} {s : State} {m : MethodId} {args : Array Value} {below : List Frame} {meth : Method} {c : Code} {H : Heap} {locs : List Loc} {cells slots : Nat} {G : GP} {A : Nat → Prop} {S0 : MS} {ls : Array Slot} (C : CF p l s m args meth c "SkirmishGrid$Grid" cX3_init 1 G A) (hr : meth.sig.returnType = none) (hin2 : meth.name = "<init>") (hex : ∀ x ∈ c.exceptionTable.toList, False) (Q : MS → Prop) (QX : String → MS → Prop) (S : MS) (a0 : Nat) (p_a0 : pI S 3 a0) (P : PW G A s H locs S0 S) (hl : lv_has ls 1 [(0, .ref a0)]) (hcc : cells + 1 ≤ 1) (hss : slots + 64 ≤ 64) (hw : wX3_init_0 Q QX S a0) : W p l e rmX3_init s m args below meth c H locs cells slots (vx_MQ below (QV G S0 A Q) (XX G S0 A QX) args s 1 64 A) (F0 m 0 ls []) := by
  have hx := CF_x C
  have hb := CF_b C
  unfold wX3_init_0 at hw
  refine lv_aload_n hx hb dX3_init_0 rfl (lv_at hl 0 rfl) ?_
  refine W.objInit hx hb (CF_o C) (CF_t C _ q_49) (CF_t C _ q_36) (CF_t C _ q_37) rfl (hl.1.trans (CF_m C).symm) rfl dX3_init_1 (Nat.le_of_ble_eq_true rfl) (Nat.le_of_ble_eq_true rfl) ?_
  refine W.eq (g2 := F0 m 4 ls []) rfl ?_
  refine lv_aload_n hx hb dX3_init_4 rfl (lv_at hl 0 rfl) ?_
  refine lv_bipush (v := 64) hx hb dX3_init_5 (by decide) ?_
  refine rn_a (atype := .int) C P 2 (N' := 64) (64, .inl (fun _ => 0)) rfl (fun _ h => by cases h) q_65 rfl (fun _ => rfl) (fun S q => aE_nw (d := 2)) (by decide) (by decide) (by decide) (by show cells + 1 ≤ 1; omega) (by show slots + 64 ≤ 64; omega) dX3_init_7 (fun a1 H hq P => ?_)
  have hw := hw a1 hq
  obtain ⟨S2, hS⟩ : ∃ z, z = (nw S a1 12 64) := ⟨_, rfl⟩
  have P : PW G A s H locs S0 S2 := by rw [hS]; exact P
  have p_a0 : pI S2 3 a0 := by rw [hS]; exact pI_x (ext_nw hq) p_a0
  have hw := hw S2 hS
  have p_a1 : pI S2 12 a1 := by rw [hS]; exact pI_nw
  refine pf_3_0 C hin2 P p_a0 p_a1 q_50 dX3_init_9 (fun H locs P => ?_)
  obtain ⟨S3, hS⟩ : ∃ z, z = (sR S2 a0 0 (some a1)) := ⟨_, rfl⟩
  have P : PW G A s H locs S0 S3 := by rw [hS]; exact P
  have p_a0 : pI S3 3 a0 := by rw [hS]; exact pI_x ext_sR p_a0
  have p_a1 : pI S3 12 a1 := by rw [hS]; exact pI_x ext_sR p_a1
  have hw := hw S3 hS
  refine lv_aload_n hx hb dX3_init_12 rfl (lv_at hl 0 rfl) ?_
  refine lv_iconst (v := 5) hx hb dX3_init_13 (by decide) ?_
  refine pf_3_1 C P p_a0 q_51 dX3_init_14 (fun H locs P => ?_)
  obtain ⟨S4, hS⟩ : ∃ z, z = (sI S3 a0 1 5) := ⟨_, rfl⟩
  have P : PW G A s H locs S0 S4 := by rw [hS]; exact P
  have p_a0 : pI S4 3 a0 := by rw [hS]; exact pI_x ext_sI p_a0
  have hw := hw S4 hS
  refine lv_aload_n hx hb dX3_init_17 rfl (lv_at hl 0 rfl) ?_
  refine lv_iconst (v := 5) hx hb dX3_init_18 (by decide) ?_
  refine pf_3_2 C P p_a0 q_54 dX3_init_19 (fun H locs P => ?_)
  obtain ⟨S5, hS⟩ : ∃ z, z = (sI S4 a0 2 5) := ⟨_, rfl⟩
  have P : PW G A s H locs S0 S5 := by rw [hS]; exact P
  have p_a0 : pI S5 3 a0 := by rw [hS]; exact pI_x ext_sI p_a0
  have hw := hw S5 hS
  exact e_v C hr P hw (by omega) (by omega) dX3_init_22
def wp_X3_init (Q : MS → Prop) (QX : String → MS → Prop) (S : MS) (a0 : Nat) : Prop := wX3_init_0 Q QX S a0
set_option maxHeartbeats 4000000 in
set_option maxRecDepth 100000 in
theorem met_X3_init {l : Launch} (hst : l.stackTraces = false) (G : GP) (sz : Nat) (Q : MS → Prop) (QX : String → MS → Prop) (S : MS) (a0 : Nat) (p_a0 : pI S 3 a0) (hw : wp_X3_init Q QX S a0) : vx_Met l yX3_init (.code yX3_init cX3_init 1 none :: GW) rmX3_init (va_Pc [.ref a0] (PR G S sz)) (QV G S (FA G S sz) Q) (XX G S (FA G S sz) QX) 1 64 (FA G S sz) := by
  refine st_m (by decide +kernel) hst (fun p e s m below meth c C hr hnm hex P => ?_)
  refine en_m (Nat.le_of_ble_eq_true rfl) (lv := [(0, .ref a0)]) rfl (fun ls hl => ?_)
  have C : CF p l s m _ meth c "SkirmishGrid$Grid" cX3_init 1 G (FA G S sz) := C
  exact tX3_init_0 C hr hnm hex Q QX S a0 p_a0 P hl (by omega) (by omega) hw
theorem cd_X3_init : yX3_init.cls = RX3 ∧ yX3_init.cls ≠ "java/lang/invoke/MethodHandle" ∧ yX3_init.cls ≠ "java/lang/invoke/VarHandle" ∧ (parseMethodDescriptor yX3_init.desc).map (fun d => d.parameters.length) = some 0 := by decide +kernel
abbrev rmX3_copyFrom : Room := { frames := 1, cells := 0, slots := 0, locals := 60 }
def wX3_copyFrom_0 (Q : MS → Prop) (QX : String → MS → Prop) (S : MS) (a0 : Nat) (b1 : Nat) : Prop := (∀ S1, S1 = (sI S a0 1 (mI S b1 1)) → (∀ S2, S2 = (sI S1 a0 2 (mI S1 b1 2)) → (∃ a3, mR S2 b1 0 = some a3 ∧ (∃ a4, mR S2 a0 0 = some a4 ∧ ((0 : Int32).toNatClampNeg + (64 : Int32).toNatClampNeg ≤ mN S2 a3 ∧ ((0 : Int32).toNatClampNeg + (64 : Int32).toNatClampNeg ≤ mN S2 a4 ∧ (∀ S5, S5 = (sIr S2 a4 (va_cpy (mI S2 a3) (mI S2 a4) (0 : Int32).toNatClampNeg (0 : Int32).toNatClampNeg (64 : Int32).toNatClampNeg)) → Q S5)))))))
set_option maxHeartbeats 4000000 in
set_option maxRecDepth 100000 in
theorem tX3_copyFrom_0 {p : Program} {l : Launch} {e : Env} {s : State} {m : MethodId} {args : Array Value} {below : List Frame} {meth : Method} {c : Code} {H : Heap} {locs : List Loc} {cells slots : Nat} {G : GP} {A : Nat → Prop} {S0 : MS} {ls : Array Slot} (C : CF p l s m args meth c "SkirmishGrid$Grid" cX3_copyFrom 2 G A) (hr : meth.sig.returnType = none) (hex : ∀ x ∈ c.exceptionTable.toList, False) (Q : MS → Prop) (QX : String → MS → Prop) (S : MS) (a0 : Nat) (b1 : Nat) (p_a0 : pI S 3 a0) (p_b1 : pI S 3 b1) (P : PW G A s H locs S0 S) (hl : lv_has ls 2 [(0, .ref a0), (1, .ref b1)]) (hcc : cells + 0 ≤ 0) (hss : slots + 0 ≤ 0) (hw : wX3_copyFrom_0 Q QX S a0 b1) : W p l e rmX3_copyFrom s m args below meth c H locs cells slots (vx_MQ below (QV G S0 A Q) (XX G S0 A QX) args s 0 0 A) (F0 m 0 ls []) := by
  have hx := CF_x C
  have hb := CF_b C
  unfold wX3_copyFrom_0 at hw
  refine lv_aload_n hx hb dX3_copyFrom_0 rfl (lv_at hl 0 rfl) ?_
  refine lv_aload_n hx hb dX3_copyFrom_1 rfl (lv_at hl 1 rfl) ?_
  refine gf_3_1 C P p_b1 q_51 dX3_copyFrom_2 ?_
  refine pf_3_1 C P p_a0 q_51 dX3_copyFrom_5 (fun H locs P => ?_)
  obtain ⟨S1, hS⟩ : ∃ z, z = (sI S a0 1 (mI S b1 1)) := ⟨_, rfl⟩
  have P : PW G A s H locs S0 S1 := by rw [hS]; exact P
  have p_a0 : pI S1 3 a0 := by rw [hS]; exact pI_x ext_sI p_a0
  have p_b1 : pI S1 3 b1 := by rw [hS]; exact pI_x ext_sI p_b1
  have hw := hw S1 hS
  refine lv_aload_n hx hb dX3_copyFrom_8 rfl (lv_at hl 0 rfl) ?_
  refine lv_aload_n hx hb dX3_copyFrom_9 rfl (lv_at hl 1 rfl) ?_
  refine gf_3_2 C P p_b1 q_54 dX3_copyFrom_10 ?_
  refine pf_3_2 C P p_a0 q_54 dX3_copyFrom_13 (fun H locs P => ?_)
  obtain ⟨S2, hS⟩ : ∃ z, z = (sI S1 a0 2 (mI S1 b1 2)) := ⟨_, rfl⟩
  have P : PW G A s H locs S0 S2 := by rw [hS]; exact P
  have p_a0 : pI S2 3 a0 := by rw [hS]; exact pI_x ext_sI p_a0
  have p_b1 : pI S2 3 b1 := by rw [hS]; exact pI_x ext_sI p_b1
  have hw := hw S2 hS
  refine lv_aload_n hx hb dX3_copyFrom_16 rfl (lv_at hl 1 rfl) ?_
  obtain ⟨a3, e1, hw⟩ := hw
  have p_a3 : pI S2 12 a3 := wf_r P.2.2.2.1 p_b1 e1
  refine gf_3_0 C P p_b1 e1 q_50 dX3_copyFrom_17 ?_
  refine lv_iconst (v := 0) hx hb dX3_copyFrom_20 (by decide) ?_
  refine lv_aload_n hx hb dX3_copyFrom_21 rfl (lv_at hl 0 rfl) ?_
  obtain ⟨a4, e1, hw⟩ := hw
  have p_a4 : pI S2 12 a4 := wf_r P.2.2.2.1 p_a0 e1
  refine gf_3_0 C P p_a0 e1 q_50 dX3_copyFrom_22 ?_
  refine lv_iconst (v := 0) hx hb dX3_copyFrom_25 (by decide) ?_
  refine lv_bipush (v := 64) hx hb dX3_copyFrom_26 (by decide) ?_
  obtain ⟨h4, hw⟩ := hw
  obtain ⟨h5, hw⟩ := hw
  refine rc_i C P hl.1 p_a3 p_a4 q_383 q_385 q_384 q_26 (by decide) (by decide) (by decide) h4 h5 (Nat.le_of_ble_eq_true rfl) (Nat.le_of_ble_eq_true rfl) dX3_copyFrom_28 (fun H locs P => ?_)
  obtain ⟨S5, hS⟩ : ∃ z, z = (sIr S2 a4 (va_cpy (mI S2 a3) (mI S2 a4) (0 : Int32).toNatClampNeg (0 : Int32).toNatClampNeg (64 : Int32).toNatClampNeg)) := ⟨_, rfl⟩
  have P : PW G A s H locs S0 S5 := by rw [hS]; exact P
  have p_a3 : pI S5 12 a3 := by rw [hS]; exact pI_x ext_sIr p_a3
  have p_a4 : pI S5 12 a4 := by rw [hS]; exact pI_x ext_sIr p_a4
  have hw := hw S5 hS
  exact e_v C hr P hw (by omega) (by omega) dX3_copyFrom_31
def wp_X3_copyFrom (Q : MS → Prop) (QX : String → MS → Prop) (S : MS) (a0 : Nat) (b1 : Nat) : Prop := wX3_copyFrom_0 Q QX S a0 b1
set_option maxHeartbeats 4000000 in
set_option maxRecDepth 100000 in
theorem met_X3_copyFrom {l : Launch} (hst : l.stackTraces = false) (G : GP) (sz : Nat) (Q : MS → Prop) (QX : String → MS → Prop) (S : MS) (a0 : Nat) (b1 : Nat) (p_a0 : pI S 3 a0) (p_b1 : pI S 3 b1) (hw : wp_X3_copyFrom Q QX S a0 b1) : vx_Met l yX3_copyFrom (.code yX3_copyFrom cX3_copyFrom 2 none :: GW) rmX3_copyFrom (va_Pc [.ref a0, .ref b1] (PR G S sz)) (QV G S (FA G S sz) Q) (XX G S (FA G S sz) QX) 0 0 (FA G S sz) := by
  refine st_m (by decide +kernel) hst (fun p e s m below meth c C hr hnm hex P => ?_)
  refine en_m (Nat.le_of_ble_eq_true rfl) (lv := [(0, .ref a0), (1, .ref b1)]) rfl (fun ls hl => ?_)
  have C : CF p l s m _ meth c "SkirmishGrid$Grid" cX3_copyFrom 2 G (FA G S sz) := C
  exact tX3_copyFrom_0 C hr hex Q QX S a0 b1 p_a0 p_b1 P hl (by omega) (by omega) hw
theorem cd_X3_copyFrom : yX3_copyFrom.cls = RX3 ∧ yX3_copyFrom.cls ≠ "java/lang/invoke/MethodHandle" ∧ yX3_copyFrom.cls ≠ "java/lang/invoke/VarHandle" ∧ (parseMethodDescriptor yX3_copyFrom.desc).map (fun d => d.parameters.length) = some 1 := by decide +kernel
abbrev rmX3_read : Room := { frames := 4, cells := 0, slots := 0, locals := 126 }
def wX3_read_17 (Q : MS → Prop) (QX : String → MS → Prop) (k17 : MS → Nat → Nat → Int32 → Int32 → Int32 → Prop) (S : MS) (a0 : Nat) (u1 : Nat) (y2 : Int32) (y5 : Int32) (y6 : Int32) : Prop := ((y2 ≤ y6 → Q S) ∧ (¬ y2 ≤ y6 → (((Int32.ofNat (mN S u1)) ≤ y6 → Q S) ∧ (¬ (Int32.ofNat (mN S u1)) ≤ y6 → (vp_in y6 (mN S u1) ∧ wp_J0_indexOf_0f7a4 (fun r3 S2 => ((r3 < 0 → k17 S2 a0 u1 y2 y5 (y6 + 1)) ∧ (¬ r3 < 0 → (∃ a4, mR S2 a0 0 = some a4 ∧ (((Int32.ofNat (mN S2 a4)) ≤ y5 → k17 S2 a0 u1 y2 y5 (y6 + 1)) ∧ (¬ (Int32.ofNat (mN S2 a4)) ≤ y5 → (∃ a5, mR S2 a0 0 = some a5 ∧ (vp_in y5 (mN S2 a5) ∧ (∀ S6, S6 = (sI S2 a5 (y5 : Int32).toNatClampNeg r3) → k17 S6 a0 u1 y2 (y5 + 1) (y6 + 1)))))))))) QX S (mI S u1 (y6 : Int32).toNatClampNeg))))))
set_option maxHeartbeats 4000000 in
set_option maxRecDepth 100000 in
theorem tX3_read_17 {p : Program} {l : Launch} {e : Env} {s : State} {m : MethodId} {args : Array Value} {below : List Frame} {meth : Method} {c : Code} {H : Heap} {locs : List Loc} {cells slots : Nat} {G : GP} {A : Nat → Prop} {S0 : MS} {ls : Array Slot} (C : CF p l s m args meth c "SkirmishGrid$Grid" cX3_read 8 G A) (hr : meth.sig.returnType = none) (hex : ∀ x ∈ c.exceptionTable.toList, False) (Q : MS → Prop) (QX : String → MS → Prop) (k17 : MS → Nat → Nat → Int32 → Int32 → Int32 → Prop) (kh17 : ∀ (S : MS) (a0 : Nat) (u1 : Nat) (y2 : Int32) (y5 : Int32) (y6 : Int32) (cells slots : Nat) (H : Heap) (locs : List Loc) (ls : Array Slot), pI S 3 a0 → pI S 10 u1 → PW G A s H locs S0 S → lv_has ls 8 [(0, .ref a0), (1, .ref u1), (2, .int y2), (5, .int y5), (6, .int y6)] → cells + 0 ≤ 0 → slots + 0 ≤ 0 → k17 S a0 u1 y2 y5 y6 → W p l e rmX3_read s m args below meth c H locs cells slots (vx_MQ below (QV G S0 A Q) (XX G S0 A QX) args s 0 0 A) (F0 m 17 ls [])) (S : MS) (a0 : Nat) (u1 : Nat) (y2 : Int32) (y5 : Int32) (y6 : Int32) (p_a0 : pI S 3 a0) (p_u1 : pI S 10 u1) (P : PW G A s H locs S0 S) (hl : lv_has ls 8 [(0, .ref a0), (1, .ref u1), (2, .int y2), (5, .int y5), (6, .int y6)]) (hcc : cells + 0 ≤ 0) (hss : slots + 0 ≤ 0) (hw : wX3_read_17 Q QX k17 S a0 u1 y2 y5 y6) : W p l e rmX3_read s m args below meth c H locs cells slots (vx_MQ below (QV G S0 A Q) (XX G S0 A QX) args s 0 0 A) (F0 m 17 ls []) := by
  have hx := CF_x C
  have hb := CF_b C
  unfold wX3_read_17 at hw
  refine lv_iload hx hb dX3_read_17 (lv_at hl 4 rfl) ?_
  refine lv_iload_n hx hb dX3_read_19 rfl (lv_at hl 2 rfl) ?_
  refine lv_icmp_ge (tgt := 74) hx hb dX3_read_20 (by decide) (fun hc => ?_) (fun hc => ?_)
  · have hw := hw.1 hc
    exact e_v C hr P hw (by omega) (by omega) dX3_read_74
  · have hw := hw.2 hc
    refine lv_iload hx hb dX3_read_23 (lv_at hl 4 rfl) ?_
    refine lv_aload_n hx hb dX3_read_25 rfl (lv_at hl 1 rfl) ?_
    refine ra_n (d := 0) C P p_u1 (by decide) dX3_read_26 ?_
    refine lv_icmp_ge (tgt := 74) hx hb dX3_read_27 (by decide) (fun hc => ?_) (fun hc => ?_)
    · have hw := hw.1 hc
      exact e_v C hr P hw (by omega) (by omega) dX3_read_74
    · have hw := hw.2 hc
      obtain ⟨sa1, sa1v, g1, g2, g3, g4, g5, g6, g7, g8⟩ := (CF_S C).2.2.2.2.2.1
      have hs : SL sa1 sa1v A s s.heap := ⟨g3, g4, g5, g6⟩
      refine va_ldcS hx hb (CF_o C) g2 dX3_read_30 ?_
      refine lv_aload_n hx hb dX3_read_32 rfl (lv_at hl 1 rfl) ?_
      refine lv_iload hx hb dX3_read_33 (lv_at hl 4 rfl) ?_
      obtain ⟨h1, hw⟩ := hw
      refine ra_c C P p_u1 h1 dX3_read_35 ?_
      refine cl_i C P (run_VJ C P hl.1 hs (met_J0_indexOf_0f7a4 (CF_n C) G H.size _ _ S (mI S u1 (y6 : Int32).toNatClampNeg) hw) q_628 q_511 q_512 q_16 q_513 cd_J0_indexOf_0f7a4 ⟨(Nat.le_of_ble_eq_true rfl), (Nat.le_of_ble_eq_true rfl)⟩ rfl rfl (As := [.int (mI S u1 (y6 : Int32).toNatClampNeg)]) (rest := []) rfl rfl (Nat.le_of_ble_eq_true rfl) dX3_read_36 ⟨by show cells + 0 ≤ 0; omega, by show slots + 0 ≤ 0; omega⟩) (kx_out C hex (fun _ _ _ h => h) (by omega) (by omega)) (fun r3 S2 H locs P hE hw => ?_)
      have p_a0 : pI S2 3 a0 := pI_x hE p_a0
      have p_u1 : pI S2 10 u1 := pI_x hE p_u1
      refine lv_istore (lv' := [(7, .int r3), (0, .ref a0), (1, .ref u1), (2, .int y2), (5, .int y5), (6, .int y6)]) hx hb dX3_read_39 hl (by decide) rfl (fun ls hl => ?_)
      refine lv_iload hx hb dX3_read_41 (lv_at hl 0 rfl) ?_
      refine lv_if_lt (tgt := 68) hx hb dX3_read_43 (by decide) (fun hc => ?_) (fun hc => ?_)
      · have hw := hw.1 hc
        refine lv_iinc (v := (y6 + 1)) (lv' := [(6, .int (y6 + 1)), (7, .int r3), (0, .ref a0), (1, .ref u1), (2, .int y2), (5, .int y5)]) hx hb dX3_read_68 hl (k := 5) rfl (by rfl) (by decide) rfl (fun ls hl => ?_)
        refine lv_goto (tgt := 17) hx hb dX3_read_71 (by decide) ?_
        exact kh17 S2 a0 u1 y2 y5 (y6 + 1) _ _ _ _ _ p_a0 p_u1 P (lv_sub hl [2, 3, 4, 5, 0] rfl) (by omega) (by omega) hw
      · have hw := hw.2 hc
        refine lv_iload hx hb dX3_read_46 (lv_at hl 4 rfl) ?_
        refine lv_aload_n hx hb dX3_read_48 rfl (lv_at hl 1 rfl) ?_
        obtain ⟨a4, e1, hw⟩ := hw
        have p_a4 : pI S2 12 a4 := wf_r P.2.2.2.1 p_a0 e1
        refine gf_3_0 C P p_a0 e1 q_50 dX3_read_49 ?_
        refine ra_n (d := 2) C P p_a4 (by decide) dX3_read_52 ?_
        refine lv_icmp_ge (tgt := 68) hx hb dX3_read_53 (by decide) (fun hc => ?_) (fun hc => ?_)
        · have hw := hw.1 hc
          refine lv_iinc (v := (y6 + 1)) (lv' := [(6, .int (y6 + 1)), (7, .int r3), (0, .ref a0), (1, .ref u1), (2, .int y2), (5, .int y5)]) hx hb dX3_read_68 hl (k := 5) rfl (by rfl) (by decide) rfl (fun ls hl => ?_)
          refine lv_goto (tgt := 17) hx hb dX3_read_71 (by decide) ?_
          exact kh17 S2 a0 u1 y2 y5 (y6 + 1) _ _ _ _ _ p_a0 p_u1 P (lv_sub hl [2, 3, 4, 5, 0] rfl) (by omega) (by omega) hw
        · have hw := hw.2 hc
          refine lv_aload_n hx hb dX3_read_56 rfl (lv_at hl 1 rfl) ?_
          obtain ⟨a5, e1, hw⟩ := hw
          have p_a5 : pI S2 12 a5 := wf_r P.2.2.2.1 p_a0 e1
          refine gf_3_0 C P p_a0 e1 q_50 dX3_read_57 ?_
          refine lv_iload hx hb dX3_read_60 (lv_at hl 4 rfl) ?_
          refine lv_iload hx hb dX3_read_62 (lv_at hl 0 rfl) ?_
          obtain ⟨h1, hw⟩ := hw
          refine rs_i C P p_a5 h1 dX3_read_64 (fun H locs P => ?_)
          obtain ⟨S6, hS⟩ : ∃ z, z = (sI S2 a5 (y5 : Int32).toNatClampNeg r3) := ⟨_, rfl⟩
          have P : PW G A s H locs S0 S6 := by rw [hS]; exact P
          have p_a0 : pI S6 3 a0 := by rw [hS]; exact pI_x ext_sI p_a0
          have p_u1 : pI S6 10 u1 := by rw [hS]; exact pI_x ext_sI p_u1
          have p_a5 : pI S6 12 a5 := by rw [hS]; exact pI_x ext_sI p_a5
          have hw := hw S6 hS
          refine lv_iinc (v := (y5 + 1)) (lv' := [(5, .int (y5 + 1)), (7, .int r3), (0, .ref a0), (1, .ref u1), (2, .int y2), (6, .int y6)]) hx hb dX3_read_65 hl (k := 4) rfl (by rfl) (by decide) rfl (fun ls hl => ?_)
          refine lv_iinc (v := (y6 + 1)) (lv' := [(6, .int (y6 + 1)), (5, .int (y5 + 1)), (7, .int r3), (0, .ref a0), (1, .ref u1), (2, .int y2)]) hx hb dX3_read_68 hl (k := 5) rfl (by rfl) (by decide) rfl (fun ls hl => ?_)
          refine lv_goto (tgt := 17) hx hb dX3_read_71 (by decide) ?_
          exact kh17 S6 a0 u1 y2 (y5 + 1) (y6 + 1) _ _ _ _ _ p_a0 p_u1 P (lv_sub hl [3, 4, 5, 1, 0] rfl) (by omega) (by omega) hw
def lX3_read_17 (Q : MS → Prop) (QX : String → MS → Prop) : Nat → MS → Nat → Nat → Int32 → Int32 → Int32 → Prop
  | 0 => fun _ _ _ _ _ _ => False
  | n + 1 => fun S a0 u1 y2 y5 y6 => wX3_read_17 Q QX (lX3_read_17 Q QX n) S a0 u1 y2 y5 y6
theorem tlX3_read_17 {p : Program} {l : Launch} {e : Env} {s : State} {m : MethodId} {args : Array Value} {below : List Frame} {meth : Method} {c : Code} {G : GP} {A : Nat → Prop} {S0 : MS} (C : CF p l s m args meth c "SkirmishGrid$Grid" cX3_read 8 G A) (hr : meth.sig.returnType = none) (hex : ∀ x ∈ c.exceptionTable.toList, False) (Q : MS → Prop) (QX : String → MS → Prop) : ∀ (n : Nat), ∀ (S : MS) (a0 : Nat) (u1 : Nat) (y2 : Int32) (y5 : Int32) (y6 : Int32) (cells slots : Nat) (H : Heap) (locs : List Loc) (ls : Array Slot), pI S 3 a0 → pI S 10 u1 → PW G A s H locs S0 S → lv_has ls 8 [(0, .ref a0), (1, .ref u1), (2, .int y2), (5, .int y5), (6, .int y6)] → cells + 0 ≤ 0 → slots + 0 ≤ 0 → lX3_read_17 Q QX n S a0 u1 y2 y5 y6 → W p l e rmX3_read s m args below meth c H locs cells slots (vx_MQ below (QV G S0 A Q) (XX G S0 A QX) args s 0 0 A) (F0 m 17 ls []) := by
  intro n
  induction n with
  | zero => intro S a0 u1 y2 y5 y6 cells slots H locs ls p_a0 p_u1 P hl hcc hss hw; exact hw.elim
  | succ n ih => intro S a0 u1 y2 y5 y6 cells slots H locs ls p_a0 p_u1 P hl hcc hss hw; exact tX3_read_17 C hr hex Q QX (lX3_read_17 Q QX n) ih S a0 u1 y2 y5 y6 p_a0 p_u1 P hl hcc hss hw
def wX3_read_0 (Q : MS → Prop) (QX : String → MS → Prop) (S : MS) (a0 : Nat) (b1 : Nat) (x2 : Int32) (x3 : Int32) (x4 : Int32) : Prop := (∀ S1, S1 = (sI S a0 1 x3) → (∀ S2, S2 = (sI S1 a0 2 x4) → (∃ n, lX3_read_17 Q QX n S2 a0 b1 x2 0 0)))
set_option maxHeartbeats 4000000 in
set_option maxRecDepth 100000 in
theorem tX3_read_0 {p : Program} {l : Launch} {e : Env} {s : State} {m : MethodId} {args : Array Value} {below : List Frame} {meth : Method} {c : Code} {H : Heap} {locs : List Loc} {cells slots : Nat} {G : GP} {A : Nat → Prop} {S0 : MS} {ls : Array Slot} (C : CF p l s m args meth c "SkirmishGrid$Grid" cX3_read 8 G A) (hr : meth.sig.returnType = none) (hex : ∀ x ∈ c.exceptionTable.toList, False) (Q : MS → Prop) (QX : String → MS → Prop) (S : MS) (a0 : Nat) (b1 : Nat) (x2 : Int32) (x3 : Int32) (x4 : Int32) (p_a0 : pI S 3 a0) (p_b1 : pI S 10 b1) (P : PW G A s H locs S0 S) (hl : lv_has ls 8 [(0, .ref a0), (1, .ref b1), (2, .int x2), (3, .int x3), (4, .int x4)]) (hcc : cells + 0 ≤ 0) (hss : slots + 0 ≤ 0) (hw : wX3_read_0 Q QX S a0 b1 x2 x3 x4) : W p l e rmX3_read s m args below meth c H locs cells slots (vx_MQ below (QV G S0 A Q) (XX G S0 A QX) args s 0 0 A) (F0 m 0 ls []) := by
  have hx := CF_x C
  have hb := CF_b C
  unfold wX3_read_0 at hw
  refine lv_aload_n hx hb dX3_read_0 rfl (lv_at hl 0 rfl) ?_
  refine lv_iload_n hx hb dX3_read_1 rfl (lv_at hl 3 rfl) ?_
  refine pf_3_1 C P p_a0 q_51 dX3_read_2 (fun H locs P => ?_)
  obtain ⟨S1, hS⟩ : ∃ z, z = (sI S a0 1 x3) := ⟨_, rfl⟩
  have P : PW G A s H locs S0 S1 := by rw [hS]; exact P
  have p_a0 : pI S1 3 a0 := by rw [hS]; exact pI_x ext_sI p_a0
  have p_b1 : pI S1 10 b1 := by rw [hS]; exact pI_x ext_sI p_b1
  have hw := hw S1 hS
  refine lv_aload_n hx hb dX3_read_5 rfl (lv_at hl 0 rfl) ?_
  refine lv_iload hx hb dX3_read_6 (lv_at hl 4 rfl) ?_
  refine pf_3_2 C P p_a0 q_54 dX3_read_8 (fun H locs P => ?_)
  obtain ⟨S2, hS⟩ : ∃ z, z = (sI S1 a0 2 x4) := ⟨_, rfl⟩
  have P : PW G A s H locs S0 S2 := by rw [hS]; exact P
  have p_a0 : pI S2 3 a0 := by rw [hS]; exact pI_x ext_sI p_a0
  have p_b1 : pI S2 10 b1 := by rw [hS]; exact pI_x ext_sI p_b1
  have hw := hw S2 hS
  refine lv_iconst (v := 0) hx hb dX3_read_11 (by decide) ?_
  refine lv_istore (lv' := [(5, .int 0), (0, .ref a0), (1, .ref b1), (2, .int x2), (3, .int x3), (4, .int x4)]) hx hb dX3_read_12 hl (by decide) rfl (fun ls hl => ?_)
  refine lv_iconst (v := 0) hx hb dX3_read_14 (by decide) ?_
  refine lv_istore (lv' := [(6, .int 0), (5, .int 0), (0, .ref a0), (1, .ref b1), (2, .int x2), (3, .int x3), (4, .int x4)]) hx hb dX3_read_15 hl (by decide) rfl (fun ls hl => ?_)
  obtain ⟨n, hw⟩ := hw
  exact tlX3_read_17 C hr hex Q QX n S2 a0 b1 x2 0 0 _ _ _ _ _ p_a0 p_b1 P (lv_sub hl [2, 3, 4, 1, 0] rfl) (by omega) (by omega) hw
def wp_X3_read (Q : MS → Prop) (QX : String → MS → Prop) (S : MS) (a0 : Nat) (b1 : Nat) (x2 : Int32) (x3 : Int32) (x4 : Int32) : Prop := wX3_read_0 Q QX S a0 b1 x2 x3 x4
set_option maxHeartbeats 4000000 in
set_option maxRecDepth 100000 in
theorem met_X3_read {l : Launch} (hst : l.stackTraces = false) (G : GP) (sz : Nat) (Q : MS → Prop) (QX : String → MS → Prop) (S : MS) (a0 : Nat) (b1 : Nat) (x2 : Int32) (x3 : Int32) (x4 : Int32) (p_a0 : pI S 3 a0) (p_b1 : pI S 10 b1) (hw : wp_X3_read Q QX S a0 b1 x2 x3 x4) : vx_Met l yX3_read (.code yX3_read cX3_read 8 none :: GW) rmX3_read (va_Pc [.ref a0, .ref b1, .int x2, .int x3, .int x4] (PR G S sz)) (QV G S (FA G S sz) Q) (XX G S (FA G S sz) QX) 0 0 (FA G S sz) := by
  refine st_m (by decide +kernel) hst (fun p e s m below meth c C hr hnm hex P => ?_)
  refine en_m (Nat.le_of_ble_eq_true rfl) (lv := [(0, .ref a0), (1, .ref b1), (2, .int x2), (3, .int x3), (4, .int x4)]) rfl (fun ls hl => ?_)
  have C : CF p l s m _ meth c "SkirmishGrid$Grid" cX3_read 8 G (FA G S sz) := C
  exact tX3_read_0 C hr hex Q QX S a0 b1 x2 x3 x4 p_a0 p_b1 P hl (by omega) (by omega) hw
theorem cd_X3_read : yX3_read.cls = RX3 ∧ yX3_read.cls ≠ "java/lang/invoke/MethodHandle" ∧ yX3_read.cls ≠ "java/lang/invoke/VarHandle" ∧ (parseMethodDescriptor yX3_read.desc).map (fun d => d.parameters.length) = some 4 := by decide +kernel
