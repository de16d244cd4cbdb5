theorem q_1425 : Cond.methodLink "SkirmishGridModel" 100 yX9_isMet ∈ GW := gw_t 1425 (by decide +kernel) (by decide +kernel)
theorem q_1427 : Cond.instanceMethod yX9_isMet ∈ GW := gw_t 1427 (by decide +kernel) (by decide +kernel)
theorem q_p28 : Cond.selects "SkirmishGridModel" yX9_isMet yX9_isMet ∈ GW := gw_p 28 (by decide +kernel) (by decide +kernel)
theorem q_1428 : Cond.code yX9_isMet cX9_isMet 14 (some .boolean) ∈ GW := gw_t 1428 (by decide +kernel) (by decide +kernel)
theorem q_1417 : Cond.methodLink "SkirmishGridModel" 103 yX9_isCell ∈ GW := gw_t 1417 (by decide +kernel) (by decide +kernel)
theorem q_1419 : Cond.instanceMethod yX9_isCell ∈ GW := gw_t 1419 (by decide +kernel) (by decide +kernel)
theorem q_p26 : Cond.selects "SkirmishGridModel" yX9_isCell yX9_isCell ∈ GW := gw_p 26 (by decide +kernel) (by decide +kernel)
theorem q_1420 : Cond.code yX9_isCell cX9_isCell 2 (some .boolean) ∈ GW := gw_t 1420 (by decide +kernel) (by decide +kernel)
theorem q_1413 : Cond.methodLink "SkirmishGridModel" 107 yX9_isPair ∈ GW := gw_t 1413 (by decide +kernel) (by decide +kernel)
theorem q_1415 : Cond.instanceMethod yX9_isPair ∈ GW := gw_t 1415 (by decide +kernel) (by decide +kernel)
theorem q_p25 : Cond.selects "SkirmishGridModel" yX9_isPair yX9_isPair ∈ GW := gw_p 25 (by decide +kernel) (by decide +kernel)
theorem q_1416 : Cond.code yX9_isPair cX9_isPair 3 (some .boolean) ∈ GW := gw_t 1416 (by decide +kernel) (by decide +kernel)
theorem q_1421 : Cond.methodLink "SkirmishGridModel" 111 yX9_sees ∈ GW := gw_t 1421 (by decide +kernel) (by decide +kernel)
theorem q_1423 : Cond.instanceMethod yX9_sees ∈ GW := gw_t 1423 (by decide +kernel) (by decide +kernel)
theorem q_p27 : Cond.selects "SkirmishGridModel" yX9_sees yX9_sees ∈ GW := gw_p 27 (by decide +kernel) (by decide +kernel)
theorem q_1424 : Cond.code yX9_sees cX9_sees 5 (some .boolean) ∈ GW := gw_t 1424 (by decide +kernel) (by decide +kernel)
theorem q_1441 : Cond.methodLink "SkirmishGridModel" 114 yX9_covers ∈ GW := gw_t 1441 (by decide +kernel) (by decide +kernel)
theorem q_1443 : Cond.instanceMethod yX9_covers ∈ GW := gw_t 1443 (by decide +kernel) (by decide +kernel)
theorem q_p31 : Cond.selects "SkirmishGridModel" yX9_covers yX9_covers ∈ GW := gw_p 31 (by decide +kernel) (by decide +kernel)
theorem q_1444 : Cond.code yX9_covers cX9_covers 6 (some .int) ∈ GW := gw_t 1444 (by decide +kernel) (by decide +kernel)
theorem q_1453 : Cond.methodLink "SkirmishGridModel" 117 yX9_lives ∈ GW := gw_t 1453 (by decide +kernel) (by decide +kernel)
theorem q_1455 : Cond.instanceMethod yX9_lives ∈ GW := gw_t 1455 (by decide +kernel) (by decide +kernel)
theorem q_p33 : Cond.selects "SkirmishGridModel" yX9_lives yX9_lives ∈ GW := gw_p 33 (by decide +kernel) (by decide +kernel)
theorem q_1456 : Cond.code yX9_lives cX9_lives 2 (some .boolean) ∈ GW := gw_t 1456 (by decide +kernel) (by decide +kernel)
theorem q_1465 : Cond.methodLink "SkirmishGridModel" 127 yX9_sets ∈ GW := gw_t 1465 (by decide +kernel) (by decide +kernel)
theorem q_1467 : Cond.instanceMethod yX9_sets ∈ GW := gw_t 1467 (by decide +kernel) (by decide +kernel)
theorem q_p36 : Cond.selects "SkirmishGridModel" yX9_sets yX9_sets ∈ GW := gw_p 36 (by decide +kernel) (by decide +kernel)
theorem q_1468 : Cond.code yX9_sets cX9_sets 4 none ∈ GW := gw_t 1468 (by decide +kernel) (by decide +kernel)
theorem q_1449 : Cond.methodLink "SkirmishGridModel" 120 yX9_unitOn ∈ GW := gw_t 1449 (by decide +kernel) (by decide +kernel)
theorem q_1451 : Cond.instanceMethod yX9_unitOn ∈ GW := gw_t 1451 (by decide +kernel) (by decide +kernel)
theorem q_p32 : Cond.selects "SkirmishGridModel" yX9_unitOn yX9_unitOn ∈ GW := gw_p 32 (by decide +kernel) (by decide +kernel)
theorem q_1452 : Cond.code yX9_unitOn cX9_unitOn 3 (some .int) ∈ GW := gw_t 1452 (by decide +kernel) (by decide +kernel)
theorem q_1461 : Cond.methodLink "SkirmishGridModel" 123 yX9_hasBegun ∈ GW := gw_t 1461 (by decide +kernel) (by decide +kernel)
theorem q_1463 : Cond.instanceMethod yX9_hasBegun ∈ GW := gw_t 1463 (by decide +kernel) (by decide +kernel)
theorem q_p35 : Cond.selects "SkirmishGridModel" yX9_hasBegun yX9_hasBegun ∈ GW := gw_p 35 (by decide +kernel) (by decide +kernel)
theorem q_1464 : Cond.code yX9_hasBegun cX9_hasBegun 1 (some .boolean) ∈ GW := gw_t 1464 (by decide +kernel) (by decide +kernel)
theorem q_1480 : Cond.methodLink "SkirmishGridModel" 131 yX9_isUnit ∈ GW := gw_t 1480 (by decide +kernel) (by decide +kernel)
theorem q_1482 : Cond.instanceMethod yX9_isUnit ∈ GW := gw_t 1482 (by decide +kernel) (by decide +kernel)
theorem q_p37 : Cond.selects "SkirmishGridModel" yX9_isUnit yX9_isUnit ∈ GW := gw_p 37 (by decide +kernel) (by decide +kernel)
theorem q_1483 : Cond.code yX9_isUnit cX9_isUnit 2 (some .boolean) ∈ GW := gw_t 1483 (by decide +kernel) (by decide +kernel)
theorem q_1492 : Cond.methodLink "SkirmishGridModel" 134 yX9_living ∈ GW := gw_t 1492 (by decide +kernel) (by decide +kernel)
theorem q_1494 : Cond.instanceMethod yX9_living ∈ GW := gw_t 1494 (by decide +kernel) (by decide +kernel)
theorem q_p39 : Cond.selects "SkirmishGridModel" yX9_living yX9_living ∈ GW := gw_p 39 (by decide +kernel) (by decide +kernel)
theorem q_1495 : Cond.code yX9_living cX9_living 4 (some .int) ∈ GW := gw_t 1495 (by decide +kernel) (by decide +kernel)
theorem q_1488 : Cond.methodLink "SkirmishGridModel" 137 yX9_conditions ∈ GW := gw_t 1488 (by decide +kernel) (by decide +kernel)
theorem q_1490 : Cond.instanceMethod yX9_conditions ∈ GW := gw_t 1490 (by decide +kernel) (by decide +kernel)
theorem q_p38 : Cond.selects "SkirmishGridModel" yX9_conditions yX9_conditions ∈ GW := gw_p 38 (by decide +kernel) (by decide +kernel)
theorem q_1491 : Cond.code yX9_conditions cX9_conditions 3 (some .int) ∈ GW := gw_t 1491 (by decide +kernel) (by decide +kernel)
theorem q_1531 : Cond.constant "SkirmishGridModel" 140 1103515245 ∈ GW := gw_t 1531 (by decide +kernel) (by decide +kernel)
theorem q_1523 : Cond.methodLink "SkirmishGridModel" 141 yX9_tells ∈ GW := gw_t 1523 (by decide +kernel) (by decide +kernel)
theorem q_1525 : Cond.instanceMethod yX9_tells ∈ GW := gw_t 1525 (by decide +kernel) (by decide +kernel)
theorem q_p42 : Cond.selects "SkirmishGridModel" yX9_tells yX9_tells ∈ GW := gw_p 42 (by decide +kernel) (by decide +kernel)
theorem q_1526 : Cond.code yX9_tells cX9_tells 5 none ∈ GW := gw_t 1526 (by decide +kernel) (by decide +kernel)
theorem q_1321 : Cond.fieldLink "SkirmishGridModel" 150 "SkirmishGridModel" "place" "I" ∈ GW := gw_t 1321 (by decide +kernel) (by decide +kernel)
theorem q_1527 : Cond.methodLink "SkirmishGridModel" 144 yX9_roll ∈ GW := gw_t 1527 (by decide +kernel) (by decide +kernel)
theorem q_1529 : Cond.instanceMethod yX9_roll ∈ GW := gw_t 1529 (by decide +kernel) (by decide +kernel)
theorem q_p43 : Cond.selects "SkirmishGridModel" yX9_roll yX9_roll ∈ GW := gw_p 43 (by decide +kernel) (by decide +kernel)
theorem q_1530 : Cond.code yX9_roll cX9_roll 2 (some .int) ∈ GW := gw_t 1530 (by decide +kernel) (by decide +kernel)
theorem q_1532 : Cond.methodLink "SkirmishGridModel" 147 yX9_kindly ∈ GW := gw_t 1532 (by decide +kernel) (by decide +kernel)
theorem q_1534 : Cond.instanceMethod yX9_kindly ∈ GW := gw_t 1534 (by decide +kernel) (by decide +kernel)
theorem q_p44 : Cond.selects "SkirmishGridModel" yX9_kindly yX9_kindly ∈ GW := gw_p 44 (by decide +kernel) (by decide +kernel)
theorem q_1535 : Cond.code yX9_kindly cX9_kindly 3 (some .int) ∈ GW := gw_t 1535 (by decide +kernel) (by decide +kernel)
theorem dX9_sees_0 : decode cX9_sees 0 = .ok (.aload_n 0, 1) := by decide +kernel
theorem dX9_sees_1 : decode cX9_sees 1 = .ok (.getfield 9, 3) := by decide +kernel
theorem dX9_sees_4 : decode cX9_sees 4 = .ok (.iconst 0, 1) := by decide +kernel
theorem dX9_sees_5 : decode cX9_sees 5 = .ok (.iaload, 1) := by decide +kernel
theorem dX9_sees_6 : decode cX9_sees 6 = .ok (.aload_n 0, 1) := by decide +kernel
theorem dX9_sees_7 : decode cX9_sees 7 = .ok (.getfield 9, 3) := by decide +kernel
theorem dX9_sees_10 : decode cX9_sees 10 = .ok (.iconst 1, 1) := by decide +kernel
theorem dX9_sees_11 : decode cX9_sees 11 = .ok (.iaload, 1) := by decide +kernel
theorem dX9_sees_12 : decode cX9_sees 12 = .ok (.imul, 1) := by decide +kernel
theorem dX9_sees_13 : decode cX9_sees 13 = .ok (.istore_n 3, 1) := by decide +kernel
theorem dX9_sees_14 : decode cX9_sees 14 = .ok (.iconst 0, 1) := by decide +kernel
theorem dX9_sees_15 : decode cX9_sees 15 = .ok (.istore 4, 2) := by decide +kernel
theorem dX9_sees_17 : decode cX9_sees 17 = .ok (.iload 4, 2) := by decide +kernel
theorem dX9_sees_19 : decode cX9_sees 19 = .ok (.iload_n 3, 1) := by decide +kernel
theorem dX9_sees_20 : decode cX9_sees 20 = .ok (.if_icmp .ge 47, 3) := by decide +kernel
theorem dX9_sees_23 : decode cX9_sees 23 = .ok (.aload_n 0, 1) := by decide +kernel
theorem dX9_sees_24 : decode cX9_sees 24 = .ok (.getfield 9, 3) := by decide +kernel
theorem dX9_sees_27 : decode cX9_sees 27 = .ok (.iconst 2, 1) := by decide +kernel
theorem dX9_sees_28 : decode cX9_sees 28 = .ok (.iload 4, 2) := by decide +kernel
theorem dX9_sees_30 : decode cX9_sees 30 = .ok (.iadd, 1) := by decide +kernel
theorem dX9_sees_31 : decode cX9_sees 31 = .ok (.iaload, 1) := by decide +kernel
theorem dX9_sees_32 : decode cX9_sees 32 = .ok (.iconst 1, 1) := by decide +kernel
theorem dX9_sees_33 : decode cX9_sees 33 = .ok (.if_icmp .ne 28, 3) := by decide +kernel
theorem dX9_sees_36 : decode cX9_sees 36 = .ok (.iload 4, 2) := by decide +kernel
theorem dX9_sees_38 : decode cX9_sees 38 = .ok (.iload_n 1, 1) := by decide +kernel
theorem dX9_sees_39 : decode cX9_sees 39 = .ok (.if_icmp .eq 22, 3) := by decide +kernel
theorem dX9_sees_42 : decode cX9_sees 42 = .ok (.iload 4, 2) := by decide +kernel
theorem dX9_sees_44 : decode cX9_sees 44 = .ok (.iload_n 2, 1) := by decide +kernel
theorem dX9_sees_45 : decode cX9_sees 45 = .ok (.if_icmp .eq 16, 3) := by decide +kernel
theorem dX9_sees_48 : decode cX9_sees 48 = .ok (.aload_n 0, 1) := by decide +kernel
theorem dX9_sees_49 : decode cX9_sees 49 = .ok (.iload 4, 2) := by decide +kernel
theorem dX9_sees_51 : decode cX9_sees 51 = .ok (.iload_n 1, 1) := by decide +kernel
theorem dX9_sees_52 : decode cX9_sees 52 = .ok (.iload_n 2, 1) := by decide +kernel
theorem dX9_sees_53 : decode cX9_sees 53 = .ok (.invokevirtual 100, 3) := by decide +kernel
theorem dX9_sees_56 : decode cX9_sees 56 = .ok (.ifCond .eq 5, 3) := by decide +kernel
theorem dX9_sees_59 : decode cX9_sees 59 = .ok (.iconst 0, 1) := by decide +kernel
theorem dX9_sees_60 : decode cX9_sees 60 = .ok (.ireturn, 1) := by decide +kernel
theorem dX9_sees_61 : decode cX9_sees 61 = .ok (.iinc 4 1, 3) := by decide +kernel
theorem dX9_sees_64 : decode cX9_sees 64 = .ok (.goto (-47), 3) := by decide +kernel
theorem dX9_sees_67 : decode cX9_sees 67 = .ok (.iconst 1, 1) := by decide +kernel
theorem dX9_sees_68 : decode cX9_sees 68 = .ok (.ireturn, 1) := by decide +kernel
theorem dX9_isPair_0 : decode cX9_isPair 0 = .ok (.aload_n 0, 1) := by decide +kernel
theorem dX9_isPair_1 : decode cX9_isPair 1 = .ok (.aload_n 0, 1) := by decide +kernel
theorem dX9_isPair_2 : decode cX9_isPair 2 = .ok (.iload_n 1, 1) := by decide +kernel
theorem dX9_isPair_3 : decode cX9_isPair 3 = .ok (.invokevirtual 103, 3) := by decide +kernel
theorem dX9_isPair_6 : decode cX9_isPair 6 = .ok (.ifCond .eq 15, 3) := by decide +kernel
theorem dX9_isPair_9 : decode cX9_isPair 9 = .ok (.aload_n 0, 1) := by decide +kernel
theorem dX9_isPair_10 : decode cX9_isPair 10 = .ok (.iload_n 2, 1) := by decide +kernel
theorem dX9_isPair_11 : decode cX9_isPair 11 = .ok (.invokevirtual 103, 3) := by decide +kernel
theorem dX9_isPair_14 : decode cX9_isPair 14 = .ok (.ifCond .eq 7, 3) := by decide +kernel
theorem dX9_isPair_17 : decode cX9_isPair 17 = .ok (.iconst 0, 1) := by decide +kernel
theorem dX9_isPair_18 : decode cX9_isPair 18 = .ok (.goto 4, 3) := by decide +kernel
theorem dX9_isPair_21 : decode cX9_isPair 21 = .ok (.iconst 1, 1) := by decide +kernel
theorem dX9_isPair_22 : decode cX9_isPair 22 = .ok (.putfield 57, 3) := by decide +kernel
theorem dX9_isPair_25 : decode cX9_isPair 25 = .ok (.aload_n 0, 1) := by decide +kernel
theorem dX9_isPair_26 : decode cX9_isPair 26 = .ok (.getfield 57, 3) := by decide +kernel
theorem dX9_isPair_29 : decode cX9_isPair 29 = .ok (.ifCond .ne 7, 3) := by decide +kernel
theorem dX9_isPair_32 : decode cX9_isPair 32 = .ok (.iconst 1, 1) := by decide +kernel
theorem dX9_isPair_33 : decode cX9_isPair 33 = .ok (.goto 4, 3) := by decide +kernel
theorem dX9_isPair_36 : decode cX9_isPair 36 = .ok (.iconst 0, 1) := by decide +kernel
theorem dX9_isPair_37 : decode cX9_isPair 37 = .ok (.ireturn, 1) := by decide +kernel
theorem dX9_isSeen_0 : decode cX9_isSeen 0 = .ok (.aload_n 0, 1) := by decide +kernel
theorem dX9_isSeen_1 : decode cX9_isSeen 1 = .ok (.iload_n 1, 1) := by decide +kernel
theorem dX9_isSeen_2 : decode cX9_isSeen 2 = .ok (.iload_n 2, 1) := by decide +kernel
theorem dX9_isSeen_3 : decode cX9_isSeen 3 = .ok (.invokevirtual 107, 3) := by decide +kernel
theorem dX9_isSeen_6 : decode cX9_isSeen 6 = .ok (.ifCond .eq 16, 3) := by decide +kernel
theorem dX9_isSeen_9 : decode cX9_isSeen 9 = .ok (.aload_n 0, 1) := by decide +kernel
theorem dX9_isSeen_10 : decode cX9_isSeen 10 = .ok (.iload_n 1, 1) := by decide +kernel
theorem dX9_isSeen_11 : decode cX9_isSeen 11 = .ok (.iload_n 2, 1) := by decide +kernel
theorem dX9_isSeen_12 : decode cX9_isSeen 12 = .ok (.invokevirtual 111, 3) := by decide +kernel
theorem dX9_isSeen_15 : decode cX9_isSeen 15 = .ok (.ifCond .eq 7, 3) := by decide +kernel
theorem dX9_isSeen_18 : decode cX9_isSeen 18 = .ok (.iconst 1, 1) := by decide +kernel
theorem dX9_isSeen_19 : decode cX9_isSeen 19 = .ok (.goto 4, 3) := by decide +kernel
theorem dX9_isSeen_22 : decode cX9_isSeen 22 = .ok (.iconst 0, 1) := by decide +kernel
theorem dX9_isSeen_23 : decode cX9_isSeen 23 = .ok (.ireturn, 1) := by decide +kernel
theorem dX9_covers_0 : decode cX9_covers 0 = .ok (.aload_n 0, 1) := by decide +kernel
theorem dX9_covers_1 : decode cX9_covers 1 = .ok (.getfield 9, 3) := by decide +kernel
theorem dX9_covers_4 : decode cX9_covers 4 = .ok (.iconst 1, 1) := by decide +kernel
theorem dX9_covers_5 : decode cX9_covers 5 = .ok (.iaload, 1) := by decide +kernel
theorem dX9_covers_6 : decode cX9_covers 6 = .ok (.istore_n 3, 1) := by decide +kernel
theorem dX9_covers_7 : decode cX9_covers 7 = .ok (.aload_n 0, 1) := by decide +kernel
theorem dX9_covers_8 : decode cX9_covers 8 = .ok (.iload_n 2, 1) := by decide +kernel
theorem dX9_covers_9 : decode cX9_covers 9 = .ok (.invokevirtual 71, 3) := by decide +kernel
theorem dX9_covers_12 : decode cX9_covers 12 = .ok (.aload_n 0, 1) := by decide +kernel
theorem dX9_covers_13 : decode cX9_covers 13 = .ok (.iload_n 1, 1) := by decide +kernel
theorem dX9_covers_14 : decode cX9_covers 14 = .ok (.invokevirtual 71, 3) := by decide +kernel
theorem dX9_covers_17 : decode cX9_covers 17 = .ok (.if_icmp .ge 16, 3) := by decide +kernel
theorem dX9_covers_20 : decode cX9_covers 20 = .ok (.aload_n 0, 1) := by decide +kernel
theorem dX9_covers_21 : decode cX9_covers 21 = .ok (.getfield 9, 3) := by decide +kernel
theorem dX9_covers_24 : decode cX9_covers 24 = .ok (.iconst 2, 1) := by decide +kernel
theorem dX9_covers_25 : decode cX9_covers 25 = .ok (.iload_n 1, 1) := by decide +kernel
theorem dX9_covers_26 : decode cX9_covers 26 = .ok (.iadd, 1) := by decide +kernel
theorem dX9_covers_27 : decode cX9_covers 27 = .ok (.iload_n 3, 1) := by decide +kernel
theorem dX9_covers_28 : decode cX9_covers 28 = .ok (.isub, 1) := by decide +kernel
theorem dX9_covers_29 : decode cX9_covers 29 = .ok (.iaload, 1) := by decide +kernel
theorem dX9_covers_30 : decode cX9_covers 30 = .ok (.goto 30, 3) := by decide +kernel
theorem dX9_covers_33 : decode cX9_covers 33 = .ok (.aload_n 0, 1) := by decide +kernel
theorem dX9_covers_34 : decode cX9_covers 34 = .ok (.iload_n 2, 1) := by decide +kernel
theorem dX9_covers_35 : decode cX9_covers 35 = .ok (.invokevirtual 71, 3) := by decide +kernel
theorem dX9_covers_38 : decode cX9_covers 38 = .ok (.aload_n 0, 1) := by decide +kernel
theorem dX9_covers_39 : decode cX9_covers 39 = .ok (.iload_n 1, 1) := by decide +kernel
theorem dX9_covers_40 : decode cX9_covers 40 = .ok (.invokevirtual 71, 3) := by decide +kernel
theorem dX9_covers_43 : decode cX9_covers 43 = .ok (.if_icmp .le 16, 3) := by decide +kernel
theorem dX9_covers_46 : decode cX9_covers 46 = .ok (.aload_n 0, 1) := by decide +kernel
theorem dX9_covers_47 : decode cX9_covers 47 = .ok (.getfield 9, 3) := by decide +kernel
theorem dX9_covers_50 : decode cX9_covers 50 = .ok (.iconst 2, 1) := by decide +kernel
theorem dX9_covers_51 : decode cX9_covers 51 = .ok (.iload_n 1, 1) := by decide +kernel
theorem dX9_covers_52 : decode cX9_covers 52 = .ok (.iadd, 1) := by decide +kernel
theorem dX9_covers_53 : decode cX9_covers 53 = .ok (.iload_n 3, 1) := by decide +kernel
theorem dX9_covers_54 : decode cX9_covers 54 = .ok (.iadd, 1) := by decide +kernel
theorem dX9_covers_55 : decode cX9_covers 55 = .ok (.iaload, 1) := by decide +kernel
theorem dX9_covers_56 : decode cX9_covers 56 = .ok (.goto 4, 3) := by decide +kernel
theorem dX9_covers_59 : decode cX9_covers 59 = .ok (.iconst 0, 1) := by decide +kernel
theorem dX9_covers_60 : decode cX9_covers 60 = .ok (.istore 4, 2) := by decide +kernel
theorem dX9_covers_62 : decode cX9_covers 62 = .ok (.aload_n 0, 1) := by decide +kernel
theorem dX9_covers_63 : decode cX9_covers 63 = .ok (.iload_n 2, 1) := by decide +kernel
theorem dX9_covers_64 : decode cX9_covers 64 = .ok (.invokevirtual 75, 3) := by decide +kernel
theorem dX9_covers_67 : decode cX9_covers 67 = .ok (.aload_n 0, 1) := by decide +kernel
theorem dX9_covers_68 : decode cX9_covers 68 = .ok (.iload_n 1, 1) := by decide +kernel
theorem dX9_covers_69 : decode cX9_covers 69 = .ok (.invokevirtual 75, 3) := by decide +kernel
theorem dX9_covers_72 : decode cX9_covers 72 = .ok (.if_icmp .ge 16, 3) := by decide +kernel
theorem dX9_covers_75 : decode cX9_covers 75 = .ok (.aload_n 0, 1) := by decide +kernel
theorem dX9_covers_76 : decode cX9_covers 76 = .ok (.getfield 9, 3) := by decide +kernel
theorem dX9_covers_79 : decode cX9_covers 79 = .ok (.iconst 2, 1) := by decide +kernel
theorem dX9_covers_80 : decode cX9_covers 80 = .ok (.iload_n 1, 1) := by decide +kernel
theorem dX9_covers_81 : decode cX9_covers 81 = .ok (.iadd, 1) := by decide +kernel
theorem dX9_covers_82 : decode cX9_covers 82 = .ok (.iconst 1, 1) := by decide +kernel
theorem dX9_covers_83 : decode cX9_covers 83 = .ok (.isub, 1) := by decide +kernel
theorem dX9_covers_84 : decode cX9_covers 84 = .ok (.iaload, 1) := by decide +kernel
theorem dX9_covers_85 : decode cX9_covers 85 = .ok (.goto 30, 3) := by decide +kernel
theorem dX9_covers_88 : decode cX9_covers 88 = .ok (.aload_n 0, 1) := by decide +kernel
theorem dX9_covers_89 : decode cX9_covers 89 = .ok (.iload_n 2, 1) := by decide +kernel
theorem dX9_covers_90 : decode cX9_covers 90 = .ok (.invokevirtual 75, 3) := by decide +kernel
theorem dX9_covers_93 : decode cX9_covers 93 = .ok (.aload_n 0, 1) := by decide +kernel
theorem dX9_covers_94 : decode cX9_covers 94 = .ok (.iload_n 1, 1) := by decide +kernel
theorem dX9_covers_95 : decode cX9_covers 95 = .ok (.invokevirtual 75, 3) := by decide +kernel
theorem dX9_covers_98 : decode cX9_covers 98 = .ok (.if_icmp .le 16, 3) := by decide +kernel
theorem dX9_covers_101 : decode cX9_covers 101 = .ok (.aload_n 0, 1) := by decide +kernel
theorem dX9_covers_102 : decode cX9_covers 102 = .ok (.getfield 9, 3) := by decide +kernel
theorem dX9_covers_105 : decode cX9_covers 105 = .ok (.iconst 2, 1) := by decide +kernel
theorem dX9_covers_106 : decode cX9_covers 106 = .ok (.iload_n 1, 1) := by decide +kernel
theorem dX9_covers_107 : decode cX9_covers 107 = .ok (.iadd, 1) := by decide +kernel
theorem dX9_covers_108 : decode cX9_covers 108 = .ok (.iconst 1, 1) := by decide +kernel
theorem dX9_covers_109 : decode cX9_covers 109 = .ok (.iadd, 1) := by decide +kernel
theorem dX9_covers_110 : decode cX9_covers 110 = .ok (.iaload, 1) := by decide +kernel
theorem dX9_covers_111 : decode cX9_covers 111 = .ok (.goto 4, 3) := by decide +kernel
theorem dX9_covers_114 : decode cX9_covers 114 = .ok (.iconst 0, 1) := by decide +kernel
theorem dX9_covers_115 : decode cX9_covers 115 = .ok (.istore 5, 2) := by decide +kernel
theorem dX9_covers_117 : decode cX9_covers 117 = .ok (.iload 4, 2) := by decide +kernel
theorem dX9_covers_119 : decode cX9_covers 119 = .ok (.iconst 1, 1) := by decide +kernel
theorem dX9_covers_120 : decode cX9_covers 120 = .ok (.if_icmp .eq 9, 3) := by decide +kernel
theorem dX9_covers_123 : decode cX9_covers 123 = .ok (.iload 5, 2) := by decide +kernel
theorem dX9_covers_125 : decode cX9_covers 125 = .ok (.iconst 1, 1) := by decide +kernel
theorem dX9_covers_126 : decode cX9_covers 126 = .ok (.if_icmp .ne 7, 3) := by decide +kernel
theorem dX9_covers_129 : decode cX9_covers 129 = .ok (.iconst 2, 1) := by decide +kernel
theorem dX9_covers_130 : decode cX9_covers 130 = .ok (.goto 20, 3) := by decide +kernel
theorem dX9_covers_133 : decode cX9_covers 133 = .ok (.iload 4, 2) := by decide +kernel
theorem dX9_covers_135 : decode cX9_covers 135 = .ok (.iconst 2, 1) := by decide +kernel
theorem dX9_covers_136 : decode cX9_covers 136 = .ok (.if_icmp .eq 9, 3) := by decide +kernel
theorem dX9_covers_139 : decode cX9_covers 139 = .ok (.iload 5, 2) := by decide +kernel
theorem dX9_covers_141 : decode cX9_covers 141 = .ok (.iconst 2, 1) := by decide +kernel
theorem dX9_covers_142 : decode cX9_covers 142 = .ok (.if_icmp .ne 7, 3) := by decide +kernel
theorem dX9_covers_145 : decode cX9_covers 145 = .ok (.iconst 1, 1) := by decide +kernel
theorem dX9_covers_146 : decode cX9_covers 146 = .ok (.goto 4, 3) := by decide +kernel
theorem dX9_covers_149 : decode cX9_covers 149 = .ok (.iconst 0, 1) := by decide +kernel
theorem dX9_covers_150 : decode cX9_covers 150 = .ok (.ireturn, 1) := by decide +kernel
theorem dX9_cover_0 : decode cX9_cover 0 = .ok (.aload_n 0, 1) := by decide +kernel
theorem dX9_cover_1 : decode cX9_cover 1 = .ok (.iload_n 1, 1) := by decide +kernel
theorem dX9_cover_2 : decode cX9_cover 2 = .ok (.iload_n 2, 1) := by decide +kernel
theorem dX9_cover_3 : decode cX9_cover 3 = .ok (.invokevirtual 107, 3) := by decide +kernel
theorem dX9_cover_6 : decode cX9_cover 6 = .ok (.ifCond .eq 12, 3) := by decide +kernel
theorem dX9_cover_9 : decode cX9_cover 9 = .ok (.aload_n 0, 1) := by decide +kernel
theorem dX9_cover_10 : decode cX9_cover 10 = .ok (.iload_n 1, 1) := by decide +kernel
theorem dX9_cover_11 : decode cX9_cover 11 = .ok (.iload_n 2, 1) := by decide +kernel
theorem dX9_cover_12 : decode cX9_cover 12 = .ok (.invokevirtual 114, 3) := by decide +kernel
theorem dX9_cover_15 : decode cX9_cover 15 = .ok (.goto 4, 3) := by decide +kernel
theorem dX9_cover_18 : decode cX9_cover 18 = .ok (.iconst 0, 1) := by decide +kernel
theorem dX9_cover_19 : decode cX9_cover 19 = .ok (.ireturn, 1) := by decide +kernel
theorem dX9_unitOn_0 : decode cX9_unitOn 0 = .ok (.iconst 0, 1) := by decide +kernel
theorem dX9_unitOn_1 : decode cX9_unitOn 1 = .ok (.istore_n 2, 1) := by decide +kernel
theorem dX9_unitOn_2 : decode cX9_unitOn 2 = .ok (.iload_n 2, 1) := by decide +kernel
theorem dX9_unitOn_3 : decode cX9_unitOn 3 = .ok (.aload_n 0, 1) := by decide +kernel
theorem dX9_unitOn_4 : decode cX9_unitOn 4 = .ok (.getfield 9, 3) := by decide +kernel
theorem dX9_unitOn_7 : decode cX9_unitOn 7 = .ok (.bipush 66, 2) := by decide +kernel
theorem dX9_unitOn_9 : decode cX9_unitOn 9 = .ok (.iaload, 1) := by decide +kernel
theorem dX9_unitOn_10 : decode cX9_unitOn 10 = .ok (.if_icmp .ge 29, 3) := by decide +kernel
theorem dX9_unitOn_13 : decode cX9_unitOn 13 = .ok (.aload_n 0, 1) := by decide +kernel
theorem dX9_unitOn_14 : decode cX9_unitOn 14 = .ok (.iload_n 2, 1) := by decide +kernel
theorem dX9_unitOn_15 : decode cX9_unitOn 15 = .ok (.invokevirtual 117, 3) := by decide +kernel
theorem dX9_unitOn_18 : decode cX9_unitOn 18 = .ok (.ifCond .eq 15, 3) := by decide +kernel
theorem dX9_unitOn_21 : decode cX9_unitOn 21 = .ok (.aload_n 0, 1) := by decide +kernel
theorem dX9_unitOn_22 : decode cX9_unitOn 22 = .ok (.iload_n 2, 1) := by decide +kernel
theorem dX9_unitOn_23 : decode cX9_unitOn 23 = .ok (.iconst 2, 1) := by decide +kernel
theorem dX9_unitOn_24 : decode cX9_unitOn 24 = .ok (.invokevirtual 60, 3) := by decide +kernel
theorem dX9_unitOn_27 : decode cX9_unitOn 27 = .ok (.iload_n 1, 1) := by decide +kernel
theorem dX9_unitOn_28 : decode cX9_unitOn 28 = .ok (.if_icmp .ne 5, 3) := by decide +kernel
theorem dX9_unitOn_31 : decode cX9_unitOn 31 = .ok (.iload_n 2, 1) := by decide +kernel
theorem dX9_unitOn_32 : decode cX9_unitOn 32 = .ok (.ireturn, 1) := by decide +kernel
theorem dX9_unitOn_33 : decode cX9_unitOn 33 = .ok (.iinc 2 1, 3) := by decide +kernel
theorem dX9_unitOn_36 : decode cX9_unitOn 36 = .ok (.goto (-34), 3) := by decide +kernel
theorem dX9_unitOn_39 : decode cX9_unitOn 39 = .ok (.iconst (-1), 1) := by decide +kernel
theorem dX9_unitOn_40 : decode cX9_unitOn 40 = .ok (.ireturn, 1) := by decide +kernel
theorem dX9_hasBegun_0 : decode cX9_hasBegun 0 = .ok (.aload_n 0, 1) := by decide +kernel
theorem dX9_hasBegun_1 : decode cX9_hasBegun 1 = .ok (.getfield 9, 3) := by decide +kernel
theorem dX9_hasBegun_4 : decode cX9_hasBegun 4 = .ok (.sipush 156, 3) := by decide +kernel
theorem dX9_hasBegun_7 : decode cX9_hasBegun 7 = .ok (.iaload, 1) := by decide +kernel
theorem dX9_hasBegun_8 : decode cX9_hasBegun 8 = .ok (.ifCond .le 7, 3) := by decide +kernel
theorem dX9_hasBegun_11 : decode cX9_hasBegun 11 = .ok (.iconst 1, 1) := by decide +kernel
theorem dX9_hasBegun_12 : decode cX9_hasBegun 12 = .ok (.goto 4, 3) := by decide +kernel
theorem dX9_hasBegun_15 : decode cX9_hasBegun 15 = .ok (.iconst 0, 1) := by decide +kernel
theorem dX9_hasBegun_16 : decode cX9_hasBegun 16 = .ok (.ireturn, 1) := by decide +kernel
theorem dX9_addUnit_0 : decode cX9_addUnit 0 = .ok (.aload_n 0, 1) := by decide +kernel
theorem dX9_addUnit_1 : decode cX9_addUnit 1 = .ok (.iconst 0, 1) := by decide +kernel
theorem dX9_addUnit_2 : decode cX9_addUnit 2 = .ok (.putfield 57, 3) := by decide +kernel
theorem dX9_addUnit_5 : decode cX9_addUnit 5 = .ok (.iload_n 1, 1) := by decide +kernel
theorem dX9_addUnit_6 : decode cX9_addUnit 6 = .ok (.iconst 0, 1) := by decide +kernel
theorem dX9_addUnit_7 : decode cX9_addUnit 7 = .ok (.iconst 1, 1) := by decide +kernel
theorem dX9_addUnit_8 : decode cX9_addUnit 8 = .ok (.invokestatic 67, 3) := by decide +kernel
theorem dX9_addUnit_11 : decode cX9_addUnit 11 = .ok (.ifCond .eq 20, 3) := by decide +kernel
theorem dX9_addUnit_14 : decode cX9_addUnit 14 = .ok (.iload_n 2, 1) := by decide +kernel
theorem dX9_addUnit_15 : decode cX9_addUnit 15 = .ok (.iconst 0, 1) := by decide +kernel
theorem dX9_addUnit_16 : decode cX9_addUnit 16 = .ok (.iconst 3, 1) := by decide +kernel
theorem dX9_addUnit_17 : decode cX9_addUnit 17 = .ok (.invokestatic 67, 3) := by decide +kernel
theorem dX9_addUnit_20 : decode cX9_addUnit 20 = .ok (.ifCond .eq 11, 3) := by decide +kernel
theorem dX9_addUnit_23 : decode cX9_addUnit 23 = .ok (.aload_n 0, 1) := by decide +kernel
theorem dX9_addUnit_24 : decode cX9_addUnit 24 = .ok (.iload_n 3, 1) := by decide +kernel
theorem dX9_addUnit_25 : decode cX9_addUnit 25 = .ok (.invokevirtual 103, 3) := by decide +kernel
theorem dX9_addUnit_28 : decode cX9_addUnit 28 = .ok (.ifCond .ne 9, 3) := by decide +kernel
theorem dX9_addUnit_31 : decode cX9_addUnit 31 = .ok (.aload_n 0, 1) := by decide +kernel
theorem dX9_addUnit_32 : decode cX9_addUnit 32 = .ok (.iconst 1, 1) := by decide +kernel
theorem dX9_addUnit_33 : decode cX9_addUnit 33 = .ok (.invokevirtual 78, 3) := by decide +kernel
theorem dX9_addUnit_36 : decode cX9_addUnit 36 = .ok (.ireturn, 1) := by decide +kernel
theorem dX9_addUnit_37 : decode cX9_addUnit 37 = .ok (.aload_n 0, 1) := by decide +kernel
theorem dX9_addUnit_38 : decode cX9_addUnit 38 = .ok (.getfield 9, 3) := by decide +kernel
theorem dX9_addUnit_41 : decode cX9_addUnit 41 = .ok (.iconst 2, 1) := by decide +kernel
theorem dX9_addUnit_42 : decode cX9_addUnit 42 = .ok (.iload_n 3, 1) := by decide +kernel
theorem dX9_addUnit_43 : decode cX9_addUnit 43 = .ok (.iadd, 1) := by decide +kernel
theorem dX9_addUnit_44 : decode cX9_addUnit 44 = .ok (.iaload, 1) := by decide +kernel
theorem dX9_addUnit_45 : decode cX9_addUnit 45 = .ok (.iconst 1, 1) := by decide +kernel
theorem dX9_addUnit_46 : decode cX9_addUnit 46 = .ok (.if_icmp .eq 11, 3) := by decide +kernel
theorem dX9_addUnit_49 : decode cX9_addUnit 49 = .ok (.aload_n 0, 1) := by decide +kernel
theorem dX9_addUnit_50 : decode cX9_addUnit 50 = .ok (.iload_n 3, 1) := by decide +kernel
theorem dX9_addUnit_51 : decode cX9_addUnit 51 = .ok (.invokevirtual 120, 3) := by decide +kernel
theorem dX9_addUnit_54 : decode cX9_addUnit 54 = .ok (.ifCond .lt 9, 3) := by decide +kernel
theorem dX9_addUnit_57 : decode cX9_addUnit 57 = .ok (.aload_n 0, 1) := by decide +kernel
theorem dX9_addUnit_58 : decode cX9_addUnit 58 = .ok (.iconst 2, 1) := by decide +kernel
theorem dX9_addUnit_59 : decode cX9_addUnit 59 = .ok (.invokevirtual 78, 3) := by decide +kernel
theorem dX9_addUnit_62 : decode cX9_addUnit 62 = .ok (.ireturn, 1) := by decide +kernel
theorem dX9_addUnit_63 : decode cX9_addUnit 63 = .ok (.aload_n 0, 1) := by decide +kernel
theorem dX9_addUnit_64 : decode cX9_addUnit 64 = .ok (.invokevirtual 123, 3) := by decide +kernel
theorem dX9_addUnit_67 : decode cX9_addUnit 67 = .ok (.ifCond .ne 15, 3) := by decide +kernel
theorem dX9_addUnit_70 : decode cX9_addUnit 70 = .ok (.aload_n 0, 1) := by decide +kernel
theorem dX9_addUnit_71 : decode cX9_addUnit 71 = .ok (.getfield 9, 3) := by decide +kernel
theorem dX9_addUnit_74 : decode cX9_addUnit 74 = .ok (.bipush 66, 2) := by decide +kernel
theorem dX9_addUnit_76 : decode cX9_addUnit 76 = .ok (.iaload, 1) := by decide +kernel
theorem dX9_addUnit_77 : decode cX9_addUnit 77 = .ok (.bipush 8, 2) := by decide +kernel
theorem dX9_addUnit_79 : decode cX9_addUnit 79 = .ok (.if_icmp .ne 9, 3) := by decide +kernel
theorem dX9_addUnit_82 : decode cX9_addUnit 82 = .ok (.aload_n 0, 1) := by decide +kernel
theorem dX9_addUnit_83 : decode cX9_addUnit 83 = .ok (.iconst 3, 1) := by decide +kernel
theorem dX9_addUnit_84 : decode cX9_addUnit 84 = .ok (.invokevirtual 78, 3) := by decide +kernel
theorem dX9_addUnit_87 : decode cX9_addUnit 87 = .ok (.ireturn, 1) := by decide +kernel
theorem dX9_addUnit_88 : decode cX9_addUnit 88 = .ok (.aload_n 0, 1) := by decide +kernel
theorem dX9_addUnit_89 : decode cX9_addUnit 89 = .ok (.getfield 9, 3) := by decide +kernel
theorem dX9_addUnit_92 : decode cX9_addUnit 92 = .ok (.bipush 66, 2) := by decide +kernel
theorem dX9_addUnit_94 : decode cX9_addUnit 94 = .ok (.iaload, 1) := by decide +kernel
theorem dX9_addUnit_95 : decode cX9_addUnit 95 = .ok (.istore 4, 2) := by decide +kernel
theorem dX9_addUnit_97 : decode cX9_addUnit 97 = .ok (.aload_n 0, 1) := by decide +kernel
theorem dX9_addUnit_98 : decode cX9_addUnit 98 = .ok (.getfield 9, 3) := by decide +kernel
theorem dX9_addUnit_101 : decode cX9_addUnit 101 = .ok (.bipush 66, 2) := by decide +kernel
theorem dX9_addUnit_103 : decode cX9_addUnit 103 = .ok (.dup2, 1) := by decide +kernel
theorem dX9_addUnit_104 : decode cX9_addUnit 104 = .ok (.iaload, 1) := by decide +kernel
theorem dX9_addUnit_105 : decode cX9_addUnit 105 = .ok (.iconst 1, 1) := by decide +kernel
theorem dX9_addUnit_106 : decode cX9_addUnit 106 = .ok (.iadd, 1) := by decide +kernel
theorem dX9_addUnit_107 : decode cX9_addUnit 107 = .ok (.iastore, 1) := by decide +kernel
theorem dX9_addUnit_108 : decode cX9_addUnit 108 = .ok (.iconst 0, 1) := by decide +kernel
theorem dX9_addUnit_109 : decode cX9_addUnit 109 = .ok (.istore 5, 2) := by decide +kernel
theorem dX9_addUnit_111 : decode cX9_addUnit 111 = .ok (.iload 5, 2) := by decide +kernel
theorem dX9_addUnit_113 : decode cX9_addUnit 113 = .ok (.bipush 11, 2) := by decide +kernel
theorem dX9_addUnit_115 : decode cX9_addUnit 115 = .ok (.if_icmp .ge 18, 3) := by decide +kernel
theorem dX9_addUnit_118 : decode cX9_addUnit 118 = .ok (.aload_n 0, 1) := by decide +kernel
theorem dX9_addUnit_119 : decode cX9_addUnit 119 = .ok (.iload 4, 2) := by decide +kernel
theorem dX9_addUnit_121 : decode cX9_addUnit 121 = .ok (.iload 5, 2) := by decide +kernel
theorem dX9_addUnit_123 : decode cX9_addUnit 123 = .ok (.iconst 0, 1) := by decide +kernel
theorem dX9_addUnit_124 : decode cX9_addUnit 124 = .ok (.invokevirtual 127, 3) := by decide +kernel
theorem dX9_addUnit_127 : decode cX9_addUnit 127 = .ok (.iinc 5 1, 3) := by decide +kernel
theorem dX9_addUnit_130 : decode cX9_addUnit 130 = .ok (.goto (-19), 3) := by decide +kernel
theorem dX9_addUnit_133 : decode cX9_addUnit 133 = .ok (.aload_n 0, 1) := by decide +kernel
theorem dX9_addUnit_134 : decode cX9_addUnit 134 = .ok (.iload 4, 2) := by decide +kernel
theorem dX9_addUnit_136 : decode cX9_addUnit 136 = .ok (.iconst 0, 1) := by decide +kernel
theorem dX9_addUnit_137 : decode cX9_addUnit 137 = .ok (.iload_n 1, 1) := by decide +kernel
theorem dX9_addUnit_138 : decode cX9_addUnit 138 = .ok (.invokevirtual 127, 3) := by decide +kernel
theorem dX9_addUnit_141 : decode cX9_addUnit 141 = .ok (.aload_n 0, 1) := by decide +kernel
theorem dX9_addUnit_142 : decode cX9_addUnit 142 = .ok (.iload 4, 2) := by decide +kernel
theorem dX9_addUnit_144 : decode cX9_addUnit 144 = .ok (.iconst 1, 1) := by decide +kernel
theorem dX9_addUnit_145 : decode cX9_addUnit 145 = .ok (.iload_n 2, 1) := by decide +kernel
theorem dX9_addUnit_146 : decode cX9_addUnit 146 = .ok (.invokevirtual 127, 3) := by decide +kernel
theorem dX9_addUnit_149 : decode cX9_addUnit 149 = .ok (.aload_n 0, 1) := by decide +kernel
theorem dX9_addUnit_150 : decode cX9_addUnit 150 = .ok (.iload 4, 2) := by decide +kernel
theorem dX9_addUnit_152 : decode cX9_addUnit 152 = .ok (.iconst 2, 1) := by decide +kernel
theorem dX9_addUnit_153 : decode cX9_addUnit 153 = .ok (.iload_n 3, 1) := by decide +kernel
theorem dX9_addUnit_154 : decode cX9_addUnit 154 = .ok (.invokevirtual 127, 3) := by decide +kernel
theorem dX9_addUnit_157 : decode cX9_addUnit 157 = .ok (.aload_n 0, 1) := by decide +kernel
theorem dX9_addUnit_158 : decode cX9_addUnit 158 = .ok (.iload 4, 2) := by decide +kernel
theorem dX9_addUnit_160 : decode cX9_addUnit 160 = .ok (.iconst 3, 1) := by decide +kernel
theorem dX9_addUnit_161 : decode cX9_addUnit 161 = .ok (.iload_n 2, 1) := by decide +kernel
theorem dX9_addUnit_162 : decode cX9_addUnit 162 = .ok (.iconst 0, 1) := by decide +kernel
theorem dX9_addUnit_163 : decode cX9_addUnit 163 = .ok (.invokestatic 64, 3) := by decide +kernel
theorem dX9_addUnit_166 : decode cX9_addUnit 166 = .ok (.invokevirtual 127, 3) := by decide +kernel
theorem dX9_addUnit_169 : decode cX9_addUnit 169 = .ok (.aload_n 0, 1) := by decide +kernel
theorem dX9_addUnit_170 : decode cX9_addUnit 170 = .ok (.iload 4, 2) := by decide +kernel
theorem dX9_addUnit_172 : decode cX9_addUnit 172 = .ok (.iconst 4, 1) := by decide +kernel
theorem dX9_addUnit_173 : decode cX9_addUnit 173 = .ok (.iload_n 2, 1) := by decide +kernel
theorem dX9_addUnit_174 : decode cX9_addUnit 174 = .ok (.bipush 7, 2) := by decide +kernel
theorem dX9_addUnit_176 : decode cX9_addUnit 176 = .ok (.invokestatic 64, 3) := by decide +kernel
theorem dX9_addUnit_179 : decode cX9_addUnit 179 = .ok (.invokevirtual 127, 3) := by decide +kernel
theorem dX9_addUnit_182 : decode cX9_addUnit 182 = .ok (.aload_n 0, 1) := by decide +kernel
theorem dX9_addUnit_183 : decode cX9_addUnit 183 = .ok (.iload 4, 2) := by decide +kernel
theorem dX9_addUnit_185 : decode cX9_addUnit 185 = .ok (.iconst 5, 1) := by decide +kernel
theorem dX9_addUnit_186 : decode cX9_addUnit 186 = .ok (.iload_n 2, 1) := by decide +kernel
theorem dX9_addUnit_187 : decode cX9_addUnit 187 = .ok (.bipush 8, 2) := by decide +kernel
theorem dX9_addUnit_189 : decode cX9_addUnit 189 = .ok (.invokestatic 64, 3) := by decide +kernel
theorem dX9_addUnit_192 : decode cX9_addUnit 192 = .ok (.invokevirtual 127, 3) := by decide +kernel
theorem dX9_addUnit_195 : decode cX9_addUnit 195 = .ok (.iload 4, 2) := by decide +kernel
theorem dX9_addUnit_197 : decode cX9_addUnit 197 = .ok (.ireturn, 1) := by decide +kernel
theorem dX9_unitCount_0 : decode cX9_unitCount 0 = .ok (.aload_n 0, 1) := by decide +kernel
theorem dX9_unitCount_1 : decode cX9_unitCount 1 = .ok (.iconst 0, 1) := by decide +kernel
theorem dX9_unitCount_2 : decode cX9_unitCount 2 = .ok (.putfield 57, 3) := by decide +kernel
theorem dX9_unitCount_5 : decode cX9_unitCount 5 = .ok (.aload_n 0, 1) := by decide +kernel
theorem dX9_unitCount_6 : decode cX9_unitCount 6 = .ok (.getfield 9, 3) := by decide +kernel
theorem dX9_unitCount_9 : decode cX9_unitCount 9 = .ok (.bipush 66, 2) := by decide +kernel
theorem dX9_unitCount_11 : decode cX9_unitCount 11 = .ok (.iaload, 1) := by decide +kernel
theorem dX9_unitCount_12 : decode cX9_unitCount 12 = .ok (.ireturn, 1) := by decide +kernel
theorem dX9_unit_0 : decode cX9_unit 0 = .ok (.aload_n 0, 1) := by decide +kernel
theorem dX9_unit_1 : decode cX9_unit 1 = .ok (.iconst 0, 1) := by decide +kernel
theorem dX9_unit_2 : decode cX9_unit 2 = .ok (.putfield 57, 3) := by decide +kernel
theorem dX9_unit_5 : decode cX9_unit 5 = .ok (.aload_n 0, 1) := by decide +kernel
theorem dX9_unit_6 : decode cX9_unit 6 = .ok (.iload_n 1, 1) := by decide +kernel
theorem dX9_unit_7 : decode cX9_unit 7 = .ok (.invokevirtual 131, 3) := by decide +kernel
theorem dX9_unit_10 : decode cX9_unit 10 = .ok (.ifCond .ne 9, 3) := by decide +kernel
theorem dX9_unit_13 : decode cX9_unit 13 = .ok (.aload_n 0, 1) := by decide +kernel
theorem dX9_unit_14 : decode cX9_unit 14 = .ok (.iconst 1, 1) := by decide +kernel
theorem dX9_unit_15 : decode cX9_unit 15 = .ok (.invokevirtual 78, 3) := by decide +kernel
theorem dX9_unit_18 : decode cX9_unit 18 = .ok (.ireturn, 1) := by decide +kernel
theorem dX9_unit_19 : decode cX9_unit 19 = .ok (.iload_n 2, 1) := by decide +kernel
theorem dX9_unit_20 : decode cX9_unit 20 = .ok (.iconst 0, 1) := by decide +kernel
theorem dX9_unit_21 : decode cX9_unit 21 = .ok (.bipush 11, 2) := by decide +kernel
theorem dX9_unit_23 : decode cX9_unit 23 = .ok (.invokestatic 67, 3) := by decide +kernel
theorem dX9_unit_26 : decode cX9_unit 26 = .ok (.ifCond .ne 9, 3) := by decide +kernel
theorem dX9_unit_29 : decode cX9_unit 29 = .ok (.aload_n 0, 1) := by decide +kernel
theorem dX9_unit_30 : decode cX9_unit 30 = .ok (.iconst 2, 1) := by decide +kernel
theorem dX9_unit_31 : decode cX9_unit 31 = .ok (.invokevirtual 78, 3) := by decide +kernel
theorem dX9_unit_34 : decode cX9_unit 34 = .ok (.ireturn, 1) := by decide +kernel
theorem dX9_unit_35 : decode cX9_unit 35 = .ok (.iload_n 2, 1) := by decide +kernel
theorem dX9_unit_36 : decode cX9_unit 36 = .ok (.bipush 6, 2) := by decide +kernel
theorem dX9_unit_38 : decode cX9_unit 38 = .ok (.if_icmp .ge 12, 3) := by decide +kernel
theorem dX9_unit_41 : decode cX9_unit 41 = .ok (.aload_n 0, 1) := by decide +kernel
theorem dX9_unit_42 : decode cX9_unit 42 = .ok (.iload_n 1, 1) := by decide +kernel
theorem dX9_unit_43 : decode cX9_unit 43 = .ok (.iload_n 2, 1) := by decide +kernel
theorem dX9_unit_44 : decode cX9_unit 44 = .ok (.invokevirtual 60, 3) := by decide +kernel
theorem dX9_unit_47 : decode cX9_unit 47 = .ok (.goto 44, 3) := by decide +kernel
theorem dX9_unit_50 : decode cX9_unit 50 = .ok (.iload_n 2, 1) := by decide +kernel
theorem dX9_unit_51 : decode cX9_unit 51 = .ok (.bipush 6, 2) := by decide +kernel
theorem dX9_unit_53 : decode cX9_unit 53 = .ok (.if_icmp .ne 30, 3) := by decide +kernel
theorem dX9_unit_56 : decode cX9_unit 56 = .ok (.aload_n 0, 1) := by decide +kernel
theorem dX9_unit_57 : decode cX9_unit 57 = .ok (.getfield 9, 3) := by decide +kernel
theorem dX9_unit_60 : decode cX9_unit 60 = .ok (.sipush 166, 3) := by decide +kernel
theorem dX9_unit_63 : decode cX9_unit 63 = .ok (.iaload, 1) := by decide +kernel
theorem dX9_unit_64 : decode cX9_unit 64 = .ok (.iload_n 1, 1) := by decide +kernel
theorem dX9_unit_65 : decode cX9_unit 65 = .ok (.if_icmp .ne 14, 3) := by decide +kernel
theorem dX9_unit_68 : decode cX9_unit 68 = .ok (.aload_n 0, 1) := by decide +kernel
theorem dX9_unit_69 : decode cX9_unit 69 = .ok (.getfield 9, 3) := by decide +kernel
theorem dX9_unit_72 : decode cX9_unit 72 = .ok (.sipush 167, 3) := by decide +kernel
theorem dX9_unit_75 : decode cX9_unit 75 = .ok (.iaload, 1) := by decide +kernel
theorem dX9_unit_76 : decode cX9_unit 76 = .ok (.goto 15, 3) := by decide +kernel
theorem dX9_unit_79 : decode cX9_unit 79 = .ok (.iconst 0, 1) := by decide +kernel
theorem dX9_unit_80 : decode cX9_unit 80 = .ok (.goto 11, 3) := by decide +kernel
theorem dX9_unit_83 : decode cX9_unit 83 = .ok (.aload_n 0, 1) := by decide +kernel
theorem dX9_unit_84 : decode cX9_unit 84 = .ok (.iload_n 1, 1) := by decide +kernel
theorem dX9_unit_85 : decode cX9_unit 85 = .ok (.iload_n 2, 1) := by decide +kernel
theorem dX9_unit_86 : decode cX9_unit 86 = .ok (.iconst 1, 1) := by decide +kernel
theorem dX9_unit_87 : decode cX9_unit 87 = .ok (.isub, 1) := by decide +kernel
theorem dX9_unit_88 : decode cX9_unit 88 = .ok (.invokevirtual 60, 3) := by decide +kernel
theorem dX9_unit_91 : decode cX9_unit 91 = .ok (.ireturn, 1) := by decide +kernel
theorem dX9_living_0 : decode cX9_living 0 = .ok (.iconst 0, 1) := by decide +kernel
theorem dX9_living_1 : decode cX9_living 1 = .ok (.istore_n 2, 1) := by decide +kernel
theorem dX9_living_2 : decode cX9_living 2 = .ok (.iconst 0, 1) := by decide +kernel
theorem dX9_living_3 : decode cX9_living 3 = .ok (.istore_n 3, 1) := by decide +kernel
theorem dX9_living_4 : decode cX9_living 4 = .ok (.iload_n 3, 1) := by decide +kernel
theorem dX9_living_5 : decode cX9_living 5 = .ok (.aload_n 0, 1) := by decide +kernel
theorem dX9_living_6 : decode cX9_living 6 = .ok (.getfield 9, 3) := by decide +kernel
theorem dX9_living_9 : decode cX9_living 9 = .ok (.bipush 66, 2) := by decide +kernel
theorem dX9_living_11 : decode cX9_living 11 = .ok (.iaload, 1) := by decide +kernel
theorem dX9_living_12 : decode cX9_living 12 = .ok (.if_icmp .ge 35, 3) := by decide +kernel
theorem dX9_living_15 : decode cX9_living 15 = .ok (.iload_n 2, 1) := by decide +kernel
theorem dX9_living_16 : decode cX9_living 16 = .ok (.aload_n 0, 1) := by decide +kernel
theorem dX9_living_17 : decode cX9_living 17 = .ok (.iload_n 3, 1) := by decide +kernel
theorem dX9_living_18 : decode cX9_living 18 = .ok (.invokevirtual 117, 3) := by decide +kernel
theorem dX9_living_21 : decode cX9_living 21 = .ok (.ifCond .eq 17, 3) := by decide +kernel
theorem dX9_living_24 : decode cX9_living 24 = .ok (.aload_n 0, 1) := by decide +kernel
theorem dX9_living_25 : decode cX9_living 25 = .ok (.iload_n 3, 1) := by decide +kernel
theorem dX9_living_26 : decode cX9_living 26 = .ok (.iconst 0, 1) := by decide +kernel
theorem dX9_living_27 : decode cX9_living 27 = .ok (.invokevirtual 60, 3) := by decide +kernel
theorem dX9_living_30 : decode cX9_living 30 = .ok (.iload_n 1, 1) := by decide +kernel
theorem dX9_living_31 : decode cX9_living 31 = .ok (.if_icmp .ne 7, 3) := by decide +kernel
theorem dX9_living_34 : decode cX9_living 34 = .ok (.iconst 1, 1) := by decide +kernel
theorem dX9_living_35 : decode cX9_living 35 = .ok (.goto 4, 3) := by decide +kernel
theorem dX9_living_38 : decode cX9_living 38 = .ok (.iconst 0, 1) := by decide +kernel
theorem dX9_living_39 : decode cX9_living 39 = .ok (.iadd, 1) := by decide +kernel
theorem dX9_living_40 : decode cX9_living 40 = .ok (.istore_n 2, 1) := by decide +kernel
theorem dX9_living_41 : decode cX9_living 41 = .ok (.iinc 3 1, 3) := by decide +kernel
theorem dX9_living_44 : decode cX9_living 44 = .ok (.goto (-40), 3) := by decide +kernel
theorem dX9_living_47 : decode cX9_living 47 = .ok (.iload_n 2, 1) := by decide +kernel
theorem dX9_living_48 : decode cX9_living 48 = .ok (.ireturn, 1) := by decide +kernel
theorem dX9_conditions_0 : decode cX9_conditions 0 = .ok (.aload_n 0, 1) := by decide +kernel
theorem dX9_conditions_1 : decode cX9_conditions 1 = .ok (.invokevirtual 123, 3) := by decide +kernel
theorem dX9_conditions_4 : decode cX9_conditions 4 = .ok (.ifCond .ne 5, 3) := by decide +kernel
theorem dX9_conditions_7 : decode cX9_conditions 7 = .ok (.iconst 0, 1) := by decide +kernel
theorem dX9_conditions_8 : decode cX9_conditions 8 = .ok (.ireturn, 1) := by decide +kernel
theorem dX9_conditions_9 : decode cX9_conditions 9 = .ok (.aload_n 0, 1) := by decide +kernel
theorem dX9_conditions_10 : decode cX9_conditions 10 = .ok (.iconst 0, 1) := by decide +kernel
theorem dX9_conditions_11 : decode cX9_conditions 11 = .ok (.invokevirtual 134, 3) := by decide +kernel
theorem dX9_conditions_14 : decode cX9_conditions 14 = .ok (.istore_n 1, 1) := by decide +kernel
theorem dX9_conditions_15 : decode cX9_conditions 15 = .ok (.aload_n 0, 1) := by decide +kernel
theorem dX9_conditions_16 : decode cX9_conditions 16 = .ok (.iconst 1, 1) := by decide +kernel
theorem dX9_conditions_17 : decode cX9_conditions 17 = .ok (.invokevirtual 134, 3) := by decide +kernel
theorem dX9_conditions_20 : decode cX9_conditions 20 = .ok (.istore_n 2, 1) := by decide +kernel
theorem dX9_conditions_21 : decode cX9_conditions 21 = .ok (.iload_n 1, 1) := by decide +kernel
theorem dX9_conditions_22 : decode cX9_conditions 22 = .ok (.ifCond .le 11, 3) := by decide +kernel
theorem dX9_conditions_25 : decode cX9_conditions 25 = .ok (.iload_n 2, 1) := by decide +kernel
theorem dX9_conditions_26 : decode cX9_conditions 26 = .ok (.ifCond .le 7, 3) := by decide +kernel
theorem dX9_conditions_29 : decode cX9_conditions 29 = .ok (.iconst 1, 1) := by decide +kernel
theorem dX9_conditions_30 : decode cX9_conditions 30 = .ok (.goto 20, 3) := by decide +kernel
theorem dX9_conditions_33 : decode cX9_conditions 33 = .ok (.iload_n 1, 1) := by decide +kernel
theorem dX9_conditions_34 : decode cX9_conditions 34 = .ok (.ifCond .le 7, 3) := by decide +kernel
theorem dX9_conditions_37 : decode cX9_conditions 37 = .ok (.iconst 2, 1) := by decide +kernel
theorem dX9_conditions_38 : decode cX9_conditions 38 = .ok (.goto 12, 3) := by decide +kernel
theorem dX9_conditions_41 : decode cX9_conditions 41 = .ok (.iload_n 2, 1) := by decide +kernel
theorem dX9_conditions_42 : decode cX9_conditions 42 = .ok (.ifCond .le 7, 3) := by decide +kernel
theorem dX9_conditions_45 : decode cX9_conditions 45 = .ok (.iconst 3, 1) := by decide +kernel
theorem dX9_conditions_46 : decode cX9_conditions 46 = .ok (.goto 4, 3) := by decide +kernel
theorem dX9_conditions_49 : decode cX9_conditions 49 = .ok (.iconst 4, 1) := by decide +kernel
theorem dX9_conditions_50 : decode cX9_conditions 50 = .ok (.ireturn, 1) := by decide +kernel
theorem dX9_condition_0 : decode cX9_condition 0 = .ok (.aload_n 0, 1) := by decide +kernel
theorem dX9_condition_1 : decode cX9_condition 1 = .ok (.iconst 0, 1) := by decide +kernel
theorem dX9_condition_2 : decode cX9_condition 2 = .ok (.putfield 57, 3) := by decide +kernel
theorem dX9_condition_5 : decode cX9_condition 5 = .ok (.aload_n 0, 1) := by decide +kernel
theorem dX9_condition_6 : decode cX9_condition 6 = .ok (.invokevirtual 137, 3) := by decide +kernel
theorem dX9_condition_9 : decode cX9_condition 9 = .ok (.ireturn, 1) := by decide +kernel
theorem dX9_round_0 : decode cX9_round 0 = .ok (.aload_n 0, 1) := by decide +kernel
theorem dX9_round_1 : decode cX9_round 1 = .ok (.iconst 0, 1) := by decide +kernel
theorem dX9_round_2 : decode cX9_round 2 = .ok (.putfield 57, 3) := by decide +kernel
theorem dX9_round_5 : decode cX9_round 5 = .ok (.aload_n 0, 1) := by decide +kernel
theorem dX9_round_6 : decode cX9_round 6 = .ok (.getfield 9, 3) := by decide +kernel
theorem dX9_round_9 : decode cX9_round 9 = .ok (.sipush 156, 3) := by decide +kernel
theorem dX9_round_12 : decode cX9_round 12 = .ok (.iaload, 1) := by decide +kernel
theorem dX9_round_13 : decode cX9_round 13 = .ok (.ireturn, 1) := by decide +kernel
theorem dX9_current_0 : decode cX9_current 0 = .ok (.aload_n 0, 1) := by decide +kernel
theorem dX9_current_1 : decode cX9_current 1 = .ok (.aload_n 0, 1) := by decide +kernel
theorem dX9_current_2 : decode cX9_current 2 = .ok (.invokevirtual 137, 3) := by decide +kernel
theorem dX9_current_5 : decode cX9_current 5 = .ok (.iconst 1, 1) := by decide +kernel
theorem dX9_current_6 : decode cX9_current 6 = .ok (.if_icmp .ne 7, 3) := by decide +kernel
theorem dX9_current_9 : decode cX9_current 9 = .ok (.iconst 0, 1) := by decide +kernel
theorem dX9_current_10 : decode cX9_current 10 = .ok (.goto 4, 3) := by decide +kernel
theorem dX9_current_13 : decode cX9_current 13 = .ok (.iconst 1, 1) := by decide +kernel
theorem dX9_current_14 : decode cX9_current 14 = .ok (.putfield 57, 3) := by decide +kernel
theorem dX9_current_17 : decode cX9_current 17 = .ok (.aload_n 0, 1) := by decide +kernel
theorem dX9_current_18 : decode cX9_current 18 = .ok (.getfield 57, 3) := by decide +kernel
theorem dX9_current_21 : decode cX9_current 21 = .ok (.ifCond .ne 14, 3) := by decide +kernel
theorem dX9_current_24 : decode cX9_current 24 = .ok (.aload_n 0, 1) := by decide +kernel
theorem dX9_current_25 : decode cX9_current 25 = .ok (.getfield 9, 3) := by decide +kernel
theorem dX9_current_28 : decode cX9_current 28 = .ok (.sipush 166, 3) := by decide +kernel
theorem dX9_current_31 : decode cX9_current 31 = .ok (.iaload, 1) := by decide +kernel
theorem dX9_current_32 : decode cX9_current 32 = .ok (.goto 4, 3) := by decide +kernel
theorem dX9_current_35 : decode cX9_current 35 = .ok (.iconst 0, 1) := by decide +kernel
theorem dX9_current_36 : decode cX9_current 36 = .ok (.ireturn, 1) := by decide +kernel
theorem dX9_order_0 : decode cX9_order 0 = .ok (.aload_n 0, 1) := by decide +kernel
theorem dX9_order_1 : decode cX9_order 1 = .ok (.iload_n 1, 1) := by decide +kernel
theorem dX9_order_2 : decode cX9_order 2 = .ok (.iconst 0, 1) := by decide +kernel
theorem dX9_order_3 : decode cX9_order 3 = .ok (.aload_n 0, 1) := by decide +kernel
theorem dX9_order_4 : decode cX9_order 4 = .ok (.getfield 9, 3) := by decide +kernel
theorem dX9_order_7 : decode cX9_order 7 = .ok (.sipush 157, 3) := by decide +kernel
theorem dX9_order_10 : decode cX9_order 10 = .ok (.iaload, 1) := by decide +kernel
theorem dX9_order_11 : decode cX9_order 11 = .ok (.iconst 1, 1) := by decide +kernel
theorem dX9_order_12 : decode cX9_order 12 = .ok (.isub, 1) := by decide +kernel
theorem dX9_order_13 : decode cX9_order 13 = .ok (.invokestatic 67, 3) := by decide +kernel
theorem dX9_order_16 : decode cX9_order 16 = .ok (.ifCond .eq 7, 3) := by decide +kernel
theorem dX9_order_19 : decode cX9_order 19 = .ok (.iconst 0, 1) := by decide +kernel
theorem dX9_order_20 : decode cX9_order 20 = .ok (.goto 4, 3) := by decide +kernel
theorem dX9_order_23 : decode cX9_order 23 = .ok (.iconst 1, 1) := by decide +kernel
theorem dX9_order_24 : decode cX9_order 24 = .ok (.putfield 57, 3) := by decide +kernel
theorem dX9_order_27 : decode cX9_order 27 = .ok (.aload_n 0, 1) := by decide +kernel
theorem dX9_order_28 : decode cX9_order 28 = .ok (.getfield 57, 3) := by decide +kernel
theorem dX9_order_31 : decode cX9_order 31 = .ok (.ifCond .ne 16, 3) := by decide +kernel
theorem dX9_order_34 : decode cX9_order 34 = .ok (.aload_n 0, 1) := by decide +kernel
theorem dX9_order_35 : decode cX9_order 35 = .ok (.getfield 9, 3) := by decide +kernel
theorem dX9_order_38 : decode cX9_order 38 = .ok (.sipush 158, 3) := by decide +kernel
theorem dX9_order_41 : decode cX9_order 41 = .ok (.iload_n 1, 1) := by decide +kernel
theorem dX9_order_42 : decode cX9_order 42 = .ok (.iadd, 1) := by decide +kernel
theorem dX9_order_43 : decode cX9_order 43 = .ok (.iaload, 1) := by decide +kernel
theorem dX9_order_44 : decode cX9_order 44 = .ok (.goto 4, 3) := by decide +kernel
theorem dX9_order_47 : decode cX9_order 47 = .ok (.iconst 0, 1) := by decide +kernel
theorem dX9_order_48 : decode cX9_order 48 = .ok (.ireturn, 1) := by decide +kernel
theorem dX9_roll_0 : decode cX9_roll 0 = .ok (.aload_n 0, 1) := by decide +kernel
theorem dX9_roll_1 : decode cX9_roll 1 = .ok (.getfield 9, 3) := by decide +kernel
theorem dX9_roll_4 : decode cX9_roll 4 = .ok (.sipush 155, 3) := by decide +kernel
theorem dX9_roll_7 : decode cX9_roll 7 = .ok (.aload_n 0, 1) := by decide +kernel
theorem dX9_roll_8 : decode cX9_roll 8 = .ok (.getfield 9, 3) := by decide +kernel
theorem dX9_roll_11 : decode cX9_roll 11 = .ok (.sipush 155, 3) := by decide +kernel
theorem dX9_roll_14 : decode cX9_roll 14 = .ok (.iaload, 1) := by decide +kernel
theorem dX9_roll_15 : decode cX9_roll 15 = .ok (.ldc 140, 2) := by decide +kernel
theorem dX9_roll_17 : decode cX9_roll 17 = .ok (.imul, 1) := by decide +kernel
theorem dX9_roll_18 : decode cX9_roll 18 = .ok (.sipush 12345, 3) := by decide +kernel
theorem dX9_roll_21 : decode cX9_roll 21 = .ok (.iadd, 1) := by decide +kernel
theorem dX9_roll_22 : decode cX9_roll 22 = .ok (.iastore, 1) := by decide +kernel
theorem dX9_roll_23 : decode cX9_roll 23 = .ok (.aload_n 0, 1) := by decide +kernel
theorem dX9_roll_24 : decode cX9_roll 24 = .ok (.getfield 9, 3) := by decide +kernel
theorem dX9_roll_27 : decode cX9_roll 27 = .ok (.sipush 155, 3) := by decide +kernel
theorem dX9_roll_30 : decode cX9_roll 30 = .ok (.iaload, 1) := by decide +kernel
theorem dX9_roll_31 : decode cX9_roll 31 = .ok (.bipush 16, 2) := by decide +kernel
theorem dX9_roll_33 : decode cX9_roll 33 = .ok (.iushr, 1) := by decide +kernel
theorem dX9_roll_34 : decode cX9_roll 34 = .ok (.iload_n 1, 1) := by decide +kernel
theorem dX9_roll_35 : decode cX9_roll 35 = .ok (.irem, 1) := by decide +kernel
theorem dX9_roll_36 : decode cX9_roll 36 = .ok (.iconst 1, 1) := by decide +kernel
theorem dX9_roll_37 : decode cX9_roll 37 = .ok (.iadd, 1) := by decide +kernel
theorem dX9_roll_38 : decode cX9_roll 38 = .ok (.ireturn, 1) := by decide +kernel
theorem dX9_tells_0 : decode cX9_tells 0 = .ok (.aload_n 0, 1) := by decide +kernel
theorem dX9_tells_1 : decode cX9_tells 1 = .ok (.getfield 9, 3) := by decide +kernel
theorem dX9_tells_4 : decode cX9_tells 4 = .ok (.sipush 168, 3) := by decide +kernel
theorem dX9_tells_7 : decode cX9_tells 7 = .ok (.iaload, 1) := by decide +kernel
theorem dX9_tells_8 : decode cX9_tells 8 = .ok (.bipush 40, 2) := by decide +kernel
theorem dX9_tells_10 : decode cX9_tells 10 = .ok (.if_icmp .ne 55, 3) := by decide +kernel
theorem dX9_tells_13 : decode cX9_tells 13 = .ok (.iconst 0, 1) := by decide +kernel
theorem dX9_tells_14 : decode cX9_tells 14 = .ok (.istore 4, 2) := by decide +kernel
theorem dX9_tells_16 : decode cX9_tells 16 = .ok (.iload 4, 2) := by decide +kernel
theorem dX9_tells_18 : decode cX9_tells 18 = .ok (.bipush 117, 2) := by decide +kernel
theorem dX9_tells_20 : decode cX9_tells 20 = .ok (.if_icmp .ge 33, 3) := by decide +kernel
theorem dX9_tells_23 : decode cX9_tells 23 = .ok (.aload_n 0, 1) := by decide +kernel
theorem dX9_tells_24 : decode cX9_tells 24 = .ok (.getfield 9, 3) := by decide +kernel
theorem dX9_tells_27 : decode cX9_tells 27 = .ok (.sipush 169, 3) := by decide +kernel
theorem dX9_tells_30 : decode cX9_tells 30 = .ok (.iload 4, 2) := by decide +kernel
theorem dX9_tells_32 : decode cX9_tells 32 = .ok (.iadd, 1) := by decide +kernel
theorem dX9_tells_33 : decode cX9_tells 33 = .ok (.aload_n 0, 1) := by decide +kernel
theorem dX9_tells_34 : decode cX9_tells 34 = .ok (.getfield 9, 3) := by decide +kernel
theorem dX9_tells_37 : decode cX9_tells 37 = .ok (.sipush 169, 3) := by decide +kernel
theorem dX9_tells_40 : decode cX9_tells 40 = .ok (.iload 4, 2) := by decide +kernel
theorem dX9_tells_42 : decode cX9_tells 42 = .ok (.iadd, 1) := by decide +kernel
theorem dX9_tells_43 : decode cX9_tells 43 = .ok (.iconst 3, 1) := by decide +kernel
theorem dX9_tells_44 : decode cX9_tells 44 = .ok (.iadd, 1) := by decide +kernel
theorem dX9_tells_45 : decode cX9_tells 45 = .ok (.iaload, 1) := by decide +kernel
theorem dX9_tells_46 : decode cX9_tells 46 = .ok (.iastore, 1) := by decide +kernel
theorem dX9_tells_47 : decode cX9_tells 47 = .ok (.iinc 4 1, 3) := by decide +kernel
theorem dX9_tells_50 : decode cX9_tells 50 = .ok (.goto (-34), 3) := by decide +kernel
theorem dX9_tells_53 : decode cX9_tells 53 = .ok (.aload_n 0, 1) := by decide +kernel
theorem dX9_tells_54 : decode cX9_tells 54 = .ok (.getfield 9, 3) := by decide +kernel
theorem dX9_tells_57 : decode cX9_tells 57 = .ok (.sipush 168, 3) := by decide +kernel
theorem dX9_tells_60 : decode cX9_tells 60 = .ok (.dup2, 1) := by decide +kernel
theorem dX9_tells_61 : decode cX9_tells 61 = .ok (.iaload, 1) := by decide +kernel
theorem dX9_tells_62 : decode cX9_tells 62 = .ok (.iconst 1, 1) := by decide +kernel
theorem dX9_tells_63 : decode cX9_tells 63 = .ok (.isub, 1) := by decide +kernel
theorem dX9_tells_64 : decode cX9_tells 64 = .ok (.iastore, 1) := by decide +kernel
theorem dX9_tells_65 : decode cX9_tells 65 = .ok (.sipush 169, 3) := by decide +kernel
theorem dX9_tells_68 : decode cX9_tells 68 = .ok (.iconst 3, 1) := by decide +kernel
theorem dX9_tells_69 : decode cX9_tells 69 = .ok (.aload_n 0, 1) := by decide +kernel
theorem dX9_tells_70 : decode cX9_tells 70 = .ok (.getfield 9, 3) := by decide +kernel
theorem dX9_tells_73 : decode cX9_tells 73 = .ok (.sipush 168, 3) := by decide +kernel
theorem dX9_tells_76 : decode cX9_tells 76 = .ok (.iaload, 1) := by decide +kernel
theorem dX9_tells_77 : decode cX9_tells 77 = .ok (.imul, 1) := by decide +kernel
theorem dX9_tells_78 : decode cX9_tells 78 = .ok (.iadd, 1) := by decide +kernel
theorem dX9_tells_79 : decode cX9_tells 79 = .ok (.istore 4, 2) := by decide +kernel
theorem dX9_tells_81 : decode cX9_tells 81 = .ok (.aload_n 0, 1) := by decide +kernel
theorem dX9_tells_82 : decode cX9_tells 82 = .ok (.getfield 9, 3) := by decide +kernel
theorem dX9_tells_85 : decode cX9_tells 85 = .ok (.iload 4, 2) := by decide +kernel
theorem dX9_tells_87 : decode cX9_tells 87 = .ok (.iload_n 1, 1) := by decide +kernel
theorem dX9_tells_88 : decode cX9_tells 88 = .ok (.iastore, 1) := by decide +kernel
theorem dX9_tells_89 : decode cX9_tells 89 = .ok (.aload_n 0, 1) := by decide +kernel
theorem dX9_tells_90 : decode cX9_tells 90 = .ok (.getfield 9, 3) := by decide +kernel
theorem dX9_tells_93 : decode cX9_tells 93 = .ok (.iload 4, 2) := by decide +kernel
theorem dX9_tells_95 : decode cX9_tells 95 = .ok (.iconst 1, 1) := by decide +kernel
theorem dX9_tells_96 : decode cX9_tells 96 = .ok (.iadd, 1) := by decide +kernel
theorem dX9_tells_97 : decode cX9_tells 97 = .ok (.iload_n 2, 1) := by decide +kernel
theorem dX9_tells_98 : decode cX9_tells 98 = .ok (.iastore, 1) := by decide +kernel
theorem dX9_tells_99 : decode cX9_tells 99 = .ok (.aload_n 0, 1) := by decide +kernel
theorem dX9_tells_100 : decode cX9_tells 100 = .ok (.getfield 9, 3) := by decide +kernel
theorem dX9_tells_103 : decode cX9_tells 103 = .ok (.iload 4, 2) := by decide +kernel
theorem dX9_tells_105 : decode cX9_tells 105 = .ok (.iconst 2, 1) := by decide +kernel
theorem dX9_tells_106 : decode cX9_tells 106 = .ok (.iadd, 1) := by decide +kernel
theorem dX9_tells_107 : decode cX9_tells 107 = .ok (.iload_n 3, 1) := by decide +kernel
theorem dX9_tells_108 : decode cX9_tells 108 = .ok (.iastore, 1) := by decide +kernel
theorem dX9_tells_109 : decode cX9_tells 109 = .ok (.aload_n 0, 1) := by decide +kernel
theorem dX9_tells_110 : decode cX9_tells 110 = .ok (.getfield 9, 3) := by decide +kernel
theorem dX9_tells_113 : decode cX9_tells 113 = .ok (.sipush 168, 3) := by decide +kernel
theorem dX9_tells_116 : decode cX9_tells 116 = .ok (.dup2, 1) := by decide +kernel
theorem dX9_tells_117 : decode cX9_tells 117 = .ok (.iaload, 1) := by decide +kernel
theorem dX9_tells_118 : decode cX9_tells 118 = .ok (.iconst 1, 1) := by decide +kernel
theorem dX9_tells_119 : decode cX9_tells 119 = .ok (.iadd, 1) := by decide +kernel
theorem dX9_tells_120 : decode cX9_tells 120 = .ok (.iastore, 1) := by decide +kernel
theorem dX9_tells_121 : decode cX9_tells 121 = .ok (.return_, 1) := by decide +kernel
theorem dX9_loses_0 : decode cX9_loses 0 = .ok (.aload_n 0, 1) := by decide +kernel
theorem dX9_loses_1 : decode cX9_loses 1 = .ok (.iload_n 1, 1) := by decide +kernel
theorem dX9_loses_2 : decode cX9_loses 2 = .ok (.iconst 3, 1) := by decide +kernel
theorem dX9_loses_3 : decode cX9_loses 3 = .ok (.invokevirtual 60, 3) := by decide +kernel
theorem dX9_loses_6 : decode cX9_loses 6 = .ok (.iload_n 2, 1) := by decide +kernel
theorem dX9_loses_7 : decode cX9_loses 7 = .ok (.isub, 1) := by decide +kernel
theorem dX9_loses_8 : decode cX9_loses 8 = .ok (.istore_n 3, 1) := by decide +kernel
theorem dX9_loses_9 : decode cX9_loses 9 = .ok (.aload_n 0, 1) := by decide +kernel
theorem dX9_loses_10 : decode cX9_loses 10 = .ok (.iload_n 1, 1) := by decide +kernel
theorem dX9_loses_11 : decode cX9_loses 11 = .ok (.iconst 3, 1) := by decide +kernel
theorem dX9_loses_12 : decode cX9_loses 12 = .ok (.iload_n 3, 1) := by decide +kernel
theorem dX9_loses_13 : decode cX9_loses 13 = .ok (.ifCond .ge 7, 3) := by decide +kernel
theorem dX9_loses_16 : decode cX9_loses 16 = .ok (.iconst 0, 1) := by decide +kernel
theorem dX9_loses_17 : decode cX9_loses 17 = .ok (.goto 4, 3) := by decide +kernel
theorem dX9_loses_20 : decode cX9_loses 20 = .ok (.iload_n 3, 1) := by decide +kernel
theorem dX9_loses_21 : decode cX9_loses 21 = .ok (.invokevirtual 127, 3) := by decide +kernel
theorem dX9_loses_24 : decode cX9_loses 24 = .ok (.return_, 1) := by decide +kernel
theorem dX9_dies_0 : decode cX9_dies 0 = .ok (.aload_n 0, 1) := by decide +kernel
theorem dX9_dies_1 : decode cX9_dies 1 = .ok (.iload_n 1, 1) := by decide +kernel
theorem dX9_dies_2 : decode cX9_dies 2 = .ok (.invokevirtual 117, 3) := by decide +kernel
theorem dX9_dies_5 : decode cX9_dies 5 = .ok (.ifCond .ne 10, 3) := by decide +kernel
theorem dX9_dies_8 : decode cX9_dies 8 = .ok (.aload_n 0, 1) := by decide +kernel
theorem dX9_dies_9 : decode cX9_dies 9 = .ok (.iconst 4, 1) := by decide +kernel
theorem dX9_dies_10 : decode cX9_dies 10 = .ok (.iload_n 1, 1) := by decide +kernel
theorem dX9_dies_11 : decode cX9_dies 11 = .ok (.iconst 0, 1) := by decide +kernel
theorem dX9_dies_12 : decode cX9_dies 12 = .ok (.invokevirtual 141, 3) := by decide +kernel
theorem dX9_dies_15 : decode cX9_dies 15 = .ok (.return_, 1) := by decide +kernel
theorem dX9_begins_0 : decode cX9_begins 0 = .ok (.aload_n 0, 1) := by decide +kernel
theorem dX9_begins_1 : decode cX9_begins 1 = .ok (.getfield 9, 3) := by decide +kernel
theorem dX9_begins_4 : decode cX9_begins 4 = .ok (.sipush 156, 3) := by decide +kernel
theorem dX9_begins_7 : decode cX9_begins 7 = .ok (.dup2, 1) := by decide +kernel
theorem dX9_begins_8 : decode cX9_begins 8 = .ok (.iaload, 1) := by decide +kernel
theorem dX9_begins_9 : decode cX9_begins 9 = .ok (.iconst 1, 1) := by decide +kernel
theorem dX9_begins_10 : decode cX9_begins 10 = .ok (.iadd, 1) := by decide +kernel
theorem dX9_begins_11 : decode cX9_begins 11 = .ok (.iastore, 1) := by decide +kernel
theorem dX9_begins_12 : decode cX9_begins 12 = .ok (.aload_n 0, 1) := by decide +kernel
theorem dX9_begins_13 : decode cX9_begins 13 = .ok (.bipush 9, 2) := by decide +kernel
theorem dX9_begins_15 : decode cX9_begins 15 = .ok (.iconst (-1), 1) := by decide +kernel
theorem dX9_begins_16 : decode cX9_begins 16 = .ok (.aload_n 0, 1) := by decide +kernel
theorem dX9_begins_17 : decode cX9_begins 17 = .ok (.getfield 9, 3) := by decide +kernel
theorem dX9_begins_20 : decode cX9_begins 20 = .ok (.sipush 156, 3) := by decide +kernel
theorem dX9_begins_23 : decode cX9_begins 23 = .ok (.iaload, 1) := by decide +kernel
theorem dX9_begins_24 : decode cX9_begins 24 = .ok (.invokevirtual 141, 3) := by decide +kernel
theorem dX9_begins_27 : decode cX9_begins 27 = .ok (.aload_n 0, 1) := by decide +kernel
theorem dX9_begins_28 : decode cX9_begins 28 = .ok (.getfield 9, 3) := by decide +kernel
theorem dX9_begins_31 : decode cX9_begins 31 = .ok (.sipush 157, 3) := by decide +kernel
theorem dX9_begins_34 : decode cX9_begins 34 = .ok (.iconst 0, 1) := by decide +kernel
theorem dX9_begins_35 : decode cX9_begins 35 = .ok (.iastore, 1) := by decide +kernel
theorem dX9_begins_36 : decode cX9_begins 36 = .ok (.iconst 0, 1) := by decide +kernel
theorem dX9_begins_37 : decode cX9_begins 37 = .ok (.istore_n 1, 1) := by decide +kernel
theorem dX9_begins_38 : decode cX9_begins 38 = .ok (.iload_n 1, 1) := by decide +kernel
theorem dX9_begins_39 : decode cX9_begins 39 = .ok (.aload_n 0, 1) := by decide +kernel
theorem dX9_begins_40 : decode cX9_begins 40 = .ok (.getfield 9, 3) := by decide +kernel
theorem dX9_begins_43 : decode cX9_begins 43 = .ok (.bipush 66, 2) := by decide +kernel
theorem dX9_begins_45 : decode cX9_begins 45 = .ok (.iaload, 1) := by decide +kernel
theorem dX9_begins_46 : decode cX9_begins 46 = .ok (.if_icmp .ge 140, 3) := by decide +kernel
theorem dX9_begins_49 : decode cX9_begins 49 = .ok (.aload_n 0, 1) := by decide +kernel
theorem dX9_begins_50 : decode cX9_begins 50 = .ok (.iload_n 1, 1) := by decide +kernel
theorem dX9_begins_51 : decode cX9_begins 51 = .ok (.bipush 6, 2) := by decide +kernel
theorem dX9_begins_53 : decode cX9_begins 53 = .ok (.iconst 0, 1) := by decide +kernel
theorem dX9_begins_54 : decode cX9_begins 54 = .ok (.invokevirtual 127, 3) := by decide +kernel
theorem dX9_begins_57 : decode cX9_begins 57 = .ok (.aload_n 0, 1) := by decide +kernel
theorem dX9_begins_58 : decode cX9_begins 58 = .ok (.iload_n 1, 1) := by decide +kernel
theorem dX9_begins_59 : decode cX9_begins 59 = .ok (.invokevirtual 117, 3) := by decide +kernel
theorem dX9_begins_62 : decode cX9_begins 62 = .ok (.ifCond .ne 6, 3) := by decide +kernel
theorem dX9_begins_65 : decode cX9_begins 65 = .ok (.goto 115, 3) := by decide +kernel
theorem dX9_begins_68 : decode cX9_begins 68 = .ok (.aload_n 0, 1) := by decide +kernel
theorem dX9_begins_69 : decode cX9_begins 69 = .ok (.iload_n 1, 1) := by decide +kernel
theorem dX9_begins_70 : decode cX9_begins 70 = .ok (.bipush 6, 2) := by decide +kernel
theorem dX9_begins_72 : decode cX9_begins 72 = .ok (.aload_n 0, 1) := by decide +kernel
theorem dX9_begins_73 : decode cX9_begins 73 = .ok (.bipush 6, 2) := by decide +kernel
theorem dX9_begins_75 : decode cX9_begins 75 = .ok (.invokevirtual 144, 3) := by decide +kernel
theorem dX9_begins_78 : decode cX9_begins 78 = .ok (.aload_n 0, 1) := by decide +kernel
theorem dX9_begins_79 : decode cX9_begins 79 = .ok (.iload_n 1, 1) := by decide +kernel
theorem dX9_begins_80 : decode cX9_begins 80 = .ok (.iconst 5, 1) := by decide +kernel
theorem dX9_begins_81 : decode cX9_begins 81 = .ok (.invokevirtual 147, 3) := by decide +kernel
theorem dX9_begins_84 : decode cX9_begins 84 = .ok (.iadd, 1) := by decide +kernel
theorem dX9_begins_85 : decode cX9_begins 85 = .ok (.invokevirtual 127, 3) := by decide +kernel
theorem dX9_begins_88 : decode cX9_begins 88 = .ok (.aload_n 0, 1) := by decide +kernel
theorem dX9_begins_89 : decode cX9_begins 89 = .ok (.getfield 9, 3) := by decide +kernel
theorem dX9_begins_92 : decode cX9_begins 92 = .ok (.sipush 157, 3) := by decide +kernel
theorem dX9_begins_95 : decode cX9_begins 95 = .ok (.iaload, 1) := by decide +kernel
theorem dX9_begins_96 : decode cX9_begins 96 = .ok (.istore_n 2, 1) := by decide +kernel
theorem dX9_begins_97 : decode cX9_begins 97 = .ok (.iload_n 2, 1) := by decide +kernel
theorem dX9_begins_98 : decode cX9_begins 98 = .ok (.ifCond .le 59, 3) := by decide +kernel
theorem dX9_begins_101 : decode cX9_begins 101 = .ok (.aload_n 0, 1) := by decide +kernel
theorem dX9_begins_102 : decode cX9_begins 102 = .ok (.aload_n 0, 1) := by decide +kernel
theorem dX9_begins_103 : decode cX9_begins 103 = .ok (.getfield 9, 3) := by decide +kernel
theorem dX9_begins_106 : decode cX9_begins 106 = .ok (.sipush 158, 3) := by decide +kernel
theorem dX9_begins_109 : decode cX9_begins 109 = .ok (.iload_n 2, 1) := by decide +kernel
theorem dX9_begins_110 : decode cX9_begins 110 = .ok (.iadd, 1) := by decide +kernel
theorem dX9_begins_111 : decode cX9_begins 111 = .ok (.iconst 1, 1) := by decide +kernel
theorem dX9_begins_112 : decode cX9_begins 112 = .ok (.isub, 1) := by decide +kernel
theorem dX9_begins_113 : decode cX9_begins 113 = .ok (.iaload, 1) := by decide +kernel
theorem dX9_begins_114 : decode cX9_begins 114 = .ok (.bipush 6, 2) := by decide +kernel
theorem dX9_begins_116 : decode cX9_begins 116 = .ok (.invokevirtual 60, 3) := by decide +kernel
theorem dX9_begins_119 : decode cX9_begins 119 = .ok (.aload_n 0, 1) := by decide +kernel
theorem dX9_begins_120 : decode cX9_begins 120 = .ok (.iload_n 1, 1) := by decide +kernel
theorem dX9_begins_121 : decode cX9_begins 121 = .ok (.bipush 6, 2) := by decide +kernel
theorem dX9_begins_123 : decode cX9_begins 123 = .ok (.invokevirtual 60, 3) := by decide +kernel
theorem dX9_begins_126 : decode cX9_begins 126 = .ok (.if_icmp .ge 31, 3) := by decide +kernel
theorem dX9_begins_129 : decode cX9_begins 129 = .ok (.aload_n 0, 1) := by decide +kernel
theorem dX9_begins_130 : decode cX9_begins 130 = .ok (.getfield 9, 3) := by decide +kernel
theorem dX9_begins_133 : decode cX9_begins 133 = .ok (.sipush 158, 3) := by decide +kernel
theorem dX9_begins_136 : decode cX9_begins 136 = .ok (.iload_n 2, 1) := by decide +kernel
theorem dX9_begins_137 : decode cX9_begins 137 = .ok (.iadd, 1) := by decide +kernel
theorem dX9_begins_138 : decode cX9_begins 138 = .ok (.aload_n 0, 1) := by decide +kernel
theorem dX9_begins_139 : decode cX9_begins 139 = .ok (.getfield 9, 3) := by decide +kernel
theorem dX9_begins_142 : decode cX9_begins 142 = .ok (.sipush 158, 3) := by decide +kernel
theorem dX9_begins_145 : decode cX9_begins 145 = .ok (.iload_n 2, 1) := by decide +kernel
theorem dX9_begins_146 : decode cX9_begins 146 = .ok (.iadd, 1) := by decide +kernel
theorem dX9_begins_147 : decode cX9_begins 147 = .ok (.iconst 1, 1) := by decide +kernel
theorem dX9_begins_148 : decode cX9_begins 148 = .ok (.isub, 1) := by decide +kernel
theorem dX9_begins_149 : decode cX9_begins 149 = .ok (.iaload, 1) := by decide +kernel
theorem dX9_begins_150 : decode cX9_begins 150 = .ok (.iastore, 1) := by decide +kernel
theorem dX9_begins_151 : decode cX9_begins 151 = .ok (.iinc 2 (-1), 3) := by decide +kernel
theorem dX9_begins_154 : decode cX9_begins 154 = .ok (.goto (-57), 3) := by decide +kernel
theorem dX9_begins_157 : decode cX9_begins 157 = .ok (.aload_n 0, 1) := by decide +kernel
theorem dX9_begins_158 : decode cX9_begins 158 = .ok (.getfield 9, 3) := by decide +kernel
theorem dX9_begins_161 : decode cX9_begins 161 = .ok (.sipush 158, 3) := by decide +kernel
theorem dX9_begins_164 : decode cX9_begins 164 = .ok (.iload_n 2, 1) := by decide +kernel
theorem dX9_begins_165 : decode cX9_begins 165 = .ok (.iadd, 1) := by decide +kernel
theorem dX9_begins_166 : decode cX9_begins 166 = .ok (.iload_n 1, 1) := by decide +kernel
theorem dX9_begins_167 : decode cX9_begins 167 = .ok (.iastore, 1) := by decide +kernel
theorem dX9_begins_168 : decode cX9_begins 168 = .ok (.aload_n 0, 1) := by decide +kernel
theorem dX9_begins_169 : decode cX9_begins 169 = .ok (.getfield 9, 3) := by decide +kernel
theorem dX9_begins_172 : decode cX9_begins 172 = .ok (.sipush 157, 3) := by decide +kernel
theorem dX9_begins_175 : decode cX9_begins 175 = .ok (.dup2, 1) := by decide +kernel
theorem dX9_begins_176 : decode cX9_begins 176 = .ok (.iaload, 1) := by decide +kernel
theorem dX9_begins_177 : decode cX9_begins 177 = .ok (.iconst 1, 1) := by decide +kernel
theorem dX9_begins_178 : decode cX9_begins 178 = .ok (.iadd, 1) := by decide +kernel
theorem dX9_begins_179 : decode cX9_begins 179 = .ok (.iastore, 1) := by decide +kernel
theorem dX9_begins_180 : decode cX9_begins 180 = .ok (.iinc 1 1, 3) := by decide +kernel
theorem dX9_begins_183 : decode cX9_begins 183 = .ok (.goto (-145), 3) := by decide +kernel
theorem dX9_begins_186 : decode cX9_begins 186 = .ok (.aload_n 0, 1) := by decide +kernel
theorem dX9_begins_187 : decode cX9_begins 187 = .ok (.iconst (-1), 1) := by decide +kernel
theorem dX9_begins_188 : decode cX9_begins 188 = .ok (.putfield 150, 3) := by decide +kernel
theorem dX9_begins_191 : decode cX9_begins 191 = .ok (.return_, 1) := by decide +kernel
theorem dX9_placeOfTurn_0 : decode cX9_placeOfTurn 0 = .ok (.iconst 0, 1) := by decide +kernel
theorem dX9_placeOfTurn_1 : decode cX9_placeOfTurn 1 = .ok (.istore_n 1, 1) := by decide +kernel
theorem dX9_placeOfTurn_2 : decode cX9_placeOfTurn 2 = .ok (.iload_n 1, 1) := by decide +kernel
theorem dX9_placeOfTurn_3 : decode cX9_placeOfTurn 3 = .ok (.aload_n 0, 1) := by decide +kernel
theorem dX9_placeOfTurn_4 : decode cX9_placeOfTurn 4 = .ok (.getfield 9, 3) := by decide +kernel
theorem dX9_placeOfTurn_7 : decode cX9_placeOfTurn 7 = .ok (.sipush 157, 3) := by decide +kernel
theorem dX9_placeOfTurn_10 : decode cX9_placeOfTurn 10 = .ok (.iaload, 1) := by decide +kernel
theorem dX9_placeOfTurn_11 : decode cX9_placeOfTurn 11 = .ok (.if_icmp .ge 32, 3) := by decide +kernel
theorem dX9_placeOfTurn_14 : decode cX9_placeOfTurn 14 = .ok (.aload_n 0, 1) := by decide +kernel
theorem dX9_placeOfTurn_15 : decode cX9_placeOfTurn 15 = .ok (.getfield 9, 3) := by decide +kernel
theorem dX9_placeOfTurn_18 : decode cX9_placeOfTurn 18 = .ok (.sipush 158, 3) := by decide +kernel
theorem dX9_placeOfTurn_21 : decode cX9_placeOfTurn 21 = .ok (.iload_n 1, 1) := by decide +kernel
theorem dX9_placeOfTurn_22 : decode cX9_placeOfTurn 22 = .ok (.iadd, 1) := by decide +kernel
theorem dX9_placeOfTurn_23 : decode cX9_placeOfTurn 23 = .ok (.iaload, 1) := by decide +kernel
theorem dX9_placeOfTurn_24 : decode cX9_placeOfTurn 24 = .ok (.aload_n 0, 1) := by decide +kernel
theorem dX9_placeOfTurn_25 : decode cX9_placeOfTurn 25 = .ok (.getfield 9, 3) := by decide +kernel
theorem dX9_placeOfTurn_28 : decode cX9_placeOfTurn 28 = .ok (.sipush 166, 3) := by decide +kernel
theorem dX9_placeOfTurn_31 : decode cX9_placeOfTurn 31 = .ok (.iaload, 1) := by decide +kernel
theorem dX9_placeOfTurn_32 : decode cX9_placeOfTurn 32 = .ok (.if_icmp .ne 5, 3) := by decide +kernel
theorem dX9_placeOfTurn_35 : decode cX9_placeOfTurn 35 = .ok (.iload_n 1, 1) := by decide +kernel
theorem dX9_placeOfTurn_36 : decode cX9_placeOfTurn 36 = .ok (.ireturn, 1) := by decide +kernel
theorem dX9_placeOfTurn_37 : decode cX9_placeOfTurn 37 = .ok (.iinc 1 1, 3) := by decide +kernel
theorem dX9_placeOfTurn_40 : decode cX9_placeOfTurn 40 = .ok (.goto (-38), 3) := by decide +kernel
theorem dX9_placeOfTurn_43 : decode cX9_placeOfTurn 43 = .ok (.iconst (-1), 1) := by decide +kernel
theorem dX9_placeOfTurn_44 : decode cX9_placeOfTurn 44 = .ok (.ireturn, 1) := by decide +kernel
abbrev rmX9_sees : Room := { frames := 2, cells := 0, slots := 0, locals := 54 }
def wX9_sees_17 (Q : Int32 → MS → Prop) (QX : String → MS → Prop) (k17 : MS → Nat → Int32 → Int32 → Int32 → Int32 → Prop) (S : MS) (a0 : Nat) (y1 : Int32) (y2 : Int32) (y3 : Int32) (y4 : Int32) : Prop := ((y3 ≤ y4 → Q 1 S) ∧ (¬ y3 ≤ y4 → (∃ a1, mR S a0 1 = some a1 ∧ (vp_in (2 + y4) (mN S a1) ∧ ((¬ (mI S a1 ((2 + y4) : Int32).toNatClampNeg) = 1 → k17 S a0 y1 y2 y3 (y4 + 1)) ∧ ((mI S a1 ((2 + y4) : Int32).toNatClampNeg) = 1 → ((y4 = y1 → k17 S a0 y1 y2 y3 (y4 + 1)) ∧ (¬ y4 = y1 → ((y4 = y2 → k17 S a0 y1 y2 y3 (y4 + 1)) ∧ (¬ y4 = y2 → wp_X9_isMet (fun r3 S2 => ((r3 = 0 → k17 S2 a0 y1 y2 y3 (y4 + 1)) ∧ (¬ r3 = 0 → Q 0 S2))) QX S a0 y4 y1 y2))))))))))
set_option maxHeartbeats 4000000 in
set_option maxRecDepth 100000 in
theorem tX9_sees_17 {p : Program} {l : Launch} {e : Env} {s : State} {m : MethodId} {args : Array Value} {below : List Frame} {meth : Method} {c : Code} {H : Heap} {locs : List Loc} {cells slots : Nat} {G : GP} {A : Nat → Prop} {S0 : MS} {ls : Array Slot} (C : CF p l s m args meth c "SkirmishGridModel" cX9_sees 5 G A) (hr : meth.sig.returnType = (some .boolean)) (hex : ∀ x ∈ c.exceptionTable.toList, False) (Q : Int32 → MS → Prop) (QX : String → MS → Prop) (k17 : MS → Nat → Int32 → Int32 → Int32 → Int32 → Prop) (kh17 : ∀ (S : MS) (a0 : Nat) (y1 : Int32) (y2 : Int32) (y3 : Int32) (y4 : Int32) (cells slots : Nat) (H : Heap) (locs : List Loc) (ls : Array Slot), pI S 9 a0 → PW G A s H locs S0 S → lv_has ls 5 [(0, .ref a0), (1, .int y1), (2, .int y2), (3, .int y3), (4, .int y4)] → cells + 0 ≤ 0 → slots + 0 ≤ 0 → k17 S a0 y1 y2 y3 y4 → W p l e rmX9_sees s m args below meth c H locs cells slots (vx_MQ below (QI G S0 A Q) (XX G S0 A QX) args s 0 0 A) (F0 m 17 ls [])) (S : MS) (a0 : Nat) (y1 : Int32) (y2 : Int32) (y3 : Int32) (y4 : Int32) (p_a0 : pI S 9 a0) (P : PW G A s H locs S0 S) (hl : lv_has ls 5 [(0, .ref a0), (1, .int y1), (2, .int y2), (3, .int y3), (4, .int y4)]) (hcc : cells + 0 ≤ 0) (hss : slots + 0 ≤ 0) (hw : wX9_sees_17 Q QX k17 S a0 y1 y2 y3 y4) : W p l e rmX9_sees s m args below meth c H locs cells slots (vx_MQ below (QI G S0 A Q) (XX G S0 A QX) args s 0 0 A) (F0 m 17 ls []) := by
  have hx := CF_x C
  have hb := CF_b C
  unfold wX9_sees_17 at hw
  refine lv_iload hx hb dX9_sees_17 (lv_at hl 4 rfl) ?_
  refine lv_iload_n hx hb dX9_sees_19 rfl (lv_at hl 3 rfl) ?_
  refine lv_icmp_ge (tgt := 67) hx hb dX9_sees_20 (by decide) (fun hc => ?_) (fun hc => ?_)
  · have hw := hw.1 hc
    refine lv_iconst (v := 1) hx hb dX9_sees_67 (by decide) ?_
    exact e_i C hr (by decide +kernel) P hw (by omega) (by omega) dX9_sees_68
  · have hw := hw.2 hc
    refine lv_aload_n hx hb dX9_sees_23 rfl (lv_at hl 0 rfl) ?_
    obtain ⟨a1, e1, hw⟩ := hw
    have p_a1 : pI S 12 a1 := wf_r P.2.2.2.1 p_a0 e1
    refine gf_9_1 C P p_a0 e1 q_1306 dX9_sees_24 ?_
    refine lv_iconst (v := 2) hx hb dX9_sees_27 (by decide) ?_
    refine lv_iload hx hb dX9_sees_28 (lv_at hl 4 rfl) ?_
    refine lv_iadd hx hb dX9_sees_30 ?_
    obtain ⟨h1, hw⟩ := hw
    refine ra_i C P p_a1 h1 dX9_sees_31 ?_
    refine lv_iconst (v := 1) hx hb dX9_sees_32 (by decide) ?_
    refine lv_icmp_ne (tgt := 61) hx hb dX9_sees_33 (by decide) (fun hc => ?_) (fun hc => ?_)
    · have hw := hw.1 hc
      refine lv_iinc (v := (y4 + 1)) (lv' := [(4, .int (y4 + 1)), (0, .ref a0), (1, .int y1), (2, .int y2), (3, .int y3)]) hx hb dX9_sees_61 hl (k := 4) rfl (by rfl) (by decide) rfl (fun ls hl => ?_)
      refine lv_goto (tgt := 17) hx hb dX9_sees_64 (by decide) ?_
      exact kh17 S a0 y1 y2 y3 (y4 + 1) _ _ _ _ _ p_a0 P (lv_sub hl [1, 2, 3, 4, 0] rfl) (by omega) (by omega) hw
    · have hw := hw.2 hc
      refine lv_iload hx hb dX9_sees_36 (lv_at hl 4 rfl) ?_
      refine lv_iload_n hx hb dX9_sees_38 rfl (lv_at hl 1 rfl) ?_
      refine lv_icmp_eq (tgt := 61) hx hb dX9_sees_39 (by decide) (fun hc => ?_) (fun hc => ?_)
      · have hw := hw.1 hc
        refine lv_iinc (v := (y4 + 1)) (lv' := [(4, .int (y4 + 1)), (0, .ref a0), (1, .int y1), (2, .int y2), (3, .int y3)]) hx hb dX9_sees_61 hl (k := 4) rfl (by rfl) (by decide) rfl (fun ls hl => ?_)
        refine lv_goto (tgt := 17) hx hb dX9_sees_64 (by decide) ?_
        exact kh17 S a0 y1 y2 y3 (y4 + 1) _ _ _ _ _ p_a0 P (lv_sub hl [1, 2, 3, 4, 0] rfl) (by omega) (by omega) hw
      · have hw := hw.2 hc
        refine lv_iload hx hb dX9_sees_42 (lv_at hl 4 rfl) ?_
        refine lv_iload_n hx hb dX9_sees_44 rfl (lv_at hl 2 rfl) ?_
        refine lv_icmp_eq (tgt := 61) hx hb dX9_sees_45 (by decide) (fun hc => ?_) (fun hc => ?_)
        · have hw := hw.1 hc
          refine lv_iinc (v := (y4 + 1)) (lv' := [(4, .int (y4 + 1)), (0, .ref a0), (1, .int y1), (2, .int y2), (3, .int y3)]) hx hb dX9_sees_61 hl (k := 4) rfl (by rfl) (by decide) rfl (fun ls hl => ?_)
          refine lv_goto (tgt := 17) hx hb dX9_sees_64 (by decide) ?_
          exact kh17 S a0 y1 y2 y3 (y4 + 1) _ _ _ _ _ p_a0 P (lv_sub hl [1, 2, 3, 4, 0] rfl) (by omega) (by omega) hw
        · have hw := hw.2 hc
          refine lv_aload_n hx hb dX9_sees_48 rfl (lv_at hl 0 rfl) ?_
          refine lv_iload hx hb dX9_sees_49 (lv_at hl 4 rfl) ?_
          refine lv_iload_n hx hb dX9_sees_51 rfl (lv_at hl 1 rfl) ?_
          refine lv_iload_n hx hb dX9_sees_52 rfl (lv_at hl 2 rfl) ?_
          refine cl_i C P (run_V C P hl.1 (kd := 9) (met_X9_isMet (CF_n C) G H.size _ _ S a0 y4 y1 y2 p_a0 hw) p_a0 (by decide) rfl q_1425 q_1427 q_p28 q_10 q_1428 cd_X9_isMet ⟨(Nat.le_of_ble_eq_true rfl), (Nat.le_of_ble_eq_true rfl)⟩ rfl rfl (As := [.int y4, .int y1, .int y2]) (rest := []) rfl rfl (Nat.le_of_ble_eq_true rfl) dX9_sees_53 ⟨by show cells + 0 ≤ 0; omega, by show slots + 0 ≤ 0; omega⟩) (kx_out C hex (fun _ _ _ h => h) (by omega) (by omega)) (fun r3 S2 H locs P hE hw => ?_)
          have p_a0 : pI S2 9 a0 := pI_x hE p_a0
          refine lv_if_eq (tgt := 61) hx hb dX9_sees_56 (by decide) (fun hc => ?_) (fun hc => ?_)
          · have hw := hw.1 hc
            refine lv_iinc (v := (y4 + 1)) (lv' := [(4, .int (y4 + 1)), (0, .ref a0), (1, .int y1), (2, .int y2), (3, .int y3)]) hx hb dX9_sees_61 hl (k := 4) rfl (by rfl) (by decide) rfl (fun ls hl => ?_)
            refine lv_goto (tgt := 17) hx hb dX9_sees_64 (by decide) ?_
            exact kh17 S2 a0 y1 y2 y3 (y4 + 1) _ _ _ _ _ p_a0 P (lv_sub hl [1, 2, 3, 4, 0] rfl) (by omega) (by omega) hw
          · have hw := hw.2 hc
            refine lv_iconst (v := 0) hx hb dX9_sees_59 (by decide) ?_
            exact e_i C hr (by decide +kernel) P hw (by omega) (by omega) dX9_sees_60
def lX9_sees_17 (Q : Int32 → MS → Prop) (QX : String → MS → Prop) : Nat → MS → Nat → Int32 → Int32 → Int32 → Int32 → Prop
  | 0 => fun _ _ _ _ _ _ => False
  | n + 1 => fun S a0 y1 y2 y3 y4 => wX9_sees_17 Q QX (lX9_sees_17 Q QX n) S a0 y1 y2 y3 y4
theorem tlX9_sees_17 {p : Program} {l : Launch} {e : Env} {s : State} {m : MethodId} {args : Array Value} {below : List Frame} {meth : Method} {c : Code} {G : GP} {A : Nat → Prop} {S0 : MS} (C : CF p l s m args meth c "SkirmishGridModel" cX9_sees 5 G A) (hr : meth.sig.returnType = (some .boolean)) (hex : ∀ x ∈ c.exceptionTable.toList, False) (Q : Int32 → MS → Prop) (QX : String → MS → Prop) : ∀ (n : Nat), ∀ (S : MS) (a0 : Nat) (y1 : Int32) (y2 : Int32) (y3 : Int32) (y4 : Int32) (cells slots : Nat) (H : Heap) (locs : List Loc) (ls : Array Slot), pI S 9 a0 → PW G A s H locs S0 S → lv_has ls 5 [(0, .ref a0), (1, .int y1), (2, .int y2), (3, .int y3), (4, .int y4)] → cells + 0 ≤ 0 → slots + 0 ≤ 0 → lX9_sees_17 Q QX n S a0 y1 y2 y3 y4 → W p l e rmX9_sees s m args below meth c H locs cells slots (vx_MQ below (QI G S0 A Q) (XX G S0 A QX) args s 0 0 A) (F0 m 17 ls []) := by
  intro n
  induction n with
  | zero => intro S a0 y1 y2 y3 y4 cells slots H locs ls p_a0 P hl hcc hss hw; exact hw.elim
  | succ n ih => intro S a0 y1 y2 y3 y4 cells slots H locs ls p_a0 P hl hcc hss hw; exact tX9_sees_17 C hr hex Q QX (lX9_sees_17 Q QX n) ih S a0 y1 y2 y3 y4 p_a0 P hl hcc hss hw
def wX9_sees_0 (Q : Int32 → MS → Prop) (QX : String → MS → Prop) (S : MS) (a0 : Nat) (x1 : Int32) (x2 : Int32) : Prop := (∃ a1, mR S a0 1 = some a1 ∧ (vp_in 0 (mN S a1) ∧ (∃ a2, mR S a0 1 = some a2 ∧ (vp_in 1 (mN S a2) ∧ (∃ n, lX9_sees_17 Q QX n S a0 x1 x2 ((mI S a1 (0 : Int32).toNatClampNeg) * (mI S a2 (1 : Int32).toNatClampNeg)) 0)))))
set_option maxHeartbeats 4000000 in
set_option maxRecDepth 100000 in
theorem tX9_sees_0 {p : Program} {l : Launch} {e : Env} {s : State} {m : MethodId} {args : Array Value} {below : List Frame} {meth : Method} {c : Code} {H : Heap} {locs : List Loc} {cells slots : Nat} {G : GP} {A : Nat → Prop} {S0 : MS} {ls : Array Slot} (C : CF p l s m args meth c "SkirmishGridModel" cX9_sees 5 G A) (hr : meth.sig.returnType = (some .boolean)) (hex : ∀ x ∈ c.exceptionTable.toList, False) (Q : Int32 → MS → Prop) (QX : String → MS → Prop) (S : MS) (a0 : Nat) (x1 : Int32) (x2 : Int32) (p_a0 : pI S 9 a0) (P : PW G A s H locs S0 S) (hl : lv_has ls 5 [(0, .ref a0), (1, .int x1), (2, .int x2)]) (hcc : cells + 0 ≤ 0) (hss : slots + 0 ≤ 0) (hw : wX9_sees_0 Q QX S a0 x1 x2) : W p l e rmX9_sees s m args below meth c H locs cells slots (vx_MQ below (QI G S0 A Q) (XX G S0 A QX) args s 0 0 A) (F0 m 0 ls []) := by
  have hx := CF_x C
  have hb := CF_b C
  unfold wX9_sees_0 at hw
  refine lv_aload_n hx hb dX9_sees_0 rfl (lv_at hl 0 rfl) ?_
  obtain ⟨a1, e1, hw⟩ := hw
  have p_a1 : pI S 12 a1 := wf_r P.2.2.2.1 p_a0 e1
  refine gf_9_1 C P p_a0 e1 q_1306 dX9_sees_1 ?_
  refine lv_iconst (v := 0) hx hb dX9_sees_4 (by decide) ?_
  obtain ⟨h1, hw⟩ := hw
  refine ra_i C P p_a1 h1 dX9_sees_5 ?_
  refine lv_aload_n hx hb dX9_sees_6 rfl (lv_at hl 0 rfl) ?_
  obtain ⟨a2, e1, hw⟩ := hw
  have p_a2 : pI S 12 a2 := wf_r P.2.2.2.1 p_a0 e1
  refine gf_9_1 C P p_a0 e1 q_1306 dX9_sees_7 ?_
  refine lv_iconst (v := 1) hx hb dX9_sees_10 (by decide) ?_
  obtain ⟨h1, hw⟩ := hw
  refine ra_i C P p_a2 h1 dX9_sees_11 ?_
  refine lv_imul hx hb dX9_sees_12 ?_
  refine lv_istore_n (lv' := [(3, .int ((mI S a1 (0 : Int32).toNatClampNeg) * (mI S a2 (1 : Int32).toNatClampNeg))), (0, .ref a0), (1, .int x1), (2, .int x2)]) hx hb dX9_sees_13 rfl hl (by decide) rfl (fun ls hl => ?_)
  refine lv_iconst (v := 0) hx hb dX9_sees_14 (by decide) ?_
  refine lv_istore (lv' := [(4, .int 0), (3, .int ((mI S a1 (0 : Int32).toNatClampNeg) * (mI S a2 (1 : Int32).toNatClampNeg))), (0, .ref a0), (1, .int x1), (2, .int x2)]) hx hb dX9_sees_15 hl (by decide) rfl (fun ls hl => ?_)
  obtain ⟨n, hw⟩ := hw
  exact tlX9_sees_17 C hr hex Q QX n S a0 x1 x2 ((mI S a1 (0 : Int32).toNatClampNeg) * (mI S a2 (1 : Int32).toNatClampNeg)) 0 _ _ _ _ _ p_a0 P (lv_sub hl [2, 3, 4, 1, 0] rfl) (by omega) (by omega) hw
def wp_X9_sees (Q : Int32 → MS → Prop) (QX : String → MS → Prop) (S : MS) (a0 : Nat) (x1 : Int32) (x2 : Int32) : Prop := wX9_sees_0 Q QX S a0 x1 x2
set_option maxHeartbeats 4000000 in
set_option maxRecDepth 100000 in
theorem met_X9_sees {l : Launch} (hst : l.stackTraces = false) (G : GP) (sz : Nat) (Q : Int32 → MS → Prop) (QX : String → MS → Prop) (S : MS) (a0 : Nat) (x1 : Int32) (x2 : Int32) (p_a0 : pI S 9 a0) (hw : wp_X9_sees Q QX S a0 x1 x2) : vx_Met l yX9_sees (.code yX9_sees cX9_sees 5 (some .boolean) :: GW) rmX9_sees (va_Pc [.ref a0, .int x1, .int x2] (PR G S sz)) (QI G S (FA G S sz) Q) (XX G S (FA G S sz) QX) 0 0 (FA G S sz) := by
  refine st_m (by decide +kernel) hst (fun p e s m below meth c C hr hnm hex P => ?_)
  refine en_m (Nat.le_of_ble_eq_true rfl) (lv := [(0, .ref a0), (1, .int x1), (2, .int x2)]) rfl (fun ls hl => ?_)
  have C : CF p l s m _ meth c "SkirmishGridModel" cX9_sees 5 G (FA G S sz) := C
  exact tX9_sees_0 C hr hex Q QX S a0 x1 x2 p_a0 P hl (by omega) (by omega) hw
theorem cd_X9_sees : yX9_sees.cls = RX9 ∧ yX9_sees.cls ≠ "java/lang/invoke/MethodHandle" ∧ yX9_sees.cls ≠ "java/lang/invoke/VarHandle" ∧ (parseMethodDescriptor yX9_sees.desc).map (fun d => d.parameters.length) = some 2 := by decide +kernel
abbrev rmX9_isPair : Room := { frames := 2, cells := 0, slots := 0, locals := 43 }
def wX9_isPair_22 (Q : Int32 → MS → Prop) (QX : String → MS → Prop) (S : MS) (a0 : Nat) (z0 : Int32) (w1 : Nat) : Prop := (∀ S1, S1 = (sI S w1 0 z0) → ((¬ (mI S1 a0 0) = 0 → Q 0 S1) ∧ ((mI S1 a0 0) = 0 → Q 1 S1)))
set_option maxHeartbeats 4000000 in
set_option maxRecDepth 100000 in
theorem tX9_isPair_22 {p : Program} {l : Launch} {e : Env} {s : State} {m : MethodId} {args : Array Value} {below : List Frame} {meth : Method} {c : Code} {H : Heap} {locs : List Loc} {cells slots : Nat} {G : GP} {A : Nat → Prop} {S0 : MS} {ls : Array Slot} (C : CF p l s m args meth c "SkirmishGridModel" cX9_isPair 3 G A) (hr : meth.sig.returnType = (some .boolean)) (hex : ∀ x ∈ c.exceptionTable.toList, False) (Q : Int32 → MS → Prop) (QX : String → MS → Prop) (S : MS) (a0 : Nat) (z0 : Int32) (w1 : Nat) (p_a0 : pI S 9 a0) (p_w1 : pI S 9 w1) (P : PW G A s H locs S0 S) (hl : lv_has ls 3 [(0, .ref a0)]) (hcc : cells + 0 ≤ 0) (hss : slots + 0 ≤ 0) (hw : wX9_isPair_22 Q QX S a0 z0 w1) : W p l e rmX9_isPair s m args below meth c H locs cells slots (vx_MQ below (QI G S0 A Q) (XX G S0 A QX) args s 0 0 A) (F0 m 22 ls [.int z0, .ref w1]) := by
  have hx := CF_x C
  have hb := CF_b C
  unfold wX9_isPair_22 at hw
  refine pf_9_0 C P p_w1 q_1305 dX9_isPair_22 (fun H locs P => ?_)
  obtain ⟨S1, hS⟩ : ∃ z, z = (sI S w1 0 z0) := ⟨_, rfl⟩
  have P : PW G A s H locs S0 S1 := by rw [hS]; exact P
  have p_a0 : pI S1 9 a0 := by rw [hS]; exact pI_x ext_sI p_a0
  have p_w1 : pI S1 9 w1 := by rw [hS]; exact pI_x ext_sI p_w1
  have hw := hw S1 hS
  refine lv_aload_n hx hb dX9_isPair_25 rfl (lv_at hl 0 rfl) ?_
  refine gf_9_0 C P p_a0 q_1305 dX9_isPair_26 ?_
  refine lv_if_ne (tgt := 36) hx hb dX9_isPair_29 (by decide) (fun hc => ?_) (fun hc => ?_)
  · have hw := hw.1 hc
    refine lv_iconst (v := 0) hx hb dX9_isPair_36 (by decide) ?_
    exact e_i C hr (by decide +kernel) P hw (by omega) (by omega) dX9_isPair_37
  · have hw := hw.2 hc
    refine lv_iconst (v := 1) hx hb dX9_isPair_32 (by decide) ?_
    refine lv_goto (tgt := 37) hx hb dX9_isPair_33 (by decide) ?_
    exact e_i C hr (by decide +kernel) P hw (by omega) (by omega) dX9_isPair_37
def wX9_isPair_21 (Q : Int32 → MS → Prop) (QX : String → MS → Prop) (S : MS) (a0 : Nat) (w0 : Nat) : Prop := wX9_isPair_22 Q QX S a0 1 w0
set_option maxHeartbeats 4000000 in
set_option maxRecDepth 100000 in
theorem tX9_isPair_21 {p : Program} {l : Launch} {e : Env} {s : State} {m : MethodId} {args : Array Value} {below : List Frame} {meth : Method} {c : Code} {H : Heap} {locs : List Loc} {cells slots : Nat} {G : GP} {A : Nat → Prop} {S0 : MS} {ls : Array Slot} (C : CF p l s m args meth c "SkirmishGridModel" cX9_isPair 3 G A) (hr : meth.sig.returnType = (some .boolean)) (hex : ∀ x ∈ c.exceptionTable.toList, False) (Q : Int32 → MS → Prop) (QX : String → MS → Prop) (S : MS) (a0 : Nat) (w0 : Nat) (p_a0 : pI S 9 a0) (p_w0 : pI S 9 w0) (P : PW G A s H locs S0 S) (hl : lv_has ls 3 [(0, .ref a0)]) (hcc : cells + 0 ≤ 0) (hss : slots + 0 ≤ 0) (hw : wX9_isPair_21 Q QX S a0 w0) : W p l e rmX9_isPair s m args below meth c H locs cells slots (vx_MQ below (QI G S0 A Q) (XX G S0 A QX) args s 0 0 A) (F0 m 21 ls [.ref w0]) := by
  have hx := CF_x C
  have hb := CF_b C
  unfold wX9_isPair_21 at hw
  refine lv_iconst (v := 1) hx hb dX9_isPair_21 (by decide) ?_
  exact tX9_isPair_22 C hr hex Q QX S a0 1 w0 p_a0 p_w0 P (lv_sub hl [0] rfl) (by omega) (by omega) hw
def wX9_isPair_0 (Q : Int32 → MS → Prop) (QX : String → MS → Prop) (S : MS) (a0 : Nat) (x1 : Int32) (x2 : Int32) : Prop := wp_X9_isCell (fun r2 S1 => ((r2 = 0 → wX9_isPair_21 Q QX S1 a0 a0) ∧ (¬ r2 = 0 → wp_X9_isCell (fun r4 S3 => ((r4 = 0 → wX9_isPair_21 Q QX S3 a0 a0) ∧ (¬ r4 = 0 → wX9_isPair_22 Q QX S3 a0 0 a0))) QX S1 a0 x2))) QX S a0 x1
set_option maxHeartbeats 4000000 in
set_option maxRecDepth 100000 in
theorem tX9_isPair_0 {p : Program} {l : Launch} {e : Env} {s : State} {m : MethodId} {args : Array Value} {below : List Frame} {meth : Method} {c : Code} {H : Heap} {locs : List Loc} {cells slots : Nat} {G : GP} {A : Nat → Prop} {S0 : MS} {ls : Array Slot} (C : CF p l s m args meth c "SkirmishGridModel" cX9_isPair 3 G A) (hr : meth.sig.returnType = (some .boolean)) (hex : ∀ x ∈ c.exceptionTable.toList, False) (Q : Int32 → MS → Prop) (QX : String → MS → Prop) (S : MS) (a0 : Nat) (x1 : Int32) (x2 : Int32) (p_a0 : pI S 9 a0) (P : PW G A s H locs S0 S) (hl : lv_has ls 3 [(0, .ref a0), (1, .int x1), (2, .int x2)]) (hcc : cells + 0 ≤ 0) (hss : slots + 0 ≤ 0) (hw : wX9_isPair_0 Q QX S a0 x1 x2) : W p l e rmX9_isPair s m args below meth c H locs cells slots (vx_MQ below (QI G S0 A Q) (XX G S0 A QX) args s 0 0 A) (F0 m 0 ls []) := by
  have hx := CF_x C
  have hb := CF_b C
  unfold wX9_isPair_0 at hw
  refine lv_aload_n hx hb dX9_isPair_0 rfl (lv_at hl 0 rfl) ?_
  refine lv_aload_n hx hb dX9_isPair_1 rfl (lv_at hl 0 rfl) ?_
  refine lv_iload_n hx hb dX9_isPair_2 rfl (lv_at hl 1 rfl) ?_
  refine cl_i C P (run_V C P hl.1 (kd := 9) (met_X9_isCell (CF_n C) G H.size _ _ S a0 x1 p_a0 hw) p_a0 (by decide) rfl q_1417 q_1419 q_p26 q_10 q_1420 cd_X9_isCell ⟨(Nat.le_of_ble_eq_true rfl), (Nat.le_of_ble_eq_true rfl)⟩ rfl rfl (As := [.int x1]) (rest := [.ref a0]) rfl rfl (Nat.le_of_ble_eq_true rfl) dX9_isPair_3 ⟨by show cells + 0 ≤ 0; omega, by show slots + 0 ≤ 0; omega⟩) (kx_out C hex (fun _ _ _ h => h) (by omega) (by omega)) (fun r2 S1 H locs P hE hw => ?_)
  have p_a0 : pI S1 9 a0 := pI_x hE p_a0
  refine lv_if_eq (tgt := 21) hx hb dX9_isPair_6 (by decide) (fun hc => ?_) (fun hc => ?_)
  · have hw := hw.1 hc
    exact tX9_isPair_21 C hr hex Q QX S1 a0 a0 p_a0 p_a0 P (lv_sub hl [0] rfl) (by omega) (by omega) hw
  · have hw := hw.2 hc
    refine lv_aload_n hx hb dX9_isPair_9 rfl (lv_at hl 0 rfl) ?_
    refine lv_iload_n hx hb dX9_isPair_10 rfl (lv_at hl 2 rfl) ?_
    refine cl_i C P (run_V C P hl.1 (kd := 9) (met_X9_isCell (CF_n C) G H.size _ _ S1 a0 x2 p_a0 hw) p_a0 (by decide) rfl q_1417 q_1419 q_p26 q_10 q_1420 cd_X9_isCell ⟨(Nat.le_of_ble_eq_true rfl), (Nat.le_of_ble_eq_true rfl)⟩ rfl rfl (As := [.int x2]) (rest := [.ref a0]) rfl rfl (Nat.le_of_ble_eq_true rfl) dX9_isPair_11 ⟨by show cells + 0 ≤ 0; omega, by show slots + 0 ≤ 0; omega⟩) (kx_out C hex (fun _ _ _ h => h) (by omega) (by omega)) (fun r4 S3 H locs P hE hw => ?_)
    have p_a0 : pI S3 9 a0 := pI_x hE p_a0
    refine lv_if_eq (tgt := 21) hx hb dX9_isPair_14 (by decide) (fun hc => ?_) (fun hc => ?_)
    · have hw := hw.1 hc
      exact tX9_isPair_21 C hr hex Q QX S3 a0 a0 p_a0 p_a0 P (lv_sub hl [0] rfl) (by omega) (by omega) hw
    · have hw := hw.2 hc
      refine lv_iconst (v := 0) hx hb dX9_isPair_17 (by decide) ?_
      refine lv_goto (tgt := 22) hx hb dX9_isPair_18 (by decide) ?_
      exact tX9_isPair_22 C hr hex Q QX S3 a0 0 a0 p_a0 p_a0 P (lv_sub hl [0] rfl) (by omega) (by omega) hw
def wp_X9_isPair (Q : Int32 → MS → Prop) (QX : String → MS → Prop) (S : MS) (a0 : Nat) (x1 : Int32) (x2 : Int32) : Prop := wX9_isPair_0 Q QX S a0 x1 x2
set_option maxHeartbeats 4000000 in
set_option maxRecDepth 100000 in
theorem met_X9_isPair {l : Launch} (hst : l.stackTraces = false) (G : GP) (sz : Nat) (Q : Int32 → MS → Prop) (QX : String → MS → Prop) (S : MS) (a0 : Nat) (x1 : Int32) (x2 : Int32) (p_a0 : pI S 9 a0) (hw : wp_X9_isPair Q QX S a0 x1 x2) : vx_Met l yX9_isPair (.code yX9_isPair cX9_isPair 3 (some .boolean) :: GW) rmX9_isPair (va_Pc [.ref a0, .int x1, .int x2] (PR G S sz)) (QI G S (FA G S sz) Q) (XX G S (FA G S sz) QX) 0 0 (FA G S sz) := by
  refine st_m (by decide +kernel) hst (fun p e s m below meth c C hr hnm hex P => ?_)
  refine en_m (Nat.le_of_ble_eq_true rfl) (lv := [(0, .ref a0), (1, .int x1), (2, .int x2)]) rfl (fun ls hl => ?_)
  have C : CF p l s m _ meth c "SkirmishGridModel" cX9_isPair 3 G (FA G S sz) := C
  exact tX9_isPair_0 C hr hex Q QX S a0 x1 x2 p_a0 P hl (by omega) (by omega) hw
theorem cd_X9_isPair : yX9_isPair.cls = RX9 ∧ yX9_isPair.cls ≠ "java/lang/invoke/MethodHandle" ∧ yX9_isPair.cls ≠ "java/lang/invoke/VarHandle" ∧ (parseMethodDescriptor yX9_isPair.desc).map (fun d => d.parameters.length) = some 2 := by decide +kernel
abbrev rmX9_isSeen : Room := { frames := 3, cells := 0, slots := 0, locals := 78 }
def wX9_isSeen_0 (Q : Int32 → MS → Prop) (QX : String → MS → Prop) (S : MS) (a0 : Nat) (x1 : Int32) (x2 : Int32) : Prop := wp_X9_isPair (fun r2 S1 => ((r2 = 0 → Q 0 S1) ∧ (¬ r2 = 0 → wp_X9_sees (fun r4 S3 => ((r4 = 0 → Q 0 S3) ∧ (¬ r4 = 0 → Q 1 S3))) QX S1 a0 x1 x2))) QX S a0 x1 x2
set_option maxHeartbeats 4000000 in
set_option maxRecDepth 100000 in
theorem tX9_isSeen_0 {p : Program} {l : Launch} {e : Env} {s : State} {m : MethodId} {args : Array Value} {below : List Frame} {meth : Method} {c : Code} {H : Heap} {locs : List Loc} {cells slots : Nat} {G : GP} {A : Nat → Prop} {S0 : MS} {ls : Array Slot} (C : CF p l s m args meth c "SkirmishGridModel" cX9_isSeen 3 G A) (hr : meth.sig.returnType = (some .boolean)) (hex : ∀ x ∈ c.exceptionTable.toList, False) (Q : Int32 → MS → Prop) (QX : String → MS → Prop) (S : MS) (a0 : Nat) (x1 : Int32) (x2 : Int32) (p_a0 : pI S 9 a0) (P : PW G A s H locs S0 S) (hl : lv_has ls 3 [(0, .ref a0), (1, .int x1), (2, .int x2)]) (hcc : cells + 0 ≤ 0) (hss : slots + 0 ≤ 0) (hw : wX9_isSeen_0 Q QX S a0 x1 x2) : W p l e rmX9_isSeen s m args below meth c H locs cells slots (vx_MQ below (QI G S0 A Q) (XX G S0 A QX) args s 0 0 A) (F0 m 0 ls []) := by
  have hx := CF_x C
  have hb := CF_b C
  unfold wX9_isSeen_0 at hw
  refine lv_aload_n hx hb dX9_isSeen_0 rfl (lv_at hl 0 rfl) ?_
  refine lv_iload_n hx hb dX9_isSeen_1 rfl (lv_at hl 1 rfl) ?_
  refine lv_iload_n hx hb dX9_isSeen_2 rfl (lv_at hl 2 rfl) ?_
  refine cl_i C P (run_V C P hl.1 (kd := 9) (met_X9_isPair (CF_n C) G H.size _ _ S a0 x1 x2 p_a0 hw) p_a0 (by decide) rfl q_1413 q_1415 q_p25 q_10 q_1416 cd_X9_isPair ⟨(Nat.le_of_ble_eq_true rfl), (Nat.le_of_ble_eq_true rfl)⟩ rfl rfl (As := [.int x1, .int x2]) (rest := []) rfl rfl (Nat.le_of_ble_eq_true rfl) dX9_isSeen_3 ⟨by show cells + 0 ≤ 0; omega, by show slots + 0 ≤ 0; omega⟩) (kx_out C hex (fun _ _ _ h => h) (by omega) (by omega)) (fun r2 S1 H locs P hE hw => ?_)
  have p_a0 : pI S1 9 a0 := pI_x hE p_a0
  refine lv_if_eq (tgt := 22) hx hb dX9_isSeen_6 (by decide) (fun hc => ?_) (fun hc => ?_)
  · have hw := hw.1 hc
    refine lv_iconst (v := 0) hx hb dX9_isSeen_22 (by decide) ?_
    exact e_i C hr (by decide +kernel) P hw (by omega) (by omega) dX9_isSeen_23
  · have hw := hw.2 hc
    refine lv_aload_n hx hb dX9_isSeen_9 rfl (lv_at hl 0 rfl) ?_
    refine lv_iload_n hx hb dX9_isSeen_10 rfl (lv_at hl 1 rfl) ?_
    refine lv_iload_n hx hb dX9_isSeen_11 rfl (lv_at hl 2 rfl) ?_
    refine cl_i C P (run_V C P hl.1 (kd := 9) (met_X9_sees (CF_n C) G H.size _ _ S1 a0 x1 x2 p_a0 hw) p_a0 (by decide) rfl q_1421 q_1423 q_p27 q_10 q_1424 cd_X9_sees ⟨(Nat.le_of_ble_eq_true rfl), (Nat.le_of_ble_eq_true rfl)⟩ rfl rfl (As := [.int x1, .int x2]) (rest := []) rfl rfl (Nat.le_of_ble_eq_true rfl) dX9_isSeen_12 ⟨by show cells + 0 ≤ 0; omega, by show slots + 0 ≤ 0; omega⟩) (kx_out C hex (fun _ _ _ h => h) (by omega) (by omega)) (fun r4 S3 H locs P hE hw => ?_)
    have p_a0 : pI S3 9 a0 := pI_x hE p_a0
    refine lv_if_eq (tgt := 22) hx hb dX9_isSeen_15 (by decide) (fun hc => ?_) (fun hc => ?_)
    · have hw := hw.1 hc
      refine lv_iconst (v := 0) hx hb dX9_isSeen_22 (by decide) ?_
      exact e_i C hr (by decide +kernel) P hw (by omega) (by omega) dX9_isSeen_23
    · have hw := hw.2 hc
      refine lv_iconst (v := 1) hx hb dX9_isSeen_18 (by decide) ?_
      refine lv_goto (tgt := 23) hx hb dX9_isSeen_19 (by decide) ?_
      exact e_i C hr (by decide +kernel) P hw (by omega) (by omega) dX9_isSeen_23
def wp_X9_isSeen (Q : Int32 → MS → Prop) (QX : String → MS → Prop) (S : MS) (a0 : Nat) (x1 : Int32) (x2 : Int32) : Prop := wX9_isSeen_0 Q QX S a0 x1 x2
set_option maxHeartbeats 4000000 in
set_option maxRecDepth 100000 in
theorem met_X9_isSeen {l : Launch} (hst : l.stackTraces = false) (G : GP) (sz : Nat) (Q : Int32 → MS → Prop) (QX : String → MS → Prop) (S : MS) (a0 : Nat) (x1 : Int32) (x2 : Int32) (p_a0 : pI S 9 a0) (hw : wp_X9_isSeen Q QX S a0 x1 x2) : vx_Met l yX9_isSeen (.code yX9_isSeen cX9_isSeen 3 (some .boolean) :: GW) rmX9_isSeen (va_Pc [.ref a0, .int x1, .int x2] (PR G S sz)) (QI G S (FA G S sz) Q) (XX G S (FA G S sz) QX) 0 0 (FA G S sz) := by
  refine st_m (by decide +kernel) hst (fun p e s m below meth c C hr hnm hex P => ?_)
  refine en_m (Nat.le_of_ble_eq_true rfl) (lv := [(0, .ref a0), (1, .int x1), (2, .int x2)]) rfl (fun ls hl => ?_)
  have C : CF p l s m _ meth c "SkirmishGridModel" cX9_isSeen 3 G (FA G S sz) := C
  exact tX9_isSeen_0 C hr hex Q QX S a0 x1 x2 p_a0 P hl (by omega) (by omega) hw
theorem cd_X9_isSeen : yX9_isSeen.cls = RX9 ∧ yX9_isSeen.cls ≠ "java/lang/invoke/MethodHandle" ∧ yX9_isSeen.cls ≠ "java/lang/invoke/VarHandle" ∧ (parseMethodDescriptor yX9_isSeen.desc).map (fun d => d.parameters.length) = some 2 := by decide +kernel
abbrev rmX9_covers : Room := { frames := 1, cells := 0, slots := 0, locals := 21 }
def wX9_covers_115 (Q : Int32 → MS → Prop) (QX : String → MS → Prop) (S : MS) (y4 : Int32) (z0 : Int32) : Prop := ((y4 = 1 → Q 2 S) ∧ (¬ y4 = 1 → ((¬ z0 = 1 → ((y4 = 2 → Q 1 S) ∧ (¬ y4 = 2 → ((¬ z0 = 2 → Q 0 S) ∧ (z0 = 2 → Q 1 S))))) ∧ (z0 = 1 → Q 2 S))))
set_option maxHeartbeats 4000000 in
set_option maxRecDepth 100000 in
theorem tX9_covers_115 {p : Program} {l : Launch} {e : Env} {s : State} {m : MethodId} {args : Array Value} {below : List Frame} {meth : Method} {c : Code} {H : Heap} {locs : List Loc} {cells slots : Nat} {G : GP} {A : Nat → Prop} {S0 : MS} {ls : Array Slot} (C : CF p l s m args meth c "SkirmishGridModel" cX9_covers 6 G A) (hr : meth.sig.returnType = (some .int)) (hex : ∀ x ∈ c.exceptionTable.toList, False) (Q : Int32 → MS → Prop) (QX : String → MS → Prop) (S : MS) (y4 : Int32) (z0 : Int32) (P : PW G A s H locs S0 S) (hl : lv_has ls 6 [(4, .int y4)]) (hcc : cells + 0 ≤ 0) (hss : slots + 0 ≤ 0) (hw : wX9_covers_115 Q QX S y4 z0) : W p l e rmX9_covers s m args below meth c H locs cells slots (vx_MQ below (QI G S0 A Q) (XX G S0 A QX) args s 0 0 A) (F0 m 115 ls [.int z0]) := by
  have hx := CF_x C
  have hb := CF_b C
  unfold wX9_covers_115 at hw
  refine lv_istore (lv' := [(5, .int z0), (4, .int y4)]) hx hb dX9_covers_115 hl (by decide) rfl (fun ls hl => ?_)
  refine lv_iload hx hb dX9_covers_117 (lv_at hl 1 rfl) ?_
  refine lv_iconst (v := 1) hx hb dX9_covers_119 (by decide) ?_
  refine lv_icmp_eq (tgt := 129) hx hb dX9_covers_120 (by decide) (fun hc => ?_) (fun hc => ?_)
  · have hw := hw.1 hc
    refine lv_iconst (v := 2) hx hb dX9_covers_129 (by decide) ?_
    refine lv_goto (tgt := 150) hx hb dX9_covers_130 (by decide) ?_
    exact e_i C hr rfl P hw (by omega) (by omega) dX9_covers_150
  · have hw := hw.2 hc
    refine lv_iload hx hb dX9_covers_123 (lv_at hl 0 rfl) ?_
    refine lv_iconst (v := 1) hx hb dX9_covers_125 (by decide) ?_
    refine lv_icmp_ne (tgt := 133) hx hb dX9_covers_126 (by decide) (fun hc => ?_) (fun hc => ?_)
    · have hw := hw.1 hc
      refine lv_iload hx hb dX9_covers_133 (lv_at hl 1 rfl) ?_
      refine lv_iconst (v := 2) hx hb dX9_covers_135 (by decide) ?_
      refine lv_icmp_eq (tgt := 145) hx hb dX9_covers_136 (by decide) (fun hc => ?_) (fun hc => ?_)
      · have hw := hw.1 hc
        refine lv_iconst (v := 1) hx hb dX9_covers_145 (by decide) ?_
        refine lv_goto (tgt := 150) hx hb dX9_covers_146 (by decide) ?_
        exact e_i C hr rfl P hw (by omega) (by omega) dX9_covers_150
      · have hw := hw.2 hc
        refine lv_iload hx hb dX9_covers_139 (lv_at hl 0 rfl) ?_
        refine lv_iconst (v := 2) hx hb dX9_covers_141 (by decide) ?_
        refine lv_icmp_ne (tgt := 149) hx hb dX9_covers_142 (by decide) (fun hc => ?_) (fun hc => ?_)
        · have hw := hw.1 hc
          refine lv_iconst (v := 0) hx hb dX9_covers_149 (by decide) ?_
          exact e_i C hr rfl P hw (by omega) (by omega) dX9_covers_150
        · have hw := hw.2 hc
          refine lv_iconst (v := 1) hx hb dX9_covers_145 (by decide) ?_
          refine lv_goto (tgt := 150) hx hb dX9_covers_146 (by decide) ?_
          exact e_i C hr rfl P hw (by omega) (by omega) dX9_covers_150
    · have hw := hw.2 hc
      refine lv_iconst (v := 2) hx hb dX9_covers_129 (by decide) ?_
      refine lv_goto (tgt := 150) hx hb dX9_covers_130 (by decide) ?_
      exact e_i C hr rfl P hw (by omega) (by omega) dX9_covers_150
def wX9_covers_60 (Q : Int32 → MS → Prop) (QX : String → MS → Prop) (S : MS) (a0 : Nat) (y1 : Int32) (y2 : Int32) (z0 : Int32) : Prop := wp_X9_column (fun r2 S1 => wp_X9_column (fun r4 S3 => ((r4 ≤ r2 → wp_X9_column (fun r6 S5 => wp_X9_column (fun r8 S7 => ((r6 ≤ r8 → wX9_covers_115 Q QX S7 z0 0) ∧ (¬ r6 ≤ r8 → (∃ a9, mR S7 a0 1 = some a9 ∧ (vp_in ((2 + y1) + 1) (mN S7 a9) ∧ wX9_covers_115 Q QX S7 z0 (mI S7 a9 (((2 + y1) + 1) : Int32).toNatClampNeg)))))) QX S5 a0 y1) QX S3 a0 y2) ∧ (¬ r4 ≤ r2 → (∃ a10, mR S3 a0 1 = some a10 ∧ (vp_in ((2 + y1) - 1) (mN S3 a10) ∧ wX9_covers_115 Q QX S3 z0 (mI S3 a10 (((2 + y1) - 1) : Int32).toNatClampNeg)))))) QX S1 a0 y1) QX S a0 y2
set_option maxHeartbeats 4000000 in
set_option maxRecDepth 100000 in
theorem tX9_covers_60 {p : Program} {l : Launch} {e : Env} {s : State} {m : MethodId} {args : Array Value} {below : List Frame} {meth : Method} {c : Code} {H : Heap} {locs : List Loc} {cells slots : Nat} {G : GP} {A : Nat → Prop} {S0 : MS} {ls : Array Slot} (C : CF p l s m args meth c "SkirmishGridModel" cX9_covers 6 G A) (hr : meth.sig.returnType = (some .int)) (hex : ∀ x ∈ c.exceptionTable.toList, False) (Q : Int32 → MS → Prop) (QX : String → MS → Prop) (S : MS) (a0 : Nat) (y1 : Int32) (y2 : Int32) (z0 : Int32) (p_a0 : pI S 9 a0) (P : PW G A s H locs S0 S) (hl : lv_has ls 6 [(0, .ref a0), (1, .int y1), (2, .int y2)]) (hcc : cells + 0 ≤ 0) (hss : slots + 0 ≤ 0) (hw : wX9_covers_60 Q QX S a0 y1 y2 z0) : W p l e rmX9_covers s m args below meth c H locs cells slots (vx_MQ below (QI G S0 A Q) (XX G S0 A QX) args s 0 0 A) (F0 m 60 ls [.int z0]) := by
  have hx := CF_x C
  have hb := CF_b C
  unfold wX9_covers_60 at hw
  refine lv_istore (lv' := [(4, .int z0), (0, .ref a0), (1, .int y1), (2, .int y2)]) hx hb dX9_covers_60 hl (by decide) rfl (fun ls hl => ?_)
  refine lv_aload_n hx hb dX9_covers_62 rfl (lv_at hl 1 rfl) ?_
  refine lv_iload_n hx hb dX9_covers_63 rfl (lv_at hl 3 rfl) ?_
  refine cl_i C P (run_V C P hl.1 (kd := 9) (met_X9_column (CF_n C) G H.size _ _ S a0 y2 p_a0 hw) p_a0 (by decide) rfl q_1429 q_1431 q_p29 q_10 q_1432 cd_X9_column ⟨(Nat.le_of_ble_eq_true rfl), (Nat.le_of_ble_eq_true rfl)⟩ rfl rfl (As := [.int y2]) (rest := []) rfl rfl (Nat.le_of_ble_eq_true rfl) dX9_covers_64 ⟨by show cells + 0 ≤ 0; omega, by show slots + 0 ≤ 0; omega⟩) (kx_out C hex (fun _ _ _ h => h) (by omega) (by omega)) (fun r2 S1 H locs P hE hw => ?_)
  have p_a0 : pI S1 9 a0 := pI_x hE p_a0
  refine lv_aload_n hx hb dX9_covers_67 rfl (lv_at hl 1 rfl) ?_
  refine lv_iload_n hx hb dX9_covers_68 rfl (lv_at hl 2 rfl) ?_
  refine cl_i C P (run_V C P hl.1 (kd := 9) (met_X9_column (CF_n C) G H.size _ _ S1 a0 y1 p_a0 hw) p_a0 (by decide) rfl q_1429 q_1431 q_p29 q_10 q_1432 cd_X9_column ⟨(Nat.le_of_ble_eq_true rfl), (Nat.le_of_ble_eq_true rfl)⟩ rfl rfl (As := [.int y1]) (rest := [.int r2]) rfl rfl (Nat.le_of_ble_eq_true rfl) dX9_covers_69 ⟨by show cells + 0 ≤ 0; omega, by show slots + 0 ≤ 0; omega⟩) (kx_out C hex (fun _ _ _ h => h) (by omega) (by omega)) (fun r4 S3 H locs P hE hw => ?_)
  have p_a0 : pI S3 9 a0 := pI_x hE p_a0
  refine lv_icmp_ge (tgt := 88) hx hb dX9_covers_72 (by decide) (fun hc => ?_) (fun hc => ?_)
  · have hw := hw.1 hc
    refine lv_aload_n hx hb dX9_covers_88 rfl (lv_at hl 1 rfl) ?_
    refine lv_iload_n hx hb dX9_covers_89 rfl (lv_at hl 3 rfl) ?_
    refine cl_i C P (run_V C P hl.1 (kd := 9) (met_X9_column (CF_n C) G H.size _ _ S3 a0 y2 p_a0 hw) p_a0 (by decide) rfl q_1429 q_1431 q_p29 q_10 q_1432 cd_X9_column ⟨(Nat.le_of_ble_eq_true rfl), (Nat.le_of_ble_eq_true rfl)⟩ rfl rfl (As := [.int y2]) (rest := []) rfl rfl (Nat.le_of_ble_eq_true rfl) dX9_covers_90 ⟨by show cells + 0 ≤ 0; omega, by show slots + 0 ≤ 0; omega⟩) (kx_out C hex (fun _ _ _ h => h) (by omega) (by omega)) (fun r6 S5 H locs P hE hw => ?_)
    have p_a0 : pI S5 9 a0 := pI_x hE p_a0
    refine lv_aload_n hx hb dX9_covers_93 rfl (lv_at hl 1 rfl) ?_
    refine lv_iload_n hx hb dX9_covers_94 rfl (lv_at hl 2 rfl) ?_
    refine cl_i C P (run_V C P hl.1 (kd := 9) (met_X9_column (CF_n C) G H.size _ _ S5 a0 y1 p_a0 hw) p_a0 (by decide) rfl q_1429 q_1431 q_p29 q_10 q_1432 cd_X9_column ⟨(Nat.le_of_ble_eq_true rfl), (Nat.le_of_ble_eq_true rfl)⟩ rfl rfl (As := [.int y1]) (rest := [.int r6]) rfl rfl (Nat.le_of_ble_eq_true rfl) dX9_covers_95 ⟨by show cells + 0 ≤ 0; omega, by show slots + 0 ≤ 0; omega⟩) (kx_out C hex (fun _ _ _ h => h) (by omega) (by omega)) (fun r8 S7 H locs P hE hw => ?_)
    have p_a0 : pI S7 9 a0 := pI_x hE p_a0
    refine lv_icmp_le (tgt := 114) hx hb dX9_covers_98 (by decide) (fun hc => ?_) (fun hc => ?_)
    · have hw := hw.1 hc
      refine lv_iconst (v := 0) hx hb dX9_covers_114 (by decide) ?_
      exact tX9_covers_115 C hr hex Q QX S7 z0 0 P (lv_sub hl [0] rfl) (by omega) (by omega) hw
    · have hw := hw.2 hc
      refine lv_aload_n hx hb dX9_covers_101 rfl (lv_at hl 1 rfl) ?_
      obtain ⟨a9, e1, hw⟩ := hw
      have p_a9 : pI S7 12 a9 := wf_r P.2.2.2.1 p_a0 e1
      refine gf_9_1 C P p_a0 e1 q_1306 dX9_covers_102 ?_
      refine lv_iconst (v := 2) hx hb dX9_covers_105 (by decide) ?_
      refine lv_iload_n hx hb dX9_covers_106 rfl (lv_at hl 2 rfl) ?_
      refine lv_iadd hx hb dX9_covers_107 ?_
      refine lv_iconst (v := 1) hx hb dX9_covers_108 (by decide) ?_
      refine lv_iadd hx hb dX9_covers_109 ?_
      obtain ⟨h1, hw⟩ := hw
      refine ra_i C P p_a9 h1 dX9_covers_110 ?_
      refine lv_goto (tgt := 115) hx hb dX9_covers_111 (by decide) ?_
      exact tX9_covers_115 C hr hex Q QX S7 z0 (mI S7 a9 (((2 + y1) + 1) : Int32).toNatClampNeg) P (lv_sub hl [0] rfl) (by omega) (by omega) hw
  · have hw := hw.2 hc
    refine lv_aload_n hx hb dX9_covers_75 rfl (lv_at hl 1 rfl) ?_
    obtain ⟨a10, e1, hw⟩ := hw
    have p_a10 : pI S3 12 a10 := wf_r P.2.2.2.1 p_a0 e1
    refine gf_9_1 C P p_a0 e1 q_1306 dX9_covers_76 ?_
    refine lv_iconst (v := 2) hx hb dX9_covers_79 (by decide) ?_
    refine lv_iload_n hx hb dX9_covers_80 rfl (lv_at hl 2 rfl) ?_
    refine lv_iadd hx hb dX9_covers_81 ?_
    refine lv_iconst (v := 1) hx hb dX9_covers_82 (by decide) ?_
    refine lv_isub hx hb dX9_covers_83 ?_
    obtain ⟨h1, hw⟩ := hw
    refine ra_i C P p_a10 h1 dX9_covers_84 ?_
    refine lv_goto (tgt := 115) hx hb dX9_covers_85 (by decide) ?_
    exact tX9_covers_115 C hr hex Q QX S3 z0 (mI S3 a10 (((2 + y1) - 1) : Int32).toNatClampNeg) P (lv_sub hl [0] rfl) (by omega) (by omega) hw
def wX9_covers_0 (Q : Int32 → MS → Prop) (QX : String → MS → Prop) (S : MS) (a0 : Nat) (x1 : Int32) (x2 : Int32) : Prop := (∃ a1, mR S a0 1 = some a1 ∧ (vp_in 1 (mN S a1) ∧ wp_X9_row (fun r3 S2 => wp_X9_row (fun r5 S4 => ((r5 ≤ r3 → wp_X9_row (fun r7 S6 => wp_X9_row (fun r9 S8 => ((r7 ≤ r9 → wX9_covers_60 Q QX S8 a0 x1 x2 0) ∧ (¬ r7 ≤ r9 → (∃ a10, mR S8 a0 1 = some a10 ∧ (vp_in ((2 + x1) + (mI S a1 (1 : Int32).toNatClampNeg)) (mN S8 a10) ∧ wX9_covers_60 Q QX S8 a0 x1 x2 (mI S8 a10 (((2 + x1) + (mI S a1 (1 : Int32).toNatClampNeg)) : Int32).toNatClampNeg)))))) QX S6 a0 x1) QX S4 a0 x2) ∧ (¬ r5 ≤ r3 → (∃ a11, mR S4 a0 1 = some a11 ∧ (vp_in ((2 + x1) - (mI S a1 (1 : Int32).toNatClampNeg)) (mN S4 a11) ∧ wX9_covers_60 Q QX S4 a0 x1 x2 (mI S4 a11 (((2 + x1) - (mI S a1 (1 : Int32).toNatClampNeg)) : Int32).toNatClampNeg)))))) QX S2 a0 x1) QX S a0 x2))
set_option maxHeartbeats 4000000 in
set_option maxRecDepth 100000 in
theorem tX9_covers_0 {p : Program} {l : Launch} {e : Env} {s : State} {m : MethodId} {args : Array Value} {below : List Frame} {meth : Method} {c : Code} {H : Heap} {locs : List Loc} {cells slots : Nat} {G : GP} {A : Nat → Prop} {S0 : MS} {ls : Array Slot} (C : CF p l s m args meth c "SkirmishGridModel" cX9_covers 6 G A) (hr : meth.sig.returnType = (some .int)) (hex : ∀ x ∈ c.exceptionTable.toList, False) (Q : Int32 → MS → Prop) (QX : String → MS → Prop) (S : MS) (a0 : Nat) (x1 : Int32) (x2 : Int32) (p_a0 : pI S 9 a0) (P : PW G A s H locs S0 S) (hl : lv_has ls 6 [(0, .ref a0), (1, .int x1), (2, .int x2)]) (hcc : cells + 0 ≤ 0) (hss : slots + 0 ≤ 0) (hw : wX9_covers_0 Q QX S a0 x1 x2) : W p l e rmX9_covers s m args below meth c H locs cells slots (vx_MQ below (QI G S0 A Q) (XX G S0 A QX) args s 0 0 A) (F0 m 0 ls []) := by
  have hx := CF_x C
  have hb := CF_b C
  unfold wX9_covers_0 at hw
  refine lv_aload_n hx hb dX9_covers_0 rfl (lv_at hl 0 rfl) ?_
  obtain ⟨a1, e1, hw⟩ := hw
  have p_a1 : pI S 12 a1 := wf_r P.2.2.2.1 p_a0 e1
  refine gf_9_1 C P p_a0 e1 q_1306 dX9_covers_1 ?_
  refine lv_iconst (v := 1) hx hb dX9_covers_4 (by decide) ?_
  obtain ⟨h1, hw⟩ := hw
  refine ra_i C P p_a1 h1 dX9_covers_5 ?_
  refine lv_istore_n (lv' := [(3, .int (mI S a1 (1 : Int32).toNatClampNeg)), (0, .ref a0), (1, .int x1), (2, .int x2)]) hx hb dX9_covers_6 rfl hl (by decide) rfl (fun ls hl => ?_)
  refine lv_aload_n hx hb dX9_covers_7 rfl (lv_at hl 1 rfl) ?_
  refine lv_iload_n hx hb dX9_covers_8 rfl (lv_at hl 3 rfl) ?_
  refine cl_i C P (run_V C P hl.1 (kd := 9) (met_X9_row (CF_n C) G H.size _ _ S a0 x2 p_a0 hw) p_a0 (by decide) rfl q_1433 q_1435 q_p30 q_10 q_1436 cd_X9_row ⟨(Nat.le_of_ble_eq_true rfl), (Nat.le_of_ble_eq_true rfl)⟩ rfl rfl (As := [.int x2]) (rest := []) rfl rfl (Nat.le_of_ble_eq_true rfl) dX9_covers_9 ⟨by show cells + 0 ≤ 0; omega, by show slots + 0 ≤ 0; omega⟩) (kx_out C hex (fun _ _ _ h => h) (by omega) (by omega)) (fun r3 S2 H locs P hE hw => ?_)
  have p_a0 : pI S2 9 a0 := pI_x hE p_a0
  refine lv_aload_n hx hb dX9_covers_12 rfl (lv_at hl 1 rfl) ?_
  refine lv_iload_n hx hb dX9_covers_13 rfl (lv_at hl 2 rfl) ?_
  refine cl_i C P (run_V C P hl.1 (kd := 9) (met_X9_row (CF_n C) G H.size _ _ S2 a0 x1 p_a0 hw) p_a0 (by decide) rfl q_1433 q_1435 q_p30 q_10 q_1436 cd_X9_row ⟨(Nat.le_of_ble_eq_true rfl), (Nat.le_of_ble_eq_true rfl)⟩ rfl rfl (As := [.int x1]) (rest := [.int r3]) rfl rfl (Nat.le_of_ble_eq_true rfl) dX9_covers_14 ⟨by show cells + 0 ≤ 0; omega, by show slots + 0 ≤ 0; omega⟩) (kx_out C hex (fun _ _ _ h => h) (by omega) (by omega)) (fun r5 S4 H locs P hE hw => ?_)
  have p_a0 : pI S4 9 a0 := pI_x hE p_a0
  refine lv_icmp_ge (tgt := 33) hx hb dX9_covers_17 (by decide) (fun hc => ?_) (fun hc => ?_)
  · have hw := hw.1 hc
    refine lv_aload_n hx hb dX9_covers_33 rfl (lv_at hl 1 rfl) ?_
    refine lv_iload_n hx hb dX9_covers_34 rfl (lv_at hl 3 rfl) ?_
    refine cl_i C P (run_V C P hl.1 (kd := 9) (met_X9_row (CF_n C) G H.size _ _ S4 a0 x2 p_a0 hw) p_a0 (by decide) rfl q_1433 q_1435 q_p30 q_10 q_1436 cd_X9_row ⟨(Nat.le_of_ble_eq_true rfl), (Nat.le_of_ble_eq_true rfl)⟩ rfl rfl (As := [.int x2]) (rest := []) rfl rfl (Nat.le_of_ble_eq_true rfl) dX9_covers_35 ⟨by show cells + 0 ≤ 0; omega, by show slots + 0 ≤ 0; omega⟩) (kx_out C hex (fun _ _ _ h => h) (by omega) (by omega)) (fun r7 S6 H locs P hE hw => ?_)
    have p_a0 : pI S6 9 a0 := pI_x hE p_a0
    refine lv_aload_n hx hb dX9_covers_38 rfl (lv_at hl 1 rfl) ?_
    refine lv_iload_n hx hb dX9_covers_39 rfl (lv_at hl 2 rfl) ?_
    refine cl_i C P (run_V C P hl.1 (kd := 9) (met_X9_row (CF_n C) G H.size _ _ S6 a0 x1 p_a0 hw) p_a0 (by decide) rfl q_1433 q_1435 q_p30 q_10 q_1436 cd_X9_row ⟨(Nat.le_of_ble_eq_true rfl), (Nat.le_of_ble_eq_true rfl)⟩ rfl rfl (As := [.int x1]) (rest := [.int r7]) rfl rfl (Nat.le_of_ble_eq_true rfl) dX9_covers_40 ⟨by show cells + 0 ≤ 0; omega, by show slots + 0 ≤ 0; omega⟩) (kx_out C hex (fun _ _ _ h => h) (by omega) (by omega)) (fun r9 S8 H locs P hE hw => ?_)
    have p_a0 : pI S8 9 a0 := pI_x hE p_a0
    refine lv_icmp_le (tgt := 59) hx hb dX9_covers_43 (by decide) (fun hc => ?_) (fun hc => ?_)
    · have hw := hw.1 hc
      refine lv_iconst (v := 0) hx hb dX9_covers_59 (by decide) ?_
      exact tX9_covers_60 C hr hex Q QX S8 a0 x1 x2 0 p_a0 P (lv_sub hl [1, 2, 3] rfl) (by omega) (by omega) hw
    · have hw := hw.2 hc
      refine lv_aload_n hx hb dX9_covers_46 rfl (lv_at hl 1 rfl) ?_
      obtain ⟨a10, e1, hw⟩ := hw
      have p_a10 : pI S8 12 a10 := wf_r P.2.2.2.1 p_a0 e1
      refine gf_9_1 C P p_a0 e1 q_1306 dX9_covers_47 ?_
      refine lv_iconst (v := 2) hx hb dX9_covers_50 (by decide) ?_
      refine lv_iload_n hx hb dX9_covers_51 rfl (lv_at hl 2 rfl) ?_
      refine lv_iadd hx hb dX9_covers_52 ?_
      refine lv_iload_n hx hb dX9_covers_53 rfl (lv_at hl 0 rfl) ?_
      refine lv_iadd hx hb dX9_covers_54 ?_
      obtain ⟨h1, hw⟩ := hw
      refine ra_i C P p_a10 h1 dX9_covers_55 ?_
      refine lv_goto (tgt := 60) hx hb dX9_covers_56 (by decide) ?_
      exact tX9_covers_60 C hr hex Q QX S8 a0 x1 x2 (mI S8 a10 (((2 + x1) + (mI S a1 (1 : Int32).toNatClampNeg)) : Int32).toNatClampNeg) p_a0 P (lv_sub hl [1, 2, 3] rfl) (by omega) (by omega) hw
  · have hw := hw.2 hc
    refine lv_aload_n hx hb dX9_covers_20 rfl (lv_at hl 1 rfl) ?_
    obtain ⟨a11, e1, hw⟩ := hw
    have p_a11 : pI S4 12 a11 := wf_r P.2.2.2.1 p_a0 e1
    refine gf_9_1 C P p_a0 e1 q_1306 dX9_covers_21 ?_
    refine lv_iconst (v := 2) hx hb dX9_covers_24 (by decide) ?_
    refine lv_iload_n hx hb dX9_covers_25 rfl (lv_at hl 2 rfl) ?_
    refine lv_iadd hx hb dX9_covers_26 ?_
    refine lv_iload_n hx hb dX9_covers_27 rfl (lv_at hl 0 rfl) ?_
    refine lv_isub hx hb dX9_covers_28 ?_
    obtain ⟨h1, hw⟩ := hw
    refine ra_i C P p_a11 h1 dX9_covers_29 ?_
    refine lv_goto (tgt := 60) hx hb dX9_covers_30 (by decide) ?_
    exact tX9_covers_60 C hr hex Q QX S4 a0 x1 x2 (mI S4 a11 (((2 + x1) - (mI S a1 (1 : Int32).toNatClampNeg)) : Int32).toNatClampNeg) p_a0 P (lv_sub hl [1, 2, 3] rfl) (by omega) (by omega) hw
def wp_X9_covers (Q : Int32 → MS → Prop) (QX : String → MS → Prop) (S : MS) (a0 : Nat) (x1 : Int32) (x2 : Int32) : Prop := wX9_covers_0 Q QX S a0 x1 x2
set_option maxHeartbeats 4000000 in
set_option maxRecDepth 100000 in
theorem met_X9_covers {l : Launch} (hst : l.stackTraces = false) (G : GP) (sz : Nat) (Q : Int32 → MS → Prop) (QX : String → MS → Prop) (S : MS) (a0 : Nat) (x1 : Int32) (x2 : Int32) (p_a0 : pI S 9 a0) (hw : wp_X9_covers Q QX S a0 x1 x2) : vx_Met l yX9_covers (.code yX9_covers cX9_covers 6 (some .int) :: GW) rmX9_covers (va_Pc [.ref a0, .int x1, .int x2] (PR G S sz)) (QI G S (FA G S sz) Q) (XX G S (FA G S sz) QX) 0 0 (FA G S sz) := by
  refine st_m (by decide +kernel) hst (fun p e s m below meth c C hr hnm hex P => ?_)
  refine en_m (Nat.le_of_ble_eq_true rfl) (lv := [(0, .ref a0), (1, .int x1), (2, .int x2)]) rfl (fun ls hl => ?_)
  have C : CF p l s m _ meth c "SkirmishGridModel" cX9_covers 6 G (FA G S sz) := C
  exact tX9_covers_0 C hr hex Q QX S a0 x1 x2 p_a0 P hl (by omega) (by omega) hw
theorem cd_X9_covers : yX9_covers.cls = RX9 ∧ yX9_covers.cls ≠ "java/lang/invoke/MethodHandle" ∧ yX9_covers.cls ≠ "java/lang/invoke/VarHandle" ∧ (parseMethodDescriptor yX9_covers.desc).map (fun d => d.parameters.length) = some 2 := by decide +kernel
abbrev rmX9_cover : Room := { frames := 3, cells := 0, slots := 0, locals := 65 }
def wX9_cover_0 (Q : Int32 → MS → Prop) (QX : String → MS → Prop) (S : MS) (a0 : Nat) (x1 : Int32) (x2 : Int32) : Prop := wp_X9_isPair (fun r2 S1 => ((r2 = 0 → Q 0 S1) ∧ (¬ r2 = 0 → wp_X9_covers (fun r4 S3 => Q r4 S3) QX S1 a0 x1 x2))) QX S a0 x1 x2
set_option maxHeartbeats 4000000 in
set_option maxRecDepth 100000 in
theorem tX9_cover_0 {p : Program} {l : Launch} {e : Env} {s : State} {m : MethodId} {args : Array Value} {below : List Frame} {meth : Method} {c : Code} {H : Heap} {locs : List Loc} {cells slots : Nat} {G : GP} {A : Nat → Prop} {S0 : MS} {ls : Array Slot} (C : CF p l s m args meth c "SkirmishGridModel" cX9_cover 3 G A) (hr : meth.sig.returnType = (some .int)) (hex : ∀ x ∈ c.exceptionTable.toList, False) (Q : Int32 → MS → Prop) (QX : String → MS → Prop) (S : MS) (a0 : Nat) (x1 : Int32) (x2 : Int32) (p_a0 : pI S 9 a0) (P : PW G A s H locs S0 S) (hl : lv_has ls 3 [(0, .ref a0), (1, .int x1), (2, .int x2)]) (hcc : cells + 0 ≤ 0) (hss : slots + 0 ≤ 0) (hw : wX9_cover_0 Q QX S a0 x1 x2) : W p l e rmX9_cover s m args below meth c H locs cells slots (vx_MQ below (QI G S0 A Q) (XX G S0 A QX) args s 0 0 A) (F0 m 0 ls []) := by
  have hx := CF_x C
  have hb := CF_b C
  unfold wX9_cover_0 at hw
  refine lv_aload_n hx hb dX9_cover_0 rfl (lv_at hl 0 rfl) ?_
  refine lv_iload_n hx hb dX9_cover_1 rfl (lv_at hl 1 rfl) ?_
  refine lv_iload_n hx hb dX9_cover_2 rfl (lv_at hl 2 rfl) ?_
  refine cl_i C P (run_V C P hl.1 (kd := 9) (met_X9_isPair (CF_n C) G H.size _ _ S a0 x1 x2 p_a0 hw) p_a0 (by decide) rfl q_1413 q_1415 q_p25 q_10 q_1416 cd_X9_isPair ⟨(Nat.le_of_ble_eq_true rfl), (Nat.le_of_ble_eq_true rfl)⟩ rfl rfl (As := [.int x1, .int x2]) (rest := []) rfl rfl (Nat.le_of_ble_eq_true rfl) dX9_cover_3 ⟨by show cells + 0 ≤ 0; omega, by show slots + 0 ≤ 0; omega⟩) (kx_out C hex (fun _ _ _ h => h) (by omega) (by omega)) (fun r2 S1 H locs P hE hw => ?_)
  have p_a0 : pI S1 9 a0 := pI_x hE p_a0
  refine lv_if_eq (tgt := 18) hx hb dX9_cover_6 (by decide) (fun hc => ?_) (fun hc => ?_)
  · have hw := hw.1 hc
    refine lv_iconst (v := 0) hx hb dX9_cover_18 (by decide) ?_
    exact e_i C hr rfl P hw (by omega) (by omega) dX9_cover_19
  · have hw := hw.2 hc
    refine lv_aload_n hx hb dX9_cover_9 rfl (lv_at hl 0 rfl) ?_
    refine lv_iload_n hx hb dX9_cover_10 rfl (lv_at hl 1 rfl) ?_
    refine lv_iload_n hx hb dX9_cover_11 rfl (lv_at hl 2 rfl) ?_
    refine cl_i C P (run_V C P hl.1 (kd := 9) (met_X9_covers (CF_n C) G H.size _ _ S1 a0 x1 x2 p_a0 hw) p_a0 (by decide) rfl q_1441 q_1443 q_p31 q_10 q_1444 cd_X9_covers ⟨(Nat.le_of_ble_eq_true rfl), (Nat.le_of_ble_eq_true rfl)⟩ rfl rfl (As := [.int x1, .int x2]) (rest := []) rfl rfl (Nat.le_of_ble_eq_true rfl) dX9_cover_12 ⟨by show cells + 0 ≤ 0; omega, by show slots + 0 ≤ 0; omega⟩) (kx_out C hex (fun _ _ _ h => h) (by omega) (by omega)) (fun r4 S3 H locs P hE hw => ?_)
    have p_a0 : pI S3 9 a0 := pI_x hE p_a0
    refine lv_goto (tgt := 19) hx hb dX9_cover_15 (by decide) ?_
    exact e_i C hr rfl P hw (by omega) (by omega) dX9_cover_19
def wp_X9_cover (Q : Int32 → MS → Prop) (QX : String → MS → Prop) (S : MS) (a0 : Nat) (x1 : Int32) (x2 : Int32) : Prop := wX9_cover_0 Q QX S a0 x1 x2
set_option maxHeartbeats 4000000 in
set_option maxRecDepth 100000 in
theorem met_X9_cover {l : Launch} (hst : l.stackTraces = false) (G : GP) (sz : Nat) (Q : Int32 → MS → Prop) (QX : String → MS → Prop) (S : MS) (a0 : Nat) (x1 : Int32) (x2 : Int32) (p_a0 : pI S 9 a0) (hw : wp_X9_cover Q QX S a0 x1 x2) : vx_Met l yX9_cover (.code yX9_cover cX9_cover 3 (some .int) :: GW) rmX9_cover (va_Pc [.ref a0, .int x1, .int x2] (PR G S sz)) (QI G S (FA G S sz) Q) (XX G S (FA G S sz) QX) 0 0 (FA G S sz) := by
  refine st_m (by decide +kernel) hst (fun p e s m below meth c C hr hnm hex P => ?_)
  refine en_m (Nat.le_of_ble_eq_true rfl) (lv := [(0, .ref a0), (1, .int x1), (2, .int x2)]) rfl (fun ls hl => ?_)
  have C : CF p l s m _ meth c "SkirmishGridModel" cX9_cover 3 G (FA G S sz) := C
  exact tX9_cover_0 C hr hex Q QX S a0 x1 x2 p_a0 P hl (by omega) (by omega) hw
theorem cd_X9_cover : yX9_cover.cls = RX9 ∧ yX9_cover.cls ≠ "java/lang/invoke/MethodHandle" ∧ yX9_cover.cls ≠ "java/lang/invoke/VarHandle" ∧ (parseMethodDescriptor yX9_cover.desc).map (fun d => d.parameters.length) = some 2 := by decide +kernel
abbrev rmX9_unitOn : Room := { frames := 2, cells := 0, slots := 0, locals := 43 }
def wX9_unitOn_2 (Q : Int32 → MS → Prop) (QX : String → MS → Prop) (k2 : MS → Nat → Int32 → Int32 → Prop) (S : MS) (a0 : Nat) (y1 : Int32) (y2 : Int32) : Prop := (∃ a1, mR S a0 1 = some a1 ∧ (vp_in 66 (mN S a1) ∧ (((mI S a1 (66 : Int32).toNatClampNeg) ≤ y2 → Q (-1) S) ∧ (¬ (mI S a1 (66 : Int32).toNatClampNeg) ≤ y2 → wp_X9_lives (fun r3 S2 => ((r3 = 0 → k2 S2 a0 y1 (y2 + 1)) ∧ (¬ r3 = 0 → wp_X9_of (fun r5 S4 => ((¬ r5 = y1 → k2 S4 a0 y1 (y2 + 1)) ∧ (r5 = y1 → Q y2 S4))) QX S2 a0 y2 2))) QX S a0 y2))))
set_option maxHeartbeats 4000000 in
set_option maxRecDepth 100000 in
theorem tX9_unitOn_2 {p : Program} {l : Launch} {e : Env} {s : State} {m : MethodId} {args : Array Value} {below : List Frame} {meth : Method} {c : Code} {H : Heap} {locs : List Loc} {cells slots : Nat} {G : GP} {A : Nat → Prop} {S0 : MS} {ls : Array Slot} (C : CF p l s m args meth c "SkirmishGridModel" cX9_unitOn 3 G A) (hr : meth.sig.returnType = (some .int)) (hex : ∀ x ∈ c.exceptionTable.toList, False) (Q : Int32 → MS → Prop) (QX : String → MS → Prop) (k2 : MS → Nat → Int32 → Int32 → Prop) (kh2 : ∀ (S : MS) (a0 : Nat) (y1 : Int32) (y2 : Int32) (cells slots : Nat) (H : Heap) (locs : List Loc) (ls : Array Slot), pI S 9 a0 → PW G A s H locs S0 S → lv_has ls 3 [(0, .ref a0), (1, .int y1), (2, .int y2)] → cells + 0 ≤ 0 → slots + 0 ≤ 0 → k2 S a0 y1 y2 → W p l e rmX9_unitOn s m args below meth c H locs cells slots (vx_MQ below (QI G S0 A Q) (XX G S0 A QX) args s 0 0 A) (F0 m 2 ls [])) (S : MS) (a0 : Nat) (y1 : Int32) (y2 : Int32) (p_a0 : pI S 9 a0) (P : PW G A s H locs S0 S) (hl : lv_has ls 3 [(0, .ref a0), (1, .int y1), (2, .int y2)]) (hcc : cells + 0 ≤ 0) (hss : slots + 0 ≤ 0) (hw : wX9_unitOn_2 Q QX k2 S a0 y1 y2) : W p l e rmX9_unitOn s m args below meth c H locs cells slots (vx_MQ below (QI G S0 A Q) (XX G S0 A QX) args s 0 0 A) (F0 m 2 ls []) := by
  have hx := CF_x C
  have hb := CF_b C
  unfold wX9_unitOn_2 at hw
  refine lv_iload_n hx hb dX9_unitOn_2 rfl (lv_at hl 2 rfl) ?_
  refine lv_aload_n hx hb dX9_unitOn_3 rfl (lv_at hl 0 rfl) ?_
  obtain ⟨a1, e1, hw⟩ := hw
  have p_a1 : pI S 12 a1 := wf_r P.2.2.2.1 p_a0 e1
  refine gf_9_1 C P p_a0 e1 q_1306 dX9_unitOn_4 ?_
  refine lv_bipush (v := 66) hx hb dX9_unitOn_7 (by decide) ?_
  obtain ⟨h1, hw⟩ := hw
  refine ra_i C P p_a1 h1 dX9_unitOn_9 ?_
  refine lv_icmp_ge (tgt := 39) hx hb dX9_unitOn_10 (by decide) (fun hc => ?_) (fun hc => ?_)
  · have hw := hw.1 hc
    refine lv_iconst (v := (-1)) hx hb dX9_unitOn_39 (by decide) ?_
    exact e_i C hr rfl P hw (by omega) (by omega) dX9_unitOn_40
  · have hw := hw.2 hc
    refine lv_aload_n hx hb dX9_unitOn_13 rfl (lv_at hl 0 rfl) ?_
    refine lv_iload_n hx hb dX9_unitOn_14 rfl (lv_at hl 2 rfl) ?_
    refine cl_i C P (run_V C P hl.1 (kd := 9) (met_X9_lives (CF_n C) G H.size _ _ S a0 y2 p_a0 hw) p_a0 (by decide) rfl q_1453 q_1455 q_p33 q_10 q_1456 cd_X9_lives ⟨(Nat.le_of_ble_eq_true rfl), (Nat.le_of_ble_eq_true rfl)⟩ rfl rfl (As := [.int y2]) (rest := []) rfl rfl (Nat.le_of_ble_eq_true rfl) dX9_unitOn_15 ⟨by show cells + 0 ≤ 0; omega, by show slots + 0 ≤ 0; omega⟩) (kx_out C hex (fun _ _ _ h => h) (by omega) (by omega)) (fun r3 S2 H locs P hE hw => ?_)
    have p_a0 : pI S2 9 a0 := pI_x hE p_a0
    refine lv_if_eq (tgt := 33) hx hb dX9_unitOn_18 (by decide) (fun hc => ?_) (fun hc => ?_)
    · have hw := hw.1 hc
      refine lv_iinc (v := (y2 + 1)) (lv' := [(2, .int (y2 + 1)), (0, .ref a0), (1, .int y1)]) hx hb dX9_unitOn_33 hl (k := 2) rfl (by rfl) (by decide) rfl (fun ls hl => ?_)
      refine lv_goto (tgt := 2) hx hb dX9_unitOn_36 (by decide) ?_
      exact kh2 S2 a0 y1 (y2 + 1) _ _ _ _ _ p_a0 P (lv_sub hl [1, 2, 0] rfl) (by omega) (by omega) hw
    · have hw := hw.2 hc
      refine lv_aload_n hx hb dX9_unitOn_21 rfl (lv_at hl 0 rfl) ?_
      refine lv_iload_n hx hb dX9_unitOn_22 rfl (lv_at hl 2 rfl) ?_
      refine lv_iconst (v := 2) hx hb dX9_unitOn_23 (by decide) ?_
      refine cl_i C P (run_V C P hl.1 (kd := 9) (met_X9_of (CF_n C) G H.size _ _ S2 a0 y2 2 p_a0 hw) p_a0 (by decide) rfl q_1457 q_1459 q_p34 q_10 q_1460 cd_X9_of ⟨(Nat.le_of_ble_eq_true rfl), (Nat.le_of_ble_eq_true rfl)⟩ rfl rfl (As := [.int y2, .int 2]) (rest := []) rfl rfl (Nat.le_of_ble_eq_true rfl) dX9_unitOn_24 ⟨by show cells + 0 ≤ 0; omega, by show slots + 0 ≤ 0; omega⟩) (kx_out C hex (fun _ _ _ h => h) (by omega) (by omega)) (fun r5 S4 H locs P hE hw => ?_)
      have p_a0 : pI S4 9 a0 := pI_x hE p_a0
      refine lv_iload_n hx hb dX9_unitOn_27 rfl (lv_at hl 1 rfl) ?_
      refine lv_icmp_ne (tgt := 33) hx hb dX9_unitOn_28 (by decide) (fun hc => ?_) (fun hc => ?_)
      · have hw := hw.1 hc
        refine lv_iinc (v := (y2 + 1)) (lv' := [(2, .int (y2 + 1)), (0, .ref a0), (1, .int y1)]) hx hb dX9_unitOn_33 hl (k := 2) rfl (by rfl) (by decide) rfl (fun ls hl => ?_)
        refine lv_goto (tgt := 2) hx hb dX9_unitOn_36 (by decide) ?_
        exact kh2 S4 a0 y1 (y2 + 1) _ _ _ _ _ p_a0 P (lv_sub hl [1, 2, 0] rfl) (by omega) (by omega) hw
      · have hw := hw.2 hc
        refine lv_iload_n hx hb dX9_unitOn_31 rfl (lv_at hl 2 rfl) ?_
        exact e_i C hr rfl P hw (by omega) (by omega) dX9_unitOn_32
def lX9_unitOn_2 (Q : Int32 → MS → Prop) (QX : String → MS → Prop) : Nat → MS → Nat → Int32 → Int32 → Prop
  | 0 => fun _ _ _ _ => False
  | n + 1 => fun S a0 y1 y2 => wX9_unitOn_2 Q QX (lX9_unitOn_2 Q QX n) S a0 y1 y2
theorem tlX9_unitOn_2 {p : Program} {l : Launch} {e : Env} {s : State} {m : MethodId} {args : Array Value} {below : List Frame} {meth : Method} {c : Code} {G : GP} {A : Nat → Prop} {S0 : MS} (C : CF p l s m args meth c "SkirmishGridModel" cX9_unitOn 3 G A) (hr : meth.sig.returnType = (some .int)) (hex : ∀ x ∈ c.exceptionTable.toList, False) (Q : Int32 → MS → Prop) (QX : String → MS → Prop) : ∀ (n : Nat), ∀ (S : MS) (a0 : Nat) (y1 : Int32) (y2 : Int32) (cells slots : Nat) (H : Heap) (locs : List Loc) (ls : Array Slot), pI S 9 a0 → PW G A s H locs S0 S → lv_has ls 3 [(0, .ref a0), (1, .int y1), (2, .int y2)] → cells + 0 ≤ 0 → slots + 0 ≤ 0 → lX9_unitOn_2 Q QX n S a0 y1 y2 → W p l e rmX9_unitOn s m args below meth c H locs cells slots (vx_MQ below (QI G S0 A Q) (XX G S0 A QX) args s 0 0 A) (F0 m 2 ls []) := by
  intro n
  induction n with
  | zero => intro S a0 y1 y2 cells slots H locs ls p_a0 P hl hcc hss hw; exact hw.elim
  | succ n ih => intro S a0 y1 y2 cells slots H locs ls p_a0 P hl hcc hss hw; exact tX9_unitOn_2 C hr hex Q QX (lX9_unitOn_2 Q QX n) ih S a0 y1 y2 p_a0 P hl hcc hss hw
def wX9_unitOn_0 (Q : Int32 → MS → Prop) (QX : String → MS → Prop) (S : MS) (a0 : Nat) (x1 : Int32) : Prop := (∃ n, lX9_unitOn_2 Q QX n S a0 x1 0)
set_option maxHeartbeats 4000000 in
set_option maxRecDepth 100000 in
theorem tX9_unitOn_0 {p : Program} {l : Launch} {e : Env} {s : State} {m : MethodId} {args : Array Value} {below : List Frame} {meth : Method} {c : Code} {H : Heap} {locs : List Loc} {cells slots : Nat} {G : GP} {A : Nat → Prop} {S0 : MS} {ls : Array Slot} (C : CF p l s m args meth c "SkirmishGridModel" cX9_unitOn 3 G A) (hr : meth.sig.returnType = (some .int)) (hex : ∀ x ∈ c.exceptionTable.toList, False) (Q : Int32 → MS → Prop) (QX : String → MS → Prop) (S : MS) (a0 : Nat) (x1 : Int32) (p_a0 : pI S 9 a0) (P : PW G A s H locs S0 S) (hl : lv_has ls 3 [(0, .ref a0), (1, .int x1)]) (hcc : cells + 0 ≤ 0) (hss : slots + 0 ≤ 0) (hw : wX9_unitOn_0 Q QX S a0 x1) : W p l e rmX9_unitOn s m args below meth c H locs cells slots (vx_MQ below (QI G S0 A Q) (XX G S0 A QX) args s 0 0 A) (F0 m 0 ls []) := by
  have hx := CF_x C
  have hb := CF_b C
  unfold wX9_unitOn_0 at hw
  refine lv_iconst (v := 0) hx hb dX9_unitOn_0 (by decide) ?_
  refine lv_istore_n (lv' := [(2, .int 0), (0, .ref a0), (1, .int x1)]) hx hb dX9_unitOn_1 rfl hl (by decide) rfl (fun ls hl => ?_)
  obtain ⟨n, hw⟩ := hw
  exact tlX9_unitOn_2 C hr hex Q QX n S a0 x1 0 _ _ _ _ _ p_a0 P (lv_sub hl [1, 2, 0] rfl) (by omega) (by omega) hw
def wp_X9_unitOn (Q : Int32 → MS → Prop) (QX : String → MS → Prop) (S : MS) (a0 : Nat) (x1 : Int32) : Prop := wX9_unitOn_0 Q QX S a0 x1
set_option maxHeartbeats 4000000 in
set_option maxRecDepth 100000 in
theorem met_X9_unitOn {l : Launch} (hst : l.stackTraces = false) (G : GP) (sz : Nat) (Q : Int32 → MS → Prop) (QX : String → MS → Prop) (S : MS) (a0 : Nat) (x1 : Int32) (p_a0 : pI S 9 a0) (hw : wp_X9_unitOn Q QX S a0 x1) : vx_Met l yX9_unitOn (.code yX9_unitOn cX9_unitOn 3 (some .int) :: GW) rmX9_unitOn (va_Pc [.ref a0, .int x1] (PR G S sz)) (QI G S (FA G S sz) Q) (XX G S (FA G S sz) QX) 0 0 (FA G S sz) := by
  refine st_m (by decide +kernel) hst (fun p e s m below meth c C hr hnm hex P => ?_)
  refine en_m (Nat.le_of_ble_eq_true rfl) (lv := [(0, .ref a0), (1, .int x1)]) rfl (fun ls hl => ?_)
  have C : CF p l s m _ meth c "SkirmishGridModel" cX9_unitOn 3 G (FA G S sz) := C
  exact tX9_unitOn_0 C hr hex Q QX S a0 x1 p_a0 P hl (by omega) (by omega) hw
theorem cd_X9_unitOn : yX9_unitOn.cls = RX9 ∧ yX9_unitOn.cls ≠ "java/lang/invoke/MethodHandle" ∧ yX9_unitOn.cls ≠ "java/lang/invoke/VarHandle" ∧ (parseMethodDescriptor yX9_unitOn.desc).map (fun d => d.parameters.length) = some 1 := by decide +kernel
abbrev rmX9_hasBegun : Room := { frames := 0, cells := 0, slots := 0, locals := 0 }
def wX9_hasBegun_0 (Q : Int32 → MS → Prop) (QX : String → MS → Prop) (S : MS) (a0 : Nat) : Prop := (∃ a1, mR S a0 1 = some a1 ∧ (vp_in 156 (mN S a1) ∧ (((mI S a1 (156 : Int32).toNatClampNeg) ≤ 0 → Q 0 S) ∧ (¬ (mI S a1 (156 : Int32).toNatClampNeg) ≤ 0 → Q 1 S))))
set_option maxHeartbeats 4000000 in
set_option maxRecDepth 100000 in
theorem tX9_hasBegun_0 {p : Program} {l : Launch} {e : Env} {s : State} {m : MethodId} {args : Array Value} {below : List Frame} {meth : Method} {c : Code} {H : Heap} {locs : List Loc} {cells slots : Nat} {G : GP} {A : Nat → Prop} {S0 : MS} {ls : Array Slot} (C : CF p l s m args meth c "SkirmishGridModel" cX9_hasBegun 1 G A) (hr : meth.sig.returnType = (some .boolean)) (hex : ∀ x ∈ c.exceptionTable.toList, False) (Q : Int32 → MS → Prop) (QX : String → MS → Prop) (S : MS) (a0 : Nat) (p_a0 : pI S 9 a0) (P : PW G A s H locs S0 S) (hl : lv_has ls 1 [(0, .ref a0)]) (hcc : cells + 0 ≤ 0) (hss : slots + 0 ≤ 0) (hw : wX9_hasBegun_0 Q QX S a0) : W p l e rmX9_hasBegun s m args below meth c H locs cells slots (vx_MQ below (QI G S0 A Q) (XX G S0 A QX) args s 0 0 A) (F0 m 0 ls []) := by
  have hx := CF_x C
  have hb := CF_b C
  unfold wX9_hasBegun_0 at hw
  refine lv_aload_n hx hb dX9_hasBegun_0 rfl (lv_at hl 0 rfl) ?_
  obtain ⟨a1, e1, hw⟩ := hw
  have p_a1 : pI S 12 a1 := wf_r P.2.2.2.1 p_a0 e1
  refine gf_9_1 C P p_a0 e1 q_1306 dX9_hasBegun_1 ?_
  refine lv_sipush (v := 156) hx hb dX9_hasBegun_4 (by decide) ?_
  obtain ⟨h1, hw⟩ := hw
  refine ra_i C P p_a1 h1 dX9_hasBegun_7 ?_
  refine lv_if_le (tgt := 15) hx hb dX9_hasBegun_8 (by decide) (fun hc => ?_) (fun hc => ?_)
  · have hw := hw.1 hc
    refine lv_iconst (v := 0) hx hb dX9_hasBegun_15 (by decide) ?_
    exact e_i C hr (by decide +kernel) P hw (by omega) (by omega) dX9_hasBegun_16
  · have hw := hw.2 hc
    refine lv_iconst (v := 1) hx hb dX9_hasBegun_11 (by decide) ?_
    refine lv_goto (tgt := 16) hx hb dX9_hasBegun_12 (by decide) ?_
    exact e_i C hr (by decide +kernel) P hw (by omega) (by omega) dX9_hasBegun_16
def wp_X9_hasBegun (Q : Int32 → MS → Prop) (QX : String → MS → Prop) (S : MS) (a0 : Nat) : Prop := wX9_hasBegun_0 Q QX S a0
set_option maxHeartbeats 4000000 in
set_option maxRecDepth 100000 in
theorem met_X9_hasBegun {l : Launch} (hst : l.stackTraces = false) (G : GP) (sz : Nat) (Q : Int32 → MS → Prop) (QX : String → MS → Prop) (S : MS) (a0 : Nat) (p_a0 : pI S 9 a0) (hw : wp_X9_hasBegun Q QX S a0) : vx_Met l yX9_hasBegun (.code yX9_hasBegun cX9_hasBegun 1 (some .boolean) :: GW) rmX9_hasBegun (va_Pc [.ref a0] (PR G S sz)) (QI G S (FA G S sz) Q) (XX G S (FA G S sz) QX) 0 0 (FA G S sz) := by
  refine st_m (by decide +kernel) hst (fun p e s m below meth c C hr hnm hex P => ?_)
  refine en_m (Nat.le_of_ble_eq_true rfl) (lv := [(0, .ref a0)]) rfl (fun ls hl => ?_)
  have C : CF p l s m _ meth c "SkirmishGridModel" cX9_hasBegun 1 G (FA G S sz) := C
  exact tX9_hasBegun_0 C hr hex Q QX S a0 p_a0 P hl (by omega) (by omega) hw
theorem cd_X9_hasBegun : yX9_hasBegun.cls = RX9 ∧ yX9_hasBegun.cls ≠ "java/lang/invoke/MethodHandle" ∧ yX9_hasBegun.cls ≠ "java/lang/invoke/VarHandle" ∧ (parseMethodDescriptor yX9_hasBegun.desc).map (fun d => d.parameters.length) = some 0 := by decide +kernel
abbrev rmX9_addUnit : Room := { frames := 3, cells := 0, slots := 0, locals := 65 }
def wX9_addUnit_31 (Q : Int32 → MS → Prop) (QX : String → MS → Prop) (S : MS) (a0 : Nat) : Prop := wp_X9_no (fun r2 S1 => Q r2 S1) QX S a0 1
set_option maxHeartbeats 4000000 in
set_option maxRecDepth 100000 in
theorem tX9_addUnit_31 {p : Program} {l : Launch} {e : Env} {s : State} {m : MethodId} {args : Array Value} {below : List Frame} {meth : Method} {c : Code} {H : Heap} {locs : List Loc} {cells slots : Nat} {G : GP} {A : Nat → Prop} {S0 : MS} {ls : Array Slot} (C : CF p l s m args meth c "SkirmishGridModel" cX9_addUnit 6 G A) (hr : meth.sig.returnType = (some .int)) (hex : ∀ x ∈ c.exceptionTable.toList, False) (Q : Int32 → MS → Prop) (QX : String → MS → Prop) (S : MS) (a0 : Nat) (p_a0 : pI S 9 a0) (P : PW G A s H locs S0 S) (hl : lv_has ls 6 [(0, .ref a0)]) (hcc : cells + 0 ≤ 0) (hss : slots + 0 ≤ 0) (hw : wX9_addUnit_31 Q QX S a0) : W p l e rmX9_addUnit s m args below meth c H locs cells slots (vx_MQ below (QI G S0 A Q) (XX G S0 A QX) args s 0 0 A) (F0 m 31 ls []) := by
  have hx := CF_x C
  have hb := CF_b C
  unfold wX9_addUnit_31 at hw
  refine lv_aload_n hx hb dX9_addUnit_31 rfl (lv_at hl 0 rfl) ?_
  refine lv_iconst (v := 1) hx hb dX9_addUnit_32 (by decide) ?_
  refine cl_i C P (run_V C P hl.1 (kd := 9) (met_X9_no (CF_n C) G H.size _ _ S a0 1 p_a0 hw) p_a0 (by decide) rfl q_1386 q_1388 q_p23 q_10 q_1389 cd_X9_no ⟨(Nat.le_of_ble_eq_true rfl), (Nat.le_of_ble_eq_true rfl)⟩ rfl rfl (As := [.int 1]) (rest := []) rfl rfl (Nat.le_of_ble_eq_true rfl) dX9_addUnit_33 ⟨by show cells + 0 ≤ 0; omega, by show slots + 0 ≤ 0; omega⟩) (kx_out C hex (fun _ _ _ h => h) (by omega) (by omega)) (fun r2 S1 H locs P hE hw => ?_)
  have p_a0 : pI S1 9 a0 := pI_x hE p_a0
  exact e_i C hr rfl P hw (by omega) (by omega) dX9_addUnit_36
def wX9_addUnit_57 (Q : Int32 → MS → Prop) (QX : String → MS → Prop) (S : MS) (a0 : Nat) : Prop := wp_X9_no (fun r2 S1 => Q r2 S1) QX S a0 2
set_option maxHeartbeats 4000000 in
set_option maxRecDepth 100000 in
theorem tX9_addUnit_57 {p : Program} {l : Launch} {e : Env} {s : State} {m : MethodId} {args : Array Value} {below : List Frame} {meth : Method} {c : Code} {H : Heap} {locs : List Loc} {cells slots : Nat} {G : GP} {A : Nat → Prop} {S0 : MS} {ls : Array Slot} (C : CF p l s m args meth c "SkirmishGridModel" cX9_addUnit 6 G A) (hr : meth.sig.returnType = (some .int)) (hex : ∀ x ∈ c.exceptionTable.toList, False) (Q : Int32 → MS → Prop) (QX : String → MS → Prop) (S : MS) (a0 : Nat) (p_a0 : pI S 9 a0) (P : PW G A s H locs S0 S) (hl : lv_has ls 6 [(0, .ref a0)]) (hcc : cells + 0 ≤ 0) (hss : slots + 0 ≤ 0) (hw : wX9_addUnit_57 Q QX S a0) : W p l e rmX9_addUnit s m args below meth c H locs cells slots (vx_MQ below (QI G S0 A Q) (XX G S0 A QX) args s 0 0 A) (F0 m 57 ls []) := by
  have hx := CF_x C
  have hb := CF_b C
  unfold wX9_addUnit_57 at hw
  refine lv_aload_n hx hb dX9_addUnit_57 rfl (lv_at hl 0 rfl) ?_
  refine lv_iconst (v := 2) hx hb dX9_addUnit_58 (by decide) ?_
  refine cl_i C P (run_V C P hl.1 (kd := 9) (met_X9_no (CF_n C) G H.size _ _ S a0 2 p_a0 hw) p_a0 (by decide) rfl q_1386 q_1388 q_p23 q_10 q_1389 cd_X9_no ⟨(Nat.le_of_ble_eq_true rfl), (Nat.le_of_ble_eq_true rfl)⟩ rfl rfl (As := [.int 2]) (rest := []) rfl rfl (Nat.le_of_ble_eq_true rfl) dX9_addUnit_59 ⟨by show cells + 0 ≤ 0; omega, by show slots + 0 ≤ 0; omega⟩) (kx_out C hex (fun _ _ _ h => h) (by omega) (by omega)) (fun r2 S1 H locs P hE hw => ?_)
  have p_a0 : pI S1 9 a0 := pI_x hE p_a0
  exact e_i C hr rfl P hw (by omega) (by omega) dX9_addUnit_62
def wX9_addUnit_82 (Q : Int32 → MS → Prop) (QX : String → MS → Prop) (S : MS) (a0 : Nat) : Prop := wp_X9_no (fun r2 S1 => Q r2 S1) QX S a0 3
set_option maxHeartbeats 4000000 in
set_option maxRecDepth 100000 in
theorem tX9_addUnit_82 {p : Program} {l : Launch} {e : Env} {s : State} {m : MethodId} {args : Array Value} {below : List Frame} {meth : Method} {c : Code} {H : Heap} {locs : List Loc} {cells slots : Nat} {G : GP} {A : Nat → Prop} {S0 : MS} {ls : Array Slot} (C : CF p l s m args meth c "SkirmishGridModel" cX9_addUnit 6 G A) (hr : meth.sig.returnType = (some .int)) (hex : ∀ x ∈ c.exceptionTable.toList, False) (Q : Int32 → MS → Prop) (QX : String → MS → Prop) (S : MS) (a0 : Nat) (p_a0 : pI S 9 a0) (P : PW G A s H locs S0 S) (hl : lv_has ls 6 [(0, .ref a0)]) (hcc : cells + 0 ≤ 0) (hss : slots + 0 ≤ 0) (hw : wX9_addUnit_82 Q QX S a0) : W p l e rmX9_addUnit s m args below meth c H locs cells slots (vx_MQ below (QI G S0 A Q) (XX G S0 A QX) args s 0 0 A) (F0 m 82 ls []) := by
  have hx := CF_x C
  have hb := CF_b C
  unfold wX9_addUnit_82 at hw
  refine lv_aload_n hx hb dX9_addUnit_82 rfl (lv_at hl 0 rfl) ?_
  refine lv_iconst (v := 3) hx hb dX9_addUnit_83 (by decide) ?_
  refine cl_i C P (run_V C P hl.1 (kd := 9) (met_X9_no (CF_n C) G H.size _ _ S a0 3 p_a0 hw) p_a0 (by decide) rfl q_1386 q_1388 q_p23 q_10 q_1389 cd_X9_no ⟨(Nat.le_of_ble_eq_true rfl), (Nat.le_of_ble_eq_true rfl)⟩ rfl rfl (As := [.int 3]) (rest := []) rfl rfl (Nat.le_of_ble_eq_true rfl) dX9_addUnit_84 ⟨by show cells + 0 ≤ 0; omega, by show slots + 0 ≤ 0; omega⟩) (kx_out C hex (fun _ _ _ h => h) (by omega) (by omega)) (fun r2 S1 H locs P hE hw => ?_)
  have p_a0 : pI S1 9 a0 := pI_x hE p_a0
  exact e_i C hr rfl P hw (by omega) (by omega) dX9_addUnit_87
def wX9_addUnit_111 (Q : Int32 → MS → Prop) (QX : String → MS → Prop) (k111 : MS → Nat → Int32 → Int32 → Int32 → Int32 → Int32 → Prop) (S : MS) (a0 : Nat) (y1 : Int32) (y2 : Int32) (y3 : Int32) (y4 : Int32) (y5 : Int32) : Prop := ((11 ≤ y5 → wp_X9_sets (fun S1 => wp_X9_sets (fun S2 => wp_X9_sets (fun S3 => wp_X9_number (fun r5 S4 => wp_X9_sets (fun S6 => wp_X9_number (fun r8 S7 => wp_X9_sets (fun S9 => wp_X9_number (fun r11 S10 => wp_X9_sets (fun S12 => Q y4 S12) QX S10 a0 y4 5 r11) QX S9 y2 8) QX S7 a0 y4 4 r8) QX S6 y2 7) QX S4 a0 y4 3 r5) QX S3 y2 0) QX S2 a0 y4 2 y3) QX S1 a0 y4 1 y2) QX S a0 y4 0 y1) ∧ (¬ 11 ≤ y5 → wp_X9_sets (fun S13 => k111 S13 a0 y1 y2 y3 y4 (y5 + 1)) QX S a0 y4 y5 0))
set_option maxHeartbeats 4000000 in
set_option maxRecDepth 100000 in
theorem tX9_addUnit_111 {p : Program} {l : Launch} {e : Env} {s : State} {m : MethodId} {args : Array Value} {below : List Frame} {meth : Method} {c : Code} {H : Heap} {locs : List Loc} {cells slots : Nat} {G : GP} {A : Nat → Prop} {S0 : MS} {ls : Array Slot} (C : CF p l s m args meth c "SkirmishGridModel" cX9_addUnit 6 G A) (hr : meth.sig.returnType = (some .int)) (hex : ∀ x ∈ c.exceptionTable.toList, False) (Q : Int32 → MS → Prop) (QX : String → MS → Prop) (k111 : MS → Nat → Int32 → Int32 → Int32 → Int32 → Int32 → Prop) (kh111 : ∀ (S : MS) (a0 : Nat) (y1 : Int32) (y2 : Int32) (y3 : Int32) (y4 : Int32) (y5 : Int32) (cells slots : Nat) (H : Heap) (locs : List Loc) (ls : Array Slot), pI S 9 a0 → PW G A s H locs S0 S → lv_has ls 6 [(0, .ref a0), (1, .int y1), (2, .int y2), (3, .int y3), (4, .int y4), (5, .int y5)] → cells + 0 ≤ 0 → slots + 0 ≤ 0 → k111 S a0 y1 y2 y3 y4 y5 → W p l e rmX9_addUnit s m args below meth c H locs cells slots (vx_MQ below (QI G S0 A Q) (XX G S0 A QX) args s 0 0 A) (F0 m 111 ls [])) (S : MS) (a0 : Nat) (y1 : Int32) (y2 : Int32) (y3 : Int32) (y4 : Int32) (y5 : Int32) (p_a0 : pI S 9 a0) (P : PW G A s H locs S0 S) (hl : lv_has ls 6 [(0, .ref a0), (1, .int y1), (2, .int y2), (3, .int y3), (4, .int y4), (5, .int y5)]) (hcc : cells + 0 ≤ 0) (hss : slots + 0 ≤ 0) (hw : wX9_addUnit_111 Q QX k111 S a0 y1 y2 y3 y4 y5) : W p l e rmX9_addUnit s m args below meth c H locs cells slots (vx_MQ below (QI G S0 A Q) (XX G S0 A QX) args s 0 0 A) (F0 m 111 ls []) := by
  have hx := CF_x C
  have hb := CF_b C
  unfold wX9_addUnit_111 at hw
  refine lv_iload hx hb dX9_addUnit_111 (lv_at hl 5 rfl) ?_
  refine lv_bipush (v := 11) hx hb dX9_addUnit_113 (by decide) ?_
  refine lv_icmp_ge (tgt := 133) hx hb dX9_addUnit_115 (by decide) (fun hc => ?_) (fun hc => ?_)
  · have hw := hw.1 hc
    refine lv_aload_n hx hb dX9_addUnit_133 rfl (lv_at hl 0 rfl) ?_
    refine lv_iload hx hb dX9_addUnit_134 (lv_at hl 4 rfl) ?_
    refine lv_iconst (v := 0) hx hb dX9_addUnit_136 (by decide) ?_
    refine lv_iload_n hx hb dX9_addUnit_137 rfl (lv_at hl 1 rfl) ?_
    refine cl_v C P (run_V C P hl.1 (kd := 9) (met_X9_sets (CF_n C) G H.size _ _ S a0 y4 0 y1 p_a0 hw) p_a0 (by decide) rfl q_1465 q_1467 q_p36 q_10 q_1468 cd_X9_sets ⟨(Nat.le_of_ble_eq_true rfl), (Nat.le_of_ble_eq_true rfl)⟩ rfl rfl (As := [.int y4, .int 0, .int y1]) (rest := []) rfl rfl (Nat.le_of_ble_eq_true rfl) dX9_addUnit_138 ⟨by show cells + 0 ≤ 0; omega, by show slots + 0 ≤ 0; omega⟩) (kx_out C hex (fun _ _ _ h => h) (by omega) (by omega)) (fun S1 H locs P hE hw => ?_)
    have p_a0 : pI S1 9 a0 := pI_x hE p_a0
    refine lv_aload_n hx hb dX9_addUnit_141 rfl (lv_at hl 0 rfl) ?_
    refine lv_iload hx hb dX9_addUnit_142 (lv_at hl 4 rfl) ?_
    refine lv_iconst (v := 1) hx hb dX9_addUnit_144 (by decide) ?_
    refine lv_iload_n hx hb dX9_addUnit_145 rfl (lv_at hl 2 rfl) ?_
    refine cl_v C P (run_V C P hl.1 (kd := 9) (met_X9_sets (CF_n C) G H.size _ _ S1 a0 y4 1 y2 p_a0 hw) p_a0 (by decide) rfl q_1465 q_1467 q_p36 q_10 q_1468 cd_X9_sets ⟨(Nat.le_of_ble_eq_true rfl), (Nat.le_of_ble_eq_true rfl)⟩ rfl rfl (As := [.int y4, .int 1, .int y2]) (rest := []) rfl rfl (Nat.le_of_ble_eq_true rfl) dX9_addUnit_146 ⟨by show cells + 0 ≤ 0; omega, by show slots + 0 ≤ 0; omega⟩) (kx_out C hex (fun _ _ _ h => h) (by omega) (by omega)) (fun S2 H locs P hE hw => ?_)
    have p_a0 : pI S2 9 a0 := pI_x hE p_a0
    refine lv_aload_n hx hb dX9_addUnit_149 rfl (lv_at hl 0 rfl) ?_
    refine lv_iload hx hb dX9_addUnit_150 (lv_at hl 4 rfl) ?_
    refine lv_iconst (v := 2) hx hb dX9_addUnit_152 (by decide) ?_
    refine lv_iload_n hx hb dX9_addUnit_153 rfl (lv_at hl 3 rfl) ?_
    refine cl_v C P (run_V C P hl.1 (kd := 9) (met_X9_sets (CF_n C) G H.size _ _ S2 a0 y4 2 y3 p_a0 hw) p_a0 (by decide) rfl q_1465 q_1467 q_p36 q_10 q_1468 cd_X9_sets ⟨(Nat.le_of_ble_eq_true rfl), (Nat.le_of_ble_eq_true rfl)⟩ rfl rfl (As := [.int y4, .int 2, .int y3]) (rest := []) rfl rfl (Nat.le_of_ble_eq_true rfl) dX9_addUnit_154 ⟨by show cells + 0 ≤ 0; omega, by show slots + 0 ≤ 0; omega⟩) (kx_out C hex (fun _ _ _ h => h) (by omega) (by omega)) (fun S3 H locs P hE hw => ?_)
    have p_a0 : pI S3 9 a0 := pI_x hE p_a0
    refine lv_aload_n hx hb dX9_addUnit_157 rfl (lv_at hl 0 rfl) ?_
    refine lv_iload hx hb dX9_addUnit_158 (lv_at hl 4 rfl) ?_
    refine lv_iconst (v := 3) hx hb dX9_addUnit_160 (by decide) ?_
    refine lv_iload_n hx hb dX9_addUnit_161 rfl (lv_at hl 2 rfl) ?_
    refine lv_iconst (v := 0) hx hb dX9_addUnit_162 (by decide) ?_
    refine cl_i C P (run_S C P hl.1 (met_X9_number (CF_n C) G H.size _ _ S3 y2 0 hw) q_1469 q_1470 q_10 q_1471 cd_X9_number.2 ⟨(Nat.le_of_ble_eq_true rfl), (Nat.le_of_ble_eq_true rfl)⟩ rfl rfl (As := [.int y2, .int 0]) (rest := [.int 3, .int y4, .ref a0]) rfl rfl (Nat.le_of_ble_eq_true rfl) dX9_addUnit_163 ⟨by show cells + 0 ≤ 0; omega, by show slots + 0 ≤ 0; omega⟩) (kx_out C hex (fun _ _ _ h => h) (by omega) (by omega)) (fun r5 S4 H locs P hE hw => ?_)
    have p_a0 : pI S4 9 a0 := pI_x hE p_a0
    refine cl_v C P (run_V C P hl.1 (kd := 9) (met_X9_sets (CF_n C) G H.size _ _ S4 a0 y4 3 r5 p_a0 hw) p_a0 (by decide) rfl q_1465 q_1467 q_p36 q_10 q_1468 cd_X9_sets ⟨(Nat.le_of_ble_eq_true rfl), (Nat.le_of_ble_eq_true rfl)⟩ rfl rfl (As := [.int y4, .int 3, .int r5]) (rest := []) rfl rfl (Nat.le_of_ble_eq_true rfl) dX9_addUnit_166 ⟨by show cells + 0 ≤ 0; omega, by show slots + 0 ≤ 0; omega⟩) (kx_out C hex (fun _ _ _ h => h) (by omega) (by omega)) (fun S6 H locs P hE hw => ?_)
    have p_a0 : pI S6 9 a0 := pI_x hE p_a0
    refine lv_aload_n hx hb dX9_addUnit_169 rfl (lv_at hl 0 rfl) ?_
    refine lv_iload hx hb dX9_addUnit_170 (lv_at hl 4 rfl) ?_
    refine lv_iconst (v := 4) hx hb dX9_addUnit_172 (by decide) ?_
    refine lv_iload_n hx hb dX9_addUnit_173 rfl (lv_at hl 2 rfl) ?_
    refine lv_bipush (v := 7) hx hb dX9_addUnit_174 (by decide) ?_
    refine cl_i C P (run_S C P hl.1 (met_X9_number (CF_n C) G H.size _ _ S6 y2 7 hw) q_1469 q_1470 q_10 q_1471 cd_X9_number.2 ⟨(Nat.le_of_ble_eq_true rfl), (Nat.le_of_ble_eq_true rfl)⟩ rfl rfl (As := [.int y2, .int 7]) (rest := [.int 4, .int y4, .ref a0]) rfl rfl (Nat.le_of_ble_eq_true rfl) dX9_addUnit_176 ⟨by show cells + 0 ≤ 0; omega, by show slots + 0 ≤ 0; omega⟩) (kx_out C hex (fun _ _ _ h => h) (by omega) (by omega)) (fun r8 S7 H locs P hE hw => ?_)
    have p_a0 : pI S7 9 a0 := pI_x hE p_a0
    refine cl_v C P (run_V C P hl.1 (kd := 9) (met_X9_sets (CF_n C) G H.size _ _ S7 a0 y4 4 r8 p_a0 hw) p_a0 (by decide) rfl q_1465 q_1467 q_p36 q_10 q_1468 cd_X9_sets ⟨(Nat.le_of_ble_eq_true rfl), (Nat.le_of_ble_eq_true rfl)⟩ rfl rfl (As := [.int y4, .int 4, .int r8]) (rest := []) rfl rfl (Nat.le_of_ble_eq_true rfl) dX9_addUnit_179 ⟨by show cells + 0 ≤ 0; omega, by show slots + 0 ≤ 0; omega⟩) (kx_out C hex (fun _ _ _ h => h) (by omega) (by omega)) (fun S9 H locs P hE hw => ?_)
    have p_a0 : pI S9 9 a0 := pI_x hE p_a0
    refine lv_aload_n hx hb dX9_addUnit_182 rfl (lv_at hl 0 rfl) ?_
    refine lv_iload hx hb dX9_addUnit_183 (lv_at hl 4 rfl) ?_
    refine lv_iconst (v := 5) hx hb dX9_addUnit_185 (by decide) ?_
    refine lv_iload_n hx hb dX9_addUnit_186 rfl (lv_at hl 2 rfl) ?_
    refine lv_bipush (v := 8) hx hb dX9_addUnit_187 (by decide) ?_
    refine cl_i C P (run_S C P hl.1 (met_X9_number (CF_n C) G H.size _ _ S9 y2 8 hw) q_1469 q_1470 q_10 q_1471 cd_X9_number.2 ⟨(Nat.le_of_ble_eq_true rfl), (Nat.le_of_ble_eq_true rfl)⟩ rfl rfl (As := [.int y2, .int 8]) (rest := [.int 5, .int y4, .ref a0]) rfl rfl (Nat.le_of_ble_eq_true rfl) dX9_addUnit_189 ⟨by show cells + 0 ≤ 0; omega, by show slots + 0 ≤ 0; omega⟩) (kx_out C hex (fun _ _ _ h => h) (by omega) (by omega)) (fun r11 S10 H locs P hE hw => ?_)
    have p_a0 : pI S10 9 a0 := pI_x hE p_a0
    refine cl_v C P (run_V C P hl.1 (kd := 9) (met_X9_sets (CF_n C) G H.size _ _ S10 a0 y4 5 r11 p_a0 hw) p_a0 (by decide) rfl q_1465 q_1467 q_p36 q_10 q_1468 cd_X9_sets ⟨(Nat.le_of_ble_eq_true rfl), (Nat.le_of_ble_eq_true rfl)⟩ rfl rfl (As := [.int y4, .int 5, .int r11]) (rest := []) rfl rfl (Nat.le_of_ble_eq_true rfl) dX9_addUnit_192 ⟨by show cells + 0 ≤ 0; omega, by show slots + 0 ≤ 0; omega⟩) (kx_out C hex (fun _ _ _ h => h) (by omega) (by omega)) (fun S12 H locs P hE hw => ?_)
    have p_a0 : pI S12 9 a0 := pI_x hE p_a0
    refine lv_iload hx hb dX9_addUnit_195 (lv_at hl 4 rfl) ?_
    exact e_i C hr rfl P hw (by omega) (by omega) dX9_addUnit_197
  · have hw := hw.2 hc
    refine lv_aload_n hx hb dX9_addUnit_118 rfl (lv_at hl 0 rfl) ?_
    refine lv_iload hx hb dX9_addUnit_119 (lv_at hl 4 rfl) ?_
    refine lv_iload hx hb dX9_addUnit_121 (lv_at hl 5 rfl) ?_
    refine lv_iconst (v := 0) hx hb dX9_addUnit_123 (by decide) ?_
    refine cl_v C P (run_V C P hl.1 (kd := 9) (met_X9_sets (CF_n C) G H.size _ _ S a0 y4 y5 0 p_a0 hw) p_a0 (by decide) rfl q_1465 q_1467 q_p36 q_10 q_1468 cd_X9_sets ⟨(Nat.le_of_ble_eq_true rfl), (Nat.le_of_ble_eq_true rfl)⟩ rfl rfl (As := [.int y4, .int y5, .int 0]) (rest := []) rfl rfl (Nat.le_of_ble_eq_true rfl) dX9_addUnit_124 ⟨by show cells + 0 ≤ 0; omega, by show slots + 0 ≤ 0; omega⟩) (kx_out C hex (fun _ _ _ h => h) (by omega) (by omega)) (fun S13 H locs P hE hw => ?_)
    have p_a0 : pI S13 9 a0 := pI_x hE p_a0
    refine lv_iinc (v := (y5 + 1)) (lv' := [(5, .int (y5 + 1)), (0, .ref a0), (1, .int y1), (2, .int y2), (3, .int y3), (4, .int y4)]) hx hb dX9_addUnit_127 hl (k := 5) rfl (by rfl) (by decide) rfl (fun ls hl => ?_)
    refine lv_goto (tgt := 111) hx hb dX9_addUnit_130 (by decide) ?_
    exact kh111 S13 a0 y1 y2 y3 y4 (y5 + 1) _ _ _ _ _ p_a0 P (lv_sub hl [1, 2, 3, 4, 5, 0] rfl) (by omega) (by omega) hw
def lX9_addUnit_111 (Q : Int32 → MS → Prop) (QX : String → MS → Prop) : Nat → MS → Nat → Int32 → Int32 → Int32 → Int32 → Int32 → Prop
  | 0 => fun _ _ _ _ _ _ _ => False
  | n + 1 => fun S a0 y1 y2 y3 y4 y5 => wX9_addUnit_111 Q QX (lX9_addUnit_111 Q QX n) S a0 y1 y2 y3 y4 y5
theorem tlX9_addUnit_111 {p : Program} {l : Launch} {e : Env} {s : State} {m : MethodId} {args : Array Value} {below : List Frame} {meth : Method} {c : Code} {G : GP} {A : Nat → Prop} {S0 : MS} (C : CF p l s m args meth c "SkirmishGridModel" cX9_addUnit 6 G A) (hr : meth.sig.returnType = (some .int)) (hex : ∀ x ∈ c.exceptionTable.toList, False) (Q : Int32 → MS → Prop) (QX : String → MS → Prop) : ∀ (n : Nat), ∀ (S : MS) (a0 : Nat) (y1 : Int32) (y2 : Int32) (y3 : Int32) (y4 : Int32) (y5 : Int32) (cells slots : Nat) (H : Heap) (locs : List Loc) (ls : Array Slot), pI S 9 a0 → PW G A s H locs S0 S → lv_has ls 6 [(0, .ref a0), (1, .int y1), (2, .int y2), (3, .int y3), (4, .int y4), (5, .int y5)] → cells + 0 ≤ 0 → slots + 0 ≤ 0 → lX9_addUnit_111 Q QX n S a0 y1 y2 y3 y4 y5 → W p l e rmX9_addUnit s m args below meth c H locs cells slots (vx_MQ below (QI G S0 A Q) (XX G S0 A QX) args s 0 0 A) (F0 m 111 ls []) := by
  intro n
  induction n with
  | zero => intro S a0 y1 y2 y3 y4 y5 cells slots H locs ls p_a0 P hl hcc hss hw; exact hw.elim
  | succ n ih => intro S a0 y1 y2 y3 y4 y5 cells slots H locs ls p_a0 P hl hcc hss hw; exact tX9_addUnit_111 C hr hex Q QX (lX9_addUnit_111 Q QX n) ih S a0 y1 y2 y3 y4 y5 p_a0 P hl hcc hss hw
def wX9_addUnit_0 (Q : Int32 → MS → Prop) (QX : String → MS → Prop) (S : MS) (a0 : Nat) (x1 : Int32) (x2 : Int32) (x3 : Int32) : Prop := (∀ S1, S1 = (sI S a0 0 0) → wp_X9_isIn (fun r3 S2 => ((r3 = 0 → wX9_addUnit_31 Q QX S2 a0) ∧ (¬ r3 = 0 → wp_X9_isIn (fun r5 S4 => ((r5 = 0 → wX9_addUnit_31 Q QX S4 a0) ∧ (¬ r5 = 0 → wp_X9_isCell (fun r7 S6 => ((¬ r7 = 0 → (∃ a8, mR S6 a0 1 = some a8 ∧ (vp_in (2 + x3) (mN S6 a8) ∧ (((mI S6 a8 ((2 + x3) : Int32).toNatClampNeg) = 1 → wX9_addUnit_57 Q QX S6 a0) ∧ (¬ (mI S6 a8 ((2 + x3) : Int32).toNatClampNeg) = 1 → wp_X9_unitOn (fun r10 S9 => ((r10 < 0 → wp_X9_hasBegun (fun r12 S11 => ((¬ r12 = 0 → wX9_addUnit_82 Q QX S11 a0) ∧ (r12 = 0 → (∃ a13, mR S11 a0 1 = some a13 ∧ (vp_in 66 (mN S11 a13) ∧ ((¬ (mI S11 a13 (66 : Int32).toNatClampNeg) = 8 → (∃ a14, mR S11 a0 1 = some a14 ∧ (vp_in 66 (mN S11 a14) ∧ (∃ a15, mR S11 a0 1 = some a15 ∧ (vp_in 66 (mN S11 a15) ∧ (vp_in 66 (mN S11 a15) ∧ (∀ S16, S16 = (sI S11 a15 (66 : Int32).toNatClampNeg ((mI S11 a15 (66 : Int32).toNatClampNeg) + 1)) → (∃ n, lX9_addUnit_111 Q QX n S16 a0 x1 x2 x3 (mI S11 a14 (66 : Int32).toNatClampNeg) 0)))))))) ∧ ((mI S11 a13 (66 : Int32).toNatClampNeg) = 8 → wX9_addUnit_82 Q QX S11 a0))))))) QX S9 a0) ∧ (¬ r10 < 0 → wX9_addUnit_57 Q QX S9 a0))) QX S6 a0 x3))))) ∧ (r7 = 0 → wX9_addUnit_31 Q QX S6 a0))) QX S4 a0 x3))) QX S2 x2 0 3))) QX S1 x1 0 1)
set_option maxHeartbeats 4000000 in
set_option maxRecDepth 100000 in
theorem tX9_addUnit_0 {p : Program} {l : Launch} {e : Env} {s : State} {m : MethodId} {args : Array Value} {below : List Frame} {meth : Method} {c : Code} {H : Heap} {locs : List Loc} {cells slots : Nat} {G : GP} {A : Nat → Prop} {S0 : MS} {ls : Array Slot} (C : CF p l s m args meth c "SkirmishGridModel" cX9_addUnit 6 G A) (hr : meth.sig.returnType = (some .int)) (hex : ∀ x ∈ c.exceptionTable.toList, False) (Q : Int32 → MS → Prop) (QX : String → MS → Prop) (S : MS) (a0 : Nat) (x1 : Int32) (x2 : Int32) (x3 : Int32) (p_a0 : pI S 9 a0) (P : PW G A s H locs S0 S) (hl : lv_has ls 6 [(0, .ref a0), (1, .int x1), (2, .int x2), (3, .int x3)]) (hcc : cells + 0 ≤ 0) (hss : slots + 0 ≤ 0) (hw : wX9_addUnit_0 Q QX S a0 x1 x2 x3) : W p l e rmX9_addUnit s m args below meth c H locs cells slots (vx_MQ below (QI G S0 A Q) (XX G S0 A QX) args s 0 0 A) (F0 m 0 ls []) := by
  have hx := CF_x C
  have hb := CF_b C
  unfold wX9_addUnit_0 at hw
  refine lv_aload_n hx hb dX9_addUnit_0 rfl (lv_at hl 0 rfl) ?_
  refine lv_iconst (v := 0) hx hb dX9_addUnit_1 (by decide) ?_
  refine pf_9_0 C P p_a0 q_1305 dX9_addUnit_2 (fun H locs P => ?_)
  obtain ⟨S1, hS⟩ : ∃ z, z = (sI S a0 0 0) := ⟨_, rfl⟩
  have P : PW G A s H locs S0 S1 := by rw [hS]; exact P
  have p_a0 : pI S1 9 a0 := by rw [hS]; exact pI_x ext_sI p_a0
  have hw := hw S1 hS
  refine lv_iload_n hx hb dX9_addUnit_5 rfl (lv_at hl 1 rfl) ?_
  refine lv_iconst (v := 0) hx hb dX9_addUnit_6 (by decide) ?_
  refine lv_iconst (v := 1) hx hb dX9_addUnit_7 (by decide) ?_
  refine cl_i C P (run_S C P hl.1 (met_X9_isIn (CF_n C) G H.size _ _ S1 x1 0 1 hw) q_1383 q_1384 q_10 q_1385 cd_X9_isIn.2 ⟨(Nat.le_of_ble_eq_true rfl), (Nat.le_of_ble_eq_true rfl)⟩ rfl rfl (As := [.int x1, .int 0, .int 1]) (rest := []) rfl rfl (Nat.le_of_ble_eq_true rfl) dX9_addUnit_8 ⟨by show cells + 0 ≤ 0; omega, by show slots + 0 ≤ 0; omega⟩) (kx_out C hex (fun _ _ _ h => h) (by omega) (by omega)) (fun r3 S2 H locs P hE hw => ?_)
  have p_a0 : pI S2 9 a0 := pI_x hE p_a0
  refine lv_if_eq (tgt := 31) hx hb dX9_addUnit_11 (by decide) (fun hc => ?_) (fun hc => ?_)
  · have hw := hw.1 hc
    exact tX9_addUnit_31 C hr hex Q QX S2 a0 p_a0 P (lv_sub hl [0] rfl) (by omega) (by omega) hw
  · have hw := hw.2 hc
    refine lv_iload_n hx hb dX9_addUnit_14 rfl (lv_at hl 2 rfl) ?_
    refine lv_iconst (v := 0) hx hb dX9_addUnit_15 (by decide) ?_
    refine lv_iconst (v := 3) hx hb dX9_addUnit_16 (by decide) ?_
    refine cl_i C P (run_S C P hl.1 (met_X9_isIn (CF_n C) G H.size _ _ S2 x2 0 3 hw) q_1383 q_1384 q_10 q_1385 cd_X9_isIn.2 ⟨(Nat.le_of_ble_eq_true rfl), (Nat.le_of_ble_eq_true rfl)⟩ rfl rfl (As := [.int x2, .int 0, .int 3]) (rest := []) rfl rfl (Nat.le_of_ble_eq_true rfl) dX9_addUnit_17 ⟨by show cells + 0 ≤ 0; omega, by show slots + 0 ≤ 0; omega⟩) (kx_out C hex (fun _ _ _ h => h) (by omega) (by omega)) (fun r5 S4 H locs P hE hw => ?_)
    have p_a0 : pI S4 9 a0 := pI_x hE p_a0
    refine lv_if_eq (tgt := 31) hx hb dX9_addUnit_20 (by decide) (fun hc => ?_) (fun hc => ?_)
    · have hw := hw.1 hc
      exact tX9_addUnit_31 C hr hex Q QX S4 a0 p_a0 P (lv_sub hl [0] rfl) (by omega) (by omega) hw
    · have hw := hw.2 hc
      refine lv_aload_n hx hb dX9_addUnit_23 rfl (lv_at hl 0 rfl) ?_
      refine lv_iload_n hx hb dX9_addUnit_24 rfl (lv_at hl 3 rfl) ?_
      refine cl_i C P (run_V C P hl.1 (kd := 9) (met_X9_isCell (CF_n C) G H.size _ _ S4 a0 x3 p_a0 hw) p_a0 (by decide) rfl q_1417 q_1419 q_p26 q_10 q_1420 cd_X9_isCell ⟨(Nat.le_of_ble_eq_true rfl), (Nat.le_of_ble_eq_true rfl)⟩ rfl rfl (As := [.int x3]) (rest := []) rfl rfl (Nat.le_of_ble_eq_true rfl) dX9_addUnit_25 ⟨by show cells + 0 ≤ 0; omega, by show slots + 0 ≤ 0; omega⟩) (kx_out C hex (fun _ _ _ h => h) (by omega) (by omega)) (fun r7 S6 H locs P hE hw => ?_)
      have p_a0 : pI S6 9 a0 := pI_x hE p_a0
      refine lv_if_ne (tgt := 37) hx hb dX9_addUnit_28 (by decide) (fun hc => ?_) (fun hc => ?_)
      · have hw := hw.1 hc
        refine lv_aload_n hx hb dX9_addUnit_37 rfl (lv_at hl 0 rfl) ?_
        obtain ⟨a8, e1, hw⟩ := hw
        have p_a8 : pI S6 12 a8 := wf_r P.2.2.2.1 p_a0 e1
        refine gf_9_1 C P p_a0 e1 q_1306 dX9_addUnit_38 ?_
        refine lv_iconst (v := 2) hx hb dX9_addUnit_41 (by decide) ?_
        refine lv_iload_n hx hb dX9_addUnit_42 rfl (lv_at hl 3 rfl) ?_
        refine lv_iadd hx hb dX9_addUnit_43 ?_
        obtain ⟨h1, hw⟩ := hw
        refine ra_i C P p_a8 h1 dX9_addUnit_44 ?_
        refine lv_iconst (v := 1) hx hb dX9_addUnit_45 (by decide) ?_
        refine lv_icmp_eq (tgt := 57) hx hb dX9_addUnit_46 (by decide) (fun hc => ?_) (fun hc => ?_)
        · have hw := hw.1 hc
          exact tX9_addUnit_57 C hr hex Q QX S6 a0 p_a0 P (lv_sub hl [0] rfl) (by omega) (by omega) hw
        · have hw := hw.2 hc
          refine lv_aload_n hx hb dX9_addUnit_49 rfl (lv_at hl 0 rfl) ?_
          refine lv_iload_n hx hb dX9_addUnit_50 rfl (lv_at hl 3 rfl) ?_
          refine cl_i C P (run_V C P hl.1 (kd := 9) (met_X9_unitOn (CF_n C) G H.size _ _ S6 a0 x3 p_a0 hw) p_a0 (by decide) rfl q_1449 q_1451 q_p32 q_10 q_1452 cd_X9_unitOn ⟨(Nat.le_of_ble_eq_true rfl), (Nat.le_of_ble_eq_true rfl)⟩ rfl rfl (As := [.int x3]) (rest := []) rfl rfl (Nat.le_of_ble_eq_true rfl) dX9_addUnit_51 ⟨by show cells + 0 ≤ 0; omega, by show slots + 0 ≤ 0; omega⟩) (kx_out C hex (fun _ _ _ h => h) (by omega) (by omega)) (fun r10 S9 H locs P hE hw => ?_)
          have p_a0 : pI S9 9 a0 := pI_x hE p_a0
          refine lv_if_lt (tgt := 63) hx hb dX9_addUnit_54 (by decide) (fun hc => ?_) (fun hc => ?_)
          · have hw := hw.1 hc
            refine lv_aload_n hx hb dX9_addUnit_63 rfl (lv_at hl 0 rfl) ?_
            refine cl_i C P (run_V C P hl.1 (kd := 9) (met_X9_hasBegun (CF_n C) G H.size _ _ S9 a0 p_a0 hw) p_a0 (by decide) rfl q_1461 q_1463 q_p35 q_10 q_1464 cd_X9_hasBegun ⟨(Nat.le_of_ble_eq_true rfl), (Nat.le_of_ble_eq_true rfl)⟩ rfl rfl (As := []) (rest := []) rfl rfl (Nat.le_of_ble_eq_true rfl) dX9_addUnit_64 ⟨by show cells + 0 ≤ 0; omega, by show slots + 0 ≤ 0; omega⟩) (kx_out C hex (fun _ _ _ h => h) (by omega) (by omega)) (fun r12 S11 H locs P hE hw => ?_)
            have p_a0 : pI S11 9 a0 := pI_x hE p_a0
            refine lv_if_ne (tgt := 82) hx hb dX9_addUnit_67 (by decide) (fun hc => ?_) (fun hc => ?_)
            · have hw := hw.1 hc
              exact tX9_addUnit_82 C hr hex Q QX S11 a0 p_a0 P (lv_sub hl [0] rfl) (by omega) (by omega) hw
            · have hw := hw.2 hc
              refine lv_aload_n hx hb dX9_addUnit_70 rfl (lv_at hl 0 rfl) ?_
              obtain ⟨a13, e1, hw⟩ := hw
              have p_a13 : pI S11 12 a13 := wf_r P.2.2.2.1 p_a0 e1
              refine gf_9_1 C P p_a0 e1 q_1306 dX9_addUnit_71 ?_
              refine lv_bipush (v := 66) hx hb dX9_addUnit_74 (by decide) ?_
              obtain ⟨h1, hw⟩ := hw
              refine ra_i C P p_a13 h1 dX9_addUnit_76 ?_
              refine lv_bipush (v := 8) hx hb dX9_addUnit_77 (by decide) ?_
              refine lv_icmp_ne (tgt := 88) hx hb dX9_addUnit_79 (by decide) (fun hc => ?_) (fun hc => ?_)
              · have hw := hw.1 hc
                refine lv_aload_n hx hb dX9_addUnit_88 rfl (lv_at hl 0 rfl) ?_
                obtain ⟨a14, e1, hw⟩ := hw
                have p_a14 : pI S11 12 a14 := wf_r P.2.2.2.1 p_a0 e1
                refine gf_9_1 C P p_a0 e1 q_1306 dX9_addUnit_89 ?_
                refine lv_bipush (v := 66) hx hb dX9_addUnit_92 (by decide) ?_
                obtain ⟨h1, hw⟩ := hw
                refine ra_i C P p_a14 h1 dX9_addUnit_94 ?_
                refine lv_istore (lv' := [(4, .int (mI S11 a14 (66 : Int32).toNatClampNeg)), (0, .ref a0), (1, .int x1), (2, .int x2), (3, .int x3)]) hx hb dX9_addUnit_95 hl (by decide) rfl (fun ls hl => ?_)
                refine lv_aload_n hx hb dX9_addUnit_97 rfl (lv_at hl 1 rfl) ?_
                obtain ⟨a15, e1, hw⟩ := hw
                have p_a15 : pI S11 12 a15 := wf_r P.2.2.2.1 p_a0 e1
                refine gf_9_1 C P p_a0 e1 q_1306 dX9_addUnit_98 ?_
                refine lv_bipush (v := 66) hx hb dX9_addUnit_101 (by decide) ?_
                refine lv_dup2_11 hx hb dX9_addUnit_103 rfl rfl ?_
                obtain ⟨h1, hw⟩ := hw
                refine ra_i C P p_a15 h1 dX9_addUnit_104 ?_
                refine lv_iconst (v := 1) hx hb dX9_addUnit_105 (by decide) ?_
                refine lv_iadd hx hb dX9_addUnit_106 ?_
                obtain ⟨h1, hw⟩ := hw
                refine rs_i C P p_a15 h1 dX9_addUnit_107 (fun H locs P => ?_)
                obtain ⟨S16, hS⟩ : ∃ z, z = (sI S11 a15 (66 : Int32).toNatClampNeg ((mI S11 a15 (66 : Int32).toNatClampNeg) + 1)) := ⟨_, rfl⟩
                have P : PW G A s H locs S0 S16 := by rw [hS]; exact P
                have p_a0 : pI S16 9 a0 := by rw [hS]; exact pI_x ext_sI p_a0
                have p_a15 : pI S16 12 a15 := by rw [hS]; exact pI_x ext_sI p_a15
                have hw := hw S16 hS
                refine lv_iconst (v := 0) hx hb dX9_addUnit_108 (by decide) ?_
                refine lv_istore (lv' := [(5, .int 0), (4, .int (mI S11 a14 (66 : Int32).toNatClampNeg)), (0, .ref a0), (1, .int x1), (2, .int x2), (3, .int x3)]) hx hb dX9_addUnit_109 hl (by decide) rfl (fun ls hl => ?_)
                obtain ⟨n, hw⟩ := hw
                exact tlX9_addUnit_111 C hr hex Q QX n S16 a0 x1 x2 x3 (mI S11 a14 (66 : Int32).toNatClampNeg) 0 _ _ _ _ _ p_a0 P (lv_sub hl [2, 3, 4, 5, 1, 0] rfl) (by omega) (by omega) hw
              · have hw := hw.2 hc
                exact tX9_addUnit_82 C hr hex Q QX S11 a0 p_a0 P (lv_sub hl [0] rfl) (by omega) (by omega) hw
          · have hw := hw.2 hc
            exact tX9_addUnit_57 C hr hex Q QX S9 a0 p_a0 P (lv_sub hl [0] rfl) (by omega) (by omega) hw
      · have hw := hw.2 hc
        exact tX9_addUnit_31 C hr hex Q QX S6 a0 p_a0 P (lv_sub hl [0] rfl) (by omega) (by omega) hw
def wp_X9_addUnit (Q : Int32 → MS → Prop) (QX : String → MS → Prop) (S : MS) (a0 : Nat) (x1 : Int32) (x2 : Int32) (x3 : Int32) : Prop := wX9_addUnit_0 Q QX S a0 x1 x2 x3
set_option maxHeartbeats 4000000 in
set_option maxRecDepth 100000 in
theorem met_X9_addUnit {l : Launch} (hst : l.stackTraces = false) (G : GP) (sz : Nat) (Q : Int32 → MS → Prop) (QX : String → MS → Prop) (S : MS) (a0 : Nat) (x1 : Int32) (x2 : Int32) (x3 : Int32) (p_a0 : pI S 9 a0) (hw : wp_X9_addUnit Q QX S a0 x1 x2 x3) : vx_Met l yX9_addUnit (.code yX9_addUnit cX9_addUnit 6 (some .int) :: GW) rmX9_addUnit (va_Pc [.ref a0, .int x1, .int x2, .int x3] (PR G S sz)) (QI G S (FA G S sz) Q) (XX G S (FA G S sz) QX) 0 0 (FA G S sz) := by
  refine st_m (by decide +kernel) hst (fun p e s m below meth c C hr hnm hex P => ?_)
  refine en_m (Nat.le_of_ble_eq_true rfl) (lv := [(0, .ref a0), (1, .int x1), (2, .int x2), (3, .int x3)]) rfl (fun ls hl => ?_)
  have C : CF p l s m _ meth c "SkirmishGridModel" cX9_addUnit 6 G (FA G S sz) := C
  exact tX9_addUnit_0 C hr hex Q QX S a0 x1 x2 x3 p_a0 P hl (by omega) (by omega) hw
theorem cd_X9_addUnit : yX9_addUnit.cls = RX9 ∧ yX9_addUnit.cls ≠ "java/lang/invoke/MethodHandle" ∧ yX9_addUnit.cls ≠ "java/lang/invoke/VarHandle" ∧ (parseMethodDescriptor yX9_addUnit.desc).map (fun d => d.parameters.length) = some 3 := by decide +kernel
abbrev rmX9_unitCount : Room := { frames := 0, cells := 0, slots := 0, locals := 0 }
def wX9_unitCount_0 (Q : Int32 → MS → Prop) (QX : String → MS → Prop) (S : MS) (a0 : Nat) : Prop := (∀ S1, S1 = (sI S a0 0 0) → (∃ a2, mR S1 a0 1 = some a2 ∧ (vp_in 66 (mN S1 a2) ∧ Q (mI S1 a2 (66 : Int32).toNatClampNeg) S1)))
set_option maxHeartbeats 4000000 in
set_option maxRecDepth 100000 in
theorem tX9_unitCount_0 {p : Program} {l : Launch} {e : Env} {s : State} {m : MethodId} {args : Array Value} {below : List Frame} {meth : Method} {c : Code} {H : Heap} {locs : List Loc} {cells slots : Nat} {G : GP} {A : Nat → Prop} {S0 : MS} {ls : Array Slot} (C : CF p l s m args meth c "SkirmishGridModel" cX9_unitCount 1 G A) (hr : meth.sig.returnType = (some .int)) (hex : ∀ x ∈ c.exceptionTable.toList, False) (Q : Int32 → MS → Prop) (QX : String → MS → Prop) (S : MS) (a0 : Nat) (p_a0 : pI S 9 a0) (P : PW G A s H locs S0 S) (hl : lv_has ls 1 [(0, .ref a0)]) (hcc : cells + 0 ≤ 0) (hss : slots + 0 ≤ 0) (hw : wX9_unitCount_0 Q QX S a0) : W p l e rmX9_unitCount s m args below meth c H locs cells slots (vx_MQ below (QI G S0 A Q) (XX G S0 A QX) args s 0 0 A) (F0 m 0 ls []) := by
  have hx := CF_x C
  have hb := CF_b C
  unfold wX9_unitCount_0 at hw
  refine lv_aload_n hx hb dX9_unitCount_0 rfl (lv_at hl 0 rfl) ?_
  refine lv_iconst (v := 0) hx hb dX9_unitCount_1 (by decide) ?_
  refine pf_9_0 C P p_a0 q_1305 dX9_unitCount_2 (fun H locs P => ?_)
  obtain ⟨S1, hS⟩ : ∃ z, z = (sI S a0 0 0) := ⟨_, rfl⟩
  have P : PW G A s H locs S0 S1 := by rw [hS]; exact P
  have p_a0 : pI S1 9 a0 := by rw [hS]; exact pI_x ext_sI p_a0
  have hw := hw S1 hS
  refine lv_aload_n hx hb dX9_unitCount_5 rfl (lv_at hl 0 rfl) ?_
  obtain ⟨a2, e1, hw⟩ := hw
  have p_a2 : pI S1 12 a2 := wf_r P.2.2.2.1 p_a0 e1
  refine gf_9_1 C P p_a0 e1 q_1306 dX9_unitCount_6 ?_
  refine lv_bipush (v := 66) hx hb dX9_unitCount_9 (by decide) ?_
  obtain ⟨h1, hw⟩ := hw
  refine ra_i C P p_a2 h1 dX9_unitCount_11 ?_
  exact e_i C hr rfl P hw (by omega) (by omega) dX9_unitCount_12
def wp_X9_unitCount (Q : Int32 → MS → Prop) (QX : String → MS → Prop) (S : MS) (a0 : Nat) : Prop := wX9_unitCount_0 Q QX S a0
set_option maxHeartbeats 4000000 in
set_option maxRecDepth 100000 in
theorem met_X9_unitCount {l : Launch} (hst : l.stackTraces = false) (G : GP) (sz : Nat) (Q : Int32 → MS → Prop) (QX : String → MS → Prop) (S : MS) (a0 : Nat) (p_a0 : pI S 9 a0) (hw : wp_X9_unitCount Q QX S a0) : vx_Met l yX9_unitCount (.code yX9_unitCount cX9_unitCount 1 (some .int) :: GW) rmX9_unitCount (va_Pc [.ref a0] (PR G S sz)) (QI G S (FA G S sz) Q) (XX G S (FA G S sz) QX) 0 0 (FA G S sz) := by
  refine st_m (by decide +kernel) hst (fun p e s m below meth c C hr hnm hex P => ?_)
  refine en_m (Nat.le_of_ble_eq_true rfl) (lv := [(0, .ref a0)]) rfl (fun ls hl => ?_)
  have C : CF p l s m _ meth c "SkirmishGridModel" cX9_unitCount 1 G (FA G S sz) := C
  exact tX9_unitCount_0 C hr hex Q QX S a0 p_a0 P hl (by omega) (by omega) hw
theorem cd_X9_unitCount : yX9_unitCount.cls = RX9 ∧ yX9_unitCount.cls ≠ "java/lang/invoke/MethodHandle" ∧ yX9_unitCount.cls ≠ "java/lang/invoke/VarHandle" ∧ (parseMethodDescriptor yX9_unitCount.desc).map (fun d => d.parameters.length) = some 0 := by decide +kernel
abbrev rmX9_unit : Room := { frames := 2, cells := 0, slots := 0, locals := 43 }
def wX9_unit_0 (Q : Int32 → MS → Prop) (QX : String → MS → Prop) (S : MS) (a0 : Nat) (x1 : Int32) (x2 : Int32) : Prop := (∀ S1, S1 = (sI S a0 0 0) → wp_X9_isUnit (fun r3 S2 => ((¬ r3 = 0 → wp_X9_isIn (fun r5 S4 => ((¬ r5 = 0 → ((6 ≤ x2 → ((¬ x2 = 6 → wp_X9_of (fun r7 S6 => Q r7 S6) QX S4 a0 x1 (x2 - 1)) ∧ (x2 = 6 → (∃ a8, mR S4 a0 1 = some a8 ∧ (vp_in 166 (mN S4 a8) ∧ ((¬ (mI S4 a8 (166 : Int32).toNatClampNeg) = x1 → Q 0 S4) ∧ ((mI S4 a8 (166 : Int32).toNatClampNeg) = x1 → (∃ a9, mR S4 a0 1 = some a9 ∧ (vp_in 167 (mN S4 a9) ∧ Q (mI S4 a9 (167 : Int32).toNatClampNeg) S4))))))))) ∧ (¬ 6 ≤ x2 → wp_X9_of (fun r11 S10 => Q r11 S10) QX S4 a0 x1 x2))) ∧ (r5 = 0 → wp_X9_no (fun r13 S12 => Q r13 S12) QX S4 a0 2))) QX S2 x2 0 11) ∧ (r3 = 0 → wp_X9_no (fun r15 S14 => Q r15 S14) QX S2 a0 1))) QX S1 a0 x1)
set_option maxHeartbeats 4000000 in
set_option maxRecDepth 100000 in
theorem tX9_unit_0 {p : Program} {l : Launch} {e : Env} {s : State} {m : MethodId} {args : Array Value} {below : List Frame} {meth : Method} {c : Code} {H : Heap} {locs : List Loc} {cells slots : Nat} {G : GP} {A : Nat → Prop} {S0 : MS} {ls : Array Slot} (C : CF p l s m args meth c "SkirmishGridModel" cX9_unit 3 G A) (hr : meth.sig.returnType = (some .int)) (hex : ∀ x ∈ c.exceptionTable.toList, False) (Q : Int32 → MS → Prop) (QX : String → MS → Prop) (S : MS) (a0 : Nat) (x1 : Int32) (x2 : Int32) (p_a0 : pI S 9 a0) (P : PW G A s H locs S0 S) (hl : lv_has ls 3 [(0, .ref a0), (1, .int x1), (2, .int x2)]) (hcc : cells + 0 ≤ 0) (hss : slots + 0 ≤ 0) (hw : wX9_unit_0 Q QX S a0 x1 x2) : W p l e rmX9_unit s m args below meth c H locs cells slots (vx_MQ below (QI G S0 A Q) (XX G S0 A QX) args s 0 0 A) (F0 m 0 ls []) := by
  have hx := CF_x C
  have hb := CF_b C
  unfold wX9_unit_0 at hw
  refine lv_aload_n hx hb dX9_unit_0 rfl (lv_at hl 0 rfl) ?_
  refine lv_iconst (v := 0) hx hb dX9_unit_1 (by decide) ?_
  refine pf_9_0 C P p_a0 q_1305 dX9_unit_2 (fun H locs P => ?_)
  obtain ⟨S1, hS⟩ : ∃ z, z = (sI S a0 0 0) := ⟨_, rfl⟩
  have P : PW G A s H locs S0 S1 := by rw [hS]; exact P
  have p_a0 : pI S1 9 a0 := by rw [hS]; exact pI_x ext_sI p_a0
  have hw := hw S1 hS
  refine lv_aload_n hx hb dX9_unit_5 rfl (lv_at hl 0 rfl) ?_
  refine lv_iload_n hx hb dX9_unit_6 rfl (lv_at hl 1 rfl) ?_
  refine cl_i C P (run_V C P hl.1 (kd := 9) (met_X9_isUnit (CF_n C) G H.size _ _ S1 a0 x1 p_a0 hw) p_a0 (by decide) rfl q_1480 q_1482 q_p37 q_10 q_1483 cd_X9_isUnit ⟨(Nat.le_of_ble_eq_true rfl), (Nat.le_of_ble_eq_true rfl)⟩ rfl rfl (As := [.int x1]) (rest := []) rfl rfl (Nat.le_of_ble_eq_true rfl) dX9_unit_7 ⟨by show cells + 0 ≤ 0; omega, by show slots + 0 ≤ 0; omega⟩) (kx_out C hex (fun _ _ _ h => h) (by omega) (by omega)) (fun r3 S2 H locs P hE hw => ?_)
  have p_a0 : pI S2 9 a0 := pI_x hE p_a0
  refine lv_if_ne (tgt := 19) hx hb dX9_unit_10 (by decide) (fun hc => ?_) (fun hc => ?_)
  · have hw := hw.1 hc
    refine lv_iload_n hx hb dX9_unit_19 rfl (lv_at hl 2 rfl) ?_
    refine lv_iconst (v := 0) hx hb dX9_unit_20 (by decide) ?_
    refine lv_bipush (v := 11) hx hb dX9_unit_21 (by decide) ?_
    refine cl_i C P (run_S C P hl.1 (met_X9_isIn (CF_n C) G H.size _ _ S2 x2 0 11 hw) q_1383 q_1384 q_10 q_1385 cd_X9_isIn.2 ⟨(Nat.le_of_ble_eq_true rfl), (Nat.le_of_ble_eq_true rfl)⟩ rfl rfl (As := [.int x2, .int 0, .int 11]) (rest := []) rfl rfl (Nat.le_of_ble_eq_true rfl) dX9_unit_23 ⟨by show cells + 0 ≤ 0; omega, by show slots + 0 ≤ 0; omega⟩) (kx_out C hex (fun _ _ _ h => h) (by omega) (by omega)) (fun r5 S4 H locs P hE hw => ?_)
    have p_a0 : pI S4 9 a0 := pI_x hE p_a0
    refine lv_if_ne (tgt := 35) hx hb dX9_unit_26 (by decide) (fun hc => ?_) (fun hc => ?_)
    · have hw := hw.1 hc
      refine lv_iload_n hx hb dX9_unit_35 rfl (lv_at hl 2 rfl) ?_
      refine lv_bipush (v := 6) hx hb dX9_unit_36 (by decide) ?_
      refine lv_icmp_ge (tgt := 50) hx hb dX9_unit_38 (by decide) (fun hc => ?_) (fun hc => ?_)
      · have hw := hw.1 hc
        refine lv_iload_n hx hb dX9_unit_50 rfl (lv_at hl 2 rfl) ?_
        refine lv_bipush (v := 6) hx hb dX9_unit_51 (by decide) ?_
        refine lv_icmp_ne (tgt := 83) hx hb dX9_unit_53 (by decide) (fun hc => ?_) (fun hc => ?_)
        · have hw := hw.1 hc
          refine lv_aload_n hx hb dX9_unit_83 rfl (lv_at hl 0 rfl) ?_
          refine lv_iload_n hx hb dX9_unit_84 rfl (lv_at hl 1 rfl) ?_
          refine lv_iload_n hx hb dX9_unit_85 rfl (lv_at hl 2 rfl) ?_
          refine lv_iconst (v := 1) hx hb dX9_unit_86 (by decide) ?_
          refine lv_isub hx hb dX9_unit_87 ?_
          refine cl_i C P (run_V C P hl.1 (kd := 9) (met_X9_of (CF_n C) G H.size _ _ S4 a0 x1 (x2 - 1) p_a0 hw) p_a0 (by decide) rfl q_1457 q_1459 q_p34 q_10 q_1460 cd_X9_of ⟨(Nat.le_of_ble_eq_true rfl), (Nat.le_of_ble_eq_true rfl)⟩ rfl rfl (As := [.int x1, .int (x2 - 1)]) (rest := []) rfl rfl (Nat.le_of_ble_eq_true rfl) dX9_unit_88 ⟨by show cells + 0 ≤ 0; omega, by show slots + 0 ≤ 0; omega⟩) (kx_out C hex (fun _ _ _ h => h) (by omega) (by omega)) (fun r7 S6 H locs P hE hw => ?_)
          have p_a0 : pI S6 9 a0 := pI_x hE p_a0
          exact e_i C hr rfl P hw (by omega) (by omega) dX9_unit_91
        · have hw := hw.2 hc
          refine lv_aload_n hx hb dX9_unit_56 rfl (lv_at hl 0 rfl) ?_
          obtain ⟨a8, e1, hw⟩ := hw
          have p_a8 : pI S4 12 a8 := wf_r P.2.2.2.1 p_a0 e1
          refine gf_9_1 C P p_a0 e1 q_1306 dX9_unit_57 ?_
          refine lv_sipush (v := 166) hx hb dX9_unit_60 (by decide) ?_
          obtain ⟨h1, hw⟩ := hw
          refine ra_i C P p_a8 h1 dX9_unit_63 ?_
          refine lv_iload_n hx hb dX9_unit_64 rfl (lv_at hl 1 rfl) ?_
          refine lv_icmp_ne (tgt := 79) hx hb dX9_unit_65 (by decide) (fun hc => ?_) (fun hc => ?_)
          · have hw := hw.1 hc
            refine lv_iconst (v := 0) hx hb dX9_unit_79 (by decide) ?_
            refine lv_goto (tgt := 91) hx hb dX9_unit_80 (by decide) ?_
            exact e_i C hr rfl P hw (by omega) (by omega) dX9_unit_91
          · have hw := hw.2 hc
            refine lv_aload_n hx hb dX9_unit_68 rfl (lv_at hl 0 rfl) ?_
            obtain ⟨a9, e1, hw⟩ := hw
            have p_a9 : pI S4 12 a9 := wf_r P.2.2.2.1 p_a0 e1
            refine gf_9_1 C P p_a0 e1 q_1306 dX9_unit_69 ?_
            refine lv_sipush (v := 167) hx hb dX9_unit_72 (by decide) ?_
            obtain ⟨h1, hw⟩ := hw
            refine ra_i C P p_a9 h1 dX9_unit_75 ?_
            refine lv_goto (tgt := 91) hx hb dX9_unit_76 (by decide) ?_
            exact e_i C hr rfl P hw (by omega) (by omega) dX9_unit_91
      · have hw := hw.2 hc
        refine lv_aload_n hx hb dX9_unit_41 rfl (lv_at hl 0 rfl) ?_
        refine lv_iload_n hx hb dX9_unit_42 rfl (lv_at hl 1 rfl) ?_
        refine lv_iload_n hx hb dX9_unit_43 rfl (lv_at hl 2 rfl) ?_
        refine cl_i C P (run_V C P hl.1 (kd := 9) (met_X9_of (CF_n C) G H.size _ _ S4 a0 x1 x2 p_a0 hw) p_a0 (by decide) rfl q_1457 q_1459 q_p34 q_10 q_1460 cd_X9_of ⟨(Nat.le_of_ble_eq_true rfl), (Nat.le_of_ble_eq_true rfl)⟩ rfl rfl (As := [.int x1, .int x2]) (rest := []) rfl rfl (Nat.le_of_ble_eq_true rfl) dX9_unit_44 ⟨by show cells + 0 ≤ 0; omega, by show slots + 0 ≤ 0; omega⟩) (kx_out C hex (fun _ _ _ h => h) (by omega) (by omega)) (fun r11 S10 H locs P hE hw => ?_)
        have p_a0 : pI S10 9 a0 := pI_x hE p_a0
        refine lv_goto (tgt := 91) hx hb dX9_unit_47 (by decide) ?_
        exact e_i C hr rfl P hw (by omega) (by omega) dX9_unit_91
    · have hw := hw.2 hc
      refine lv_aload_n hx hb dX9_unit_29 rfl (lv_at hl 0 rfl) ?_
      refine lv_iconst (v := 2) hx hb dX9_unit_30 (by decide) ?_
      refine cl_i C P (run_V C P hl.1 (kd := 9) (met_X9_no (CF_n C) G H.size _ _ S4 a0 2 p_a0 hw) p_a0 (by decide) rfl q_1386 q_1388 q_p23 q_10 q_1389 cd_X9_no ⟨(Nat.le_of_ble_eq_true rfl), (Nat.le_of_ble_eq_true rfl)⟩ rfl rfl (As := [.int 2]) (rest := []) rfl rfl (Nat.le_of_ble_eq_true rfl) dX9_unit_31 ⟨by show cells + 0 ≤ 0; omega, by show slots + 0 ≤ 0; omega⟩) (kx_out C hex (fun _ _ _ h => h) (by omega) (by omega)) (fun r13 S12 H locs P hE hw => ?_)
      have p_a0 : pI S12 9 a0 := pI_x hE p_a0
      exact e_i C hr rfl P hw (by omega) (by omega) dX9_unit_34
  · have hw := hw.2 hc
    refine lv_aload_n hx hb dX9_unit_13 rfl (lv_at hl 0 rfl) ?_
    refine lv_iconst (v := 1) hx hb dX9_unit_14 (by decide) ?_
    refine cl_i C P (run_V C P hl.1 (kd := 9) (met_X9_no (CF_n C) G H.size _ _ S2 a0 1 p_a0 hw) p_a0 (by decide) rfl q_1386 q_1388 q_p23 q_10 q_1389 cd_X9_no ⟨(Nat.le_of_ble_eq_true rfl), (Nat.le_of_ble_eq_true rfl)⟩ rfl rfl (As := [.int 1]) (rest := []) rfl rfl (Nat.le_of_ble_eq_true rfl) dX9_unit_15 ⟨by show cells + 0 ≤ 0; omega, by show slots + 0 ≤ 0; omega⟩) (kx_out C hex (fun _ _ _ h => h) (by omega) (by omega)) (fun r15 S14 H locs P hE hw => ?_)
    have p_a0 : pI S14 9 a0 := pI_x hE p_a0
    exact e_i C hr rfl P hw (by omega) (by omega) dX9_unit_18
def wp_X9_unit (Q : Int32 → MS → Prop) (QX : String → MS → Prop) (S : MS) (a0 : Nat) (x1 : Int32) (x2 : Int32) : Prop := wX9_unit_0 Q QX S a0 x1 x2
set_option maxHeartbeats 4000000 in
set_option maxRecDepth 100000 in
theorem met_X9_unit {l : Launch} (hst : l.stackTraces = false) (G : GP) (sz : Nat) (Q : Int32 → MS → Prop) (QX : String → MS → Prop) (S : MS) (a0 : Nat) (x1 : Int32) (x2 : Int32) (p_a0 : pI S 9 a0) (hw : wp_X9_unit Q QX S a0 x1 x2) : vx_Met l yX9_unit (.code yX9_unit cX9_unit 3 (some .int) :: GW) rmX9_unit (va_Pc [.ref a0, .int x1, .int x2] (PR G S sz)) (QI G S (FA G S sz) Q) (XX G S (FA G S sz) QX) 0 0 (FA G S sz) := by
  refine st_m (by decide +kernel) hst (fun p e s m below meth c C hr hnm hex P => ?_)
  refine en_m (Nat.le_of_ble_eq_true rfl) (lv := [(0, .ref a0), (1, .int x1), (2, .int x2)]) rfl (fun ls hl => ?_)
  have C : CF p l s m _ meth c "SkirmishGridModel" cX9_unit 3 G (FA G S sz) := C
  exact tX9_unit_0 C hr hex Q QX S a0 x1 x2 p_a0 P hl (by omega) (by omega) hw
theorem cd_X9_unit : yX9_unit.cls = RX9 ∧ yX9_unit.cls ≠ "java/lang/invoke/MethodHandle" ∧ yX9_unit.cls ≠ "java/lang/invoke/VarHandle" ∧ (parseMethodDescriptor yX9_unit.desc).map (fun d => d.parameters.length) = some 2 := by decide +kernel
abbrev rmX9_living : Room := { frames := 2, cells := 0, slots := 0, locals := 43 }
def wX9_living_39 (Q : Int32 → MS → Prop) (QX : String → MS → Prop) (k4 : MS → Nat → Int32 → Int32 → Int32 → Prop) (S : MS) (a0 : Nat) (y1 : Int32) (y3 : Int32) (z0 : Int32) (z1 : Int32) : Prop := k4 S a0 y1 (z1 + z0) (y3 + 1)
set_option maxHeartbeats 4000000 in
set_option maxRecDepth 100000 in
theorem tX9_living_39 {p : Program} {l : Launch} {e : Env} {s : State} {m : MethodId} {args : Array Value} {below : List Frame} {meth : Method} {c : Code} {H : Heap} {locs : List Loc} {cells slots : Nat} {G : GP} {A : Nat → Prop} {S0 : MS} {ls : Array Slot} (C : CF p l s m args meth c "SkirmishGridModel" cX9_living 4 G A) (hr : meth.sig.returnType = (some .int)) (hex : ∀ x ∈ c.exceptionTable.toList, False) (Q : Int32 → MS → Prop) (QX : String → MS → Prop) (k4 : MS → Nat → Int32 → Int32 → Int32 → Prop) (kh4 : ∀ (S : MS) (a0 : Nat) (y1 : Int32) (y2 : Int32) (y3 : Int32) (cells slots : Nat) (H : Heap) (locs : List Loc) (ls : Array Slot), pI S 9 a0 → PW G A s H locs S0 S → lv_has ls 4 [(0, .ref a0), (1, .int y1), (2, .int y2), (3, .int y3)] → cells + 0 ≤ 0 → slots + 0 ≤ 0 → k4 S a0 y1 y2 y3 → W p l e rmX9_living s m args below meth c H locs cells slots (vx_MQ below (QI G S0 A Q) (XX G S0 A QX) args s 0 0 A) (F0 m 4 ls [])) (S : MS) (a0 : Nat) (y1 : Int32) (y3 : Int32) (z0 : Int32) (z1 : Int32) (p_a0 : pI S 9 a0) (P : PW G A s H locs S0 S) (hl : lv_has ls 4 [(0, .ref a0), (1, .int y1), (3, .int y3)]) (hcc : cells + 0 ≤ 0) (hss : slots + 0 ≤ 0) (hw : wX9_living_39 Q QX k4 S a0 y1 y3 z0 z1) : W p l e rmX9_living s m args below meth c H locs cells slots (vx_MQ below (QI G S0 A Q) (XX G S0 A QX) args s 0 0 A) (F0 m 39 ls [.int z0, .int z1]) := by
  have hx := CF_x C
  have hb := CF_b C
  unfold wX9_living_39 at hw
  refine lv_iadd hx hb dX9_living_39 ?_
  refine lv_istore_n (lv' := [(2, .int (z1 + z0)), (0, .ref a0), (1, .int y1), (3, .int y3)]) hx hb dX9_living_40 rfl hl (by decide) rfl (fun ls hl => ?_)
  refine lv_iinc (v := (y3 + 1)) (lv' := [(3, .int (y3 + 1)), (2, .int (z1 + z0)), (0, .ref a0), (1, .int y1)]) hx hb dX9_living_41 hl (k := 3) rfl (by rfl) (by decide) rfl (fun ls hl => ?_)
  refine lv_goto (tgt := 4) hx hb dX9_living_44 (by decide) ?_
  exact kh4 S a0 y1 (z1 + z0) (y3 + 1) _ _ _ _ _ p_a0 P (lv_sub hl [2, 3, 1, 0] rfl) (by omega) (by omega) hw
def wX9_living_38 (Q : Int32 → MS → Prop) (QX : String → MS → Prop) (k4 : MS → Nat → Int32 → Int32 → Int32 → Prop) (S : MS) (a0 : Nat) (y1 : Int32) (y3 : Int32) (z0 : Int32) : Prop := wX9_living_39 Q QX k4 S a0 y1 y3 0 z0
set_option maxHeartbeats 4000000 in
set_option maxRecDepth 100000 in
theorem tX9_living_38 {p : Program} {l : Launch} {e : Env} {s : State} {m : MethodId} {args : Array Value} {below : List Frame} {meth : Method} {c : Code} {H : Heap} {locs : List Loc} {cells slots : Nat} {G : GP} {A : Nat → Prop} {S0 : MS} {ls : Array Slot} (C : CF p l s m args meth c "SkirmishGridModel" cX9_living 4 G A) (hr : meth.sig.returnType = (some .int)) (hex : ∀ x ∈ c.exceptionTable.toList, False) (Q : Int32 → MS → Prop) (QX : String → MS → Prop) (k4 : MS → Nat → Int32 → Int32 → Int32 → Prop) (kh4 : ∀ (S : MS) (a0 : Nat) (y1 : Int32) (y2 : Int32) (y3 : Int32) (cells slots : Nat) (H : Heap) (locs : List Loc) (ls : Array Slot), pI S 9 a0 → PW G A s H locs S0 S → lv_has ls 4 [(0, .ref a0), (1, .int y1), (2, .int y2), (3, .int y3)] → cells + 0 ≤ 0 → slots + 0 ≤ 0 → k4 S a0 y1 y2 y3 → W p l e rmX9_living s m args below meth c H locs cells slots (vx_MQ below (QI G S0 A Q) (XX G S0 A QX) args s 0 0 A) (F0 m 4 ls [])) (S : MS) (a0 : Nat) (y1 : Int32) (y3 : Int32) (z0 : Int32) (p_a0 : pI S 9 a0) (P : PW G A s H locs S0 S) (hl : lv_has ls 4 [(0, .ref a0), (1, .int y1), (3, .int y3)]) (hcc : cells + 0 ≤ 0) (hss : slots + 0 ≤ 0) (hw : wX9_living_38 Q QX k4 S a0 y1 y3 z0) : W p l e rmX9_living s m args below meth c H locs cells slots (vx_MQ below (QI G S0 A Q) (XX G S0 A QX) args s 0 0 A) (F0 m 38 ls [.int z0]) := by
  have hx := CF_x C
  have hb := CF_b C
  unfold wX9_living_38 at hw
  refine lv_iconst (v := 0) hx hb dX9_living_38 (by decide) ?_
  exact tX9_living_39 C hr hex Q QX k4 kh4 S a0 y1 y3 0 z0 p_a0 P (lv_sub hl [0, 1, 2] rfl) (by omega) (by omega) hw
def wX9_living_4 (Q : Int32 → MS → Prop) (QX : String → MS → Prop) (k4 : MS → Nat → Int32 → Int32 → Int32 → Prop) (S : MS) (a0 : Nat) (y1 : Int32) (y2 : Int32) (y3 : Int32) : Prop := (∃ a1, mR S a0 1 = some a1 ∧ (vp_in 66 (mN S a1) ∧ (((mI S a1 (66 : Int32).toNatClampNeg) ≤ y3 → Q y2 S) ∧ (¬ (mI S a1 (66 : Int32).toNatClampNeg) ≤ y3 → wp_X9_lives (fun r3 S2 => ((r3 = 0 → wX9_living_38 Q QX k4 S2 a0 y1 y3 y2) ∧ (¬ r3 = 0 → wp_X9_of (fun r5 S4 => ((¬ r5 = y1 → wX9_living_38 Q QX k4 S4 a0 y1 y3 y2) ∧ (r5 = y1 → wX9_living_39 Q QX k4 S4 a0 y1 y3 1 y2))) QX S2 a0 y3 0))) QX S a0 y3))))
set_option maxHeartbeats 4000000 in
set_option maxRecDepth 100000 in
theorem tX9_living_4 {p : Program} {l : Launch} {e : Env} {s : State} {m : MethodId} {args : Array Value} {below : List Frame} {meth : Method} {c : Code} {H : Heap} {locs : List Loc} {cells slots : Nat} {G : GP} {A : Nat → Prop} {S0 : MS} {ls : Array Slot} (C : CF p l s m args meth c "SkirmishGridModel" cX9_living 4 G A) (hr : meth.sig.returnType = (some .int)) (hex : ∀ x ∈ c.exceptionTable.toList, False) (Q : Int32 → MS → Prop) (QX : String → MS → Prop) (k4 : MS → Nat → Int32 → Int32 → Int32 → Prop) (kh4 : ∀ (S : MS) (a0 : Nat) (y1 : Int32) (y2 : Int32) (y3 : Int32) (cells slots : Nat) (H : Heap) (locs : List Loc) (ls : Array Slot), pI S 9 a0 → PW G A s H locs S0 S → lv_has ls 4 [(0, .ref a0), (1, .int y1), (2, .int y2), (3, .int y3)] → cells + 0 ≤ 0 → slots + 0 ≤ 0 → k4 S a0 y1 y2 y3 → W p l e rmX9_living s m args below meth c H locs cells slots (vx_MQ below (QI G S0 A Q) (XX G S0 A QX) args s 0 0 A) (F0 m 4 ls [])) (S : MS) (a0 : Nat) (y1 : Int32) (y2 : Int32) (y3 : Int32) (p_a0 : pI S 9 a0) (P : PW G A s H locs S0 S) (hl : lv_has ls 4 [(0, .ref a0), (1, .int y1), (2, .int y2), (3, .int y3)]) (hcc : cells + 0 ≤ 0) (hss : slots + 0 ≤ 0) (hw : wX9_living_4 Q QX k4 S a0 y1 y2 y3) : W p l e rmX9_living s m args below meth c H locs cells slots (vx_MQ below (QI G S0 A Q) (XX G S0 A QX) args s 0 0 A) (F0 m 4 ls []) := by
  have hx := CF_x C
  have hb := CF_b C
  unfold wX9_living_4 at hw
  refine lv_iload_n hx hb dX9_living_4 rfl (lv_at hl 3 rfl) ?_
  refine lv_aload_n hx hb dX9_living_5 rfl (lv_at hl 0 rfl) ?_
  obtain ⟨a1, e1, hw⟩ := hw
  have p_a1 : pI S 12 a1 := wf_r P.2.2.2.1 p_a0 e1
  refine gf_9_1 C P p_a0 e1 q_1306 dX9_living_6 ?_
  refine lv_bipush (v := 66) hx hb dX9_living_9 (by decide) ?_
  obtain ⟨h1, hw⟩ := hw
  refine ra_i C P p_a1 h1 dX9_living_11 ?_
  refine lv_icmp_ge (tgt := 47) hx hb dX9_living_12 (by decide) (fun hc => ?_) (fun hc => ?_)
  · have hw := hw.1 hc
    refine lv_iload_n hx hb dX9_living_47 rfl (lv_at hl 2 rfl) ?_
    exact e_i C hr rfl P hw (by omega) (by omega) dX9_living_48
  · have hw := hw.2 hc
    refine lv_iload_n hx hb dX9_living_15 rfl (lv_at hl 2 rfl) ?_
    refine lv_aload_n hx hb dX9_living_16 rfl (lv_at hl 0 rfl) ?_
    refine lv_iload_n hx hb dX9_living_17 rfl (lv_at hl 3 rfl) ?_
    refine cl_i C P (run_V C P hl.1 (kd := 9) (met_X9_lives (CF_n C) G H.size _ _ S a0 y3 p_a0 hw) p_a0 (by decide) rfl q_1453 q_1455 q_p33 q_10 q_1456 cd_X9_lives ⟨(Nat.le_of_ble_eq_true rfl), (Nat.le_of_ble_eq_true rfl)⟩ rfl rfl (As := [.int y3]) (rest := [.int y2]) rfl rfl (Nat.le_of_ble_eq_true rfl) dX9_living_18 ⟨by show cells + 0 ≤ 0; omega, by show slots + 0 ≤ 0; omega⟩) (kx_out C hex (fun _ _ _ h => h) (by omega) (by omega)) (fun r3 S2 H locs P hE hw => ?_)
    have p_a0 : pI S2 9 a0 := pI_x hE p_a0
    refine lv_if_eq (tgt := 38) hx hb dX9_living_21 (by decide) (fun hc => ?_) (fun hc => ?_)
    · have hw := hw.1 hc
      exact tX9_living_38 C hr hex Q QX k4 kh4 S2 a0 y1 y3 y2 p_a0 P (lv_sub hl [0, 1, 3] rfl) (by omega) (by omega) hw
    · have hw := hw.2 hc
      refine lv_aload_n hx hb dX9_living_24 rfl (lv_at hl 0 rfl) ?_
      refine lv_iload_n hx hb dX9_living_25 rfl (lv_at hl 3 rfl) ?_
      refine lv_iconst (v := 0) hx hb dX9_living_26 (by decide) ?_
      refine cl_i C P (run_V C P hl.1 (kd := 9) (met_X9_of (CF_n C) G H.size _ _ S2 a0 y3 0 p_a0 hw) p_a0 (by decide) rfl q_1457 q_1459 q_p34 q_10 q_1460 cd_X9_of ⟨(Nat.le_of_ble_eq_true rfl), (Nat.le_of_ble_eq_true rfl)⟩ rfl rfl (As := [.int y3, .int 0]) (rest := [.int y2]) rfl rfl (Nat.le_of_ble_eq_true rfl) dX9_living_27 ⟨by show cells + 0 ≤ 0; omega, by show slots + 0 ≤ 0; omega⟩) (kx_out C hex (fun _ _ _ h => h) (by omega) (by omega)) (fun r5 S4 H locs P hE hw => ?_)
      have p_a0 : pI S4 9 a0 := pI_x hE p_a0
      refine lv_iload_n hx hb dX9_living_30 rfl (lv_at hl 1 rfl) ?_
      refine lv_icmp_ne (tgt := 38) hx hb dX9_living_31 (by decide) (fun hc => ?_) (fun hc => ?_)
      · have hw := hw.1 hc
        exact tX9_living_38 C hr hex Q QX k4 kh4 S4 a0 y1 y3 y2 p_a0 P (lv_sub hl [0, 1, 3] rfl) (by omega) (by omega) hw
      · have hw := hw.2 hc
        refine lv_iconst (v := 1) hx hb dX9_living_34 (by decide) ?_
        refine lv_goto (tgt := 39) hx hb dX9_living_35 (by decide) ?_
        exact tX9_living_39 C hr hex Q QX k4 kh4 S4 a0 y1 y3 1 y2 p_a0 P (lv_sub hl [0, 1, 3] rfl) (by omega) (by omega) hw
def lX9_living_4 (Q : Int32 → MS → Prop) (QX : String → MS → Prop) : Nat → MS → Nat → Int32 → Int32 → Int32 → Prop
  | 0 => fun _ _ _ _ _ => False
  | n + 1 => fun S a0 y1 y2 y3 => wX9_living_4 Q QX (lX9_living_4 Q QX n) S a0 y1 y2 y3
theorem tlX9_living_4 {p : Program} {l : Launch} {e : Env} {s : State} {m : MethodId} {args : Array Value} {below : List Frame} {meth : Method} {c : Code} {G : GP} {A : Nat → Prop} {S0 : MS} (C : CF p l s m args meth c "SkirmishGridModel" cX9_living 4 G A) (hr : meth.sig.returnType = (some .int)) (hex : ∀ x ∈ c.exceptionTable.toList, False) (Q : Int32 → MS → Prop) (QX : String → MS → Prop) : ∀ (n : Nat), ∀ (S : MS) (a0 : Nat) (y1 : Int32) (y2 : Int32) (y3 : Int32) (cells slots : Nat) (H : Heap) (locs : List Loc) (ls : Array Slot), pI S 9 a0 → PW G A s H locs S0 S → lv_has ls 4 [(0, .ref a0), (1, .int y1), (2, .int y2), (3, .int y3)] → cells + 0 ≤ 0 → slots + 0 ≤ 0 → lX9_living_4 Q QX n S a0 y1 y2 y3 → W p l e rmX9_living s m args below meth c H locs cells slots (vx_MQ below (QI G S0 A Q) (XX G S0 A QX) args s 0 0 A) (F0 m 4 ls []) := by
  intro n
  induction n with
  | zero => intro S a0 y1 y2 y3 cells slots H locs ls p_a0 P hl hcc hss hw; exact hw.elim
  | succ n ih => intro S a0 y1 y2 y3 cells slots H locs ls p_a0 P hl hcc hss hw; exact tX9_living_4 C hr hex Q QX (lX9_living_4 Q QX n) ih S a0 y1 y2 y3 p_a0 P hl hcc hss hw
def wX9_living_0 (Q : Int32 → MS → Prop) (QX : String → MS → Prop) (S : MS) (a0 : Nat) (x1 : Int32) : Prop := (∃ n, lX9_living_4 Q QX n S a0 x1 0 0)
set_option maxHeartbeats 4000000 in
set_option maxRecDepth 100000 in
theorem tX9_living_0 {p : Program} {l : Launch} {e : Env} {s : State} {m : MethodId} {args : Array Value} {below : List Frame} {meth : Method} {c : Code} {H : Heap} {locs : List Loc} {cells slots : Nat} {G : GP} {A : Nat → Prop} {S0 : MS} {ls : Array Slot} (C : CF p l s m args meth c "SkirmishGridModel" cX9_living 4 G A) (hr : meth.sig.returnType = (some .int)) (hex : ∀ x ∈ c.exceptionTable.toList, False) (Q : Int32 → MS → Prop) (QX : String → MS → Prop) (S : MS) (a0 : Nat) (x1 : Int32) (p_a0 : pI S 9 a0) (P : PW G A s H locs S0 S) (hl : lv_has ls 4 [(0, .ref a0), (1, .int x1)]) (hcc : cells + 0 ≤ 0) (hss : slots + 0 ≤ 0) (hw : wX9_living_0 Q QX S a0 x1) : W p l e rmX9_living s m args below meth c H locs cells slots (vx_MQ below (QI G S0 A Q) (XX G S0 A QX) args s 0 0 A) (F0 m 0 ls []) := by
  have hx := CF_x C
  have hb := CF_b C
  unfold wX9_living_0 at hw
  refine lv_iconst (v := 0) hx hb dX9_living_0 (by decide) ?_
  refine lv_istore_n (lv' := [(2, .int 0), (0, .ref a0), (1, .int x1)]) hx hb dX9_living_1 rfl hl (by decide) rfl (fun ls hl => ?_)
  refine lv_iconst (v := 0) hx hb dX9_living_2 (by decide) ?_
  refine lv_istore_n (lv' := [(3, .int 0), (2, .int 0), (0, .ref a0), (1, .int x1)]) hx hb dX9_living_3 rfl hl (by decide) rfl (fun ls hl => ?_)
  obtain ⟨n, hw⟩ := hw
  exact tlX9_living_4 C hr hex Q QX n S a0 x1 0 0 _ _ _ _ _ p_a0 P (lv_sub hl [2, 3, 1, 0] rfl) (by omega) (by omega) hw
def wp_X9_living (Q : Int32 → MS → Prop) (QX : String → MS → Prop) (S : MS) (a0 : Nat) (x1 : Int32) : Prop := wX9_living_0 Q QX S a0 x1
set_option maxHeartbeats 4000000 in
set_option maxRecDepth 100000 in
theorem met_X9_living {l : Launch} (hst : l.stackTraces = false) (G : GP) (sz : Nat) (Q : Int32 → MS → Prop) (QX : String → MS → Prop) (S : MS) (a0 : Nat) (x1 : Int32) (p_a0 : pI S 9 a0) (hw : wp_X9_living Q QX S a0 x1) : vx_Met l yX9_living (.code yX9_living cX9_living 4 (some .int) :: GW) rmX9_living (va_Pc [.ref a0, .int x1] (PR G S sz)) (QI G S (FA G S sz) Q) (XX G S (FA G S sz) QX) 0 0 (FA G S sz) := by
  refine st_m (by decide +kernel) hst (fun p e s m below meth c C hr hnm hex P => ?_)
  refine en_m (Nat.le_of_ble_eq_true rfl) (lv := [(0, .ref a0), (1, .int x1)]) rfl (fun ls hl => ?_)
  have C : CF p l s m _ meth c "SkirmishGridModel" cX9_living 4 G (FA G S sz) := C
  exact tX9_living_0 C hr hex Q QX S a0 x1 p_a0 P hl (by omega) (by omega) hw
theorem cd_X9_living : yX9_living.cls = RX9 ∧ yX9_living.cls ≠ "java/lang/invoke/MethodHandle" ∧ yX9_living.cls ≠ "java/lang/invoke/VarHandle" ∧ (parseMethodDescriptor yX9_living.desc).map (fun d => d.parameters.length) = some 1 := by decide +kernel
abbrev rmX9_conditions : Room := { frames := 3, cells := 0, slots := 0, locals := 66 }
def wX9_conditions_33 (Q : Int32 → MS → Prop) (QX : String → MS → Prop) (S : MS) (y1 : Int32) (y2 : Int32) : Prop := ((y1 ≤ 0 → ((y2 ≤ 0 → Q 4 S) ∧ (¬ y2 ≤ 0 → Q 3 S))) ∧ (¬ y1 ≤ 0 → Q 2 S))
set_option maxHeartbeats 4000000 in
set_option maxRecDepth 100000 in
theorem tX9_conditions_33 {p : Program} {l : Launch} {e : Env} {s : State} {m : MethodId} {args : Array Value} {below : List Frame} {meth : Method} {c : Code} {H : Heap} {locs : List Loc} {cells slots : Nat} {G : GP} {A : Nat → Prop} {S0 : MS} {ls : Array Slot} (C : CF p l s m args meth c "SkirmishGridModel" cX9_conditions 3 G A) (hr : meth.sig.returnType = (some .int)) (hex : ∀ x ∈ c.exceptionTable.toList, False) (Q : Int32 → MS → Prop) (QX : String → MS → Prop) (S : MS) (y1 : Int32) (y2 : Int32) (P : PW G A s H locs S0 S) (hl : lv_has ls 3 [(1, .int y1), (2, .int y2)]) (hcc : cells + 0 ≤ 0) (hss : slots + 0 ≤ 0) (hw : wX9_conditions_33 Q QX S y1 y2) : W p l e rmX9_conditions s m args below meth c H locs cells slots (vx_MQ below (QI G S0 A Q) (XX G S0 A QX) args s 0 0 A) (F0 m 33 ls []) := by
  have hx := CF_x C
  have hb := CF_b C
  unfold wX9_conditions_33 at hw
  refine lv_iload_n hx hb dX9_conditions_33 rfl (lv_at hl 0 rfl) ?_
  refine lv_if_le (tgt := 41) hx hb dX9_conditions_34 (by decide) (fun hc => ?_) (fun hc => ?_)
  · have hw := hw.1 hc
    refine lv_iload_n hx hb dX9_conditions_41 rfl (lv_at hl 1 rfl) ?_
    refine lv_if_le (tgt := 49) hx hb dX9_conditions_42 (by decide) (fun hc => ?_) (fun hc => ?_)
    · have hw := hw.1 hc
      refine lv_iconst (v := 4) hx hb dX9_conditions_49 (by decide) ?_
      exact e_i C hr rfl P hw (by omega) (by omega) dX9_conditions_50
    · have hw := hw.2 hc
      refine lv_iconst (v := 3) hx hb dX9_conditions_45 (by decide) ?_
      refine lv_goto (tgt := 50) hx hb dX9_conditions_46 (by decide) ?_
      exact e_i C hr rfl P hw (by omega) (by omega) dX9_conditions_50
  · have hw := hw.2 hc
    refine lv_iconst (v := 2) hx hb dX9_conditions_37 (by decide) ?_
    refine lv_goto (tgt := 50) hx hb dX9_conditions_38 (by decide) ?_
    exact e_i C hr rfl P hw (by omega) (by omega) dX9_conditions_50
def wX9_conditions_0 (Q : Int32 → MS → Prop) (QX : String → MS → Prop) (S : MS) (a0 : Nat) : Prop := wp_X9_hasBegun (fun r2 S1 => ((¬ r2 = 0 → wp_X9_living (fun r4 S3 => wp_X9_living (fun r6 S5 => ((r4 ≤ 0 → wX9_conditions_33 Q QX S5 r4 r6) ∧ (¬ r4 ≤ 0 → ((r6 ≤ 0 → wX9_conditions_33 Q QX S5 r4 r6) ∧ (¬ r6 ≤ 0 → Q 1 S5))))) QX S3 a0 1) QX S1 a0 0) ∧ (r2 = 0 → Q 0 S1))) QX S a0
set_option maxHeartbeats 4000000 in
set_option maxRecDepth 100000 in
theorem tX9_conditions_0 {p : Program} {l : Launch} {e : Env} {s : State} {m : MethodId} {args : Array Value} {below : List Frame} {meth : Method} {c : Code} {H : Heap} {locs : List Loc} {cells slots : Nat} {G : GP} {A : Nat → Prop} {S0 : MS} {ls : Array Slot} (C : CF p l s m args meth c "SkirmishGridModel" cX9_conditions 3 G A) (hr : meth.sig.returnType = (some .int)) (hex : ∀ x ∈ c.exceptionTable.toList, False) (Q : Int32 → MS → Prop) (QX : String → MS → Prop) (S : MS) (a0 : Nat) (p_a0 : pI S 9 a0) (P : PW G A s H locs S0 S) (hl : lv_has ls 3 [(0, .ref a0)]) (hcc : cells + 0 ≤ 0) (hss : slots + 0 ≤ 0) (hw : wX9_conditions_0 Q QX S a0) : W p l e rmX9_conditions s m args below meth c H locs cells slots (vx_MQ below (QI G S0 A Q) (XX G S0 A QX) args s 0 0 A) (F0 m 0 ls []) := by
  have hx := CF_x C
  have hb := CF_b C
  unfold wX9_conditions_0 at hw
  refine lv_aload_n hx hb dX9_conditions_0 rfl (lv_at hl 0 rfl) ?_
  refine cl_i C P (run_V C P hl.1 (kd := 9) (met_X9_hasBegun (CF_n C) G H.size _ _ S a0 p_a0 hw) p_a0 (by decide) rfl q_1461 q_1463 q_p35 q_10 q_1464 cd_X9_hasBegun ⟨(Nat.le_of_ble_eq_true rfl), (Nat.le_of_ble_eq_true rfl)⟩ rfl rfl (As := []) (rest := []) rfl rfl (Nat.le_of_ble_eq_true rfl) dX9_conditions_1 ⟨by show cells + 0 ≤ 0; omega, by show slots + 0 ≤ 0; omega⟩) (kx_out C hex (fun _ _ _ h => h) (by omega) (by omega)) (fun r2 S1 H locs P hE hw => ?_)
  have p_a0 : pI S1 9 a0 := pI_x hE p_a0
  refine lv_if_ne (tgt := 9) hx hb dX9_conditions_4 (by decide) (fun hc => ?_) (fun hc => ?_)
  · have hw := hw.1 hc
    refine lv_aload_n hx hb dX9_conditions_9 rfl (lv_at hl 0 rfl) ?_
    refine lv_iconst (v := 0) hx hb dX9_conditions_10 (by decide) ?_
    refine cl_i C P (run_V C P hl.1 (kd := 9) (met_X9_living (CF_n C) G H.size _ _ S1 a0 0 p_a0 hw) p_a0 (by decide) rfl q_1492 q_1494 q_p39 q_10 q_1495 cd_X9_living ⟨(Nat.le_of_ble_eq_true rfl), (Nat.le_of_ble_eq_true rfl)⟩ rfl rfl (As := [.int 0]) (rest := []) rfl rfl (Nat.le_of_ble_eq_true rfl) dX9_conditions_11 ⟨by show cells + 0 ≤ 0; omega, by show slots + 0 ≤ 0; omega⟩) (kx_out C hex (fun _ _ _ h => h) (by omega) (by omega)) (fun r4 S3 H locs P hE hw => ?_)
    have p_a0 : pI S3 9 a0 := pI_x hE p_a0
    refine lv_istore_n (lv' := [(1, .int r4), (0, .ref a0)]) hx hb dX9_conditions_14 rfl hl (by decide) rfl (fun ls hl => ?_)
    refine lv_aload_n hx hb dX9_conditions_15 rfl (lv_at hl 1 rfl) ?_
    refine lv_iconst (v := 1) hx hb dX9_conditions_16 (by decide) ?_
    refine cl_i C P (run_V C P hl.1 (kd := 9) (met_X9_living (CF_n C) G H.size _ _ S3 a0 1 p_a0 hw) p_a0 (by decide) rfl q_1492 q_1494 q_p39 q_10 q_1495 cd_X9_living ⟨(Nat.le_of_ble_eq_true rfl), (Nat.le_of_ble_eq_true rfl)⟩ rfl rfl (As := [.int 1]) (rest := []) rfl rfl (Nat.le_of_ble_eq_true rfl) dX9_conditions_17 ⟨by show cells + 0 ≤ 0; omega, by show slots + 0 ≤ 0; omega⟩) (kx_out C hex (fun _ _ _ h => h) (by omega) (by omega)) (fun r6 S5 H locs P hE hw => ?_)
    have p_a0 : pI S5 9 a0 := pI_x hE p_a0
    refine lv_istore_n (lv' := [(2, .int r6), (1, .int r4), (0, .ref a0)]) hx hb dX9_conditions_20 rfl hl (by decide) rfl (fun ls hl => ?_)
    refine lv_iload_n hx hb dX9_conditions_21 rfl (lv_at hl 1 rfl) ?_
    refine lv_if_le (tgt := 33) hx hb dX9_conditions_22 (by decide) (fun hc => ?_) (fun hc => ?_)
    · have hw := hw.1 hc
      exact tX9_conditions_33 C hr hex Q QX S5 r4 r6 P (lv_sub hl [1, 0] rfl) (by omega) (by omega) hw
    · have hw := hw.2 hc
      refine lv_iload_n hx hb dX9_conditions_25 rfl (lv_at hl 0 rfl) ?_
      refine lv_if_le (tgt := 33) hx hb dX9_conditions_26 (by decide) (fun hc => ?_) (fun hc => ?_)
      · have hw := hw.1 hc
        exact tX9_conditions_33 C hr hex Q QX S5 r4 r6 P (lv_sub hl [1, 0] rfl) (by omega) (by omega) hw
      · have hw := hw.2 hc
        refine lv_iconst (v := 1) hx hb dX9_conditions_29 (by decide) ?_
        refine lv_goto (tgt := 50) hx hb dX9_conditions_30 (by decide) ?_
        exact e_i C hr rfl P hw (by omega) (by omega) dX9_conditions_50
  · have hw := hw.2 hc
    refine lv_iconst (v := 0) hx hb dX9_conditions_7 (by decide) ?_
    exact e_i C hr rfl P hw (by omega) (by omega) dX9_conditions_8
def wp_X9_conditions (Q : Int32 → MS → Prop) (QX : String → MS → Prop) (S : MS) (a0 : Nat) : Prop := wX9_conditions_0 Q QX S a0
set_option maxHeartbeats 4000000 in
set_option maxRecDepth 100000 in
theorem met_X9_conditions {l : Launch} (hst : l.stackTraces = false) (G : GP) (sz : Nat) (Q : Int32 → MS → Prop) (QX : String → MS → Prop) (S : MS) (a0 : Nat) (p_a0 : pI S 9 a0) (hw : wp_X9_conditions Q QX S a0) : vx_Met l yX9_conditions (.code yX9_conditions cX9_conditions 3 (some .int) :: GW) rmX9_conditions (va_Pc [.ref a0] (PR G S sz)) (QI G S (FA G S sz) Q) (XX G S (FA G S sz) QX) 0 0 (FA G S sz) := by
  refine st_m (by decide +kernel) hst (fun p e s m below meth c C hr hnm hex P => ?_)
  refine en_m (Nat.le_of_ble_eq_true rfl) (lv := [(0, .ref a0)]) rfl (fun ls hl => ?_)
  have C : CF p l s m _ meth c "SkirmishGridModel" cX9_conditions 3 G (FA G S sz) := C
  exact tX9_conditions_0 C hr hex Q QX S a0 p_a0 P hl (by omega) (by omega) hw
theorem cd_X9_conditions : yX9_conditions.cls = RX9 ∧ yX9_conditions.cls ≠ "java/lang/invoke/MethodHandle" ∧ yX9_conditions.cls ≠ "java/lang/invoke/VarHandle" ∧ (parseMethodDescriptor yX9_conditions.desc).map (fun d => d.parameters.length) = some 0 := by decide +kernel
abbrev rmX9_condition : Room := { frames := 4, cells := 0, slots := 0, locals := 88 }
def wX9_condition_0 (Q : Int32 → MS → Prop) (QX : String → MS → Prop) (S : MS) (a0 : Nat) : Prop := (∀ S1, S1 = (sI S a0 0 0) → wp_X9_conditions (fun r3 S2 => Q r3 S2) QX S1 a0)
set_option maxHeartbeats 4000000 in
set_option maxRecDepth 100000 in
theorem tX9_condition_0 {p : Program} {l : Launch} {e : Env} {s : State} {m : MethodId} {args : Array Value} {below : List Frame} {meth : Method} {c : Code} {H : Heap} {locs : List Loc} {cells slots : Nat} {G : GP} {A : Nat → Prop} {S0 : MS} {ls : Array Slot} (C : CF p l s m args meth c "SkirmishGridModel" cX9_condition 1 G A) (hr : meth.sig.returnType = (some .int)) (hex : ∀ x ∈ c.exceptionTable.toList, False) (Q : Int32 → MS → Prop) (QX : String → MS → Prop) (S : MS) (a0 : Nat) (p_a0 : pI S 9 a0) (P : PW G A s H locs S0 S) (hl : lv_has ls 1 [(0, .ref a0)]) (hcc : cells + 0 ≤ 0) (hss : slots + 0 ≤ 0) (hw : wX9_condition_0 Q QX S a0) : W p l e rmX9_condition s m args below meth c H locs cells slots (vx_MQ below (QI G S0 A Q) (XX G S0 A QX) args s 0 0 A) (F0 m 0 ls []) := by
  have hx := CF_x C
  have hb := CF_b C
  unfold wX9_condition_0 at hw
  refine lv_aload_n hx hb dX9_condition_0 rfl (lv_at hl 0 rfl) ?_
  refine lv_iconst (v := 0) hx hb dX9_condition_1 (by decide) ?_
  refine pf_9_0 C P p_a0 q_1305 dX9_condition_2 (fun H locs P => ?_)
  obtain ⟨S1, hS⟩ : ∃ z, z = (sI S a0 0 0) := ⟨_, rfl⟩
  have P : PW G A s H locs S0 S1 := by rw [hS]; exact P
  have p_a0 : pI S1 9 a0 := by rw [hS]; exact pI_x ext_sI p_a0
  have hw := hw S1 hS
  refine lv_aload_n hx hb dX9_condition_5 rfl (lv_at hl 0 rfl) ?_
  refine cl_i C P (run_V C P hl.1 (kd := 9) (met_X9_conditions (CF_n C) G H.size _ _ S1 a0 p_a0 hw) p_a0 (by decide) rfl q_1488 q_1490 q_p38 q_10 q_1491 cd_X9_conditions ⟨(Nat.le_of_ble_eq_true rfl), (Nat.le_of_ble_eq_true rfl)⟩ rfl rfl (As := []) (rest := []) rfl rfl (Nat.le_of_ble_eq_true rfl) dX9_condition_6 ⟨by show cells + 0 ≤ 0; omega, by show slots + 0 ≤ 0; omega⟩) (kx_out C hex (fun _ _ _ h => h) (by omega) (by omega)) (fun r3 S2 H locs P hE hw => ?_)
  have p_a0 : pI S2 9 a0 := pI_x hE p_a0
  exact e_i C hr rfl P hw (by omega) (by omega) dX9_condition_9
def wp_X9_condition (Q : Int32 → MS → Prop) (QX : String → MS → Prop) (S : MS) (a0 : Nat) : Prop := wX9_condition_0 Q QX S a0
set_option maxHeartbeats 4000000 in
set_option maxRecDepth 100000 in
theorem met_X9_condition {l : Launch} (hst : l.stackTraces = false) (G : GP) (sz : Nat) (Q : Int32 → MS → Prop) (QX : String → MS → Prop) (S : MS) (a0 : Nat) (p_a0 : pI S 9 a0) (hw : wp_X9_condition Q QX S a0) : vx_Met l yX9_condition (.code yX9_condition cX9_condition 1 (some .int) :: GW) rmX9_condition (va_Pc [.ref a0] (PR G S sz)) (QI G S (FA G S sz) Q) (XX G S (FA G S sz) QX) 0 0 (FA G S sz) := by
  refine st_m (by decide +kernel) hst (fun p e s m below meth c C hr hnm hex P => ?_)
  refine en_m (Nat.le_of_ble_eq_true rfl) (lv := [(0, .ref a0)]) rfl (fun ls hl => ?_)
  have C : CF p l s m _ meth c "SkirmishGridModel" cX9_condition 1 G (FA G S sz) := C
  exact tX9_condition_0 C hr hex Q QX S a0 p_a0 P hl (by omega) (by omega) hw
theorem cd_X9_condition : yX9_condition.cls = RX9 ∧ yX9_condition.cls ≠ "java/lang/invoke/MethodHandle" ∧ yX9_condition.cls ≠ "java/lang/invoke/VarHandle" ∧ (parseMethodDescriptor yX9_condition.desc).map (fun d => d.parameters.length) = some 0 := by decide +kernel
abbrev rmX9_round : Room := { frames := 0, cells := 0, slots := 0, locals := 0 }
def wX9_round_0 (Q : Int32 → MS → Prop) (QX : String → MS → Prop) (S : MS) (a0 : Nat) : Prop := (∀ S1, S1 = (sI S a0 0 0) → (∃ a2, mR S1 a0 1 = some a2 ∧ (vp_in 156 (mN S1 a2) ∧ Q (mI S1 a2 (156 : Int32).toNatClampNeg) S1)))
set_option maxHeartbeats 4000000 in
set_option maxRecDepth 100000 in
theorem tX9_round_0 {p : Program} {l : Launch} {e : Env} {s : State} {m : MethodId} {args : Array Value} {below : List Frame} {meth : Method} {c : Code} {H : Heap} {locs : List Loc} {cells slots : Nat} {G : GP} {A : Nat → Prop} {S0 : MS} {ls : Array Slot} (C : CF p l s m args meth c "SkirmishGridModel" cX9_round 1 G A) (hr : meth.sig.returnType = (some .int)) (hex : ∀ x ∈ c.exceptionTable.toList, False) (Q : Int32 → MS → Prop) (QX : String → MS → Prop) (S : MS) (a0 : Nat) (p_a0 : pI S 9 a0) (P : PW G A s H locs S0 S) (hl : lv_has ls 1 [(0, .ref a0)]) (hcc : cells + 0 ≤ 0) (hss : slots + 0 ≤ 0) (hw : wX9_round_0 Q QX S a0) : W p l e rmX9_round s m args below meth c H locs cells slots (vx_MQ below (QI G S0 A Q) (XX G S0 A QX) args s 0 0 A) (F0 m 0 ls []) := by
  have hx := CF_x C
  have hb := CF_b C
  unfold wX9_round_0 at hw
  refine lv_aload_n hx hb dX9_round_0 rfl (lv_at hl 0 rfl) ?_
  refine lv_iconst (v := 0) hx hb dX9_round_1 (by decide) ?_
  refine pf_9_0 C P p_a0 q_1305 dX9_round_2 (fun H locs P => ?_)
  obtain ⟨S1, hS⟩ : ∃ z, z = (sI S a0 0 0) := ⟨_, rfl⟩
  have P : PW G A s H locs S0 S1 := by rw [hS]; exact P
  have p_a0 : pI S1 9 a0 := by rw [hS]; exact pI_x ext_sI p_a0
  have hw := hw S1 hS
  refine lv_aload_n hx hb dX9_round_5 rfl (lv_at hl 0 rfl) ?_
  obtain ⟨a2, e1, hw⟩ := hw
  have p_a2 : pI S1 12 a2 := wf_r P.2.2.2.1 p_a0 e1
  refine gf_9_1 C P p_a0 e1 q_1306 dX9_round_6 ?_
  refine lv_sipush (v := 156) hx hb dX9_round_9 (by decide) ?_
  obtain ⟨h1, hw⟩ := hw
  refine ra_i C P p_a2 h1 dX9_round_12 ?_
  exact e_i C hr rfl P hw (by omega) (by omega) dX9_round_13
def wp_X9_round (Q : Int32 → MS → Prop) (QX : String → MS → Prop) (S : MS) (a0 : Nat) : Prop := wX9_round_0 Q QX S a0
set_option maxHeartbeats 4000000 in
set_option maxRecDepth 100000 in
theorem met_X9_round {l : Launch} (hst : l.stackTraces = false) (G : GP) (sz : Nat) (Q : Int32 → MS → Prop) (QX : String → MS → Prop) (S : MS) (a0 : Nat) (p_a0 : pI S 9 a0) (hw : wp_X9_round Q QX S a0) : vx_Met l yX9_round (.code yX9_round cX9_round 1 (some .int) :: GW) rmX9_round (va_Pc [.ref a0] (PR G S sz)) (QI G S (FA G S sz) Q) (XX G S (FA G S sz) QX) 0 0 (FA G S sz) := by
  refine st_m (by decide +kernel) hst (fun p e s m below meth c C hr hnm hex P => ?_)
  refine en_m (Nat.le_of_ble_eq_true rfl) (lv := [(0, .ref a0)]) rfl (fun ls hl => ?_)
  have C : CF p l s m _ meth c "SkirmishGridModel" cX9_round 1 G (FA G S sz) := C
  exact tX9_round_0 C hr hex Q QX S a0 p_a0 P hl (by omega) (by omega) hw
theorem cd_X9_round : yX9_round.cls = RX9 ∧ yX9_round.cls ≠ "java/lang/invoke/MethodHandle" ∧ yX9_round.cls ≠ "java/lang/invoke/VarHandle" ∧ (parseMethodDescriptor yX9_round.desc).map (fun d => d.parameters.length) = some 0 := by decide +kernel
abbrev rmX9_current : Room := { frames := 4, cells := 0, slots := 0, locals := 88 }
def wX9_current_14 (Q : Int32 → MS → Prop) (QX : String → MS → Prop) (S : MS) (a0 : Nat) (z0 : Int32) (w1 : Nat) : Prop := (∀ S1, S1 = (sI S w1 0 z0) → ((¬ (mI S1 a0 0) = 0 → Q 0 S1) ∧ ((mI S1 a0 0) = 0 → (∃ a2, mR S1 a0 1 = some a2 ∧ (vp_in 166 (mN S1 a2) ∧ Q (mI S1 a2 (166 : Int32).toNatClampNeg) S1)))))
set_option maxHeartbeats 4000000 in
set_option maxRecDepth 100000 in
theorem tX9_current_14 {p : Program} {l : Launch} {e : Env} {s : State} {m : MethodId} {args : Array Value} {below : List Frame} {meth : Method} {c : Code} {H : Heap} {locs : List Loc} {cells slots : Nat} {G : GP} {A : Nat → Prop} {S0 : MS} {ls : Array Slot} (C : CF p l s m args meth c "SkirmishGridModel" cX9_current 1 G A) (hr : meth.sig.returnType = (some .int)) (hex : ∀ x ∈ c.exceptionTable.toList, False) (Q : Int32 → MS → Prop) (QX : String → MS → Prop) (S : MS) (a0 : Nat) (z0 : Int32) (w1 : Nat) (p_a0 : pI S 9 a0) (p_w1 : pI S 9 w1) (P : PW G A s H locs S0 S) (hl : lv_has ls 1 [(0, .ref a0)]) (hcc : cells + 0 ≤ 0) (hss : slots + 0 ≤ 0) (hw : wX9_current_14 Q QX S a0 z0 w1) : W p l e rmX9_current s m args below meth c H locs cells slots (vx_MQ below (QI G S0 A Q) (XX G S0 A QX) args s 0 0 A) (F0 m 14 ls [.int z0, .ref w1]) := by
  have hx := CF_x C
  have hb := CF_b C
  unfold wX9_current_14 at hw
  refine pf_9_0 C P p_w1 q_1305 dX9_current_14 (fun H locs P => ?_)
  obtain ⟨S1, hS⟩ : ∃ z, z = (sI S w1 0 z0) := ⟨_, rfl⟩
  have P : PW G A s H locs S0 S1 := by rw [hS]; exact P
  have p_a0 : pI S1 9 a0 := by rw [hS]; exact pI_x ext_sI p_a0
  have p_w1 : pI S1 9 w1 := by rw [hS]; exact pI_x ext_sI p_w1
  have hw := hw S1 hS
  refine lv_aload_n hx hb dX9_current_17 rfl (lv_at hl 0 rfl) ?_
  refine gf_9_0 C P p_a0 q_1305 dX9_current_18 ?_
  refine lv_if_ne (tgt := 35) hx hb dX9_current_21 (by decide) (fun hc => ?_) (fun hc => ?_)
  · have hw := hw.1 hc
    refine lv_iconst (v := 0) hx hb dX9_current_35 (by decide) ?_
    exact e_i C hr rfl P hw (by omega) (by omega) dX9_current_36
  · have hw := hw.2 hc
    refine lv_aload_n hx hb dX9_current_24 rfl (lv_at hl 0 rfl) ?_
    obtain ⟨a2, e1, hw⟩ := hw
    have p_a2 : pI S1 12 a2 := wf_r P.2.2.2.1 p_a0 e1
    refine gf_9_1 C P p_a0 e1 q_1306 dX9_current_25 ?_
    refine lv_sipush (v := 166) hx hb dX9_current_28 (by decide) ?_
    obtain ⟨h1, hw⟩ := hw
    refine ra_i C P p_a2 h1 dX9_current_31 ?_
    refine lv_goto (tgt := 36) hx hb dX9_current_32 (by decide) ?_
    exact e_i C hr rfl P hw (by omega) (by omega) dX9_current_36
def wX9_current_0 (Q : Int32 → MS → Prop) (QX : String → MS → Prop) (S : MS) (a0 : Nat) : Prop := wp_X9_conditions (fun r2 S1 => ((¬ r2 = 1 → wX9_current_14 Q QX S1 a0 1 a0) ∧ (r2 = 1 → wX9_current_14 Q QX S1 a0 0 a0))) QX S a0
set_option maxHeartbeats 4000000 in
set_option maxRecDepth 100000 in
theorem tX9_current_0 {p : Program} {l : Launch} {e : Env} {s : State} {m : MethodId} {args : Array Value} {below : List Frame} {meth : Method} {c : Code} {H : Heap} {locs : List Loc} {cells slots : Nat} {G : GP} {A : Nat → Prop} {S0 : MS} {ls : Array Slot} (C : CF p l s m args meth c "SkirmishGridModel" cX9_current 1 G A) (hr : meth.sig.returnType = (some .int)) (hex : ∀ x ∈ c.exceptionTable.toList, False) (Q : Int32 → MS → Prop) (QX : String → MS → Prop) (S : MS) (a0 : Nat) (p_a0 : pI S 9 a0) (P : PW G A s H locs S0 S) (hl : lv_has ls 1 [(0, .ref a0)]) (hcc : cells + 0 ≤ 0) (hss : slots + 0 ≤ 0) (hw : wX9_current_0 Q QX S a0) : W p l e rmX9_current s m args below meth c H locs cells slots (vx_MQ below (QI G S0 A Q) (XX G S0 A QX) args s 0 0 A) (F0 m 0 ls []) := by
  have hx := CF_x C
  have hb := CF_b C
  unfold wX9_current_0 at hw
  refine lv_aload_n hx hb dX9_current_0 rfl (lv_at hl 0 rfl) ?_
  refine lv_aload_n hx hb dX9_current_1 rfl (lv_at hl 0 rfl) ?_
  refine cl_i C P (run_V C P hl.1 (kd := 9) (met_X9_conditions (CF_n C) G H.size _ _ S a0 p_a0 hw) p_a0 (by decide) rfl q_1488 q_1490 q_p38 q_10 q_1491 cd_X9_conditions ⟨(Nat.le_of_ble_eq_true rfl), (Nat.le_of_ble_eq_true rfl)⟩ rfl rfl (As := []) (rest := [.ref a0]) rfl rfl (Nat.le_of_ble_eq_true rfl) dX9_current_2 ⟨by show cells + 0 ≤ 0; omega, by show slots + 0 ≤ 0; omega⟩) (kx_out C hex (fun _ _ _ h => h) (by omega) (by omega)) (fun r2 S1 H locs P hE hw => ?_)
  have p_a0 : pI S1 9 a0 := pI_x hE p_a0
  refine lv_iconst (v := 1) hx hb dX9_current_5 (by decide) ?_
  refine lv_icmp_ne (tgt := 13) hx hb dX9_current_6 (by decide) (fun hc => ?_) (fun hc => ?_)
  · have hw := hw.1 hc
    refine lv_iconst (v := 1) hx hb dX9_current_13 (by decide) ?_
    exact tX9_current_14 C hr hex Q QX S1 a0 1 a0 p_a0 p_a0 P (lv_sub hl [0] rfl) (by omega) (by omega) hw
  · have hw := hw.2 hc
    refine lv_iconst (v := 0) hx hb dX9_current_9 (by decide) ?_
    refine lv_goto (tgt := 14) hx hb dX9_current_10 (by decide) ?_
    exact tX9_current_14 C hr hex Q QX S1 a0 0 a0 p_a0 p_a0 P (lv_sub hl [0] rfl) (by omega) (by omega) hw
def wp_X9_current (Q : Int32 → MS → Prop) (QX : String → MS → Prop) (S : MS) (a0 : Nat) : Prop := wX9_current_0 Q QX S a0
set_option maxHeartbeats 4000000 in
set_option maxRecDepth 100000 in
theorem met_X9_current {l : Launch} (hst : l.stackTraces = false) (G : GP) (sz : Nat) (Q : Int32 → MS → Prop) (QX : String → MS → Prop) (S : MS) (a0 : Nat) (p_a0 : pI S 9 a0) (hw : wp_X9_current Q QX S a0) : vx_Met l yX9_current (.code yX9_current cX9_current 1 (some .int) :: GW) rmX9_current (va_Pc [.ref a0] (PR G S sz)) (QI G S (FA G S sz) Q) (XX G S (FA G S sz) QX) 0 0 (FA G S sz) := by
  refine st_m (by decide +kernel) hst (fun p e s m below meth c C hr hnm hex P => ?_)
  refine en_m (Nat.le_of_ble_eq_true rfl) (lv := [(0, .ref a0)]) rfl (fun ls hl => ?_)
  have C : CF p l s m _ meth c "SkirmishGridModel" cX9_current 1 G (FA G S sz) := C
  exact tX9_current_0 C hr hex Q QX S a0 p_a0 P hl (by omega) (by omega) hw
theorem cd_X9_current : yX9_current.cls = RX9 ∧ yX9_current.cls ≠ "java/lang/invoke/MethodHandle" ∧ yX9_current.cls ≠ "java/lang/invoke/VarHandle" ∧ (parseMethodDescriptor yX9_current.desc).map (fun d => d.parameters.length) = some 0 := by decide +kernel
abbrev rmX9_order : Room := { frames := 1, cells := 0, slots := 0, locals := 22 }
def wX9_order_24 (Q : Int32 → MS → Prop) (QX : String → MS → Prop) (S : MS) (a0 : Nat) (y1 : Int32) (z0 : Int32) (w1 : Nat) : Prop := (∀ S1, S1 = (sI S w1 0 z0) → ((¬ (mI S1 a0 0) = 0 → Q 0 S1) ∧ ((mI S1 a0 0) = 0 → (∃ a2, mR S1 a0 1 = some a2 ∧ (vp_in (158 + y1) (mN S1 a2) ∧ Q (mI S1 a2 ((158 + y1) : Int32).toNatClampNeg) S1)))))
set_option maxHeartbeats 4000000 in
set_option maxRecDepth 100000 in
theorem tX9_order_24 {p : Program} {l : Launch} {e : Env} {s : State} {m : MethodId} {args : Array Value} {below : List Frame} {meth : Method} {c : Code} {H : Heap} {locs : List Loc} {cells slots : Nat} {G : GP} {A : Nat → Prop} {S0 : MS} {ls : Array Slot} (C : CF p l s m args meth c "SkirmishGridModel" cX9_order 2 G A) (hr : meth.sig.returnType = (some .int)) (hex : ∀ x ∈ c.exceptionTable.toList, False) (Q : Int32 → MS → Prop) (QX : String → MS → Prop) (S : MS) (a0 : Nat) (y1 : Int32) (z0 : Int32) (w1 : Nat) (p_a0 : pI S 9 a0) (p_w1 : pI S 9 w1) (P : PW G A s H locs S0 S) (hl : lv_has ls 2 [(0, .ref a0), (1, .int y1)]) (hcc : cells + 0 ≤ 0) (hss : slots + 0 ≤ 0) (hw : wX9_order_24 Q QX S a0 y1 z0 w1) : W p l e rmX9_order s m args below meth c H locs cells slots (vx_MQ below (QI G S0 A Q) (XX G S0 A QX) args s 0 0 A) (F0 m 24 ls [.int z0, .ref w1]) := by
  have hx := CF_x C
  have hb := CF_b C
  unfold wX9_order_24 at hw
  refine pf_9_0 C P p_w1 q_1305 dX9_order_24 (fun H locs P => ?_)
  obtain ⟨S1, hS⟩ : ∃ z, z = (sI S w1 0 z0) := ⟨_, rfl⟩
  have P : PW G A s H locs S0 S1 := by rw [hS]; exact P
  have p_a0 : pI S1 9 a0 := by rw [hS]; exact pI_x ext_sI p_a0
  have p_w1 : pI S1 9 w1 := by rw [hS]; exact pI_x ext_sI p_w1
  have hw := hw S1 hS
  refine lv_aload_n hx hb dX9_order_27 rfl (lv_at hl 0 rfl) ?_
  refine gf_9_0 C P p_a0 q_1305 dX9_order_28 ?_
  refine lv_if_ne (tgt := 47) hx hb dX9_order_31 (by decide) (fun hc => ?_) (fun hc => ?_)
  · have hw := hw.1 hc
    refine lv_iconst (v := 0) hx hb dX9_order_47 (by decide) ?_
    exact e_i C hr rfl P hw (by omega) (by omega) dX9_order_48
  · have hw := hw.2 hc
    refine lv_aload_n hx hb dX9_order_34 rfl (lv_at hl 0 rfl) ?_
    obtain ⟨a2, e1, hw⟩ := hw
    have p_a2 : pI S1 12 a2 := wf_r P.2.2.2.1 p_a0 e1
    refine gf_9_1 C P p_a0 e1 q_1306 dX9_order_35 ?_
    refine lv_sipush (v := 158) hx hb dX9_order_38 (by decide) ?_
    refine lv_iload_n hx hb dX9_order_41 rfl (lv_at hl 1 rfl) ?_
    refine lv_iadd hx hb dX9_order_42 ?_
    obtain ⟨h1, hw⟩ := hw
    refine ra_i C P p_a2 h1 dX9_order_43 ?_
    refine lv_goto (tgt := 48) hx hb dX9_order_44 (by decide) ?_
    exact e_i C hr rfl P hw (by omega) (by omega) dX9_order_48
def wX9_order_0 (Q : Int32 → MS → Prop) (QX : String → MS → Prop) (S : MS) (a0 : Nat) (x1 : Int32) : Prop := (∃ a1, mR S a0 1 = some a1 ∧ (vp_in 157 (mN S a1) ∧ wp_X9_isIn (fun r3 S2 => ((r3 = 0 → wX9_order_24 Q QX S2 a0 x1 1 a0) ∧ (¬ r3 = 0 → wX9_order_24 Q QX S2 a0 x1 0 a0))) QX S x1 0 ((mI S a1 (157 : Int32).toNatClampNeg) - 1)))
set_option maxHeartbeats 4000000 in
set_option maxRecDepth 100000 in
theorem tX9_order_0 {p : Program} {l : Launch} {e : Env} {s : State} {m : MethodId} {args : Array Value} {below : List Frame} {meth : Method} {c : Code} {H : Heap} {locs : List Loc} {cells slots : Nat} {G : GP} {A : Nat → Prop} {S0 : MS} {ls : Array Slot} (C : CF p l s m args meth c "SkirmishGridModel" cX9_order 2 G A) (hr : meth.sig.returnType = (some .int)) (hex : ∀ x ∈ c.exceptionTable.toList, False) (Q : Int32 → MS → Prop) (QX : String → MS → Prop) (S : MS) (a0 : Nat) (x1 : Int32) (p_a0 : pI S 9 a0) (P : PW G A s H locs S0 S) (hl : lv_has ls 2 [(0, .ref a0), (1, .int x1)]) (hcc : cells + 0 ≤ 0) (hss : slots + 0 ≤ 0) (hw : wX9_order_0 Q QX S a0 x1) : W p l e rmX9_order s m args below meth c H locs cells slots (vx_MQ below (QI G S0 A Q) (XX G S0 A QX) args s 0 0 A) (F0 m 0 ls []) := by
  have hx := CF_x C
  have hb := CF_b C
  unfold wX9_order_0 at hw
  refine lv_aload_n hx hb dX9_order_0 rfl (lv_at hl 0 rfl) ?_
  refine lv_iload_n hx hb dX9_order_1 rfl (lv_at hl 1 rfl) ?_
  refine lv_iconst (v := 0) hx hb dX9_order_2 (by decide) ?_
  refine lv_aload_n hx hb dX9_order_3 rfl (lv_at hl 0 rfl) ?_
  obtain ⟨a1, e1, hw⟩ := hw
  have p_a1 : pI S 12 a1 := wf_r P.2.2.2.1 p_a0 e1
  refine gf_9_1 C P p_a0 e1 q_1306 dX9_order_4 ?_
  refine lv_sipush (v := 157) hx hb dX9_order_7 (by decide) ?_
  obtain ⟨h1, hw⟩ := hw
  refine ra_i C P p_a1 h1 dX9_order_10 ?_
  refine lv_iconst (v := 1) hx hb dX9_order_11 (by decide) ?_
  refine lv_isub hx hb dX9_order_12 ?_
  refine cl_i C P (run_S C P hl.1 (met_X9_isIn (CF_n C) G H.size _ _ S x1 0 ((mI S a1 (157 : Int32).toNatClampNeg) - 1) hw) q_1383 q_1384 q_10 q_1385 cd_X9_isIn.2 ⟨(Nat.le_of_ble_eq_true rfl), (Nat.le_of_ble_eq_true rfl)⟩ rfl rfl (As := [.int x1, .int 0, .int ((mI S a1 (157 : Int32).toNatClampNeg) - 1)]) (rest := [.ref a0]) rfl rfl (Nat.le_of_ble_eq_true rfl) dX9_order_13 ⟨by show cells + 0 ≤ 0; omega, by show slots + 0 ≤ 0; omega⟩) (kx_out C hex (fun _ _ _ h => h) (by omega) (by omega)) (fun r3 S2 H locs P hE hw => ?_)
  have p_a0 : pI S2 9 a0 := pI_x hE p_a0
  refine lv_if_eq (tgt := 23) hx hb dX9_order_16 (by decide) (fun hc => ?_) (fun hc => ?_)
  · have hw := hw.1 hc
    refine lv_iconst (v := 1) hx hb dX9_order_23 (by decide) ?_
    exact tX9_order_24 C hr hex Q QX S2 a0 x1 1 a0 p_a0 p_a0 P (lv_sub hl [0, 1] rfl) (by omega) (by omega) hw
  · have hw := hw.2 hc
    refine lv_iconst (v := 0) hx hb dX9_order_19 (by decide) ?_
    refine lv_goto (tgt := 24) hx hb dX9_order_20 (by decide) ?_
    exact tX9_order_24 C hr hex Q QX S2 a0 x1 0 a0 p_a0 p_a0 P (lv_sub hl [0, 1] rfl) (by omega) (by omega) hw
def wp_X9_order (Q : Int32 → MS → Prop) (QX : String → MS → Prop) (S : MS) (a0 : Nat) (x1 : Int32) : Prop := wX9_order_0 Q QX S a0 x1
set_option maxHeartbeats 4000000 in
set_option maxRecDepth 100000 in
theorem met_X9_order {l : Launch} (hst : l.stackTraces = false) (G : GP) (sz : Nat) (Q : Int32 → MS → Prop) (QX : String → MS → Prop) (S : MS) (a0 : Nat) (x1 : Int32) (p_a0 : pI S 9 a0) (hw : wp_X9_order Q QX S a0 x1) : vx_Met l yX9_order (.code yX9_order cX9_order 2 (some .int) :: GW) rmX9_order (va_Pc [.ref a0, .int x1] (PR G S sz)) (QI G S (FA G S sz) Q) (XX G S (FA G S sz) QX) 0 0 (FA G S sz) := by
  refine st_m (by decide +kernel) hst (fun p e s m below meth c C hr hnm hex P => ?_)
  refine en_m (Nat.le_of_ble_eq_true rfl) (lv := [(0, .ref a0), (1, .int x1)]) rfl (fun ls hl => ?_)
  have C : CF p l s m _ meth c "SkirmishGridModel" cX9_order 2 G (FA G S sz) := C
  exact tX9_order_0 C hr hex Q QX S a0 x1 p_a0 P hl (by omega) (by omega) hw
theorem cd_X9_order : yX9_order.cls = RX9 ∧ yX9_order.cls ≠ "java/lang/invoke/MethodHandle" ∧ yX9_order.cls ≠ "java/lang/invoke/VarHandle" ∧ (parseMethodDescriptor yX9_order.desc).map (fun d => d.parameters.length) = some 1 := by decide +kernel
abbrev rmX9_roll : Room := { frames := 0, cells := 0, slots := 0, locals := 0 }
def wX9_roll_0 (Q : Int32 → MS → Prop) (QX : String → MS → Prop) (S : MS) (a0 : Nat) (x1 : Int32) : Prop := (∃ a1, mR S a0 1 = some a1 ∧ (∃ a2, mR S a0 1 = some a2 ∧ (vp_in 155 (mN S a2) ∧ (vp_in 155 (mN S a1) ∧ (∀ S3, S3 = (sI S a1 (155 : Int32).toNatClampNeg (((mI S a2 (155 : Int32).toNatClampNeg) * 1103515245) + 12345)) → (∃ a4, mR S3 a0 1 = some a4 ∧ (vp_in 155 (mN S3 a4) ∧ (¬ x1 = 0 ∧ Q (((((mI S3 a4 (155 : Int32).toNatClampNeg).toUInt32 >>> ((16 : Int32).toUInt32 &&& Int32.toUInt32 31)).toInt32) - (((mI S3 a4 (155 : Int32).toNatClampNeg).toUInt32 >>> ((16 : Int32).toUInt32 &&& Int32.toUInt32 31)).toInt32) / x1 * x1) + 1) S3))))))))
set_option maxHeartbeats 4000000 in
set_option maxRecDepth 100000 in
theorem tX9_roll_0 {p : Program} {l : Launch} {e : Env} {s : State} {m : MethodId} {args : Array Value} {below : List Frame} {meth : Method} {c : Code} {H : Heap} {locs : List Loc} {cells slots : Nat} {G : GP} {A : Nat → Prop} {S0 : MS} {ls : Array Slot} (C : CF p l s m args meth c "SkirmishGridModel" cX9_roll 2 G A) (hr : meth.sig.returnType = (some .int)) (hex : ∀ x ∈ c.exceptionTable.toList, False) (Q : Int32 → MS → Prop) (QX : String → MS → Prop) (S : MS) (a0 : Nat) (x1 : Int32) (p_a0 : pI S 9 a0) (P : PW G A s H locs S0 S) (hl : lv_has ls 2 [(0, .ref a0), (1, .int x1)]) (hcc : cells + 0 ≤ 0) (hss : slots + 0 ≤ 0) (hw : wX9_roll_0 Q QX S a0 x1) : W p l e rmX9_roll s m args below meth c H locs cells slots (vx_MQ below (QI G S0 A Q) (XX G S0 A QX) args s 0 0 A) (F0 m 0 ls []) := by
  have hx := CF_x C
  have hb := CF_b C
  unfold wX9_roll_0 at hw
  refine lv_aload_n hx hb dX9_roll_0 rfl (lv_at hl 0 rfl) ?_
  obtain ⟨a1, e1, hw⟩ := hw
  have p_a1 : pI S 12 a1 := wf_r P.2.2.2.1 p_a0 e1
  refine gf_9_1 C P p_a0 e1 q_1306 dX9_roll_1 ?_
  refine lv_sipush (v := 155) hx hb dX9_roll_4 (by decide) ?_
  refine lv_aload_n hx hb dX9_roll_7 rfl (lv_at hl 0 rfl) ?_
  obtain ⟨a2, e1, hw⟩ := hw
  have p_a2 : pI S 12 a2 := wf_r P.2.2.2.1 p_a0 e1
  refine gf_9_1 C P p_a0 e1 q_1306 dX9_roll_8 ?_
  refine lv_sipush (v := 155) hx hb dX9_roll_11 (by decide) ?_
  obtain ⟨h1, hw⟩ := hw
  refine ra_i C P p_a2 h1 dX9_roll_14 ?_
  refine lv_ldc (v := 1103515245) hx hb (CF_o C) (CF_t C _ q_1531) dX9_roll_15 ?_
  refine lv_imul hx hb dX9_roll_17 ?_
  refine lv_sipush (v := 12345) hx hb dX9_roll_18 (by decide) ?_
  refine lv_iadd hx hb dX9_roll_21 ?_
  obtain ⟨h1, hw⟩ := hw
  refine rs_i C P p_a1 h1 dX9_roll_22 (fun H locs P => ?_)
  obtain ⟨S3, hS⟩ : ∃ z, z = (sI S a1 (155 : Int32).toNatClampNeg (((mI S a2 (155 : Int32).toNatClampNeg) * 1103515245) + 12345)) := ⟨_, rfl⟩
  have P : PW G A s H locs S0 S3 := by rw [hS]; exact P
  have p_a0 : pI S3 9 a0 := by rw [hS]; exact pI_x ext_sI p_a0
  have p_a1 : pI S3 12 a1 := by rw [hS]; exact pI_x ext_sI p_a1
  have hw := hw S3 hS
  refine lv_aload_n hx hb dX9_roll_23 rfl (lv_at hl 0 rfl) ?_
  obtain ⟨a4, e1, hw⟩ := hw
  have p_a4 : pI S3 12 a4 := wf_r P.2.2.2.1 p_a0 e1
  refine gf_9_1 C P p_a0 e1 q_1306 dX9_roll_24 ?_
  refine lv_sipush (v := 155) hx hb dX9_roll_27 (by decide) ?_
  obtain ⟨h1, hw⟩ := hw
  refine ra_i C P p_a4 h1 dX9_roll_30 ?_
  refine lv_bipush (v := 16) hx hb dX9_roll_31 (by decide) ?_
  refine lv_iushr (v := ((mI S3 a4 (155 : Int32).toNatClampNeg).toUInt32 >>> ((16 : Int32).toUInt32 &&& Int32.toUInt32 31)).toInt32) hx hb dX9_roll_33 rfl ?_
  refine lv_iload_n hx hb dX9_roll_34 rfl (lv_at hl 1 rfl) ?_
  obtain ⟨h1, hw⟩ := hw
  refine lv_irem hx hb dX9_roll_35 h1 ?_
  refine lv_iconst (v := 1) hx hb dX9_roll_36 (by decide) ?_
  refine lv_iadd hx hb dX9_roll_37 ?_
  exact e_i C hr rfl P hw (by omega) (by omega) dX9_roll_38
def wp_X9_roll (Q : Int32 → MS → Prop) (QX : String → MS → Prop) (S : MS) (a0 : Nat) (x1 : Int32) : Prop := wX9_roll_0 Q QX S a0 x1
set_option maxHeartbeats 4000000 in
set_option maxRecDepth 100000 in
theorem met_X9_roll {l : Launch} (hst : l.stackTraces = false) (G : GP) (sz : Nat) (Q : Int32 → MS → Prop) (QX : String → MS → Prop) (S : MS) (a0 : Nat) (x1 : Int32) (p_a0 : pI S 9 a0) (hw : wp_X9_roll Q QX S a0 x1) : vx_Met l yX9_roll (.code yX9_roll cX9_roll 2 (some .int) :: GW) rmX9_roll (va_Pc [.ref a0, .int x1] (PR G S sz)) (QI G S (FA G S sz) Q) (XX G S (FA G S sz) QX) 0 0 (FA G S sz) := by
  refine st_m (by decide +kernel) hst (fun p e s m below meth c C hr hnm hex P => ?_)
  refine en_m (Nat.le_of_ble_eq_true rfl) (lv := [(0, .ref a0), (1, .int x1)]) rfl (fun ls hl => ?_)
  have C : CF p l s m _ meth c "SkirmishGridModel" cX9_roll 2 G (FA G S sz) := C
  exact tX9_roll_0 C hr hex Q QX S a0 x1 p_a0 P hl (by omega) (by omega) hw
theorem cd_X9_roll : yX9_roll.cls = RX9 ∧ yX9_roll.cls ≠ "java/lang/invoke/MethodHandle" ∧ yX9_roll.cls ≠ "java/lang/invoke/VarHandle" ∧ (parseMethodDescriptor yX9_roll.desc).map (fun d => d.parameters.length) = some 1 := by decide +kernel
abbrev rmX9_tells : Room := { frames := 0, cells := 0, slots := 0, locals := 0 }
def wX9_tells_65 (Q : MS → Prop) (QX : String → MS → Prop) (S : MS) (a0 : Nat) (y1 : Int32) (y2 : Int32) (y3 : Int32) : Prop := (∃ a1, mR S a0 1 = some a1 ∧ (vp_in 168 (mN S a1) ∧ (∃ a2, mR S a0 1 = some a2 ∧ (vp_in (169 + (3 * (mI S a1 (168 : Int32).toNatClampNeg))) (mN S a2) ∧ (∀ S3, S3 = (sI S a2 ((169 + (3 * (mI S a1 (168 : Int32).toNatClampNeg))) : Int32).toNatClampNeg y1) → (∃ a4, mR S3 a0 1 = some a4 ∧ (vp_in ((169 + (3 * (mI S a1 (168 : Int32).toNatClampNeg))) + 1) (mN S3 a4) ∧ (∀ S5, S5 = (sI S3 a4 (((169 + (3 * (mI S a1 (168 : Int32).toNatClampNeg))) + 1) : Int32).toNatClampNeg y2) → (∃ a6, mR S5 a0 1 = some a6 ∧ (vp_in ((169 + (3 * (mI S a1 (168 : Int32).toNatClampNeg))) + 2) (mN S5 a6) ∧ (∀ S7, S7 = (sI S5 a6 (((169 + (3 * (mI S a1 (168 : Int32).toNatClampNeg))) + 2) : Int32).toNatClampNeg y3) → (∃ a8, mR S7 a0 1 = some a8 ∧ (vp_in 168 (mN S7 a8) ∧ (vp_in 168 (mN S7 a8) ∧ (∀ S9, S9 = (sI S7 a8 (168 : Int32).toNatClampNeg ((mI S7 a8 (168 : Int32).toNatClampNeg) + 1)) → Q S9)))))))))))))))
set_option maxHeartbeats 4000000 in
set_option maxRecDepth 100000 in
theorem tX9_tells_65 {p : Program} {l : Launch} {e : Env} {s : State} {m : MethodId} {args : Array Value} {below : List Frame} {meth : Method} {c : Code} {H : Heap} {locs : List Loc} {cells slots : Nat} {G : GP} {A : Nat → Prop} {S0 : MS} {ls : Array Slot} (C : CF p l s m args meth c "SkirmishGridModel" cX9_tells 5 G A) (hr : meth.sig.returnType = none) (hex : ∀ x ∈ c.exceptionTable.toList, False) (Q : MS → Prop) (QX : String → MS → Prop) (S : MS) (a0 : Nat) (y1 : Int32) (y2 : Int32) (y3 : Int32) (p_a0 : pI S 9 a0) (P : PW G A s H locs S0 S) (hl : lv_has ls 5 [(0, .ref a0), (1, .int y1), (2, .int y2), (3, .int y3)]) (hcc : cells + 0 ≤ 0) (hss : slots + 0 ≤ 0) (hw : wX9_tells_65 Q QX S a0 y1 y2 y3) : W p l e rmX9_tells s m args below meth c H locs cells slots (vx_MQ below (QV G S0 A Q) (XX G S0 A QX) args s 0 0 A) (F0 m 65 ls []) := by
  have hx := CF_x C
  have hb := CF_b C
  unfold wX9_tells_65 at hw
  refine lv_sipush (v := 169) hx hb dX9_tells_65 (by decide) ?_
  refine lv_iconst (v := 3) hx hb dX9_tells_68 (by decide) ?_
  refine lv_aload_n hx hb dX9_tells_69 rfl (lv_at hl 0 rfl) ?_
  obtain ⟨a1, e1, hw⟩ := hw
  have p_a1 : pI S 12 a1 := wf_r P.2.2.2.1 p_a0 e1
  refine gf_9_1 C P p_a0 e1 q_1306 dX9_tells_70 ?_
  refine lv_sipush (v := 168) hx hb dX9_tells_73 (by decide) ?_
  obtain ⟨h1, hw⟩ := hw
  refine ra_i C P p_a1 h1 dX9_tells_76 ?_
  refine lv_imul hx hb dX9_tells_77 ?_
  refine lv_iadd hx hb dX9_tells_78 ?_
  refine lv_istore (lv' := [(4, .int (169 + (3 * (mI S a1 (168 : Int32).toNatClampNeg)))), (0, .ref a0), (1, .int y1), (2, .int y2), (3, .int y3)]) hx hb dX9_tells_79 hl (by decide) rfl (fun ls hl => ?_)
  refine lv_aload_n hx hb dX9_tells_81 rfl (lv_at hl 1 rfl) ?_
  obtain ⟨a2, e1, hw⟩ := hw
  have p_a2 : pI S 12 a2 := wf_r P.2.2.2.1 p_a0 e1
  refine gf_9_1 C P p_a0 e1 q_1306 dX9_tells_82 ?_
  refine lv_iload hx hb dX9_tells_85 (lv_at hl 0 rfl) ?_
  refine lv_iload_n hx hb dX9_tells_87 rfl (lv_at hl 2 rfl) ?_
  obtain ⟨h1, hw⟩ := hw
  refine rs_i C P p_a2 h1 dX9_tells_88 (fun H locs P => ?_)
  obtain ⟨S3, hS⟩ : ∃ z, z = (sI S a2 ((169 + (3 * (mI S a1 (168 : Int32).toNatClampNeg))) : Int32).toNatClampNeg y1) := ⟨_, rfl⟩
  have P : PW G A s H locs S0 S3 := by rw [hS]; exact P
  have p_a0 : pI S3 9 a0 := by rw [hS]; exact pI_x ext_sI p_a0
  have p_a2 : pI S3 12 a2 := by rw [hS]; exact pI_x ext_sI p_a2
  have hw := hw S3 hS
  refine lv_aload_n hx hb dX9_tells_89 rfl (lv_at hl 1 rfl) ?_
  obtain ⟨a4, e1, hw⟩ := hw
  have p_a4 : pI S3 12 a4 := wf_r P.2.2.2.1 p_a0 e1
  refine gf_9_1 C P p_a0 e1 q_1306 dX9_tells_90 ?_
  refine lv_iload hx hb dX9_tells_93 (lv_at hl 0 rfl) ?_
  refine lv_iconst (v := 1) hx hb dX9_tells_95 (by decide) ?_
  refine lv_iadd hx hb dX9_tells_96 ?_
  refine lv_iload_n hx hb dX9_tells_97 rfl (lv_at hl 3 rfl) ?_
  obtain ⟨h1, hw⟩ := hw
  refine rs_i C P p_a4 h1 dX9_tells_98 (fun H locs P => ?_)
  obtain ⟨S5, hS⟩ : ∃ z, z = (sI S3 a4 (((169 + (3 * (mI S a1 (168 : Int32).toNatClampNeg))) + 1) : Int32).toNatClampNeg y2) := ⟨_, rfl⟩
  have P : PW G A s H locs S0 S5 := by rw [hS]; exact P
  have p_a0 : pI S5 9 a0 := by rw [hS]; exact pI_x ext_sI p_a0
  have p_a4 : pI S5 12 a4 := by rw [hS]; exact pI_x ext_sI p_a4
  have hw := hw S5 hS
  refine lv_aload_n hx hb dX9_tells_99 rfl (lv_at hl 1 rfl) ?_
  obtain ⟨a6, e1, hw⟩ := hw
  have p_a6 : pI S5 12 a6 := wf_r P.2.2.2.1 p_a0 e1
  refine gf_9_1 C P p_a0 e1 q_1306 dX9_tells_100 ?_
  refine lv_iload hx hb dX9_tells_103 (lv_at hl 0 rfl) ?_
  refine lv_iconst (v := 2) hx hb dX9_tells_105 (by decide) ?_
  refine lv_iadd hx hb dX9_tells_106 ?_
  refine lv_iload_n hx hb dX9_tells_107 rfl (lv_at hl 4 rfl) ?_
  obtain ⟨h1, hw⟩ := hw
  refine rs_i C P p_a6 h1 dX9_tells_108 (fun H locs P => ?_)
  obtain ⟨S7, hS⟩ : ∃ z, z = (sI S5 a6 (((169 + (3 * (mI S a1 (168 : Int32).toNatClampNeg))) + 2) : Int32).toNatClampNeg y3) := ⟨_, rfl⟩
  have P : PW G A s H locs S0 S7 := by rw [hS]; exact P
  have p_a0 : pI S7 9 a0 := by rw [hS]; exact pI_x ext_sI p_a0
  have p_a6 : pI S7 12 a6 := by rw [hS]; exact pI_x ext_sI p_a6
  have hw := hw S7 hS
  refine lv_aload_n hx hb dX9_tells_109 rfl (lv_at hl 1 rfl) ?_
  obtain ⟨a8, e1, hw⟩ := hw
  have p_a8 : pI S7 12 a8 := wf_r P.2.2.2.1 p_a0 e1
  refine gf_9_1 C P p_a0 e1 q_1306 dX9_tells_110 ?_
  refine lv_sipush (v := 168) hx hb dX9_tells_113 (by decide) ?_
  refine lv_dup2_11 hx hb dX9_tells_116 rfl rfl ?_
  obtain ⟨h1, hw⟩ := hw
  refine ra_i C P p_a8 h1 dX9_tells_117 ?_
  refine lv_iconst (v := 1) hx hb dX9_tells_118 (by decide) ?_
  refine lv_iadd hx hb dX9_tells_119 ?_
  obtain ⟨h1, hw⟩ := hw
  refine rs_i C P p_a8 h1 dX9_tells_120 (fun H locs P => ?_)
  obtain ⟨S9, hS⟩ : ∃ z, z = (sI S7 a8 (168 : Int32).toNatClampNeg ((mI S7 a8 (168 : Int32).toNatClampNeg) + 1)) := ⟨_, rfl⟩
  have P : PW G A s H locs S0 S9 := by rw [hS]; exact P
  have p_a8 : pI S9 12 a8 := by rw [hS]; exact pI_x ext_sI p_a8
  have hw := hw S9 hS
  exact e_v C hr P hw (by omega) (by omega) dX9_tells_121
def wX9_tells_16 (Q : MS → Prop) (QX : String → MS → Prop) (k16 : MS → Nat → Int32 → Int32 → Int32 → Int32 → Prop) (S : MS) (a0 : Nat) (y1 : Int32) (y2 : Int32) (y3 : Int32) (y4 : Int32) : Prop := ((117 ≤ y4 → (∃ a1, mR S a0 1 = some a1 ∧ (vp_in 168 (mN S a1) ∧ (vp_in 168 (mN S a1) ∧ (∀ S2, S2 = (sI S a1 (168 : Int32).toNatClampNeg ((mI S a1 (168 : Int32).toNatClampNeg) - 1)) → wX9_tells_65 Q QX S2 a0 y1 y2 y3))))) ∧ (¬ 117 ≤ y4 → (∃ a3, mR S a0 1 = some a3 ∧ (∃ a4, mR S a0 1 = some a4 ∧ (vp_in ((169 + y4) + 3) (mN S a4) ∧ (vp_in (169 + y4) (mN S a3) ∧ (∀ S5, S5 = (sI S a3 ((169 + y4) : Int32).toNatClampNeg (mI S a4 (((169 + y4) + 3) : Int32).toNatClampNeg)) → k16 S5 a0 y1 y2 y3 (y4 + 1))))))))
set_option maxHeartbeats 4000000 in
set_option maxRecDepth 100000 in
theorem tX9_tells_16 {p : Program} {l : Launch} {e : Env} {s : State} {m : MethodId} {args : Array Value} {below : List Frame} {meth : Method} {c : Code} {H : Heap} {locs : List Loc} {cells slots : Nat} {G : GP} {A : Nat → Prop} {S0 : MS} {ls : Array Slot} (C : CF p l s m args meth c "SkirmishGridModel" cX9_tells 5 G A) (hr : meth.sig.returnType = none) (hex : ∀ x ∈ c.exceptionTable.toList, False) (Q : MS → Prop) (QX : String → MS → Prop) (k16 : MS → Nat → Int32 → Int32 → Int32 → Int32 → Prop) (kh16 : ∀ (S : MS) (a0 : Nat) (y1 : Int32) (y2 : Int32) (y3 : Int32) (y4 : Int32) (cells slots : Nat) (H : Heap) (locs : List Loc) (ls : Array Slot), pI S 9 a0 → PW G A s H locs S0 S → lv_has ls 5 [(0, .ref a0), (1, .int y1), (2, .int y2), (3, .int y3), (4, .int y4)] → cells + 0 ≤ 0 → slots + 0 ≤ 0 → k16 S a0 y1 y2 y3 y4 → W p l e rmX9_tells s m args below meth c H locs cells slots (vx_MQ below (QV G S0 A Q) (XX G S0 A QX) args s 0 0 A) (F0 m 16 ls [])) (S : MS) (a0 : Nat) (y1 : Int32) (y2 : Int32) (y3 : Int32) (y4 : Int32) (p_a0 : pI S 9 a0) (P : PW G A s H locs S0 S) (hl : lv_has ls 5 [(0, .ref a0), (1, .int y1), (2, .int y2), (3, .int y3), (4, .int y4)]) (hcc : cells + 0 ≤ 0) (hss : slots + 0 ≤ 0) (hw : wX9_tells_16 Q QX k16 S a0 y1 y2 y3 y4) : W p l e rmX9_tells s m args below meth c H locs cells slots (vx_MQ below (QV G S0 A Q) (XX G S0 A QX) args s 0 0 A) (F0 m 16 ls []) := by
  have hx := CF_x C
  have hb := CF_b C
  unfold wX9_tells_16 at hw
  refine lv_iload hx hb dX9_tells_16 (lv_at hl 4 rfl) ?_
  refine lv_bipush (v := 117) hx hb dX9_tells_18 (by decide) ?_
  refine lv_icmp_ge (tgt := 53) hx hb dX9_tells_20 (by decide) (fun hc => ?_) (fun hc => ?_)
  · have hw := hw.1 hc
    refine lv_aload_n hx hb dX9_tells_53 rfl (lv_at hl 0 rfl) ?_
    obtain ⟨a1, e1, hw⟩ := hw
    have p_a1 : pI S 12 a1 := wf_r P.2.2.2.1 p_a0 e1
    refine gf_9_1 C P p_a0 e1 q_1306 dX9_tells_54 ?_
    refine lv_sipush (v := 168) hx hb dX9_tells_57 (by decide) ?_
    refine lv_dup2_11 hx hb dX9_tells_60 rfl rfl ?_
    obtain ⟨h1, hw⟩ := hw
    refine ra_i C P p_a1 h1 dX9_tells_61 ?_
    refine lv_iconst (v := 1) hx hb dX9_tells_62 (by decide) ?_
    refine lv_isub hx hb dX9_tells_63 ?_
    obtain ⟨h1, hw⟩ := hw
    refine rs_i C P p_a1 h1 dX9_tells_64 (fun H locs P => ?_)
    obtain ⟨S2, hS⟩ : ∃ z, z = (sI S a1 (168 : Int32).toNatClampNeg ((mI S a1 (168 : Int32).toNatClampNeg) - 1)) := ⟨_, rfl⟩
    have P : PW G A s H locs S0 S2 := by rw [hS]; exact P
    have p_a0 : pI S2 9 a0 := by rw [hS]; exact pI_x ext_sI p_a0
    have p_a1 : pI S2 12 a1 := by rw [hS]; exact pI_x ext_sI p_a1
    have hw := hw S2 hS
    exact tX9_tells_65 C hr hex Q QX S2 a0 y1 y2 y3 p_a0 P (lv_sub hl [0, 1, 2, 3] rfl) (by omega) (by omega) hw
  · have hw := hw.2 hc
    refine lv_aload_n hx hb dX9_tells_23 rfl (lv_at hl 0 rfl) ?_
    obtain ⟨a3, e1, hw⟩ := hw
    have p_a3 : pI S 12 a3 := wf_r P.2.2.2.1 p_a0 e1
    refine gf_9_1 C P p_a0 e1 q_1306 dX9_tells_24 ?_
    refine lv_sipush (v := 169) hx hb dX9_tells_27 (by decide) ?_
    refine lv_iload hx hb dX9_tells_30 (lv_at hl 4 rfl) ?_
    refine lv_iadd hx hb dX9_tells_32 ?_
    refine lv_aload_n hx hb dX9_tells_33 rfl (lv_at hl 0 rfl) ?_
    obtain ⟨a4, e1, hw⟩ := hw
    have p_a4 : pI S 12 a4 := wf_r P.2.2.2.1 p_a0 e1
    refine gf_9_1 C P p_a0 e1 q_1306 dX9_tells_34 ?_
    refine lv_sipush (v := 169) hx hb dX9_tells_37 (by decide) ?_
    refine lv_iload hx hb dX9_tells_40 (lv_at hl 4 rfl) ?_
    refine lv_iadd hx hb dX9_tells_42 ?_
    refine lv_iconst (v := 3) hx hb dX9_tells_43 (by decide) ?_
    refine lv_iadd hx hb dX9_tells_44 ?_
    obtain ⟨h1, hw⟩ := hw
    refine ra_i C P p_a4 h1 dX9_tells_45 ?_
    obtain ⟨h1, hw⟩ := hw
    refine rs_i C P p_a3 h1 dX9_tells_46 (fun H locs P => ?_)
    obtain ⟨S5, hS⟩ : ∃ z, z = (sI S a3 ((169 + y4) : Int32).toNatClampNeg (mI S a4 (((169 + y4) + 3) : Int32).toNatClampNeg)) := ⟨_, rfl⟩
    have P : PW G A s H locs S0 S5 := by rw [hS]; exact P
    have p_a0 : pI S5 9 a0 := by rw [hS]; exact pI_x ext_sI p_a0
    have p_a3 : pI S5 12 a3 := by rw [hS]; exact pI_x ext_sI p_a3
    have hw := hw S5 hS
    refine lv_iinc (v := (y4 + 1)) (lv' := [(4, .int (y4 + 1)), (0, .ref a0), (1, .int y1), (2, .int y2), (3, .int y3)]) hx hb dX9_tells_47 hl (k := 4) rfl (by rfl) (by decide) rfl (fun ls hl => ?_)
    refine lv_goto (tgt := 16) hx hb dX9_tells_50 (by decide) ?_
    exact kh16 S5 a0 y1 y2 y3 (y4 + 1) _ _ _ _ _ p_a0 P (lv_sub hl [1, 2, 3, 4, 0] rfl) (by omega) (by omega) hw
def lX9_tells_16 (Q : MS → Prop) (QX : String → MS → Prop) : Nat → MS → Nat → Int32 → Int32 → Int32 → Int32 → Prop
  | 0 => fun _ _ _ _ _ _ => False
  | n + 1 => fun S a0 y1 y2 y3 y4 => wX9_tells_16 Q QX (lX9_tells_16 Q QX n) S a0 y1 y2 y3 y4
theorem tlX9_tells_16 {p : Program} {l : Launch} {e : Env} {s : State} {m : MethodId} {args : Array Value} {below : List Frame} {meth : Method} {c : Code} {G : GP} {A : Nat → Prop} {S0 : MS} (C : CF p l s m args meth c "SkirmishGridModel" cX9_tells 5 G A) (hr : meth.sig.returnType = none) (hex : ∀ x ∈ c.exceptionTable.toList, False) (Q : MS → Prop) (QX : String → MS → Prop) : ∀ (n : Nat), ∀ (S : MS) (a0 : Nat) (y1 : Int32) (y2 : Int32) (y3 : Int32) (y4 : Int32) (cells slots : Nat) (H : Heap) (locs : List Loc) (ls : Array Slot), pI S 9 a0 → PW G A s H locs S0 S → lv_has ls 5 [(0, .ref a0), (1, .int y1), (2, .int y2), (3, .int y3), (4, .int y4)] → cells + 0 ≤ 0 → slots + 0 ≤ 0 → lX9_tells_16 Q QX n S a0 y1 y2 y3 y4 → W p l e rmX9_tells s m args below meth c H locs cells slots (vx_MQ below (QV G S0 A Q) (XX G S0 A QX) args s 0 0 A) (F0 m 16 ls []) := by
  intro n
  induction n with
  | zero => intro S a0 y1 y2 y3 y4 cells slots H locs ls p_a0 P hl hcc hss hw; exact hw.elim
  | succ n ih => intro S a0 y1 y2 y3 y4 cells slots H locs ls p_a0 P hl hcc hss hw; exact tX9_tells_16 C hr hex Q QX (lX9_tells_16 Q QX n) ih S a0 y1 y2 y3 y4 p_a0 P hl hcc hss hw
def wX9_tells_0 (Q : MS → Prop) (QX : String → MS → Prop) (S : MS) (a0 : Nat) (x1 : Int32) (x2 : Int32) (x3 : Int32) : Prop := (∃ a1, mR S a0 1 = some a1 ∧ (vp_in 168 (mN S a1) ∧ ((¬ (mI S a1 (168 : Int32).toNatClampNeg) = 40 → wX9_tells_65 Q QX S a0 x1 x2 x3) ∧ ((mI S a1 (168 : Int32).toNatClampNeg) = 40 → (∃ n, lX9_tells_16 Q QX n S a0 x1 x2 x3 0)))))
set_option maxHeartbeats 4000000 in
set_option maxRecDepth 100000 in
theorem tX9_tells_0 {p : Program} {l : Launch} {e : Env} {s : State} {m : MethodId} {args : Array Value} {below : List Frame} {meth : Method} {c : Code} {H : Heap} {locs : List Loc} {cells slots : Nat} {G : GP} {A : Nat → Prop} {S0 : MS} {ls : Array Slot} (C : CF p l s m args meth c "SkirmishGridModel" cX9_tells 5 G A) (hr : meth.sig.returnType = none) (hex : ∀ x ∈ c.exceptionTable.toList, False) (Q : MS → Prop) (QX : String → MS → Prop) (S : MS) (a0 : Nat) (x1 : Int32) (x2 : Int32) (x3 : Int32) (p_a0 : pI S 9 a0) (P : PW G A s H locs S0 S) (hl : lv_has ls 5 [(0, .ref a0), (1, .int x1), (2, .int x2), (3, .int x3)]) (hcc : cells + 0 ≤ 0) (hss : slots + 0 ≤ 0) (hw : wX9_tells_0 Q QX S a0 x1 x2 x3) : W p l e rmX9_tells s m args below meth c H locs cells slots (vx_MQ below (QV G S0 A Q) (XX G S0 A QX) args s 0 0 A) (F0 m 0 ls []) := by
  have hx := CF_x C
  have hb := CF_b C
  unfold wX9_tells_0 at hw
  refine lv_aload_n hx hb dX9_tells_0 rfl (lv_at hl 0 rfl) ?_
  obtain ⟨a1, e1, hw⟩ := hw
  have p_a1 : pI S 12 a1 := wf_r P.2.2.2.1 p_a0 e1
  refine gf_9_1 C P p_a0 e1 q_1306 dX9_tells_1 ?_
  refine lv_sipush (v := 168) hx hb dX9_tells_4 (by decide) ?_
  obtain ⟨h1, hw⟩ := hw
  refine ra_i C P p_a1 h1 dX9_tells_7 ?_
  refine lv_bipush (v := 40) hx hb dX9_tells_8 (by decide) ?_
  refine lv_icmp_ne (tgt := 65) hx hb dX9_tells_10 (by decide) (fun hc => ?_) (fun hc => ?_)
  · have hw := hw.1 hc
    exact tX9_tells_65 C hr hex Q QX S a0 x1 x2 x3 p_a0 P (lv_sub hl [0, 1, 2, 3] rfl) (by omega) (by omega) hw
  · have hw := hw.2 hc
    refine lv_iconst (v := 0) hx hb dX9_tells_13 (by decide) ?_
    refine lv_istore (lv' := [(4, .int 0), (0, .ref a0), (1, .int x1), (2, .int x2), (3, .int x3)]) hx hb dX9_tells_14 hl (by decide) rfl (fun ls hl => ?_)
    obtain ⟨n, hw⟩ := hw
    exact tlX9_tells_16 C hr hex Q QX n S a0 x1 x2 x3 0 _ _ _ _ _ p_a0 P (lv_sub hl [1, 2, 3, 4, 0] rfl) (by omega) (by omega) hw
def wp_X9_tells (Q : MS → Prop) (QX : String → MS → Prop) (S : MS) (a0 : Nat) (x1 : Int32) (x2 : Int32) (x3 : Int32) : Prop := wX9_tells_0 Q QX S a0 x1 x2 x3
set_option maxHeartbeats 4000000 in
set_option maxRecDepth 100000 in
theorem met_X9_tells {l : Launch} (hst : l.stackTraces = false) (G : GP) (sz : Nat) (Q : MS → Prop) (QX : String → MS → Prop) (S : MS) (a0 : Nat) (x1 : Int32) (x2 : Int32) (x3 : Int32) (p_a0 : pI S 9 a0) (hw : wp_X9_tells Q QX S a0 x1 x2 x3) : vx_Met l yX9_tells (.code yX9_tells cX9_tells 5 none :: GW) rmX9_tells (va_Pc [.ref a0, .int x1, .int x2, .int x3] (PR G S sz)) (QV G S (FA G S sz) Q) (XX G S (FA G S sz) QX) 0 0 (FA G S sz) := by
  refine st_m (by decide +kernel) hst (fun p e s m below meth c C hr hnm hex P => ?_)
  refine en_m (Nat.le_of_ble_eq_true rfl) (lv := [(0, .ref a0), (1, .int x1), (2, .int x2), (3, .int x3)]) rfl (fun ls hl => ?_)
  have C : CF p l s m _ meth c "SkirmishGridModel" cX9_tells 5 G (FA G S sz) := C
  exact tX9_tells_0 C hr hex Q QX S a0 x1 x2 x3 p_a0 P hl (by omega) (by omega) hw
theorem cd_X9_tells : yX9_tells.cls = RX9 ∧ yX9_tells.cls ≠ "java/lang/invoke/MethodHandle" ∧ yX9_tells.cls ≠ "java/lang/invoke/VarHandle" ∧ (parseMethodDescriptor yX9_tells.desc).map (fun d => d.parameters.length) = some 3 := by decide +kernel
abbrev rmX9_loses : Room := { frames := 1, cells := 0, slots := 0, locals := 23 }
def wX9_loses_21 (Q : MS → Prop) (QX : String → MS → Prop) (S : MS) (z0 : Int32) (z1 : Int32) (z2 : Int32) (w3 : Nat) : Prop := wp_X9_sets (fun S1 => Q S1) QX S w3 z2 z1 z0
set_option maxHeartbeats 4000000 in
set_option maxRecDepth 100000 in
theorem tX9_loses_21 {p : Program} {l : Launch} {e : Env} {s : State} {m : MethodId} {args : Array Value} {below : List Frame} {meth : Method} {c : Code} {H : Heap} {locs : List Loc} {cells slots : Nat} {G : GP} {A : Nat → Prop} {S0 : MS} {ls : Array Slot} (C : CF p l s m args meth c "SkirmishGridModel" cX9_loses 4 G A) (hr : meth.sig.returnType = none) (hex : ∀ x ∈ c.exceptionTable.toList, False) (Q : MS → Prop) (QX : String → MS → Prop) (S : MS) (z0 : Int32) (z1 : Int32) (z2 : Int32) (w3 : Nat) (p_w3 : pI S 9 w3) (P : PW G A s H locs S0 S) (hl : lv_has ls 4 []) (hcc : cells + 0 ≤ 0) (hss : slots + 0 ≤ 0) (hw : wX9_loses_21 Q QX S z0 z1 z2 w3) : W p l e rmX9_loses s m args below meth c H locs cells slots (vx_MQ below (QV G S0 A Q) (XX G S0 A QX) args s 0 0 A) (F0 m 21 ls [.int z0, .int z1, .int z2, .ref w3]) := by
  have hx := CF_x C
  have hb := CF_b C
  unfold wX9_loses_21 at hw
  refine cl_v C P (run_V C P hl.1 (kd := 9) (met_X9_sets (CF_n C) G H.size _ _ S w3 z2 z1 z0 p_w3 hw) p_w3 (by decide) rfl q_1465 q_1467 q_p36 q_10 q_1468 cd_X9_sets ⟨(Nat.le_of_ble_eq_true rfl), (Nat.le_of_ble_eq_true rfl)⟩ rfl rfl (As := [.int z2, .int z1, .int z0]) (rest := []) rfl rfl (Nat.le_of_ble_eq_true rfl) dX9_loses_21 ⟨by show cells + 0 ≤ 0; omega, by show slots + 0 ≤ 0; omega⟩) (kx_out C hex (fun _ _ _ h => h) (by omega) (by omega)) (fun S1 H locs P hE hw => ?_)
  have p_w3 : pI S1 9 w3 := pI_x hE p_w3
  exact e_v C hr P hw (by omega) (by omega) dX9_loses_24
def wX9_loses_0 (Q : MS → Prop) (QX : String → MS → Prop) (S : MS) (a0 : Nat) (x1 : Int32) (x2 : Int32) : Prop := wp_X9_of (fun r2 S1 => ((0 ≤ (r2 - x2) → wX9_loses_21 Q QX S1 (r2 - x2) 3 x1 a0) ∧ (¬ 0 ≤ (r2 - x2) → wX9_loses_21 Q QX S1 0 3 x1 a0))) QX S a0 x1 3
set_option maxHeartbeats 4000000 in
set_option maxRecDepth 100000 in
theorem tX9_loses_0 {p : Program} {l : Launch} {e : Env} {s : State} {m : MethodId} {args : Array Value} {below : List Frame} {meth : Method} {c : Code} {H : Heap} {locs : List Loc} {cells slots : Nat} {G : GP} {A : Nat → Prop} {S0 : MS} {ls : Array Slot} (C : CF p l s m args meth c "SkirmishGridModel" cX9_loses 4 G A) (hr : meth.sig.returnType = none) (hex : ∀ x ∈ c.exceptionTable.toList, False) (Q : MS → Prop) (QX : String → MS → Prop) (S : MS) (a0 : Nat) (x1 : Int32) (x2 : Int32) (p_a0 : pI S 9 a0) (P : PW G A s H locs S0 S) (hl : lv_has ls 4 [(0, .ref a0), (1, .int x1), (2, .int x2)]) (hcc : cells + 0 ≤ 0) (hss : slots + 0 ≤ 0) (hw : wX9_loses_0 Q QX S a0 x1 x2) : W p l e rmX9_loses s m args below meth c H locs cells slots (vx_MQ below (QV G S0 A Q) (XX G S0 A QX) args s 0 0 A) (F0 m 0 ls []) := by
  have hx := CF_x C
  have hb := CF_b C
  unfold wX9_loses_0 at hw
  refine lv_aload_n hx hb dX9_loses_0 rfl (lv_at hl 0 rfl) ?_
  refine lv_iload_n hx hb dX9_loses_1 rfl (lv_at hl 1 rfl) ?_
  refine lv_iconst (v := 3) hx hb dX9_loses_2 (by decide) ?_
  refine cl_i C P (run_V C P hl.1 (kd := 9) (met_X9_of (CF_n C) G H.size _ _ S a0 x1 3 p_a0 hw) p_a0 (by decide) rfl q_1457 q_1459 q_p34 q_10 q_1460 cd_X9_of ⟨(Nat.le_of_ble_eq_true rfl), (Nat.le_of_ble_eq_true rfl)⟩ rfl rfl (As := [.int x1, .int 3]) (rest := []) rfl rfl (Nat.le_of_ble_eq_true rfl) dX9_loses_3 ⟨by show cells + 0 ≤ 0; omega, by show slots + 0 ≤ 0; omega⟩) (kx_out C hex (fun _ _ _ h => h) (by omega) (by omega)) (fun r2 S1 H locs P hE hw => ?_)
  have p_a0 : pI S1 9 a0 := pI_x hE p_a0
  refine lv_iload_n hx hb dX9_loses_6 rfl (lv_at hl 2 rfl) ?_
  refine lv_isub hx hb dX9_loses_7 ?_
  refine lv_istore_n (lv' := [(3, .int (r2 - x2)), (0, .ref a0), (1, .int x1), (2, .int x2)]) hx hb dX9_loses_8 rfl hl (by decide) rfl (fun ls hl => ?_)
  refine lv_aload_n hx hb dX9_loses_9 rfl (lv_at hl 1 rfl) ?_
  refine lv_iload_n hx hb dX9_loses_10 rfl (lv_at hl 2 rfl) ?_
  refine lv_iconst (v := 3) hx hb dX9_loses_11 (by decide) ?_
  refine lv_iload_n hx hb dX9_loses_12 rfl (lv_at hl 0 rfl) ?_
  refine lv_if_ge (tgt := 20) hx hb dX9_loses_13 (by decide) (fun hc => ?_) (fun hc => ?_)
  · have hw := hw.1 hc
    refine lv_iload_n hx hb dX9_loses_20 rfl (lv_at hl 0 rfl) ?_
    exact tX9_loses_21 C hr hex Q QX S1 (r2 - x2) 3 x1 a0 p_a0 P (lv_sub hl [] rfl) (by omega) (by omega) hw
  · have hw := hw.2 hc
    refine lv_iconst (v := 0) hx hb dX9_loses_16 (by decide) ?_
    refine lv_goto (tgt := 21) hx hb dX9_loses_17 (by decide) ?_
    exact tX9_loses_21 C hr hex Q QX S1 0 3 x1 a0 p_a0 P (lv_sub hl [] rfl) (by omega) (by omega) hw
def wp_X9_loses (Q : MS → Prop) (QX : String → MS → Prop) (S : MS) (a0 : Nat) (x1 : Int32) (x2 : Int32) : Prop := wX9_loses_0 Q QX S a0 x1 x2
set_option maxHeartbeats 4000000 in
set_option maxRecDepth 100000 in
theorem met_X9_loses {l : Launch} (hst : l.stackTraces = false) (G : GP) (sz : Nat) (Q : MS → Prop) (QX : String → MS → Prop) (S : MS) (a0 : Nat) (x1 : Int32) (x2 : Int32) (p_a0 : pI S 9 a0) (hw : wp_X9_loses Q QX S a0 x1 x2) : vx_Met l yX9_loses (.code yX9_loses cX9_loses 4 none :: GW) rmX9_loses (va_Pc [.ref a0, .int x1, .int x2] (PR G S sz)) (QV G S (FA G S sz) Q) (XX G S (FA G S sz) QX) 0 0 (FA G S sz) := by
  refine st_m (by decide +kernel) hst (fun p e s m below meth c C hr hnm hex P => ?_)
  refine en_m (Nat.le_of_ble_eq_true rfl) (lv := [(0, .ref a0), (1, .int x1), (2, .int x2)]) rfl (fun ls hl => ?_)
  have C : CF p l s m _ meth c "SkirmishGridModel" cX9_loses 4 G (FA G S sz) := C
  exact tX9_loses_0 C hr hex Q QX S a0 x1 x2 p_a0 P hl (by omega) (by omega) hw
theorem cd_X9_loses : yX9_loses.cls = RX9 ∧ yX9_loses.cls ≠ "java/lang/invoke/MethodHandle" ∧ yX9_loses.cls ≠ "java/lang/invoke/VarHandle" ∧ (parseMethodDescriptor yX9_loses.desc).map (fun d => d.parameters.length) = some 2 := by decide +kernel
abbrev rmX9_dies : Room := { frames := 2, cells := 0, slots := 0, locals := 43 }
def wX9_dies_0 (Q : MS → Prop) (QX : String → MS → Prop) (S : MS) (a0 : Nat) (x1 : Int32) : Prop := wp_X9_lives (fun r2 S1 => ((¬ r2 = 0 → Q S1) ∧ (r2 = 0 → wp_X9_tells (fun S3 => Q S3) QX S1 a0 4 x1 0))) QX S a0 x1
set_option maxHeartbeats 4000000 in
set_option maxRecDepth 100000 in
theorem tX9_dies_0 {p : Program} {l : Launch} {e : Env} {s : State} {m : MethodId} {args : Array Value} {below : List Frame} {meth : Method} {c : Code} {H : Heap} {locs : List Loc} {cells slots : Nat} {G : GP} {A : Nat → Prop} {S0 : MS} {ls : Array Slot} (C : CF p l s m args meth c "SkirmishGridModel" cX9_dies 2 G A) (hr : meth.sig.returnType = none) (hex : ∀ x ∈ c.exceptionTable.toList, False) (Q : MS → Prop) (QX : String → MS → Prop) (S : MS) (a0 : Nat) (x1 : Int32) (p_a0 : pI S 9 a0) (P : PW G A s H locs S0 S) (hl : lv_has ls 2 [(0, .ref a0), (1, .int x1)]) (hcc : cells + 0 ≤ 0) (hss : slots + 0 ≤ 0) (hw : wX9_dies_0 Q QX S a0 x1) : W p l e rmX9_dies s m args below meth c H locs cells slots (vx_MQ below (QV G S0 A Q) (XX G S0 A QX) args s 0 0 A) (F0 m 0 ls []) := by
  have hx := CF_x C
  have hb := CF_b C
  unfold wX9_dies_0 at hw
  refine lv_aload_n hx hb dX9_dies_0 rfl (lv_at hl 0 rfl) ?_
  refine lv_iload_n hx hb dX9_dies_1 rfl (lv_at hl 1 rfl) ?_
  refine cl_i C P (run_V C P hl.1 (kd := 9) (met_X9_lives (CF_n C) G H.size _ _ S a0 x1 p_a0 hw) p_a0 (by decide) rfl q_1453 q_1455 q_p33 q_10 q_1456 cd_X9_lives ⟨(Nat.le_of_ble_eq_true rfl), (Nat.le_of_ble_eq_true rfl)⟩ rfl rfl (As := [.int x1]) (rest := []) rfl rfl (Nat.le_of_ble_eq_true rfl) dX9_dies_2 ⟨by show cells + 0 ≤ 0; omega, by show slots + 0 ≤ 0; omega⟩) (kx_out C hex (fun _ _ _ h => h) (by omega) (by omega)) (fun r2 S1 H locs P hE hw => ?_)
  have p_a0 : pI S1 9 a0 := pI_x hE p_a0
  refine lv_if_ne (tgt := 15) hx hb dX9_dies_5 (by decide) (fun hc => ?_) (fun hc => ?_)
  · have hw := hw.1 hc
    exact e_v C hr P hw (by omega) (by omega) dX9_dies_15
  · have hw := hw.2 hc
    refine lv_aload_n hx hb dX9_dies_8 rfl (lv_at hl 0 rfl) ?_
    refine lv_iconst (v := 4) hx hb dX9_dies_9 (by decide) ?_
    refine lv_iload_n hx hb dX9_dies_10 rfl (lv_at hl 1 rfl) ?_
    refine lv_iconst (v := 0) hx hb dX9_dies_11 (by decide) ?_
    refine cl_v C P (run_V C P hl.1 (kd := 9) (met_X9_tells (CF_n C) G H.size _ _ S1 a0 4 x1 0 p_a0 hw) p_a0 (by decide) rfl q_1523 q_1525 q_p42 q_10 q_1526 cd_X9_tells ⟨(Nat.le_of_ble_eq_true rfl), (Nat.le_of_ble_eq_true rfl)⟩ rfl rfl (As := [.int 4, .int x1, .int 0]) (rest := []) rfl rfl (Nat.le_of_ble_eq_true rfl) dX9_dies_12 ⟨by show cells + 0 ≤ 0; omega, by show slots + 0 ≤ 0; omega⟩) (kx_out C hex (fun _ _ _ h => h) (by omega) (by omega)) (fun S3 H locs P hE hw => ?_)
    have p_a0 : pI S3 9 a0 := pI_x hE p_a0
    exact e_v C hr P hw (by omega) (by omega) dX9_dies_15
def wp_X9_dies (Q : MS → Prop) (QX : String → MS → Prop) (S : MS) (a0 : Nat) (x1 : Int32) : Prop := wX9_dies_0 Q QX S a0 x1
set_option maxHeartbeats 4000000 in
set_option maxRecDepth 100000 in
theorem met_X9_dies {l : Launch} (hst : l.stackTraces = false) (G : GP) (sz : Nat) (Q : MS → Prop) (QX : String → MS → Prop) (S : MS) (a0 : Nat) (x1 : Int32) (p_a0 : pI S 9 a0) (hw : wp_X9_dies Q QX S a0 x1) : vx_Met l yX9_dies (.code yX9_dies cX9_dies 2 none :: GW) rmX9_dies (va_Pc [.ref a0, .int x1] (PR G S sz)) (QV G S (FA G S sz) Q) (XX G S (FA G S sz) QX) 0 0 (FA G S sz) := by
  refine st_m (by decide +kernel) hst (fun p e s m below meth c C hr hnm hex P => ?_)
  refine en_m (Nat.le_of_ble_eq_true rfl) (lv := [(0, .ref a0), (1, .int x1)]) rfl (fun ls hl => ?_)
  have C : CF p l s m _ meth c "SkirmishGridModel" cX9_dies 2 G (FA G S sz) := C
  exact tX9_dies_0 C hr hex Q QX S a0 x1 p_a0 P hl (by omega) (by omega) hw
theorem cd_X9_dies : yX9_dies.cls = RX9 ∧ yX9_dies.cls ≠ "java/lang/invoke/MethodHandle" ∧ yX9_dies.cls ≠ "java/lang/invoke/VarHandle" ∧ (parseMethodDescriptor yX9_dies.desc).map (fun d => d.parameters.length) = some 1 := by decide +kernel
abbrev rmX9_begins : Room := { frames := 2, cells := 0, slots := 0, locals := 44 }
def wX9_begins_157 (Q : MS → Prop) (QX : String → MS → Prop) (k38 : MS → Nat → Int32 → Prop) (S : MS) (a0 : Nat) (y1 : Int32) (y2 : Int32) : Prop := (∃ a1, mR S a0 1 = some a1 ∧ (vp_in (158 + y2) (mN S a1) ∧ (∀ S2, S2 = (sI S a1 ((158 + y2) : Int32).toNatClampNeg y1) → (∃ a3, mR S2 a0 1 = some a3 ∧ (vp_in 157 (mN S2 a3) ∧ (vp_in 157 (mN S2 a3) ∧ (∀ S4, S4 = (sI S2 a3 (157 : Int32).toNatClampNeg ((mI S2 a3 (157 : Int32).toNatClampNeg) + 1)) → k38 S4 a0 (y1 + 1))))))))
set_option maxHeartbeats 4000000 in
set_option maxRecDepth 100000 in
theorem tX9_begins_157 {p : Program} {l : Launch} {e : Env} {s : State} {m : MethodId} {args : Array Value} {below : List Frame} {meth : Method} {c : Code} {H : Heap} {locs : List Loc} {cells slots : Nat} {G : GP} {A : Nat → Prop} {S0 : MS} {ls : Array Slot} (C : CF p l s m args meth c "SkirmishGridModel" cX9_begins 3 G A) (hr : meth.sig.returnType = none) (hex : ∀ x ∈ c.exceptionTable.toList, False) (Q : MS → Prop) (QX : String → MS → Prop) (k38 : MS → Nat → Int32 → Prop) (kh38 : ∀ (S : MS) (a0 : Nat) (y1 : Int32) (cells slots : Nat) (H : Heap) (locs : List Loc) (ls : Array Slot), pI S 9 a0 → PW G A s H locs S0 S → lv_has ls 3 [(0, .ref a0), (1, .int y1)] → cells + 0 ≤ 0 → slots + 0 ≤ 0 → k38 S a0 y1 → W p l e rmX9_begins s m args below meth c H locs cells slots (vx_MQ below (QV G S0 A Q) (XX G S0 A QX) args s 0 0 A) (F0 m 38 ls [])) (S : MS) (a0 : Nat) (y1 : Int32) (y2 : Int32) (p_a0 : pI S 9 a0) (P : PW G A s H locs S0 S) (hl : lv_has ls 3 [(0, .ref a0), (1, .int y1), (2, .int y2)]) (hcc : cells + 0 ≤ 0) (hss : slots + 0 ≤ 0) (hw : wX9_begins_157 Q QX k38 S a0 y1 y2) : W p l e rmX9_begins s m args below meth c H locs cells slots (vx_MQ below (QV G S0 A Q) (XX G S0 A QX) args s 0 0 A) (F0 m 157 ls []) := by
  have hx := CF_x C
  have hb := CF_b C
  unfold wX9_begins_157 at hw
  refine lv_aload_n hx hb dX9_begins_157 rfl (lv_at hl 0 rfl) ?_
  obtain ⟨a1, e1, hw⟩ := hw
  have p_a1 : pI S 12 a1 := wf_r P.2.2.2.1 p_a0 e1
  refine gf_9_1 C P p_a0 e1 q_1306 dX9_begins_158 ?_
  refine lv_sipush (v := 158) hx hb dX9_begins_161 (by decide) ?_
  refine lv_iload_n hx hb dX9_begins_164 rfl (lv_at hl 2 rfl) ?_
  refine lv_iadd hx hb dX9_begins_165 ?_
  refine lv_iload_n hx hb dX9_begins_166 rfl (lv_at hl 1 rfl) ?_
  obtain ⟨h1, hw⟩ := hw
  refine rs_i C P p_a1 h1 dX9_begins_167 (fun H locs P => ?_)
  obtain ⟨S2, hS⟩ : ∃ z, z = (sI S a1 ((158 + y2) : Int32).toNatClampNeg y1) := ⟨_, rfl⟩
  have P : PW G A s H locs S0 S2 := by rw [hS]; exact P
  have p_a0 : pI S2 9 a0 := by rw [hS]; exact pI_x ext_sI p_a0
  have p_a1 : pI S2 12 a1 := by rw [hS]; exact pI_x ext_sI p_a1
  have hw := hw S2 hS
  refine lv_aload_n hx hb dX9_begins_168 rfl (lv_at hl 0 rfl) ?_
  obtain ⟨a3, e1, hw⟩ := hw
  have p_a3 : pI S2 12 a3 := wf_r P.2.2.2.1 p_a0 e1
  refine gf_9_1 C P p_a0 e1 q_1306 dX9_begins_169 ?_
  refine lv_sipush (v := 157) hx hb dX9_begins_172 (by decide) ?_
  refine lv_dup2_11 hx hb dX9_begins_175 rfl rfl ?_
  obtain ⟨h1, hw⟩ := hw
  refine ra_i C P p_a3 h1 dX9_begins_176 ?_
  refine lv_iconst (v := 1) hx hb dX9_begins_177 (by decide) ?_
  refine lv_iadd hx hb dX9_begins_178 ?_
  obtain ⟨h1, hw⟩ := hw
  refine rs_i C P p_a3 h1 dX9_begins_179 (fun H locs P => ?_)
  obtain ⟨S4, hS⟩ : ∃ z, z = (sI S2 a3 (157 : Int32).toNatClampNeg ((mI S2 a3 (157 : Int32).toNatClampNeg) + 1)) := ⟨_, rfl⟩
  have P : PW G A s H locs S0 S4 := by rw [hS]; exact P
  have p_a0 : pI S4 9 a0 := by rw [hS]; exact pI_x ext_sI p_a0
  have p_a3 : pI S4 12 a3 := by rw [hS]; exact pI_x ext_sI p_a3
  have hw := hw S4 hS
  refine lv_iinc (v := (y1 + 1)) (lv' := [(1, .int (y1 + 1)), (0, .ref a0), (2, .int y2)]) hx hb dX9_begins_180 hl (k := 1) rfl (by rfl) (by decide) rfl (fun ls hl => ?_)
  refine lv_goto (tgt := 38) hx hb dX9_begins_183 (by decide) ?_
  exact kh38 S4 a0 (y1 + 1) _ _ _ _ _ p_a0 P (lv_sub hl [1, 0] rfl) (by omega) (by omega) hw
def wX9_begins_97 (Q : MS → Prop) (QX : String → MS → Prop) (k38 : MS → Nat → Int32 → Prop) (k97 : MS → Nat → Int32 → Int32 → Prop) (S : MS) (a0 : Nat) (y1 : Int32) (y2 : Int32) : Prop := ((y2 ≤ 0 → wX9_begins_157 Q QX k38 S a0 y1 y2) ∧ (¬ y2 ≤ 0 → (∃ a1, mR S a0 1 = some a1 ∧ (vp_in ((158 + y2) - 1) (mN S a1) ∧ wp_X9_of (fun r3 S2 => wp_X9_of (fun r5 S4 => ((r5 ≤ r3 → wX9_begins_157 Q QX k38 S4 a0 y1 y2) ∧ (¬ r5 ≤ r3 → (∃ a6, mR S4 a0 1 = some a6 ∧ (∃ a7, mR S4 a0 1 = some a7 ∧ (vp_in ((158 + y2) - 1) (mN S4 a7) ∧ (vp_in (158 + y2) (mN S4 a6) ∧ (∀ S8, S8 = (sI S4 a6 ((158 + y2) : Int32).toNatClampNeg (mI S4 a7 (((158 + y2) - 1) : Int32).toNatClampNeg)) → k97 S8 a0 y1 (y2 + (-1)))))))))) QX S2 a0 y1 6) QX S a0 (mI S a1 (((158 + y2) - 1) : Int32).toNatClampNeg) 6))))
set_option maxHeartbeats 4000000 in
set_option maxRecDepth 100000 in
theorem tX9_begins_97 {p : Program} {l : Launch} {e : Env} {s : State} {m : MethodId} {args : Array Value} {below : List Frame} {meth : Method} {c : Code} {H : Heap} {locs : List Loc} {cells slots : Nat} {G : GP} {A : Nat → Prop} {S0 : MS} {ls : Array Slot} (C : CF p l s m args meth c "SkirmishGridModel" cX9_begins 3 G A) (hr : meth.sig.returnType = none) (hex : ∀ x ∈ c.exceptionTable.toList, False) (Q : MS → Prop) (QX : String → MS → Prop) (k38 : MS → Nat → Int32 → Prop) (k97 : MS → Nat → Int32 → Int32 → Prop) (kh38 : ∀ (S : MS) (a0 : Nat) (y1 : Int32) (cells slots : Nat) (H : Heap) (locs : List Loc) (ls : Array Slot), pI S 9 a0 → PW G A s H locs S0 S → lv_has ls 3 [(0, .ref a0), (1, .int y1)] → cells + 0 ≤ 0 → slots + 0 ≤ 0 → k38 S a0 y1 → W p l e rmX9_begins s m args below meth c H locs cells slots (vx_MQ below (QV G S0 A Q) (XX G S0 A QX) args s 0 0 A) (F0 m 38 ls [])) (kh97 : ∀ (S : MS) (a0 : Nat) (y1 : Int32) (y2 : Int32) (cells slots : Nat) (H : Heap) (locs : List Loc) (ls : Array Slot), pI S 9 a0 → PW G A s H locs S0 S → lv_has ls 3 [(0, .ref a0), (1, .int y1), (2, .int y2)] → cells + 0 ≤ 0 → slots + 0 ≤ 0 → k97 S a0 y1 y2 → W p l e rmX9_begins s m args below meth c H locs cells slots (vx_MQ below (QV G S0 A Q) (XX G S0 A QX) args s 0 0 A) (F0 m 97 ls [])) (S : MS) (a0 : Nat) (y1 : Int32) (y2 : Int32) (p_a0 : pI S 9 a0) (P : PW G A s H locs S0 S) (hl : lv_has ls 3 [(0, .ref a0), (1, .int y1), (2, .int y2)]) (hcc : cells + 0 ≤ 0) (hss : slots + 0 ≤ 0) (hw : wX9_begins_97 Q QX k38 k97 S a0 y1 y2) : W p l e rmX9_begins s m args below meth c H locs cells slots (vx_MQ below (QV G S0 A Q) (XX G S0 A QX) args s 0 0 A) (F0 m 97 ls []) := by
  have hx := CF_x C
  have hb := CF_b C
  unfold wX9_begins_97 at hw
  refine lv_iload_n hx hb dX9_begins_97 rfl (lv_at hl 2 rfl) ?_
  refine lv_if_le (tgt := 157) hx hb dX9_begins_98 (by decide) (fun hc => ?_) (fun hc => ?_)
  · have hw := hw.1 hc
    exact tX9_begins_157 C hr hex Q QX k38 kh38 S a0 y1 y2 p_a0 P (lv_sub hl [0, 1, 2] rfl) (by omega) (by omega) hw
  · have hw := hw.2 hc
    refine lv_aload_n hx hb dX9_begins_101 rfl (lv_at hl 0 rfl) ?_
    refine lv_aload_n hx hb dX9_begins_102 rfl (lv_at hl 0 rfl) ?_
    obtain ⟨a1, e1, hw⟩ := hw
    have p_a1 : pI S 12 a1 := wf_r P.2.2.2.1 p_a0 e1
    refine gf_9_1 C P p_a0 e1 q_1306 dX9_begins_103 ?_
    refine lv_sipush (v := 158) hx hb dX9_begins_106 (by decide) ?_
    refine lv_iload_n hx hb dX9_begins_109 rfl (lv_at hl 2 rfl) ?_
    refine lv_iadd hx hb dX9_begins_110 ?_
    refine lv_iconst (v := 1) hx hb dX9_begins_111 (by decide) ?_
    refine lv_isub hx hb dX9_begins_112 ?_
    obtain ⟨h1, hw⟩ := hw
    refine ra_i C P p_a1 h1 dX9_begins_113 ?_
    refine lv_bipush (v := 6) hx hb dX9_begins_114 (by decide) ?_
    refine cl_i C P (run_V C P hl.1 (kd := 9) (met_X9_of (CF_n C) G H.size _ _ S a0 (mI S a1 (((158 + y2) - 1) : Int32).toNatClampNeg) 6 p_a0 hw) p_a0 (by decide) rfl q_1457 q_1459 q_p34 q_10 q_1460 cd_X9_of ⟨(Nat.le_of_ble_eq_true rfl), (Nat.le_of_ble_eq_true rfl)⟩ rfl rfl (As := [.int (mI S a1 (((158 + y2) - 1) : Int32).toNatClampNeg), .int 6]) (rest := []) rfl rfl (Nat.le_of_ble_eq_true rfl) dX9_begins_116 ⟨by show cells + 0 ≤ 0; omega, by show slots + 0 ≤ 0; omega⟩) (kx_out C hex (fun _ _ _ h => h) (by omega) (by omega)) (fun r3 S2 H locs P hE hw => ?_)
    have p_a0 : pI S2 9 a0 := pI_x hE p_a0
    refine lv_aload_n hx hb dX9_begins_119 rfl (lv_at hl 0 rfl) ?_
    refine lv_iload_n hx hb dX9_begins_120 rfl (lv_at hl 1 rfl) ?_
    refine lv_bipush (v := 6) hx hb dX9_begins_121 (by decide) ?_
    refine cl_i C P (run_V C P hl.1 (kd := 9) (met_X9_of (CF_n C) G H.size _ _ S2 a0 y1 6 p_a0 hw) p_a0 (by decide) rfl q_1457 q_1459 q_p34 q_10 q_1460 cd_X9_of ⟨(Nat.le_of_ble_eq_true rfl), (Nat.le_of_ble_eq_true rfl)⟩ rfl rfl (As := [.int y1, .int 6]) (rest := [.int r3]) rfl rfl (Nat.le_of_ble_eq_true rfl) dX9_begins_123 ⟨by show cells + 0 ≤ 0; omega, by show slots + 0 ≤ 0; omega⟩) (kx_out C hex (fun _ _ _ h => h) (by omega) (by omega)) (fun r5 S4 H locs P hE hw => ?_)
    have p_a0 : pI S4 9 a0 := pI_x hE p_a0
    refine lv_icmp_ge (tgt := 157) hx hb dX9_begins_126 (by decide) (fun hc => ?_) (fun hc => ?_)
    · have hw := hw.1 hc
      exact tX9_begins_157 C hr hex Q QX k38 kh38 S4 a0 y1 y2 p_a0 P (lv_sub hl [0, 1, 2] rfl) (by omega) (by omega) hw
    · have hw := hw.2 hc
      refine lv_aload_n hx hb dX9_begins_129 rfl (lv_at hl 0 rfl) ?_
      obtain ⟨a6, e1, hw⟩ := hw
      have p_a6 : pI S4 12 a6 := wf_r P.2.2.2.1 p_a0 e1
      refine gf_9_1 C P p_a0 e1 q_1306 dX9_begins_130 ?_
      refine lv_sipush (v := 158) hx hb dX9_begins_133 (by decide) ?_
      refine lv_iload_n hx hb dX9_begins_136 rfl (lv_at hl 2 rfl) ?_
      refine lv_iadd hx hb dX9_begins_137 ?_
      refine lv_aload_n hx hb dX9_begins_138 rfl (lv_at hl 0 rfl) ?_
      obtain ⟨a7, e1, hw⟩ := hw
      have p_a7 : pI S4 12 a7 := wf_r P.2.2.2.1 p_a0 e1
      refine gf_9_1 C P p_a0 e1 q_1306 dX9_begins_139 ?_
      refine lv_sipush (v := 158) hx hb dX9_begins_142 (by decide) ?_
      refine lv_iload_n hx hb dX9_begins_145 rfl (lv_at hl 2 rfl) ?_
      refine lv_iadd hx hb dX9_begins_146 ?_
      refine lv_iconst (v := 1) hx hb dX9_begins_147 (by decide) ?_
      refine lv_isub hx hb dX9_begins_148 ?_
      obtain ⟨h1, hw⟩ := hw
      refine ra_i C P p_a7 h1 dX9_begins_149 ?_
      obtain ⟨h1, hw⟩ := hw
      refine rs_i C P p_a6 h1 dX9_begins_150 (fun H locs P => ?_)
      obtain ⟨S8, hS⟩ : ∃ z, z = (sI S4 a6 ((158 + y2) : Int32).toNatClampNeg (mI S4 a7 (((158 + y2) - 1) : Int32).toNatClampNeg)) := ⟨_, rfl⟩
      have P : PW G A s H locs S0 S8 := by rw [hS]; exact P
      have p_a0 : pI S8 9 a0 := by rw [hS]; exact pI_x ext_sI p_a0
      have p_a6 : pI S8 12 a6 := by rw [hS]; exact pI_x ext_sI p_a6
      have hw := hw S8 hS
      refine lv_iinc (v := (y2 + (-1))) (lv' := [(2, .int (y2 + (-1))), (0, .ref a0), (1, .int y1)]) hx hb dX9_begins_151 hl (k := 2) rfl (by rfl) (by decide) rfl (fun ls hl => ?_)
      refine lv_goto (tgt := 97) hx hb dX9_begins_154 (by decide) ?_
      exact kh97 S8 a0 y1 (y2 + (-1)) _ _ _ _ _ p_a0 P (lv_sub hl [1, 2, 0] rfl) (by omega) (by omega) hw
def lX9_begins_97 (Q : MS → Prop) (QX : String → MS → Prop) (k38 : MS → Nat → Int32 → Prop) : Nat → MS → Nat → Int32 → Int32 → Prop
  | 0 => fun _ _ _ _ => False
  | n + 1 => fun S a0 y1 y2 => wX9_begins_97 Q QX k38 (lX9_begins_97 Q QX k38 n) S a0 y1 y2
theorem tlX9_begins_97 {p : Program} {l : Launch} {e : Env} {s : State} {m : MethodId} {args : Array Value} {below : List Frame} {meth : Method} {c : Code} {G : GP} {A : Nat → Prop} {S0 : MS} (C : CF p l s m args meth c "SkirmishGridModel" cX9_begins 3 G A) (hr : meth.sig.returnType = none) (hex : ∀ x ∈ c.exceptionTable.toList, False) (Q : MS → Prop) (QX : String → MS → Prop) (k38 : MS → Nat → Int32 → Prop) (kh38 : ∀ (S : MS) (a0 : Nat) (y1 : Int32) (cells slots : Nat) (H : Heap) (locs : List Loc) (ls : Array Slot), pI S 9 a0 → PW G A s H locs S0 S → lv_has ls 3 [(0, .ref a0), (1, .int y1)] → cells + 0 ≤ 0 → slots + 0 ≤ 0 → k38 S a0 y1 → W p l e rmX9_begins s m args below meth c H locs cells slots (vx_MQ below (QV G S0 A Q) (XX G S0 A QX) args s 0 0 A) (F0 m 38 ls [])) : ∀ (n : Nat), ∀ (S : MS) (a0 : Nat) (y1 : Int32) (y2 : Int32) (cells slots : Nat) (H : Heap) (locs : List Loc) (ls : Array Slot), pI S 9 a0 → PW G A s H locs S0 S → lv_has ls 3 [(0, .ref a0), (1, .int y1), (2, .int y2)] → cells + 0 ≤ 0 → slots + 0 ≤ 0 → lX9_begins_97 Q QX k38 n S a0 y1 y2 → W p l e rmX9_begins s m args below meth c H locs cells slots (vx_MQ below (QV G S0 A Q) (XX G S0 A QX) args s 0 0 A) (F0 m 97 ls []) := by
  intro n
  induction n with
  | zero => intro S a0 y1 y2 cells slots H locs ls p_a0 P hl hcc hss hw; exact hw.elim
  | succ n ih => intro S a0 y1 y2 cells slots H locs ls p_a0 P hl hcc hss hw; exact tX9_begins_97 C hr hex Q QX k38 (lX9_begins_97 Q QX k38 n) kh38 ih S a0 y1 y2 p_a0 P hl hcc hss hw
def wX9_begins_38 (Q : MS → Prop) (QX : String → MS → Prop) (k38 : MS → Nat → Int32 → Prop) (S : MS) (a0 : Nat) (y1 : Int32) : Prop := (∃ a1, mR S a0 1 = some a1 ∧ (vp_in 66 (mN S a1) ∧ (((mI S a1 (66 : Int32).toNatClampNeg) ≤ y1 → (∀ S2, S2 = (sI S a0 16 (-1)) → Q S2)) ∧ (¬ (mI S a1 (66 : Int32).toNatClampNeg) ≤ y1 → wp_X9_sets (fun S3 => wp_X9_lives (fun r5 S4 => ((¬ r5 = 0 → wp_X9_roll (fun r7 S6 => wp_X9_kindly (fun r9 S8 => wp_X9_sets (fun S10 => (∃ a11, mR S10 a0 1 = some a11 ∧ (vp_in 157 (mN S10 a11) ∧ (∃ n, lX9_begins_97 Q QX k38 n S10 a0 y1 (mI S10 a11 (157 : Int32).toNatClampNeg))))) QX S8 a0 y1 6 (r7 + r9)) QX S6 a0 y1 5) QX S4 a0 6) ∧ (r5 = 0 → k38 S4 a0 (y1 + 1)))) QX S3 a0 y1) QX S a0 y1 6 0))))
set_option maxHeartbeats 4000000 in
set_option maxRecDepth 100000 in
theorem tX9_begins_38 {p : Program} {l : Launch} {e : Env} {s : State} {m : MethodId} {args : Array Value} {below : List Frame} {meth : Method} {c : Code} {H : Heap} {locs : List Loc} {cells slots : Nat} {G : GP} {A : Nat → Prop} {S0 : MS} {ls : Array Slot} (C : CF p l s m args meth c "SkirmishGridModel" cX9_begins 3 G A) (hr : meth.sig.returnType = none) (hex : ∀ x ∈ c.exceptionTable.toList, False) (Q : MS → Prop) (QX : String → MS → Prop) (k38 : MS → Nat → Int32 → Prop) (kh38 : ∀ (S : MS) (a0 : Nat) (y1 : Int32) (cells slots : Nat) (H : Heap) (locs : List Loc) (ls : Array Slot), pI S 9 a0 → PW G A s H locs S0 S → lv_has ls 3 [(0, .ref a0), (1, .int y1)] → cells + 0 ≤ 0 → slots + 0 ≤ 0 → k38 S a0 y1 → W p l e rmX9_begins s m args below meth c H locs cells slots (vx_MQ below (QV G S0 A Q) (XX G S0 A QX) args s 0 0 A) (F0 m 38 ls [])) (S : MS) (a0 : Nat) (y1 : Int32) (p_a0 : pI S 9 a0) (P : PW G A s H locs S0 S) (hl : lv_has ls 3 [(0, .ref a0), (1, .int y1)]) (hcc : cells + 0 ≤ 0) (hss : slots + 0 ≤ 0) (hw : wX9_begins_38 Q QX k38 S a0 y1) : W p l e rmX9_begins s m args below meth c H locs cells slots (vx_MQ below (QV G S0 A Q) (XX G S0 A QX) args s 0 0 A) (F0 m 38 ls []) := by
  have hx := CF_x C
  have hb := CF_b C
  unfold wX9_begins_38 at hw
  refine lv_iload_n hx hb dX9_begins_38 rfl (lv_at hl 1 rfl) ?_
  refine lv_aload_n hx hb dX9_begins_39 rfl (lv_at hl 0 rfl) ?_
  obtain ⟨a1, e1, hw⟩ := hw
  have p_a1 : pI S 12 a1 := wf_r P.2.2.2.1 p_a0 e1
  refine gf_9_1 C P p_a0 e1 q_1306 dX9_begins_40 ?_
  refine lv_bipush (v := 66) hx hb dX9_begins_43 (by decide) ?_
  obtain ⟨h1, hw⟩ := hw
  refine ra_i C P p_a1 h1 dX9_begins_45 ?_
  refine lv_icmp_ge (tgt := 186) hx hb dX9_begins_46 (by decide) (fun hc => ?_) (fun hc => ?_)
  · have hw := hw.1 hc
    refine lv_aload_n hx hb dX9_begins_186 rfl (lv_at hl 0 rfl) ?_
    refine lv_iconst (v := (-1)) hx hb dX9_begins_187 (by decide) ?_
    refine pf_9_16 C P p_a0 q_1321 dX9_begins_188 (fun H locs P => ?_)
    obtain ⟨S2, hS⟩ : ∃ z, z = (sI S a0 16 (-1)) := ⟨_, rfl⟩
    have P : PW G A s H locs S0 S2 := by rw [hS]; exact P
    have p_a0 : pI S2 9 a0 := by rw [hS]; exact pI_x ext_sI p_a0
    have hw := hw S2 hS
    exact e_v C hr P hw (by omega) (by omega) dX9_begins_191
  · have hw := hw.2 hc
    refine lv_aload_n hx hb dX9_begins_49 rfl (lv_at hl 0 rfl) ?_
    refine lv_iload_n hx hb dX9_begins_50 rfl (lv_at hl 1 rfl) ?_
    refine lv_bipush (v := 6) hx hb dX9_begins_51 (by decide) ?_
    refine lv_iconst (v := 0) hx hb dX9_begins_53 (by decide) ?_
    refine cl_v C P (run_V C P hl.1 (kd := 9) (met_X9_sets (CF_n C) G H.size _ _ S a0 y1 6 0 p_a0 hw) p_a0 (by decide) rfl q_1465 q_1467 q_p36 q_10 q_1468 cd_X9_sets ⟨(Nat.le_of_ble_eq_true rfl), (Nat.le_of_ble_eq_true rfl)⟩ rfl rfl (As := [.int y1, .int 6, .int 0]) (rest := []) rfl rfl (Nat.le_of_ble_eq_true rfl) dX9_begins_54 ⟨by show cells + 0 ≤ 0; omega, by show slots + 0 ≤ 0; omega⟩) (kx_out C hex (fun _ _ _ h => h) (by omega) (by omega)) (fun S3 H locs P hE hw => ?_)
    have p_a0 : pI S3 9 a0 := pI_x hE p_a0
    refine lv_aload_n hx hb dX9_begins_57 rfl (lv_at hl 0 rfl) ?_
    refine lv_iload_n hx hb dX9_begins_58 rfl (lv_at hl 1 rfl) ?_
    refine cl_i C P (run_V C P hl.1 (kd := 9) (met_X9_lives (CF_n C) G H.size _ _ S3 a0 y1 p_a0 hw) p_a0 (by decide) rfl q_1453 q_1455 q_p33 q_10 q_1456 cd_X9_lives ⟨(Nat.le_of_ble_eq_true rfl), (Nat.le_of_ble_eq_true rfl)⟩ rfl rfl (As := [.int y1]) (rest := []) rfl rfl (Nat.le_of_ble_eq_true rfl) dX9_begins_59 ⟨by show cells + 0 ≤ 0; omega, by show slots + 0 ≤ 0; omega⟩) (kx_out C hex (fun _ _ _ h => h) (by omega) (by omega)) (fun r5 S4 H locs P hE hw => ?_)
    have p_a0 : pI S4 9 a0 := pI_x hE p_a0
    refine lv_if_ne (tgt := 68) hx hb dX9_begins_62 (by decide) (fun hc => ?_) (fun hc => ?_)
    · have hw := hw.1 hc
      refine lv_aload_n hx hb dX9_begins_68 rfl (lv_at hl 0 rfl) ?_
      refine lv_iload_n hx hb dX9_begins_69 rfl (lv_at hl 1 rfl) ?_
      refine lv_bipush (v := 6) hx hb dX9_begins_70 (by decide) ?_
      refine lv_aload_n hx hb dX9_begins_72 rfl (lv_at hl 0 rfl) ?_
      refine lv_bipush (v := 6) hx hb dX9_begins_73 (by decide) ?_
      refine cl_i C P (run_V C P hl.1 (kd := 9) (met_X9_roll (CF_n C) G H.size _ _ S4 a0 6 p_a0 hw) p_a0 (by decide) rfl q_1527 q_1529 q_p43 q_10 q_1530 cd_X9_roll ⟨(Nat.le_of_ble_eq_true rfl), (Nat.le_of_ble_eq_true rfl)⟩ rfl rfl (As := [.int 6]) (rest := [.int 6, .int y1, .ref a0]) rfl rfl (Nat.le_of_ble_eq_true rfl) dX9_begins_75 ⟨by show cells + 0 ≤ 0; omega, by show slots + 0 ≤ 0; omega⟩) (kx_out C hex (fun _ _ _ h => h) (by omega) (by omega)) (fun r7 S6 H locs P hE hw => ?_)
      have p_a0 : pI S6 9 a0 := pI_x hE p_a0
      refine lv_aload_n hx hb dX9_begins_78 rfl (lv_at hl 0 rfl) ?_
      refine lv_iload_n hx hb dX9_begins_79 rfl (lv_at hl 1 rfl) ?_
      refine lv_iconst (v := 5) hx hb dX9_begins_80 (by decide) ?_
      refine cl_i C P (run_V C P hl.1 (kd := 9) (met_X9_kindly (CF_n C) G H.size _ _ S6 a0 y1 5 p_a0 hw) p_a0 (by decide) rfl q_1532 q_1534 q_p44 q_10 q_1535 cd_X9_kindly ⟨(Nat.le_of_ble_eq_true rfl), (Nat.le_of_ble_eq_true rfl)⟩ rfl rfl (As := [.int y1, .int 5]) (rest := [.int r7, .int 6, .int y1, .ref a0]) rfl rfl (Nat.le_of_ble_eq_true rfl) dX9_begins_81 ⟨by show cells + 0 ≤ 0; omega, by show slots + 0 ≤ 0; omega⟩) (kx_out C hex (fun _ _ _ h => h) (by omega) (by omega)) (fun r9 S8 H locs P hE hw => ?_)
      have p_a0 : pI S8 9 a0 := pI_x hE p_a0
      refine lv_iadd hx hb dX9_begins_84 ?_
      refine cl_v C P (run_V C P hl.1 (kd := 9) (met_X9_sets (CF_n C) G H.size _ _ S8 a0 y1 6 (r7 + r9) p_a0 hw) p_a0 (by decide) rfl q_1465 q_1467 q_p36 q_10 q_1468 cd_X9_sets ⟨(Nat.le_of_ble_eq_true rfl), (Nat.le_of_ble_eq_true rfl)⟩ rfl rfl (As := [.int y1, .int 6, .int (r7 + r9)]) (rest := []) rfl rfl (Nat.le_of_ble_eq_true rfl) dX9_begins_85 ⟨by show cells + 0 ≤ 0; omega, by show slots + 0 ≤ 0; omega⟩) (kx_out C hex (fun _ _ _ h => h) (by omega) (by omega)) (fun S10 H locs P hE hw => ?_)
      have p_a0 : pI S10 9 a0 := pI_x hE p_a0
      refine lv_aload_n hx hb dX9_begins_88 rfl (lv_at hl 0 rfl) ?_
      obtain ⟨a11, e1, hw⟩ := hw
      have p_a11 : pI S10 12 a11 := wf_r P.2.2.2.1 p_a0 e1
      refine gf_9_1 C P p_a0 e1 q_1306 dX9_begins_89 ?_
      refine lv_sipush (v := 157) hx hb dX9_begins_92 (by decide) ?_
      obtain ⟨h1, hw⟩ := hw
      refine ra_i C P p_a11 h1 dX9_begins_95 ?_
      refine lv_istore_n (lv' := [(2, .int (mI S10 a11 (157 : Int32).toNatClampNeg)), (0, .ref a0), (1, .int y1)]) hx hb dX9_begins_96 rfl hl (by decide) rfl (fun ls hl => ?_)
      obtain ⟨n, hw⟩ := hw
      exact tlX9_begins_97 C hr hex Q QX k38 kh38 n S10 a0 y1 (mI S10 a11 (157 : Int32).toNatClampNeg) _ _ _ _ _ p_a0 P (lv_sub hl [1, 2, 0] rfl) (by omega) (by omega) hw
    · have hw := hw.2 hc
      refine lv_goto (tgt := 180) hx hb dX9_begins_65 (by decide) ?_
      refine lv_iinc (v := (y1 + 1)) (lv' := [(1, .int (y1 + 1)), (0, .ref a0)]) hx hb dX9_begins_180 hl (k := 1) rfl (by rfl) (by decide) rfl (fun ls hl => ?_)
      refine lv_goto (tgt := 38) hx hb dX9_begins_183 (by decide) ?_
      exact kh38 S4 a0 (y1 + 1) _ _ _ _ _ p_a0 P (lv_sub hl [1, 0] rfl) (by omega) (by omega) hw
def lX9_begins_38 (Q : MS → Prop) (QX : String → MS → Prop) : Nat → MS → Nat → Int32 → Prop
  | 0 => fun _ _ _ => False
  | n + 1 => fun S a0 y1 => wX9_begins_38 Q QX (lX9_begins_38 Q QX n) S a0 y1
theorem tlX9_begins_38 {p : Program} {l : Launch} {e : Env} {s : State} {m : MethodId} {args : Array Value} {below : List Frame} {meth : Method} {c : Code} {G : GP} {A : Nat → Prop} {S0 : MS} (C : CF p l s m args meth c "SkirmishGridModel" cX9_begins 3 G A) (hr : meth.sig.returnType = none) (hex : ∀ x ∈ c.exceptionTable.toList, False) (Q : MS → Prop) (QX : String → MS → Prop) : ∀ (n : Nat), ∀ (S : MS) (a0 : Nat) (y1 : Int32) (cells slots : Nat) (H : Heap) (locs : List Loc) (ls : Array Slot), pI S 9 a0 → PW G A s H locs S0 S → lv_has ls 3 [(0, .ref a0), (1, .int y1)] → cells + 0 ≤ 0 → slots + 0 ≤ 0 → lX9_begins_38 Q QX n S a0 y1 → W p l e rmX9_begins s m args below meth c H locs cells slots (vx_MQ below (QV G S0 A Q) (XX G S0 A QX) args s 0 0 A) (F0 m 38 ls []) := by
  intro n
  induction n with
  | zero => intro S a0 y1 cells slots H locs ls p_a0 P hl hcc hss hw; exact hw.elim
  | succ n ih => intro S a0 y1 cells slots H locs ls p_a0 P hl hcc hss hw; exact tX9_begins_38 C hr hex Q QX (lX9_begins_38 Q QX n) ih S a0 y1 p_a0 P hl hcc hss hw
def wX9_begins_0 (Q : MS → Prop) (QX : String → MS → Prop) (S : MS) (a0 : Nat) : Prop := (∃ a1, mR S a0 1 = some a1 ∧ (vp_in 156 (mN S a1) ∧ (vp_in 156 (mN S a1) ∧ (∀ S2, S2 = (sI S a1 (156 : Int32).toNatClampNeg ((mI S a1 (156 : Int32).toNatClampNeg) + 1)) → (∃ a3, mR S2 a0 1 = some a3 ∧ (vp_in 156 (mN S2 a3) ∧ wp_X9_tells (fun S4 => (∃ a5, mR S4 a0 1 = some a5 ∧ (vp_in 157 (mN S4 a5) ∧ (∀ S6, S6 = (sI S4 a5 (157 : Int32).toNatClampNeg 0) → (∃ n, lX9_begins_38 Q QX n S6 a0 0))))) QX S2 a0 9 (-1) (mI S2 a3 (156 : Int32).toNatClampNeg)))))))
set_option maxHeartbeats 4000000 in
set_option maxRecDepth 100000 in
theorem tX9_begins_0 {p : Program} {l : Launch} {e : Env} {s : State} {m : MethodId} {args : Array Value} {below : List Frame} {meth : Method} {c : Code} {H : Heap} {locs : List Loc} {cells slots : Nat} {G : GP} {A : Nat → Prop} {S0 : MS} {ls : Array Slot} (C : CF p l s m args meth c "SkirmishGridModel" cX9_begins 3 G A) (hr : meth.sig.returnType = none) (hex : ∀ x ∈ c.exceptionTable.toList, False) (Q : MS → Prop) (QX : String → MS → Prop) (S : MS) (a0 : Nat) (p_a0 : pI S 9 a0) (P : PW G A s H locs S0 S) (hl : lv_has ls 3 [(0, .ref a0)]) (hcc : cells + 0 ≤ 0) (hss : slots + 0 ≤ 0) (hw : wX9_begins_0 Q QX S a0) : W p l e rmX9_begins s m args below meth c H locs cells slots (vx_MQ below (QV G S0 A Q) (XX G S0 A QX) args s 0 0 A) (F0 m 0 ls []) := by
  have hx := CF_x C
  have hb := CF_b C
  unfold wX9_begins_0 at hw
  refine lv_aload_n hx hb dX9_begins_0 rfl (lv_at hl 0 rfl) ?_
  obtain ⟨a1, e1, hw⟩ := hw
  have p_a1 : pI S 12 a1 := wf_r P.2.2.2.1 p_a0 e1
  refine gf_9_1 C P p_a0 e1 q_1306 dX9_begins_1 ?_
  refine lv_sipush (v := 156) hx hb dX9_begins_4 (by decide) ?_
  refine lv_dup2_11 hx hb dX9_begins_7 rfl rfl ?_
  obtain ⟨h1, hw⟩ := hw
  refine ra_i C P p_a1 h1 dX9_begins_8 ?_
  refine lv_iconst (v := 1) hx hb dX9_begins_9 (by decide) ?_
  refine lv_iadd hx hb dX9_begins_10 ?_
  obtain ⟨h1, hw⟩ := hw
  refine rs_i C P p_a1 h1 dX9_begins_11 (fun H locs P => ?_)
  obtain ⟨S2, hS⟩ : ∃ z, z = (sI S a1 (156 : Int32).toNatClampNeg ((mI S a1 (156 : Int32).toNatClampNeg) + 1)) := ⟨_, rfl⟩
  have P : PW G A s H locs S0 S2 := by rw [hS]; exact P
  have p_a0 : pI S2 9 a0 := by rw [hS]; exact pI_x ext_sI p_a0
  have p_a1 : pI S2 12 a1 := by rw [hS]; exact pI_x ext_sI p_a1
  have hw := hw S2 hS
  refine lv_aload_n hx hb dX9_begins_12 rfl (lv_at hl 0 rfl) ?_
  refine lv_bipush (v := 9) hx hb dX9_begins_13 (by decide) ?_
  refine lv_iconst (v := (-1)) hx hb dX9_begins_15 (by decide) ?_
  refine lv_aload_n hx hb dX9_begins_16 rfl (lv_at hl 0 rfl) ?_
  obtain ⟨a3, e1, hw⟩ := hw
  have p_a3 : pI S2 12 a3 := wf_r P.2.2.2.1 p_a0 e1
  refine gf_9_1 C P p_a0 e1 q_1306 dX9_begins_17 ?_
  refine lv_sipush (v := 156) hx hb dX9_begins_20 (by decide) ?_
  obtain ⟨h1, hw⟩ := hw
  refine ra_i C P p_a3 h1 dX9_begins_23 ?_
  refine cl_v C P (run_V C P hl.1 (kd := 9) (met_X9_tells (CF_n C) G H.size _ _ S2 a0 9 (-1) (mI S2 a3 (156 : Int32).toNatClampNeg) p_a0 hw) p_a0 (by decide) rfl q_1523 q_1525 q_p42 q_10 q_1526 cd_X9_tells ⟨(Nat.le_of_ble_eq_true rfl), (Nat.le_of_ble_eq_true rfl)⟩ rfl rfl (As := [.int 9, .int (-1), .int (mI S2 a3 (156 : Int32).toNatClampNeg)]) (rest := []) rfl rfl (Nat.le_of_ble_eq_true rfl) dX9_begins_24 ⟨by show cells + 0 ≤ 0; omega, by show slots + 0 ≤ 0; omega⟩) (kx_out C hex (fun _ _ _ h => h) (by omega) (by omega)) (fun S4 H locs P hE hw => ?_)
  have p_a0 : pI S4 9 a0 := pI_x hE p_a0
  refine lv_aload_n hx hb dX9_begins_27 rfl (lv_at hl 0 rfl) ?_
  obtain ⟨a5, e1, hw⟩ := hw
  have p_a5 : pI S4 12 a5 := wf_r P.2.2.2.1 p_a0 e1
  refine gf_9_1 C P p_a0 e1 q_1306 dX9_begins_28 ?_
  refine lv_sipush (v := 157) hx hb dX9_begins_31 (by decide) ?_
  refine lv_iconst (v := 0) hx hb dX9_begins_34 (by decide) ?_
  obtain ⟨h1, hw⟩ := hw
  refine rs_i C P p_a5 h1 dX9_begins_35 (fun H locs P => ?_)
  obtain ⟨S6, hS⟩ : ∃ z, z = (sI S4 a5 (157 : Int32).toNatClampNeg 0) := ⟨_, rfl⟩
  have P : PW G A s H locs S0 S6 := by rw [hS]; exact P
  have p_a0 : pI S6 9 a0 := by rw [hS]; exact pI_x ext_sI p_a0
  have p_a5 : pI S6 12 a5 := by rw [hS]; exact pI_x ext_sI p_a5
  have hw := hw S6 hS
  refine lv_iconst (v := 0) hx hb dX9_begins_36 (by decide) ?_
  refine lv_istore_n (lv' := [(1, .int 0), (0, .ref a0)]) hx hb dX9_begins_37 rfl hl (by decide) rfl (fun ls hl => ?_)
  obtain ⟨n, hw⟩ := hw
  exact tlX9_begins_38 C hr hex Q QX n S6 a0 0 _ _ _ _ _ p_a0 P (lv_sub hl [1, 0] rfl) (by omega) (by omega) hw
def wp_X9_begins (Q : MS → Prop) (QX : String → MS → Prop) (S : MS) (a0 : Nat) : Prop := wX9_begins_0 Q QX S a0
set_option maxHeartbeats 4000000 in
set_option maxRecDepth 100000 in
theorem met_X9_begins {l : Launch} (hst : l.stackTraces = false) (G : GP) (sz : Nat) (Q : MS → Prop) (QX : String → MS → Prop) (S : MS) (a0 : Nat) (p_a0 : pI S 9 a0) (hw : wp_X9_begins Q QX S a0) : vx_Met l yX9_begins (.code yX9_begins cX9_begins 3 none :: GW) rmX9_begins (va_Pc [.ref a0] (PR G S sz)) (QV G S (FA G S sz) Q) (XX G S (FA G S sz) QX) 0 0 (FA G S sz) := by
  refine st_m (by decide +kernel) hst (fun p e s m below meth c C hr hnm hex P => ?_)
  refine en_m (Nat.le_of_ble_eq_true rfl) (lv := [(0, .ref a0)]) rfl (fun ls hl => ?_)
  have C : CF p l s m _ meth c "SkirmishGridModel" cX9_begins 3 G (FA G S sz) := C
  exact tX9_begins_0 C hr hex Q QX S a0 p_a0 P hl (by omega) (by omega) hw
theorem cd_X9_begins : yX9_begins.cls = RX9 ∧ yX9_begins.cls ≠ "java/lang/invoke/MethodHandle" ∧ yX9_begins.cls ≠ "java/lang/invoke/VarHandle" ∧ (parseMethodDescriptor yX9_begins.desc).map (fun d => d.parameters.length) = some 0 := by decide +kernel
abbrev rmX9_placeOfTurn : Room := { frames := 0, cells := 0, slots := 0, locals := 0 }
def wX9_placeOfTurn_2 (Q : Int32 → MS → Prop) (QX : String → MS → Prop) (k2 : MS → Nat → Int32 → Prop) (S : MS) (a0 : Nat) (y1 : Int32) : Prop := (∃ a1, mR S a0 1 = some a1 ∧ (vp_in 157 (mN S a1) ∧ (((mI S a1 (157 : Int32).toNatClampNeg) ≤ y1 → Q (-1) S) ∧ (¬ (mI S a1 (157 : Int32).toNatClampNeg) ≤ y1 → (∃ a2, mR S a0 1 = some a2 ∧ (vp_in (158 + y1) (mN S a2) ∧ (∃ a3, mR S a0 1 = some a3 ∧ (vp_in 166 (mN S a3) ∧ ((¬ (mI S a2 ((158 + y1) : Int32).toNatClampNeg) = (mI S a3 (166 : Int32).toNatClampNeg) → k2 S a0 (y1 + 1)) ∧ ((mI S a2 ((158 + y1) : Int32).toNatClampNeg) = (mI S a3 (166 : Int32).toNatClampNeg) → Q y1 S))))))))))
set_option maxHeartbeats 4000000 in
set_option maxRecDepth 100000 in
theorem tX9_placeOfTurn_2 {p : Program} {l : Launch} {e : Env} {s : State} {m : MethodId} {args : Array Value} {below : List Frame} {meth : Method} {c : Code} {H : Heap} {locs : List Loc} {cells slots : Nat} {G : GP} {A : Nat → Prop} {S0 : MS} {ls : Array Slot} (C : CF p l s m args meth c "SkirmishGridModel" cX9_placeOfTurn 2 G A) (hr : meth.sig.returnType = (some .int)) (hex : ∀ x ∈ c.exceptionTable.toList, False) (Q : Int32 → MS → Prop) (QX : String → MS → Prop) (k2 : MS → Nat → Int32 → Prop) (kh2 : ∀ (S : MS) (a0 : Nat) (y1 : Int32) (cells slots : Nat) (H : Heap) (locs : List Loc) (ls : Array Slot), pI S 9 a0 → PW G A s H locs S0 S → lv_has ls 2 [(0, .ref a0), (1, .int y1)] → cells + 0 ≤ 0 → slots + 0 ≤ 0 → k2 S a0 y1 → W p l e rmX9_placeOfTurn s m args below meth c H locs cells slots (vx_MQ below (QI G S0 A Q) (XX G S0 A QX) args s 0 0 A) (F0 m 2 ls [])) (S : MS) (a0 : Nat) (y1 : Int32) (p_a0 : pI S 9 a0) (P : PW G A s H locs S0 S) (hl : lv_has ls 2 [(0, .ref a0), (1, .int y1)]) (hcc : cells + 0 ≤ 0) (hss : slots + 0 ≤ 0) (hw : wX9_placeOfTurn_2 Q QX k2 S a0 y1) : W p l e rmX9_placeOfTurn s m args below meth c H locs cells slots (vx_MQ below (QI G S0 A Q) (XX G S0 A QX) args s 0 0 A) (F0 m 2 ls []) := by
  have hx := CF_x C
  have hb := CF_b C
  unfold wX9_placeOfTurn_2 at hw
  refine lv_iload_n hx hb dX9_placeOfTurn_2 rfl (lv_at hl 1 rfl) ?_
  refine lv_aload_n hx hb dX9_placeOfTurn_3 rfl (lv_at hl 0 rfl) ?_
  obtain ⟨a1, e1, hw⟩ := hw
  have p_a1 : pI S 12 a1 := wf_r P.2.2.2.1 p_a0 e1
  refine gf_9_1 C P p_a0 e1 q_1306 dX9_placeOfTurn_4 ?_
  refine lv_sipush (v := 157) hx hb dX9_placeOfTurn_7 (by decide) ?_
  obtain ⟨h1, hw⟩ := hw
  refine ra_i C P p_a1 h1 dX9_placeOfTurn_10 ?_
  refine lv_icmp_ge (tgt := 43) hx hb dX9_placeOfTurn_11 (by decide) (fun hc => ?_) (fun hc => ?_)
  · have hw := hw.1 hc
    refine lv_iconst (v := (-1)) hx hb dX9_placeOfTurn_43 (by decide) ?_
    exact e_i C hr rfl P hw (by omega) (by omega) dX9_placeOfTurn_44
  · have hw := hw.2 hc
    refine lv_aload_n hx hb dX9_placeOfTurn_14 rfl (lv_at hl 0 rfl) ?_
    obtain ⟨a2, e1, hw⟩ := hw
    have p_a2 : pI S 12 a2 := wf_r P.2.2.2.1 p_a0 e1
    refine gf_9_1 C P p_a0 e1 q_1306 dX9_placeOfTurn_15 ?_
    refine lv_sipush (v := 158) hx hb dX9_placeOfTurn_18 (by decide) ?_
    refine lv_iload_n hx hb dX9_placeOfTurn_21 rfl (lv_at hl 1 rfl) ?_
    refine lv_iadd hx hb dX9_placeOfTurn_22 ?_
    obtain ⟨h1, hw⟩ := hw
    refine ra_i C P p_a2 h1 dX9_placeOfTurn_23 ?_
    refine lv_aload_n hx hb dX9_placeOfTurn_24 rfl (lv_at hl 0 rfl) ?_
    obtain ⟨a3, e1, hw⟩ := hw
    have p_a3 : pI S 12 a3 := wf_r P.2.2.2.1 p_a0 e1
    refine gf_9_1 C P p_a0 e1 q_1306 dX9_placeOfTurn_25 ?_
    refine lv_sipush (v := 166) hx hb dX9_placeOfTurn_28 (by decide) ?_
    obtain ⟨h1, hw⟩ := hw
    refine ra_i C P p_a3 h1 dX9_placeOfTurn_31 ?_
    refine lv_icmp_ne (tgt := 37) hx hb dX9_placeOfTurn_32 (by decide) (fun hc => ?_) (fun hc => ?_)
    · have hw := hw.1 hc
      refine lv_iinc (v := (y1 + 1)) (lv' := [(1, .int (y1 + 1)), (0, .ref a0)]) hx hb dX9_placeOfTurn_37 hl (k := 1) rfl (by rfl) (by decide) rfl (fun ls hl => ?_)
      refine lv_goto (tgt := 2) hx hb dX9_placeOfTurn_40 (by decide) ?_
      exact kh2 S a0 (y1 + 1) _ _ _ _ _ p_a0 P (lv_sub hl [1, 0] rfl) (by omega) (by omega) hw
    · have hw := hw.2 hc
      refine lv_iload_n hx hb dX9_placeOfTurn_35 rfl (lv_at hl 1 rfl) ?_
      exact e_i C hr rfl P hw (by omega) (by omega) dX9_placeOfTurn_36
def lX9_placeOfTurn_2 (Q : Int32 → MS → Prop) (QX : String → MS → Prop) : Nat → MS → Nat → Int32 → Prop
  | 0 => fun _ _ _ => False
  | n + 1 => fun S a0 y1 => wX9_placeOfTurn_2 Q QX (lX9_placeOfTurn_2 Q QX n) S a0 y1
theorem tlX9_placeOfTurn_2 {p : Program} {l : Launch} {e : Env} {s : State} {m : MethodId} {args : Array Value} {below : List Frame} {meth : Method} {c : Code} {G : GP} {A : Nat → Prop} {S0 : MS} (C : CF p l s m args meth c "SkirmishGridModel" cX9_placeOfTurn 2 G A) (hr : meth.sig.returnType = (some .int)) (hex : ∀ x ∈ c.exceptionTable.toList, False) (Q : Int32 → MS → Prop) (QX : String → MS → Prop) : ∀ (n : Nat), ∀ (S : MS) (a0 : Nat) (y1 : Int32) (cells slots : Nat) (H : Heap) (locs : List Loc) (ls : Array Slot), pI S 9 a0 → PW G A s H locs S0 S → lv_has ls 2 [(0, .ref a0), (1, .int y1)] → cells + 0 ≤ 0 → slots + 0 ≤ 0 → lX9_placeOfTurn_2 Q QX n S a0 y1 → W p l e rmX9_placeOfTurn s m args below meth c H locs cells slots (vx_MQ below (QI G S0 A Q) (XX G S0 A QX) args s 0 0 A) (F0 m 2 ls []) := by
  intro n
  induction n with
  | zero => intro S a0 y1 cells slots H locs ls p_a0 P hl hcc hss hw; exact hw.elim
  | succ n ih => intro S a0 y1 cells slots H locs ls p_a0 P hl hcc hss hw; exact tX9_placeOfTurn_2 C hr hex Q QX (lX9_placeOfTurn_2 Q QX n) ih S a0 y1 p_a0 P hl hcc hss hw
def wX9_placeOfTurn_0 (Q : Int32 → MS → Prop) (QX : String → MS → Prop) (S : MS) (a0 : Nat) : Prop := (∃ n, lX9_placeOfTurn_2 Q QX n S a0 0)
set_option maxHeartbeats 4000000 in
set_option maxRecDepth 100000 in
theorem tX9_placeOfTurn_0 {p : Program} {l : Launch} {e : Env} {s : State} {m : MethodId} {args : Array Value} {below : List Frame} {meth : Method} {c : Code} {H : Heap} {locs : List Loc} {cells slots : Nat} {G : GP} {A : Nat → Prop} {S0 : MS} {ls : Array Slot} (C : CF p l s m args meth c "SkirmishGridModel" cX9_placeOfTurn 2 G A) (hr : meth.sig.returnType = (some .int)) (hex : ∀ x ∈ c.exceptionTable.toList, False) (Q : Int32 → MS → Prop) (QX : String → MS → Prop) (S : MS) (a0 : Nat) (p_a0 : pI S 9 a0) (P : PW G A s H locs S0 S) (hl : lv_has ls 2 [(0, .ref a0)]) (hcc : cells + 0 ≤ 0) (hss : slots + 0 ≤ 0) (hw : wX9_placeOfTurn_0 Q QX S a0) : W p l e rmX9_placeOfTurn s m args below meth c H locs cells slots (vx_MQ below (QI G S0 A Q) (XX G S0 A QX) args s 0 0 A) (F0 m 0 ls []) := by
  have hx := CF_x C
  have hb := CF_b C
  unfold wX9_placeOfTurn_0 at hw
  refine lv_iconst (v := 0) hx hb dX9_placeOfTurn_0 (by decide) ?_
  refine lv_istore_n (lv' := [(1, .int 0), (0, .ref a0)]) hx hb dX9_placeOfTurn_1 rfl hl (by decide) rfl (fun ls hl => ?_)
  obtain ⟨n, hw⟩ := hw
  exact tlX9_placeOfTurn_2 C hr hex Q QX n S a0 0 _ _ _ _ _ p_a0 P (lv_sub hl [1, 0] rfl) (by omega) (by omega) hw
def wp_X9_placeOfTurn (Q : Int32 → MS → Prop) (QX : String → MS → Prop) (S : MS) (a0 : Nat) : Prop := wX9_placeOfTurn_0 Q QX S a0
set_option maxHeartbeats 4000000 in
set_option maxRecDepth 100000 in
theorem met_X9_placeOfTurn {l : Launch} (hst : l.stackTraces = false) (G : GP) (sz : Nat) (Q : Int32 → MS → Prop) (QX : String → MS → Prop) (S : MS) (a0 : Nat) (p_a0 : pI S 9 a0) (hw : wp_X9_placeOfTurn Q QX S a0) : vx_Met l yX9_placeOfTurn (.code yX9_placeOfTurn cX9_placeOfTurn 2 (some .int) :: GW) rmX9_placeOfTurn (va_Pc [.ref a0] (PR G S sz)) (QI G S (FA G S sz) Q) (XX G S (FA G S sz) QX) 0 0 (FA G S sz) := by
  refine st_m (by decide +kernel) hst (fun p e s m below meth c C hr hnm hex P => ?_)
  refine en_m (Nat.le_of_ble_eq_true rfl) (lv := [(0, .ref a0)]) rfl (fun ls hl => ?_)
  have C : CF p l s m _ meth c "SkirmishGridModel" cX9_placeOfTurn 2 G (FA G S sz) := C
  exact tX9_placeOfTurn_0 C hr hex Q QX S a0 p_a0 P hl (by omega) (by omega) hw
theorem cd_X9_placeOfTurn : yX9_placeOfTurn.cls = RX9 ∧ yX9_placeOfTurn.cls ≠ "java/lang/invoke/MethodHandle" ∧ yX9_placeOfTurn.cls ≠ "java/lang/invoke/VarHandle" ∧ (parseMethodDescriptor yX9_placeOfTurn.desc).map (fun d => d.parameters.length) = some 0 := by decide +kernel
