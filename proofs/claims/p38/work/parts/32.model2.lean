theorem q_1544 : Cond.methodLink "SkirmishGridModel" 159 yX9_loses ∈ GW := gw_t 1544 (by decide +kernel) (by decide +kernel)
theorem q_1546 : Cond.instanceMethod yX9_loses ∈ GW := gw_t 1546 (by decide +kernel) (by decide +kernel)
theorem q_p47 : Cond.selects "SkirmishGridModel" yX9_loses yX9_loses ∈ GW := gw_p 47 (by decide +kernel) (by decide +kernel)
theorem q_1547 : Cond.code yX9_loses cX9_loses 4 none ∈ GW := gw_t 1547 (by decide +kernel) (by decide +kernel)
theorem q_1548 : Cond.methodLink "SkirmishGridModel" 163 yX9_dies ∈ GW := gw_t 1548 (by decide +kernel) (by decide +kernel)
theorem q_1550 : Cond.instanceMethod yX9_dies ∈ GW := gw_t 1550 (by decide +kernel) (by decide +kernel)
theorem q_p48 : Cond.selects "SkirmishGridModel" yX9_dies yX9_dies ∈ GW := gw_p 48 (by decide +kernel) (by decide +kernel)
theorem q_1551 : Cond.code yX9_dies cX9_dies 2 none ∈ GW := gw_t 1551 (by decide +kernel) (by decide +kernel)
theorem q_1540 : Cond.methodLink "SkirmishGridModel" 156 yX9_hasTurn ∈ GW := gw_t 1540 (by decide +kernel) (by decide +kernel)
theorem q_1542 : Cond.instanceMethod yX9_hasTurn ∈ GW := gw_t 1542 (by decide +kernel) (by decide +kernel)
theorem q_p46 : Cond.selects "SkirmishGridModel" yX9_hasTurn yX9_hasTurn ∈ GW := gw_p 46 (by decide +kernel) (by decide +kernel)
theorem q_1543 : Cond.code yX9_hasTurn cX9_hasTurn 2 (some .boolean) ∈ GW := gw_t 1543 (by decide +kernel) (by decide +kernel)
theorem q_1519 : Cond.methodLink "SkirmishGridModel" 153 yX9_begins ∈ GW := gw_t 1519 (by decide +kernel) (by decide +kernel)
theorem q_1521 : Cond.instanceMethod yX9_begins ∈ GW := gw_t 1521 (by decide +kernel) (by decide +kernel)
theorem q_p41 : Cond.selects "SkirmishGridModel" yX9_begins yX9_begins ∈ GW := gw_p 41 (by decide +kernel) (by decide +kernel)
theorem q_1522 : Cond.code yX9_begins cX9_begins 3 none ∈ GW := gw_t 1522 (by decide +kernel) (by decide +kernel)
theorem q_1662 : Cond.methodLink "SkirmishGridModel" 167 yX9_placeOfTurn ∈ GW := gw_t 1662 (by decide +kernel) (by decide +kernel)
theorem q_1664 : Cond.instanceMethod yX9_placeOfTurn ∈ GW := gw_t 1664 (by decide +kernel) (by decide +kernel)
theorem q_p70 : Cond.selects "SkirmishGridModel" yX9_placeOfTurn yX9_placeOfTurn ∈ GW := gw_p 70 (by decide +kernel) (by decide +kernel)
theorem q_1665 : Cond.code yX9_placeOfTurn cX9_placeOfTurn 2 (some .int) ∈ GW := gw_t 1665 (by decide +kernel) (by decide +kernel)
theorem q_1536 : Cond.methodLink "SkirmishGridModel" 170 yX9_goesOn ∈ GW := gw_t 1536 (by decide +kernel) (by decide +kernel)
theorem q_1538 : Cond.instanceMethod yX9_goesOn ∈ GW := gw_t 1538 (by decide +kernel) (by decide +kernel)
theorem q_p45 : Cond.selects "SkirmishGridModel" yX9_goesOn yX9_goesOn ∈ GW := gw_p 45 (by decide +kernel) (by decide +kernel)
theorem q_1539 : Cond.code yX9_goesOn cX9_goesOn 3 none ∈ GW := gw_t 1539 (by decide +kernel) (by decide +kernel)
theorem q_1512 : Cond.methodLink "SkirmishGridModel" 173 yX9_copies ∈ GW := gw_t 1512 (by decide +kernel) (by decide +kernel)
theorem q_1513 : Cond.static yX9_copies ∈ GW := gw_t 1513 (by decide +kernel) (by decide +kernel)
theorem q_1514 : Cond.code yX9_copies cX9_copies 4 none ∈ GW := gw_t 1514 (by decide +kernel) (by decide +kernel)
theorem q_1515 : Cond.methodLink "SkirmishGridModel" 177 yX9_fights ∈ GW := gw_t 1515 (by decide +kernel) (by decide +kernel)
theorem q_1517 : Cond.instanceMethod yX9_fights ∈ GW := gw_t 1517 (by decide +kernel) (by decide +kernel)
theorem q_p40 : Cond.selects "SkirmishGridModel" yX9_fights yX9_fights ∈ GW := gw_p 40 (by decide +kernel) (by decide +kernel)
theorem q_1518 : Cond.code yX9_fights cX9_fights 1 none ∈ GW := gw_t 1518 (by decide +kernel) (by decide +kernel)
theorem q_1572 : Cond.methodLink "SkirmishGridModel" 180 yX9_step ∈ GW := gw_t 1572 (by decide +kernel) (by decide +kernel)
theorem q_1574 : Cond.instanceMethod yX9_step ∈ GW := gw_t 1574 (by decide +kernel) (by decide +kernel)
theorem q_p53 : Cond.selects "SkirmishGridModel" yX9_step yX9_step ∈ GW := gw_p 53 (by decide +kernel) (by decide +kernel)
theorem q_1575 : Cond.code yX9_step cX9_step 5 (some .int) ∈ GW := gw_t 1575 (by decide +kernel) (by decide +kernel)
theorem q_1564 : Cond.methodLink "SkirmishGridModel" 183 yX9_isFree ∈ GW := gw_t 1564 (by decide +kernel) (by decide +kernel)
theorem q_1566 : Cond.instanceMethod yX9_isFree ∈ GW := gw_t 1566 (by decide +kernel) (by decide +kernel)
theorem q_p51 : Cond.selects "SkirmishGridModel" yX9_isFree yX9_isFree ∈ GW := gw_p 51 (by decide +kernel) (by decide +kernel)
theorem q_1567 : Cond.code yX9_isFree cX9_isFree 2 (some .boolean) ∈ GW := gw_t 1567 (by decide +kernel) (by decide +kernel)
theorem q_1576 : Cond.methodLink "SkirmishGridModel" 186 yX9_price ∈ GW := gw_t 1576 (by decide +kernel) (by decide +kernel)
theorem q_1578 : Cond.instanceMethod yX9_price ∈ GW := gw_t 1578 (by decide +kernel) (by decide +kernel)
theorem q_p54 : Cond.selects "SkirmishGridModel" yX9_price yX9_price ∈ GW := gw_p 54 (by decide +kernel) (by decide +kernel)
theorem q_1579 : Cond.code yX9_price cX9_price 2 (some .int) ∈ GW := gw_t 1579 (by decide +kernel) (by decide +kernel)
theorem q_1568 : Cond.methodLink "SkirmishGridModel" 189 yX9_measures ∈ GW := gw_t 1568 (by decide +kernel) (by decide +kernel)
theorem q_1570 : Cond.instanceMethod yX9_measures ∈ GW := gw_t 1570 (by decide +kernel) (by decide +kernel)
theorem q_p52 : Cond.selects "SkirmishGridModel" yX9_measures yX9_measures ∈ GW := gw_p 52 (by decide +kernel) (by decide +kernel)
theorem q_1571 : Cond.code yX9_measures cX9_measures 8 none ∈ GW := gw_t 1571 (by decide +kernel) (by decide +kernel)
theorem q_1556 : Cond.methodLink "SkirmishGridModel" 192 yX9_mayAsk ∈ GW := gw_t 1556 (by decide +kernel) (by decide +kernel)
theorem q_1558 : Cond.instanceMethod yX9_mayAsk ∈ GW := gw_t 1558 (by decide +kernel) (by decide +kernel)
theorem q_p49 : Cond.selects "SkirmishGridModel" yX9_mayAsk yX9_mayAsk ∈ GW := gw_p 49 (by decide +kernel) (by decide +kernel)
theorem q_1559 : Cond.code yX9_mayAsk cX9_mayAsk 2 (some .boolean) ∈ GW := gw_t 1559 (by decide +kernel) (by decide +kernel)
theorem q_1560 : Cond.methodLink "SkirmishGridModel" 196 yX9_costsTo ∈ GW := gw_t 1560 (by decide +kernel) (by decide +kernel)
theorem q_1562 : Cond.instanceMethod yX9_costsTo ∈ GW := gw_t 1562 (by decide +kernel) (by decide +kernel)
theorem q_p50 : Cond.selects "SkirmishGridModel" yX9_costsTo yX9_costsTo ∈ GW := gw_p 50 (by decide +kernel) (by decide +kernel)
theorem q_1563 : Cond.code yX9_costsTo cX9_costsTo 3 (some .int) ∈ GW := gw_t 1563 (by decide +kernel) (by decide +kernel)
theorem q_1584 : Cond.methodLink "SkirmishGridModel" 199 yX9_next ∈ GW := gw_t 1584 (by decide +kernel) (by decide +kernel)
theorem q_1586 : Cond.instanceMethod yX9_next ∈ GW := gw_t 1586 (by decide +kernel) (by decide +kernel)
theorem q_p55 : Cond.selects "SkirmishGridModel" yX9_next yX9_next ∈ GW := gw_p 55 (by decide +kernel) (by decide +kernel)
theorem q_1587 : Cond.code yX9_next cX9_next 4 (some .int) ∈ GW := gw_t 1587 (by decide +kernel) (by decide +kernel)
theorem q_1600 : Cond.methodLink "SkirmishGridModel" 202 yX9_apart ∈ GW := gw_t 1600 (by decide +kernel) (by decide +kernel)
theorem q_1602 : Cond.instanceMethod yX9_apart ∈ GW := gw_t 1602 (by decide +kernel) (by decide +kernel)
theorem q_p58 : Cond.selects "SkirmishGridModel" yX9_apart yX9_apart ∈ GW := gw_p 58 (by decide +kernel) (by decide +kernel)
theorem q_1603 : Cond.code yX9_apart cX9_apart 5 (some .int) ∈ GW := gw_t 1603 (by decide +kernel) (by decide +kernel)
theorem q_1604 : Cond.methodLink "SkirmishGridModel" 205 yX9_hits ∈ GW := gw_t 1604 (by decide +kernel) (by decide +kernel)
theorem q_1606 : Cond.instanceMethod yX9_hits ∈ GW := gw_t 1606 (by decide +kernel) (by decide +kernel)
theorem q_p59 : Cond.selects "SkirmishGridModel" yX9_hits yX9_hits ∈ GW := gw_p 59 (by decide +kernel) (by decide +kernel)
theorem q_1607 : Cond.code yX9_hits cX9_hits 5 (some .boolean) ∈ GW := gw_t 1607 (by decide +kernel) (by decide +kernel)
theorem q_1617 : Cond.methodLink "SkirmishGridModel" 208 yX9_damage ∈ GW := gw_t 1617 (by decide +kernel) (by decide +kernel)
theorem q_1619 : Cond.instanceMethod yX9_damage ∈ GW := gw_t 1619 (by decide +kernel) (by decide +kernel)
theorem q_p61 : Cond.selects "SkirmishGridModel" yX9_damage yX9_damage ∈ GW := gw_p 61 (by decide +kernel) (by decide +kernel)
theorem q_1620 : Cond.code yX9_damage cX9_damage 6 (some .int) ∈ GW := gw_t 1620 (by decide +kernel) (by decide +kernel)
theorem q_1596 : Cond.methodLink "SkirmishGridModel" 212 yX9_canAttack ∈ GW := gw_t 1596 (by decide +kernel) (by decide +kernel)
theorem q_1598 : Cond.instanceMethod yX9_canAttack ∈ GW := gw_t 1598 (by decide +kernel) (by decide +kernel)
theorem q_p57 : Cond.selects "SkirmishGridModel" yX9_canAttack yX9_canAttack ∈ GW := gw_p 57 (by decide +kernel) (by decide +kernel)
theorem q_1599 : Cond.code yX9_canAttack cX9_canAttack 3 (some .boolean) ∈ GW := gw_t 1599 (by decide +kernel) (by decide +kernel)
theorem q_1608 : Cond.constantDouble "SkirmishGridModel" 218 4626322717216342016 ∈ GW := gw_t 1608 (by decide +kernel) (by decide +kernel)
theorem q_1592 : Cond.methodLink "SkirmishGridModel" 215 yX9_mayLook ∈ GW := gw_t 1592 (by decide +kernel) (by decide +kernel)
theorem q_1594 : Cond.instanceMethod yX9_mayLook ∈ GW := gw_t 1594 (by decide +kernel) (by decide +kernel)
theorem q_p56 : Cond.selects "SkirmishGridModel" yX9_mayLook yX9_mayLook ∈ GW := gw_p 56 (by decide +kernel) (by decide +kernel)
theorem q_1595 : Cond.code yX9_mayLook cX9_mayLook 3 (some .boolean) ∈ GW := gw_t 1595 (by decide +kernel) (by decide +kernel)
theorem q_1613 : Cond.methodLink "SkirmishGridModel" 220 yX9_damages ∈ GW := gw_t 1613 (by decide +kernel) (by decide +kernel)
theorem q_1615 : Cond.instanceMethod yX9_damages ∈ GW := gw_t 1615 (by decide +kernel) (by decide +kernel)
theorem q_p60 : Cond.selects "SkirmishGridModel" yX9_damages yX9_damages ∈ GW := gw_p 60 (by decide +kernel) (by decide +kernel)
theorem q_1616 : Cond.code yX9_damages cX9_damages 6 (some .int) ∈ GW := gw_t 1616 (by decide +kernel) (by decide +kernel)
theorem q_1621 : Cond.constantDouble "SkirmishGridModel" 223 4635329916471083008 ∈ GW := gw_t 1621 (by decide +kernel) (by decide +kernel)
theorem dX9_hasTurn_0 : decode cX9_hasTurn 0 = .ok (.aload_n 0, 1) := by decide +kernel
theorem dX9_hasTurn_1 : decode cX9_hasTurn 1 = .ok (.iload_n 1, 1) := by decide +kernel
theorem dX9_hasTurn_2 : decode cX9_hasTurn 2 = .ok (.invokevirtual 117, 3) := by decide +kernel
theorem dX9_hasTurn_5 : decode cX9_hasTurn 5 = .ok (.ifCond .ne 5, 3) := by decide +kernel
theorem dX9_hasTurn_8 : decode cX9_hasTurn 8 = .ok (.iconst 0, 1) := by decide +kernel
theorem dX9_hasTurn_9 : decode cX9_hasTurn 9 = .ok (.ireturn, 1) := by decide +kernel
theorem dX9_hasTurn_10 : decode cX9_hasTurn 10 = .ok (.aload_n 0, 1) := by decide +kernel
theorem dX9_hasTurn_11 : decode cX9_hasTurn 11 = .ok (.iload_n 1, 1) := by decide +kernel
theorem dX9_hasTurn_12 : decode cX9_hasTurn 12 = .ok (.bipush 9, 2) := by decide +kernel
theorem dX9_hasTurn_14 : decode cX9_hasTurn 14 = .ok (.iconst 0, 1) := by decide +kernel
theorem dX9_hasTurn_15 : decode cX9_hasTurn 15 = .ok (.invokevirtual 127, 3) := by decide +kernel
theorem dX9_hasTurn_18 : decode cX9_hasTurn 18 = .ok (.aload_n 0, 1) := by decide +kernel
theorem dX9_hasTurn_19 : decode cX9_hasTurn 19 = .ok (.iload_n 1, 1) := by decide +kernel
theorem dX9_hasTurn_20 : decode cX9_hasTurn 20 = .ok (.bipush 10, 2) := by decide +kernel
theorem dX9_hasTurn_22 : decode cX9_hasTurn 22 = .ok (.iconst 0, 1) := by decide +kernel
theorem dX9_hasTurn_23 : decode cX9_hasTurn 23 = .ok (.invokevirtual 127, 3) := by decide +kernel
theorem dX9_hasTurn_26 : decode cX9_hasTurn 26 = .ok (.aload_n 0, 1) := by decide +kernel
theorem dX9_hasTurn_27 : decode cX9_hasTurn 27 = .ok (.iload_n 1, 1) := by decide +kernel
theorem dX9_hasTurn_28 : decode cX9_hasTurn 28 = .ok (.bipush 8, 2) := by decide +kernel
theorem dX9_hasTurn_30 : decode cX9_hasTurn 30 = .ok (.invokevirtual 60, 3) := by decide +kernel
theorem dX9_hasTurn_33 : decode cX9_hasTurn 33 = .ok (.ifCond .le 21, 3) := by decide +kernel
theorem dX9_hasTurn_36 : decode cX9_hasTurn 36 = .ok (.aload_n 0, 1) := by decide +kernel
theorem dX9_hasTurn_37 : decode cX9_hasTurn 37 = .ok (.iload_n 1, 1) := by decide +kernel
theorem dX9_hasTurn_38 : decode cX9_hasTurn 38 = .ok (.iconst 2, 1) := by decide +kernel
theorem dX9_hasTurn_39 : decode cX9_hasTurn 39 = .ok (.invokevirtual 159, 3) := by decide +kernel
theorem dX9_hasTurn_42 : decode cX9_hasTurn 42 = .ok (.aload_n 0, 1) := by decide +kernel
theorem dX9_hasTurn_43 : decode cX9_hasTurn 43 = .ok (.iconst 5, 1) := by decide +kernel
theorem dX9_hasTurn_44 : decode cX9_hasTurn 44 = .ok (.iload_n 1, 1) := by decide +kernel
theorem dX9_hasTurn_45 : decode cX9_hasTurn 45 = .ok (.iconst 2, 1) := by decide +kernel
theorem dX9_hasTurn_46 : decode cX9_hasTurn 46 = .ok (.invokevirtual 141, 3) := by decide +kernel
theorem dX9_hasTurn_49 : decode cX9_hasTurn 49 = .ok (.aload_n 0, 1) := by decide +kernel
theorem dX9_hasTurn_50 : decode cX9_hasTurn 50 = .ok (.iload_n 1, 1) := by decide +kernel
theorem dX9_hasTurn_51 : decode cX9_hasTurn 51 = .ok (.invokevirtual 163, 3) := by decide +kernel
theorem dX9_hasTurn_54 : decode cX9_hasTurn 54 = .ok (.aload_n 0, 1) := by decide +kernel
theorem dX9_hasTurn_55 : decode cX9_hasTurn 55 = .ok (.iload_n 1, 1) := by decide +kernel
theorem dX9_hasTurn_56 : decode cX9_hasTurn 56 = .ok (.invokevirtual 117, 3) := by decide +kernel
theorem dX9_hasTurn_59 : decode cX9_hasTurn 59 = .ok (.ifCond .ne 5, 3) := by decide +kernel
theorem dX9_hasTurn_62 : decode cX9_hasTurn 62 = .ok (.iconst 0, 1) := by decide +kernel
theorem dX9_hasTurn_63 : decode cX9_hasTurn 63 = .ok (.ireturn, 1) := by decide +kernel
theorem dX9_hasTurn_64 : decode cX9_hasTurn 64 = .ok (.aload_n 0, 1) := by decide +kernel
theorem dX9_hasTurn_65 : decode cX9_hasTurn 65 = .ok (.getfield 9, 3) := by decide +kernel
theorem dX9_hasTurn_68 : decode cX9_hasTurn 68 = .ok (.sipush 166, 3) := by decide +kernel
theorem dX9_hasTurn_71 : decode cX9_hasTurn 71 = .ok (.iload_n 1, 1) := by decide +kernel
theorem dX9_hasTurn_72 : decode cX9_hasTurn 72 = .ok (.iastore, 1) := by decide +kernel
theorem dX9_hasTurn_73 : decode cX9_hasTurn 73 = .ok (.aload_n 0, 1) := by decide +kernel
theorem dX9_hasTurn_74 : decode cX9_hasTurn 74 = .ok (.getfield 9, 3) := by decide +kernel
theorem dX9_hasTurn_77 : decode cX9_hasTurn 77 = .ok (.sipush 167, 3) := by decide +kernel
theorem dX9_hasTurn_80 : decode cX9_hasTurn 80 = .ok (.aload_n 0, 1) := by decide +kernel
theorem dX9_hasTurn_81 : decode cX9_hasTurn 81 = .ok (.iload_n 1, 1) := by decide +kernel
theorem dX9_hasTurn_82 : decode cX9_hasTurn 82 = .ok (.bipush 7, 2) := by decide +kernel
theorem dX9_hasTurn_84 : decode cX9_hasTurn 84 = .ok (.invokevirtual 60, 3) := by decide +kernel
theorem dX9_hasTurn_87 : decode cX9_hasTurn 87 = .ok (.ifCond .le 7, 3) := by decide +kernel
theorem dX9_hasTurn_90 : decode cX9_hasTurn 90 = .ok (.iconst 0, 1) := by decide +kernel
theorem dX9_hasTurn_91 : decode cX9_hasTurn 91 = .ok (.goto 4, 3) := by decide +kernel
theorem dX9_hasTurn_94 : decode cX9_hasTurn 94 = .ok (.iconst 2, 1) := by decide +kernel
theorem dX9_hasTurn_95 : decode cX9_hasTurn 95 = .ok (.iastore, 1) := by decide +kernel
theorem dX9_hasTurn_96 : decode cX9_hasTurn 96 = .ok (.iconst 1, 1) := by decide +kernel
theorem dX9_hasTurn_97 : decode cX9_hasTurn 97 = .ok (.ireturn, 1) := by decide +kernel
theorem dX9_goesOn_0 : decode cX9_goesOn 0 = .ok (.aload_n 0, 1) := by decide +kernel
theorem dX9_goesOn_1 : decode cX9_goesOn 1 = .ok (.iload_n 1, 1) := by decide +kernel
theorem dX9_goesOn_2 : decode cX9_goesOn 2 = .ok (.putfield 150, 3) := by decide +kernel
theorem dX9_goesOn_5 : decode cX9_goesOn 5 = .ok (.aload_n 0, 1) := by decide +kernel
theorem dX9_goesOn_6 : decode cX9_goesOn 6 = .ok (.getfield 9, 3) := by decide +kernel
theorem dX9_goesOn_9 : decode cX9_goesOn 9 = .ok (.sipush 167, 3) := by decide +kernel
theorem dX9_goesOn_12 : decode cX9_goesOn 12 = .ok (.iconst 0, 1) := by decide +kernel
theorem dX9_goesOn_13 : decode cX9_goesOn 13 = .ok (.iastore, 1) := by decide +kernel
theorem dX9_goesOn_14 : decode cX9_goesOn 14 = .ok (.aload_n 0, 1) := by decide +kernel
theorem dX9_goesOn_15 : decode cX9_goesOn 15 = .ok (.invokevirtual 137, 3) := by decide +kernel
theorem dX9_goesOn_18 : decode cX9_goesOn 18 = .ok (.iconst 1, 1) := by decide +kernel
theorem dX9_goesOn_19 : decode cX9_goesOn 19 = .ok (.if_icmp .ne 7, 3) := by decide +kernel
theorem dX9_goesOn_22 : decode cX9_goesOn 22 = .ok (.iconst 1, 1) := by decide +kernel
theorem dX9_goesOn_23 : decode cX9_goesOn 23 = .ok (.goto 4, 3) := by decide +kernel
theorem dX9_goesOn_26 : decode cX9_goesOn 26 = .ok (.iconst 0, 1) := by decide +kernel
theorem dX9_goesOn_27 : decode cX9_goesOn 27 = .ok (.istore_n 2, 1) := by decide +kernel
theorem dX9_goesOn_28 : decode cX9_goesOn 28 = .ok (.aload_n 0, 1) := by decide +kernel
theorem dX9_goesOn_29 : decode cX9_goesOn 29 = .ok (.getfield 9, 3) := by decide +kernel
theorem dX9_goesOn_32 : decode cX9_goesOn 32 = .ok (.sipush 166, 3) := by decide +kernel
theorem dX9_goesOn_35 : decode cX9_goesOn 35 = .ok (.iconst (-1), 1) := by decide +kernel
theorem dX9_goesOn_36 : decode cX9_goesOn 36 = .ok (.iastore, 1) := by decide +kernel
theorem dX9_goesOn_37 : decode cX9_goesOn 37 = .ok (.iload_n 2, 1) := by decide +kernel
theorem dX9_goesOn_38 : decode cX9_goesOn 38 = .ok (.ifCond .eq 72, 3) := by decide +kernel
theorem dX9_goesOn_41 : decode cX9_goesOn 41 = .ok (.aload_n 0, 1) := by decide +kernel
theorem dX9_goesOn_42 : decode cX9_goesOn 42 = .ok (.dup, 1) := by decide +kernel
theorem dX9_goesOn_43 : decode cX9_goesOn 43 = .ok (.getfield 150, 3) := by decide +kernel
theorem dX9_goesOn_46 : decode cX9_goesOn 46 = .ok (.iconst 1, 1) := by decide +kernel
theorem dX9_goesOn_47 : decode cX9_goesOn 47 = .ok (.iadd, 1) := by decide +kernel
theorem dX9_goesOn_48 : decode cX9_goesOn 48 = .ok (.putfield 150, 3) := by decide +kernel
theorem dX9_goesOn_51 : decode cX9_goesOn 51 = .ok (.aload_n 0, 1) := by decide +kernel
theorem dX9_goesOn_52 : decode cX9_goesOn 52 = .ok (.getfield 150, 3) := by decide +kernel
theorem dX9_goesOn_55 : decode cX9_goesOn 55 = .ok (.aload_n 0, 1) := by decide +kernel
theorem dX9_goesOn_56 : decode cX9_goesOn 56 = .ok (.getfield 9, 3) := by decide +kernel
theorem dX9_goesOn_59 : decode cX9_goesOn 59 = .ok (.sipush 157, 3) := by decide +kernel
theorem dX9_goesOn_62 : decode cX9_goesOn 62 = .ok (.iaload, 1) := by decide +kernel
theorem dX9_goesOn_63 : decode cX9_goesOn 63 = .ok (.if_icmp .ne 10, 3) := by decide +kernel
theorem dX9_goesOn_66 : decode cX9_goesOn 66 = .ok (.aload_n 0, 1) := by decide +kernel
theorem dX9_goesOn_67 : decode cX9_goesOn 67 = .ok (.invokevirtual 153, 3) := by decide +kernel
theorem dX9_goesOn_70 : decode cX9_goesOn 70 = .ok (.goto (-33), 3) := by decide +kernel
theorem dX9_goesOn_73 : decode cX9_goesOn 73 = .ok (.aload_n 0, 1) := by decide +kernel
theorem dX9_goesOn_74 : decode cX9_goesOn 74 = .ok (.aload_n 0, 1) := by decide +kernel
theorem dX9_goesOn_75 : decode cX9_goesOn 75 = .ok (.getfield 9, 3) := by decide +kernel
theorem dX9_goesOn_78 : decode cX9_goesOn 78 = .ok (.sipush 158, 3) := by decide +kernel
theorem dX9_goesOn_81 : decode cX9_goesOn 81 = .ok (.aload_n 0, 1) := by decide +kernel
theorem dX9_goesOn_82 : decode cX9_goesOn 82 = .ok (.getfield 150, 3) := by decide +kernel
theorem dX9_goesOn_85 : decode cX9_goesOn 85 = .ok (.iadd, 1) := by decide +kernel
theorem dX9_goesOn_86 : decode cX9_goesOn 86 = .ok (.iaload, 1) := by decide +kernel
theorem dX9_goesOn_87 : decode cX9_goesOn 87 = .ok (.invokevirtual 156, 3) := by decide +kernel
theorem dX9_goesOn_90 : decode cX9_goesOn 90 = .ok (.ifCond .ne 15, 3) := by decide +kernel
theorem dX9_goesOn_93 : decode cX9_goesOn 93 = .ok (.aload_n 0, 1) := by decide +kernel
theorem dX9_goesOn_94 : decode cX9_goesOn 94 = .ok (.invokevirtual 137, 3) := by decide +kernel
theorem dX9_goesOn_97 : decode cX9_goesOn 97 = .ok (.iconst 1, 1) := by decide +kernel
theorem dX9_goesOn_98 : decode cX9_goesOn 98 = .ok (.if_icmp .ne 7, 3) := by decide +kernel
theorem dX9_goesOn_101 : decode cX9_goesOn 101 = .ok (.iconst 1, 1) := by decide +kernel
theorem dX9_goesOn_102 : decode cX9_goesOn 102 = .ok (.goto 4, 3) := by decide +kernel
theorem dX9_goesOn_105 : decode cX9_goesOn 105 = .ok (.iconst 0, 1) := by decide +kernel
theorem dX9_goesOn_106 : decode cX9_goesOn 106 = .ok (.istore_n 2, 1) := by decide +kernel
theorem dX9_goesOn_107 : decode cX9_goesOn 107 = .ok (.goto (-70), 3) := by decide +kernel
theorem dX9_goesOn_110 : decode cX9_goesOn 110 = .ok (.return_, 1) := by decide +kernel
theorem dX9_settles_0 : decode cX9_settles 0 = .ok (.aload_n 0, 1) := by decide +kernel
theorem dX9_settles_1 : decode cX9_settles 1 = .ok (.invokevirtual 137, 3) := by decide +kernel
theorem dX9_settles_4 : decode cX9_settles 4 = .ok (.iconst 1, 1) := by decide +kernel
theorem dX9_settles_5 : decode cX9_settles 5 = .ok (.if_icmp .eq 24, 3) := by decide +kernel
theorem dX9_settles_8 : decode cX9_settles 8 = .ok (.aload_n 0, 1) := by decide +kernel
theorem dX9_settles_9 : decode cX9_settles 9 = .ok (.getfield 9, 3) := by decide +kernel
theorem dX9_settles_12 : decode cX9_settles 12 = .ok (.sipush 166, 3) := by decide +kernel
theorem dX9_settles_15 : decode cX9_settles 15 = .ok (.iconst (-1), 1) := by decide +kernel
theorem dX9_settles_16 : decode cX9_settles 16 = .ok (.iastore, 1) := by decide +kernel
theorem dX9_settles_17 : decode cX9_settles 17 = .ok (.aload_n 0, 1) := by decide +kernel
theorem dX9_settles_18 : decode cX9_settles 18 = .ok (.getfield 9, 3) := by decide +kernel
theorem dX9_settles_21 : decode cX9_settles 21 = .ok (.sipush 167, 3) := by decide +kernel
theorem dX9_settles_24 : decode cX9_settles 24 = .ok (.iconst 0, 1) := by decide +kernel
theorem dX9_settles_25 : decode cX9_settles 25 = .ok (.iastore, 1) := by decide +kernel
theorem dX9_settles_26 : decode cX9_settles 26 = .ok (.goto 26, 3) := by decide +kernel
theorem dX9_settles_29 : decode cX9_settles 29 = .ok (.aload_n 0, 1) := by decide +kernel
theorem dX9_settles_30 : decode cX9_settles 30 = .ok (.aload_n 0, 1) := by decide +kernel
theorem dX9_settles_31 : decode cX9_settles 31 = .ok (.getfield 9, 3) := by decide +kernel
theorem dX9_settles_34 : decode cX9_settles 34 = .ok (.sipush 166, 3) := by decide +kernel
theorem dX9_settles_37 : decode cX9_settles 37 = .ok (.iaload, 1) := by decide +kernel
theorem dX9_settles_38 : decode cX9_settles 38 = .ok (.invokevirtual 117, 3) := by decide +kernel
theorem dX9_settles_41 : decode cX9_settles 41 = .ok (.ifCond .ne 11, 3) := by decide +kernel
theorem dX9_settles_44 : decode cX9_settles 44 = .ok (.aload_n 0, 1) := by decide +kernel
theorem dX9_settles_45 : decode cX9_settles 45 = .ok (.aload_n 0, 1) := by decide +kernel
theorem dX9_settles_46 : decode cX9_settles 46 = .ok (.invokevirtual 167, 3) := by decide +kernel
theorem dX9_settles_49 : decode cX9_settles 49 = .ok (.invokevirtual 170, 3) := by decide +kernel
theorem dX9_settles_52 : decode cX9_settles 52 = .ok (.return_, 1) := by decide +kernel
theorem dX9_fights_0 : decode cX9_fights 0 = .ok (.aload_n 0, 1) := by decide +kernel
theorem dX9_fights_1 : decode cX9_fights 1 = .ok (.invokevirtual 153, 3) := by decide +kernel
theorem dX9_fights_4 : decode cX9_fights 4 = .ok (.aload_n 0, 1) := by decide +kernel
theorem dX9_fights_5 : decode cX9_fights 5 = .ok (.iconst (-1), 1) := by decide +kernel
theorem dX9_fights_6 : decode cX9_fights 6 = .ok (.invokevirtual 170, 3) := by decide +kernel
theorem dX9_fights_9 : decode cX9_fights 9 = .ok (.return_, 1) := by decide +kernel
theorem dX9_begin_0 : decode cX9_begin 0 = .ok (.aload_n 0, 1) := by decide +kernel
theorem dX9_begin_1 : decode cX9_begin 1 = .ok (.aload_n 0, 1) := by decide +kernel
theorem dX9_begin_2 : decode cX9_begin 2 = .ok (.invokevirtual 123, 3) := by decide +kernel
theorem dX9_begin_5 : decode cX9_begin 5 = .ok (.ifCond .ne 19, 3) := by decide +kernel
theorem dX9_begin_8 : decode cX9_begin 8 = .ok (.aload_n 0, 1) := by decide +kernel
theorem dX9_begin_9 : decode cX9_begin 9 = .ok (.iconst 0, 1) := by decide +kernel
theorem dX9_begin_10 : decode cX9_begin 10 = .ok (.invokevirtual 134, 3) := by decide +kernel
theorem dX9_begin_13 : decode cX9_begin 13 = .ok (.ifCond .eq 11, 3) := by decide +kernel
theorem dX9_begin_16 : decode cX9_begin 16 = .ok (.aload_n 0, 1) := by decide +kernel
theorem dX9_begin_17 : decode cX9_begin 17 = .ok (.iconst 1, 1) := by decide +kernel
theorem dX9_begin_18 : decode cX9_begin 18 = .ok (.invokevirtual 134, 3) := by decide +kernel
theorem dX9_begin_21 : decode cX9_begin 21 = .ok (.ifCond .ne 7, 3) := by decide +kernel
theorem dX9_begin_24 : decode cX9_begin 24 = .ok (.iconst 1, 1) := by decide +kernel
theorem dX9_begin_25 : decode cX9_begin 25 = .ok (.goto 4, 3) := by decide +kernel
theorem dX9_begin_28 : decode cX9_begin 28 = .ok (.iconst 0, 1) := by decide +kernel
theorem dX9_begin_29 : decode cX9_begin 29 = .ok (.putfield 57, 3) := by decide +kernel
theorem dX9_begin_32 : decode cX9_begin 32 = .ok (.aload_n 0, 1) := by decide +kernel
theorem dX9_begin_33 : decode cX9_begin 33 = .ok (.getfield 57, 3) := by decide +kernel
theorem dX9_begin_36 : decode cX9_begin 36 = .ok (.iconst 1, 1) := by decide +kernel
theorem dX9_begin_37 : decode cX9_begin 37 = .ok (.if_icmp .ne 5, 3) := by decide +kernel
theorem dX9_begin_40 : decode cX9_begin 40 = .ok (.iconst 0, 1) := by decide +kernel
theorem dX9_begin_41 : decode cX9_begin 41 = .ok (.ireturn, 1) := by decide +kernel
theorem dX9_begin_42 : decode cX9_begin 42 = .ok (.aload_n 0, 1) := by decide +kernel
theorem dX9_begin_43 : decode cX9_begin 43 = .ok (.getfield 9, 3) := by decide +kernel
theorem dX9_begin_46 : decode cX9_begin 46 = .ok (.aload_n 0, 1) := by decide +kernel
theorem dX9_begin_47 : decode cX9_begin 47 = .ok (.getfield 13, 3) := by decide +kernel
theorem dX9_begin_50 : decode cX9_begin 50 = .ok (.sipush 290, 3) := by decide +kernel
theorem dX9_begin_53 : decode cX9_begin 53 = .ok (.invokestatic 173, 3) := by decide +kernel
theorem dX9_begin_56 : decode cX9_begin 56 = .ok (.aload_n 0, 1) := by decide +kernel
theorem dX9_begin_57 : decode cX9_begin 57 = .ok (.invokevirtual 177, 3) := by decide +kernel
theorem dX9_begin_60 : decode cX9_begin 60 = .ok (.aload_n 0, 1) := by decide +kernel
theorem dX9_begin_61 : decode cX9_begin 61 = .ok (.getfield 9, 3) := by decide +kernel
theorem dX9_begin_64 : decode cX9_begin 64 = .ok (.sipush 166, 3) := by decide +kernel
theorem dX9_begin_67 : decode cX9_begin 67 = .ok (.iaload, 1) := by decide +kernel
theorem dX9_begin_68 : decode cX9_begin 68 = .ok (.ireturn, 1) := by decide +kernel
theorem dX9_step_0 : decode cX9_step 0 = .ok (.aload_n 0, 1) := by decide +kernel
theorem dX9_step_1 : decode cX9_step 1 = .ok (.iload_n 1, 1) := by decide +kernel
theorem dX9_step_2 : decode cX9_step 2 = .ok (.invokevirtual 71, 3) := by decide +kernel
theorem dX9_step_5 : decode cX9_step 5 = .ok (.iload_n 2, 1) := by decide +kernel
theorem dX9_step_6 : decode cX9_step 6 = .ok (.ifCond .ne 7, 3) := by decide +kernel
theorem dX9_step_9 : decode cX9_step 9 = .ok (.iconst (-1), 1) := by decide +kernel
theorem dX9_step_10 : decode cX9_step 10 = .ok (.goto 13, 3) := by decide +kernel
theorem dX9_step_13 : decode cX9_step 13 = .ok (.iload_n 2, 1) := by decide +kernel
theorem dX9_step_14 : decode cX9_step 14 = .ok (.iconst 2, 1) := by decide +kernel
theorem dX9_step_15 : decode cX9_step 15 = .ok (.if_icmp .ne 7, 3) := by decide +kernel
theorem dX9_step_18 : decode cX9_step 18 = .ok (.iconst 1, 1) := by decide +kernel
theorem dX9_step_19 : decode cX9_step 19 = .ok (.goto 4, 3) := by decide +kernel
theorem dX9_step_22 : decode cX9_step 22 = .ok (.iconst 0, 1) := by decide +kernel
theorem dX9_step_23 : decode cX9_step 23 = .ok (.iadd, 1) := by decide +kernel
theorem dX9_step_24 : decode cX9_step 24 = .ok (.istore_n 3, 1) := by decide +kernel
theorem dX9_step_25 : decode cX9_step 25 = .ok (.aload_n 0, 1) := by decide +kernel
theorem dX9_step_26 : decode cX9_step 26 = .ok (.iload_n 1, 1) := by decide +kernel
theorem dX9_step_27 : decode cX9_step 27 = .ok (.invokevirtual 75, 3) := by decide +kernel
theorem dX9_step_30 : decode cX9_step 30 = .ok (.iload_n 2, 1) := by decide +kernel
theorem dX9_step_31 : decode cX9_step 31 = .ok (.iconst 1, 1) := by decide +kernel
theorem dX9_step_32 : decode cX9_step 32 = .ok (.if_icmp .ne 7, 3) := by decide +kernel
theorem dX9_step_35 : decode cX9_step 35 = .ok (.iconst 1, 1) := by decide +kernel
theorem dX9_step_36 : decode cX9_step 36 = .ok (.goto 13, 3) := by decide +kernel
theorem dX9_step_39 : decode cX9_step 39 = .ok (.iload_n 2, 1) := by decide +kernel
theorem dX9_step_40 : decode cX9_step 40 = .ok (.iconst 3, 1) := by decide +kernel
theorem dX9_step_41 : decode cX9_step 41 = .ok (.if_icmp .ne 7, 3) := by decide +kernel
theorem dX9_step_44 : decode cX9_step 44 = .ok (.iconst (-1), 1) := by decide +kernel
theorem dX9_step_45 : decode cX9_step 45 = .ok (.goto 4, 3) := by decide +kernel
theorem dX9_step_48 : decode cX9_step 48 = .ok (.iconst 0, 1) := by decide +kernel
theorem dX9_step_49 : decode cX9_step 49 = .ok (.iadd, 1) := by decide +kernel
theorem dX9_step_50 : decode cX9_step 50 = .ok (.istore 4, 2) := by decide +kernel
theorem dX9_step_52 : decode cX9_step 52 = .ok (.iload_n 3, 1) := by decide +kernel
theorem dX9_step_53 : decode cX9_step 53 = .ok (.iconst 0, 1) := by decide +kernel
theorem dX9_step_54 : decode cX9_step 54 = .ok (.aload_n 0, 1) := by decide +kernel
theorem dX9_step_55 : decode cX9_step 55 = .ok (.getfield 9, 3) := by decide +kernel
theorem dX9_step_58 : decode cX9_step 58 = .ok (.iconst 0, 1) := by decide +kernel
theorem dX9_step_59 : decode cX9_step 59 = .ok (.iaload, 1) := by decide +kernel
theorem dX9_step_60 : decode cX9_step 60 = .ok (.iconst 1, 1) := by decide +kernel
theorem dX9_step_61 : decode cX9_step 61 = .ok (.isub, 1) := by decide +kernel
theorem dX9_step_62 : decode cX9_step 62 = .ok (.invokestatic 67, 3) := by decide +kernel
theorem dX9_step_65 : decode cX9_step 65 = .ok (.ifCond .eq 34, 3) := by decide +kernel
theorem dX9_step_68 : decode cX9_step 68 = .ok (.iload 4, 2) := by decide +kernel
theorem dX9_step_70 : decode cX9_step 70 = .ok (.iconst 0, 1) := by decide +kernel
theorem dX9_step_71 : decode cX9_step 71 = .ok (.aload_n 0, 1) := by decide +kernel
theorem dX9_step_72 : decode cX9_step 72 = .ok (.getfield 9, 3) := by decide +kernel
theorem dX9_step_75 : decode cX9_step 75 = .ok (.iconst 1, 1) := by decide +kernel
theorem dX9_step_76 : decode cX9_step 76 = .ok (.iaload, 1) := by decide +kernel
theorem dX9_step_77 : decode cX9_step 77 = .ok (.iconst 1, 1) := by decide +kernel
theorem dX9_step_78 : decode cX9_step 78 = .ok (.isub, 1) := by decide +kernel
theorem dX9_step_79 : decode cX9_step 79 = .ok (.invokestatic 67, 3) := by decide +kernel
theorem dX9_step_82 : decode cX9_step 82 = .ok (.ifCond .eq 17, 3) := by decide +kernel
theorem dX9_step_85 : decode cX9_step 85 = .ok (.iload_n 3, 1) := by decide +kernel
theorem dX9_step_86 : decode cX9_step 86 = .ok (.aload_n 0, 1) := by decide +kernel
theorem dX9_step_87 : decode cX9_step 87 = .ok (.getfield 9, 3) := by decide +kernel
theorem dX9_step_90 : decode cX9_step 90 = .ok (.iconst 1, 1) := by decide +kernel
theorem dX9_step_91 : decode cX9_step 91 = .ok (.iaload, 1) := by decide +kernel
theorem dX9_step_92 : decode cX9_step 92 = .ok (.imul, 1) := by decide +kernel
theorem dX9_step_93 : decode cX9_step 93 = .ok (.iload 4, 2) := by decide +kernel
theorem dX9_step_95 : decode cX9_step 95 = .ok (.iadd, 1) := by decide +kernel
theorem dX9_step_96 : decode cX9_step 96 = .ok (.goto 4, 3) := by decide +kernel
theorem dX9_step_99 : decode cX9_step 99 = .ok (.iconst (-1), 1) := by decide +kernel
theorem dX9_step_100 : decode cX9_step 100 = .ok (.ireturn, 1) := by decide +kernel
theorem dX9_price_0 : decode cX9_price 0 = .ok (.aload_n 0, 1) := by decide +kernel
theorem dX9_price_1 : decode cX9_price 1 = .ok (.getfield 9, 3) := by decide +kernel
theorem dX9_price_4 : decode cX9_price 4 = .ok (.iconst 2, 1) := by decide +kernel
theorem dX9_price_5 : decode cX9_price 5 = .ok (.iload_n 1, 1) := by decide +kernel
theorem dX9_price_6 : decode cX9_price 6 = .ok (.iadd, 1) := by decide +kernel
theorem dX9_price_7 : decode cX9_price 7 = .ok (.iaload, 1) := by decide +kernel
theorem dX9_price_8 : decode cX9_price 8 = .ok (.iconst 3, 1) := by decide +kernel
theorem dX9_price_9 : decode cX9_price 9 = .ok (.if_icmp .eq 15, 3) := by decide +kernel
theorem dX9_price_12 : decode cX9_price 12 = .ok (.aload_n 0, 1) := by decide +kernel
theorem dX9_price_13 : decode cX9_price 13 = .ok (.getfield 9, 3) := by decide +kernel
theorem dX9_price_16 : decode cX9_price 16 = .ok (.iconst 2, 1) := by decide +kernel
theorem dX9_price_17 : decode cX9_price 17 = .ok (.iload_n 1, 1) := by decide +kernel
theorem dX9_price_18 : decode cX9_price 18 = .ok (.iadd, 1) := by decide +kernel
theorem dX9_price_19 : decode cX9_price 19 = .ok (.iaload, 1) := by decide +kernel
theorem dX9_price_20 : decode cX9_price 20 = .ok (.iconst 2, 1) := by decide +kernel
theorem dX9_price_21 : decode cX9_price 21 = .ok (.if_icmp .ne 7, 3) := by decide +kernel
theorem dX9_price_24 : decode cX9_price 24 = .ok (.iconst 2, 1) := by decide +kernel
theorem dX9_price_25 : decode cX9_price 25 = .ok (.goto 4, 3) := by decide +kernel
theorem dX9_price_28 : decode cX9_price 28 = .ok (.iconst 1, 1) := by decide +kernel
theorem dX9_price_29 : decode cX9_price 29 = .ok (.ireturn, 1) := by decide +kernel
theorem dX9_isFree_0 : decode cX9_isFree 0 = .ok (.aload_n 0, 1) := by decide +kernel
theorem dX9_isFree_1 : decode cX9_isFree 1 = .ok (.getfield 9, 3) := by decide +kernel
theorem dX9_isFree_4 : decode cX9_isFree 4 = .ok (.iconst 2, 1) := by decide +kernel
theorem dX9_isFree_5 : decode cX9_isFree 5 = .ok (.iload_n 1, 1) := by decide +kernel
theorem dX9_isFree_6 : decode cX9_isFree 6 = .ok (.iadd, 1) := by decide +kernel
theorem dX9_isFree_7 : decode cX9_isFree 7 = .ok (.iaload, 1) := by decide +kernel
theorem dX9_isFree_8 : decode cX9_isFree 8 = .ok (.iconst 1, 1) := by decide +kernel
theorem dX9_isFree_9 : decode cX9_isFree 9 = .ok (.if_icmp .eq 15, 3) := by decide +kernel
theorem dX9_isFree_12 : decode cX9_isFree 12 = .ok (.aload_n 0, 1) := by decide +kernel
theorem dX9_isFree_13 : decode cX9_isFree 13 = .ok (.iload_n 1, 1) := by decide +kernel
theorem dX9_isFree_14 : decode cX9_isFree 14 = .ok (.invokevirtual 120, 3) := by decide +kernel
theorem dX9_isFree_17 : decode cX9_isFree 17 = .ok (.ifCond .ge 7, 3) := by decide +kernel
theorem dX9_isFree_20 : decode cX9_isFree 20 = .ok (.iconst 1, 1) := by decide +kernel
theorem dX9_isFree_21 : decode cX9_isFree 21 = .ok (.goto 4, 3) := by decide +kernel
theorem dX9_isFree_24 : decode cX9_isFree 24 = .ok (.iconst 0, 1) := by decide +kernel
theorem dX9_isFree_25 : decode cX9_isFree 25 = .ok (.ireturn, 1) := by decide +kernel
theorem dX9_measures_0 : decode cX9_measures 0 = .ok (.aload_n 0, 1) := by decide +kernel
theorem dX9_measures_1 : decode cX9_measures 1 = .ok (.getfield 9, 3) := by decide +kernel
theorem dX9_measures_4 : decode cX9_measures 4 = .ok (.iconst 0, 1) := by decide +kernel
theorem dX9_measures_5 : decode cX9_measures 5 = .ok (.iaload, 1) := by decide +kernel
theorem dX9_measures_6 : decode cX9_measures 6 = .ok (.aload_n 0, 1) := by decide +kernel
theorem dX9_measures_7 : decode cX9_measures 7 = .ok (.getfield 9, 3) := by decide +kernel
theorem dX9_measures_10 : decode cX9_measures 10 = .ok (.iconst 1, 1) := by decide +kernel
theorem dX9_measures_11 : decode cX9_measures 11 = .ok (.iaload, 1) := by decide +kernel
theorem dX9_measures_12 : decode cX9_measures 12 = .ok (.imul, 1) := by decide +kernel
theorem dX9_measures_13 : decode cX9_measures 13 = .ok (.istore_n 2, 1) := by decide +kernel
theorem dX9_measures_14 : decode cX9_measures 14 = .ok (.iconst 0, 1) := by decide +kernel
theorem dX9_measures_15 : decode cX9_measures 15 = .ok (.istore_n 3, 1) := by decide +kernel
theorem dX9_measures_16 : decode cX9_measures 16 = .ok (.iload_n 3, 1) := by decide +kernel
theorem dX9_measures_17 : decode cX9_measures 17 = .ok (.iload_n 2, 1) := by decide +kernel
theorem dX9_measures_18 : decode cX9_measures 18 = .ok (.if_icmp .ge 16, 3) := by decide +kernel
theorem dX9_measures_21 : decode cX9_measures 21 = .ok (.aload_n 0, 1) := by decide +kernel
theorem dX9_measures_22 : decode cX9_measures 22 = .ok (.getfield 41, 3) := by decide +kernel
theorem dX9_measures_25 : decode cX9_measures 25 = .ok (.iload_n 3, 1) := by decide +kernel
theorem dX9_measures_26 : decode cX9_measures 26 = .ok (.iconst 0, 1) := by decide +kernel
theorem dX9_measures_27 : decode cX9_measures 27 = .ok (.iastore, 1) := by decide +kernel
theorem dX9_measures_28 : decode cX9_measures 28 = .ok (.iinc 3 1, 3) := by decide +kernel
theorem dX9_measures_31 : decode cX9_measures 31 = .ok (.goto (-15), 3) := by decide +kernel
theorem dX9_measures_34 : decode cX9_measures 34 = .ok (.aload_n 0, 1) := by decide +kernel
theorem dX9_measures_35 : decode cX9_measures 35 = .ok (.getfield 41, 3) := by decide +kernel
theorem dX9_measures_38 : decode cX9_measures 38 = .ok (.iload_n 1, 1) := by decide +kernel
theorem dX9_measures_39 : decode cX9_measures 39 = .ok (.iconst 1, 1) := by decide +kernel
theorem dX9_measures_40 : decode cX9_measures 40 = .ok (.iastore, 1) := by decide +kernel
theorem dX9_measures_41 : decode cX9_measures 41 = .ok (.iconst 1, 1) := by decide +kernel
theorem dX9_measures_42 : decode cX9_measures 42 = .ok (.istore_n 3, 1) := by decide +kernel
theorem dX9_measures_43 : decode cX9_measures 43 = .ok (.iload_n 3, 1) := by decide +kernel
theorem dX9_measures_44 : decode cX9_measures 44 = .ok (.ifCond .eq 133, 3) := by decide +kernel
theorem dX9_measures_47 : decode cX9_measures 47 = .ok (.iconst 0, 1) := by decide +kernel
theorem dX9_measures_48 : decode cX9_measures 48 = .ok (.istore_n 3, 1) := by decide +kernel
theorem dX9_measures_49 : decode cX9_measures 49 = .ok (.iconst 0, 1) := by decide +kernel
theorem dX9_measures_50 : decode cX9_measures 50 = .ok (.istore 4, 2) := by decide +kernel
theorem dX9_measures_52 : decode cX9_measures 52 = .ok (.iload 4, 2) := by decide +kernel
theorem dX9_measures_54 : decode cX9_measures 54 = .ok (.iload_n 2, 1) := by decide +kernel
theorem dX9_measures_55 : decode cX9_measures 55 = .ok (.if_icmp .ge 119, 3) := by decide +kernel
theorem dX9_measures_58 : decode cX9_measures 58 = .ok (.iconst 0, 1) := by decide +kernel
theorem dX9_measures_59 : decode cX9_measures 59 = .ok (.istore 5, 2) := by decide +kernel
theorem dX9_measures_61 : decode cX9_measures 61 = .ok (.iload 5, 2) := by decide +kernel
theorem dX9_measures_63 : decode cX9_measures 63 = .ok (.iconst 4, 1) := by decide +kernel
theorem dX9_measures_64 : decode cX9_measures 64 = .ok (.if_icmp .ge 104, 3) := by decide +kernel
theorem dX9_measures_67 : decode cX9_measures 67 = .ok (.aload_n 0, 1) := by decide +kernel
theorem dX9_measures_68 : decode cX9_measures 68 = .ok (.iload 4, 2) := by decide +kernel
theorem dX9_measures_70 : decode cX9_measures 70 = .ok (.iload 5, 2) := by decide +kernel
theorem dX9_measures_72 : decode cX9_measures 72 = .ok (.invokevirtual 180, 3) := by decide +kernel
theorem dX9_measures_75 : decode cX9_measures 75 = .ok (.istore 6, 2) := by decide +kernel
theorem dX9_measures_77 : decode cX9_measures 77 = .ok (.iload 6, 2) := by decide +kernel
theorem dX9_measures_79 : decode cX9_measures 79 = .ok (.ifCond .lt 83, 3) := by decide +kernel
theorem dX9_measures_82 : decode cX9_measures 82 = .ok (.aload_n 0, 1) := by decide +kernel
theorem dX9_measures_83 : decode cX9_measures 83 = .ok (.getfield 41, 3) := by decide +kernel
theorem dX9_measures_86 : decode cX9_measures 86 = .ok (.iload 6, 2) := by decide +kernel
theorem dX9_measures_88 : decode cX9_measures 88 = .ok (.iaload, 1) := by decide +kernel
theorem dX9_measures_89 : decode cX9_measures 89 = .ok (.ifCond .eq 73, 3) := by decide +kernel
theorem dX9_measures_92 : decode cX9_measures 92 = .ok (.aload_n 0, 1) := by decide +kernel
theorem dX9_measures_93 : decode cX9_measures 93 = .ok (.iload 6, 2) := by decide +kernel
theorem dX9_measures_95 : decode cX9_measures 95 = .ok (.invokevirtual 183, 3) := by decide +kernel
theorem dX9_measures_98 : decode cX9_measures 98 = .ok (.ifCond .ne 6, 3) := by decide +kernel
theorem dX9_measures_101 : decode cX9_measures 101 = .ok (.goto 61, 3) := by decide +kernel
theorem dX9_measures_104 : decode cX9_measures 104 = .ok (.aload_n 0, 1) := by decide +kernel
theorem dX9_measures_105 : decode cX9_measures 105 = .ok (.getfield 41, 3) := by decide +kernel
theorem dX9_measures_108 : decode cX9_measures 108 = .ok (.iload 6, 2) := by decide +kernel
theorem dX9_measures_110 : decode cX9_measures 110 = .ok (.iaload, 1) := by decide +kernel
theorem dX9_measures_111 : decode cX9_measures 111 = .ok (.aload_n 0, 1) := by decide +kernel
theorem dX9_measures_112 : decode cX9_measures 112 = .ok (.iload 6, 2) := by decide +kernel
theorem dX9_measures_114 : decode cX9_measures 114 = .ok (.invokevirtual 186, 3) := by decide +kernel
theorem dX9_measures_117 : decode cX9_measures 117 = .ok (.iadd, 1) := by decide +kernel
theorem dX9_measures_118 : decode cX9_measures 118 = .ok (.istore 7, 2) := by decide +kernel
theorem dX9_measures_120 : decode cX9_measures 120 = .ok (.iload 4, 2) := by decide +kernel
theorem dX9_measures_122 : decode cX9_measures 122 = .ok (.iload_n 1, 1) := by decide +kernel
theorem dX9_measures_123 : decode cX9_measures 123 = .ok (.if_icmp .eq 39, 3) := by decide +kernel
theorem dX9_measures_126 : decode cX9_measures 126 = .ok (.aload_n 0, 1) := by decide +kernel
theorem dX9_measures_127 : decode cX9_measures 127 = .ok (.getfield 41, 3) := by decide +kernel
theorem dX9_measures_130 : decode cX9_measures 130 = .ok (.iload 4, 2) := by decide +kernel
theorem dX9_measures_132 : decode cX9_measures 132 = .ok (.iaload, 1) := by decide +kernel
theorem dX9_measures_133 : decode cX9_measures 133 = .ok (.ifCond .le 18, 3) := by decide +kernel
theorem dX9_measures_136 : decode cX9_measures 136 = .ok (.aload_n 0, 1) := by decide +kernel
theorem dX9_measures_137 : decode cX9_measures 137 = .ok (.getfield 41, 3) := by decide +kernel
theorem dX9_measures_140 : decode cX9_measures 140 = .ok (.iload 4, 2) := by decide +kernel
theorem dX9_measures_142 : decode cX9_measures 142 = .ok (.iaload, 1) := by decide +kernel
theorem dX9_measures_143 : decode cX9_measures 143 = .ok (.iload 7, 2) := by decide +kernel
theorem dX9_measures_145 : decode cX9_measures 145 = .ok (.if_icmp .gt 6, 3) := by decide +kernel
theorem dX9_measures_148 : decode cX9_measures 148 = .ok (.goto 14, 3) := by decide +kernel
theorem dX9_measures_151 : decode cX9_measures 151 = .ok (.aload_n 0, 1) := by decide +kernel
theorem dX9_measures_152 : decode cX9_measures 152 = .ok (.getfield 41, 3) := by decide +kernel
theorem dX9_measures_155 : decode cX9_measures 155 = .ok (.iload 4, 2) := by decide +kernel
theorem dX9_measures_157 : decode cX9_measures 157 = .ok (.iload 7, 2) := by decide +kernel
theorem dX9_measures_159 : decode cX9_measures 159 = .ok (.iastore, 1) := by decide +kernel
theorem dX9_measures_160 : decode cX9_measures 160 = .ok (.iconst 1, 1) := by decide +kernel
theorem dX9_measures_161 : decode cX9_measures 161 = .ok (.istore_n 3, 1) := by decide +kernel
theorem dX9_measures_162 : decode cX9_measures 162 = .ok (.iinc 5 1, 3) := by decide +kernel
theorem dX9_measures_165 : decode cX9_measures 165 = .ok (.goto (-104), 3) := by decide +kernel
theorem dX9_measures_168 : decode cX9_measures 168 = .ok (.iinc 4 1, 3) := by decide +kernel
theorem dX9_measures_171 : decode cX9_measures 171 = .ok (.goto (-119), 3) := by decide +kernel
theorem dX9_measures_174 : decode cX9_measures 174 = .ok (.goto (-131), 3) := by decide +kernel
theorem dX9_measures_177 : decode cX9_measures 177 = .ok (.return_, 1) := by decide +kernel
theorem dX9_costsTo_0 : decode cX9_costsTo 0 = .ok (.aload_n 0, 1) := by decide +kernel
theorem dX9_costsTo_1 : decode cX9_costsTo 1 = .ok (.aload_n 0, 1) := by decide +kernel
theorem dX9_costsTo_2 : decode cX9_costsTo 2 = .ok (.getfield 9, 3) := by decide +kernel
theorem dX9_costsTo_5 : decode cX9_costsTo 5 = .ok (.sipush 166, 3) := by decide +kernel
theorem dX9_costsTo_8 : decode cX9_costsTo 8 = .ok (.iaload, 1) := by decide +kernel
theorem dX9_costsTo_9 : decode cX9_costsTo 9 = .ok (.iconst 2, 1) := by decide +kernel
theorem dX9_costsTo_10 : decode cX9_costsTo 10 = .ok (.invokevirtual 60, 3) := by decide +kernel
theorem dX9_costsTo_13 : decode cX9_costsTo 13 = .ok (.istore_n 2, 1) := by decide +kernel
theorem dX9_costsTo_14 : decode cX9_costsTo 14 = .ok (.iload_n 1, 1) := by decide +kernel
theorem dX9_costsTo_15 : decode cX9_costsTo 15 = .ok (.iload_n 2, 1) := by decide +kernel
theorem dX9_costsTo_16 : decode cX9_costsTo 16 = .ok (.if_icmp .ne 5, 3) := by decide +kernel
theorem dX9_costsTo_19 : decode cX9_costsTo 19 = .ok (.iconst 0, 1) := by decide +kernel
theorem dX9_costsTo_20 : decode cX9_costsTo 20 = .ok (.ireturn, 1) := by decide +kernel
theorem dX9_costsTo_21 : decode cX9_costsTo 21 = .ok (.aload_n 0, 1) := by decide +kernel
theorem dX9_costsTo_22 : decode cX9_costsTo 22 = .ok (.iload_n 1, 1) := by decide +kernel
theorem dX9_costsTo_23 : decode cX9_costsTo 23 = .ok (.invokevirtual 183, 3) := by decide +kernel
theorem dX9_costsTo_26 : decode cX9_costsTo 26 = .ok (.ifCond .ne 5, 3) := by decide +kernel
theorem dX9_costsTo_29 : decode cX9_costsTo 29 = .ok (.iconst (-1), 1) := by decide +kernel
theorem dX9_costsTo_30 : decode cX9_costsTo 30 = .ok (.ireturn, 1) := by decide +kernel
theorem dX9_costsTo_31 : decode cX9_costsTo 31 = .ok (.aload_n 0, 1) := by decide +kernel
theorem dX9_costsTo_32 : decode cX9_costsTo 32 = .ok (.iload_n 1, 1) := by decide +kernel
theorem dX9_costsTo_33 : decode cX9_costsTo 33 = .ok (.invokevirtual 189, 3) := by decide +kernel
theorem dX9_costsTo_36 : decode cX9_costsTo 36 = .ok (.aload_n 0, 1) := by decide +kernel
theorem dX9_costsTo_37 : decode cX9_costsTo 37 = .ok (.getfield 41, 3) := by decide +kernel
theorem dX9_costsTo_40 : decode cX9_costsTo 40 = .ok (.iload_n 2, 1) := by decide +kernel
theorem dX9_costsTo_41 : decode cX9_costsTo 41 = .ok (.iaload, 1) := by decide +kernel
theorem dX9_costsTo_42 : decode cX9_costsTo 42 = .ok (.iconst 1, 1) := by decide +kernel
theorem dX9_costsTo_43 : decode cX9_costsTo 43 = .ok (.isub, 1) := by decide +kernel
theorem dX9_costsTo_44 : decode cX9_costsTo 44 = .ok (.ireturn, 1) := by decide +kernel
theorem dX9_next_0 : decode cX9_next 0 = .ok (.iconst 0, 1) := by decide +kernel
theorem dX9_next_1 : decode cX9_next 1 = .ok (.istore_n 2, 1) := by decide +kernel
theorem dX9_next_2 : decode cX9_next 2 = .ok (.aload_n 0, 1) := by decide +kernel
theorem dX9_next_3 : decode cX9_next 3 = .ok (.iload_n 1, 1) := by decide +kernel
theorem dX9_next_4 : decode cX9_next 4 = .ok (.iconst 0, 1) := by decide +kernel
theorem dX9_next_5 : decode cX9_next 5 = .ok (.invokevirtual 180, 3) := by decide +kernel
theorem dX9_next_8 : decode cX9_next 8 = .ok (.istore_n 3, 1) := by decide +kernel
theorem dX9_next_9 : decode cX9_next 9 = .ok (.iload_n 3, 1) := by decide +kernel
theorem dX9_next_10 : decode cX9_next 10 = .ok (.ifCond .lt 41, 3) := by decide +kernel
theorem dX9_next_13 : decode cX9_next 13 = .ok (.aload_n 0, 1) := by decide +kernel
theorem dX9_next_14 : decode cX9_next 14 = .ok (.getfield 41, 3) := by decide +kernel
theorem dX9_next_17 : decode cX9_next 17 = .ok (.iload_n 3, 1) := by decide +kernel
theorem dX9_next_18 : decode cX9_next 18 = .ok (.iaload, 1) := by decide +kernel
theorem dX9_next_19 : decode cX9_next 19 = .ok (.ifCond .eq 32, 3) := by decide +kernel
theorem dX9_next_22 : decode cX9_next 22 = .ok (.aload_n 0, 1) := by decide +kernel
theorem dX9_next_23 : decode cX9_next 23 = .ok (.iload_n 3, 1) := by decide +kernel
theorem dX9_next_24 : decode cX9_next 24 = .ok (.invokevirtual 183, 3) := by decide +kernel
theorem dX9_next_27 : decode cX9_next 27 = .ok (.ifCond .eq 24, 3) := by decide +kernel
theorem dX9_next_30 : decode cX9_next 30 = .ok (.aload_n 0, 1) := by decide +kernel
theorem dX9_next_31 : decode cX9_next 31 = .ok (.getfield 41, 3) := by decide +kernel
theorem dX9_next_34 : decode cX9_next 34 = .ok (.iload_n 3, 1) := by decide +kernel
theorem dX9_next_35 : decode cX9_next 35 = .ok (.iaload, 1) := by decide +kernel
theorem dX9_next_36 : decode cX9_next 36 = .ok (.aload_n 0, 1) := by decide +kernel
theorem dX9_next_37 : decode cX9_next 37 = .ok (.iload_n 3, 1) := by decide +kernel
theorem dX9_next_38 : decode cX9_next 38 = .ok (.invokevirtual 186, 3) := by decide +kernel
theorem dX9_next_41 : decode cX9_next 41 = .ok (.iadd, 1) := by decide +kernel
theorem dX9_next_42 : decode cX9_next 42 = .ok (.aload_n 0, 1) := by decide +kernel
theorem dX9_next_43 : decode cX9_next 43 = .ok (.getfield 41, 3) := by decide +kernel
theorem dX9_next_46 : decode cX9_next 46 = .ok (.iload_n 1, 1) := by decide +kernel
theorem dX9_next_47 : decode cX9_next 47 = .ok (.iaload, 1) := by decide +kernel
theorem dX9_next_48 : decode cX9_next 48 = .ok (.if_icmp .eq 16, 3) := by decide +kernel
theorem dX9_next_51 : decode cX9_next 51 = .ok (.iinc 2 1, 3) := by decide +kernel
theorem dX9_next_54 : decode cX9_next 54 = .ok (.aload_n 0, 1) := by decide +kernel
theorem dX9_next_55 : decode cX9_next 55 = .ok (.iload_n 1, 1) := by decide +kernel
theorem dX9_next_56 : decode cX9_next 56 = .ok (.iload_n 2, 1) := by decide +kernel
theorem dX9_next_57 : decode cX9_next 57 = .ok (.invokevirtual 180, 3) := by decide +kernel
theorem dX9_next_60 : decode cX9_next 60 = .ok (.istore_n 3, 1) := by decide +kernel
theorem dX9_next_61 : decode cX9_next 61 = .ok (.goto (-52), 3) := by decide +kernel
theorem dX9_next_64 : decode cX9_next 64 = .ok (.iload_n 3, 1) := by decide +kernel
theorem dX9_next_65 : decode cX9_next 65 = .ok (.ireturn, 1) := by decide +kernel
theorem dX9_mayAsk_0 : decode cX9_mayAsk 0 = .ok (.aload_n 0, 1) := by decide +kernel
theorem dX9_mayAsk_1 : decode cX9_mayAsk 1 = .ok (.iload_n 1, 1) := by decide +kernel
theorem dX9_mayAsk_2 : decode cX9_mayAsk 2 = .ok (.ifCond .ne 7, 3) := by decide +kernel
theorem dX9_mayAsk_5 : decode cX9_mayAsk 5 = .ok (.iconst 1, 1) := by decide +kernel
theorem dX9_mayAsk_6 : decode cX9_mayAsk 6 = .ok (.goto 16, 3) := by decide +kernel
theorem dX9_mayAsk_9 : decode cX9_mayAsk 9 = .ok (.aload_n 0, 1) := by decide +kernel
theorem dX9_mayAsk_10 : decode cX9_mayAsk 10 = .ok (.invokevirtual 137, 3) := by decide +kernel
theorem dX9_mayAsk_13 : decode cX9_mayAsk 13 = .ok (.iconst 1, 1) := by decide +kernel
theorem dX9_mayAsk_14 : decode cX9_mayAsk 14 = .ok (.if_icmp .eq 7, 3) := by decide +kernel
theorem dX9_mayAsk_17 : decode cX9_mayAsk 17 = .ok (.iconst 2, 1) := by decide +kernel
theorem dX9_mayAsk_18 : decode cX9_mayAsk 18 = .ok (.goto 4, 3) := by decide +kernel
theorem dX9_mayAsk_21 : decode cX9_mayAsk 21 = .ok (.iconst 0, 1) := by decide +kernel
theorem dX9_mayAsk_22 : decode cX9_mayAsk 22 = .ok (.putfield 57, 3) := by decide +kernel
theorem dX9_mayAsk_25 : decode cX9_mayAsk 25 = .ok (.aload_n 0, 1) := by decide +kernel
theorem dX9_mayAsk_26 : decode cX9_mayAsk 26 = .ok (.getfield 57, 3) := by decide +kernel
theorem dX9_mayAsk_29 : decode cX9_mayAsk 29 = .ok (.ifCond .ne 7, 3) := by decide +kernel
theorem dX9_mayAsk_32 : decode cX9_mayAsk 32 = .ok (.iconst 1, 1) := by decide +kernel
theorem dX9_mayAsk_33 : decode cX9_mayAsk 33 = .ok (.goto 4, 3) := by decide +kernel
theorem dX9_mayAsk_36 : decode cX9_mayAsk 36 = .ok (.iconst 0, 1) := by decide +kernel
theorem dX9_mayAsk_37 : decode cX9_mayAsk 37 = .ok (.ireturn, 1) := by decide +kernel
theorem dX9_costs_0 : decode cX9_costs 0 = .ok (.aload_n 0, 1) := by decide +kernel
theorem dX9_costs_1 : decode cX9_costs 1 = .ok (.aload_n 0, 1) := by decide +kernel
theorem dX9_costs_2 : decode cX9_costs 2 = .ok (.iload_n 1, 1) := by decide +kernel
theorem dX9_costs_3 : decode cX9_costs 3 = .ok (.invokevirtual 103, 3) := by decide +kernel
theorem dX9_costs_6 : decode cX9_costs 6 = .ok (.invokevirtual 192, 3) := by decide +kernel
theorem dX9_costs_9 : decode cX9_costs 9 = .ok (.ifCond .ne 5, 3) := by decide +kernel
theorem dX9_costs_12 : decode cX9_costs 12 = .ok (.iconst 0, 1) := by decide +kernel
theorem dX9_costs_13 : decode cX9_costs 13 = .ok (.ireturn, 1) := by decide +kernel
theorem dX9_costs_14 : decode cX9_costs 14 = .ok (.aload_n 0, 1) := by decide +kernel
theorem dX9_costs_15 : decode cX9_costs 15 = .ok (.iload_n 1, 1) := by decide +kernel
theorem dX9_costs_16 : decode cX9_costs 16 = .ok (.invokevirtual 196, 3) := by decide +kernel
theorem dX9_costs_19 : decode cX9_costs 19 = .ok (.istore_n 2, 1) := by decide +kernel
theorem dX9_costs_20 : decode cX9_costs 20 = .ok (.iload_n 2, 1) := by decide +kernel
theorem dX9_costs_21 : decode cX9_costs 21 = .ok (.ifCond .ge 11, 3) := by decide +kernel
theorem dX9_costs_24 : decode cX9_costs 24 = .ok (.aload_n 0, 1) := by decide +kernel
theorem dX9_costs_25 : decode cX9_costs 25 = .ok (.iconst 3, 1) := by decide +kernel
theorem dX9_costs_26 : decode cX9_costs 26 = .ok (.invokevirtual 78, 3) := by decide +kernel
theorem dX9_costs_29 : decode cX9_costs 29 = .ok (.goto 4, 3) := by decide +kernel
theorem dX9_costs_32 : decode cX9_costs 32 = .ok (.iload_n 2, 1) := by decide +kernel
theorem dX9_costs_33 : decode cX9_costs 33 = .ok (.ireturn, 1) := by decide +kernel
theorem dX9_pathCell_0 : decode cX9_pathCell 0 = .ok (.aload_n 0, 1) := by decide +kernel
theorem dX9_pathCell_1 : decode cX9_pathCell 1 = .ok (.aload_n 0, 1) := by decide +kernel
theorem dX9_pathCell_2 : decode cX9_pathCell 2 = .ok (.iload_n 1, 1) := by decide +kernel
theorem dX9_pathCell_3 : decode cX9_pathCell 3 = .ok (.invokevirtual 103, 3) := by decide +kernel
theorem dX9_pathCell_6 : decode cX9_pathCell 6 = .ok (.invokevirtual 192, 3) := by decide +kernel
theorem dX9_pathCell_9 : decode cX9_pathCell 9 = .ok (.ifCond .ne 5, 3) := by decide +kernel
theorem dX9_pathCell_12 : decode cX9_pathCell 12 = .ok (.iconst 0, 1) := by decide +kernel
theorem dX9_pathCell_13 : decode cX9_pathCell 13 = .ok (.ireturn, 1) := by decide +kernel
theorem dX9_pathCell_14 : decode cX9_pathCell 14 = .ok (.aload_n 0, 1) := by decide +kernel
theorem dX9_pathCell_15 : decode cX9_pathCell 15 = .ok (.iload_n 1, 1) := by decide +kernel
theorem dX9_pathCell_16 : decode cX9_pathCell 16 = .ok (.invokevirtual 196, 3) := by decide +kernel
theorem dX9_pathCell_19 : decode cX9_pathCell 19 = .ok (.ifCond .le 7, 3) := by decide +kernel
theorem dX9_pathCell_22 : decode cX9_pathCell 22 = .ok (.iload_n 2, 1) := by decide +kernel
theorem dX9_pathCell_23 : decode cX9_pathCell 23 = .ok (.ifCond .ge 9, 3) := by decide +kernel
theorem dX9_pathCell_26 : decode cX9_pathCell 26 = .ok (.aload_n 0, 1) := by decide +kernel
theorem dX9_pathCell_27 : decode cX9_pathCell 27 = .ok (.iconst 3, 1) := by decide +kernel
theorem dX9_pathCell_28 : decode cX9_pathCell 28 = .ok (.invokevirtual 78, 3) := by decide +kernel
theorem dX9_pathCell_31 : decode cX9_pathCell 31 = .ok (.ireturn, 1) := by decide +kernel
theorem dX9_pathCell_32 : decode cX9_pathCell 32 = .ok (.aload_n 0, 1) := by decide +kernel
theorem dX9_pathCell_33 : decode cX9_pathCell 33 = .ok (.aload_n 0, 1) := by decide +kernel
theorem dX9_pathCell_34 : decode cX9_pathCell 34 = .ok (.getfield 9, 3) := by decide +kernel
theorem dX9_pathCell_37 : decode cX9_pathCell 37 = .ok (.sipush 166, 3) := by decide +kernel
theorem dX9_pathCell_40 : decode cX9_pathCell 40 = .ok (.iaload, 1) := by decide +kernel
theorem dX9_pathCell_41 : decode cX9_pathCell 41 = .ok (.iconst 2, 1) := by decide +kernel
theorem dX9_pathCell_42 : decode cX9_pathCell 42 = .ok (.invokevirtual 60, 3) := by decide +kernel
theorem dX9_pathCell_45 : decode cX9_pathCell 45 = .ok (.istore_n 3, 1) := by decide +kernel
theorem dX9_pathCell_46 : decode cX9_pathCell 46 = .ok (.iconst 0, 1) := by decide +kernel
theorem dX9_pathCell_47 : decode cX9_pathCell 47 = .ok (.istore 4, 2) := by decide +kernel
theorem dX9_pathCell_49 : decode cX9_pathCell 49 = .ok (.iload 4, 2) := by decide +kernel
theorem dX9_pathCell_51 : decode cX9_pathCell 51 = .ok (.iload_n 2, 1) := by decide +kernel
theorem dX9_pathCell_52 : decode cX9_pathCell 52 = .ok (.if_icmp .gt 26, 3) := by decide +kernel
theorem dX9_pathCell_55 : decode cX9_pathCell 55 = .ok (.iload_n 3, 1) := by decide +kernel
theorem dX9_pathCell_56 : decode cX9_pathCell 56 = .ok (.iload_n 1, 1) := by decide +kernel
theorem dX9_pathCell_57 : decode cX9_pathCell 57 = .ok (.if_icmp .ne 9, 3) := by decide +kernel
theorem dX9_pathCell_60 : decode cX9_pathCell 60 = .ok (.aload_n 0, 1) := by decide +kernel
theorem dX9_pathCell_61 : decode cX9_pathCell 61 = .ok (.iconst 3, 1) := by decide +kernel
theorem dX9_pathCell_62 : decode cX9_pathCell 62 = .ok (.invokevirtual 78, 3) := by decide +kernel
theorem dX9_pathCell_65 : decode cX9_pathCell 65 = .ok (.ireturn, 1) := by decide +kernel
theorem dX9_pathCell_66 : decode cX9_pathCell 66 = .ok (.aload_n 0, 1) := by decide +kernel
theorem dX9_pathCell_67 : decode cX9_pathCell 67 = .ok (.iload_n 3, 1) := by decide +kernel
theorem dX9_pathCell_68 : decode cX9_pathCell 68 = .ok (.invokevirtual 199, 3) := by decide +kernel
theorem dX9_pathCell_71 : decode cX9_pathCell 71 = .ok (.istore_n 3, 1) := by decide +kernel
theorem dX9_pathCell_72 : decode cX9_pathCell 72 = .ok (.iinc 4 1, 3) := by decide +kernel
theorem dX9_pathCell_75 : decode cX9_pathCell 75 = .ok (.goto (-26), 3) := by decide +kernel
theorem dX9_pathCell_78 : decode cX9_pathCell 78 = .ok (.iload_n 3, 1) := by decide +kernel
theorem dX9_pathCell_79 : decode cX9_pathCell 79 = .ok (.ireturn, 1) := by decide +kernel
theorem dX9_canAttack_0 : decode cX9_canAttack 0 = .ok (.aload_n 0, 1) := by decide +kernel
theorem dX9_canAttack_1 : decode cX9_canAttack 1 = .ok (.iload_n 1, 1) := by decide +kernel
theorem dX9_canAttack_2 : decode cX9_canAttack 2 = .ok (.invokevirtual 117, 3) := by decide +kernel
theorem dX9_canAttack_5 : decode cX9_canAttack 5 = .ok (.ifCond .eq 74, 3) := by decide +kernel
theorem dX9_canAttack_8 : decode cX9_canAttack 8 = .ok (.aload_n 0, 1) := by decide +kernel
theorem dX9_canAttack_9 : decode cX9_canAttack 9 = .ok (.iload_n 2, 1) := by decide +kernel
theorem dX9_canAttack_10 : decode cX9_canAttack 10 = .ok (.invokevirtual 117, 3) := by decide +kernel
theorem dX9_canAttack_13 : decode cX9_canAttack 13 = .ok (.ifCond .eq 66, 3) := by decide +kernel
theorem dX9_canAttack_16 : decode cX9_canAttack 16 = .ok (.aload_n 0, 1) := by decide +kernel
theorem dX9_canAttack_17 : decode cX9_canAttack 17 = .ok (.iload_n 1, 1) := by decide +kernel
theorem dX9_canAttack_18 : decode cX9_canAttack 18 = .ok (.iconst 0, 1) := by decide +kernel
theorem dX9_canAttack_19 : decode cX9_canAttack 19 = .ok (.invokevirtual 60, 3) := by decide +kernel
theorem dX9_canAttack_22 : decode cX9_canAttack 22 = .ok (.aload_n 0, 1) := by decide +kernel
theorem dX9_canAttack_23 : decode cX9_canAttack 23 = .ok (.iload_n 2, 1) := by decide +kernel
theorem dX9_canAttack_24 : decode cX9_canAttack 24 = .ok (.iconst 0, 1) := by decide +kernel
theorem dX9_canAttack_25 : decode cX9_canAttack 25 = .ok (.invokevirtual 60, 3) := by decide +kernel
theorem dX9_canAttack_28 : decode cX9_canAttack 28 = .ok (.if_icmp .eq 51, 3) := by decide +kernel
theorem dX9_canAttack_31 : decode cX9_canAttack 31 = .ok (.aload_n 0, 1) := by decide +kernel
theorem dX9_canAttack_32 : decode cX9_canAttack 32 = .ok (.aload_n 0, 1) := by decide +kernel
theorem dX9_canAttack_33 : decode cX9_canAttack 33 = .ok (.iload_n 1, 1) := by decide +kernel
theorem dX9_canAttack_34 : decode cX9_canAttack 34 = .ok (.iconst 2, 1) := by decide +kernel
theorem dX9_canAttack_35 : decode cX9_canAttack 35 = .ok (.invokevirtual 60, 3) := by decide +kernel
theorem dX9_canAttack_38 : decode cX9_canAttack 38 = .ok (.aload_n 0, 1) := by decide +kernel
theorem dX9_canAttack_39 : decode cX9_canAttack 39 = .ok (.iload_n 2, 1) := by decide +kernel
theorem dX9_canAttack_40 : decode cX9_canAttack 40 = .ok (.iconst 2, 1) := by decide +kernel
theorem dX9_canAttack_41 : decode cX9_canAttack 41 = .ok (.invokevirtual 60, 3) := by decide +kernel
theorem dX9_canAttack_44 : decode cX9_canAttack 44 = .ok (.invokevirtual 202, 3) := by decide +kernel
theorem dX9_canAttack_47 : decode cX9_canAttack 47 = .ok (.aload_n 0, 1) := by decide +kernel
theorem dX9_canAttack_48 : decode cX9_canAttack 48 = .ok (.iload_n 1, 1) := by decide +kernel
theorem dX9_canAttack_49 : decode cX9_canAttack 49 = .ok (.iconst 3, 1) := by decide +kernel
theorem dX9_canAttack_50 : decode cX9_canAttack 50 = .ok (.invokevirtual 147, 3) := by decide +kernel
theorem dX9_canAttack_53 : decode cX9_canAttack 53 = .ok (.if_icmp .gt 26, 3) := by decide +kernel
theorem dX9_canAttack_56 : decode cX9_canAttack 56 = .ok (.aload_n 0, 1) := by decide +kernel
theorem dX9_canAttack_57 : decode cX9_canAttack 57 = .ok (.aload_n 0, 1) := by decide +kernel
theorem dX9_canAttack_58 : decode cX9_canAttack 58 = .ok (.iload_n 1, 1) := by decide +kernel
theorem dX9_canAttack_59 : decode cX9_canAttack 59 = .ok (.iconst 2, 1) := by decide +kernel
theorem dX9_canAttack_60 : decode cX9_canAttack 60 = .ok (.invokevirtual 60, 3) := by decide +kernel
theorem dX9_canAttack_63 : decode cX9_canAttack 63 = .ok (.aload_n 0, 1) := by decide +kernel
theorem dX9_canAttack_64 : decode cX9_canAttack 64 = .ok (.iload_n 2, 1) := by decide +kernel
theorem dX9_canAttack_65 : decode cX9_canAttack 65 = .ok (.iconst 2, 1) := by decide +kernel
theorem dX9_canAttack_66 : decode cX9_canAttack 66 = .ok (.invokevirtual 60, 3) := by decide +kernel
theorem dX9_canAttack_69 : decode cX9_canAttack 69 = .ok (.invokevirtual 111, 3) := by decide +kernel
theorem dX9_canAttack_72 : decode cX9_canAttack 72 = .ok (.ifCond .eq 7, 3) := by decide +kernel
theorem dX9_canAttack_75 : decode cX9_canAttack 75 = .ok (.iconst 1, 1) := by decide +kernel
theorem dX9_canAttack_76 : decode cX9_canAttack 76 = .ok (.goto 4, 3) := by decide +kernel
theorem dX9_canAttack_79 : decode cX9_canAttack 79 = .ok (.iconst 0, 1) := by decide +kernel
theorem dX9_canAttack_80 : decode cX9_canAttack 80 = .ok (.ireturn, 1) := by decide +kernel
theorem dX9_hits_0 : decode cX9_hits 0 = .ok (.bipush 8, 2) := by decide +kernel
theorem dX9_hits_2 : decode cX9_hits 2 = .ok (.aload_n 0, 1) := by decide +kernel
theorem dX9_hits_3 : decode cX9_hits 3 = .ok (.aload_n 0, 1) := by decide +kernel
theorem dX9_hits_4 : decode cX9_hits 4 = .ok (.iload_n 1, 1) := by decide +kernel
theorem dX9_hits_5 : decode cX9_hits 5 = .ok (.iconst 2, 1) := by decide +kernel
theorem dX9_hits_6 : decode cX9_hits 6 = .ok (.invokevirtual 60, 3) := by decide +kernel
theorem dX9_hits_9 : decode cX9_hits 9 = .ok (.aload_n 0, 1) := by decide +kernel
theorem dX9_hits_10 : decode cX9_hits 10 = .ok (.iload_n 2, 1) := by decide +kernel
theorem dX9_hits_11 : decode cX9_hits 11 = .ok (.iconst 2, 1) := by decide +kernel
theorem dX9_hits_12 : decode cX9_hits 12 = .ok (.invokevirtual 60, 3) := by decide +kernel
theorem dX9_hits_15 : decode cX9_hits 15 = .ok (.invokevirtual 202, 3) := by decide +kernel
theorem dX9_hits_18 : decode cX9_hits 18 = .ok (.iadd, 1) := by decide +kernel
theorem dX9_hits_19 : decode cX9_hits 19 = .ok (.iconst 3, 1) := by decide +kernel
theorem dX9_hits_20 : decode cX9_hits 20 = .ok (.aload_n 0, 1) := by decide +kernel
theorem dX9_hits_21 : decode cX9_hits 21 = .ok (.aload_n 0, 1) := by decide +kernel
theorem dX9_hits_22 : decode cX9_hits 22 = .ok (.iload_n 2, 1) := by decide +kernel
theorem dX9_hits_23 : decode cX9_hits 23 = .ok (.iconst 2, 1) := by decide +kernel
theorem dX9_hits_24 : decode cX9_hits 24 = .ok (.invokevirtual 60, 3) := by decide +kernel
theorem dX9_hits_27 : decode cX9_hits 27 = .ok (.aload_n 0, 1) := by decide +kernel
theorem dX9_hits_28 : decode cX9_hits 28 = .ok (.iload_n 1, 1) := by decide +kernel
theorem dX9_hits_29 : decode cX9_hits 29 = .ok (.iconst 2, 1) := by decide +kernel
theorem dX9_hits_30 : decode cX9_hits 30 = .ok (.invokevirtual 60, 3) := by decide +kernel
theorem dX9_hits_33 : decode cX9_hits 33 = .ok (.invokevirtual 114, 3) := by decide +kernel
theorem dX9_hits_36 : decode cX9_hits 36 = .ok (.imul, 1) := by decide +kernel
theorem dX9_hits_37 : decode cX9_hits 37 = .ok (.iadd, 1) := by decide +kernel
theorem dX9_hits_38 : decode cX9_hits 38 = .ok (.iconst 2, 1) := by decide +kernel
theorem dX9_hits_39 : decode cX9_hits 39 = .ok (.aload_n 0, 1) := by decide +kernel
theorem dX9_hits_40 : decode cX9_hits 40 = .ok (.iload_n 2, 1) := by decide +kernel
theorem dX9_hits_41 : decode cX9_hits 41 = .ok (.bipush 9, 2) := by decide +kernel
theorem dX9_hits_43 : decode cX9_hits 43 = .ok (.invokevirtual 60, 3) := by decide +kernel
theorem dX9_hits_46 : decode cX9_hits 46 = .ok (.imul, 1) := by decide +kernel
theorem dX9_hits_47 : decode cX9_hits 47 = .ok (.iadd, 1) := by decide +kernel
theorem dX9_hits_48 : decode cX9_hits 48 = .ok (.istore 4, 2) := by decide +kernel
theorem dX9_hits_50 : decode cX9_hits 50 = .ok (.iload_n 3, 1) := by decide +kernel
theorem dX9_hits_51 : decode cX9_hits 51 = .ok (.bipush 20, 2) := by decide +kernel
theorem dX9_hits_53 : decode cX9_hits 53 = .ok (.if_icmp .eq 21, 3) := by decide +kernel
theorem dX9_hits_56 : decode cX9_hits 56 = .ok (.iload_n 3, 1) := by decide +kernel
theorem dX9_hits_57 : decode cX9_hits 57 = .ok (.iconst 1, 1) := by decide +kernel
theorem dX9_hits_58 : decode cX9_hits 58 = .ok (.if_icmp .le 20, 3) := by decide +kernel
theorem dX9_hits_61 : decode cX9_hits 61 = .ok (.iload_n 3, 1) := by decide +kernel
theorem dX9_hits_62 : decode cX9_hits 62 = .ok (.aload_n 0, 1) := by decide +kernel
theorem dX9_hits_63 : decode cX9_hits 63 = .ok (.iload_n 1, 1) := by decide +kernel
theorem dX9_hits_64 : decode cX9_hits 64 = .ok (.iconst 2, 1) := by decide +kernel
theorem dX9_hits_65 : decode cX9_hits 65 = .ok (.invokevirtual 147, 3) := by decide +kernel
theorem dX9_hits_68 : decode cX9_hits 68 = .ok (.iadd, 1) := by decide +kernel
theorem dX9_hits_69 : decode cX9_hits 69 = .ok (.iload 4, 2) := by decide +kernel
theorem dX9_hits_71 : decode cX9_hits 71 = .ok (.if_icmp .lt 7, 3) := by decide +kernel
theorem dX9_hits_74 : decode cX9_hits 74 = .ok (.iconst 1, 1) := by decide +kernel
theorem dX9_hits_75 : decode cX9_hits 75 = .ok (.goto 4, 3) := by decide +kernel
theorem dX9_hits_78 : decode cX9_hits 78 = .ok (.iconst 0, 1) := by decide +kernel
theorem dX9_hits_79 : decode cX9_hits 79 = .ok (.ireturn, 1) := by decide +kernel
theorem dX9_damage_0 : decode cX9_damage 0 = .ok (.iload 4, 2) := by decide +kernel
theorem dX9_damage_2 : decode cX9_damage 2 = .ok (.aload_n 0, 1) := by decide +kernel
theorem dX9_damage_3 : decode cX9_damage 3 = .ok (.iload_n 1, 1) := by decide +kernel
theorem dX9_damage_4 : decode cX9_damage 4 = .ok (.bipush 6, 2) := by decide +kernel
theorem dX9_damage_6 : decode cX9_damage 6 = .ok (.invokevirtual 147, 3) := by decide +kernel
theorem dX9_damage_9 : decode cX9_damage 9 = .ok (.iadd, 1) := by decide +kernel
theorem dX9_damage_10 : decode cX9_damage 10 = .ok (.aload_n 0, 1) := by decide +kernel
theorem dX9_damage_11 : decode cX9_damage 11 = .ok (.iload_n 2, 1) := by decide +kernel
theorem dX9_damage_12 : decode cX9_damage 12 = .ok (.iconst 1, 1) := by decide +kernel
theorem dX9_damage_13 : decode cX9_damage 13 = .ok (.invokevirtual 147, 3) := by decide +kernel
theorem dX9_damage_16 : decode cX9_damage 16 = .ok (.isub, 1) := by decide +kernel
theorem dX9_damage_17 : decode cX9_damage 17 = .ok (.istore 5, 2) := by decide +kernel
theorem dX9_damage_19 : decode cX9_damage 19 = .ok (.iload 5, 2) := by decide +kernel
theorem dX9_damage_21 : decode cX9_damage 21 = .ok (.iconst 1, 1) := by decide +kernel
theorem dX9_damage_22 : decode cX9_damage 22 = .ok (.if_icmp .ge 7, 3) := by decide +kernel
theorem dX9_damage_25 : decode cX9_damage 25 = .ok (.iconst 1, 1) := by decide +kernel
theorem dX9_damage_26 : decode cX9_damage 26 = .ok (.goto 5, 3) := by decide +kernel
theorem dX9_damage_29 : decode cX9_damage 29 = .ok (.iload 5, 2) := by decide +kernel
theorem dX9_damage_31 : decode cX9_damage 31 = .ok (.istore 5, 2) := by decide +kernel
theorem dX9_damage_33 : decode cX9_damage 33 = .ok (.iload_n 3, 1) := by decide +kernel
theorem dX9_damage_34 : decode cX9_damage 34 = .ok (.bipush 20, 2) := by decide +kernel
theorem dX9_damage_36 : decode cX9_damage 36 = .ok (.if_icmp .ne 10, 3) := by decide +kernel
theorem dX9_damage_39 : decode cX9_damage 39 = .ok (.iconst 2, 1) := by decide +kernel
theorem dX9_damage_40 : decode cX9_damage 40 = .ok (.iload 5, 2) := by decide +kernel
theorem dX9_damage_42 : decode cX9_damage 42 = .ok (.imul, 1) := by decide +kernel
theorem dX9_damage_43 : decode cX9_damage 43 = .ok (.goto 5, 3) := by decide +kernel
theorem dX9_damage_46 : decode cX9_damage 46 = .ok (.iload 5, 2) := by decide +kernel
theorem dX9_damage_48 : decode cX9_damage 48 = .ok (.ireturn, 1) := by decide +kernel
theorem dX9_attacks_0 : decode cX9_attacks 0 = .ok (.aload_n 0, 1) := by decide +kernel
theorem dX9_attacks_1 : decode cX9_attacks 1 = .ok (.iload_n 1, 1) := by decide +kernel
theorem dX9_attacks_2 : decode cX9_attacks 2 = .ok (.iconst 4, 1) := by decide +kernel
theorem dX9_attacks_3 : decode cX9_attacks 3 = .ok (.aload_n 0, 1) := by decide +kernel
theorem dX9_attacks_4 : decode cX9_attacks 4 = .ok (.iload_n 1, 1) := by decide +kernel
theorem dX9_attacks_5 : decode cX9_attacks 5 = .ok (.iconst 4, 1) := by decide +kernel
theorem dX9_attacks_6 : decode cX9_attacks 6 = .ok (.invokevirtual 60, 3) := by decide +kernel
theorem dX9_attacks_9 : decode cX9_attacks 9 = .ok (.iconst 1, 1) := by decide +kernel
theorem dX9_attacks_10 : decode cX9_attacks 10 = .ok (.isub, 1) := by decide +kernel
theorem dX9_attacks_11 : decode cX9_attacks 11 = .ok (.invokevirtual 127, 3) := by decide +kernel
theorem dX9_attacks_14 : decode cX9_attacks 14 = .ok (.aload_n 0, 1) := by decide +kernel
theorem dX9_attacks_15 : decode cX9_attacks 15 = .ok (.bipush 20, 2) := by decide +kernel
theorem dX9_attacks_17 : decode cX9_attacks 17 = .ok (.invokevirtual 144, 3) := by decide +kernel
theorem dX9_attacks_20 : decode cX9_attacks 20 = .ok (.istore_n 3, 1) := by decide +kernel
theorem dX9_attacks_21 : decode cX9_attacks 21 = .ok (.aload_n 0, 1) := by decide +kernel
theorem dX9_attacks_22 : decode cX9_attacks 22 = .ok (.iload_n 1, 1) := by decide +kernel
theorem dX9_attacks_23 : decode cX9_attacks 23 = .ok (.iload_n 2, 1) := by decide +kernel
theorem dX9_attacks_24 : decode cX9_attacks 24 = .ok (.iload_n 3, 1) := by decide +kernel
theorem dX9_attacks_25 : decode cX9_attacks 25 = .ok (.invokevirtual 205, 3) := by decide +kernel
theorem dX9_attacks_28 : decode cX9_attacks 28 = .ok (.ifCond .ne 12, 3) := by decide +kernel
theorem dX9_attacks_31 : decode cX9_attacks 31 = .ok (.aload_n 0, 1) := by decide +kernel
theorem dX9_attacks_32 : decode cX9_attacks 32 = .ok (.iconst 3, 1) := by decide +kernel
theorem dX9_attacks_33 : decode cX9_attacks 33 = .ok (.iload_n 1, 1) := by decide +kernel
theorem dX9_attacks_34 : decode cX9_attacks 34 = .ok (.iload_n 2, 1) := by decide +kernel
theorem dX9_attacks_35 : decode cX9_attacks 35 = .ok (.invokevirtual 141, 3) := by decide +kernel
theorem dX9_attacks_38 : decode cX9_attacks 38 = .ok (.iconst 0, 1) := by decide +kernel
theorem dX9_attacks_39 : decode cX9_attacks 39 = .ok (.ireturn, 1) := by decide +kernel
theorem dX9_attacks_40 : decode cX9_attacks 40 = .ok (.aload_n 0, 1) := by decide +kernel
theorem dX9_attacks_41 : decode cX9_attacks 41 = .ok (.iload_n 1, 1) := by decide +kernel
theorem dX9_attacks_42 : decode cX9_attacks 42 = .ok (.iload_n 2, 1) := by decide +kernel
theorem dX9_attacks_43 : decode cX9_attacks 43 = .ok (.iload_n 3, 1) := by decide +kernel
theorem dX9_attacks_44 : decode cX9_attacks 44 = .ok (.aload_n 0, 1) := by decide +kernel
theorem dX9_attacks_45 : decode cX9_attacks 45 = .ok (.iconst 4, 1) := by decide +kernel
theorem dX9_attacks_46 : decode cX9_attacks 46 = .ok (.invokevirtual 144, 3) := by decide +kernel
theorem dX9_attacks_49 : decode cX9_attacks 49 = .ok (.invokevirtual 208, 3) := by decide +kernel
theorem dX9_attacks_52 : decode cX9_attacks 52 = .ok (.istore 4, 2) := by decide +kernel
theorem dX9_attacks_54 : decode cX9_attacks 54 = .ok (.aload_n 0, 1) := by decide +kernel
theorem dX9_attacks_55 : decode cX9_attacks 55 = .ok (.iload_n 2, 1) := by decide +kernel
theorem dX9_attacks_56 : decode cX9_attacks 56 = .ok (.iload 4, 2) := by decide +kernel
theorem dX9_attacks_58 : decode cX9_attacks 58 = .ok (.invokevirtual 159, 3) := by decide +kernel
theorem dX9_attacks_61 : decode cX9_attacks 61 = .ok (.aload_n 0, 1) := by decide +kernel
theorem dX9_attacks_62 : decode cX9_attacks 62 = .ok (.iconst 2, 1) := by decide +kernel
theorem dX9_attacks_63 : decode cX9_attacks 63 = .ok (.iload_n 1, 1) := by decide +kernel
theorem dX9_attacks_64 : decode cX9_attacks 64 = .ok (.iload 4, 2) := by decide +kernel
theorem dX9_attacks_66 : decode cX9_attacks 66 = .ok (.invokevirtual 141, 3) := by decide +kernel
theorem dX9_attacks_69 : decode cX9_attacks 69 = .ok (.aload_n 0, 1) := by decide +kernel
theorem dX9_attacks_70 : decode cX9_attacks 70 = .ok (.iload_n 2, 1) := by decide +kernel
theorem dX9_attacks_71 : decode cX9_attacks 71 = .ok (.invokevirtual 163, 3) := by decide +kernel
theorem dX9_attacks_74 : decode cX9_attacks 74 = .ok (.iload 4, 2) := by decide +kernel
theorem dX9_attacks_76 : decode cX9_attacks 76 = .ok (.ireturn, 1) := by decide +kernel
theorem dX9_mayLook_0 : decode cX9_mayLook 0 = .ok (.aload_n 0, 1) := by decide +kernel
theorem dX9_mayLook_1 : decode cX9_mayLook 1 = .ok (.aload_n 0, 1) := by decide +kernel
theorem dX9_mayLook_2 : decode cX9_mayLook 2 = .ok (.iload_n 1, 1) := by decide +kernel
theorem dX9_mayLook_3 : decode cX9_mayLook 3 = .ok (.invokevirtual 131, 3) := by decide +kernel
theorem dX9_mayLook_6 : decode cX9_mayLook 6 = .ok (.ifCond .eq 11, 3) := by decide +kernel
theorem dX9_mayLook_9 : decode cX9_mayLook 9 = .ok (.aload_n 0, 1) := by decide +kernel
theorem dX9_mayLook_10 : decode cX9_mayLook 10 = .ok (.iload_n 2, 1) := by decide +kernel
theorem dX9_mayLook_11 : decode cX9_mayLook 11 = .ok (.invokevirtual 131, 3) := by decide +kernel
theorem dX9_mayLook_14 : decode cX9_mayLook 14 = .ok (.ifCond .ne 7, 3) := by decide +kernel
theorem dX9_mayLook_17 : decode cX9_mayLook 17 = .ok (.iconst 1, 1) := by decide +kernel
theorem dX9_mayLook_18 : decode cX9_mayLook 18 = .ok (.goto 17, 3) := by decide +kernel
theorem dX9_mayLook_21 : decode cX9_mayLook 21 = .ok (.aload_n 0, 1) := by decide +kernel
theorem dX9_mayLook_22 : decode cX9_mayLook 22 = .ok (.iload_n 1, 1) := by decide +kernel
theorem dX9_mayLook_23 : decode cX9_mayLook 23 = .ok (.iload_n 2, 1) := by decide +kernel
theorem dX9_mayLook_24 : decode cX9_mayLook 24 = .ok (.invokevirtual 212, 3) := by decide +kernel
theorem dX9_mayLook_27 : decode cX9_mayLook 27 = .ok (.ifCond .ne 7, 3) := by decide +kernel
theorem dX9_mayLook_30 : decode cX9_mayLook 30 = .ok (.iconst 2, 1) := by decide +kernel
theorem dX9_mayLook_31 : decode cX9_mayLook 31 = .ok (.goto 4, 3) := by decide +kernel
theorem dX9_mayLook_34 : decode cX9_mayLook 34 = .ok (.iconst 0, 1) := by decide +kernel
theorem dX9_mayLook_35 : decode cX9_mayLook 35 = .ok (.putfield 57, 3) := by decide +kernel
theorem dX9_mayLook_38 : decode cX9_mayLook 38 = .ok (.aload_n 0, 1) := by decide +kernel
theorem dX9_mayLook_39 : decode cX9_mayLook 39 = .ok (.getfield 57, 3) := by decide +kernel
theorem dX9_mayLook_42 : decode cX9_mayLook 42 = .ok (.ifCond .ne 7, 3) := by decide +kernel
theorem dX9_mayLook_45 : decode cX9_mayLook 45 = .ok (.iconst 1, 1) := by decide +kernel
theorem dX9_mayLook_46 : decode cX9_mayLook 46 = .ok (.goto 4, 3) := by decide +kernel
theorem dX9_mayLook_49 : decode cX9_mayLook 49 = .ok (.iconst 0, 1) := by decide +kernel
theorem dX9_mayLook_50 : decode cX9_mayLook 50 = .ok (.ireturn, 1) := by decide +kernel
theorem dX9_chance_0 : decode cX9_chance 0 = .ok (.aload_n 0, 1) := by decide +kernel
theorem dX9_chance_1 : decode cX9_chance 1 = .ok (.iload_n 1, 1) := by decide +kernel
theorem dX9_chance_2 : decode cX9_chance 2 = .ok (.iload_n 2, 1) := by decide +kernel
theorem dX9_chance_3 : decode cX9_chance 3 = .ok (.invokevirtual 215, 3) := by decide +kernel
theorem dX9_chance_6 : decode cX9_chance 6 = .ok (.ifCond .ne 5, 3) := by decide +kernel
theorem dX9_chance_9 : decode cX9_chance 9 = .ok (.dconst 0, 1) := by decide +kernel
theorem dX9_chance_10 : decode cX9_chance 10 = .ok (.dreturn, 1) := by decide +kernel
theorem dX9_chance_11 : decode cX9_chance 11 = .ok (.iconst 0, 1) := by decide +kernel
theorem dX9_chance_12 : decode cX9_chance 12 = .ok (.istore_n 3, 1) := by decide +kernel
theorem dX9_chance_13 : decode cX9_chance 13 = .ok (.iconst 1, 1) := by decide +kernel
theorem dX9_chance_14 : decode cX9_chance 14 = .ok (.istore 4, 2) := by decide +kernel
theorem dX9_chance_16 : decode cX9_chance 16 = .ok (.iload 4, 2) := by decide +kernel
theorem dX9_chance_18 : decode cX9_chance 18 = .ok (.bipush 20, 2) := by decide +kernel
theorem dX9_chance_20 : decode cX9_chance 20 = .ok (.if_icmp .gt 28, 3) := by decide +kernel
theorem dX9_chance_23 : decode cX9_chance 23 = .ok (.iload_n 3, 1) := by decide +kernel
theorem dX9_chance_24 : decode cX9_chance 24 = .ok (.aload_n 0, 1) := by decide +kernel
theorem dX9_chance_25 : decode cX9_chance 25 = .ok (.iload_n 1, 1) := by decide +kernel
theorem dX9_chance_26 : decode cX9_chance 26 = .ok (.iload_n 2, 1) := by decide +kernel
theorem dX9_chance_27 : decode cX9_chance 27 = .ok (.iload 4, 2) := by decide +kernel
theorem dX9_chance_29 : decode cX9_chance 29 = .ok (.invokevirtual 205, 3) := by decide +kernel
theorem dX9_chance_32 : decode cX9_chance 32 = .ok (.ifCond .eq 7, 3) := by decide +kernel
theorem dX9_chance_35 : decode cX9_chance 35 = .ok (.iconst 1, 1) := by decide +kernel
theorem dX9_chance_36 : decode cX9_chance 36 = .ok (.goto 4, 3) := by decide +kernel
theorem dX9_chance_39 : decode cX9_chance 39 = .ok (.iconst 0, 1) := by decide +kernel
theorem dX9_chance_40 : decode cX9_chance 40 = .ok (.iadd, 1) := by decide +kernel
theorem dX9_chance_41 : decode cX9_chance 41 = .ok (.istore_n 3, 1) := by decide +kernel
theorem dX9_chance_42 : decode cX9_chance 42 = .ok (.iinc 4 1, 3) := by decide +kernel
theorem dX9_chance_45 : decode cX9_chance 45 = .ok (.goto (-29), 3) := by decide +kernel
theorem dX9_chance_48 : decode cX9_chance 48 = .ok (.iload_n 3, 1) := by decide +kernel
theorem dX9_chance_49 : decode cX9_chance 49 = .ok (.i2d, 1) := by decide +kernel
theorem dX9_chance_50 : decode cX9_chance 50 = .ok (.ldc2_w 218, 3) := by decide +kernel
theorem dX9_chance_53 : decode cX9_chance 53 = .ok (.ddiv, 1) := by decide +kernel
theorem dX9_chance_54 : decode cX9_chance 54 = .ok (.dreturn, 1) := by decide +kernel
theorem dX9_damages_0 : decode cX9_damages 0 = .ok (.iconst 0, 1) := by decide +kernel
theorem dX9_damages_1 : decode cX9_damages 1 = .ok (.istore_n 3, 1) := by decide +kernel
theorem dX9_damages_2 : decode cX9_damages 2 = .ok (.iconst 1, 1) := by decide +kernel
theorem dX9_damages_3 : decode cX9_damages 3 = .ok (.istore 4, 2) := by decide +kernel
theorem dX9_damages_5 : decode cX9_damages 5 = .ok (.iload 4, 2) := by decide +kernel
theorem dX9_damages_7 : decode cX9_damages 7 = .ok (.bipush 20, 2) := by decide +kernel
theorem dX9_damages_9 : decode cX9_damages 9 = .ok (.if_icmp .gt 48, 3) := by decide +kernel
theorem dX9_damages_12 : decode cX9_damages 12 = .ok (.iconst 1, 1) := by decide +kernel
theorem dX9_damages_13 : decode cX9_damages 13 = .ok (.istore 5, 2) := by decide +kernel
theorem dX9_damages_15 : decode cX9_damages 15 = .ok (.iload 5, 2) := by decide +kernel
theorem dX9_damages_17 : decode cX9_damages 17 = .ok (.iconst 4, 1) := by decide +kernel
theorem dX9_damages_18 : decode cX9_damages 18 = .ok (.if_icmp .gt 33, 3) := by decide +kernel
theorem dX9_damages_21 : decode cX9_damages 21 = .ok (.aload_n 0, 1) := by decide +kernel
theorem dX9_damages_22 : decode cX9_damages 22 = .ok (.iload_n 1, 1) := by decide +kernel
theorem dX9_damages_23 : decode cX9_damages 23 = .ok (.iload_n 2, 1) := by decide +kernel
theorem dX9_damages_24 : decode cX9_damages 24 = .ok (.iload 4, 2) := by decide +kernel
theorem dX9_damages_26 : decode cX9_damages 26 = .ok (.invokevirtual 205, 3) := by decide +kernel
theorem dX9_damages_29 : decode cX9_damages 29 = .ok (.ifCond .eq 22, 3) := by decide +kernel
theorem dX9_damages_32 : decode cX9_damages 32 = .ok (.iload_n 3, 1) := by decide +kernel
theorem dX9_damages_33 : decode cX9_damages 33 = .ok (.aload_n 0, 1) := by decide +kernel
theorem dX9_damages_34 : decode cX9_damages 34 = .ok (.iload_n 1, 1) := by decide +kernel
theorem dX9_damages_35 : decode cX9_damages 35 = .ok (.iload_n 2, 1) := by decide +kernel
theorem dX9_damages_36 : decode cX9_damages 36 = .ok (.iload 4, 2) := by decide +kernel
theorem dX9_damages_38 : decode cX9_damages 38 = .ok (.iload 5, 2) := by decide +kernel
theorem dX9_damages_40 : decode cX9_damages 40 = .ok (.invokevirtual 208, 3) := by decide +kernel
theorem dX9_damages_43 : decode cX9_damages 43 = .ok (.iadd, 1) := by decide +kernel
theorem dX9_damages_44 : decode cX9_damages 44 = .ok (.istore_n 3, 1) := by decide +kernel
theorem dX9_damages_45 : decode cX9_damages 45 = .ok (.iinc 5 1, 3) := by decide +kernel
theorem dX9_damages_48 : decode cX9_damages 48 = .ok (.goto (-33), 3) := by decide +kernel
theorem dX9_damages_51 : decode cX9_damages 51 = .ok (.iinc 4 1, 3) := by decide +kernel
theorem dX9_damages_54 : decode cX9_damages 54 = .ok (.goto (-49), 3) := by decide +kernel
theorem dX9_damages_57 : decode cX9_damages 57 = .ok (.iload_n 3, 1) := by decide +kernel
theorem dX9_damages_58 : decode cX9_damages 58 = .ok (.ireturn, 1) := by decide +kernel
theorem dX9_meanDamage_0 : decode cX9_meanDamage 0 = .ok (.aload_n 0, 1) := by decide +kernel
theorem dX9_meanDamage_1 : decode cX9_meanDamage 1 = .ok (.iload_n 1, 1) := by decide +kernel
theorem dX9_meanDamage_2 : decode cX9_meanDamage 2 = .ok (.iload_n 2, 1) := by decide +kernel
theorem dX9_meanDamage_3 : decode cX9_meanDamage 3 = .ok (.invokevirtual 215, 3) := by decide +kernel
theorem dX9_meanDamage_6 : decode cX9_meanDamage 6 = .ok (.ifCond .eq 17, 3) := by decide +kernel
theorem dX9_meanDamage_9 : decode cX9_meanDamage 9 = .ok (.aload_n 0, 1) := by decide +kernel
theorem dX9_meanDamage_10 : decode cX9_meanDamage 10 = .ok (.iload_n 1, 1) := by decide +kernel
theorem dX9_meanDamage_11 : decode cX9_meanDamage 11 = .ok (.iload_n 2, 1) := by decide +kernel
theorem dX9_meanDamage_12 : decode cX9_meanDamage 12 = .ok (.invokevirtual 220, 3) := by decide +kernel
theorem dX9_meanDamage_15 : decode cX9_meanDamage 15 = .ok (.i2d, 1) := by decide +kernel
theorem dX9_meanDamage_16 : decode cX9_meanDamage 16 = .ok (.ldc2_w 223, 3) := by decide +kernel
theorem dX9_meanDamage_19 : decode cX9_meanDamage 19 = .ok (.ddiv, 1) := by decide +kernel
theorem dX9_meanDamage_20 : decode cX9_meanDamage 20 = .ok (.goto 4, 3) := by decide +kernel
theorem dX9_meanDamage_23 : decode cX9_meanDamage 23 = .ok (.dconst 0, 1) := by decide +kernel
theorem dX9_meanDamage_24 : decode cX9_meanDamage 24 = .ok (.dreturn, 1) := by decide +kernel
abbrev rmX9_hasTurn : Room := { frames := 3, cells := 0, slots := 0, locals := 64 }
def wX9_hasTurn_54 (Q : Int32 → MS → Prop) (QX : String → MS → Prop) (S : MS) (a0 : Nat) (y1 : Int32) : Prop := wp_X9_lives (fun r2 S1 => ((¬ r2 = 0 → (∃ a3, mR S1 a0 1 = some a3 ∧ (vp_in 166 (mN S1 a3) ∧ (∀ S4, S4 = (sI S1 a3 (166 : Int32).toNatClampNeg y1) → (∃ a5, mR S4 a0 1 = some a5 ∧ wp_X9_of (fun r7 S6 => ((r7 ≤ 0 → (vp_in 167 (mN S6 a5) ∧ (∀ S8, S8 = (sI S6 a5 (167 : Int32).toNatClampNeg 2) → Q 1 S8))) ∧ (¬ r7 ≤ 0 → (vp_in 167 (mN S6 a5) ∧ (∀ S9, S9 = (sI S6 a5 (167 : Int32).toNatClampNeg 0) → Q 1 S9))))) QX S4 a0 y1 7))))) ∧ (r2 = 0 → Q 0 S1))) QX S a0 y1
set_option maxHeartbeats 4000000 in
set_option maxRecDepth 100000 in
theorem tX9_hasTurn_54 {p : Program} {l : Launch} {e : Env} {s : State} {m : MethodId} {args : Array Value} {below : List Frame} {meth : Method} {c : Code} {H : Heap} {locs : List Loc} {cells slots : Nat} {G : GP} {A : Nat → Prop} {S0 : MS} {ls : Array Slot} (C : CF p l s m args meth c "SkirmishGridModel" cX9_hasTurn 2 G A) (hr : meth.sig.returnType = (some .boolean)) (hex : ∀ x ∈ c.exceptionTable.toList, False) (Q : Int32 → MS → Prop) (QX : String → MS → Prop) (S : MS) (a0 : Nat) (y1 : Int32) (p_a0 : pI S 9 a0) (P : PW G A s H locs S0 S) (hl : lv_has ls 2 [(0, .ref a0), (1, .int y1)]) (hcc : cells + 0 ≤ 0) (hss : slots + 0 ≤ 0) (hw : wX9_hasTurn_54 Q QX S a0 y1) : W p l e rmX9_hasTurn s m args below meth c H locs cells slots (vx_MQ below (QI G S0 A Q) (XX G S0 A QX) args s 0 0 A) (F0 m 54 ls []) := by
  have hx := CF_x C
  have hb := CF_b C
  unfold wX9_hasTurn_54 at hw
  refine lv_aload_n hx hb dX9_hasTurn_54 rfl (lv_at hl 0 rfl) ?_
  refine lv_iload_n hx hb dX9_hasTurn_55 rfl (lv_at hl 1 rfl) ?_
  refine cl_i C P (run_V C P hl.1 (kd := 9) (met_X9_lives (CF_n C) G H.size _ _ S a0 y1 p_a0 hw) p_a0 (by decide) rfl q_1453 q_1455 q_p33 q_10 q_1456 cd_X9_lives ⟨(Nat.le_of_ble_eq_true rfl), (Nat.le_of_ble_eq_true rfl)⟩ rfl rfl (As := [.int y1]) (rest := []) rfl rfl (Nat.le_of_ble_eq_true rfl) dX9_hasTurn_56 ⟨by show cells + 0 ≤ 0; omega, by show slots + 0 ≤ 0; omega⟩) (kx_out C hex (fun _ _ _ h => h) (by omega) (by omega)) (fun r2 S1 H locs P hE hw => ?_)
  have p_a0 : pI S1 9 a0 := pI_x hE p_a0
  refine lv_if_ne (tgt := 64) hx hb dX9_hasTurn_59 (by decide) (fun hc => ?_) (fun hc => ?_)
  · have hw := hw.1 hc
    refine lv_aload_n hx hb dX9_hasTurn_64 rfl (lv_at hl 0 rfl) ?_
    obtain ⟨a3, e1, hw⟩ := hw
    have p_a3 : pI S1 12 a3 := wf_r P.2.2.2.1 p_a0 e1
    refine gf_9_1 C P p_a0 e1 q_1306 dX9_hasTurn_65 ?_
    refine lv_sipush (v := 166) hx hb dX9_hasTurn_68 (by decide) ?_
    refine lv_iload_n hx hb dX9_hasTurn_71 rfl (lv_at hl 1 rfl) ?_
    obtain ⟨h1, hw⟩ := hw
    refine rs_i C P p_a3 h1 dX9_hasTurn_72 (fun H locs P => ?_)
    obtain ⟨S4, hS⟩ : ∃ z, z = (sI S1 a3 (166 : Int32).toNatClampNeg y1) := ⟨_, rfl⟩
    have P : PW G A s H locs S0 S4 := by rw [hS]; exact P
    have p_a0 : pI S4 9 a0 := by rw [hS]; exact pI_x ext_sI p_a0
    have p_a3 : pI S4 12 a3 := by rw [hS]; exact pI_x ext_sI p_a3
    have hw := hw S4 hS
    refine lv_aload_n hx hb dX9_hasTurn_73 rfl (lv_at hl 0 rfl) ?_
    obtain ⟨a5, e1, hw⟩ := hw
    have p_a5 : pI S4 12 a5 := wf_r P.2.2.2.1 p_a0 e1
    refine gf_9_1 C P p_a0 e1 q_1306 dX9_hasTurn_74 ?_
    refine lv_sipush (v := 167) hx hb dX9_hasTurn_77 (by decide) ?_
    refine lv_aload_n hx hb dX9_hasTurn_80 rfl (lv_at hl 0 rfl) ?_
    refine lv_iload_n hx hb dX9_hasTurn_81 rfl (lv_at hl 1 rfl) ?_
    refine lv_bipush (v := 7) hx hb dX9_hasTurn_82 (by decide) ?_
    refine cl_i C P (run_V C P hl.1 (kd := 9) (met_X9_of (CF_n C) G H.size _ _ S4 a0 y1 7 p_a0 hw) p_a0 (by decide) rfl q_1457 q_1459 q_p34 q_10 q_1460 cd_X9_of ⟨(Nat.le_of_ble_eq_true rfl), (Nat.le_of_ble_eq_true rfl)⟩ rfl rfl (As := [.int y1, .int 7]) (rest := [.int 167, .ref a5]) rfl rfl (Nat.le_of_ble_eq_true rfl) dX9_hasTurn_84 ⟨by show cells + 0 ≤ 0; omega, by show slots + 0 ≤ 0; omega⟩) (kx_out C hex (fun _ _ _ h => h) (by omega) (by omega)) (fun r7 S6 H locs P hE hw => ?_)
    have p_a0 : pI S6 9 a0 := pI_x hE p_a0
    have p_a5 : pI S6 12 a5 := pI_x hE p_a5
    refine lv_if_le (tgt := 94) hx hb dX9_hasTurn_87 (by decide) (fun hc => ?_) (fun hc => ?_)
    · have hw := hw.1 hc
      refine lv_iconst (v := 2) hx hb dX9_hasTurn_94 (by decide) ?_
      obtain ⟨h1, hw⟩ := hw
      refine rs_i C P p_a5 h1 dX9_hasTurn_95 (fun H locs P => ?_)
      obtain ⟨S8, hS⟩ : ∃ z, z = (sI S6 a5 (167 : Int32).toNatClampNeg 2) := ⟨_, rfl⟩
      have P : PW G A s H locs S0 S8 := by rw [hS]; exact P
      have p_a5 : pI S8 12 a5 := by rw [hS]; exact pI_x ext_sI p_a5
      have hw := hw S8 hS
      refine lv_iconst (v := 1) hx hb dX9_hasTurn_96 (by decide) ?_
      exact e_i C hr (by decide +kernel) P hw (by omega) (by omega) dX9_hasTurn_97
    · have hw := hw.2 hc
      refine lv_iconst (v := 0) hx hb dX9_hasTurn_90 (by decide) ?_
      refine lv_goto (tgt := 95) hx hb dX9_hasTurn_91 (by decide) ?_
      obtain ⟨h1, hw⟩ := hw
      refine rs_i C P p_a5 h1 dX9_hasTurn_95 (fun H locs P => ?_)
      obtain ⟨S9, hS⟩ : ∃ z, z = (sI S6 a5 (167 : Int32).toNatClampNeg 0) := ⟨_, rfl⟩
      have P : PW G A s H locs S0 S9 := by rw [hS]; exact P
      have p_a5 : pI S9 12 a5 := by rw [hS]; exact pI_x ext_sI p_a5
      have hw := hw S9 hS
      refine lv_iconst (v := 1) hx hb dX9_hasTurn_96 (by decide) ?_
      exact e_i C hr (by decide +kernel) P hw (by omega) (by omega) dX9_hasTurn_97
  · have hw := hw.2 hc
    refine lv_iconst (v := 0) hx hb dX9_hasTurn_62 (by decide) ?_
    exact e_i C hr (by decide +kernel) P hw (by omega) (by omega) dX9_hasTurn_63
def wX9_hasTurn_0 (Q : Int32 → MS → Prop) (QX : String → MS → Prop) (S : MS) (a0 : Nat) (x1 : Int32) : Prop := wp_X9_lives (fun r2 S1 => ((¬ r2 = 0 → wp_X9_sets (fun S3 => wp_X9_sets (fun S4 => wp_X9_of (fun r6 S5 => ((r6 ≤ 0 → wX9_hasTurn_54 Q QX S5 a0 x1) ∧ (¬ r6 ≤ 0 → wp_X9_loses (fun S7 => wp_X9_tells (fun S8 => wp_X9_dies (fun S9 => wX9_hasTurn_54 Q QX S9 a0 x1) QX S8 a0 x1) QX S7 a0 5 x1 2) QX S5 a0 x1 2))) QX S4 a0 x1 8) QX S3 a0 x1 10 0) QX S1 a0 x1 9 0) ∧ (r2 = 0 → Q 0 S1))) QX S a0 x1
set_option maxHeartbeats 4000000 in
set_option maxRecDepth 100000 in
theorem tX9_hasTurn_0 {p : Program} {l : Launch} {e : Env} {s : State} {m : MethodId} {args : Array Value} {below : List Frame} {meth : Method} {c : Code} {H : Heap} {locs : List Loc} {cells slots : Nat} {G : GP} {A : Nat → Prop} {S0 : MS} {ls : Array Slot} (C : CF p l s m args meth c "SkirmishGridModel" cX9_hasTurn 2 G A) (hr : meth.sig.returnType = (some .boolean)) (hex : ∀ x ∈ c.exceptionTable.toList, False) (Q : Int32 → MS → Prop) (QX : String → MS → Prop) (S : MS) (a0 : Nat) (x1 : Int32) (p_a0 : pI S 9 a0) (P : PW G A s H locs S0 S) (hl : lv_has ls 2 [(0, .ref a0), (1, .int x1)]) (hcc : cells + 0 ≤ 0) (hss : slots + 0 ≤ 0) (hw : wX9_hasTurn_0 Q QX S a0 x1) : W p l e rmX9_hasTurn s m args below meth c H locs cells slots (vx_MQ below (QI G S0 A Q) (XX G S0 A QX) args s 0 0 A) (F0 m 0 ls []) := by
  have hx := CF_x C
  have hb := CF_b C
  unfold wX9_hasTurn_0 at hw
  refine lv_aload_n hx hb dX9_hasTurn_0 rfl (lv_at hl 0 rfl) ?_
  refine lv_iload_n hx hb dX9_hasTurn_1 rfl (lv_at hl 1 rfl) ?_
  refine cl_i C P (run_V C P hl.1 (kd := 9) (met_X9_lives (CF_n C) G H.size _ _ S a0 x1 p_a0 hw) p_a0 (by decide) rfl q_1453 q_1455 q_p33 q_10 q_1456 cd_X9_lives ⟨(Nat.le_of_ble_eq_true rfl), (Nat.le_of_ble_eq_true rfl)⟩ rfl rfl (As := [.int x1]) (rest := []) rfl rfl (Nat.le_of_ble_eq_true rfl) dX9_hasTurn_2 ⟨by show cells + 0 ≤ 0; omega, by show slots + 0 ≤ 0; omega⟩) (kx_out C hex (fun _ _ _ h => h) (by omega) (by omega)) (fun r2 S1 H locs P hE hw => ?_)
  have p_a0 : pI S1 9 a0 := pI_x hE p_a0
  refine lv_if_ne (tgt := 10) hx hb dX9_hasTurn_5 (by decide) (fun hc => ?_) (fun hc => ?_)
  · have hw := hw.1 hc
    refine lv_aload_n hx hb dX9_hasTurn_10 rfl (lv_at hl 0 rfl) ?_
    refine lv_iload_n hx hb dX9_hasTurn_11 rfl (lv_at hl 1 rfl) ?_
    refine lv_bipush (v := 9) hx hb dX9_hasTurn_12 (by decide) ?_
    refine lv_iconst (v := 0) hx hb dX9_hasTurn_14 (by decide) ?_
    refine cl_v C P (run_V C P hl.1 (kd := 9) (met_X9_sets (CF_n C) G H.size _ _ S1 a0 x1 9 0 p_a0 hw) p_a0 (by decide) rfl q_1465 q_1467 q_p36 q_10 q_1468 cd_X9_sets ⟨(Nat.le_of_ble_eq_true rfl), (Nat.le_of_ble_eq_true rfl)⟩ rfl rfl (As := [.int x1, .int 9, .int 0]) (rest := []) rfl rfl (Nat.le_of_ble_eq_true rfl) dX9_hasTurn_15 ⟨by show cells + 0 ≤ 0; omega, by show slots + 0 ≤ 0; omega⟩) (kx_out C hex (fun _ _ _ h => h) (by omega) (by omega)) (fun S3 H locs P hE hw => ?_)
    have p_a0 : pI S3 9 a0 := pI_x hE p_a0
    refine lv_aload_n hx hb dX9_hasTurn_18 rfl (lv_at hl 0 rfl) ?_
    refine lv_iload_n hx hb dX9_hasTurn_19 rfl (lv_at hl 1 rfl) ?_
    refine lv_bipush (v := 10) hx hb dX9_hasTurn_20 (by decide) ?_
    refine lv_iconst (v := 0) hx hb dX9_hasTurn_22 (by decide) ?_
    refine cl_v C P (run_V C P hl.1 (kd := 9) (met_X9_sets (CF_n C) G H.size _ _ S3 a0 x1 10 0 p_a0 hw) p_a0 (by decide) rfl q_1465 q_1467 q_p36 q_10 q_1468 cd_X9_sets ⟨(Nat.le_of_ble_eq_true rfl), (Nat.le_of_ble_eq_true rfl)⟩ rfl rfl (As := [.int x1, .int 10, .int 0]) (rest := []) rfl rfl (Nat.le_of_ble_eq_true rfl) dX9_hasTurn_23 ⟨by show cells + 0 ≤ 0; omega, by show slots + 0 ≤ 0; omega⟩) (kx_out C hex (fun _ _ _ h => h) (by omega) (by omega)) (fun S4 H locs P hE hw => ?_)
    have p_a0 : pI S4 9 a0 := pI_x hE p_a0
    refine lv_aload_n hx hb dX9_hasTurn_26 rfl (lv_at hl 0 rfl) ?_
    refine lv_iload_n hx hb dX9_hasTurn_27 rfl (lv_at hl 1 rfl) ?_
    refine lv_bipush (v := 8) hx hb dX9_hasTurn_28 (by decide) ?_
    refine cl_i C P (run_V C P hl.1 (kd := 9) (met_X9_of (CF_n C) G H.size _ _ S4 a0 x1 8 p_a0 hw) p_a0 (by decide) rfl q_1457 q_1459 q_p34 q_10 q_1460 cd_X9_of ⟨(Nat.le_of_ble_eq_true rfl), (Nat.le_of_ble_eq_true rfl)⟩ rfl rfl (As := [.int x1, .int 8]) (rest := []) rfl rfl (Nat.le_of_ble_eq_true rfl) dX9_hasTurn_30 ⟨by show cells + 0 ≤ 0; omega, by show slots + 0 ≤ 0; omega⟩) (kx_out C hex (fun _ _ _ h => h) (by omega) (by omega)) (fun r6 S5 H locs P hE hw => ?_)
    have p_a0 : pI S5 9 a0 := pI_x hE p_a0
    refine lv_if_le (tgt := 54) hx hb dX9_hasTurn_33 (by decide) (fun hc => ?_) (fun hc => ?_)
    · have hw := hw.1 hc
      exact tX9_hasTurn_54 C hr hex Q QX S5 a0 x1 p_a0 P (lv_sub hl [0, 1] rfl) (by omega) (by omega) hw
    · have hw := hw.2 hc
      refine lv_aload_n hx hb dX9_hasTurn_36 rfl (lv_at hl 0 rfl) ?_
      refine lv_iload_n hx hb dX9_hasTurn_37 rfl (lv_at hl 1 rfl) ?_
      refine lv_iconst (v := 2) hx hb dX9_hasTurn_38 (by decide) ?_
      refine cl_v C P (run_V C P hl.1 (kd := 9) (met_X9_loses (CF_n C) G H.size _ _ S5 a0 x1 2 p_a0 hw) p_a0 (by decide) rfl q_1544 q_1546 q_p47 q_10 q_1547 cd_X9_loses ⟨(Nat.le_of_ble_eq_true rfl), (Nat.le_of_ble_eq_true rfl)⟩ rfl rfl (As := [.int x1, .int 2]) (rest := []) rfl rfl (Nat.le_of_ble_eq_true rfl) dX9_hasTurn_39 ⟨by show cells + 0 ≤ 0; omega, by show slots + 0 ≤ 0; omega⟩) (kx_out C hex (fun _ _ _ h => h) (by omega) (by omega)) (fun S7 H locs P hE hw => ?_)
      have p_a0 : pI S7 9 a0 := pI_x hE p_a0
      refine lv_aload_n hx hb dX9_hasTurn_42 rfl (lv_at hl 0 rfl) ?_
      refine lv_iconst (v := 5) hx hb dX9_hasTurn_43 (by decide) ?_
      refine lv_iload_n hx hb dX9_hasTurn_44 rfl (lv_at hl 1 rfl) ?_
      refine lv_iconst (v := 2) hx hb dX9_hasTurn_45 (by decide) ?_
      refine cl_v C P (run_V C P hl.1 (kd := 9) (met_X9_tells (CF_n C) G H.size _ _ S7 a0 5 x1 2 p_a0 hw) p_a0 (by decide) rfl q_1523 q_1525 q_p42 q_10 q_1526 cd_X9_tells ⟨(Nat.le_of_ble_eq_true rfl), (Nat.le_of_ble_eq_true rfl)⟩ rfl rfl (As := [.int 5, .int x1, .int 2]) (rest := []) rfl rfl (Nat.le_of_ble_eq_true rfl) dX9_hasTurn_46 ⟨by show cells + 0 ≤ 0; omega, by show slots + 0 ≤ 0; omega⟩) (kx_out C hex (fun _ _ _ h => h) (by omega) (by omega)) (fun S8 H locs P hE hw => ?_)
      have p_a0 : pI S8 9 a0 := pI_x hE p_a0
      refine lv_aload_n hx hb dX9_hasTurn_49 rfl (lv_at hl 0 rfl) ?_
      refine lv_iload_n hx hb dX9_hasTurn_50 rfl (lv_at hl 1 rfl) ?_
      refine cl_v C P (run_V C P hl.1 (kd := 9) (met_X9_dies (CF_n C) G H.size _ _ S8 a0 x1 p_a0 hw) p_a0 (by decide) rfl q_1548 q_1550 q_p48 q_10 q_1551 cd_X9_dies ⟨(Nat.le_of_ble_eq_true rfl), (Nat.le_of_ble_eq_true rfl)⟩ rfl rfl (As := [.int x1]) (rest := []) rfl rfl (Nat.le_of_ble_eq_true rfl) dX9_hasTurn_51 ⟨by show cells + 0 ≤ 0; omega, by show slots + 0 ≤ 0; omega⟩) (kx_out C hex (fun _ _ _ h => h) (by omega) (by omega)) (fun S9 H locs P hE hw => ?_)
      have p_a0 : pI S9 9 a0 := pI_x hE p_a0
      exact tX9_hasTurn_54 C hr hex Q QX S9 a0 x1 p_a0 P (lv_sub hl [0, 1] rfl) (by omega) (by omega) hw
  · have hw := hw.2 hc
    refine lv_iconst (v := 0) hx hb dX9_hasTurn_8 (by decide) ?_
    exact e_i C hr (by decide +kernel) P hw (by omega) (by omega) dX9_hasTurn_9
def wp_X9_hasTurn (Q : Int32 → MS → Prop) (QX : String → MS → Prop) (S : MS) (a0 : Nat) (x1 : Int32) : Prop := wX9_hasTurn_0 Q QX S a0 x1
set_option maxHeartbeats 4000000 in
set_option maxRecDepth 100000 in
theorem met_X9_hasTurn {l : Launch} (hst : l.stackTraces = false) (G : GP) (sz : Nat) (Q : Int32 → MS → Prop) (QX : String → MS → Prop) (S : MS) (a0 : Nat) (x1 : Int32) (p_a0 : pI S 9 a0) (hw : wp_X9_hasTurn Q QX S a0 x1) : vx_Met l yX9_hasTurn (.code yX9_hasTurn cX9_hasTurn 2 (some .boolean) :: GW) rmX9_hasTurn (va_Pc [.ref a0, .int x1] (PR G S sz)) (QI G S (FA G S sz) Q) (XX G S (FA G S sz) QX) 0 0 (FA G S sz) := by
  refine st_m (by decide +kernel) hst (fun p e s m below meth c C hr hnm hex P => ?_)
  refine en_m (Nat.le_of_ble_eq_true rfl) (lv := [(0, .ref a0), (1, .int x1)]) rfl (fun ls hl => ?_)
  have C : CF p l s m _ meth c "SkirmishGridModel" cX9_hasTurn 2 G (FA G S sz) := C
  exact tX9_hasTurn_0 C hr hex Q QX S a0 x1 p_a0 P hl (by omega) (by omega) hw
theorem cd_X9_hasTurn : yX9_hasTurn.cls = RX9 ∧ yX9_hasTurn.cls ≠ "java/lang/invoke/MethodHandle" ∧ yX9_hasTurn.cls ≠ "java/lang/invoke/VarHandle" ∧ (parseMethodDescriptor yX9_hasTurn.desc).map (fun d => d.parameters.length) = some 1 := by decide +kernel
abbrev rmX9_goesOn : Room := { frames := 4, cells := 0, slots := 0, locals := 88 }
def wX9_goesOn_37 (Q : MS → Prop) (QX : String → MS → Prop) (k37 : MS → Nat → Int32 → Prop) (S : MS) (a0 : Nat) (y2 : Int32) : Prop := ((y2 = 0 → Q S) ∧ (¬ y2 = 0 → (∀ S1, S1 = (sI S a0 16 ((mI S a0 16) + 1)) → (∃ a2, mR S1 a0 1 = some a2 ∧ (vp_in 157 (mN S1 a2) ∧ ((¬ (mI S1 a0 16) = (mI S1 a2 (157 : Int32).toNatClampNeg) → (∃ a3, mR S1 a0 1 = some a3 ∧ (vp_in (158 + (mI S1 a0 16)) (mN S1 a3) ∧ wp_X9_hasTurn (fun r5 S4 => ((¬ r5 = 0 → k37 S4 a0 0) ∧ (r5 = 0 → wp_X9_conditions (fun r7 S6 => ((¬ r7 = 1 → k37 S6 a0 0) ∧ (r7 = 1 → k37 S6 a0 1))) QX S4 a0))) QX S1 a0 (mI S1 a3 ((158 + (mI S1 a0 16)) : Int32).toNatClampNeg)))) ∧ ((mI S1 a0 16) = (mI S1 a2 (157 : Int32).toNatClampNeg) → wp_X9_begins (fun S8 => k37 S8 a0 y2) QX S1 a0)))))))
set_option maxHeartbeats 4000000 in
set_option maxRecDepth 100000 in
theorem tX9_goesOn_37 {p : Program} {l : Launch} {e : Env} {s : State} {m : MethodId} {args : Array Value} {below : List Frame} {meth : Method} {c : Code} {H : Heap} {locs : List Loc} {cells slots : Nat} {G : GP} {A : Nat → Prop} {S0 : MS} {ls : Array Slot} (C : CF p l s m args meth c "SkirmishGridModel" cX9_goesOn 3 G A) (hr : meth.sig.returnType = none) (hex : ∀ x ∈ c.exceptionTable.toList, False) (Q : MS → Prop) (QX : String → MS → Prop) (k37 : MS → Nat → Int32 → Prop) (kh37 : ∀ (S : MS) (a0 : Nat) (y2 : Int32) (cells slots : Nat) (H : Heap) (locs : List Loc) (ls : Array Slot), pI S 9 a0 → PW G A s H locs S0 S → lv_has ls 3 [(0, .ref a0), (2, .int y2)] → cells + 0 ≤ 0 → slots + 0 ≤ 0 → k37 S a0 y2 → W p l e rmX9_goesOn s m args below meth c H locs cells slots (vx_MQ below (QV G S0 A Q) (XX G S0 A QX) args s 0 0 A) (F0 m 37 ls [])) (S : MS) (a0 : Nat) (y2 : Int32) (p_a0 : pI S 9 a0) (P : PW G A s H locs S0 S) (hl : lv_has ls 3 [(0, .ref a0), (2, .int y2)]) (hcc : cells + 0 ≤ 0) (hss : slots + 0 ≤ 0) (hw : wX9_goesOn_37 Q QX k37 S a0 y2) : W p l e rmX9_goesOn s m args below meth c H locs cells slots (vx_MQ below (QV G S0 A Q) (XX G S0 A QX) args s 0 0 A) (F0 m 37 ls []) := by
  have hx := CF_x C
  have hb := CF_b C
  unfold wX9_goesOn_37 at hw
  refine lv_iload_n hx hb dX9_goesOn_37 rfl (lv_at hl 1 rfl) ?_
  refine lv_if_eq (tgt := 110) hx hb dX9_goesOn_38 (by decide) (fun hc => ?_) (fun hc => ?_)
  · have hw := hw.1 hc
    exact e_v C hr P hw (by omega) (by omega) dX9_goesOn_110
  · have hw := hw.2 hc
    refine lv_aload_n hx hb dX9_goesOn_41 rfl (lv_at hl 0 rfl) ?_
    refine lv_dup hx hb dX9_goesOn_42 rfl ?_
    refine gf_9_16 C P p_a0 q_1321 dX9_goesOn_43 ?_
    refine lv_iconst (v := 1) hx hb dX9_goesOn_46 (by decide) ?_
    refine lv_iadd hx hb dX9_goesOn_47 ?_
    refine pf_9_16 C P p_a0 q_1321 dX9_goesOn_48 (fun H locs P => ?_)
    obtain ⟨S1, hS⟩ : ∃ z, z = (sI S a0 16 ((mI S a0 16) + 1)) := ⟨_, rfl⟩
    have P : PW G A s H locs S0 S1 := by rw [hS]; exact P
    have p_a0 : pI S1 9 a0 := by rw [hS]; exact pI_x ext_sI p_a0
    have hw := hw S1 hS
    refine lv_aload_n hx hb dX9_goesOn_51 rfl (lv_at hl 0 rfl) ?_
    refine gf_9_16 C P p_a0 q_1321 dX9_goesOn_52 ?_
    refine lv_aload_n hx hb dX9_goesOn_55 rfl (lv_at hl 0 rfl) ?_
    obtain ⟨a2, e1, hw⟩ := hw
    have p_a2 : pI S1 12 a2 := wf_r P.2.2.2.1 p_a0 e1
    refine gf_9_1 C P p_a0 e1 q_1306 dX9_goesOn_56 ?_
    refine lv_sipush (v := 157) hx hb dX9_goesOn_59 (by decide) ?_
    obtain ⟨h1, hw⟩ := hw
    refine ra_i C P p_a2 h1 dX9_goesOn_62 ?_
    refine lv_icmp_ne (tgt := 73) hx hb dX9_goesOn_63 (by decide) (fun hc => ?_) (fun hc => ?_)
    · have hw := hw.1 hc
      refine lv_aload_n hx hb dX9_goesOn_73 rfl (lv_at hl 0 rfl) ?_
      refine lv_aload_n hx hb dX9_goesOn_74 rfl (lv_at hl 0 rfl) ?_
      obtain ⟨a3, e1, hw⟩ := hw
      have p_a3 : pI S1 12 a3 := wf_r P.2.2.2.1 p_a0 e1
      refine gf_9_1 C P p_a0 e1 q_1306 dX9_goesOn_75 ?_
      refine lv_sipush (v := 158) hx hb dX9_goesOn_78 (by decide) ?_
      refine lv_aload_n hx hb dX9_goesOn_81 rfl (lv_at hl 0 rfl) ?_
      refine gf_9_16 C P p_a0 q_1321 dX9_goesOn_82 ?_
      refine lv_iadd hx hb dX9_goesOn_85 ?_
      obtain ⟨h1, hw⟩ := hw
      refine ra_i C P p_a3 h1 dX9_goesOn_86 ?_
      refine cl_i C P (run_V C P hl.1 (kd := 9) (met_X9_hasTurn (CF_n C) G H.size _ _ S1 a0 (mI S1 a3 ((158 + (mI S1 a0 16)) : Int32).toNatClampNeg) p_a0 hw) p_a0 (by decide) rfl q_1540 q_1542 q_p46 q_10 q_1543 cd_X9_hasTurn ⟨(Nat.le_of_ble_eq_true rfl), (Nat.le_of_ble_eq_true rfl)⟩ rfl rfl (As := [.int (mI S1 a3 ((158 + (mI S1 a0 16)) : Int32).toNatClampNeg)]) (rest := []) rfl rfl (Nat.le_of_ble_eq_true rfl) dX9_goesOn_87 ⟨by show cells + 0 ≤ 0; omega, by show slots + 0 ≤ 0; omega⟩) (kx_out C hex (fun _ _ _ h => h) (by omega) (by omega)) (fun r5 S4 H locs P hE hw => ?_)
      have p_a0 : pI S4 9 a0 := pI_x hE p_a0
      refine lv_if_ne (tgt := 105) hx hb dX9_goesOn_90 (by decide) (fun hc => ?_) (fun hc => ?_)
      · have hw := hw.1 hc
        refine lv_iconst (v := 0) hx hb dX9_goesOn_105 (by decide) ?_
        refine lv_istore_n (lv' := [(2, .int 0), (0, .ref a0)]) hx hb dX9_goesOn_106 rfl hl (by decide) rfl (fun ls hl => ?_)
        refine lv_goto (tgt := 37) hx hb dX9_goesOn_107 (by decide) ?_
        exact kh37 S4 a0 0 _ _ _ _ _ p_a0 P (lv_sub hl [1, 0] rfl) (by omega) (by omega) hw
      · have hw := hw.2 hc
        refine lv_aload_n hx hb dX9_goesOn_93 rfl (lv_at hl 0 rfl) ?_
        refine cl_i C P (run_V C P hl.1 (kd := 9) (met_X9_conditions (CF_n C) G H.size _ _ S4 a0 p_a0 hw) p_a0 (by decide) rfl q_1488 q_1490 q_p38 q_10 q_1491 cd_X9_conditions ⟨(Nat.le_of_ble_eq_true rfl), (Nat.le_of_ble_eq_true rfl)⟩ rfl rfl (As := []) (rest := []) rfl rfl (Nat.le_of_ble_eq_true rfl) dX9_goesOn_94 ⟨by show cells + 0 ≤ 0; omega, by show slots + 0 ≤ 0; omega⟩) (kx_out C hex (fun _ _ _ h => h) (by omega) (by omega)) (fun r7 S6 H locs P hE hw => ?_)
        have p_a0 : pI S6 9 a0 := pI_x hE p_a0
        refine lv_iconst (v := 1) hx hb dX9_goesOn_97 (by decide) ?_
        refine lv_icmp_ne (tgt := 105) hx hb dX9_goesOn_98 (by decide) (fun hc => ?_) (fun hc => ?_)
        · have hw := hw.1 hc
          refine lv_iconst (v := 0) hx hb dX9_goesOn_105 (by decide) ?_
          refine lv_istore_n (lv' := [(2, .int 0), (0, .ref a0)]) hx hb dX9_goesOn_106 rfl hl (by decide) rfl (fun ls hl => ?_)
          refine lv_goto (tgt := 37) hx hb dX9_goesOn_107 (by decide) ?_
          exact kh37 S6 a0 0 _ _ _ _ _ p_a0 P (lv_sub hl [1, 0] rfl) (by omega) (by omega) hw
        · have hw := hw.2 hc
          refine lv_iconst (v := 1) hx hb dX9_goesOn_101 (by decide) ?_
          refine lv_goto (tgt := 106) hx hb dX9_goesOn_102 (by decide) ?_
          refine lv_istore_n (lv' := [(2, .int 1), (0, .ref a0)]) hx hb dX9_goesOn_106 rfl hl (by decide) rfl (fun ls hl => ?_)
          refine lv_goto (tgt := 37) hx hb dX9_goesOn_107 (by decide) ?_
          exact kh37 S6 a0 1 _ _ _ _ _ p_a0 P (lv_sub hl [1, 0] rfl) (by omega) (by omega) hw
    · have hw := hw.2 hc
      refine lv_aload_n hx hb dX9_goesOn_66 rfl (lv_at hl 0 rfl) ?_
      refine cl_v C P (run_V C P hl.1 (kd := 9) (met_X9_begins (CF_n C) G H.size _ _ S1 a0 p_a0 hw) p_a0 (by decide) rfl q_1519 q_1521 q_p41 q_10 q_1522 cd_X9_begins ⟨(Nat.le_of_ble_eq_true rfl), (Nat.le_of_ble_eq_true rfl)⟩ rfl rfl (As := []) (rest := []) rfl rfl (Nat.le_of_ble_eq_true rfl) dX9_goesOn_67 ⟨by show cells + 0 ≤ 0; omega, by show slots + 0 ≤ 0; omega⟩) (kx_out C hex (fun _ _ _ h => h) (by omega) (by omega)) (fun S8 H locs P hE hw => ?_)
      have p_a0 : pI S8 9 a0 := pI_x hE p_a0
      refine lv_goto (tgt := 37) hx hb dX9_goesOn_70 (by decide) ?_
      exact kh37 S8 a0 y2 _ _ _ _ _ p_a0 P (lv_sub hl [0, 1] rfl) (by omega) (by omega) hw
def lX9_goesOn_37 (Q : MS → Prop) (QX : String → MS → Prop) : Nat → MS → Nat → Int32 → Prop
  | 0 => fun _ _ _ => False
  | n + 1 => fun S a0 y2 => wX9_goesOn_37 Q QX (lX9_goesOn_37 Q QX n) S a0 y2
theorem tlX9_goesOn_37 {p : Program} {l : Launch} {e : Env} {s : State} {m : MethodId} {args : Array Value} {below : List Frame} {meth : Method} {c : Code} {G : GP} {A : Nat → Prop} {S0 : MS} (C : CF p l s m args meth c "SkirmishGridModel" cX9_goesOn 3 G A) (hr : meth.sig.returnType = none) (hex : ∀ x ∈ c.exceptionTable.toList, False) (Q : MS → Prop) (QX : String → MS → Prop) : ∀ (n : Nat), ∀ (S : MS) (a0 : Nat) (y2 : Int32) (cells slots : Nat) (H : Heap) (locs : List Loc) (ls : Array Slot), pI S 9 a0 → PW G A s H locs S0 S → lv_has ls 3 [(0, .ref a0), (2, .int y2)] → cells + 0 ≤ 0 → slots + 0 ≤ 0 → lX9_goesOn_37 Q QX n S a0 y2 → W p l e rmX9_goesOn s m args below meth c H locs cells slots (vx_MQ below (QV G S0 A Q) (XX G S0 A QX) args s 0 0 A) (F0 m 37 ls []) := by
  intro n
  induction n with
  | zero => intro S a0 y2 cells slots H locs ls p_a0 P hl hcc hss hw; exact hw.elim
  | succ n ih => intro S a0 y2 cells slots H locs ls p_a0 P hl hcc hss hw; exact tX9_goesOn_37 C hr hex Q QX (lX9_goesOn_37 Q QX n) ih S a0 y2 p_a0 P hl hcc hss hw
def wX9_goesOn_27 (Q : MS → Prop) (QX : String → MS → Prop) (S : MS) (a0 : Nat) (z0 : Int32) : Prop := (∃ a1, mR S a0 1 = some a1 ∧ (vp_in 166 (mN S a1) ∧ (∀ S2, S2 = (sI S a1 (166 : Int32).toNatClampNeg (-1)) → (∃ n, lX9_goesOn_37 Q QX n S2 a0 z0))))
set_option maxHeartbeats 4000000 in
set_option maxRecDepth 100000 in
theorem tX9_goesOn_27 {p : Program} {l : Launch} {e : Env} {s : State} {m : MethodId} {args : Array Value} {below : List Frame} {meth : Method} {c : Code} {H : Heap} {locs : List Loc} {cells slots : Nat} {G : GP} {A : Nat → Prop} {S0 : MS} {ls : Array Slot} (C : CF p l s m args meth c "SkirmishGridModel" cX9_goesOn 3 G A) (hr : meth.sig.returnType = none) (hex : ∀ x ∈ c.exceptionTable.toList, False) (Q : MS → Prop) (QX : String → MS → Prop) (S : MS) (a0 : Nat) (z0 : Int32) (p_a0 : pI S 9 a0) (P : PW G A s H locs S0 S) (hl : lv_has ls 3 [(0, .ref a0)]) (hcc : cells + 0 ≤ 0) (hss : slots + 0 ≤ 0) (hw : wX9_goesOn_27 Q QX S a0 z0) : W p l e rmX9_goesOn s m args below meth c H locs cells slots (vx_MQ below (QV G S0 A Q) (XX G S0 A QX) args s 0 0 A) (F0 m 27 ls [.int z0]) := by
  have hx := CF_x C
  have hb := CF_b C
  unfold wX9_goesOn_27 at hw
  refine lv_istore_n (lv' := [(2, .int z0), (0, .ref a0)]) hx hb dX9_goesOn_27 rfl hl (by decide) rfl (fun ls hl => ?_)
  refine lv_aload_n hx hb dX9_goesOn_28 rfl (lv_at hl 1 rfl) ?_
  obtain ⟨a1, e1, hw⟩ := hw
  have p_a1 : pI S 12 a1 := wf_r P.2.2.2.1 p_a0 e1
  refine gf_9_1 C P p_a0 e1 q_1306 dX9_goesOn_29 ?_
  refine lv_sipush (v := 166) hx hb dX9_goesOn_32 (by decide) ?_
  refine lv_iconst (v := (-1)) hx hb dX9_goesOn_35 (by decide) ?_
  obtain ⟨h1, hw⟩ := hw
  refine rs_i C P p_a1 h1 dX9_goesOn_36 (fun H locs P => ?_)
  obtain ⟨S2, hS⟩ : ∃ z, z = (sI S a1 (166 : Int32).toNatClampNeg (-1)) := ⟨_, rfl⟩
  have P : PW G A s H locs S0 S2 := by rw [hS]; exact P
  have p_a0 : pI S2 9 a0 := by rw [hS]; exact pI_x ext_sI p_a0
  have p_a1 : pI S2 12 a1 := by rw [hS]; exact pI_x ext_sI p_a1
  have hw := hw S2 hS
  obtain ⟨n, hw⟩ := hw
  exact tlX9_goesOn_37 C hr hex Q QX n S2 a0 z0 _ _ _ _ _ p_a0 P (lv_sub hl [1, 0] rfl) (by omega) (by omega) hw
def wX9_goesOn_0 (Q : MS → Prop) (QX : String → MS → Prop) (S : MS) (a0 : Nat) (x1 : Int32) : Prop := (∀ S1, S1 = (sI S a0 16 x1) → (∃ a2, mR S1 a0 1 = some a2 ∧ (vp_in 167 (mN S1 a2) ∧ (∀ S3, S3 = (sI S1 a2 (167 : Int32).toNatClampNeg 0) → wp_X9_conditions (fun r5 S4 => ((¬ r5 = 1 → wX9_goesOn_27 Q QX S4 a0 0) ∧ (r5 = 1 → wX9_goesOn_27 Q QX S4 a0 1))) QX S3 a0))))
set_option maxHeartbeats 4000000 in
set_option maxRecDepth 100000 in
theorem tX9_goesOn_0 {p : Program} {l : Launch} {e : Env} {s : State} {m : MethodId} {args : Array Value} {below : List Frame} {meth : Method} {c : Code} {H : Heap} {locs : List Loc} {cells slots : Nat} {G : GP} {A : Nat → Prop} {S0 : MS} {ls : Array Slot} (C : CF p l s m args meth c "SkirmishGridModel" cX9_goesOn 3 G A) (hr : meth.sig.returnType = none) (hex : ∀ x ∈ c.exceptionTable.toList, False) (Q : MS → Prop) (QX : String → MS → Prop) (S : MS) (a0 : Nat) (x1 : Int32) (p_a0 : pI S 9 a0) (P : PW G A s H locs S0 S) (hl : lv_has ls 3 [(0, .ref a0), (1, .int x1)]) (hcc : cells + 0 ≤ 0) (hss : slots + 0 ≤ 0) (hw : wX9_goesOn_0 Q QX S a0 x1) : W p l e rmX9_goesOn s m args below meth c H locs cells slots (vx_MQ below (QV G S0 A Q) (XX G S0 A QX) args s 0 0 A) (F0 m 0 ls []) := by
  have hx := CF_x C
  have hb := CF_b C
  unfold wX9_goesOn_0 at hw
  refine lv_aload_n hx hb dX9_goesOn_0 rfl (lv_at hl 0 rfl) ?_
  refine lv_iload_n hx hb dX9_goesOn_1 rfl (lv_at hl 1 rfl) ?_
  refine pf_9_16 C P p_a0 q_1321 dX9_goesOn_2 (fun H locs P => ?_)
  obtain ⟨S1, hS⟩ : ∃ z, z = (sI S a0 16 x1) := ⟨_, rfl⟩
  have P : PW G A s H locs S0 S1 := by rw [hS]; exact P
  have p_a0 : pI S1 9 a0 := by rw [hS]; exact pI_x ext_sI p_a0
  have hw := hw S1 hS
  refine lv_aload_n hx hb dX9_goesOn_5 rfl (lv_at hl 0 rfl) ?_
  obtain ⟨a2, e1, hw⟩ := hw
  have p_a2 : pI S1 12 a2 := wf_r P.2.2.2.1 p_a0 e1
  refine gf_9_1 C P p_a0 e1 q_1306 dX9_goesOn_6 ?_
  refine lv_sipush (v := 167) hx hb dX9_goesOn_9 (by decide) ?_
  refine lv_iconst (v := 0) hx hb dX9_goesOn_12 (by decide) ?_
  obtain ⟨h1, hw⟩ := hw
  refine rs_i C P p_a2 h1 dX9_goesOn_13 (fun H locs P => ?_)
  obtain ⟨S3, hS⟩ : ∃ z, z = (sI S1 a2 (167 : Int32).toNatClampNeg 0) := ⟨_, rfl⟩
  have P : PW G A s H locs S0 S3 := by rw [hS]; exact P
  have p_a0 : pI S3 9 a0 := by rw [hS]; exact pI_x ext_sI p_a0
  have p_a2 : pI S3 12 a2 := by rw [hS]; exact pI_x ext_sI p_a2
  have hw := hw S3 hS
  refine lv_aload_n hx hb dX9_goesOn_14 rfl (lv_at hl 0 rfl) ?_
  refine cl_i C P (run_V C P hl.1 (kd := 9) (met_X9_conditions (CF_n C) G H.size _ _ S3 a0 p_a0 hw) p_a0 (by decide) rfl q_1488 q_1490 q_p38 q_10 q_1491 cd_X9_conditions ⟨(Nat.le_of_ble_eq_true rfl), (Nat.le_of_ble_eq_true rfl)⟩ rfl rfl (As := []) (rest := []) rfl rfl (Nat.le_of_ble_eq_true rfl) dX9_goesOn_15 ⟨by show cells + 0 ≤ 0; omega, by show slots + 0 ≤ 0; omega⟩) (kx_out C hex (fun _ _ _ h => h) (by omega) (by omega)) (fun r5 S4 H locs P hE hw => ?_)
  have p_a0 : pI S4 9 a0 := pI_x hE p_a0
  refine lv_iconst (v := 1) hx hb dX9_goesOn_18 (by decide) ?_
  refine lv_icmp_ne (tgt := 26) hx hb dX9_goesOn_19 (by decide) (fun hc => ?_) (fun hc => ?_)
  · have hw := hw.1 hc
    refine lv_iconst (v := 0) hx hb dX9_goesOn_26 (by decide) ?_
    exact tX9_goesOn_27 C hr hex Q QX S4 a0 0 p_a0 P (lv_sub hl [0] rfl) (by omega) (by omega) hw
  · have hw := hw.2 hc
    refine lv_iconst (v := 1) hx hb dX9_goesOn_22 (by decide) ?_
    refine lv_goto (tgt := 27) hx hb dX9_goesOn_23 (by decide) ?_
    exact tX9_goesOn_27 C hr hex Q QX S4 a0 1 p_a0 P (lv_sub hl [0] rfl) (by omega) (by omega) hw
def wp_X9_goesOn (Q : MS → Prop) (QX : String → MS → Prop) (S : MS) (a0 : Nat) (x1 : Int32) : Prop := wX9_goesOn_0 Q QX S a0 x1
set_option maxHeartbeats 4000000 in
set_option maxRecDepth 100000 in
theorem met_X9_goesOn {l : Launch} (hst : l.stackTraces = false) (G : GP) (sz : Nat) (Q : MS → Prop) (QX : String → MS → Prop) (S : MS) (a0 : Nat) (x1 : Int32) (p_a0 : pI S 9 a0) (hw : wp_X9_goesOn Q QX S a0 x1) : vx_Met l yX9_goesOn (.code yX9_goesOn cX9_goesOn 3 none :: GW) rmX9_goesOn (va_Pc [.ref a0, .int x1] (PR G S sz)) (QV G S (FA G S sz) Q) (XX G S (FA G S sz) QX) 0 0 (FA G S sz) := by
  refine st_m (by decide +kernel) hst (fun p e s m below meth c C hr hnm hex P => ?_)
  refine en_m (Nat.le_of_ble_eq_true rfl) (lv := [(0, .ref a0), (1, .int x1)]) rfl (fun ls hl => ?_)
  have C : CF p l s m _ meth c "SkirmishGridModel" cX9_goesOn 3 G (FA G S sz) := C
  exact tX9_goesOn_0 C hr hex Q QX S a0 x1 p_a0 P hl (by omega) (by omega) hw
theorem cd_X9_goesOn : yX9_goesOn.cls = RX9 ∧ yX9_goesOn.cls ≠ "java/lang/invoke/MethodHandle" ∧ yX9_goesOn.cls ≠ "java/lang/invoke/VarHandle" ∧ (parseMethodDescriptor yX9_goesOn.desc).map (fun d => d.parameters.length) = some 1 := by decide +kernel
abbrev rmX9_settles : Room := { frames := 5, cells := 0, slots := 0, locals := 110 }
def wX9_settles_0 (Q : MS → Prop) (QX : String → MS → Prop) (S : MS) (a0 : Nat) : Prop := wp_X9_conditions (fun r2 S1 => ((r2 = 1 → (∃ a3, mR S1 a0 1 = some a3 ∧ (vp_in 166 (mN S1 a3) ∧ wp_X9_lives (fun r5 S4 => ((¬ r5 = 0 → Q S4) ∧ (r5 = 0 → wp_X9_placeOfTurn (fun r7 S6 => wp_X9_goesOn (fun S8 => Q S8) QX S6 a0 r7) QX S4 a0))) QX S1 a0 (mI S1 a3 (166 : Int32).toNatClampNeg)))) ∧ (¬ r2 = 1 → (∃ a9, mR S1 a0 1 = some a9 ∧ (vp_in 166 (mN S1 a9) ∧ (∀ S10, S10 = (sI S1 a9 (166 : Int32).toNatClampNeg (-1)) → (∃ a11, mR S10 a0 1 = some a11 ∧ (vp_in 167 (mN S10 a11) ∧ (∀ S12, S12 = (sI S10 a11 (167 : Int32).toNatClampNeg 0) → Q S12))))))))) QX S a0
set_option maxHeartbeats 4000000 in
set_option maxRecDepth 100000 in
theorem tX9_settles_0 {p : Program} {l : Launch} {e : Env} {s : State} {m : MethodId} {args : Array Value} {below : List Frame} {meth : Method} {c : Code} {H : Heap} {locs : List Loc} {cells slots : Nat} {G : GP} {A : Nat → Prop} {S0 : MS} {ls : Array Slot} (C : CF p l s m args meth c "SkirmishGridModel" cX9_settles 1 G A) (hr : meth.sig.returnType = none) (hex : ∀ x ∈ c.exceptionTable.toList, False) (Q : MS → Prop) (QX : String → MS → Prop) (S : MS) (a0 : Nat) (p_a0 : pI S 9 a0) (P : PW G A s H locs S0 S) (hl : lv_has ls 1 [(0, .ref a0)]) (hcc : cells + 0 ≤ 0) (hss : slots + 0 ≤ 0) (hw : wX9_settles_0 Q QX S a0) : W p l e rmX9_settles s m args below meth c H locs cells slots (vx_MQ below (QV G S0 A Q) (XX G S0 A QX) args s 0 0 A) (F0 m 0 ls []) := by
  have hx := CF_x C
  have hb := CF_b C
  unfold wX9_settles_0 at hw
  refine lv_aload_n hx hb dX9_settles_0 rfl (lv_at hl 0 rfl) ?_
  refine cl_i C P (run_V C P hl.1 (kd := 9) (met_X9_conditions (CF_n C) G H.size _ _ S a0 p_a0 hw) p_a0 (by decide) rfl q_1488 q_1490 q_p38 q_10 q_1491 cd_X9_conditions ⟨(Nat.le_of_ble_eq_true rfl), (Nat.le_of_ble_eq_true rfl)⟩ rfl rfl (As := []) (rest := []) rfl rfl (Nat.le_of_ble_eq_true rfl) dX9_settles_1 ⟨by show cells + 0 ≤ 0; omega, by show slots + 0 ≤ 0; omega⟩) (kx_out C hex (fun _ _ _ h => h) (by omega) (by omega)) (fun r2 S1 H locs P hE hw => ?_)
  have p_a0 : pI S1 9 a0 := pI_x hE p_a0
  refine lv_iconst (v := 1) hx hb dX9_settles_4 (by decide) ?_
  refine lv_icmp_eq (tgt := 29) hx hb dX9_settles_5 (by decide) (fun hc => ?_) (fun hc => ?_)
  · have hw := hw.1 hc
    refine lv_aload_n hx hb dX9_settles_29 rfl (lv_at hl 0 rfl) ?_
    refine lv_aload_n hx hb dX9_settles_30 rfl (lv_at hl 0 rfl) ?_
    obtain ⟨a3, e1, hw⟩ := hw
    have p_a3 : pI S1 12 a3 := wf_r P.2.2.2.1 p_a0 e1
    refine gf_9_1 C P p_a0 e1 q_1306 dX9_settles_31 ?_
    refine lv_sipush (v := 166) hx hb dX9_settles_34 (by decide) ?_
    obtain ⟨h1, hw⟩ := hw
    refine ra_i C P p_a3 h1 dX9_settles_37 ?_
    refine cl_i C P (run_V C P hl.1 (kd := 9) (met_X9_lives (CF_n C) G H.size _ _ S1 a0 (mI S1 a3 (166 : Int32).toNatClampNeg) p_a0 hw) p_a0 (by decide) rfl q_1453 q_1455 q_p33 q_10 q_1456 cd_X9_lives ⟨(Nat.le_of_ble_eq_true rfl), (Nat.le_of_ble_eq_true rfl)⟩ rfl rfl (As := [.int (mI S1 a3 (166 : Int32).toNatClampNeg)]) (rest := []) rfl rfl (Nat.le_of_ble_eq_true rfl) dX9_settles_38 ⟨by show cells + 0 ≤ 0; omega, by show slots + 0 ≤ 0; omega⟩) (kx_out C hex (fun _ _ _ h => h) (by omega) (by omega)) (fun r5 S4 H locs P hE hw => ?_)
    have p_a0 : pI S4 9 a0 := pI_x hE p_a0
    refine lv_if_ne (tgt := 52) hx hb dX9_settles_41 (by decide) (fun hc => ?_) (fun hc => ?_)
    · have hw := hw.1 hc
      exact e_v C hr P hw (by omega) (by omega) dX9_settles_52
    · have hw := hw.2 hc
      refine lv_aload_n hx hb dX9_settles_44 rfl (lv_at hl 0 rfl) ?_
      refine lv_aload_n hx hb dX9_settles_45 rfl (lv_at hl 0 rfl) ?_
      refine cl_i C P (run_V C P hl.1 (kd := 9) (met_X9_placeOfTurn (CF_n C) G H.size _ _ S4 a0 p_a0 hw) p_a0 (by decide) rfl q_1662 q_1664 q_p70 q_10 q_1665 cd_X9_placeOfTurn ⟨(Nat.le_of_ble_eq_true rfl), (Nat.le_of_ble_eq_true rfl)⟩ rfl rfl (As := []) (rest := [.ref a0]) rfl rfl (Nat.le_of_ble_eq_true rfl) dX9_settles_46 ⟨by show cells + 0 ≤ 0; omega, by show slots + 0 ≤ 0; omega⟩) (kx_out C hex (fun _ _ _ h => h) (by omega) (by omega)) (fun r7 S6 H locs P hE hw => ?_)
      have p_a0 : pI S6 9 a0 := pI_x hE p_a0
      refine cl_v C P (run_V C P hl.1 (kd := 9) (met_X9_goesOn (CF_n C) G H.size _ _ S6 a0 r7 p_a0 hw) p_a0 (by decide) rfl q_1536 q_1538 q_p45 q_10 q_1539 cd_X9_goesOn ⟨(Nat.le_of_ble_eq_true rfl), (Nat.le_of_ble_eq_true rfl)⟩ rfl rfl (As := [.int r7]) (rest := []) rfl rfl (Nat.le_of_ble_eq_true rfl) dX9_settles_49 ⟨by show cells + 0 ≤ 0; omega, by show slots + 0 ≤ 0; omega⟩) (kx_out C hex (fun _ _ _ h => h) (by omega) (by omega)) (fun S8 H locs P hE hw => ?_)
      have p_a0 : pI S8 9 a0 := pI_x hE p_a0
      exact e_v C hr P hw (by omega) (by omega) dX9_settles_52
  · have hw := hw.2 hc
    refine lv_aload_n hx hb dX9_settles_8 rfl (lv_at hl 0 rfl) ?_
    obtain ⟨a9, e1, hw⟩ := hw
    have p_a9 : pI S1 12 a9 := wf_r P.2.2.2.1 p_a0 e1
    refine gf_9_1 C P p_a0 e1 q_1306 dX9_settles_9 ?_
    refine lv_sipush (v := 166) hx hb dX9_settles_12 (by decide) ?_
    refine lv_iconst (v := (-1)) hx hb dX9_settles_15 (by decide) ?_
    obtain ⟨h1, hw⟩ := hw
    refine rs_i C P p_a9 h1 dX9_settles_16 (fun H locs P => ?_)
    obtain ⟨S10, hS⟩ : ∃ z, z = (sI S1 a9 (166 : Int32).toNatClampNeg (-1)) := ⟨_, rfl⟩
    have P : PW G A s H locs S0 S10 := by rw [hS]; exact P
    have p_a0 : pI S10 9 a0 := by rw [hS]; exact pI_x ext_sI p_a0
    have p_a9 : pI S10 12 a9 := by rw [hS]; exact pI_x ext_sI p_a9
    have hw := hw S10 hS
    refine lv_aload_n hx hb dX9_settles_17 rfl (lv_at hl 0 rfl) ?_
    obtain ⟨a11, e1, hw⟩ := hw
    have p_a11 : pI S10 12 a11 := wf_r P.2.2.2.1 p_a0 e1
    refine gf_9_1 C P p_a0 e1 q_1306 dX9_settles_18 ?_
    refine lv_sipush (v := 167) hx hb dX9_settles_21 (by decide) ?_
    refine lv_iconst (v := 0) hx hb dX9_settles_24 (by decide) ?_
    obtain ⟨h1, hw⟩ := hw
    refine rs_i C P p_a11 h1 dX9_settles_25 (fun H locs P => ?_)
    obtain ⟨S12, hS⟩ : ∃ z, z = (sI S10 a11 (167 : Int32).toNatClampNeg 0) := ⟨_, rfl⟩
    have P : PW G A s H locs S0 S12 := by rw [hS]; exact P
    have p_a11 : pI S12 12 a11 := by rw [hS]; exact pI_x ext_sI p_a11
    have hw := hw S12 hS
    refine lv_goto (tgt := 52) hx hb dX9_settles_26 (by decide) ?_
    exact e_v C hr P hw (by omega) (by omega) dX9_settles_52
def wp_X9_settles (Q : MS → Prop) (QX : String → MS → Prop) (S : MS) (a0 : Nat) : Prop := wX9_settles_0 Q QX S a0
set_option maxHeartbeats 4000000 in
set_option maxRecDepth 100000 in
theorem met_X9_settles {l : Launch} (hst : l.stackTraces = false) (G : GP) (sz : Nat) (Q : MS → Prop) (QX : String → MS → Prop) (S : MS) (a0 : Nat) (p_a0 : pI S 9 a0) (hw : wp_X9_settles Q QX S a0) : vx_Met l yX9_settles (.code yX9_settles cX9_settles 1 none :: GW) rmX9_settles (va_Pc [.ref a0] (PR G S sz)) (QV G S (FA G S sz) Q) (XX G S (FA G S sz) QX) 0 0 (FA G S sz) := by
  refine st_m (by decide +kernel) hst (fun p e s m below meth c C hr hnm hex P => ?_)
  refine en_m (Nat.le_of_ble_eq_true rfl) (lv := [(0, .ref a0)]) rfl (fun ls hl => ?_)
  have C : CF p l s m _ meth c "SkirmishGridModel" cX9_settles 1 G (FA G S sz) := C
  exact tX9_settles_0 C hr hex Q QX S a0 p_a0 P hl (by omega) (by omega) hw
theorem cd_X9_settles : yX9_settles.cls = RX9 ∧ yX9_settles.cls ≠ "java/lang/invoke/MethodHandle" ∧ yX9_settles.cls ≠ "java/lang/invoke/VarHandle" ∧ (parseMethodDescriptor yX9_settles.desc).map (fun d => d.parameters.length) = some 0 := by decide +kernel
abbrev rmX9_fights : Room := { frames := 5, cells := 0, slots := 0, locals := 110 }
def wX9_fights_0 (Q : MS → Prop) (QX : String → MS → Prop) (S : MS) (a0 : Nat) : Prop := wp_X9_begins (fun S1 => wp_X9_goesOn (fun S2 => Q S2) QX S1 a0 (-1)) QX S a0
set_option maxHeartbeats 4000000 in
set_option maxRecDepth 100000 in
theorem tX9_fights_0 {p : Program} {l : Launch} {e : Env} {s : State} {m : MethodId} {args : Array Value} {below : List Frame} {meth : Method} {c : Code} {H : Heap} {locs : List Loc} {cells slots : Nat} {G : GP} {A : Nat → Prop} {S0 : MS} {ls : Array Slot} (C : CF p l s m args meth c "SkirmishGridModel" cX9_fights 1 G A) (hr : meth.sig.returnType = none) (hex : ∀ x ∈ c.exceptionTable.toList, False) (Q : MS → Prop) (QX : String → MS → Prop) (S : MS) (a0 : Nat) (p_a0 : pI S 9 a0) (P : PW G A s H locs S0 S) (hl : lv_has ls 1 [(0, .ref a0)]) (hcc : cells + 0 ≤ 0) (hss : slots + 0 ≤ 0) (hw : wX9_fights_0 Q QX S a0) : W p l e rmX9_fights s m args below meth c H locs cells slots (vx_MQ below (QV G S0 A Q) (XX G S0 A QX) args s 0 0 A) (F0 m 0 ls []) := by
  have hx := CF_x C
  have hb := CF_b C
  unfold wX9_fights_0 at hw
  refine lv_aload_n hx hb dX9_fights_0 rfl (lv_at hl 0 rfl) ?_
  refine cl_v C P (run_V C P hl.1 (kd := 9) (met_X9_begins (CF_n C) G H.size _ _ S a0 p_a0 hw) p_a0 (by decide) rfl q_1519 q_1521 q_p41 q_10 q_1522 cd_X9_begins ⟨(Nat.le_of_ble_eq_true rfl), (Nat.le_of_ble_eq_true rfl)⟩ rfl rfl (As := []) (rest := []) rfl rfl (Nat.le_of_ble_eq_true rfl) dX9_fights_1 ⟨by show cells + 0 ≤ 0; omega, by show slots + 0 ≤ 0; omega⟩) (kx_out C hex (fun _ _ _ h => h) (by omega) (by omega)) (fun S1 H locs P hE hw => ?_)
  have p_a0 : pI S1 9 a0 := pI_x hE p_a0
  refine lv_aload_n hx hb dX9_fights_4 rfl (lv_at hl 0 rfl) ?_
  refine lv_iconst (v := (-1)) hx hb dX9_fights_5 (by decide) ?_
  refine cl_v C P (run_V C P hl.1 (kd := 9) (met_X9_goesOn (CF_n C) G H.size _ _ S1 a0 (-1) p_a0 hw) p_a0 (by decide) rfl q_1536 q_1538 q_p45 q_10 q_1539 cd_X9_goesOn ⟨(Nat.le_of_ble_eq_true rfl), (Nat.le_of_ble_eq_true rfl)⟩ rfl rfl (As := [.int (-1)]) (rest := []) rfl rfl (Nat.le_of_ble_eq_true rfl) dX9_fights_6 ⟨by show cells + 0 ≤ 0; omega, by show slots + 0 ≤ 0; omega⟩) (kx_out C hex (fun _ _ _ h => h) (by omega) (by omega)) (fun S2 H locs P hE hw => ?_)
  have p_a0 : pI S2 9 a0 := pI_x hE p_a0
  exact e_v C hr P hw (by omega) (by omega) dX9_fights_9
def wp_X9_fights (Q : MS → Prop) (QX : String → MS → Prop) (S : MS) (a0 : Nat) : Prop := wX9_fights_0 Q QX S a0
set_option maxHeartbeats 4000000 in
set_option maxRecDepth 100000 in
theorem met_X9_fights {l : Launch} (hst : l.stackTraces = false) (G : GP) (sz : Nat) (Q : MS → Prop) (QX : String → MS → Prop) (S : MS) (a0 : Nat) (p_a0 : pI S 9 a0) (hw : wp_X9_fights Q QX S a0) : vx_Met l yX9_fights (.code yX9_fights cX9_fights 1 none :: GW) rmX9_fights (va_Pc [.ref a0] (PR G S sz)) (QV G S (FA G S sz) Q) (XX G S (FA G S sz) QX) 0 0 (FA G S sz) := by
  refine st_m (by decide +kernel) hst (fun p e s m below meth c C hr hnm hex P => ?_)
  refine en_m (Nat.le_of_ble_eq_true rfl) (lv := [(0, .ref a0)]) rfl (fun ls hl => ?_)
  have C : CF p l s m _ meth c "SkirmishGridModel" cX9_fights 1 G (FA G S sz) := C
  exact tX9_fights_0 C hr hex Q QX S a0 p_a0 P hl (by omega) (by omega) hw
theorem cd_X9_fights : yX9_fights.cls = RX9 ∧ yX9_fights.cls ≠ "java/lang/invoke/MethodHandle" ∧ yX9_fights.cls ≠ "java/lang/invoke/VarHandle" ∧ (parseMethodDescriptor yX9_fights.desc).map (fun d => d.parameters.length) = some 0 := by decide +kernel
abbrev rmX9_begin : Room := { frames := 6, cells := 0, slots := 0, locals := 130 }
def wX9_begin_29 (Q : Int32 → MS → Prop) (QX : String → MS → Prop) (S : MS) (a0 : Nat) (z0 : Int32) (w1 : Nat) : Prop := (∀ S1, S1 = (sI S w1 0 z0) → ((¬ (mI S1 a0 0) = 1 → (∃ a2, mR S1 a0 1 = some a2 ∧ (∃ a3, mR S1 a0 2 = some a3 ∧ wp_X9_copies (fun S4 => wp_X9_fights (fun S5 => (∃ a6, mR S5 a0 1 = some a6 ∧ (vp_in 166 (mN S5 a6) ∧ Q (mI S5 a6 (166 : Int32).toNatClampNeg) S5))) QX S4 a0) QX S1 a2 a3 290))) ∧ ((mI S1 a0 0) = 1 → Q 0 S1)))
set_option maxHeartbeats 4000000 in
set_option maxRecDepth 100000 in
theorem tX9_begin_29 {p : Program} {l : Launch} {e : Env} {s : State} {m : MethodId} {args : Array Value} {below : List Frame} {meth : Method} {c : Code} {H : Heap} {locs : List Loc} {cells slots : Nat} {G : GP} {A : Nat → Prop} {S0 : MS} {ls : Array Slot} (C : CF p l s m args meth c "SkirmishGridModel" cX9_begin 1 G A) (hr : meth.sig.returnType = (some .int)) (hex : ∀ x ∈ c.exceptionTable.toList, False) (Q : Int32 → MS → Prop) (QX : String → MS → Prop) (S : MS) (a0 : Nat) (z0 : Int32) (w1 : Nat) (p_a0 : pI S 9 a0) (p_w1 : pI S 9 w1) (P : PW G A s H locs S0 S) (hl : lv_has ls 1 [(0, .ref a0)]) (hcc : cells + 0 ≤ 0) (hss : slots + 0 ≤ 0) (hw : wX9_begin_29 Q QX S a0 z0 w1) : W p l e rmX9_begin s m args below meth c H locs cells slots (vx_MQ below (QI G S0 A Q) (XX G S0 A QX) args s 0 0 A) (F0 m 29 ls [.int z0, .ref w1]) := by
  have hx := CF_x C
  have hb := CF_b C
  unfold wX9_begin_29 at hw
  refine pf_9_0 C P p_w1 q_1305 dX9_begin_29 (fun H locs P => ?_)
  obtain ⟨S1, hS⟩ : ∃ z, z = (sI S w1 0 z0) := ⟨_, rfl⟩
  have P : PW G A s H locs S0 S1 := by rw [hS]; exact P
  have p_a0 : pI S1 9 a0 := by rw [hS]; exact pI_x ext_sI p_a0
  have p_w1 : pI S1 9 w1 := by rw [hS]; exact pI_x ext_sI p_w1
  have hw := hw S1 hS
  refine lv_aload_n hx hb dX9_begin_32 rfl (lv_at hl 0 rfl) ?_
  refine gf_9_0 C P p_a0 q_1305 dX9_begin_33 ?_
  refine lv_iconst (v := 1) hx hb dX9_begin_36 (by decide) ?_
  refine lv_icmp_ne (tgt := 42) hx hb dX9_begin_37 (by decide) (fun hc => ?_) (fun hc => ?_)
  · have hw := hw.1 hc
    refine lv_aload_n hx hb dX9_begin_42 rfl (lv_at hl 0 rfl) ?_
    obtain ⟨a2, e1, hw⟩ := hw
    have p_a2 : pI S1 12 a2 := wf_r P.2.2.2.1 p_a0 e1
    refine gf_9_1 C P p_a0 e1 q_1306 dX9_begin_43 ?_
    refine lv_aload_n hx hb dX9_begin_46 rfl (lv_at hl 0 rfl) ?_
    obtain ⟨a3, e1, hw⟩ := hw
    have p_a3 : pI S1 12 a3 := wf_r P.2.2.2.1 p_a0 e1
    refine gf_9_2 C P p_a0 e1 q_1307 dX9_begin_47 ?_
    refine lv_sipush (v := 290) hx hb dX9_begin_50 (by decide) ?_
    refine cl_v C P (run_S C P hl.1 (met_X9_copies (CF_n C) G H.size _ _ S1 a2 a3 290 p_a2 p_a3 hw) q_1512 q_1513 q_10 q_1514 cd_X9_copies.2 ⟨(Nat.le_of_ble_eq_true rfl), (Nat.le_of_ble_eq_true rfl)⟩ rfl rfl (As := [.ref a2, .ref a3, .int 290]) (rest := []) rfl rfl (Nat.le_of_ble_eq_true rfl) dX9_begin_53 ⟨by show cells + 0 ≤ 0; omega, by show slots + 0 ≤ 0; omega⟩) (kx_out C hex (fun _ _ _ h => h) (by omega) (by omega)) (fun S4 H locs P hE hw => ?_)
    have p_a0 : pI S4 9 a0 := pI_x hE p_a0
    have p_a2 : pI S4 12 a2 := pI_x hE p_a2
    have p_a3 : pI S4 12 a3 := pI_x hE p_a3
    refine lv_aload_n hx hb dX9_begin_56 rfl (lv_at hl 0 rfl) ?_
    refine cl_v C P (run_V C P hl.1 (kd := 9) (met_X9_fights (CF_n C) G H.size _ _ S4 a0 p_a0 hw) p_a0 (by decide) rfl q_1515 q_1517 q_p40 q_10 q_1518 cd_X9_fights ⟨(Nat.le_of_ble_eq_true rfl), (Nat.le_of_ble_eq_true rfl)⟩ rfl rfl (As := []) (rest := []) rfl rfl (Nat.le_of_ble_eq_true rfl) dX9_begin_57 ⟨by show cells + 0 ≤ 0; omega, by show slots + 0 ≤ 0; omega⟩) (kx_out C hex (fun _ _ _ h => h) (by omega) (by omega)) (fun S5 H locs P hE hw => ?_)
    have p_a0 : pI S5 9 a0 := pI_x hE p_a0
    refine lv_aload_n hx hb dX9_begin_60 rfl (lv_at hl 0 rfl) ?_
    obtain ⟨a6, e1, hw⟩ := hw
    have p_a6 : pI S5 12 a6 := wf_r P.2.2.2.1 p_a0 e1
    refine gf_9_1 C P p_a0 e1 q_1306 dX9_begin_61 ?_
    refine lv_sipush (v := 166) hx hb dX9_begin_64 (by decide) ?_
    obtain ⟨h1, hw⟩ := hw
    refine ra_i C P p_a6 h1 dX9_begin_67 ?_
    exact e_i C hr rfl P hw (by omega) (by omega) dX9_begin_68
  · have hw := hw.2 hc
    refine lv_iconst (v := 0) hx hb dX9_begin_40 (by decide) ?_
    exact e_i C hr rfl P hw (by omega) (by omega) dX9_begin_41
def wX9_begin_24 (Q : Int32 → MS → Prop) (QX : String → MS → Prop) (S : MS) (a0 : Nat) (w0 : Nat) : Prop := wX9_begin_29 Q QX S a0 1 w0
set_option maxHeartbeats 4000000 in
set_option maxRecDepth 100000 in
theorem tX9_begin_24 {p : Program} {l : Launch} {e : Env} {s : State} {m : MethodId} {args : Array Value} {below : List Frame} {meth : Method} {c : Code} {H : Heap} {locs : List Loc} {cells slots : Nat} {G : GP} {A : Nat → Prop} {S0 : MS} {ls : Array Slot} (C : CF p l s m args meth c "SkirmishGridModel" cX9_begin 1 G A) (hr : meth.sig.returnType = (some .int)) (hex : ∀ x ∈ c.exceptionTable.toList, False) (Q : Int32 → MS → Prop) (QX : String → MS → Prop) (S : MS) (a0 : Nat) (w0 : Nat) (p_a0 : pI S 9 a0) (p_w0 : pI S 9 w0) (P : PW G A s H locs S0 S) (hl : lv_has ls 1 [(0, .ref a0)]) (hcc : cells + 0 ≤ 0) (hss : slots + 0 ≤ 0) (hw : wX9_begin_24 Q QX S a0 w0) : W p l e rmX9_begin s m args below meth c H locs cells slots (vx_MQ below (QI G S0 A Q) (XX G S0 A QX) args s 0 0 A) (F0 m 24 ls [.ref w0]) := by
  have hx := CF_x C
  have hb := CF_b C
  unfold wX9_begin_24 at hw
  refine lv_iconst (v := 1) hx hb dX9_begin_24 (by decide) ?_
  refine lv_goto (tgt := 29) hx hb dX9_begin_25 (by decide) ?_
  exact tX9_begin_29 C hr hex Q QX S a0 1 w0 p_a0 p_w0 P (lv_sub hl [0] rfl) (by omega) (by omega) hw
def wX9_begin_0 (Q : Int32 → MS → Prop) (QX : String → MS → Prop) (S : MS) (a0 : Nat) : Prop := wp_X9_hasBegun (fun r2 S1 => ((¬ r2 = 0 → wX9_begin_24 Q QX S1 a0 a0) ∧ (r2 = 0 → wp_X9_living (fun r4 S3 => ((r4 = 0 → wX9_begin_24 Q QX S3 a0 a0) ∧ (¬ r4 = 0 → wp_X9_living (fun r6 S5 => ((¬ r6 = 0 → wX9_begin_29 Q QX S5 a0 0 a0) ∧ (r6 = 0 → wX9_begin_24 Q QX S5 a0 a0))) QX S3 a0 1))) QX S1 a0 0))) QX S a0
set_option maxHeartbeats 4000000 in
set_option maxRecDepth 100000 in
theorem tX9_begin_0 {p : Program} {l : Launch} {e : Env} {s : State} {m : MethodId} {args : Array Value} {below : List Frame} {meth : Method} {c : Code} {H : Heap} {locs : List Loc} {cells slots : Nat} {G : GP} {A : Nat → Prop} {S0 : MS} {ls : Array Slot} (C : CF p l s m args meth c "SkirmishGridModel" cX9_begin 1 G A) (hr : meth.sig.returnType = (some .int)) (hex : ∀ x ∈ c.exceptionTable.toList, False) (Q : Int32 → MS → Prop) (QX : String → MS → Prop) (S : MS) (a0 : Nat) (p_a0 : pI S 9 a0) (P : PW G A s H locs S0 S) (hl : lv_has ls 1 [(0, .ref a0)]) (hcc : cells + 0 ≤ 0) (hss : slots + 0 ≤ 0) (hw : wX9_begin_0 Q QX S a0) : W p l e rmX9_begin s m args below meth c H locs cells slots (vx_MQ below (QI G S0 A Q) (XX G S0 A QX) args s 0 0 A) (F0 m 0 ls []) := by
  have hx := CF_x C
  have hb := CF_b C
  unfold wX9_begin_0 at hw
  refine lv_aload_n hx hb dX9_begin_0 rfl (lv_at hl 0 rfl) ?_
  refine lv_aload_n hx hb dX9_begin_1 rfl (lv_at hl 0 rfl) ?_
  refine cl_i C P (run_V C P hl.1 (kd := 9) (met_X9_hasBegun (CF_n C) G H.size _ _ S a0 p_a0 hw) p_a0 (by decide) rfl q_1461 q_1463 q_p35 q_10 q_1464 cd_X9_hasBegun ⟨(Nat.le_of_ble_eq_true rfl), (Nat.le_of_ble_eq_true rfl)⟩ rfl rfl (As := []) (rest := [.ref a0]) rfl rfl (Nat.le_of_ble_eq_true rfl) dX9_begin_2 ⟨by show cells + 0 ≤ 0; omega, by show slots + 0 ≤ 0; omega⟩) (kx_out C hex (fun _ _ _ h => h) (by omega) (by omega)) (fun r2 S1 H locs P hE hw => ?_)
  have p_a0 : pI S1 9 a0 := pI_x hE p_a0
  refine lv_if_ne (tgt := 24) hx hb dX9_begin_5 (by decide) (fun hc => ?_) (fun hc => ?_)
  · have hw := hw.1 hc
    exact tX9_begin_24 C hr hex Q QX S1 a0 a0 p_a0 p_a0 P (lv_sub hl [0] rfl) (by omega) (by omega) hw
  · have hw := hw.2 hc
    refine lv_aload_n hx hb dX9_begin_8 rfl (lv_at hl 0 rfl) ?_
    refine lv_iconst (v := 0) hx hb dX9_begin_9 (by decide) ?_
    refine cl_i C P (run_V C P hl.1 (kd := 9) (met_X9_living (CF_n C) G H.size _ _ S1 a0 0 p_a0 hw) p_a0 (by decide) rfl q_1492 q_1494 q_p39 q_10 q_1495 cd_X9_living ⟨(Nat.le_of_ble_eq_true rfl), (Nat.le_of_ble_eq_true rfl)⟩ rfl rfl (As := [.int 0]) (rest := [.ref a0]) rfl rfl (Nat.le_of_ble_eq_true rfl) dX9_begin_10 ⟨by show cells + 0 ≤ 0; omega, by show slots + 0 ≤ 0; omega⟩) (kx_out C hex (fun _ _ _ h => h) (by omega) (by omega)) (fun r4 S3 H locs P hE hw => ?_)
    have p_a0 : pI S3 9 a0 := pI_x hE p_a0
    refine lv_if_eq (tgt := 24) hx hb dX9_begin_13 (by decide) (fun hc => ?_) (fun hc => ?_)
    · have hw := hw.1 hc
      exact tX9_begin_24 C hr hex Q QX S3 a0 a0 p_a0 p_a0 P (lv_sub hl [0] rfl) (by omega) (by omega) hw
    · have hw := hw.2 hc
      refine lv_aload_n hx hb dX9_begin_16 rfl (lv_at hl 0 rfl) ?_
      refine lv_iconst (v := 1) hx hb dX9_begin_17 (by decide) ?_
      refine cl_i C P (run_V C P hl.1 (kd := 9) (met_X9_living (CF_n C) G H.size _ _ S3 a0 1 p_a0 hw) p_a0 (by decide) rfl q_1492 q_1494 q_p39 q_10 q_1495 cd_X9_living ⟨(Nat.le_of_ble_eq_true rfl), (Nat.le_of_ble_eq_true rfl)⟩ rfl rfl (As := [.int 1]) (rest := [.ref a0]) rfl rfl (Nat.le_of_ble_eq_true rfl) dX9_begin_18 ⟨by show cells + 0 ≤ 0; omega, by show slots + 0 ≤ 0; omega⟩) (kx_out C hex (fun _ _ _ h => h) (by omega) (by omega)) (fun r6 S5 H locs P hE hw => ?_)
      have p_a0 : pI S5 9 a0 := pI_x hE p_a0
      refine lv_if_ne (tgt := 28) hx hb dX9_begin_21 (by decide) (fun hc => ?_) (fun hc => ?_)
      · have hw := hw.1 hc
        refine lv_iconst (v := 0) hx hb dX9_begin_28 (by decide) ?_
        exact tX9_begin_29 C hr hex Q QX S5 a0 0 a0 p_a0 p_a0 P (lv_sub hl [0] rfl) (by omega) (by omega) hw
      · have hw := hw.2 hc
        exact tX9_begin_24 C hr hex Q QX S5 a0 a0 p_a0 p_a0 P (lv_sub hl [0] rfl) (by omega) (by omega) hw
def wp_X9_begin (Q : Int32 → MS → Prop) (QX : String → MS → Prop) (S : MS) (a0 : Nat) : Prop := wX9_begin_0 Q QX S a0
set_option maxHeartbeats 4000000 in
set_option maxRecDepth 100000 in
theorem met_X9_begin {l : Launch} (hst : l.stackTraces = false) (G : GP) (sz : Nat) (Q : Int32 → MS → Prop) (QX : String → MS → Prop) (S : MS) (a0 : Nat) (p_a0 : pI S 9 a0) (hw : wp_X9_begin Q QX S a0) : vx_Met l yX9_begin (.code yX9_begin cX9_begin 1 (some .int) :: GW) rmX9_begin (va_Pc [.ref a0] (PR G S sz)) (QI G S (FA G S sz) Q) (XX G S (FA G S sz) QX) 0 0 (FA G S sz) := by
  refine st_m (by decide +kernel) hst (fun p e s m below meth c C hr hnm hex P => ?_)
  refine en_m (Nat.le_of_ble_eq_true rfl) (lv := [(0, .ref a0)]) rfl (fun ls hl => ?_)
  have C : CF p l s m _ meth c "SkirmishGridModel" cX9_begin 1 G (FA G S sz) := C
  exact tX9_begin_0 C hr hex Q QX S a0 p_a0 P hl (by omega) (by omega) hw
theorem cd_X9_begin : yX9_begin.cls = RX9 ∧ yX9_begin.cls ≠ "java/lang/invoke/MethodHandle" ∧ yX9_begin.cls ≠ "java/lang/invoke/VarHandle" ∧ (parseMethodDescriptor yX9_begin.desc).map (fun d => d.parameters.length) = some 0 := by decide +kernel
abbrev rmX9_step : Room := { frames := 1, cells := 0, slots := 0, locals := 22 }
def wX9_step_49 (Q : Int32 → MS → Prop) (QX : String → MS → Prop) (S : MS) (a0 : Nat) (y3 : Int32) (z0 : Int32) (z1 : Int32) : Prop := (∃ a1, mR S a0 1 = some a1 ∧ (vp_in 0 (mN S a1) ∧ wp_X9_isIn (fun r3 S2 => ((r3 = 0 → Q (-1) S2) ∧ (¬ r3 = 0 → (∃ a4, mR S2 a0 1 = some a4 ∧ (vp_in 1 (mN S2 a4) ∧ wp_X9_isIn (fun r6 S5 => ((r6 = 0 → Q (-1) S5) ∧ (¬ r6 = 0 → (∃ a7, mR S5 a0 1 = some a7 ∧ (vp_in 1 (mN S5 a7) ∧ Q ((y3 * (mI S5 a7 (1 : Int32).toNatClampNeg)) + (z1 + z0)) S5))))) QX S2 (z1 + z0) 0 ((mI S2 a4 (1 : Int32).toNatClampNeg) - 1)))))) QX S y3 0 ((mI S a1 (0 : Int32).toNatClampNeg) - 1)))
set_option maxHeartbeats 4000000 in
set_option maxRecDepth 100000 in
theorem tX9_step_49 {p : Program} {l : Launch} {e : Env} {s : State} {m : MethodId} {args : Array Value} {below : List Frame} {meth : Method} {c : Code} {H : Heap} {locs : List Loc} {cells slots : Nat} {G : GP} {A : Nat → Prop} {S0 : MS} {ls : Array Slot} (C : CF p l s m args meth c "SkirmishGridModel" cX9_step 5 G A) (hr : meth.sig.returnType = (some .int)) (hex : ∀ x ∈ c.exceptionTable.toList, False) (Q : Int32 → MS → Prop) (QX : String → MS → Prop) (S : MS) (a0 : Nat) (y3 : Int32) (z0 : Int32) (z1 : Int32) (p_a0 : pI S 9 a0) (P : PW G A s H locs S0 S) (hl : lv_has ls 5 [(0, .ref a0), (3, .int y3)]) (hcc : cells + 0 ≤ 0) (hss : slots + 0 ≤ 0) (hw : wX9_step_49 Q QX S a0 y3 z0 z1) : W p l e rmX9_step s m args below meth c H locs cells slots (vx_MQ below (QI G S0 A Q) (XX G S0 A QX) args s 0 0 A) (F0 m 49 ls [.int z0, .int z1]) := by
  have hx := CF_x C
  have hb := CF_b C
  unfold wX9_step_49 at hw
  refine lv_iadd hx hb dX9_step_49 ?_
  refine lv_istore (lv' := [(4, .int (z1 + z0)), (0, .ref a0), (3, .int y3)]) hx hb dX9_step_50 hl (by decide) rfl (fun ls hl => ?_)
  refine lv_iload_n hx hb dX9_step_52 rfl (lv_at hl 2 rfl) ?_
  refine lv_iconst (v := 0) hx hb dX9_step_53 (by decide) ?_
  refine lv_aload_n hx hb dX9_step_54 rfl (lv_at hl 1 rfl) ?_
  obtain ⟨a1, e1, hw⟩ := hw
  have p_a1 : pI S 12 a1 := wf_r P.2.2.2.1 p_a0 e1
  refine gf_9_1 C P p_a0 e1 q_1306 dX9_step_55 ?_
  refine lv_iconst (v := 0) hx hb dX9_step_58 (by decide) ?_
  obtain ⟨h1, hw⟩ := hw
  refine ra_i C P p_a1 h1 dX9_step_59 ?_
  refine lv_iconst (v := 1) hx hb dX9_step_60 (by decide) ?_
  refine lv_isub hx hb dX9_step_61 ?_
  refine cl_i C P (run_S C P hl.1 (met_X9_isIn (CF_n C) G H.size _ _ S y3 0 ((mI S a1 (0 : Int32).toNatClampNeg) - 1) hw) q_1383 q_1384 q_10 q_1385 cd_X9_isIn.2 ⟨(Nat.le_of_ble_eq_true rfl), (Nat.le_of_ble_eq_true rfl)⟩ rfl rfl (As := [.int y3, .int 0, .int ((mI S a1 (0 : Int32).toNatClampNeg) - 1)]) (rest := []) rfl rfl (Nat.le_of_ble_eq_true rfl) dX9_step_62 ⟨by show cells + 0 ≤ 0; omega, by show slots + 0 ≤ 0; omega⟩) (kx_out C hex (fun _ _ _ h => h) (by omega) (by omega)) (fun r3 S2 H locs P hE hw => ?_)
  have p_a0 : pI S2 9 a0 := pI_x hE p_a0
  refine lv_if_eq (tgt := 99) hx hb dX9_step_65 (by decide) (fun hc => ?_) (fun hc => ?_)
  · have hw := hw.1 hc
    refine lv_iconst (v := (-1)) hx hb dX9_step_99 (by decide) ?_
    exact e_i C hr rfl P hw (by omega) (by omega) dX9_step_100
  · have hw := hw.2 hc
    refine lv_iload hx hb dX9_step_68 (lv_at hl 0 rfl) ?_
    refine lv_iconst (v := 0) hx hb dX9_step_70 (by decide) ?_
    refine lv_aload_n hx hb dX9_step_71 rfl (lv_at hl 1 rfl) ?_
    obtain ⟨a4, e1, hw⟩ := hw
    have p_a4 : pI S2 12 a4 := wf_r P.2.2.2.1 p_a0 e1
    refine gf_9_1 C P p_a0 e1 q_1306 dX9_step_72 ?_
    refine lv_iconst (v := 1) hx hb dX9_step_75 (by decide) ?_
    obtain ⟨h1, hw⟩ := hw
    refine ra_i C P p_a4 h1 dX9_step_76 ?_
    refine lv_iconst (v := 1) hx hb dX9_step_77 (by decide) ?_
    refine lv_isub hx hb dX9_step_78 ?_
    refine cl_i C P (run_S C P hl.1 (met_X9_isIn (CF_n C) G H.size _ _ S2 (z1 + z0) 0 ((mI S2 a4 (1 : Int32).toNatClampNeg) - 1) hw) q_1383 q_1384 q_10 q_1385 cd_X9_isIn.2 ⟨(Nat.le_of_ble_eq_true rfl), (Nat.le_of_ble_eq_true rfl)⟩ rfl rfl (As := [.int (z1 + z0), .int 0, .int ((mI S2 a4 (1 : Int32).toNatClampNeg) - 1)]) (rest := []) rfl rfl (Nat.le_of_ble_eq_true rfl) dX9_step_79 ⟨by show cells + 0 ≤ 0; omega, by show slots + 0 ≤ 0; omega⟩) (kx_out C hex (fun _ _ _ h => h) (by omega) (by omega)) (fun r6 S5 H locs P hE hw => ?_)
    have p_a0 : pI S5 9 a0 := pI_x hE p_a0
    refine lv_if_eq (tgt := 99) hx hb dX9_step_82 (by decide) (fun hc => ?_) (fun hc => ?_)
    · have hw := hw.1 hc
      refine lv_iconst (v := (-1)) hx hb dX9_step_99 (by decide) ?_
      exact e_i C hr rfl P hw (by omega) (by omega) dX9_step_100
    · have hw := hw.2 hc
      refine lv_iload_n hx hb dX9_step_85 rfl (lv_at hl 2 rfl) ?_
      refine lv_aload_n hx hb dX9_step_86 rfl (lv_at hl 1 rfl) ?_
      obtain ⟨a7, e1, hw⟩ := hw
      have p_a7 : pI S5 12 a7 := wf_r P.2.2.2.1 p_a0 e1
      refine gf_9_1 C P p_a0 e1 q_1306 dX9_step_87 ?_
      refine lv_iconst (v := 1) hx hb dX9_step_90 (by decide) ?_
      obtain ⟨h1, hw⟩ := hw
      refine ra_i C P p_a7 h1 dX9_step_91 ?_
      refine lv_imul hx hb dX9_step_92 ?_
      refine lv_iload hx hb dX9_step_93 (lv_at hl 0 rfl) ?_
      refine lv_iadd hx hb dX9_step_95 ?_
      refine lv_goto (tgt := 100) hx hb dX9_step_96 (by decide) ?_
      exact e_i C hr rfl P hw (by omega) (by omega) dX9_step_100
def wX9_step_23 (Q : Int32 → MS → Prop) (QX : String → MS → Prop) (S : MS) (a0 : Nat) (y1 : Int32) (y2 : Int32) (z0 : Int32) (z1 : Int32) : Prop := wp_X9_column (fun r2 S1 => ((¬ y2 = 1 → ((¬ y2 = 3 → wX9_step_49 Q QX S1 a0 (z1 + z0) 0 r2) ∧ (y2 = 3 → wX9_step_49 Q QX S1 a0 (z1 + z0) (-1) r2))) ∧ (y2 = 1 → wX9_step_49 Q QX S1 a0 (z1 + z0) 1 r2))) QX S a0 y1
set_option maxHeartbeats 4000000 in
set_option maxRecDepth 100000 in
theorem tX9_step_23 {p : Program} {l : Launch} {e : Env} {s : State} {m : MethodId} {args : Array Value} {below : List Frame} {meth : Method} {c : Code} {H : Heap} {locs : List Loc} {cells slots : Nat} {G : GP} {A : Nat → Prop} {S0 : MS} {ls : Array Slot} (C : CF p l s m args meth c "SkirmishGridModel" cX9_step 5 G A) (hr : meth.sig.returnType = (some .int)) (hex : ∀ x ∈ c.exceptionTable.toList, False) (Q : Int32 → MS → Prop) (QX : String → MS → Prop) (S : MS) (a0 : Nat) (y1 : Int32) (y2 : Int32) (z0 : Int32) (z1 : Int32) (p_a0 : pI S 9 a0) (P : PW G A s H locs S0 S) (hl : lv_has ls 5 [(0, .ref a0), (1, .int y1), (2, .int y2)]) (hcc : cells + 0 ≤ 0) (hss : slots + 0 ≤ 0) (hw : wX9_step_23 Q QX S a0 y1 y2 z0 z1) : W p l e rmX9_step s m args below meth c H locs cells slots (vx_MQ below (QI G S0 A Q) (XX G S0 A QX) args s 0 0 A) (F0 m 23 ls [.int z0, .int z1]) := by
  have hx := CF_x C
  have hb := CF_b C
  unfold wX9_step_23 at hw
  refine lv_iadd hx hb dX9_step_23 ?_
  refine lv_istore_n (lv' := [(3, .int (z1 + z0)), (0, .ref a0), (1, .int y1), (2, .int y2)]) hx hb dX9_step_24 rfl hl (by decide) rfl (fun ls hl => ?_)
  refine lv_aload_n hx hb dX9_step_25 rfl (lv_at hl 1 rfl) ?_
  refine lv_iload_n hx hb dX9_step_26 rfl (lv_at hl 2 rfl) ?_
  refine cl_i C P (run_V C P hl.1 (kd := 9) (met_X9_column (CF_n C) G H.size _ _ S a0 y1 p_a0 hw) p_a0 (by decide) rfl q_1429 q_1431 q_p29 q_10 q_1432 cd_X9_column ⟨(Nat.le_of_ble_eq_true rfl), (Nat.le_of_ble_eq_true rfl)⟩ rfl rfl (As := [.int y1]) (rest := []) rfl rfl (Nat.le_of_ble_eq_true rfl) dX9_step_27 ⟨by show cells + 0 ≤ 0; omega, by show slots + 0 ≤ 0; omega⟩) (kx_out C hex (fun _ _ _ h => h) (by omega) (by omega)) (fun r2 S1 H locs P hE hw => ?_)
  have p_a0 : pI S1 9 a0 := pI_x hE p_a0
  refine lv_iload_n hx hb dX9_step_30 rfl (lv_at hl 3 rfl) ?_
  refine lv_iconst (v := 1) hx hb dX9_step_31 (by decide) ?_
  refine lv_icmp_ne (tgt := 39) hx hb dX9_step_32 (by decide) (fun hc => ?_) (fun hc => ?_)
  · have hw := hw.1 hc
    refine lv_iload_n hx hb dX9_step_39 rfl (lv_at hl 3 rfl) ?_
    refine lv_iconst (v := 3) hx hb dX9_step_40 (by decide) ?_
    refine lv_icmp_ne (tgt := 48) hx hb dX9_step_41 (by decide) (fun hc => ?_) (fun hc => ?_)
    · have hw := hw.1 hc
      refine lv_iconst (v := 0) hx hb dX9_step_48 (by decide) ?_
      exact tX9_step_49 C hr hex Q QX S1 a0 (z1 + z0) 0 r2 p_a0 P (lv_sub hl [1, 0] rfl) (by omega) (by omega) hw
    · have hw := hw.2 hc
      refine lv_iconst (v := (-1)) hx hb dX9_step_44 (by decide) ?_
      refine lv_goto (tgt := 49) hx hb dX9_step_45 (by decide) ?_
      exact tX9_step_49 C hr hex Q QX S1 a0 (z1 + z0) (-1) r2 p_a0 P (lv_sub hl [1, 0] rfl) (by omega) (by omega) hw
  · have hw := hw.2 hc
    refine lv_iconst (v := 1) hx hb dX9_step_35 (by decide) ?_
    refine lv_goto (tgt := 49) hx hb dX9_step_36 (by decide) ?_
    exact tX9_step_49 C hr hex Q QX S1 a0 (z1 + z0) 1 r2 p_a0 P (lv_sub hl [1, 0] rfl) (by omega) (by omega) hw
def wX9_step_0 (Q : Int32 → MS → Prop) (QX : String → MS → Prop) (S : MS) (a0 : Nat) (x1 : Int32) (x2 : Int32) : Prop := wp_X9_row (fun r2 S1 => ((¬ x2 = 0 → ((¬ x2 = 2 → wX9_step_23 Q QX S1 a0 x1 x2 0 r2) ∧ (x2 = 2 → wX9_step_23 Q QX S1 a0 x1 x2 1 r2))) ∧ (x2 = 0 → wX9_step_23 Q QX S1 a0 x1 x2 (-1) r2))) QX S a0 x1
set_option maxHeartbeats 4000000 in
set_option maxRecDepth 100000 in
theorem tX9_step_0 {p : Program} {l : Launch} {e : Env} {s : State} {m : MethodId} {args : Array Value} {below : List Frame} {meth : Method} {c : Code} {H : Heap} {locs : List Loc} {cells slots : Nat} {G : GP} {A : Nat → Prop} {S0 : MS} {ls : Array Slot} (C : CF p l s m args meth c "SkirmishGridModel" cX9_step 5 G A) (hr : meth.sig.returnType = (some .int)) (hex : ∀ x ∈ c.exceptionTable.toList, False) (Q : Int32 → MS → Prop) (QX : String → MS → Prop) (S : MS) (a0 : Nat) (x1 : Int32) (x2 : Int32) (p_a0 : pI S 9 a0) (P : PW G A s H locs S0 S) (hl : lv_has ls 5 [(0, .ref a0), (1, .int x1), (2, .int x2)]) (hcc : cells + 0 ≤ 0) (hss : slots + 0 ≤ 0) (hw : wX9_step_0 Q QX S a0 x1 x2) : W p l e rmX9_step s m args below meth c H locs cells slots (vx_MQ below (QI G S0 A Q) (XX G S0 A QX) args s 0 0 A) (F0 m 0 ls []) := by
  have hx := CF_x C
  have hb := CF_b C
  unfold wX9_step_0 at hw
  refine lv_aload_n hx hb dX9_step_0 rfl (lv_at hl 0 rfl) ?_
  refine lv_iload_n hx hb dX9_step_1 rfl (lv_at hl 1 rfl) ?_
  refine cl_i C P (run_V C P hl.1 (kd := 9) (met_X9_row (CF_n C) G H.size _ _ S a0 x1 p_a0 hw) p_a0 (by decide) rfl q_1433 q_1435 q_p30 q_10 q_1436 cd_X9_row ⟨(Nat.le_of_ble_eq_true rfl), (Nat.le_of_ble_eq_true rfl)⟩ rfl rfl (As := [.int x1]) (rest := []) rfl rfl (Nat.le_of_ble_eq_true rfl) dX9_step_2 ⟨by show cells + 0 ≤ 0; omega, by show slots + 0 ≤ 0; omega⟩) (kx_out C hex (fun _ _ _ h => h) (by omega) (by omega)) (fun r2 S1 H locs P hE hw => ?_)
  have p_a0 : pI S1 9 a0 := pI_x hE p_a0
  refine lv_iload_n hx hb dX9_step_5 rfl (lv_at hl 2 rfl) ?_
  refine lv_if_ne (tgt := 13) hx hb dX9_step_6 (by decide) (fun hc => ?_) (fun hc => ?_)
  · have hw := hw.1 hc
    refine lv_iload_n hx hb dX9_step_13 rfl (lv_at hl 2 rfl) ?_
    refine lv_iconst (v := 2) hx hb dX9_step_14 (by decide) ?_
    refine lv_icmp_ne (tgt := 22) hx hb dX9_step_15 (by decide) (fun hc => ?_) (fun hc => ?_)
    · have hw := hw.1 hc
      refine lv_iconst (v := 0) hx hb dX9_step_22 (by decide) ?_
      exact tX9_step_23 C hr hex Q QX S1 a0 x1 x2 0 r2 p_a0 P (lv_sub hl [0, 1, 2] rfl) (by omega) (by omega) hw
    · have hw := hw.2 hc
      refine lv_iconst (v := 1) hx hb dX9_step_18 (by decide) ?_
      refine lv_goto (tgt := 23) hx hb dX9_step_19 (by decide) ?_
      exact tX9_step_23 C hr hex Q QX S1 a0 x1 x2 1 r2 p_a0 P (lv_sub hl [0, 1, 2] rfl) (by omega) (by omega) hw
  · have hw := hw.2 hc
    refine lv_iconst (v := (-1)) hx hb dX9_step_9 (by decide) ?_
    refine lv_goto (tgt := 23) hx hb dX9_step_10 (by decide) ?_
    exact tX9_step_23 C hr hex Q QX S1 a0 x1 x2 (-1) r2 p_a0 P (lv_sub hl [0, 1, 2] rfl) (by omega) (by omega) hw
def wp_X9_step (Q : Int32 → MS → Prop) (QX : String → MS → Prop) (S : MS) (a0 : Nat) (x1 : Int32) (x2 : Int32) : Prop := wX9_step_0 Q QX S a0 x1 x2
set_option maxHeartbeats 4000000 in
set_option maxRecDepth 100000 in
theorem met_X9_step {l : Launch} (hst : l.stackTraces = false) (G : GP) (sz : Nat) (Q : Int32 → MS → Prop) (QX : String → MS → Prop) (S : MS) (a0 : Nat) (x1 : Int32) (x2 : Int32) (p_a0 : pI S 9 a0) (hw : wp_X9_step Q QX S a0 x1 x2) : vx_Met l yX9_step (.code yX9_step cX9_step 5 (some .int) :: GW) rmX9_step (va_Pc [.ref a0, .int x1, .int x2] (PR G S sz)) (QI G S (FA G S sz) Q) (XX G S (FA G S sz) QX) 0 0 (FA G S sz) := by
  refine st_m (by decide +kernel) hst (fun p e s m below meth c C hr hnm hex P => ?_)
  refine en_m (Nat.le_of_ble_eq_true rfl) (lv := [(0, .ref a0), (1, .int x1), (2, .int x2)]) rfl (fun ls hl => ?_)
  have C : CF p l s m _ meth c "SkirmishGridModel" cX9_step 5 G (FA G S sz) := C
  exact tX9_step_0 C hr hex Q QX S a0 x1 x2 p_a0 P hl (by omega) (by omega) hw
theorem cd_X9_step : yX9_step.cls = RX9 ∧ yX9_step.cls ≠ "java/lang/invoke/MethodHandle" ∧ yX9_step.cls ≠ "java/lang/invoke/VarHandle" ∧ (parseMethodDescriptor yX9_step.desc).map (fun d => d.parameters.length) = some 2 := by decide +kernel
abbrev rmX9_price : Room := { frames := 0, cells := 0, slots := 0, locals := 0 }
def wX9_price_0 (Q : Int32 → MS → Prop) (QX : String → MS → Prop) (S : MS) (a0 : Nat) (x1 : Int32) : Prop := (∃ a1, mR S a0 1 = some a1 ∧ (vp_in (2 + x1) (mN S a1) ∧ (((mI S a1 ((2 + x1) : Int32).toNatClampNeg) = 3 → Q 2 S) ∧ (¬ (mI S a1 ((2 + x1) : Int32).toNatClampNeg) = 3 → (∃ a2, mR S a0 1 = some a2 ∧ (vp_in (2 + x1) (mN S a2) ∧ ((¬ (mI S a2 ((2 + x1) : Int32).toNatClampNeg) = 2 → Q 1 S) ∧ ((mI S a2 ((2 + x1) : Int32).toNatClampNeg) = 2 → Q 2 S))))))))
set_option maxHeartbeats 4000000 in
set_option maxRecDepth 100000 in
theorem tX9_price_0 {p : Program} {l : Launch} {e : Env} {s : State} {m : MethodId} {args : Array Value} {below : List Frame} {meth : Method} {c : Code} {H : Heap} {locs : List Loc} {cells slots : Nat} {G : GP} {A : Nat → Prop} {S0 : MS} {ls : Array Slot} (C : CF p l s m args meth c "SkirmishGridModel" cX9_price 2 G A) (hr : meth.sig.returnType = (some .int)) (hex : ∀ x ∈ c.exceptionTable.toList, False) (Q : Int32 → MS → Prop) (QX : String → MS → Prop) (S : MS) (a0 : Nat) (x1 : Int32) (p_a0 : pI S 9 a0) (P : PW G A s H locs S0 S) (hl : lv_has ls 2 [(0, .ref a0), (1, .int x1)]) (hcc : cells + 0 ≤ 0) (hss : slots + 0 ≤ 0) (hw : wX9_price_0 Q QX S a0 x1) : W p l e rmX9_price s m args below meth c H locs cells slots (vx_MQ below (QI G S0 A Q) (XX G S0 A QX) args s 0 0 A) (F0 m 0 ls []) := by
  have hx := CF_x C
  have hb := CF_b C
  unfold wX9_price_0 at hw
  refine lv_aload_n hx hb dX9_price_0 rfl (lv_at hl 0 rfl) ?_
  obtain ⟨a1, e1, hw⟩ := hw
  have p_a1 : pI S 12 a1 := wf_r P.2.2.2.1 p_a0 e1
  refine gf_9_1 C P p_a0 e1 q_1306 dX9_price_1 ?_
  refine lv_iconst (v := 2) hx hb dX9_price_4 (by decide) ?_
  refine lv_iload_n hx hb dX9_price_5 rfl (lv_at hl 1 rfl) ?_
  refine lv_iadd hx hb dX9_price_6 ?_
  obtain ⟨h1, hw⟩ := hw
  refine ra_i C P p_a1 h1 dX9_price_7 ?_
  refine lv_iconst (v := 3) hx hb dX9_price_8 (by decide) ?_
  refine lv_icmp_eq (tgt := 24) hx hb dX9_price_9 (by decide) (fun hc => ?_) (fun hc => ?_)
  · have hw := hw.1 hc
    refine lv_iconst (v := 2) hx hb dX9_price_24 (by decide) ?_
    refine lv_goto (tgt := 29) hx hb dX9_price_25 (by decide) ?_
    exact e_i C hr rfl P hw (by omega) (by omega) dX9_price_29
  · have hw := hw.2 hc
    refine lv_aload_n hx hb dX9_price_12 rfl (lv_at hl 0 rfl) ?_
    obtain ⟨a2, e1, hw⟩ := hw
    have p_a2 : pI S 12 a2 := wf_r P.2.2.2.1 p_a0 e1
    refine gf_9_1 C P p_a0 e1 q_1306 dX9_price_13 ?_
    refine lv_iconst (v := 2) hx hb dX9_price_16 (by decide) ?_
    refine lv_iload_n hx hb dX9_price_17 rfl (lv_at hl 1 rfl) ?_
    refine lv_iadd hx hb dX9_price_18 ?_
    obtain ⟨h1, hw⟩ := hw
    refine ra_i C P p_a2 h1 dX9_price_19 ?_
    refine lv_iconst (v := 2) hx hb dX9_price_20 (by decide) ?_
    refine lv_icmp_ne (tgt := 28) hx hb dX9_price_21 (by decide) (fun hc => ?_) (fun hc => ?_)
    · have hw := hw.1 hc
      refine lv_iconst (v := 1) hx hb dX9_price_28 (by decide) ?_
      exact e_i C hr rfl P hw (by omega) (by omega) dX9_price_29
    · have hw := hw.2 hc
      refine lv_iconst (v := 2) hx hb dX9_price_24 (by decide) ?_
      refine lv_goto (tgt := 29) hx hb dX9_price_25 (by decide) ?_
      exact e_i C hr rfl P hw (by omega) (by omega) dX9_price_29
def wp_X9_price (Q : Int32 → MS → Prop) (QX : String → MS → Prop) (S : MS) (a0 : Nat) (x1 : Int32) : Prop := wX9_price_0 Q QX S a0 x1
set_option maxHeartbeats 4000000 in
set_option maxRecDepth 100000 in
theorem met_X9_price {l : Launch} (hst : l.stackTraces = false) (G : GP) (sz : Nat) (Q : Int32 → MS → Prop) (QX : String → MS → Prop) (S : MS) (a0 : Nat) (x1 : Int32) (p_a0 : pI S 9 a0) (hw : wp_X9_price Q QX S a0 x1) : vx_Met l yX9_price (.code yX9_price cX9_price 2 (some .int) :: GW) rmX9_price (va_Pc [.ref a0, .int x1] (PR G S sz)) (QI G S (FA G S sz) Q) (XX G S (FA G S sz) QX) 0 0 (FA G S sz) := by
  refine st_m (by decide +kernel) hst (fun p e s m below meth c C hr hnm hex P => ?_)
  refine en_m (Nat.le_of_ble_eq_true rfl) (lv := [(0, .ref a0), (1, .int x1)]) rfl (fun ls hl => ?_)
  have C : CF p l s m _ meth c "SkirmishGridModel" cX9_price 2 G (FA G S sz) := C
  exact tX9_price_0 C hr hex Q QX S a0 x1 p_a0 P hl (by omega) (by omega) hw
theorem cd_X9_price : yX9_price.cls = RX9 ∧ yX9_price.cls ≠ "java/lang/invoke/MethodHandle" ∧ yX9_price.cls ≠ "java/lang/invoke/VarHandle" ∧ (parseMethodDescriptor yX9_price.desc).map (fun d => d.parameters.length) = some 1 := by decide +kernel
abbrev rmX9_isFree : Room := { frames := 3, cells := 0, slots := 0, locals := 65 }
def wX9_isFree_0 (Q : Int32 → MS → Prop) (QX : String → MS → Prop) (S : MS) (a0 : Nat) (x1 : Int32) : Prop := (∃ a1, mR S a0 1 = some a1 ∧ (vp_in (2 + x1) (mN S a1) ∧ (((mI S a1 ((2 + x1) : Int32).toNatClampNeg) = 1 → Q 0 S) ∧ (¬ (mI S a1 ((2 + x1) : Int32).toNatClampNeg) = 1 → wp_X9_unitOn (fun r3 S2 => ((0 ≤ r3 → Q 0 S2) ∧ (¬ 0 ≤ r3 → Q 1 S2))) QX S a0 x1))))
set_option maxHeartbeats 4000000 in
set_option maxRecDepth 100000 in
theorem tX9_isFree_0 {p : Program} {l : Launch} {e : Env} {s : State} {m : MethodId} {args : Array Value} {below : List Frame} {meth : Method} {c : Code} {H : Heap} {locs : List Loc} {cells slots : Nat} {G : GP} {A : Nat → Prop} {S0 : MS} {ls : Array Slot} (C : CF p l s m args meth c "SkirmishGridModel" cX9_isFree 2 G A) (hr : meth.sig.returnType = (some .boolean)) (hex : ∀ x ∈ c.exceptionTable.toList, False) (Q : Int32 → MS → Prop) (QX : String → MS → Prop) (S : MS) (a0 : Nat) (x1 : Int32) (p_a0 : pI S 9 a0) (P : PW G A s H locs S0 S) (hl : lv_has ls 2 [(0, .ref a0), (1, .int x1)]) (hcc : cells + 0 ≤ 0) (hss : slots + 0 ≤ 0) (hw : wX9_isFree_0 Q QX S a0 x1) : W p l e rmX9_isFree s m args below meth c H locs cells slots (vx_MQ below (QI G S0 A Q) (XX G S0 A QX) args s 0 0 A) (F0 m 0 ls []) := by
  have hx := CF_x C
  have hb := CF_b C
  unfold wX9_isFree_0 at hw
  refine lv_aload_n hx hb dX9_isFree_0 rfl (lv_at hl 0 rfl) ?_
  obtain ⟨a1, e1, hw⟩ := hw
  have p_a1 : pI S 12 a1 := wf_r P.2.2.2.1 p_a0 e1
  refine gf_9_1 C P p_a0 e1 q_1306 dX9_isFree_1 ?_
  refine lv_iconst (v := 2) hx hb dX9_isFree_4 (by decide) ?_
  refine lv_iload_n hx hb dX9_isFree_5 rfl (lv_at hl 1 rfl) ?_
  refine lv_iadd hx hb dX9_isFree_6 ?_
  obtain ⟨h1, hw⟩ := hw
  refine ra_i C P p_a1 h1 dX9_isFree_7 ?_
  refine lv_iconst (v := 1) hx hb dX9_isFree_8 (by decide) ?_
  refine lv_icmp_eq (tgt := 24) hx hb dX9_isFree_9 (by decide) (fun hc => ?_) (fun hc => ?_)
  · have hw := hw.1 hc
    refine lv_iconst (v := 0) hx hb dX9_isFree_24 (by decide) ?_
    exact e_i C hr (by decide +kernel) P hw (by omega) (by omega) dX9_isFree_25
  · have hw := hw.2 hc
    refine lv_aload_n hx hb dX9_isFree_12 rfl (lv_at hl 0 rfl) ?_
    refine lv_iload_n hx hb dX9_isFree_13 rfl (lv_at hl 1 rfl) ?_
    refine cl_i C P (run_V C P hl.1 (kd := 9) (met_X9_unitOn (CF_n C) G H.size _ _ S a0 x1 p_a0 hw) p_a0 (by decide) rfl q_1449 q_1451 q_p32 q_10 q_1452 cd_X9_unitOn ⟨(Nat.le_of_ble_eq_true rfl), (Nat.le_of_ble_eq_true rfl)⟩ rfl rfl (As := [.int x1]) (rest := []) rfl rfl (Nat.le_of_ble_eq_true rfl) dX9_isFree_14 ⟨by show cells + 0 ≤ 0; omega, by show slots + 0 ≤ 0; omega⟩) (kx_out C hex (fun _ _ _ h => h) (by omega) (by omega)) (fun r3 S2 H locs P hE hw => ?_)
    have p_a0 : pI S2 9 a0 := pI_x hE p_a0
    refine lv_if_ge (tgt := 24) hx hb dX9_isFree_17 (by decide) (fun hc => ?_) (fun hc => ?_)
    · have hw := hw.1 hc
      refine lv_iconst (v := 0) hx hb dX9_isFree_24 (by decide) ?_
      exact e_i C hr (by decide +kernel) P hw (by omega) (by omega) dX9_isFree_25
    · have hw := hw.2 hc
      refine lv_iconst (v := 1) hx hb dX9_isFree_20 (by decide) ?_
      refine lv_goto (tgt := 25) hx hb dX9_isFree_21 (by decide) ?_
      exact e_i C hr (by decide +kernel) P hw (by omega) (by omega) dX9_isFree_25
def wp_X9_isFree (Q : Int32 → MS → Prop) (QX : String → MS → Prop) (S : MS) (a0 : Nat) (x1 : Int32) : Prop := wX9_isFree_0 Q QX S a0 x1
set_option maxHeartbeats 4000000 in
set_option maxRecDepth 100000 in
theorem met_X9_isFree {l : Launch} (hst : l.stackTraces = false) (G : GP) (sz : Nat) (Q : Int32 → MS → Prop) (QX : String → MS → Prop) (S : MS) (a0 : Nat) (x1 : Int32) (p_a0 : pI S 9 a0) (hw : wp_X9_isFree Q QX S a0 x1) : vx_Met l yX9_isFree (.code yX9_isFree cX9_isFree 2 (some .boolean) :: GW) rmX9_isFree (va_Pc [.ref a0, .int x1] (PR G S sz)) (QI G S (FA G S sz) Q) (XX G S (FA G S sz) QX) 0 0 (FA G S sz) := by
  refine st_m (by decide +kernel) hst (fun p e s m below meth c C hr hnm hex P => ?_)
  refine en_m (Nat.le_of_ble_eq_true rfl) (lv := [(0, .ref a0), (1, .int x1)]) rfl (fun ls hl => ?_)
  have C : CF p l s m _ meth c "SkirmishGridModel" cX9_isFree 2 G (FA G S sz) := C
  exact tX9_isFree_0 C hr hex Q QX S a0 x1 p_a0 P hl (by omega) (by omega) hw
theorem cd_X9_isFree : yX9_isFree.cls = RX9 ∧ yX9_isFree.cls ≠ "java/lang/invoke/MethodHandle" ∧ yX9_isFree.cls ≠ "java/lang/invoke/VarHandle" ∧ (parseMethodDescriptor yX9_isFree.desc).map (fun d => d.parameters.length) = some 1 := by decide +kernel
abbrev rmX9_measures : Room := { frames := 4, cells := 0, slots := 0, locals := 86 }
def wX9_measures_151 (Q : MS → Prop) (QX : String → MS → Prop) (k43 : MS → Nat → Int32 → Int32 → Int32 → Prop) (k52 : MS → Nat → Int32 → Int32 → Int32 → Int32 → Prop) (k61 : MS → Nat → Int32 → Int32 → Int32 → Int32 → Int32 → Prop) (S : MS) (a0 : Nat) (y1 : Int32) (y2 : Int32) (y4 : Int32) (y5 : Int32) (y7 : Int32) : Prop := (∃ a1, mR S a0 17 = some a1 ∧ (vp_in y4 (mN S a1) ∧ (∀ S2, S2 = (sI S a1 (y4 : Int32).toNatClampNeg y7) → k61 S2 a0 y1 y2 1 y4 (y5 + 1))))
set_option maxHeartbeats 4000000 in
set_option maxRecDepth 100000 in
theorem tX9_measures_151 {p : Program} {l : Launch} {e : Env} {s : State} {m : MethodId} {args : Array Value} {below : List Frame} {meth : Method} {c : Code} {H : Heap} {locs : List Loc} {cells slots : Nat} {G : GP} {A : Nat → Prop} {S0 : MS} {ls : Array Slot} (C : CF p l s m args meth c "SkirmishGridModel" cX9_measures 8 G A) (hr : meth.sig.returnType = none) (hex : ∀ x ∈ c.exceptionTable.toList, False) (Q : MS → Prop) (QX : String → MS → Prop) (k43 : MS → Nat → Int32 → Int32 → Int32 → Prop) (k52 : MS → Nat → Int32 → Int32 → Int32 → Int32 → Prop) (k61 : MS → Nat → Int32 → Int32 → Int32 → Int32 → Int32 → Prop) (kh43 : ∀ (S : MS) (a0 : Nat) (y1 : Int32) (y2 : Int32) (y3 : Int32) (cells slots : Nat) (H : Heap) (locs : List Loc) (ls : Array Slot), pI S 9 a0 → PW G A s H locs S0 S → lv_has ls 8 [(0, .ref a0), (1, .int y1), (2, .int y2), (3, .int y3)] → cells + 0 ≤ 0 → slots + 0 ≤ 0 → k43 S a0 y1 y2 y3 → W p l e rmX9_measures s m args below meth c H locs cells slots (vx_MQ below (QV G S0 A Q) (XX G S0 A QX) args s 0 0 A) (F0 m 43 ls [])) (kh52 : ∀ (S : MS) (a0 : Nat) (y1 : Int32) (y2 : Int32) (y3 : Int32) (y4 : Int32) (cells slots : Nat) (H : Heap) (locs : List Loc) (ls : Array Slot), pI S 9 a0 → PW G A s H locs S0 S → lv_has ls 8 [(0, .ref a0), (1, .int y1), (2, .int y2), (3, .int y3), (4, .int y4)] → cells + 0 ≤ 0 → slots + 0 ≤ 0 → k52 S a0 y1 y2 y3 y4 → W p l e rmX9_measures s m args below meth c H locs cells slots (vx_MQ below (QV G S0 A Q) (XX G S0 A QX) args s 0 0 A) (F0 m 52 ls [])) (kh61 : ∀ (S : MS) (a0 : Nat) (y1 : Int32) (y2 : Int32) (y3 : Int32) (y4 : Int32) (y5 : Int32) (cells slots : Nat) (H : Heap) (locs : List Loc) (ls : Array Slot), pI S 9 a0 → PW G A s H locs S0 S → lv_has ls 8 [(0, .ref a0), (1, .int y1), (2, .int y2), (3, .int y3), (4, .int y4), (5, .int y5)] → cells + 0 ≤ 0 → slots + 0 ≤ 0 → k61 S a0 y1 y2 y3 y4 y5 → W p l e rmX9_measures s m args below meth c H locs cells slots (vx_MQ below (QV G S0 A Q) (XX G S0 A QX) args s 0 0 A) (F0 m 61 ls [])) (S : MS) (a0 : Nat) (y1 : Int32) (y2 : Int32) (y4 : Int32) (y5 : Int32) (y7 : Int32) (p_a0 : pI S 9 a0) (P : PW G A s H locs S0 S) (hl : lv_has ls 8 [(0, .ref a0), (1, .int y1), (2, .int y2), (4, .int y4), (5, .int y5), (7, .int y7)]) (hcc : cells + 0 ≤ 0) (hss : slots + 0 ≤ 0) (hw : wX9_measures_151 Q QX k43 k52 k61 S a0 y1 y2 y4 y5 y7) : W p l e rmX9_measures s m args below meth c H locs cells slots (vx_MQ below (QV G S0 A Q) (XX G S0 A QX) args s 0 0 A) (F0 m 151 ls []) := by
  have hx := CF_x C
  have hb := CF_b C
  unfold wX9_measures_151 at hw
  refine lv_aload_n hx hb dX9_measures_151 rfl (lv_at hl 0 rfl) ?_
  obtain ⟨a1, e1, hw⟩ := hw
  have p_a1 : pI S 12 a1 := wf_r P.2.2.2.1 p_a0 e1
  refine gf_9_17 C P p_a0 e1 q_1322 dX9_measures_152 ?_
  refine lv_iload hx hb dX9_measures_155 (lv_at hl 3 rfl) ?_
  refine lv_iload hx hb dX9_measures_157 (lv_at hl 5 rfl) ?_
  obtain ⟨h1, hw⟩ := hw
  refine rs_i C P p_a1 h1 dX9_measures_159 (fun H locs P => ?_)
  obtain ⟨S2, hS⟩ : ∃ z, z = (sI S a1 (y4 : Int32).toNatClampNeg y7) := ⟨_, rfl⟩
  have P : PW G A s H locs S0 S2 := by rw [hS]; exact P
  have p_a0 : pI S2 9 a0 := by rw [hS]; exact pI_x ext_sI p_a0
  have p_a1 : pI S2 12 a1 := by rw [hS]; exact pI_x ext_sI p_a1
  have hw := hw S2 hS
  refine lv_iconst (v := 1) hx hb dX9_measures_160 (by decide) ?_
  refine lv_istore_n (lv' := [(3, .int 1), (0, .ref a0), (1, .int y1), (2, .int y2), (4, .int y4), (5, .int y5), (7, .int y7)]) hx hb dX9_measures_161 rfl hl (by decide) rfl (fun ls hl => ?_)
  refine lv_iinc (v := (y5 + 1)) (lv' := [(5, .int (y5 + 1)), (3, .int 1), (0, .ref a0), (1, .int y1), (2, .int y2), (4, .int y4), (7, .int y7)]) hx hb dX9_measures_162 hl (k := 5) rfl (by rfl) (by decide) rfl (fun ls hl => ?_)
  refine lv_goto (tgt := 61) hx hb dX9_measures_165 (by decide) ?_
  exact kh61 S2 a0 y1 y2 1 y4 (y5 + 1) _ _ _ _ _ p_a0 P (lv_sub hl [2, 3, 4, 1, 5, 0] rfl) (by omega) (by omega) hw
def wX9_measures_61 (Q : MS → Prop) (QX : String → MS → Prop) (k43 : MS → Nat → Int32 → Int32 → Int32 → Prop) (k52 : MS → Nat → Int32 → Int32 → Int32 → Int32 → Prop) (k61 : MS → Nat → Int32 → Int32 → Int32 → Int32 → Int32 → Prop) (S : MS) (a0 : Nat) (y1 : Int32) (y2 : Int32) (y3 : Int32) (y4 : Int32) (y5 : Int32) : Prop := ((4 ≤ y5 → k52 S a0 y1 y2 y3 (y4 + 1)) ∧ (¬ 4 ≤ y5 → wp_X9_step (fun r2 S1 => ((r2 < 0 → k61 S1 a0 y1 y2 y3 y4 (y5 + 1)) ∧ (¬ r2 < 0 → (∃ a3, mR S1 a0 17 = some a3 ∧ (vp_in r2 (mN S1 a3) ∧ (((mI S1 a3 (r2 : Int32).toNatClampNeg) = 0 → k61 S1 a0 y1 y2 y3 y4 (y5 + 1)) ∧ (¬ (mI S1 a3 (r2 : Int32).toNatClampNeg) = 0 → wp_X9_isFree (fun r5 S4 => ((¬ r5 = 0 → (∃ a6, mR S4 a0 17 = some a6 ∧ (vp_in r2 (mN S4 a6) ∧ wp_X9_price (fun r8 S7 => ((y4 = y1 → k61 S7 a0 y1 y2 y3 y4 (y5 + 1)) ∧ (¬ y4 = y1 → (∃ a9, mR S7 a0 17 = some a9 ∧ (vp_in y4 (mN S7 a9) ∧ (((mI S7 a9 (y4 : Int32).toNatClampNeg) ≤ 0 → wX9_measures_151 Q QX k43 k52 k61 S7 a0 y1 y2 y4 y5 ((mI S4 a6 (r2 : Int32).toNatClampNeg) + r8)) ∧ (¬ (mI S7 a9 (y4 : Int32).toNatClampNeg) ≤ 0 → (∃ a10, mR S7 a0 17 = some a10 ∧ (vp_in y4 (mN S7 a10) ∧ ((((mI S4 a6 (r2 : Int32).toNatClampNeg) + r8) < (mI S7 a10 (y4 : Int32).toNatClampNeg) → wX9_measures_151 Q QX k43 k52 k61 S7 a0 y1 y2 y4 y5 ((mI S4 a6 (r2 : Int32).toNatClampNeg) + r8)) ∧ (¬ ((mI S4 a6 (r2 : Int32).toNatClampNeg) + r8) < (mI S7 a10 (y4 : Int32).toNatClampNeg) → k61 S7 a0 y1 y2 y3 y4 (y5 + 1)))))))))))) QX S4 a0 r2))) ∧ (r5 = 0 → k61 S4 a0 y1 y2 y3 y4 (y5 + 1)))) QX S1 a0 r2))))))) QX S a0 y4 y5))
set_option maxHeartbeats 4000000 in
set_option maxRecDepth 100000 in
theorem tX9_measures_61 {p : Program} {l : Launch} {e : Env} {s : State} {m : MethodId} {args : Array Value} {below : List Frame} {meth : Method} {c : Code} {H : Heap} {locs : List Loc} {cells slots : Nat} {G : GP} {A : Nat → Prop} {S0 : MS} {ls : Array Slot} (C : CF p l s m args meth c "SkirmishGridModel" cX9_measures 8 G A) (hr : meth.sig.returnType = none) (hex : ∀ x ∈ c.exceptionTable.toList, False) (Q : MS → Prop) (QX : String → MS → Prop) (k43 : MS → Nat → Int32 → Int32 → Int32 → Prop) (k52 : MS → Nat → Int32 → Int32 → Int32 → Int32 → Prop) (k61 : MS → Nat → Int32 → Int32 → Int32 → Int32 → Int32 → Prop) (kh43 : ∀ (S : MS) (a0 : Nat) (y1 : Int32) (y2 : Int32) (y3 : Int32) (cells slots : Nat) (H : Heap) (locs : List Loc) (ls : Array Slot), pI S 9 a0 → PW G A s H locs S0 S → lv_has ls 8 [(0, .ref a0), (1, .int y1), (2, .int y2), (3, .int y3)] → cells + 0 ≤ 0 → slots + 0 ≤ 0 → k43 S a0 y1 y2 y3 → W p l e rmX9_measures s m args below meth c H locs cells slots (vx_MQ below (QV G S0 A Q) (XX G S0 A QX) args s 0 0 A) (F0 m 43 ls [])) (kh52 : ∀ (S : MS) (a0 : Nat) (y1 : Int32) (y2 : Int32) (y3 : Int32) (y4 : Int32) (cells slots : Nat) (H : Heap) (locs : List Loc) (ls : Array Slot), pI S 9 a0 → PW G A s H locs S0 S → lv_has ls 8 [(0, .ref a0), (1, .int y1), (2, .int y2), (3, .int y3), (4, .int y4)] → cells + 0 ≤ 0 → slots + 0 ≤ 0 → k52 S a0 y1 y2 y3 y4 → W p l e rmX9_measures s m args below meth c H locs cells slots (vx_MQ below (QV G S0 A Q) (XX G S0 A QX) args s 0 0 A) (F0 m 52 ls [])) (kh61 : ∀ (S : MS) (a0 : Nat) (y1 : Int32) (y2 : Int32) (y3 : Int32) (y4 : Int32) (y5 : Int32) (cells slots : Nat) (H : Heap) (locs : List Loc) (ls : Array Slot), pI S 9 a0 → PW G A s H locs S0 S → lv_has ls 8 [(0, .ref a0), (1, .int y1), (2, .int y2), (3, .int y3), (4, .int y4), (5, .int y5)] → cells + 0 ≤ 0 → slots + 0 ≤ 0 → k61 S a0 y1 y2 y3 y4 y5 → W p l e rmX9_measures s m args below meth c H locs cells slots (vx_MQ below (QV G S0 A Q) (XX G S0 A QX) args s 0 0 A) (F0 m 61 ls [])) (S : MS) (a0 : Nat) (y1 : Int32) (y2 : Int32) (y3 : Int32) (y4 : Int32) (y5 : Int32) (p_a0 : pI S 9 a0) (P : PW G A s H locs S0 S) (hl : lv_has ls 8 [(0, .ref a0), (1, .int y1), (2, .int y2), (3, .int y3), (4, .int y4), (5, .int y5)]) (hcc : cells + 0 ≤ 0) (hss : slots + 0 ≤ 0) (hw : wX9_measures_61 Q QX k43 k52 k61 S a0 y1 y2 y3 y4 y5) : W p l e rmX9_measures s m args below meth c H locs cells slots (vx_MQ below (QV G S0 A Q) (XX G S0 A QX) args s 0 0 A) (F0 m 61 ls []) := by
  have hx := CF_x C
  have hb := CF_b C
  unfold wX9_measures_61 at hw
  refine lv_iload hx hb dX9_measures_61 (lv_at hl 5 rfl) ?_
  refine lv_iconst (v := 4) hx hb dX9_measures_63 (by decide) ?_
  refine lv_icmp_ge (tgt := 168) hx hb dX9_measures_64 (by decide) (fun hc => ?_) (fun hc => ?_)
  · have hw := hw.1 hc
    refine lv_iinc (v := (y4 + 1)) (lv' := [(4, .int (y4 + 1)), (0, .ref a0), (1, .int y1), (2, .int y2), (3, .int y3), (5, .int y5)]) hx hb dX9_measures_168 hl (k := 4) rfl (by rfl) (by decide) rfl (fun ls hl => ?_)
    refine lv_goto (tgt := 52) hx hb dX9_measures_171 (by decide) ?_
    exact kh52 S a0 y1 y2 y3 (y4 + 1) _ _ _ _ _ p_a0 P (lv_sub hl [1, 2, 3, 4, 0] rfl) (by omega) (by omega) hw
  · have hw := hw.2 hc
    refine lv_aload_n hx hb dX9_measures_67 rfl (lv_at hl 0 rfl) ?_
    refine lv_iload hx hb dX9_measures_68 (lv_at hl 4 rfl) ?_
    refine lv_iload hx hb dX9_measures_70 (lv_at hl 5 rfl) ?_
    refine cl_i C P (run_V C P hl.1 (kd := 9) (met_X9_step (CF_n C) G H.size _ _ S a0 y4 y5 p_a0 hw) p_a0 (by decide) rfl q_1572 q_1574 q_p53 q_10 q_1575 cd_X9_step ⟨(Nat.le_of_ble_eq_true rfl), (Nat.le_of_ble_eq_true rfl)⟩ rfl rfl (As := [.int y4, .int y5]) (rest := []) rfl rfl (Nat.le_of_ble_eq_true rfl) dX9_measures_72 ⟨by show cells + 0 ≤ 0; omega, by show slots + 0 ≤ 0; omega⟩) (kx_out C hex (fun _ _ _ h => h) (by omega) (by omega)) (fun r2 S1 H locs P hE hw => ?_)
    have p_a0 : pI S1 9 a0 := pI_x hE p_a0
    refine lv_istore (lv' := [(6, .int r2), (0, .ref a0), (1, .int y1), (2, .int y2), (3, .int y3), (4, .int y4), (5, .int y5)]) hx hb dX9_measures_75 hl (by decide) rfl (fun ls hl => ?_)
    refine lv_iload hx hb dX9_measures_77 (lv_at hl 0 rfl) ?_
    refine lv_if_lt (tgt := 162) hx hb dX9_measures_79 (by decide) (fun hc => ?_) (fun hc => ?_)
    · have hw := hw.1 hc
      refine lv_iinc (v := (y5 + 1)) (lv' := [(5, .int (y5 + 1)), (6, .int r2), (0, .ref a0), (1, .int y1), (2, .int y2), (3, .int y3), (4, .int y4)]) hx hb dX9_measures_162 hl (k := 6) rfl (by rfl) (by decide) rfl (fun ls hl => ?_)
      refine lv_goto (tgt := 61) hx hb dX9_measures_165 (by decide) ?_
      exact kh61 S1 a0 y1 y2 y3 y4 (y5 + 1) _ _ _ _ _ p_a0 P (lv_sub hl [2, 3, 4, 5, 6, 0] rfl) (by omega) (by omega) hw
    · have hw := hw.2 hc
      refine lv_aload_n hx hb dX9_measures_82 rfl (lv_at hl 1 rfl) ?_
      obtain ⟨a3, e1, hw⟩ := hw
      have p_a3 : pI S1 12 a3 := wf_r P.2.2.2.1 p_a0 e1
      refine gf_9_17 C P p_a0 e1 q_1322 dX9_measures_83 ?_
      refine lv_iload hx hb dX9_measures_86 (lv_at hl 0 rfl) ?_
      obtain ⟨h1, hw⟩ := hw
      refine ra_i C P p_a3 h1 dX9_measures_88 ?_
      refine lv_if_eq (tgt := 162) hx hb dX9_measures_89 (by decide) (fun hc => ?_) (fun hc => ?_)
      · have hw := hw.1 hc
        refine lv_iinc (v := (y5 + 1)) (lv' := [(5, .int (y5 + 1)), (6, .int r2), (0, .ref a0), (1, .int y1), (2, .int y2), (3, .int y3), (4, .int y4)]) hx hb dX9_measures_162 hl (k := 6) rfl (by rfl) (by decide) rfl (fun ls hl => ?_)
        refine lv_goto (tgt := 61) hx hb dX9_measures_165 (by decide) ?_
        exact kh61 S1 a0 y1 y2 y3 y4 (y5 + 1) _ _ _ _ _ p_a0 P (lv_sub hl [2, 3, 4, 5, 6, 0] rfl) (by omega) (by omega) hw
      · have hw := hw.2 hc
        refine lv_aload_n hx hb dX9_measures_92 rfl (lv_at hl 1 rfl) ?_
        refine lv_iload hx hb dX9_measures_93 (lv_at hl 0 rfl) ?_
        refine cl_i C P (run_V C P hl.1 (kd := 9) (met_X9_isFree (CF_n C) G H.size _ _ S1 a0 r2 p_a0 hw) p_a0 (by decide) rfl q_1564 q_1566 q_p51 q_10 q_1567 cd_X9_isFree ⟨(Nat.le_of_ble_eq_true rfl), (Nat.le_of_ble_eq_true rfl)⟩ rfl rfl (As := [.int r2]) (rest := []) rfl rfl (Nat.le_of_ble_eq_true rfl) dX9_measures_95 ⟨by show cells + 0 ≤ 0; omega, by show slots + 0 ≤ 0; omega⟩) (kx_out C hex (fun _ _ _ h => h) (by omega) (by omega)) (fun r5 S4 H locs P hE hw => ?_)
        have p_a0 : pI S4 9 a0 := pI_x hE p_a0
        refine lv_if_ne (tgt := 104) hx hb dX9_measures_98 (by decide) (fun hc => ?_) (fun hc => ?_)
        · have hw := hw.1 hc
          refine lv_aload_n hx hb dX9_measures_104 rfl (lv_at hl 1 rfl) ?_
          obtain ⟨a6, e1, hw⟩ := hw
          have p_a6 : pI S4 12 a6 := wf_r P.2.2.2.1 p_a0 e1
          refine gf_9_17 C P p_a0 e1 q_1322 dX9_measures_105 ?_
          refine lv_iload hx hb dX9_measures_108 (lv_at hl 0 rfl) ?_
          obtain ⟨h1, hw⟩ := hw
          refine ra_i C P p_a6 h1 dX9_measures_110 ?_
          refine lv_aload_n hx hb dX9_measures_111 rfl (lv_at hl 1 rfl) ?_
          refine lv_iload hx hb dX9_measures_112 (lv_at hl 0 rfl) ?_
          refine cl_i C P (run_V C P hl.1 (kd := 9) (met_X9_price (CF_n C) G H.size _ _ S4 a0 r2 p_a0 hw) p_a0 (by decide) rfl q_1576 q_1578 q_p54 q_10 q_1579 cd_X9_price ⟨(Nat.le_of_ble_eq_true rfl), (Nat.le_of_ble_eq_true rfl)⟩ rfl rfl (As := [.int r2]) (rest := [.int (mI S4 a6 (r2 : Int32).toNatClampNeg)]) rfl rfl (Nat.le_of_ble_eq_true rfl) dX9_measures_114 ⟨by show cells + 0 ≤ 0; omega, by show slots + 0 ≤ 0; omega⟩) (kx_out C hex (fun _ _ _ h => h) (by omega) (by omega)) (fun r8 S7 H locs P hE hw => ?_)
          have p_a0 : pI S7 9 a0 := pI_x hE p_a0
          refine lv_iadd hx hb dX9_measures_117 ?_
          refine lv_istore (lv' := [(7, .int ((mI S4 a6 (r2 : Int32).toNatClampNeg) + r8)), (6, .int r2), (0, .ref a0), (1, .int y1), (2, .int y2), (3, .int y3), (4, .int y4), (5, .int y5)]) hx hb dX9_measures_118 hl (by decide) rfl (fun ls hl => ?_)
          refine lv_iload hx hb dX9_measures_120 (lv_at hl 6 rfl) ?_
          refine lv_iload_n hx hb dX9_measures_122 rfl (lv_at hl 3 rfl) ?_
          refine lv_icmp_eq (tgt := 162) hx hb dX9_measures_123 (by decide) (fun hc => ?_) (fun hc => ?_)
          · have hw := hw.1 hc
            refine lv_iinc (v := (y5 + 1)) (lv' := [(5, .int (y5 + 1)), (7, .int ((mI S4 a6 (r2 : Int32).toNatClampNeg) + r8)), (6, .int r2), (0, .ref a0), (1, .int y1), (2, .int y2), (3, .int y3), (4, .int y4)]) hx hb dX9_measures_162 hl (k := 7) rfl (by rfl) (by decide) rfl (fun ls hl => ?_)
            refine lv_goto (tgt := 61) hx hb dX9_measures_165 (by decide) ?_
            exact kh61 S7 a0 y1 y2 y3 y4 (y5 + 1) _ _ _ _ _ p_a0 P (lv_sub hl [3, 4, 5, 6, 7, 0] rfl) (by omega) (by omega) hw
          · have hw := hw.2 hc
            refine lv_aload_n hx hb dX9_measures_126 rfl (lv_at hl 2 rfl) ?_
            obtain ⟨a9, e1, hw⟩ := hw
            have p_a9 : pI S7 12 a9 := wf_r P.2.2.2.1 p_a0 e1
            refine gf_9_17 C P p_a0 e1 q_1322 dX9_measures_127 ?_
            refine lv_iload hx hb dX9_measures_130 (lv_at hl 6 rfl) ?_
            obtain ⟨h1, hw⟩ := hw
            refine ra_i C P p_a9 h1 dX9_measures_132 ?_
            refine lv_if_le (tgt := 151) hx hb dX9_measures_133 (by decide) (fun hc => ?_) (fun hc => ?_)
            · have hw := hw.1 hc
              exact tX9_measures_151 C hr hex Q QX k43 k52 k61 kh43 kh52 kh61 S7 a0 y1 y2 y4 y5 ((mI S4 a6 (r2 : Int32).toNatClampNeg) + r8) p_a0 P (lv_sub hl [2, 3, 4, 6, 7, 0] rfl) (by omega) (by omega) hw
            · have hw := hw.2 hc
              refine lv_aload_n hx hb dX9_measures_136 rfl (lv_at hl 2 rfl) ?_
              obtain ⟨a10, e1, hw⟩ := hw
              have p_a10 : pI S7 12 a10 := wf_r P.2.2.2.1 p_a0 e1
              refine gf_9_17 C P p_a0 e1 q_1322 dX9_measures_137 ?_
              refine lv_iload hx hb dX9_measures_140 (lv_at hl 6 rfl) ?_
              obtain ⟨h1, hw⟩ := hw
              refine ra_i C P p_a10 h1 dX9_measures_142 ?_
              refine lv_iload hx hb dX9_measures_143 (lv_at hl 0 rfl) ?_
              refine lv_icmp_gt (tgt := 151) hx hb dX9_measures_145 (by decide) (fun hc => ?_) (fun hc => ?_)
              · have hw := hw.1 hc
                exact tX9_measures_151 C hr hex Q QX k43 k52 k61 kh43 kh52 kh61 S7 a0 y1 y2 y4 y5 ((mI S4 a6 (r2 : Int32).toNatClampNeg) + r8) p_a0 P (lv_sub hl [2, 3, 4, 6, 7, 0] rfl) (by omega) (by omega) hw
              · have hw := hw.2 hc
                refine lv_goto (tgt := 162) hx hb dX9_measures_148 (by decide) ?_
                refine lv_iinc (v := (y5 + 1)) (lv' := [(5, .int (y5 + 1)), (7, .int ((mI S4 a6 (r2 : Int32).toNatClampNeg) + r8)), (6, .int r2), (0, .ref a0), (1, .int y1), (2, .int y2), (3, .int y3), (4, .int y4)]) hx hb dX9_measures_162 hl (k := 7) rfl (by rfl) (by decide) rfl (fun ls hl => ?_)
                refine lv_goto (tgt := 61) hx hb dX9_measures_165 (by decide) ?_
                exact kh61 S7 a0 y1 y2 y3 y4 (y5 + 1) _ _ _ _ _ p_a0 P (lv_sub hl [3, 4, 5, 6, 7, 0] rfl) (by omega) (by omega) hw
        · have hw := hw.2 hc
          refine lv_goto (tgt := 162) hx hb dX9_measures_101 (by decide) ?_
          refine lv_iinc (v := (y5 + 1)) (lv' := [(5, .int (y5 + 1)), (6, .int r2), (0, .ref a0), (1, .int y1), (2, .int y2), (3, .int y3), (4, .int y4)]) hx hb dX9_measures_162 hl (k := 6) rfl (by rfl) (by decide) rfl (fun ls hl => ?_)
          refine lv_goto (tgt := 61) hx hb dX9_measures_165 (by decide) ?_
          exact kh61 S4 a0 y1 y2 y3 y4 (y5 + 1) _ _ _ _ _ p_a0 P (lv_sub hl [2, 3, 4, 5, 6, 0] rfl) (by omega) (by omega) hw
def lX9_measures_61 (Q : MS → Prop) (QX : String → MS → Prop) (k43 : MS → Nat → Int32 → Int32 → Int32 → Prop) (k52 : MS → Nat → Int32 → Int32 → Int32 → Int32 → Prop) : Nat → MS → Nat → Int32 → Int32 → Int32 → Int32 → Int32 → Prop
  | 0 => fun _ _ _ _ _ _ _ => False
  | n + 1 => fun S a0 y1 y2 y3 y4 y5 => wX9_measures_61 Q QX k43 k52 (lX9_measures_61 Q QX k43 k52 n) S a0 y1 y2 y3 y4 y5
theorem tlX9_measures_61 {p : Program} {l : Launch} {e : Env} {s : State} {m : MethodId} {args : Array Value} {below : List Frame} {meth : Method} {c : Code} {G : GP} {A : Nat → Prop} {S0 : MS} (C : CF p l s m args meth c "SkirmishGridModel" cX9_measures 8 G A) (hr : meth.sig.returnType = none) (hex : ∀ x ∈ c.exceptionTable.toList, False) (Q : MS → Prop) (QX : String → MS → Prop) (k43 : MS → Nat → Int32 → Int32 → Int32 → Prop) (k52 : MS → Nat → Int32 → Int32 → Int32 → Int32 → Prop) (kh43 : ∀ (S : MS) (a0 : Nat) (y1 : Int32) (y2 : Int32) (y3 : Int32) (cells slots : Nat) (H : Heap) (locs : List Loc) (ls : Array Slot), pI S 9 a0 → PW G A s H locs S0 S → lv_has ls 8 [(0, .ref a0), (1, .int y1), (2, .int y2), (3, .int y3)] → cells + 0 ≤ 0 → slots + 0 ≤ 0 → k43 S a0 y1 y2 y3 → W p l e rmX9_measures s m args below meth c H locs cells slots (vx_MQ below (QV G S0 A Q) (XX G S0 A QX) args s 0 0 A) (F0 m 43 ls [])) (kh52 : ∀ (S : MS) (a0 : Nat) (y1 : Int32) (y2 : Int32) (y3 : Int32) (y4 : Int32) (cells slots : Nat) (H : Heap) (locs : List Loc) (ls : Array Slot), pI S 9 a0 → PW G A s H locs S0 S → lv_has ls 8 [(0, .ref a0), (1, .int y1), (2, .int y2), (3, .int y3), (4, .int y4)] → cells + 0 ≤ 0 → slots + 0 ≤ 0 → k52 S a0 y1 y2 y3 y4 → W p l e rmX9_measures s m args below meth c H locs cells slots (vx_MQ below (QV G S0 A Q) (XX G S0 A QX) args s 0 0 A) (F0 m 52 ls [])) : ∀ (n : Nat), ∀ (S : MS) (a0 : Nat) (y1 : Int32) (y2 : Int32) (y3 : Int32) (y4 : Int32) (y5 : Int32) (cells slots : Nat) (H : Heap) (locs : List Loc) (ls : Array Slot), pI S 9 a0 → PW G A s H locs S0 S → lv_has ls 8 [(0, .ref a0), (1, .int y1), (2, .int y2), (3, .int y3), (4, .int y4), (5, .int y5)] → cells + 0 ≤ 0 → slots + 0 ≤ 0 → lX9_measures_61 Q QX k43 k52 n S a0 y1 y2 y3 y4 y5 → W p l e rmX9_measures s m args below meth c H locs cells slots (vx_MQ below (QV G S0 A Q) (XX G S0 A QX) args s 0 0 A) (F0 m 61 ls []) := by
  intro n
  induction n with
  | zero => intro S a0 y1 y2 y3 y4 y5 cells slots H locs ls p_a0 P hl hcc hss hw; exact hw.elim
  | succ n ih => intro S a0 y1 y2 y3 y4 y5 cells slots H locs ls p_a0 P hl hcc hss hw; exact tX9_measures_61 C hr hex Q QX k43 k52 (lX9_measures_61 Q QX k43 k52 n) kh43 kh52 ih S a0 y1 y2 y3 y4 y5 p_a0 P hl hcc hss hw
def wX9_measures_52 (Q : MS → Prop) (QX : String → MS → Prop) (k43 : MS → Nat → Int32 → Int32 → Int32 → Prop) (k52 : MS → Nat → Int32 → Int32 → Int32 → Int32 → Prop) (S : MS) (a0 : Nat) (y1 : Int32) (y2 : Int32) (y3 : Int32) (y4 : Int32) : Prop := ((y2 ≤ y4 → k43 S a0 y1 y2 y3) ∧ (¬ y2 ≤ y4 → (∃ n, lX9_measures_61 Q QX k43 k52 n S a0 y1 y2 y3 y4 0)))
set_option maxHeartbeats 4000000 in
set_option maxRecDepth 100000 in
theorem tX9_measures_52 {p : Program} {l : Launch} {e : Env} {s : State} {m : MethodId} {args : Array Value} {below : List Frame} {meth : Method} {c : Code} {H : Heap} {locs : List Loc} {cells slots : Nat} {G : GP} {A : Nat → Prop} {S0 : MS} {ls : Array Slot} (C : CF p l s m args meth c "SkirmishGridModel" cX9_measures 8 G A) (hr : meth.sig.returnType = none) (hex : ∀ x ∈ c.exceptionTable.toList, False) (Q : MS → Prop) (QX : String → MS → Prop) (k43 : MS → Nat → Int32 → Int32 → Int32 → Prop) (k52 : MS → Nat → Int32 → Int32 → Int32 → Int32 → Prop) (kh43 : ∀ (S : MS) (a0 : Nat) (y1 : Int32) (y2 : Int32) (y3 : Int32) (cells slots : Nat) (H : Heap) (locs : List Loc) (ls : Array Slot), pI S 9 a0 → PW G A s H locs S0 S → lv_has ls 8 [(0, .ref a0), (1, .int y1), (2, .int y2), (3, .int y3)] → cells + 0 ≤ 0 → slots + 0 ≤ 0 → k43 S a0 y1 y2 y3 → W p l e rmX9_measures s m args below meth c H locs cells slots (vx_MQ below (QV G S0 A Q) (XX G S0 A QX) args s 0 0 A) (F0 m 43 ls [])) (kh52 : ∀ (S : MS) (a0 : Nat) (y1 : Int32) (y2 : Int32) (y3 : Int32) (y4 : Int32) (cells slots : Nat) (H : Heap) (locs : List Loc) (ls : Array Slot), pI S 9 a0 → PW G A s H locs S0 S → lv_has ls 8 [(0, .ref a0), (1, .int y1), (2, .int y2), (3, .int y3), (4, .int y4)] → cells + 0 ≤ 0 → slots + 0 ≤ 0 → k52 S a0 y1 y2 y3 y4 → W p l e rmX9_measures s m args below meth c H locs cells slots (vx_MQ below (QV G S0 A Q) (XX G S0 A QX) args s 0 0 A) (F0 m 52 ls [])) (S : MS) (a0 : Nat) (y1 : Int32) (y2 : Int32) (y3 : Int32) (y4 : Int32) (p_a0 : pI S 9 a0) (P : PW G A s H locs S0 S) (hl : lv_has ls 8 [(0, .ref a0), (1, .int y1), (2, .int y2), (3, .int y3), (4, .int y4)]) (hcc : cells + 0 ≤ 0) (hss : slots + 0 ≤ 0) (hw : wX9_measures_52 Q QX k43 k52 S a0 y1 y2 y3 y4) : W p l e rmX9_measures s m args below meth c H locs cells slots (vx_MQ below (QV G S0 A Q) (XX G S0 A QX) args s 0 0 A) (F0 m 52 ls []) := by
  have hx := CF_x C
  have hb := CF_b C
  unfold wX9_measures_52 at hw
  refine lv_iload hx hb dX9_measures_52 (lv_at hl 4 rfl) ?_
  refine lv_iload_n hx hb dX9_measures_54 rfl (lv_at hl 2 rfl) ?_
  refine lv_icmp_ge (tgt := 174) hx hb dX9_measures_55 (by decide) (fun hc => ?_) (fun hc => ?_)
  · have hw := hw.1 hc
    refine lv_goto (tgt := 43) hx hb dX9_measures_174 (by decide) ?_
    exact kh43 S a0 y1 y2 y3 _ _ _ _ _ p_a0 P (lv_sub hl [0, 1, 2, 3] rfl) (by omega) (by omega) hw
  · have hw := hw.2 hc
    refine lv_iconst (v := 0) hx hb dX9_measures_58 (by decide) ?_
    refine lv_istore (lv' := [(5, .int 0), (0, .ref a0), (1, .int y1), (2, .int y2), (3, .int y3), (4, .int y4)]) hx hb dX9_measures_59 hl (by decide) rfl (fun ls hl => ?_)
    obtain ⟨n, hw⟩ := hw
    exact tlX9_measures_61 C hr hex Q QX k43 k52 kh43 kh52 n S a0 y1 y2 y3 y4 0 _ _ _ _ _ p_a0 P (lv_sub hl [1, 2, 3, 4, 5, 0] rfl) (by omega) (by omega) hw
def lX9_measures_52 (Q : MS → Prop) (QX : String → MS → Prop) (k43 : MS → Nat → Int32 → Int32 → Int32 → Prop) : Nat → MS → Nat → Int32 → Int32 → Int32 → Int32 → Prop
  | 0 => fun _ _ _ _ _ _ => False
  | n + 1 => fun S a0 y1 y2 y3 y4 => wX9_measures_52 Q QX k43 (lX9_measures_52 Q QX k43 n) S a0 y1 y2 y3 y4
theorem tlX9_measures_52 {p : Program} {l : Launch} {e : Env} {s : State} {m : MethodId} {args : Array Value} {below : List Frame} {meth : Method} {c : Code} {G : GP} {A : Nat → Prop} {S0 : MS} (C : CF p l s m args meth c "SkirmishGridModel" cX9_measures 8 G A) (hr : meth.sig.returnType = none) (hex : ∀ x ∈ c.exceptionTable.toList, False) (Q : MS → Prop) (QX : String → MS → Prop) (k43 : MS → Nat → Int32 → Int32 → Int32 → Prop) (kh43 : ∀ (S : MS) (a0 : Nat) (y1 : Int32) (y2 : Int32) (y3 : Int32) (cells slots : Nat) (H : Heap) (locs : List Loc) (ls : Array Slot), pI S 9 a0 → PW G A s H locs S0 S → lv_has ls 8 [(0, .ref a0), (1, .int y1), (2, .int y2), (3, .int y3)] → cells + 0 ≤ 0 → slots + 0 ≤ 0 → k43 S a0 y1 y2 y3 → W p l e rmX9_measures s m args below meth c H locs cells slots (vx_MQ below (QV G S0 A Q) (XX G S0 A QX) args s 0 0 A) (F0 m 43 ls [])) : ∀ (n : Nat), ∀ (S : MS) (a0 : Nat) (y1 : Int32) (y2 : Int32) (y3 : Int32) (y4 : Int32) (cells slots : Nat) (H : Heap) (locs : List Loc) (ls : Array Slot), pI S 9 a0 → PW G A s H locs S0 S → lv_has ls 8 [(0, .ref a0), (1, .int y1), (2, .int y2), (3, .int y3), (4, .int y4)] → cells + 0 ≤ 0 → slots + 0 ≤ 0 → lX9_measures_52 Q QX k43 n S a0 y1 y2 y3 y4 → W p l e rmX9_measures s m args below meth c H locs cells slots (vx_MQ below (QV G S0 A Q) (XX G S0 A QX) args s 0 0 A) (F0 m 52 ls []) := by
  intro n
  induction n with
  | zero => intro S a0 y1 y2 y3 y4 cells slots H locs ls p_a0 P hl hcc hss hw; exact hw.elim
  | succ n ih => intro S a0 y1 y2 y3 y4 cells slots H locs ls p_a0 P hl hcc hss hw; exact tX9_measures_52 C hr hex Q QX k43 (lX9_measures_52 Q QX k43 n) kh43 ih S a0 y1 y2 y3 y4 p_a0 P hl hcc hss hw
def wX9_measures_43 (Q : MS → Prop) (QX : String → MS → Prop) (k43 : MS → Nat → Int32 → Int32 → Int32 → Prop) (S : MS) (a0 : Nat) (y1 : Int32) (y2 : Int32) (y3 : Int32) : Prop := ((y3 = 0 → Q S) ∧ (¬ y3 = 0 → (∃ n, lX9_measures_52 Q QX k43 n S a0 y1 y2 0 0)))
set_option maxHeartbeats 4000000 in
set_option maxRecDepth 100000 in
theorem tX9_measures_43 {p : Program} {l : Launch} {e : Env} {s : State} {m : MethodId} {args : Array Value} {below : List Frame} {meth : Method} {c : Code} {H : Heap} {locs : List Loc} {cells slots : Nat} {G : GP} {A : Nat → Prop} {S0 : MS} {ls : Array Slot} (C : CF p l s m args meth c "SkirmishGridModel" cX9_measures 8 G A) (hr : meth.sig.returnType = none) (hex : ∀ x ∈ c.exceptionTable.toList, False) (Q : MS → Prop) (QX : String → MS → Prop) (k43 : MS → Nat → Int32 → Int32 → Int32 → Prop) (kh43 : ∀ (S : MS) (a0 : Nat) (y1 : Int32) (y2 : Int32) (y3 : Int32) (cells slots : Nat) (H : Heap) (locs : List Loc) (ls : Array Slot), pI S 9 a0 → PW G A s H locs S0 S → lv_has ls 8 [(0, .ref a0), (1, .int y1), (2, .int y2), (3, .int y3)] → cells + 0 ≤ 0 → slots + 0 ≤ 0 → k43 S a0 y1 y2 y3 → W p l e rmX9_measures s m args below meth c H locs cells slots (vx_MQ below (QV G S0 A Q) (XX G S0 A QX) args s 0 0 A) (F0 m 43 ls [])) (S : MS) (a0 : Nat) (y1 : Int32) (y2 : Int32) (y3 : Int32) (p_a0 : pI S 9 a0) (P : PW G A s H locs S0 S) (hl : lv_has ls 8 [(0, .ref a0), (1, .int y1), (2, .int y2), (3, .int y3)]) (hcc : cells + 0 ≤ 0) (hss : slots + 0 ≤ 0) (hw : wX9_measures_43 Q QX k43 S a0 y1 y2 y3) : W p l e rmX9_measures s m args below meth c H locs cells slots (vx_MQ below (QV G S0 A Q) (XX G S0 A QX) args s 0 0 A) (F0 m 43 ls []) := by
  have hx := CF_x C
  have hb := CF_b C
  unfold wX9_measures_43 at hw
  refine lv_iload_n hx hb dX9_measures_43 rfl (lv_at hl 3 rfl) ?_
  refine lv_if_eq (tgt := 177) hx hb dX9_measures_44 (by decide) (fun hc => ?_) (fun hc => ?_)
  · have hw := hw.1 hc
    exact e_v C hr P hw (by omega) (by omega) dX9_measures_177
  · have hw := hw.2 hc
    refine lv_iconst (v := 0) hx hb dX9_measures_47 (by decide) ?_
    refine lv_istore_n (lv' := [(3, .int 0), (0, .ref a0), (1, .int y1), (2, .int y2)]) hx hb dX9_measures_48 rfl hl (by decide) rfl (fun ls hl => ?_)
    refine lv_iconst (v := 0) hx hb dX9_measures_49 (by decide) ?_
    refine lv_istore (lv' := [(4, .int 0), (3, .int 0), (0, .ref a0), (1, .int y1), (2, .int y2)]) hx hb dX9_measures_50 hl (by decide) rfl (fun ls hl => ?_)
    obtain ⟨n, hw⟩ := hw
    exact tlX9_measures_52 C hr hex Q QX k43 kh43 n S a0 y1 y2 0 0 _ _ _ _ _ p_a0 P (lv_sub hl [2, 3, 4, 1, 0] rfl) (by omega) (by omega) hw
def lX9_measures_43 (Q : MS → Prop) (QX : String → MS → Prop) : Nat → MS → Nat → Int32 → Int32 → Int32 → Prop
  | 0 => fun _ _ _ _ _ => False
  | n + 1 => fun S a0 y1 y2 y3 => wX9_measures_43 Q QX (lX9_measures_43 Q QX n) S a0 y1 y2 y3
theorem tlX9_measures_43 {p : Program} {l : Launch} {e : Env} {s : State} {m : MethodId} {args : Array Value} {below : List Frame} {meth : Method} {c : Code} {G : GP} {A : Nat → Prop} {S0 : MS} (C : CF p l s m args meth c "SkirmishGridModel" cX9_measures 8 G A) (hr : meth.sig.returnType = none) (hex : ∀ x ∈ c.exceptionTable.toList, False) (Q : MS → Prop) (QX : String → MS → Prop) : ∀ (n : Nat), ∀ (S : MS) (a0 : Nat) (y1 : Int32) (y2 : Int32) (y3 : Int32) (cells slots : Nat) (H : Heap) (locs : List Loc) (ls : Array Slot), pI S 9 a0 → PW G A s H locs S0 S → lv_has ls 8 [(0, .ref a0), (1, .int y1), (2, .int y2), (3, .int y3)] → cells + 0 ≤ 0 → slots + 0 ≤ 0 → lX9_measures_43 Q QX n S a0 y1 y2 y3 → W p l e rmX9_measures s m args below meth c H locs cells slots (vx_MQ below (QV G S0 A Q) (XX G S0 A QX) args s 0 0 A) (F0 m 43 ls []) := by
  intro n
  induction n with
  | zero => intro S a0 y1 y2 y3 cells slots H locs ls p_a0 P hl hcc hss hw; exact hw.elim
  | succ n ih => intro S a0 y1 y2 y3 cells slots H locs ls p_a0 P hl hcc hss hw; exact tX9_measures_43 C hr hex Q QX (lX9_measures_43 Q QX n) ih S a0 y1 y2 y3 p_a0 P hl hcc hss hw
def wX9_measures_16 (Q : MS → Prop) (QX : String → MS → Prop) (k16 : MS → Nat → Int32 → Int32 → Int32 → Prop) (S : MS) (a0 : Nat) (y1 : Int32) (y2 : Int32) (y3 : Int32) : Prop := ((y2 ≤ y3 → (∃ a1, mR S a0 17 = some a1 ∧ (vp_in y1 (mN S a1) ∧ (∀ S2, S2 = (sI S a1 (y1 : Int32).toNatClampNeg 1) → (∃ n, lX9_measures_43 Q QX n S2 a0 y1 y2 1))))) ∧ (¬ y2 ≤ y3 → (∃ a3, mR S a0 17 = some a3 ∧ (vp_in y3 (mN S a3) ∧ (∀ S4, S4 = (sI S a3 (y3 : Int32).toNatClampNeg 0) → k16 S4 a0 y1 y2 (y3 + 1))))))
set_option maxHeartbeats 4000000 in
set_option maxRecDepth 100000 in
theorem tX9_measures_16 {p : Program} {l : Launch} {e : Env} {s : State} {m : MethodId} {args : Array Value} {below : List Frame} {meth : Method} {c : Code} {H : Heap} {locs : List Loc} {cells slots : Nat} {G : GP} {A : Nat → Prop} {S0 : MS} {ls : Array Slot} (C : CF p l s m args meth c "SkirmishGridModel" cX9_measures 8 G A) (hr : meth.sig.returnType = none) (hex : ∀ x ∈ c.exceptionTable.toList, False) (Q : MS → Prop) (QX : String → MS → Prop) (k16 : MS → Nat → Int32 → Int32 → Int32 → Prop) (kh16 : ∀ (S : MS) (a0 : Nat) (y1 : Int32) (y2 : Int32) (y3 : Int32) (cells slots : Nat) (H : Heap) (locs : List Loc) (ls : Array Slot), pI S 9 a0 → PW G A s H locs S0 S → lv_has ls 8 [(0, .ref a0), (1, .int y1), (2, .int y2), (3, .int y3)] → cells + 0 ≤ 0 → slots + 0 ≤ 0 → k16 S a0 y1 y2 y3 → W p l e rmX9_measures s m args below meth c H locs cells slots (vx_MQ below (QV G S0 A Q) (XX G S0 A QX) args s 0 0 A) (F0 m 16 ls [])) (S : MS) (a0 : Nat) (y1 : Int32) (y2 : Int32) (y3 : Int32) (p_a0 : pI S 9 a0) (P : PW G A s H locs S0 S) (hl : lv_has ls 8 [(0, .ref a0), (1, .int y1), (2, .int y2), (3, .int y3)]) (hcc : cells + 0 ≤ 0) (hss : slots + 0 ≤ 0) (hw : wX9_measures_16 Q QX k16 S a0 y1 y2 y3) : W p l e rmX9_measures s m args below meth c H locs cells slots (vx_MQ below (QV G S0 A Q) (XX G S0 A QX) args s 0 0 A) (F0 m 16 ls []) := by
  have hx := CF_x C
  have hb := CF_b C
  unfold wX9_measures_16 at hw
  refine lv_iload_n hx hb dX9_measures_16 rfl (lv_at hl 3 rfl) ?_
  refine lv_iload_n hx hb dX9_measures_17 rfl (lv_at hl 2 rfl) ?_
  refine lv_icmp_ge (tgt := 34) hx hb dX9_measures_18 (by decide) (fun hc => ?_) (fun hc => ?_)
  · have hw := hw.1 hc
    refine lv_aload_n hx hb dX9_measures_34 rfl (lv_at hl 0 rfl) ?_
    obtain ⟨a1, e1, hw⟩ := hw
    have p_a1 : pI S 12 a1 := wf_r P.2.2.2.1 p_a0 e1
    refine gf_9_17 C P p_a0 e1 q_1322 dX9_measures_35 ?_
    refine lv_iload_n hx hb dX9_measures_38 rfl (lv_at hl 1 rfl) ?_
    refine lv_iconst (v := 1) hx hb dX9_measures_39 (by decide) ?_
    obtain ⟨h1, hw⟩ := hw
    refine rs_i C P p_a1 h1 dX9_measures_40 (fun H locs P => ?_)
    obtain ⟨S2, hS⟩ : ∃ z, z = (sI S a1 (y1 : Int32).toNatClampNeg 1) := ⟨_, rfl⟩
    have P : PW G A s H locs S0 S2 := by rw [hS]; exact P
    have p_a0 : pI S2 9 a0 := by rw [hS]; exact pI_x ext_sI p_a0
    have p_a1 : pI S2 12 a1 := by rw [hS]; exact pI_x ext_sI p_a1
    have hw := hw S2 hS
    refine lv_iconst (v := 1) hx hb dX9_measures_41 (by decide) ?_
    refine lv_istore_n (lv' := [(3, .int 1), (0, .ref a0), (1, .int y1), (2, .int y2)]) hx hb dX9_measures_42 rfl hl (by decide) rfl (fun ls hl => ?_)
    obtain ⟨n, hw⟩ := hw
    exact tlX9_measures_43 C hr hex Q QX n S2 a0 y1 y2 1 _ _ _ _ _ p_a0 P (lv_sub hl [1, 2, 3, 0] rfl) (by omega) (by omega) hw
  · have hw := hw.2 hc
    refine lv_aload_n hx hb dX9_measures_21 rfl (lv_at hl 0 rfl) ?_
    obtain ⟨a3, e1, hw⟩ := hw
    have p_a3 : pI S 12 a3 := wf_r P.2.2.2.1 p_a0 e1
    refine gf_9_17 C P p_a0 e1 q_1322 dX9_measures_22 ?_
    refine lv_iload_n hx hb dX9_measures_25 rfl (lv_at hl 3 rfl) ?_
    refine lv_iconst (v := 0) hx hb dX9_measures_26 (by decide) ?_
    obtain ⟨h1, hw⟩ := hw
    refine rs_i C P p_a3 h1 dX9_measures_27 (fun H locs P => ?_)
    obtain ⟨S4, hS⟩ : ∃ z, z = (sI S a3 (y3 : Int32).toNatClampNeg 0) := ⟨_, rfl⟩
    have P : PW G A s H locs S0 S4 := by rw [hS]; exact P
    have p_a0 : pI S4 9 a0 := by rw [hS]; exact pI_x ext_sI p_a0
    have p_a3 : pI S4 12 a3 := by rw [hS]; exact pI_x ext_sI p_a3
    have hw := hw S4 hS
    refine lv_iinc (v := (y3 + 1)) (lv' := [(3, .int (y3 + 1)), (0, .ref a0), (1, .int y1), (2, .int y2)]) hx hb dX9_measures_28 hl (k := 3) rfl (by rfl) (by decide) rfl (fun ls hl => ?_)
    refine lv_goto (tgt := 16) hx hb dX9_measures_31 (by decide) ?_
    exact kh16 S4 a0 y1 y2 (y3 + 1) _ _ _ _ _ p_a0 P (lv_sub hl [1, 2, 3, 0] rfl) (by omega) (by omega) hw
def lX9_measures_16 (Q : MS → Prop) (QX : String → MS → Prop) : Nat → MS → Nat → Int32 → Int32 → Int32 → Prop
  | 0 => fun _ _ _ _ _ => False
  | n + 1 => fun S a0 y1 y2 y3 => wX9_measures_16 Q QX (lX9_measures_16 Q QX n) S a0 y1 y2 y3
theorem tlX9_measures_16 {p : Program} {l : Launch} {e : Env} {s : State} {m : MethodId} {args : Array Value} {below : List Frame} {meth : Method} {c : Code} {G : GP} {A : Nat → Prop} {S0 : MS} (C : CF p l s m args meth c "SkirmishGridModel" cX9_measures 8 G A) (hr : meth.sig.returnType = none) (hex : ∀ x ∈ c.exceptionTable.toList, False) (Q : MS → Prop) (QX : String → MS → Prop) : ∀ (n : Nat), ∀ (S : MS) (a0 : Nat) (y1 : Int32) (y2 : Int32) (y3 : Int32) (cells slots : Nat) (H : Heap) (locs : List Loc) (ls : Array Slot), pI S 9 a0 → PW G A s H locs S0 S → lv_has ls 8 [(0, .ref a0), (1, .int y1), (2, .int y2), (3, .int y3)] → cells + 0 ≤ 0 → slots + 0 ≤ 0 → lX9_measures_16 Q QX n S a0 y1 y2 y3 → W p l e rmX9_measures s m args below meth c H locs cells slots (vx_MQ below (QV G S0 A Q) (XX G S0 A QX) args s 0 0 A) (F0 m 16 ls []) := by
  intro n
  induction n with
  | zero => intro S a0 y1 y2 y3 cells slots H locs ls p_a0 P hl hcc hss hw; exact hw.elim
  | succ n ih => intro S a0 y1 y2 y3 cells slots H locs ls p_a0 P hl hcc hss hw; exact tX9_measures_16 C hr hex Q QX (lX9_measures_16 Q QX n) ih S a0 y1 y2 y3 p_a0 P hl hcc hss hw
def wX9_measures_0 (Q : MS → Prop) (QX : String → MS → Prop) (S : MS) (a0 : Nat) (x1 : Int32) : Prop := (∃ a1, mR S a0 1 = some a1 ∧ (vp_in 0 (mN S a1) ∧ (∃ a2, mR S a0 1 = some a2 ∧ (vp_in 1 (mN S a2) ∧ (∃ n, lX9_measures_16 Q QX n S a0 x1 ((mI S a1 (0 : Int32).toNatClampNeg) * (mI S a2 (1 : Int32).toNatClampNeg)) 0)))))
set_option maxHeartbeats 4000000 in
set_option maxRecDepth 100000 in
theorem tX9_measures_0 {p : Program} {l : Launch} {e : Env} {s : State} {m : MethodId} {args : Array Value} {below : List Frame} {meth : Method} {c : Code} {H : Heap} {locs : List Loc} {cells slots : Nat} {G : GP} {A : Nat → Prop} {S0 : MS} {ls : Array Slot} (C : CF p l s m args meth c "SkirmishGridModel" cX9_measures 8 G A) (hr : meth.sig.returnType = none) (hex : ∀ x ∈ c.exceptionTable.toList, False) (Q : MS → Prop) (QX : String → MS → Prop) (S : MS) (a0 : Nat) (x1 : Int32) (p_a0 : pI S 9 a0) (P : PW G A s H locs S0 S) (hl : lv_has ls 8 [(0, .ref a0), (1, .int x1)]) (hcc : cells + 0 ≤ 0) (hss : slots + 0 ≤ 0) (hw : wX9_measures_0 Q QX S a0 x1) : W p l e rmX9_measures s m args below meth c H locs cells slots (vx_MQ below (QV G S0 A Q) (XX G S0 A QX) args s 0 0 A) (F0 m 0 ls []) := by
  have hx := CF_x C
  have hb := CF_b C
  unfold wX9_measures_0 at hw
  refine lv_aload_n hx hb dX9_measures_0 rfl (lv_at hl 0 rfl) ?_
  obtain ⟨a1, e1, hw⟩ := hw
  have p_a1 : pI S 12 a1 := wf_r P.2.2.2.1 p_a0 e1
  refine gf_9_1 C P p_a0 e1 q_1306 dX9_measures_1 ?_
  refine lv_iconst (v := 0) hx hb dX9_measures_4 (by decide) ?_
  obtain ⟨h1, hw⟩ := hw
  refine ra_i C P p_a1 h1 dX9_measures_5 ?_
  refine lv_aload_n hx hb dX9_measures_6 rfl (lv_at hl 0 rfl) ?_
  obtain ⟨a2, e1, hw⟩ := hw
  have p_a2 : pI S 12 a2 := wf_r P.2.2.2.1 p_a0 e1
  refine gf_9_1 C P p_a0 e1 q_1306 dX9_measures_7 ?_
  refine lv_iconst (v := 1) hx hb dX9_measures_10 (by decide) ?_
  obtain ⟨h1, hw⟩ := hw
  refine ra_i C P p_a2 h1 dX9_measures_11 ?_
  refine lv_imul hx hb dX9_measures_12 ?_
  refine lv_istore_n (lv' := [(2, .int ((mI S a1 (0 : Int32).toNatClampNeg) * (mI S a2 (1 : Int32).toNatClampNeg))), (0, .ref a0), (1, .int x1)]) hx hb dX9_measures_13 rfl hl (by decide) rfl (fun ls hl => ?_)
  refine lv_iconst (v := 0) hx hb dX9_measures_14 (by decide) ?_
  refine lv_istore_n (lv' := [(3, .int 0), (2, .int ((mI S a1 (0 : Int32).toNatClampNeg) * (mI S a2 (1 : Int32).toNatClampNeg))), (0, .ref a0), (1, .int x1)]) hx hb dX9_measures_15 rfl hl (by decide) rfl (fun ls hl => ?_)
  obtain ⟨n, hw⟩ := hw
  exact tlX9_measures_16 C hr hex Q QX n S a0 x1 ((mI S a1 (0 : Int32).toNatClampNeg) * (mI S a2 (1 : Int32).toNatClampNeg)) 0 _ _ _ _ _ p_a0 P (lv_sub hl [2, 3, 1, 0] rfl) (by omega) (by omega) hw
def wp_X9_measures (Q : MS → Prop) (QX : String → MS → Prop) (S : MS) (a0 : Nat) (x1 : Int32) : Prop := wX9_measures_0 Q QX S a0 x1
set_option maxHeartbeats 4000000 in
set_option maxRecDepth 100000 in
theorem met_X9_measures {l : Launch} (hst : l.stackTraces = false) (G : GP) (sz : Nat) (Q : MS → Prop) (QX : String → MS → Prop) (S : MS) (a0 : Nat) (x1 : Int32) (p_a0 : pI S 9 a0) (hw : wp_X9_measures Q QX S a0 x1) : vx_Met l yX9_measures (.code yX9_measures cX9_measures 8 none :: GW) rmX9_measures (va_Pc [.ref a0, .int x1] (PR G S sz)) (QV G S (FA G S sz) Q) (XX G S (FA G S sz) QX) 0 0 (FA G S sz) := by
  refine st_m (by decide +kernel) hst (fun p e s m below meth c C hr hnm hex P => ?_)
  refine en_m (Nat.le_of_ble_eq_true rfl) (lv := [(0, .ref a0), (1, .int x1)]) rfl (fun ls hl => ?_)
  have C : CF p l s m _ meth c "SkirmishGridModel" cX9_measures 8 G (FA G S sz) := C
  exact tX9_measures_0 C hr hex Q QX S a0 x1 p_a0 P hl (by omega) (by omega) hw
theorem cd_X9_measures : yX9_measures.cls = RX9 ∧ yX9_measures.cls ≠ "java/lang/invoke/MethodHandle" ∧ yX9_measures.cls ≠ "java/lang/invoke/VarHandle" ∧ (parseMethodDescriptor yX9_measures.desc).map (fun d => d.parameters.length) = some 1 := by decide +kernel
abbrev rmX9_costsTo : Room := { frames := 5, cells := 0, slots := 0, locals := 113 }
def wX9_costsTo_0 (Q : Int32 → MS → Prop) (QX : String → MS → Prop) (S : MS) (a0 : Nat) (x1 : Int32) : Prop := (∃ a1, mR S a0 1 = some a1 ∧ (vp_in 166 (mN S a1) ∧ wp_X9_of (fun r3 S2 => ((¬ x1 = r3 → wp_X9_isFree (fun r5 S4 => ((¬ r5 = 0 → wp_X9_measures (fun S6 => (∃ a7, mR S6 a0 17 = some a7 ∧ (vp_in r3 (mN S6 a7) ∧ Q ((mI S6 a7 (r3 : Int32).toNatClampNeg) - 1) S6))) QX S4 a0 x1) ∧ (r5 = 0 → Q (-1) S4))) QX S2 a0 x1) ∧ (x1 = r3 → Q 0 S2))) QX S a0 (mI S a1 (166 : Int32).toNatClampNeg) 2))
set_option maxHeartbeats 4000000 in
set_option maxRecDepth 100000 in
theorem tX9_costsTo_0 {p : Program} {l : Launch} {e : Env} {s : State} {m : MethodId} {args : Array Value} {below : List Frame} {meth : Method} {c : Code} {H : Heap} {locs : List Loc} {cells slots : Nat} {G : GP} {A : Nat → Prop} {S0 : MS} {ls : Array Slot} (C : CF p l s m args meth c "SkirmishGridModel" cX9_costsTo 3 G A) (hr : meth.sig.returnType = (some .int)) (hex : ∀ x ∈ c.exceptionTable.toList, False) (Q : Int32 → MS → Prop) (QX : String → MS → Prop) (S : MS) (a0 : Nat) (x1 : Int32) (p_a0 : pI S 9 a0) (P : PW G A s H locs S0 S) (hl : lv_has ls 3 [(0, .ref a0), (1, .int x1)]) (hcc : cells + 0 ≤ 0) (hss : slots + 0 ≤ 0) (hw : wX9_costsTo_0 Q QX S a0 x1) : W p l e rmX9_costsTo s m args below meth c H locs cells slots (vx_MQ below (QI G S0 A Q) (XX G S0 A QX) args s 0 0 A) (F0 m 0 ls []) := by
  have hx := CF_x C
  have hb := CF_b C
  unfold wX9_costsTo_0 at hw
  refine lv_aload_n hx hb dX9_costsTo_0 rfl (lv_at hl 0 rfl) ?_
  refine lv_aload_n hx hb dX9_costsTo_1 rfl (lv_at hl 0 rfl) ?_
  obtain ⟨a1, e1, hw⟩ := hw
  have p_a1 : pI S 12 a1 := wf_r P.2.2.2.1 p_a0 e1
  refine gf_9_1 C P p_a0 e1 q_1306 dX9_costsTo_2 ?_
  refine lv_sipush (v := 166) hx hb dX9_costsTo_5 (by decide) ?_
  obtain ⟨h1, hw⟩ := hw
  refine ra_i C P p_a1 h1 dX9_costsTo_8 ?_
  refine lv_iconst (v := 2) hx hb dX9_costsTo_9 (by decide) ?_
  refine cl_i C P (run_V C P hl.1 (kd := 9) (met_X9_of (CF_n C) G H.size _ _ S a0 (mI S a1 (166 : Int32).toNatClampNeg) 2 p_a0 hw) p_a0 (by decide) rfl q_1457 q_1459 q_p34 q_10 q_1460 cd_X9_of ⟨(Nat.le_of_ble_eq_true rfl), (Nat.le_of_ble_eq_true rfl)⟩ rfl rfl (As := [.int (mI S a1 (166 : Int32).toNatClampNeg), .int 2]) (rest := []) rfl rfl (Nat.le_of_ble_eq_true rfl) dX9_costsTo_10 ⟨by show cells + 0 ≤ 0; omega, by show slots + 0 ≤ 0; omega⟩) (kx_out C hex (fun _ _ _ h => h) (by omega) (by omega)) (fun r3 S2 H locs P hE hw => ?_)
  have p_a0 : pI S2 9 a0 := pI_x hE p_a0
  refine lv_istore_n (lv' := [(2, .int r3), (0, .ref a0), (1, .int x1)]) hx hb dX9_costsTo_13 rfl hl (by decide) rfl (fun ls hl => ?_)
  refine lv_iload_n hx hb dX9_costsTo_14 rfl (lv_at hl 2 rfl) ?_
  refine lv_iload_n hx hb dX9_costsTo_15 rfl (lv_at hl 0 rfl) ?_
  refine lv_icmp_ne (tgt := 21) hx hb dX9_costsTo_16 (by decide) (fun hc => ?_) (fun hc => ?_)
  · have hw := hw.1 hc
    refine lv_aload_n hx hb dX9_costsTo_21 rfl (lv_at hl 1 rfl) ?_
    refine lv_iload_n hx hb dX9_costsTo_22 rfl (lv_at hl 2 rfl) ?_
    refine cl_i C P (run_V C P hl.1 (kd := 9) (met_X9_isFree (CF_n C) G H.size _ _ S2 a0 x1 p_a0 hw) p_a0 (by decide) rfl q_1564 q_1566 q_p51 q_10 q_1567 cd_X9_isFree ⟨(Nat.le_of_ble_eq_true rfl), (Nat.le_of_ble_eq_true rfl)⟩ rfl rfl (As := [.int x1]) (rest := []) rfl rfl (Nat.le_of_ble_eq_true rfl) dX9_costsTo_23 ⟨by show cells + 0 ≤ 0; omega, by show slots + 0 ≤ 0; omega⟩) (kx_out C hex (fun _ _ _ h => h) (by omega) (by omega)) (fun r5 S4 H locs P hE hw => ?_)
    have p_a0 : pI S4 9 a0 := pI_x hE p_a0
    refine lv_if_ne (tgt := 31) hx hb dX9_costsTo_26 (by decide) (fun hc => ?_) (fun hc => ?_)
    · have hw := hw.1 hc
      refine lv_aload_n hx hb dX9_costsTo_31 rfl (lv_at hl 1 rfl) ?_
      refine lv_iload_n hx hb dX9_costsTo_32 rfl (lv_at hl 2 rfl) ?_
      refine cl_v C P (run_V C P hl.1 (kd := 9) (met_X9_measures (CF_n C) G H.size _ _ S4 a0 x1 p_a0 hw) p_a0 (by decide) rfl q_1568 q_1570 q_p52 q_10 q_1571 cd_X9_measures ⟨(Nat.le_of_ble_eq_true rfl), (Nat.le_of_ble_eq_true rfl)⟩ rfl rfl (As := [.int x1]) (rest := []) rfl rfl (Nat.le_of_ble_eq_true rfl) dX9_costsTo_33 ⟨by show cells + 0 ≤ 0; omega, by show slots + 0 ≤ 0; omega⟩) (kx_out C hex (fun _ _ _ h => h) (by omega) (by omega)) (fun S6 H locs P hE hw => ?_)
      have p_a0 : pI S6 9 a0 := pI_x hE p_a0
      refine lv_aload_n hx hb dX9_costsTo_36 rfl (lv_at hl 1 rfl) ?_
      obtain ⟨a7, e1, hw⟩ := hw
      have p_a7 : pI S6 12 a7 := wf_r P.2.2.2.1 p_a0 e1
      refine gf_9_17 C P p_a0 e1 q_1322 dX9_costsTo_37 ?_
      refine lv_iload_n hx hb dX9_costsTo_40 rfl (lv_at hl 0 rfl) ?_
      obtain ⟨h1, hw⟩ := hw
      refine ra_i C P p_a7 h1 dX9_costsTo_41 ?_
      refine lv_iconst (v := 1) hx hb dX9_costsTo_42 (by decide) ?_
      refine lv_isub hx hb dX9_costsTo_43 ?_
      exact e_i C hr rfl P hw (by omega) (by omega) dX9_costsTo_44
    · have hw := hw.2 hc
      refine lv_iconst (v := (-1)) hx hb dX9_costsTo_29 (by decide) ?_
      exact e_i C hr rfl P hw (by omega) (by omega) dX9_costsTo_30
  · have hw := hw.2 hc
    refine lv_iconst (v := 0) hx hb dX9_costsTo_19 (by decide) ?_
    exact e_i C hr rfl P hw (by omega) (by omega) dX9_costsTo_20
def wp_X9_costsTo (Q : Int32 → MS → Prop) (QX : String → MS → Prop) (S : MS) (a0 : Nat) (x1 : Int32) : Prop := wX9_costsTo_0 Q QX S a0 x1
set_option maxHeartbeats 4000000 in
set_option maxRecDepth 100000 in
theorem met_X9_costsTo {l : Launch} (hst : l.stackTraces = false) (G : GP) (sz : Nat) (Q : Int32 → MS → Prop) (QX : String → MS → Prop) (S : MS) (a0 : Nat) (x1 : Int32) (p_a0 : pI S 9 a0) (hw : wp_X9_costsTo Q QX S a0 x1) : vx_Met l yX9_costsTo (.code yX9_costsTo cX9_costsTo 3 (some .int) :: GW) rmX9_costsTo (va_Pc [.ref a0, .int x1] (PR G S sz)) (QI G S (FA G S sz) Q) (XX G S (FA G S sz) QX) 0 0 (FA G S sz) := by
  refine st_m (by decide +kernel) hst (fun p e s m below meth c C hr hnm hex P => ?_)
  refine en_m (Nat.le_of_ble_eq_true rfl) (lv := [(0, .ref a0), (1, .int x1)]) rfl (fun ls hl => ?_)
  have C : CF p l s m _ meth c "SkirmishGridModel" cX9_costsTo 3 G (FA G S sz) := C
  exact tX9_costsTo_0 C hr hex Q QX S a0 x1 p_a0 P hl (by omega) (by omega) hw
theorem cd_X9_costsTo : yX9_costsTo.cls = RX9 ∧ yX9_costsTo.cls ≠ "java/lang/invoke/MethodHandle" ∧ yX9_costsTo.cls ≠ "java/lang/invoke/VarHandle" ∧ (parseMethodDescriptor yX9_costsTo.desc).map (fun d => d.parameters.length) = some 1 := by decide +kernel
abbrev rmX9_next : Room := { frames := 4, cells := 0, slots := 0, locals := 86 }
def wX9_next_51 (Q : Int32 → MS → Prop) (QX : String → MS → Prop) (k9 : MS → Nat → Int32 → Int32 → Int32 → Prop) (S : MS) (a0 : Nat) (y1 : Int32) (y2 : Int32) : Prop := wp_X9_step (fun r2 S1 => k9 S1 a0 y1 (y2 + 1) r2) QX S a0 y1 (y2 + 1)
set_option maxHeartbeats 4000000 in
set_option maxRecDepth 100000 in
theorem tX9_next_51 {p : Program} {l : Launch} {e : Env} {s : State} {m : MethodId} {args : Array Value} {below : List Frame} {meth : Method} {c : Code} {H : Heap} {locs : List Loc} {cells slots : Nat} {G : GP} {A : Nat → Prop} {S0 : MS} {ls : Array Slot} (C : CF p l s m args meth c "SkirmishGridModel" cX9_next 4 G A) (hr : meth.sig.returnType = (some .int)) (hex : ∀ x ∈ c.exceptionTable.toList, False) (Q : Int32 → MS → Prop) (QX : String → MS → Prop) (k9 : MS → Nat → Int32 → Int32 → Int32 → Prop) (kh9 : ∀ (S : MS) (a0 : Nat) (y1 : Int32) (y2 : Int32) (y3 : Int32) (cells slots : Nat) (H : Heap) (locs : List Loc) (ls : Array Slot), pI S 9 a0 → PW G A s H locs S0 S → lv_has ls 4 [(0, .ref a0), (1, .int y1), (2, .int y2), (3, .int y3)] → cells + 0 ≤ 0 → slots + 0 ≤ 0 → k9 S a0 y1 y2 y3 → W p l e rmX9_next s m args below meth c H locs cells slots (vx_MQ below (QI G S0 A Q) (XX G S0 A QX) args s 0 0 A) (F0 m 9 ls [])) (S : MS) (a0 : Nat) (y1 : Int32) (y2 : Int32) (p_a0 : pI S 9 a0) (P : PW G A s H locs S0 S) (hl : lv_has ls 4 [(0, .ref a0), (1, .int y1), (2, .int y2)]) (hcc : cells + 0 ≤ 0) (hss : slots + 0 ≤ 0) (hw : wX9_next_51 Q QX k9 S a0 y1 y2) : W p l e rmX9_next s m args below meth c H locs cells slots (vx_MQ below (QI G S0 A Q) (XX G S0 A QX) args s 0 0 A) (F0 m 51 ls []) := by
  have hx := CF_x C
  have hb := CF_b C
  unfold wX9_next_51 at hw
  refine lv_iinc (v := (y2 + 1)) (lv' := [(2, .int (y2 + 1)), (0, .ref a0), (1, .int y1)]) hx hb dX9_next_51 hl (k := 2) rfl (by rfl) (by decide) rfl (fun ls hl => ?_)
  refine lv_aload_n hx hb dX9_next_54 rfl (lv_at hl 1 rfl) ?_
  refine lv_iload_n hx hb dX9_next_55 rfl (lv_at hl 2 rfl) ?_
  refine lv_iload_n hx hb dX9_next_56 rfl (lv_at hl 0 rfl) ?_
  refine cl_i C P (run_V C P hl.1 (kd := 9) (met_X9_step (CF_n C) G H.size _ _ S a0 y1 (y2 + 1) p_a0 hw) p_a0 (by decide) rfl q_1572 q_1574 q_p53 q_10 q_1575 cd_X9_step ⟨(Nat.le_of_ble_eq_true rfl), (Nat.le_of_ble_eq_true rfl)⟩ rfl rfl (As := [.int y1, .int (y2 + 1)]) (rest := []) rfl rfl (Nat.le_of_ble_eq_true rfl) dX9_next_57 ⟨by show cells + 0 ≤ 0; omega, by show slots + 0 ≤ 0; omega⟩) (kx_out C hex (fun _ _ _ h => h) (by omega) (by omega)) (fun r2 S1 H locs P hE hw => ?_)
  have p_a0 : pI S1 9 a0 := pI_x hE p_a0
  refine lv_istore_n (lv' := [(3, .int r2), (2, .int (y2 + 1)), (0, .ref a0), (1, .int y1)]) hx hb dX9_next_60 rfl hl (by decide) rfl (fun ls hl => ?_)
  refine lv_goto (tgt := 9) hx hb dX9_next_61 (by decide) ?_
  exact kh9 S1 a0 y1 (y2 + 1) r2 _ _ _ _ _ p_a0 P (lv_sub hl [2, 3, 1, 0] rfl) (by omega) (by omega) hw
def wX9_next_9 (Q : Int32 → MS → Prop) (QX : String → MS → Prop) (k9 : MS → Nat → Int32 → Int32 → Int32 → Prop) (S : MS) (a0 : Nat) (y1 : Int32) (y2 : Int32) (y3 : Int32) : Prop := ((y3 < 0 → wX9_next_51 Q QX k9 S a0 y1 y2) ∧ (¬ y3 < 0 → (∃ a1, mR S a0 17 = some a1 ∧ (vp_in y3 (mN S a1) ∧ (((mI S a1 (y3 : Int32).toNatClampNeg) = 0 → wX9_next_51 Q QX k9 S a0 y1 y2) ∧ (¬ (mI S a1 (y3 : Int32).toNatClampNeg) = 0 → wp_X9_isFree (fun r3 S2 => ((r3 = 0 → wX9_next_51 Q QX k9 S2 a0 y1 y2) ∧ (¬ r3 = 0 → (∃ a4, mR S2 a0 17 = some a4 ∧ (vp_in y3 (mN S2 a4) ∧ wp_X9_price (fun r6 S5 => (∃ a7, mR S5 a0 17 = some a7 ∧ (vp_in y1 (mN S5 a7) ∧ ((((mI S2 a4 (y3 : Int32).toNatClampNeg) + r6) = (mI S5 a7 (y1 : Int32).toNatClampNeg) → Q y3 S5) ∧ (¬ ((mI S2 a4 (y3 : Int32).toNatClampNeg) + r6) = (mI S5 a7 (y1 : Int32).toNatClampNeg) → wX9_next_51 Q QX k9 S5 a0 y1 y2))))) QX S2 a0 y3))))) QX S a0 y3))))))
set_option maxHeartbeats 4000000 in
set_option maxRecDepth 100000 in
theorem tX9_next_9 {p : Program} {l : Launch} {e : Env} {s : State} {m : MethodId} {args : Array Value} {below : List Frame} {meth : Method} {c : Code} {H : Heap} {locs : List Loc} {cells slots : Nat} {G : GP} {A : Nat → Prop} {S0 : MS} {ls : Array Slot} (C : CF p l s m args meth c "SkirmishGridModel" cX9_next 4 G A) (hr : meth.sig.returnType = (some .int)) (hex : ∀ x ∈ c.exceptionTable.toList, False) (Q : Int32 → MS → Prop) (QX : String → MS → Prop) (k9 : MS → Nat → Int32 → Int32 → Int32 → Prop) (kh9 : ∀ (S : MS) (a0 : Nat) (y1 : Int32) (y2 : Int32) (y3 : Int32) (cells slots : Nat) (H : Heap) (locs : List Loc) (ls : Array Slot), pI S 9 a0 → PW G A s H locs S0 S → lv_has ls 4 [(0, .ref a0), (1, .int y1), (2, .int y2), (3, .int y3)] → cells + 0 ≤ 0 → slots + 0 ≤ 0 → k9 S a0 y1 y2 y3 → W p l e rmX9_next s m args below meth c H locs cells slots (vx_MQ below (QI G S0 A Q) (XX G S0 A QX) args s 0 0 A) (F0 m 9 ls [])) (S : MS) (a0 : Nat) (y1 : Int32) (y2 : Int32) (y3 : Int32) (p_a0 : pI S 9 a0) (P : PW G A s H locs S0 S) (hl : lv_has ls 4 [(0, .ref a0), (1, .int y1), (2, .int y2), (3, .int y3)]) (hcc : cells + 0 ≤ 0) (hss : slots + 0 ≤ 0) (hw : wX9_next_9 Q QX k9 S a0 y1 y2 y3) : W p l e rmX9_next s m args below meth c H locs cells slots (vx_MQ below (QI G S0 A Q) (XX G S0 A QX) args s 0 0 A) (F0 m 9 ls []) := by
  have hx := CF_x C
  have hb := CF_b C
  unfold wX9_next_9 at hw
  refine lv_iload_n hx hb dX9_next_9 rfl (lv_at hl 3 rfl) ?_
  refine lv_if_lt (tgt := 51) hx hb dX9_next_10 (by decide) (fun hc => ?_) (fun hc => ?_)
  · have hw := hw.1 hc
    exact tX9_next_51 C hr hex Q QX k9 kh9 S a0 y1 y2 p_a0 P (lv_sub hl [0, 1, 2] rfl) (by omega) (by omega) hw
  · have hw := hw.2 hc
    refine lv_aload_n hx hb dX9_next_13 rfl (lv_at hl 0 rfl) ?_
    obtain ⟨a1, e1, hw⟩ := hw
    have p_a1 : pI S 12 a1 := wf_r P.2.2.2.1 p_a0 e1
    refine gf_9_17 C P p_a0 e1 q_1322 dX9_next_14 ?_
    refine lv_iload_n hx hb dX9_next_17 rfl (lv_at hl 3 rfl) ?_
    obtain ⟨h1, hw⟩ := hw
    refine ra_i C P p_a1 h1 dX9_next_18 ?_
    refine lv_if_eq (tgt := 51) hx hb dX9_next_19 (by decide) (fun hc => ?_) (fun hc => ?_)
    · have hw := hw.1 hc
      exact tX9_next_51 C hr hex Q QX k9 kh9 S a0 y1 y2 p_a0 P (lv_sub hl [0, 1, 2] rfl) (by omega) (by omega) hw
    · have hw := hw.2 hc
      refine lv_aload_n hx hb dX9_next_22 rfl (lv_at hl 0 rfl) ?_
      refine lv_iload_n hx hb dX9_next_23 rfl (lv_at hl 3 rfl) ?_
      refine cl_i C P (run_V C P hl.1 (kd := 9) (met_X9_isFree (CF_n C) G H.size _ _ S a0 y3 p_a0 hw) p_a0 (by decide) rfl q_1564 q_1566 q_p51 q_10 q_1567 cd_X9_isFree ⟨(Nat.le_of_ble_eq_true rfl), (Nat.le_of_ble_eq_true rfl)⟩ rfl rfl (As := [.int y3]) (rest := []) rfl rfl (Nat.le_of_ble_eq_true rfl) dX9_next_24 ⟨by show cells + 0 ≤ 0; omega, by show slots + 0 ≤ 0; omega⟩) (kx_out C hex (fun _ _ _ h => h) (by omega) (by omega)) (fun r3 S2 H locs P hE hw => ?_)
      have p_a0 : pI S2 9 a0 := pI_x hE p_a0
      refine lv_if_eq (tgt := 51) hx hb dX9_next_27 (by decide) (fun hc => ?_) (fun hc => ?_)
      · have hw := hw.1 hc
        exact tX9_next_51 C hr hex Q QX k9 kh9 S2 a0 y1 y2 p_a0 P (lv_sub hl [0, 1, 2] rfl) (by omega) (by omega) hw
      · have hw := hw.2 hc
        refine lv_aload_n hx hb dX9_next_30 rfl (lv_at hl 0 rfl) ?_
        obtain ⟨a4, e1, hw⟩ := hw
        have p_a4 : pI S2 12 a4 := wf_r P.2.2.2.1 p_a0 e1
        refine gf_9_17 C P p_a0 e1 q_1322 dX9_next_31 ?_
        refine lv_iload_n hx hb dX9_next_34 rfl (lv_at hl 3 rfl) ?_
        obtain ⟨h1, hw⟩ := hw
        refine ra_i C P p_a4 h1 dX9_next_35 ?_
        refine lv_aload_n hx hb dX9_next_36 rfl (lv_at hl 0 rfl) ?_
        refine lv_iload_n hx hb dX9_next_37 rfl (lv_at hl 3 rfl) ?_
        refine cl_i C P (run_V C P hl.1 (kd := 9) (met_X9_price (CF_n C) G H.size _ _ S2 a0 y3 p_a0 hw) p_a0 (by decide) rfl q_1576 q_1578 q_p54 q_10 q_1579 cd_X9_price ⟨(Nat.le_of_ble_eq_true rfl), (Nat.le_of_ble_eq_true rfl)⟩ rfl rfl (As := [.int y3]) (rest := [.int (mI S2 a4 (y3 : Int32).toNatClampNeg)]) rfl rfl (Nat.le_of_ble_eq_true rfl) dX9_next_38 ⟨by show cells + 0 ≤ 0; omega, by show slots + 0 ≤ 0; omega⟩) (kx_out C hex (fun _ _ _ h => h) (by omega) (by omega)) (fun r6 S5 H locs P hE hw => ?_)
        have p_a0 : pI S5 9 a0 := pI_x hE p_a0
        refine lv_iadd hx hb dX9_next_41 ?_
        refine lv_aload_n hx hb dX9_next_42 rfl (lv_at hl 0 rfl) ?_
        obtain ⟨a7, e1, hw⟩ := hw
        have p_a7 : pI S5 12 a7 := wf_r P.2.2.2.1 p_a0 e1
        refine gf_9_17 C P p_a0 e1 q_1322 dX9_next_43 ?_
        refine lv_iload_n hx hb dX9_next_46 rfl (lv_at hl 1 rfl) ?_
        obtain ⟨h1, hw⟩ := hw
        refine ra_i C P p_a7 h1 dX9_next_47 ?_
        refine lv_icmp_eq (tgt := 64) hx hb dX9_next_48 (by decide) (fun hc => ?_) (fun hc => ?_)
        · have hw := hw.1 hc
          refine lv_iload_n hx hb dX9_next_64 rfl (lv_at hl 3 rfl) ?_
          exact e_i C hr rfl P hw (by omega) (by omega) dX9_next_65
        · have hw := hw.2 hc
          exact tX9_next_51 C hr hex Q QX k9 kh9 S5 a0 y1 y2 p_a0 P (lv_sub hl [0, 1, 2] rfl) (by omega) (by omega) hw
def lX9_next_9 (Q : Int32 → MS → Prop) (QX : String → MS → Prop) : Nat → MS → Nat → Int32 → Int32 → Int32 → Prop
  | 0 => fun _ _ _ _ _ => False
  | n + 1 => fun S a0 y1 y2 y3 => wX9_next_9 Q QX (lX9_next_9 Q QX n) S a0 y1 y2 y3
theorem tlX9_next_9 {p : Program} {l : Launch} {e : Env} {s : State} {m : MethodId} {args : Array Value} {below : List Frame} {meth : Method} {c : Code} {G : GP} {A : Nat → Prop} {S0 : MS} (C : CF p l s m args meth c "SkirmishGridModel" cX9_next 4 G A) (hr : meth.sig.returnType = (some .int)) (hex : ∀ x ∈ c.exceptionTable.toList, False) (Q : Int32 → MS → Prop) (QX : String → MS → Prop) : ∀ (n : Nat), ∀ (S : MS) (a0 : Nat) (y1 : Int32) (y2 : Int32) (y3 : Int32) (cells slots : Nat) (H : Heap) (locs : List Loc) (ls : Array Slot), pI S 9 a0 → PW G A s H locs S0 S → lv_has ls 4 [(0, .ref a0), (1, .int y1), (2, .int y2), (3, .int y3)] → cells + 0 ≤ 0 → slots + 0 ≤ 0 → lX9_next_9 Q QX n S a0 y1 y2 y3 → W p l e rmX9_next s m args below meth c H locs cells slots (vx_MQ below (QI G S0 A Q) (XX G S0 A QX) args s 0 0 A) (F0 m 9 ls []) := by
  intro n
  induction n with
  | zero => intro S a0 y1 y2 y3 cells slots H locs ls p_a0 P hl hcc hss hw; exact hw.elim
  | succ n ih => intro S a0 y1 y2 y3 cells slots H locs ls p_a0 P hl hcc hss hw; exact tX9_next_9 C hr hex Q QX (lX9_next_9 Q QX n) ih S a0 y1 y2 y3 p_a0 P hl hcc hss hw
def wX9_next_0 (Q : Int32 → MS → Prop) (QX : String → MS → Prop) (S : MS) (a0 : Nat) (x1 : Int32) : Prop := wp_X9_step (fun r2 S1 => (∃ n, lX9_next_9 Q QX n S1 a0 x1 0 r2)) QX S a0 x1 0
set_option maxHeartbeats 4000000 in
set_option maxRecDepth 100000 in
theorem tX9_next_0 {p : Program} {l : Launch} {e : Env} {s : State} {m : MethodId} {args : Array Value} {below : List Frame} {meth : Method} {c : Code} {H : Heap} {locs : List Loc} {cells slots : Nat} {G : GP} {A : Nat → Prop} {S0 : MS} {ls : Array Slot} (C : CF p l s m args meth c "SkirmishGridModel" cX9_next 4 G A) (hr : meth.sig.returnType = (some .int)) (hex : ∀ x ∈ c.exceptionTable.toList, False) (Q : Int32 → MS → Prop) (QX : String → MS → Prop) (S : MS) (a0 : Nat) (x1 : Int32) (p_a0 : pI S 9 a0) (P : PW G A s H locs S0 S) (hl : lv_has ls 4 [(0, .ref a0), (1, .int x1)]) (hcc : cells + 0 ≤ 0) (hss : slots + 0 ≤ 0) (hw : wX9_next_0 Q QX S a0 x1) : W p l e rmX9_next s m args below meth c H locs cells slots (vx_MQ below (QI G S0 A Q) (XX G S0 A QX) args s 0 0 A) (F0 m 0 ls []) := by
  have hx := CF_x C
  have hb := CF_b C
  unfold wX9_next_0 at hw
  refine lv_iconst (v := 0) hx hb dX9_next_0 (by decide) ?_
  refine lv_istore_n (lv' := [(2, .int 0), (0, .ref a0), (1, .int x1)]) hx hb dX9_next_1 rfl hl (by decide) rfl (fun ls hl => ?_)
  refine lv_aload_n hx hb dX9_next_2 rfl (lv_at hl 1 rfl) ?_
  refine lv_iload_n hx hb dX9_next_3 rfl (lv_at hl 2 rfl) ?_
  refine lv_iconst (v := 0) hx hb dX9_next_4 (by decide) ?_
  refine cl_i C P (run_V C P hl.1 (kd := 9) (met_X9_step (CF_n C) G H.size _ _ S a0 x1 0 p_a0 hw) p_a0 (by decide) rfl q_1572 q_1574 q_p53 q_10 q_1575 cd_X9_step ⟨(Nat.le_of_ble_eq_true rfl), (Nat.le_of_ble_eq_true rfl)⟩ rfl rfl (As := [.int x1, .int 0]) (rest := []) rfl rfl (Nat.le_of_ble_eq_true rfl) dX9_next_5 ⟨by show cells + 0 ≤ 0; omega, by show slots + 0 ≤ 0; omega⟩) (kx_out C hex (fun _ _ _ h => h) (by omega) (by omega)) (fun r2 S1 H locs P hE hw => ?_)
  have p_a0 : pI S1 9 a0 := pI_x hE p_a0
  refine lv_istore_n (lv' := [(3, .int r2), (2, .int 0), (0, .ref a0), (1, .int x1)]) hx hb dX9_next_8 rfl hl (by decide) rfl (fun ls hl => ?_)
  obtain ⟨n, hw⟩ := hw
  exact tlX9_next_9 C hr hex Q QX n S1 a0 x1 0 r2 _ _ _ _ _ p_a0 P (lv_sub hl [2, 3, 1, 0] rfl) (by omega) (by omega) hw
def wp_X9_next (Q : Int32 → MS → Prop) (QX : String → MS → Prop) (S : MS) (a0 : Nat) (x1 : Int32) : Prop := wX9_next_0 Q QX S a0 x1
set_option maxHeartbeats 4000000 in
set_option maxRecDepth 100000 in
theorem met_X9_next {l : Launch} (hst : l.stackTraces = false) (G : GP) (sz : Nat) (Q : Int32 → MS → Prop) (QX : String → MS → Prop) (S : MS) (a0 : Nat) (x1 : Int32) (p_a0 : pI S 9 a0) (hw : wp_X9_next Q QX S a0 x1) : vx_Met l yX9_next (.code yX9_next cX9_next 4 (some .int) :: GW) rmX9_next (va_Pc [.ref a0, .int x1] (PR G S sz)) (QI G S (FA G S sz) Q) (XX G S (FA G S sz) QX) 0 0 (FA G S sz) := by
  refine st_m (by decide +kernel) hst (fun p e s m below meth c C hr hnm hex P => ?_)
  refine en_m (Nat.le_of_ble_eq_true rfl) (lv := [(0, .ref a0), (1, .int x1)]) rfl (fun ls hl => ?_)
  have C : CF p l s m _ meth c "SkirmishGridModel" cX9_next 4 G (FA G S sz) := C
  exact tX9_next_0 C hr hex Q QX S a0 x1 p_a0 P hl (by omega) (by omega) hw
theorem cd_X9_next : yX9_next.cls = RX9 ∧ yX9_next.cls ≠ "java/lang/invoke/MethodHandle" ∧ yX9_next.cls ≠ "java/lang/invoke/VarHandle" ∧ (parseMethodDescriptor yX9_next.desc).map (fun d => d.parameters.length) = some 1 := by decide +kernel
abbrev rmX9_mayAsk : Room := { frames := 4, cells := 0, slots := 0, locals := 88 }
def wX9_mayAsk_22 (Q : Int32 → MS → Prop) (QX : String → MS → Prop) (S : MS) (a0 : Nat) (z0 : Int32) (w1 : Nat) : Prop := (∀ S1, S1 = (sI S w1 0 z0) → ((¬ (mI S1 a0 0) = 0 → Q 0 S1) ∧ ((mI S1 a0 0) = 0 → Q 1 S1)))
set_option maxHeartbeats 4000000 in
set_option maxRecDepth 100000 in
theorem tX9_mayAsk_22 {p : Program} {l : Launch} {e : Env} {s : State} {m : MethodId} {args : Array Value} {below : List Frame} {meth : Method} {c : Code} {H : Heap} {locs : List Loc} {cells slots : Nat} {G : GP} {A : Nat → Prop} {S0 : MS} {ls : Array Slot} (C : CF p l s m args meth c "SkirmishGridModel" cX9_mayAsk 2 G A) (hr : meth.sig.returnType = (some .boolean)) (hex : ∀ x ∈ c.exceptionTable.toList, False) (Q : Int32 → MS → Prop) (QX : String → MS → Prop) (S : MS) (a0 : Nat) (z0 : Int32) (w1 : Nat) (p_a0 : pI S 9 a0) (p_w1 : pI S 9 w1) (P : PW G A s H locs S0 S) (hl : lv_has ls 2 [(0, .ref a0)]) (hcc : cells + 0 ≤ 0) (hss : slots + 0 ≤ 0) (hw : wX9_mayAsk_22 Q QX S a0 z0 w1) : W p l e rmX9_mayAsk s m args below meth c H locs cells slots (vx_MQ below (QI G S0 A Q) (XX G S0 A QX) args s 0 0 A) (F0 m 22 ls [.int z0, .ref w1]) := by
  have hx := CF_x C
  have hb := CF_b C
  unfold wX9_mayAsk_22 at hw
  refine pf_9_0 C P p_w1 q_1305 dX9_mayAsk_22 (fun H locs P => ?_)
  obtain ⟨S1, hS⟩ : ∃ z, z = (sI S w1 0 z0) := ⟨_, rfl⟩
  have P : PW G A s H locs S0 S1 := by rw [hS]; exact P
  have p_a0 : pI S1 9 a0 := by rw [hS]; exact pI_x ext_sI p_a0
  have p_w1 : pI S1 9 w1 := by rw [hS]; exact pI_x ext_sI p_w1
  have hw := hw S1 hS
  refine lv_aload_n hx hb dX9_mayAsk_25 rfl (lv_at hl 0 rfl) ?_
  refine gf_9_0 C P p_a0 q_1305 dX9_mayAsk_26 ?_
  refine lv_if_ne (tgt := 36) hx hb dX9_mayAsk_29 (by decide) (fun hc => ?_) (fun hc => ?_)
  · have hw := hw.1 hc
    refine lv_iconst (v := 0) hx hb dX9_mayAsk_36 (by decide) ?_
    exact e_i C hr (by decide +kernel) P hw (by omega) (by omega) dX9_mayAsk_37
  · have hw := hw.2 hc
    refine lv_iconst (v := 1) hx hb dX9_mayAsk_32 (by decide) ?_
    refine lv_goto (tgt := 37) hx hb dX9_mayAsk_33 (by decide) ?_
    exact e_i C hr (by decide +kernel) P hw (by omega) (by omega) dX9_mayAsk_37
def wX9_mayAsk_0 (Q : Int32 → MS → Prop) (QX : String → MS → Prop) (S : MS) (a0 : Nat) (x1 : Int32) : Prop := ((¬ x1 = 0 → wp_X9_conditions (fun r2 S1 => ((r2 = 1 → wX9_mayAsk_22 Q QX S1 a0 0 a0) ∧ (¬ r2 = 1 → wX9_mayAsk_22 Q QX S1 a0 2 a0))) QX S a0) ∧ (x1 = 0 → wX9_mayAsk_22 Q QX S a0 1 a0))
set_option maxHeartbeats 4000000 in
set_option maxRecDepth 100000 in
theorem tX9_mayAsk_0 {p : Program} {l : Launch} {e : Env} {s : State} {m : MethodId} {args : Array Value} {below : List Frame} {meth : Method} {c : Code} {H : Heap} {locs : List Loc} {cells slots : Nat} {G : GP} {A : Nat → Prop} {S0 : MS} {ls : Array Slot} (C : CF p l s m args meth c "SkirmishGridModel" cX9_mayAsk 2 G A) (hr : meth.sig.returnType = (some .boolean)) (hex : ∀ x ∈ c.exceptionTable.toList, False) (Q : Int32 → MS → Prop) (QX : String → MS → Prop) (S : MS) (a0 : Nat) (x1 : Int32) (p_a0 : pI S 9 a0) (P : PW G A s H locs S0 S) (hl : lv_has ls 2 [(0, .ref a0), (1, .int x1)]) (hcc : cells + 0 ≤ 0) (hss : slots + 0 ≤ 0) (hw : wX9_mayAsk_0 Q QX S a0 x1) : W p l e rmX9_mayAsk s m args below meth c H locs cells slots (vx_MQ below (QI G S0 A Q) (XX G S0 A QX) args s 0 0 A) (F0 m 0 ls []) := by
  have hx := CF_x C
  have hb := CF_b C
  unfold wX9_mayAsk_0 at hw
  refine lv_aload_n hx hb dX9_mayAsk_0 rfl (lv_at hl 0 rfl) ?_
  refine lv_iload_n hx hb dX9_mayAsk_1 rfl (lv_at hl 1 rfl) ?_
  refine lv_if_ne (tgt := 9) hx hb dX9_mayAsk_2 (by decide) (fun hc => ?_) (fun hc => ?_)
  · have hw := hw.1 hc
    refine lv_aload_n hx hb dX9_mayAsk_9 rfl (lv_at hl 0 rfl) ?_
    refine cl_i C P (run_V C P hl.1 (kd := 9) (met_X9_conditions (CF_n C) G H.size _ _ S a0 p_a0 hw) p_a0 (by decide) rfl q_1488 q_1490 q_p38 q_10 q_1491 cd_X9_conditions ⟨(Nat.le_of_ble_eq_true rfl), (Nat.le_of_ble_eq_true rfl)⟩ rfl rfl (As := []) (rest := [.ref a0]) rfl rfl (Nat.le_of_ble_eq_true rfl) dX9_mayAsk_10 ⟨by show cells + 0 ≤ 0; omega, by show slots + 0 ≤ 0; omega⟩) (kx_out C hex (fun _ _ _ h => h) (by omega) (by omega)) (fun r2 S1 H locs P hE hw => ?_)
    have p_a0 : pI S1 9 a0 := pI_x hE p_a0
    refine lv_iconst (v := 1) hx hb dX9_mayAsk_13 (by decide) ?_
    refine lv_icmp_eq (tgt := 21) hx hb dX9_mayAsk_14 (by decide) (fun hc => ?_) (fun hc => ?_)
    · have hw := hw.1 hc
      refine lv_iconst (v := 0) hx hb dX9_mayAsk_21 (by decide) ?_
      exact tX9_mayAsk_22 C hr hex Q QX S1 a0 0 a0 p_a0 p_a0 P (lv_sub hl [0] rfl) (by omega) (by omega) hw
    · have hw := hw.2 hc
      refine lv_iconst (v := 2) hx hb dX9_mayAsk_17 (by decide) ?_
      refine lv_goto (tgt := 22) hx hb dX9_mayAsk_18 (by decide) ?_
      exact tX9_mayAsk_22 C hr hex Q QX S1 a0 2 a0 p_a0 p_a0 P (lv_sub hl [0] rfl) (by omega) (by omega) hw
  · have hw := hw.2 hc
    refine lv_iconst (v := 1) hx hb dX9_mayAsk_5 (by decide) ?_
    refine lv_goto (tgt := 22) hx hb dX9_mayAsk_6 (by decide) ?_
    exact tX9_mayAsk_22 C hr hex Q QX S a0 1 a0 p_a0 p_a0 P (lv_sub hl [0] rfl) (by omega) (by omega) hw
def wp_X9_mayAsk (Q : Int32 → MS → Prop) (QX : String → MS → Prop) (S : MS) (a0 : Nat) (x1 : Int32) : Prop := wX9_mayAsk_0 Q QX S a0 x1
set_option maxHeartbeats 4000000 in
set_option maxRecDepth 100000 in
theorem met_X9_mayAsk {l : Launch} (hst : l.stackTraces = false) (G : GP) (sz : Nat) (Q : Int32 → MS → Prop) (QX : String → MS → Prop) (S : MS) (a0 : Nat) (x1 : Int32) (p_a0 : pI S 9 a0) (hw : wp_X9_mayAsk Q QX S a0 x1) : vx_Met l yX9_mayAsk (.code yX9_mayAsk cX9_mayAsk 2 (some .boolean) :: GW) rmX9_mayAsk (va_Pc [.ref a0, .int x1] (PR G S sz)) (QI G S (FA G S sz) Q) (XX G S (FA G S sz) QX) 0 0 (FA G S sz) := by
  refine st_m (by decide +kernel) hst (fun p e s m below meth c C hr hnm hex P => ?_)
  refine en_m (Nat.le_of_ble_eq_true rfl) (lv := [(0, .ref a0), (1, .int x1)]) rfl (fun ls hl => ?_)
  have C : CF p l s m _ meth c "SkirmishGridModel" cX9_mayAsk 2 G (FA G S sz) := C
  exact tX9_mayAsk_0 C hr hex Q QX S a0 x1 p_a0 P hl (by omega) (by omega) hw
theorem cd_X9_mayAsk : yX9_mayAsk.cls = RX9 ∧ yX9_mayAsk.cls ≠ "java/lang/invoke/MethodHandle" ∧ yX9_mayAsk.cls ≠ "java/lang/invoke/VarHandle" ∧ (parseMethodDescriptor yX9_mayAsk.desc).map (fun d => d.parameters.length) = some 1 := by decide +kernel
abbrev rmX9_costs : Room := { frames := 6, cells := 0, slots := 0, locals := 135 }
def wX9_costs_0 (Q : Int32 → MS → Prop) (QX : String → MS → Prop) (S : MS) (a0 : Nat) (x1 : Int32) : Prop := wp_X9_isCell (fun r2 S1 => wp_X9_mayAsk (fun r4 S3 => ((¬ r4 = 0 → wp_X9_costsTo (fun r6 S5 => ((0 ≤ r6 → Q r6 S5) ∧ (¬ 0 ≤ r6 → wp_X9_no (fun r8 S7 => Q r8 S7) QX S5 a0 3))) QX S3 a0 x1) ∧ (r4 = 0 → Q 0 S3))) QX S1 a0 r2) QX S a0 x1
set_option maxHeartbeats 4000000 in
set_option maxRecDepth 100000 in
theorem tX9_costs_0 {p : Program} {l : Launch} {e : Env} {s : State} {m : MethodId} {args : Array Value} {below : List Frame} {meth : Method} {c : Code} {H : Heap} {locs : List Loc} {cells slots : Nat} {G : GP} {A : Nat → Prop} {S0 : MS} {ls : Array Slot} (C : CF p l s m args meth c "SkirmishGridModel" cX9_costs 3 G A) (hr : meth.sig.returnType = (some .int)) (hex : ∀ x ∈ c.exceptionTable.toList, False) (Q : Int32 → MS → Prop) (QX : String → MS → Prop) (S : MS) (a0 : Nat) (x1 : Int32) (p_a0 : pI S 9 a0) (P : PW G A s H locs S0 S) (hl : lv_has ls 3 [(0, .ref a0), (1, .int x1)]) (hcc : cells + 0 ≤ 0) (hss : slots + 0 ≤ 0) (hw : wX9_costs_0 Q QX S a0 x1) : W p l e rmX9_costs s m args below meth c H locs cells slots (vx_MQ below (QI G S0 A Q) (XX G S0 A QX) args s 0 0 A) (F0 m 0 ls []) := by
  have hx := CF_x C
  have hb := CF_b C
  unfold wX9_costs_0 at hw
  refine lv_aload_n hx hb dX9_costs_0 rfl (lv_at hl 0 rfl) ?_
  refine lv_aload_n hx hb dX9_costs_1 rfl (lv_at hl 0 rfl) ?_
  refine lv_iload_n hx hb dX9_costs_2 rfl (lv_at hl 1 rfl) ?_
  refine cl_i C P (run_V C P hl.1 (kd := 9) (met_X9_isCell (CF_n C) G H.size _ _ S a0 x1 p_a0 hw) p_a0 (by decide) rfl q_1417 q_1419 q_p26 q_10 q_1420 cd_X9_isCell ⟨(Nat.le_of_ble_eq_true rfl), (Nat.le_of_ble_eq_true rfl)⟩ rfl rfl (As := [.int x1]) (rest := [.ref a0]) rfl rfl (Nat.le_of_ble_eq_true rfl) dX9_costs_3 ⟨by show cells + 0 ≤ 0; omega, by show slots + 0 ≤ 0; omega⟩) (kx_out C hex (fun _ _ _ h => h) (by omega) (by omega)) (fun r2 S1 H locs P hE hw => ?_)
  have p_a0 : pI S1 9 a0 := pI_x hE p_a0
  refine cl_i C P (run_V C P hl.1 (kd := 9) (met_X9_mayAsk (CF_n C) G H.size _ _ S1 a0 r2 p_a0 hw) p_a0 (by decide) rfl q_1556 q_1558 q_p49 q_10 q_1559 cd_X9_mayAsk ⟨(Nat.le_of_ble_eq_true rfl), (Nat.le_of_ble_eq_true rfl)⟩ rfl rfl (As := [.int r2]) (rest := []) rfl rfl (Nat.le_of_ble_eq_true rfl) dX9_costs_6 ⟨by show cells + 0 ≤ 0; omega, by show slots + 0 ≤ 0; omega⟩) (kx_out C hex (fun _ _ _ h => h) (by omega) (by omega)) (fun r4 S3 H locs P hE hw => ?_)
  have p_a0 : pI S3 9 a0 := pI_x hE p_a0
  refine lv_if_ne (tgt := 14) hx hb dX9_costs_9 (by decide) (fun hc => ?_) (fun hc => ?_)
  · have hw := hw.1 hc
    refine lv_aload_n hx hb dX9_costs_14 rfl (lv_at hl 0 rfl) ?_
    refine lv_iload_n hx hb dX9_costs_15 rfl (lv_at hl 1 rfl) ?_
    refine cl_i C P (run_V C P hl.1 (kd := 9) (met_X9_costsTo (CF_n C) G H.size _ _ S3 a0 x1 p_a0 hw) p_a0 (by decide) rfl q_1560 q_1562 q_p50 q_10 q_1563 cd_X9_costsTo ⟨(Nat.le_of_ble_eq_true rfl), (Nat.le_of_ble_eq_true rfl)⟩ rfl rfl (As := [.int x1]) (rest := []) rfl rfl (Nat.le_of_ble_eq_true rfl) dX9_costs_16 ⟨by show cells + 0 ≤ 0; omega, by show slots + 0 ≤ 0; omega⟩) (kx_out C hex (fun _ _ _ h => h) (by omega) (by omega)) (fun r6 S5 H locs P hE hw => ?_)
    have p_a0 : pI S5 9 a0 := pI_x hE p_a0
    refine lv_istore_n (lv' := [(2, .int r6), (0, .ref a0), (1, .int x1)]) hx hb dX9_costs_19 rfl hl (by decide) rfl (fun ls hl => ?_)
    refine lv_iload_n hx hb dX9_costs_20 rfl (lv_at hl 0 rfl) ?_
    refine lv_if_ge (tgt := 32) hx hb dX9_costs_21 (by decide) (fun hc => ?_) (fun hc => ?_)
    · have hw := hw.1 hc
      refine lv_iload_n hx hb dX9_costs_32 rfl (lv_at hl 0 rfl) ?_
      exact e_i C hr rfl P hw (by omega) (by omega) dX9_costs_33
    · have hw := hw.2 hc
      refine lv_aload_n hx hb dX9_costs_24 rfl (lv_at hl 1 rfl) ?_
      refine lv_iconst (v := 3) hx hb dX9_costs_25 (by decide) ?_
      refine cl_i C P (run_V C P hl.1 (kd := 9) (met_X9_no (CF_n C) G H.size _ _ S5 a0 3 p_a0 hw) p_a0 (by decide) rfl q_1386 q_1388 q_p23 q_10 q_1389 cd_X9_no ⟨(Nat.le_of_ble_eq_true rfl), (Nat.le_of_ble_eq_true rfl)⟩ rfl rfl (As := [.int 3]) (rest := []) rfl rfl (Nat.le_of_ble_eq_true rfl) dX9_costs_26 ⟨by show cells + 0 ≤ 0; omega, by show slots + 0 ≤ 0; omega⟩) (kx_out C hex (fun _ _ _ h => h) (by omega) (by omega)) (fun r8 S7 H locs P hE hw => ?_)
      have p_a0 : pI S7 9 a0 := pI_x hE p_a0
      refine lv_goto (tgt := 33) hx hb dX9_costs_29 (by decide) ?_
      exact e_i C hr rfl P hw (by omega) (by omega) dX9_costs_33
  · have hw := hw.2 hc
    refine lv_iconst (v := 0) hx hb dX9_costs_12 (by decide) ?_
    exact e_i C hr rfl P hw (by omega) (by omega) dX9_costs_13
def wp_X9_costs (Q : Int32 → MS → Prop) (QX : String → MS → Prop) (S : MS) (a0 : Nat) (x1 : Int32) : Prop := wX9_costs_0 Q QX S a0 x1
set_option maxHeartbeats 4000000 in
set_option maxRecDepth 100000 in
theorem met_X9_costs {l : Launch} (hst : l.stackTraces = false) (G : GP) (sz : Nat) (Q : Int32 → MS → Prop) (QX : String → MS → Prop) (S : MS) (a0 : Nat) (x1 : Int32) (p_a0 : pI S 9 a0) (hw : wp_X9_costs Q QX S a0 x1) : vx_Met l yX9_costs (.code yX9_costs cX9_costs 3 (some .int) :: GW) rmX9_costs (va_Pc [.ref a0, .int x1] (PR G S sz)) (QI G S (FA G S sz) Q) (XX G S (FA G S sz) QX) 0 0 (FA G S sz) := by
  refine st_m (by decide +kernel) hst (fun p e s m below meth c C hr hnm hex P => ?_)
  refine en_m (Nat.le_of_ble_eq_true rfl) (lv := [(0, .ref a0), (1, .int x1)]) rfl (fun ls hl => ?_)
  have C : CF p l s m _ meth c "SkirmishGridModel" cX9_costs 3 G (FA G S sz) := C
  exact tX9_costs_0 C hr hex Q QX S a0 x1 p_a0 P hl (by omega) (by omega) hw
theorem cd_X9_costs : yX9_costs.cls = RX9 ∧ yX9_costs.cls ≠ "java/lang/invoke/MethodHandle" ∧ yX9_costs.cls ≠ "java/lang/invoke/VarHandle" ∧ (parseMethodDescriptor yX9_costs.desc).map (fun d => d.parameters.length) = some 1 := by decide +kernel
abbrev rmX9_pathCell : Room := { frames := 6, cells := 0, slots := 0, locals := 135 }
def wX9_pathCell_26 (Q : Int32 → MS → Prop) (QX : String → MS → Prop) (S : MS) (a0 : Nat) : Prop := wp_X9_no (fun r2 S1 => Q r2 S1) QX S a0 3
set_option maxHeartbeats 4000000 in
set_option maxRecDepth 100000 in
theorem tX9_pathCell_26 {p : Program} {l : Launch} {e : Env} {s : State} {m : MethodId} {args : Array Value} {below : List Frame} {meth : Method} {c : Code} {H : Heap} {locs : List Loc} {cells slots : Nat} {G : GP} {A : Nat → Prop} {S0 : MS} {ls : Array Slot} (C : CF p l s m args meth c "SkirmishGridModel" cX9_pathCell 5 G A) (hr : meth.sig.returnType = (some .int)) (hex : ∀ x ∈ c.exceptionTable.toList, False) (Q : Int32 → MS → Prop) (QX : String → MS → Prop) (S : MS) (a0 : Nat) (p_a0 : pI S 9 a0) (P : PW G A s H locs S0 S) (hl : lv_has ls 5 [(0, .ref a0)]) (hcc : cells + 0 ≤ 0) (hss : slots + 0 ≤ 0) (hw : wX9_pathCell_26 Q QX S a0) : W p l e rmX9_pathCell s m args below meth c H locs cells slots (vx_MQ below (QI G S0 A Q) (XX G S0 A QX) args s 0 0 A) (F0 m 26 ls []) := by
  have hx := CF_x C
  have hb := CF_b C
  unfold wX9_pathCell_26 at hw
  refine lv_aload_n hx hb dX9_pathCell_26 rfl (lv_at hl 0 rfl) ?_
  refine lv_iconst (v := 3) hx hb dX9_pathCell_27 (by decide) ?_
  refine cl_i C P (run_V C P hl.1 (kd := 9) (met_X9_no (CF_n C) G H.size _ _ S a0 3 p_a0 hw) p_a0 (by decide) rfl q_1386 q_1388 q_p23 q_10 q_1389 cd_X9_no ⟨(Nat.le_of_ble_eq_true rfl), (Nat.le_of_ble_eq_true rfl)⟩ rfl rfl (As := [.int 3]) (rest := []) rfl rfl (Nat.le_of_ble_eq_true rfl) dX9_pathCell_28 ⟨by show cells + 0 ≤ 0; omega, by show slots + 0 ≤ 0; omega⟩) (kx_out C hex (fun _ _ _ h => h) (by omega) (by omega)) (fun r2 S1 H locs P hE hw => ?_)
  have p_a0 : pI S1 9 a0 := pI_x hE p_a0
  exact e_i C hr rfl P hw (by omega) (by omega) dX9_pathCell_31
def wX9_pathCell_49 (Q : Int32 → MS → Prop) (QX : String → MS → Prop) (k49 : MS → Nat → Int32 → Int32 → Int32 → Int32 → Prop) (S : MS) (a0 : Nat) (y1 : Int32) (y2 : Int32) (y3 : Int32) (y4 : Int32) : Prop := ((y2 < y4 → Q y3 S) ∧ (¬ y2 < y4 → ((¬ y3 = y1 → wp_X9_next (fun r2 S1 => k49 S1 a0 y1 y2 r2 (y4 + 1)) QX S a0 y3) ∧ (y3 = y1 → wp_X9_no (fun r4 S3 => Q r4 S3) QX S a0 3))))
set_option maxHeartbeats 4000000 in
set_option maxRecDepth 100000 in
theorem tX9_pathCell_49 {p : Program} {l : Launch} {e : Env} {s : State} {m : MethodId} {args : Array Value} {below : List Frame} {meth : Method} {c : Code} {H : Heap} {locs : List Loc} {cells slots : Nat} {G : GP} {A : Nat → Prop} {S0 : MS} {ls : Array Slot} (C : CF p l s m args meth c "SkirmishGridModel" cX9_pathCell 5 G A) (hr : meth.sig.returnType = (some .int)) (hex : ∀ x ∈ c.exceptionTable.toList, False) (Q : Int32 → MS → Prop) (QX : String → MS → Prop) (k49 : MS → Nat → Int32 → Int32 → Int32 → Int32 → Prop) (kh49 : ∀ (S : MS) (a0 : Nat) (y1 : Int32) (y2 : Int32) (y3 : Int32) (y4 : Int32) (cells slots : Nat) (H : Heap) (locs : List Loc) (ls : Array Slot), pI S 9 a0 → PW G A s H locs S0 S → lv_has ls 5 [(0, .ref a0), (1, .int y1), (2, .int y2), (3, .int y3), (4, .int y4)] → cells + 0 ≤ 0 → slots + 0 ≤ 0 → k49 S a0 y1 y2 y3 y4 → W p l e rmX9_pathCell s m args below meth c H locs cells slots (vx_MQ below (QI G S0 A Q) (XX G S0 A QX) args s 0 0 A) (F0 m 49 ls [])) (S : MS) (a0 : Nat) (y1 : Int32) (y2 : Int32) (y3 : Int32) (y4 : Int32) (p_a0 : pI S 9 a0) (P : PW G A s H locs S0 S) (hl : lv_has ls 5 [(0, .ref a0), (1, .int y1), (2, .int y2), (3, .int y3), (4, .int y4)]) (hcc : cells + 0 ≤ 0) (hss : slots + 0 ≤ 0) (hw : wX9_pathCell_49 Q QX k49 S a0 y1 y2 y3 y4) : W p l e rmX9_pathCell s m args below meth c H locs cells slots (vx_MQ below (QI G S0 A Q) (XX G S0 A QX) args s 0 0 A) (F0 m 49 ls []) := by
  have hx := CF_x C
  have hb := CF_b C
  unfold wX9_pathCell_49 at hw
  refine lv_iload hx hb dX9_pathCell_49 (lv_at hl 4 rfl) ?_
  refine lv_iload_n hx hb dX9_pathCell_51 rfl (lv_at hl 2 rfl) ?_
  refine lv_icmp_gt (tgt := 78) hx hb dX9_pathCell_52 (by decide) (fun hc => ?_) (fun hc => ?_)
  · have hw := hw.1 hc
    refine lv_iload_n hx hb dX9_pathCell_78 rfl (lv_at hl 3 rfl) ?_
    exact e_i C hr rfl P hw (by omega) (by omega) dX9_pathCell_79
  · have hw := hw.2 hc
    refine lv_iload_n hx hb dX9_pathCell_55 rfl (lv_at hl 3 rfl) ?_
    refine lv_iload_n hx hb dX9_pathCell_56 rfl (lv_at hl 1 rfl) ?_
    refine lv_icmp_ne (tgt := 66) hx hb dX9_pathCell_57 (by decide) (fun hc => ?_) (fun hc => ?_)
    · have hw := hw.1 hc
      refine lv_aload_n hx hb dX9_pathCell_66 rfl (lv_at hl 0 rfl) ?_
      refine lv_iload_n hx hb dX9_pathCell_67 rfl (lv_at hl 3 rfl) ?_
      refine cl_i C P (run_V C P hl.1 (kd := 9) (met_X9_next (CF_n C) G H.size _ _ S a0 y3 p_a0 hw) p_a0 (by decide) rfl q_1584 q_1586 q_p55 q_10 q_1587 cd_X9_next ⟨(Nat.le_of_ble_eq_true rfl), (Nat.le_of_ble_eq_true rfl)⟩ rfl rfl (As := [.int y3]) (rest := []) rfl rfl (Nat.le_of_ble_eq_true rfl) dX9_pathCell_68 ⟨by show cells + 0 ≤ 0; omega, by show slots + 0 ≤ 0; omega⟩) (kx_out C hex (fun _ _ _ h => h) (by omega) (by omega)) (fun r2 S1 H locs P hE hw => ?_)
      have p_a0 : pI S1 9 a0 := pI_x hE p_a0
      refine lv_istore_n (lv' := [(3, .int r2), (0, .ref a0), (1, .int y1), (2, .int y2), (4, .int y4)]) hx hb dX9_pathCell_71 rfl hl (by decide) rfl (fun ls hl => ?_)
      refine lv_iinc (v := (y4 + 1)) (lv' := [(4, .int (y4 + 1)), (3, .int r2), (0, .ref a0), (1, .int y1), (2, .int y2)]) hx hb dX9_pathCell_72 hl (k := 4) rfl (by rfl) (by decide) rfl (fun ls hl => ?_)
      refine lv_goto (tgt := 49) hx hb dX9_pathCell_75 (by decide) ?_
      exact kh49 S1 a0 y1 y2 r2 (y4 + 1) _ _ _ _ _ p_a0 P (lv_sub hl [2, 3, 4, 1, 0] rfl) (by omega) (by omega) hw
    · have hw := hw.2 hc
      refine lv_aload_n hx hb dX9_pathCell_60 rfl (lv_at hl 0 rfl) ?_
      refine lv_iconst (v := 3) hx hb dX9_pathCell_61 (by decide) ?_
      refine cl_i C P (run_V C P hl.1 (kd := 9) (met_X9_no (CF_n C) G H.size _ _ S a0 3 p_a0 hw) p_a0 (by decide) rfl q_1386 q_1388 q_p23 q_10 q_1389 cd_X9_no ⟨(Nat.le_of_ble_eq_true rfl), (Nat.le_of_ble_eq_true rfl)⟩ rfl rfl (As := [.int 3]) (rest := []) rfl rfl (Nat.le_of_ble_eq_true rfl) dX9_pathCell_62 ⟨by show cells + 0 ≤ 0; omega, by show slots + 0 ≤ 0; omega⟩) (kx_out C hex (fun _ _ _ h => h) (by omega) (by omega)) (fun r4 S3 H locs P hE hw => ?_)
      have p_a0 : pI S3 9 a0 := pI_x hE p_a0
      exact e_i C hr rfl P hw (by omega) (by omega) dX9_pathCell_65
def lX9_pathCell_49 (Q : Int32 → MS → Prop) (QX : String → MS → Prop) : Nat → MS → Nat → Int32 → Int32 → Int32 → Int32 → Prop
  | 0 => fun _ _ _ _ _ _ => False
  | n + 1 => fun S a0 y1 y2 y3 y4 => wX9_pathCell_49 Q QX (lX9_pathCell_49 Q QX n) S a0 y1 y2 y3 y4
theorem tlX9_pathCell_49 {p : Program} {l : Launch} {e : Env} {s : State} {m : MethodId} {args : Array Value} {below : List Frame} {meth : Method} {c : Code} {G : GP} {A : Nat → Prop} {S0 : MS} (C : CF p l s m args meth c "SkirmishGridModel" cX9_pathCell 5 G A) (hr : meth.sig.returnType = (some .int)) (hex : ∀ x ∈ c.exceptionTable.toList, False) (Q : Int32 → MS → Prop) (QX : String → MS → Prop) : ∀ (n : Nat), ∀ (S : MS) (a0 : Nat) (y1 : Int32) (y2 : Int32) (y3 : Int32) (y4 : Int32) (cells slots : Nat) (H : Heap) (locs : List Loc) (ls : Array Slot), pI S 9 a0 → PW G A s H locs S0 S → lv_has ls 5 [(0, .ref a0), (1, .int y1), (2, .int y2), (3, .int y3), (4, .int y4)] → cells + 0 ≤ 0 → slots + 0 ≤ 0 → lX9_pathCell_49 Q QX n S a0 y1 y2 y3 y4 → W p l e rmX9_pathCell s m args below meth c H locs cells slots (vx_MQ below (QI G S0 A Q) (XX G S0 A QX) args s 0 0 A) (F0 m 49 ls []) := by
  intro n
  induction n with
  | zero => intro S a0 y1 y2 y3 y4 cells slots H locs ls p_a0 P hl hcc hss hw; exact hw.elim
  | succ n ih => intro S a0 y1 y2 y3 y4 cells slots H locs ls p_a0 P hl hcc hss hw; exact tX9_pathCell_49 C hr hex Q QX (lX9_pathCell_49 Q QX n) ih S a0 y1 y2 y3 y4 p_a0 P hl hcc hss hw
def wX9_pathCell_0 (Q : Int32 → MS → Prop) (QX : String → MS → Prop) (S : MS) (a0 : Nat) (x1 : Int32) (x2 : Int32) : Prop := wp_X9_isCell (fun r2 S1 => wp_X9_mayAsk (fun r4 S3 => ((¬ r4 = 0 → wp_X9_costsTo (fun r6 S5 => ((r6 ≤ 0 → wX9_pathCell_26 Q QX S5 a0) ∧ (¬ r6 ≤ 0 → ((0 ≤ x2 → (∃ a7, mR S5 a0 1 = some a7 ∧ (vp_in 166 (mN S5 a7) ∧ wp_X9_of (fun r9 S8 => (∃ n, lX9_pathCell_49 Q QX n S8 a0 x1 x2 r9 0)) QX S5 a0 (mI S5 a7 (166 : Int32).toNatClampNeg) 2))) ∧ (¬ 0 ≤ x2 → wX9_pathCell_26 Q QX S5 a0))))) QX S3 a0 x1) ∧ (r4 = 0 → Q 0 S3))) QX S1 a0 r2) QX S a0 x1
set_option maxHeartbeats 4000000 in
set_option maxRecDepth 100000 in
theorem tX9_pathCell_0 {p : Program} {l : Launch} {e : Env} {s : State} {m : MethodId} {args : Array Value} {below : List Frame} {meth : Method} {c : Code} {H : Heap} {locs : List Loc} {cells slots : Nat} {G : GP} {A : Nat → Prop} {S0 : MS} {ls : Array Slot} (C : CF p l s m args meth c "SkirmishGridModel" cX9_pathCell 5 G A) (hr : meth.sig.returnType = (some .int)) (hex : ∀ x ∈ c.exceptionTable.toList, False) (Q : Int32 → MS → Prop) (QX : String → MS → Prop) (S : MS) (a0 : Nat) (x1 : Int32) (x2 : Int32) (p_a0 : pI S 9 a0) (P : PW G A s H locs S0 S) (hl : lv_has ls 5 [(0, .ref a0), (1, .int x1), (2, .int x2)]) (hcc : cells + 0 ≤ 0) (hss : slots + 0 ≤ 0) (hw : wX9_pathCell_0 Q QX S a0 x1 x2) : W p l e rmX9_pathCell s m args below meth c H locs cells slots (vx_MQ below (QI G S0 A Q) (XX G S0 A QX) args s 0 0 A) (F0 m 0 ls []) := by
  have hx := CF_x C
  have hb := CF_b C
  unfold wX9_pathCell_0 at hw
  refine lv_aload_n hx hb dX9_pathCell_0 rfl (lv_at hl 0 rfl) ?_
  refine lv_aload_n hx hb dX9_pathCell_1 rfl (lv_at hl 0 rfl) ?_
  refine lv_iload_n hx hb dX9_pathCell_2 rfl (lv_at hl 1 rfl) ?_
  refine cl_i C P (run_V C P hl.1 (kd := 9) (met_X9_isCell (CF_n C) G H.size _ _ S a0 x1 p_a0 hw) p_a0 (by decide) rfl q_1417 q_1419 q_p26 q_10 q_1420 cd_X9_isCell ⟨(Nat.le_of_ble_eq_true rfl), (Nat.le_of_ble_eq_true rfl)⟩ rfl rfl (As := [.int x1]) (rest := [.ref a0]) rfl rfl (Nat.le_of_ble_eq_true rfl) dX9_pathCell_3 ⟨by show cells + 0 ≤ 0; omega, by show slots + 0 ≤ 0; omega⟩) (kx_out C hex (fun _ _ _ h => h) (by omega) (by omega)) (fun r2 S1 H locs P hE hw => ?_)
  have p_a0 : pI S1 9 a0 := pI_x hE p_a0
  refine cl_i C P (run_V C P hl.1 (kd := 9) (met_X9_mayAsk (CF_n C) G H.size _ _ S1 a0 r2 p_a0 hw) p_a0 (by decide) rfl q_1556 q_1558 q_p49 q_10 q_1559 cd_X9_mayAsk ⟨(Nat.le_of_ble_eq_true rfl), (Nat.le_of_ble_eq_true rfl)⟩ rfl rfl (As := [.int r2]) (rest := []) rfl rfl (Nat.le_of_ble_eq_true rfl) dX9_pathCell_6 ⟨by show cells + 0 ≤ 0; omega, by show slots + 0 ≤ 0; omega⟩) (kx_out C hex (fun _ _ _ h => h) (by omega) (by omega)) (fun r4 S3 H locs P hE hw => ?_)
  have p_a0 : pI S3 9 a0 := pI_x hE p_a0
  refine lv_if_ne (tgt := 14) hx hb dX9_pathCell_9 (by decide) (fun hc => ?_) (fun hc => ?_)
  · have hw := hw.1 hc
    refine lv_aload_n hx hb dX9_pathCell_14 rfl (lv_at hl 0 rfl) ?_
    refine lv_iload_n hx hb dX9_pathCell_15 rfl (lv_at hl 1 rfl) ?_
    refine cl_i C P (run_V C P hl.1 (kd := 9) (met_X9_costsTo (CF_n C) G H.size _ _ S3 a0 x1 p_a0 hw) p_a0 (by decide) rfl q_1560 q_1562 q_p50 q_10 q_1563 cd_X9_costsTo ⟨(Nat.le_of_ble_eq_true rfl), (Nat.le_of_ble_eq_true rfl)⟩ rfl rfl (As := [.int x1]) (rest := []) rfl rfl (Nat.le_of_ble_eq_true rfl) dX9_pathCell_16 ⟨by show cells + 0 ≤ 0; omega, by show slots + 0 ≤ 0; omega⟩) (kx_out C hex (fun _ _ _ h => h) (by omega) (by omega)) (fun r6 S5 H locs P hE hw => ?_)
    have p_a0 : pI S5 9 a0 := pI_x hE p_a0
    refine lv_if_le (tgt := 26) hx hb dX9_pathCell_19 (by decide) (fun hc => ?_) (fun hc => ?_)
    · have hw := hw.1 hc
      exact tX9_pathCell_26 C hr hex Q QX S5 a0 p_a0 P (lv_sub hl [0] rfl) (by omega) (by omega) hw
    · have hw := hw.2 hc
      refine lv_iload_n hx hb dX9_pathCell_22 rfl (lv_at hl 2 rfl) ?_
      refine lv_if_ge (tgt := 32) hx hb dX9_pathCell_23 (by decide) (fun hc => ?_) (fun hc => ?_)
      · have hw := hw.1 hc
        refine lv_aload_n hx hb dX9_pathCell_32 rfl (lv_at hl 0 rfl) ?_
        refine lv_aload_n hx hb dX9_pathCell_33 rfl (lv_at hl 0 rfl) ?_
        obtain ⟨a7, e1, hw⟩ := hw
        have p_a7 : pI S5 12 a7 := wf_r P.2.2.2.1 p_a0 e1
        refine gf_9_1 C P p_a0 e1 q_1306 dX9_pathCell_34 ?_
        refine lv_sipush (v := 166) hx hb dX9_pathCell_37 (by decide) ?_
        obtain ⟨h1, hw⟩ := hw
        refine ra_i C P p_a7 h1 dX9_pathCell_40 ?_
        refine lv_iconst (v := 2) hx hb dX9_pathCell_41 (by decide) ?_
        refine cl_i C P (run_V C P hl.1 (kd := 9) (met_X9_of (CF_n C) G H.size _ _ S5 a0 (mI S5 a7 (166 : Int32).toNatClampNeg) 2 p_a0 hw) p_a0 (by decide) rfl q_1457 q_1459 q_p34 q_10 q_1460 cd_X9_of ⟨(Nat.le_of_ble_eq_true rfl), (Nat.le_of_ble_eq_true rfl)⟩ rfl rfl (As := [.int (mI S5 a7 (166 : Int32).toNatClampNeg), .int 2]) (rest := []) rfl rfl (Nat.le_of_ble_eq_true rfl) dX9_pathCell_42 ⟨by show cells + 0 ≤ 0; omega, by show slots + 0 ≤ 0; omega⟩) (kx_out C hex (fun _ _ _ h => h) (by omega) (by omega)) (fun r9 S8 H locs P hE hw => ?_)
        have p_a0 : pI S8 9 a0 := pI_x hE p_a0
        refine lv_istore_n (lv' := [(3, .int r9), (0, .ref a0), (1, .int x1), (2, .int x2)]) hx hb dX9_pathCell_45 rfl hl (by decide) rfl (fun ls hl => ?_)
        refine lv_iconst (v := 0) hx hb dX9_pathCell_46 (by decide) ?_
        refine lv_istore (lv' := [(4, .int 0), (3, .int r9), (0, .ref a0), (1, .int x1), (2, .int x2)]) hx hb dX9_pathCell_47 hl (by decide) rfl (fun ls hl => ?_)
        obtain ⟨n, hw⟩ := hw
        exact tlX9_pathCell_49 C hr hex Q QX n S8 a0 x1 x2 r9 0 _ _ _ _ _ p_a0 P (lv_sub hl [2, 3, 4, 1, 0] rfl) (by omega) (by omega) hw
      · have hw := hw.2 hc
        exact tX9_pathCell_26 C hr hex Q QX S5 a0 p_a0 P (lv_sub hl [0] rfl) (by omega) (by omega) hw
  · have hw := hw.2 hc
    refine lv_iconst (v := 0) hx hb dX9_pathCell_12 (by decide) ?_
    exact e_i C hr rfl P hw (by omega) (by omega) dX9_pathCell_13
def wp_X9_pathCell (Q : Int32 → MS → Prop) (QX : String → MS → Prop) (S : MS) (a0 : Nat) (x1 : Int32) (x2 : Int32) : Prop := wX9_pathCell_0 Q QX S a0 x1 x2
set_option maxHeartbeats 4000000 in
set_option maxRecDepth 100000 in
theorem met_X9_pathCell {l : Launch} (hst : l.stackTraces = false) (G : GP) (sz : Nat) (Q : Int32 → MS → Prop) (QX : String → MS → Prop) (S : MS) (a0 : Nat) (x1 : Int32) (x2 : Int32) (p_a0 : pI S 9 a0) (hw : wp_X9_pathCell Q QX S a0 x1 x2) : vx_Met l yX9_pathCell (.code yX9_pathCell cX9_pathCell 5 (some .int) :: GW) rmX9_pathCell (va_Pc [.ref a0, .int x1, .int x2] (PR G S sz)) (QI G S (FA G S sz) Q) (XX G S (FA G S sz) QX) 0 0 (FA G S sz) := by
  refine st_m (by decide +kernel) hst (fun p e s m below meth c C hr hnm hex P => ?_)
  refine en_m (Nat.le_of_ble_eq_true rfl) (lv := [(0, .ref a0), (1, .int x1), (2, .int x2)]) rfl (fun ls hl => ?_)
  have C : CF p l s m _ meth c "SkirmishGridModel" cX9_pathCell 5 G (FA G S sz) := C
  exact tX9_pathCell_0 C hr hex Q QX S a0 x1 x2 p_a0 P hl (by omega) (by omega) hw
theorem cd_X9_pathCell : yX9_pathCell.cls = RX9 ∧ yX9_pathCell.cls ≠ "java/lang/invoke/MethodHandle" ∧ yX9_pathCell.cls ≠ "java/lang/invoke/VarHandle" ∧ (parseMethodDescriptor yX9_pathCell.desc).map (fun d => d.parameters.length) = some 2 := by decide +kernel
abbrev rmX9_canAttack : Room := { frames := 3, cells := 0, slots := 0, locals := 78 }
def wX9_canAttack_0 (Q : Int32 → MS → Prop) (QX : String → MS → Prop) (S : MS) (a0 : Nat) (x1 : Int32) (x2 : Int32) : Prop := wp_X9_lives (fun r2 S1 => ((r2 = 0 → Q 0 S1) ∧ (¬ r2 = 0 → wp_X9_lives (fun r4 S3 => ((r4 = 0 → Q 0 S3) ∧ (¬ r4 = 0 → wp_X9_of (fun r6 S5 => wp_X9_of (fun r8 S7 => ((r6 = r8 → Q 0 S7) ∧ (¬ r6 = r8 → wp_X9_of (fun r10 S9 => wp_X9_of (fun r12 S11 => wp_X9_apart (fun r14 S13 => wp_X9_kindly (fun r16 S15 => ((r16 < r14 → Q 0 S15) ∧ (¬ r16 < r14 → wp_X9_of (fun r18 S17 => wp_X9_of (fun r20 S19 => wp_X9_sees (fun r22 S21 => ((r22 = 0 → Q 0 S21) ∧ (¬ r22 = 0 → Q 1 S21))) QX S19 a0 r18 r20) QX S17 a0 x2 2) QX S15 a0 x1 2))) QX S13 a0 x1 3) QX S11 a0 r10 r12) QX S9 a0 x2 2) QX S7 a0 x1 2))) QX S5 a0 x2 0) QX S3 a0 x1 0))) QX S1 a0 x2))) QX S a0 x1
set_option maxHeartbeats 4000000 in
set_option maxRecDepth 100000 in
theorem tX9_canAttack_0 {p : Program} {l : Launch} {e : Env} {s : State} {m : MethodId} {args : Array Value} {below : List Frame} {meth : Method} {c : Code} {H : Heap} {locs : List Loc} {cells slots : Nat} {G : GP} {A : Nat → Prop} {S0 : MS} {ls : Array Slot} (C : CF p l s m args meth c "SkirmishGridModel" cX9_canAttack 3 G A) (hr : meth.sig.returnType = (some .boolean)) (hex : ∀ x ∈ c.exceptionTable.toList, False) (Q : Int32 → MS → Prop) (QX : String → MS → Prop) (S : MS) (a0 : Nat) (x1 : Int32) (x2 : Int32) (p_a0 : pI S 9 a0) (P : PW G A s H locs S0 S) (hl : lv_has ls 3 [(0, .ref a0), (1, .int x1), (2, .int x2)]) (hcc : cells + 0 ≤ 0) (hss : slots + 0 ≤ 0) (hw : wX9_canAttack_0 Q QX S a0 x1 x2) : W p l e rmX9_canAttack s m args below meth c H locs cells slots (vx_MQ below (QI G S0 A Q) (XX G S0 A QX) args s 0 0 A) (F0 m 0 ls []) := by
  have hx := CF_x C
  have hb := CF_b C
  unfold wX9_canAttack_0 at hw
  refine lv_aload_n hx hb dX9_canAttack_0 rfl (lv_at hl 0 rfl) ?_
  refine lv_iload_n hx hb dX9_canAttack_1 rfl (lv_at hl 1 rfl) ?_
  refine cl_i C P (run_V C P hl.1 (kd := 9) (met_X9_lives (CF_n C) G H.size _ _ S a0 x1 p_a0 hw) p_a0 (by decide) rfl q_1453 q_1455 q_p33 q_10 q_1456 cd_X9_lives ⟨(Nat.le_of_ble_eq_true rfl), (Nat.le_of_ble_eq_true rfl)⟩ rfl rfl (As := [.int x1]) (rest := []) rfl rfl (Nat.le_of_ble_eq_true rfl) dX9_canAttack_2 ⟨by show cells + 0 ≤ 0; omega, by show slots + 0 ≤ 0; omega⟩) (kx_out C hex (fun _ _ _ h => h) (by omega) (by omega)) (fun r2 S1 H locs P hE hw => ?_)
  have p_a0 : pI S1 9 a0 := pI_x hE p_a0
  refine lv_if_eq (tgt := 79) hx hb dX9_canAttack_5 (by decide) (fun hc => ?_) (fun hc => ?_)
  · have hw := hw.1 hc
    refine lv_iconst (v := 0) hx hb dX9_canAttack_79 (by decide) ?_
    exact e_i C hr (by decide +kernel) P hw (by omega) (by omega) dX9_canAttack_80
  · have hw := hw.2 hc
    refine lv_aload_n hx hb dX9_canAttack_8 rfl (lv_at hl 0 rfl) ?_
    refine lv_iload_n hx hb dX9_canAttack_9 rfl (lv_at hl 2 rfl) ?_
    refine cl_i C P (run_V C P hl.1 (kd := 9) (met_X9_lives (CF_n C) G H.size _ _ S1 a0 x2 p_a0 hw) p_a0 (by decide) rfl q_1453 q_1455 q_p33 q_10 q_1456 cd_X9_lives ⟨(Nat.le_of_ble_eq_true rfl), (Nat.le_of_ble_eq_true rfl)⟩ rfl rfl (As := [.int x2]) (rest := []) rfl rfl (Nat.le_of_ble_eq_true rfl) dX9_canAttack_10 ⟨by show cells + 0 ≤ 0; omega, by show slots + 0 ≤ 0; omega⟩) (kx_out C hex (fun _ _ _ h => h) (by omega) (by omega)) (fun r4 S3 H locs P hE hw => ?_)
    have p_a0 : pI S3 9 a0 := pI_x hE p_a0
    refine lv_if_eq (tgt := 79) hx hb dX9_canAttack_13 (by decide) (fun hc => ?_) (fun hc => ?_)
    · have hw := hw.1 hc
      refine lv_iconst (v := 0) hx hb dX9_canAttack_79 (by decide) ?_
      exact e_i C hr (by decide +kernel) P hw (by omega) (by omega) dX9_canAttack_80
    · have hw := hw.2 hc
      refine lv_aload_n hx hb dX9_canAttack_16 rfl (lv_at hl 0 rfl) ?_
      refine lv_iload_n hx hb dX9_canAttack_17 rfl (lv_at hl 1 rfl) ?_
      refine lv_iconst (v := 0) hx hb dX9_canAttack_18 (by decide) ?_
      refine cl_i C P (run_V C P hl.1 (kd := 9) (met_X9_of (CF_n C) G H.size _ _ S3 a0 x1 0 p_a0 hw) p_a0 (by decide) rfl q_1457 q_1459 q_p34 q_10 q_1460 cd_X9_of ⟨(Nat.le_of_ble_eq_true rfl), (Nat.le_of_ble_eq_true rfl)⟩ rfl rfl (As := [.int x1, .int 0]) (rest := []) rfl rfl (Nat.le_of_ble_eq_true rfl) dX9_canAttack_19 ⟨by show cells + 0 ≤ 0; omega, by show slots + 0 ≤ 0; omega⟩) (kx_out C hex (fun _ _ _ h => h) (by omega) (by omega)) (fun r6 S5 H locs P hE hw => ?_)
      have p_a0 : pI S5 9 a0 := pI_x hE p_a0
      refine lv_aload_n hx hb dX9_canAttack_22 rfl (lv_at hl 0 rfl) ?_
      refine lv_iload_n hx hb dX9_canAttack_23 rfl (lv_at hl 2 rfl) ?_
      refine lv_iconst (v := 0) hx hb dX9_canAttack_24 (by decide) ?_
      refine cl_i C P (run_V C P hl.1 (kd := 9) (met_X9_of (CF_n C) G H.size _ _ S5 a0 x2 0 p_a0 hw) p_a0 (by decide) rfl q_1457 q_1459 q_p34 q_10 q_1460 cd_X9_of ⟨(Nat.le_of_ble_eq_true rfl), (Nat.le_of_ble_eq_true rfl)⟩ rfl rfl (As := [.int x2, .int 0]) (rest := [.int r6]) rfl rfl (Nat.le_of_ble_eq_true rfl) dX9_canAttack_25 ⟨by show cells + 0 ≤ 0; omega, by show slots + 0 ≤ 0; omega⟩) (kx_out C hex (fun _ _ _ h => h) (by omega) (by omega)) (fun r8 S7 H locs P hE hw => ?_)
      have p_a0 : pI S7 9 a0 := pI_x hE p_a0
      refine lv_icmp_eq (tgt := 79) hx hb dX9_canAttack_28 (by decide) (fun hc => ?_) (fun hc => ?_)
      · have hw := hw.1 hc
        refine lv_iconst (v := 0) hx hb dX9_canAttack_79 (by decide) ?_
        exact e_i C hr (by decide +kernel) P hw (by omega) (by omega) dX9_canAttack_80
      · have hw := hw.2 hc
        refine lv_aload_n hx hb dX9_canAttack_31 rfl (lv_at hl 0 rfl) ?_
        refine lv_aload_n hx hb dX9_canAttack_32 rfl (lv_at hl 0 rfl) ?_
        refine lv_iload_n hx hb dX9_canAttack_33 rfl (lv_at hl 1 rfl) ?_
        refine lv_iconst (v := 2) hx hb dX9_canAttack_34 (by decide) ?_
        refine cl_i C P (run_V C P hl.1 (kd := 9) (met_X9_of (CF_n C) G H.size _ _ S7 a0 x1 2 p_a0 hw) p_a0 (by decide) rfl q_1457 q_1459 q_p34 q_10 q_1460 cd_X9_of ⟨(Nat.le_of_ble_eq_true rfl), (Nat.le_of_ble_eq_true rfl)⟩ rfl rfl (As := [.int x1, .int 2]) (rest := [.ref a0]) rfl rfl (Nat.le_of_ble_eq_true rfl) dX9_canAttack_35 ⟨by show cells + 0 ≤ 0; omega, by show slots + 0 ≤ 0; omega⟩) (kx_out C hex (fun _ _ _ h => h) (by omega) (by omega)) (fun r10 S9 H locs P hE hw => ?_)
        have p_a0 : pI S9 9 a0 := pI_x hE p_a0
        refine lv_aload_n hx hb dX9_canAttack_38 rfl (lv_at hl 0 rfl) ?_
        refine lv_iload_n hx hb dX9_canAttack_39 rfl (lv_at hl 2 rfl) ?_
        refine lv_iconst (v := 2) hx hb dX9_canAttack_40 (by decide) ?_
        refine cl_i C P (run_V C P hl.1 (kd := 9) (met_X9_of (CF_n C) G H.size _ _ S9 a0 x2 2 p_a0 hw) p_a0 (by decide) rfl q_1457 q_1459 q_p34 q_10 q_1460 cd_X9_of ⟨(Nat.le_of_ble_eq_true rfl), (Nat.le_of_ble_eq_true rfl)⟩ rfl rfl (As := [.int x2, .int 2]) (rest := [.int r10, .ref a0]) rfl rfl (Nat.le_of_ble_eq_true rfl) dX9_canAttack_41 ⟨by show cells + 0 ≤ 0; omega, by show slots + 0 ≤ 0; omega⟩) (kx_out C hex (fun _ _ _ h => h) (by omega) (by omega)) (fun r12 S11 H locs P hE hw => ?_)
        have p_a0 : pI S11 9 a0 := pI_x hE p_a0
        refine cl_i C P (run_V C P hl.1 (kd := 9) (met_X9_apart (CF_n C) G H.size _ _ S11 a0 r10 r12 p_a0 hw) p_a0 (by decide) rfl q_1600 q_1602 q_p58 q_10 q_1603 cd_X9_apart ⟨(Nat.le_of_ble_eq_true rfl), (Nat.le_of_ble_eq_true rfl)⟩ rfl rfl (As := [.int r10, .int r12]) (rest := []) rfl rfl (Nat.le_of_ble_eq_true rfl) dX9_canAttack_44 ⟨by show cells + 0 ≤ 0; omega, by show slots + 0 ≤ 0; omega⟩) (kx_out C hex (fun _ _ _ h => h) (by omega) (by omega)) (fun r14 S13 H locs P hE hw => ?_)
        have p_a0 : pI S13 9 a0 := pI_x hE p_a0
        refine lv_aload_n hx hb dX9_canAttack_47 rfl (lv_at hl 0 rfl) ?_
        refine lv_iload_n hx hb dX9_canAttack_48 rfl (lv_at hl 1 rfl) ?_
        refine lv_iconst (v := 3) hx hb dX9_canAttack_49 (by decide) ?_
        refine cl_i C P (run_V C P hl.1 (kd := 9) (met_X9_kindly (CF_n C) G H.size _ _ S13 a0 x1 3 p_a0 hw) p_a0 (by decide) rfl q_1532 q_1534 q_p44 q_10 q_1535 cd_X9_kindly ⟨(Nat.le_of_ble_eq_true rfl), (Nat.le_of_ble_eq_true rfl)⟩ rfl rfl (As := [.int x1, .int 3]) (rest := [.int r14]) rfl rfl (Nat.le_of_ble_eq_true rfl) dX9_canAttack_50 ⟨by show cells + 0 ≤ 0; omega, by show slots + 0 ≤ 0; omega⟩) (kx_out C hex (fun _ _ _ h => h) (by omega) (by omega)) (fun r16 S15 H locs P hE hw => ?_)
        have p_a0 : pI S15 9 a0 := pI_x hE p_a0
        refine lv_icmp_gt (tgt := 79) hx hb dX9_canAttack_53 (by decide) (fun hc => ?_) (fun hc => ?_)
        · have hw := hw.1 hc
          refine lv_iconst (v := 0) hx hb dX9_canAttack_79 (by decide) ?_
          exact e_i C hr (by decide +kernel) P hw (by omega) (by omega) dX9_canAttack_80
        · have hw := hw.2 hc
          refine lv_aload_n hx hb dX9_canAttack_56 rfl (lv_at hl 0 rfl) ?_
          refine lv_aload_n hx hb dX9_canAttack_57 rfl (lv_at hl 0 rfl) ?_
          refine lv_iload_n hx hb dX9_canAttack_58 rfl (lv_at hl 1 rfl) ?_
          refine lv_iconst (v := 2) hx hb dX9_canAttack_59 (by decide) ?_
          refine cl_i C P (run_V C P hl.1 (kd := 9) (met_X9_of (CF_n C) G H.size _ _ S15 a0 x1 2 p_a0 hw) p_a0 (by decide) rfl q_1457 q_1459 q_p34 q_10 q_1460 cd_X9_of ⟨(Nat.le_of_ble_eq_true rfl), (Nat.le_of_ble_eq_true rfl)⟩ rfl rfl (As := [.int x1, .int 2]) (rest := [.ref a0]) rfl rfl (Nat.le_of_ble_eq_true rfl) dX9_canAttack_60 ⟨by show cells + 0 ≤ 0; omega, by show slots + 0 ≤ 0; omega⟩) (kx_out C hex (fun _ _ _ h => h) (by omega) (by omega)) (fun r18 S17 H locs P hE hw => ?_)
          have p_a0 : pI S17 9 a0 := pI_x hE p_a0
          refine lv_aload_n hx hb dX9_canAttack_63 rfl (lv_at hl 0 rfl) ?_
          refine lv_iload_n hx hb dX9_canAttack_64 rfl (lv_at hl 2 rfl) ?_
          refine lv_iconst (v := 2) hx hb dX9_canAttack_65 (by decide) ?_
          refine cl_i C P (run_V C P hl.1 (kd := 9) (met_X9_of (CF_n C) G H.size _ _ S17 a0 x2 2 p_a0 hw) p_a0 (by decide) rfl q_1457 q_1459 q_p34 q_10 q_1460 cd_X9_of ⟨(Nat.le_of_ble_eq_true rfl), (Nat.le_of_ble_eq_true rfl)⟩ rfl rfl (As := [.int x2, .int 2]) (rest := [.int r18, .ref a0]) rfl rfl (Nat.le_of_ble_eq_true rfl) dX9_canAttack_66 ⟨by show cells + 0 ≤ 0; omega, by show slots + 0 ≤ 0; omega⟩) (kx_out C hex (fun _ _ _ h => h) (by omega) (by omega)) (fun r20 S19 H locs P hE hw => ?_)
          have p_a0 : pI S19 9 a0 := pI_x hE p_a0
          refine cl_i C P (run_V C P hl.1 (kd := 9) (met_X9_sees (CF_n C) G H.size _ _ S19 a0 r18 r20 p_a0 hw) p_a0 (by decide) rfl q_1421 q_1423 q_p27 q_10 q_1424 cd_X9_sees ⟨(Nat.le_of_ble_eq_true rfl), (Nat.le_of_ble_eq_true rfl)⟩ rfl rfl (As := [.int r18, .int r20]) (rest := []) rfl rfl (Nat.le_of_ble_eq_true rfl) dX9_canAttack_69 ⟨by show cells + 0 ≤ 0; omega, by show slots + 0 ≤ 0; omega⟩) (kx_out C hex (fun _ _ _ h => h) (by omega) (by omega)) (fun r22 S21 H locs P hE hw => ?_)
          have p_a0 : pI S21 9 a0 := pI_x hE p_a0
          refine lv_if_eq (tgt := 79) hx hb dX9_canAttack_72 (by decide) (fun hc => ?_) (fun hc => ?_)
          · have hw := hw.1 hc
            refine lv_iconst (v := 0) hx hb dX9_canAttack_79 (by decide) ?_
            exact e_i C hr (by decide +kernel) P hw (by omega) (by omega) dX9_canAttack_80
          · have hw := hw.2 hc
            refine lv_iconst (v := 1) hx hb dX9_canAttack_75 (by decide) ?_
            refine lv_goto (tgt := 80) hx hb dX9_canAttack_76 (by decide) ?_
            exact e_i C hr (by decide +kernel) P hw (by omega) (by omega) dX9_canAttack_80
def wp_X9_canAttack (Q : Int32 → MS → Prop) (QX : String → MS → Prop) (S : MS) (a0 : Nat) (x1 : Int32) (x2 : Int32) : Prop := wX9_canAttack_0 Q QX S a0 x1 x2
set_option maxHeartbeats 4000000 in
set_option maxRecDepth 100000 in
theorem met_X9_canAttack {l : Launch} (hst : l.stackTraces = false) (G : GP) (sz : Nat) (Q : Int32 → MS → Prop) (QX : String → MS → Prop) (S : MS) (a0 : Nat) (x1 : Int32) (x2 : Int32) (p_a0 : pI S 9 a0) (hw : wp_X9_canAttack Q QX S a0 x1 x2) : vx_Met l yX9_canAttack (.code yX9_canAttack cX9_canAttack 3 (some .boolean) :: GW) rmX9_canAttack (va_Pc [.ref a0, .int x1, .int x2] (PR G S sz)) (QI G S (FA G S sz) Q) (XX G S (FA G S sz) QX) 0 0 (FA G S sz) := by
  refine st_m (by decide +kernel) hst (fun p e s m below meth c C hr hnm hex P => ?_)
  refine en_m (Nat.le_of_ble_eq_true rfl) (lv := [(0, .ref a0), (1, .int x1), (2, .int x2)]) rfl (fun ls hl => ?_)
  have C : CF p l s m _ meth c "SkirmishGridModel" cX9_canAttack 3 G (FA G S sz) := C
  exact tX9_canAttack_0 C hr hex Q QX S a0 x1 x2 p_a0 P hl (by omega) (by omega) hw
theorem cd_X9_canAttack : yX9_canAttack.cls = RX9 ∧ yX9_canAttack.cls ≠ "java/lang/invoke/MethodHandle" ∧ yX9_canAttack.cls ≠ "java/lang/invoke/VarHandle" ∧ (parseMethodDescriptor yX9_canAttack.desc).map (fun d => d.parameters.length) = some 2 := by decide +kernel
abbrev rmX9_hits : Room := { frames := 2, cells := 0, slots := 0, locals := 46 }
def wX9_hits_0 (Q : Int32 → MS → Prop) (QX : String → MS → Prop) (S : MS) (a0 : Nat) (x1 : Int32) (x2 : Int32) (x3 : Int32) : Prop := wp_X9_of (fun r2 S1 => wp_X9_of (fun r4 S3 => wp_X9_apart (fun r6 S5 => wp_X9_of (fun r8 S7 => wp_X9_of (fun r10 S9 => wp_X9_covers (fun r12 S11 => wp_X9_of (fun r14 S13 => ((x3 = 20 → Q 1 S13) ∧ (¬ x3 = 20 → ((x3 ≤ 1 → Q 0 S13) ∧ (¬ x3 ≤ 1 → wp_X9_kindly (fun r16 S15 => (((x3 + r16) < (((8 + r6) + (3 * r12)) + (2 * r14)) → Q 0 S15) ∧ (¬ (x3 + r16) < (((8 + r6) + (3 * r12)) + (2 * r14)) → Q 1 S15))) QX S13 a0 x1 2))))) QX S11 a0 x2 9) QX S9 a0 r8 r10) QX S7 a0 x1 2) QX S5 a0 x2 2) QX S3 a0 r2 r4) QX S1 a0 x2 2) QX S a0 x1 2
set_option maxHeartbeats 4000000 in
set_option maxRecDepth 100000 in
theorem tX9_hits_0 {p : Program} {l : Launch} {e : Env} {s : State} {m : MethodId} {args : Array Value} {below : List Frame} {meth : Method} {c : Code} {H : Heap} {locs : List Loc} {cells slots : Nat} {G : GP} {A : Nat → Prop} {S0 : MS} {ls : Array Slot} (C : CF p l s m args meth c "SkirmishGridModel" cX9_hits 5 G A) (hr : meth.sig.returnType = (some .boolean)) (hex : ∀ x ∈ c.exceptionTable.toList, False) (Q : Int32 → MS → Prop) (QX : String → MS → Prop) (S : MS) (a0 : Nat) (x1 : Int32) (x2 : Int32) (x3 : Int32) (p_a0 : pI S 9 a0) (P : PW G A s H locs S0 S) (hl : lv_has ls 5 [(0, .ref a0), (1, .int x1), (2, .int x2), (3, .int x3)]) (hcc : cells + 0 ≤ 0) (hss : slots + 0 ≤ 0) (hw : wX9_hits_0 Q QX S a0 x1 x2 x3) : W p l e rmX9_hits s m args below meth c H locs cells slots (vx_MQ below (QI G S0 A Q) (XX G S0 A QX) args s 0 0 A) (F0 m 0 ls []) := by
  have hx := CF_x C
  have hb := CF_b C
  unfold wX9_hits_0 at hw
  refine lv_bipush (v := 8) hx hb dX9_hits_0 (by decide) ?_
  refine lv_aload_n hx hb dX9_hits_2 rfl (lv_at hl 0 rfl) ?_
  refine lv_aload_n hx hb dX9_hits_3 rfl (lv_at hl 0 rfl) ?_
  refine lv_iload_n hx hb dX9_hits_4 rfl (lv_at hl 1 rfl) ?_
  refine lv_iconst (v := 2) hx hb dX9_hits_5 (by decide) ?_
  refine cl_i C P (run_V C P hl.1 (kd := 9) (met_X9_of (CF_n C) G H.size _ _ S a0 x1 2 p_a0 hw) p_a0 (by decide) rfl q_1457 q_1459 q_p34 q_10 q_1460 cd_X9_of ⟨(Nat.le_of_ble_eq_true rfl), (Nat.le_of_ble_eq_true rfl)⟩ rfl rfl (As := [.int x1, .int 2]) (rest := [.ref a0, .int 8]) rfl rfl (Nat.le_of_ble_eq_true rfl) dX9_hits_6 ⟨by show cells + 0 ≤ 0; omega, by show slots + 0 ≤ 0; omega⟩) (kx_out C hex (fun _ _ _ h => h) (by omega) (by omega)) (fun r2 S1 H locs P hE hw => ?_)
  have p_a0 : pI S1 9 a0 := pI_x hE p_a0
  refine lv_aload_n hx hb dX9_hits_9 rfl (lv_at hl 0 rfl) ?_
  refine lv_iload_n hx hb dX9_hits_10 rfl (lv_at hl 2 rfl) ?_
  refine lv_iconst (v := 2) hx hb dX9_hits_11 (by decide) ?_
  refine cl_i C P (run_V C P hl.1 (kd := 9) (met_X9_of (CF_n C) G H.size _ _ S1 a0 x2 2 p_a0 hw) p_a0 (by decide) rfl q_1457 q_1459 q_p34 q_10 q_1460 cd_X9_of ⟨(Nat.le_of_ble_eq_true rfl), (Nat.le_of_ble_eq_true rfl)⟩ rfl rfl (As := [.int x2, .int 2]) (rest := [.int r2, .ref a0, .int 8]) rfl rfl (Nat.le_of_ble_eq_true rfl) dX9_hits_12 ⟨by show cells + 0 ≤ 0; omega, by show slots + 0 ≤ 0; omega⟩) (kx_out C hex (fun _ _ _ h => h) (by omega) (by omega)) (fun r4 S3 H locs P hE hw => ?_)
  have p_a0 : pI S3 9 a0 := pI_x hE p_a0
  refine cl_i C P (run_V C P hl.1 (kd := 9) (met_X9_apart (CF_n C) G H.size _ _ S3 a0 r2 r4 p_a0 hw) p_a0 (by decide) rfl q_1600 q_1602 q_p58 q_10 q_1603 cd_X9_apart ⟨(Nat.le_of_ble_eq_true rfl), (Nat.le_of_ble_eq_true rfl)⟩ rfl rfl (As := [.int r2, .int r4]) (rest := [.int 8]) rfl rfl (Nat.le_of_ble_eq_true rfl) dX9_hits_15 ⟨by show cells + 0 ≤ 0; omega, by show slots + 0 ≤ 0; omega⟩) (kx_out C hex (fun _ _ _ h => h) (by omega) (by omega)) (fun r6 S5 H locs P hE hw => ?_)
  have p_a0 : pI S5 9 a0 := pI_x hE p_a0
  refine lv_iadd hx hb dX9_hits_18 ?_
  refine lv_iconst (v := 3) hx hb dX9_hits_19 (by decide) ?_
  refine lv_aload_n hx hb dX9_hits_20 rfl (lv_at hl 0 rfl) ?_
  refine lv_aload_n hx hb dX9_hits_21 rfl (lv_at hl 0 rfl) ?_
  refine lv_iload_n hx hb dX9_hits_22 rfl (lv_at hl 2 rfl) ?_
  refine lv_iconst (v := 2) hx hb dX9_hits_23 (by decide) ?_
  refine cl_i C P (run_V C P hl.1 (kd := 9) (met_X9_of (CF_n C) G H.size _ _ S5 a0 x2 2 p_a0 hw) p_a0 (by decide) rfl q_1457 q_1459 q_p34 q_10 q_1460 cd_X9_of ⟨(Nat.le_of_ble_eq_true rfl), (Nat.le_of_ble_eq_true rfl)⟩ rfl rfl (As := [.int x2, .int 2]) (rest := [.ref a0, .int 3, .int (8 + r6)]) rfl rfl (Nat.le_of_ble_eq_true rfl) dX9_hits_24 ⟨by show cells + 0 ≤ 0; omega, by show slots + 0 ≤ 0; omega⟩) (kx_out C hex (fun _ _ _ h => h) (by omega) (by omega)) (fun r8 S7 H locs P hE hw => ?_)
  have p_a0 : pI S7 9 a0 := pI_x hE p_a0
  refine lv_aload_n hx hb dX9_hits_27 rfl (lv_at hl 0 rfl) ?_
  refine lv_iload_n hx hb dX9_hits_28 rfl (lv_at hl 1 rfl) ?_
  refine lv_iconst (v := 2) hx hb dX9_hits_29 (by decide) ?_
  refine cl_i C P (run_V C P hl.1 (kd := 9) (met_X9_of (CF_n C) G H.size _ _ S7 a0 x1 2 p_a0 hw) p_a0 (by decide) rfl q_1457 q_1459 q_p34 q_10 q_1460 cd_X9_of ⟨(Nat.le_of_ble_eq_true rfl), (Nat.le_of_ble_eq_true rfl)⟩ rfl rfl (As := [.int x1, .int 2]) (rest := [.int r8, .ref a0, .int 3, .int (8 + r6)]) rfl rfl (Nat.le_of_ble_eq_true rfl) dX9_hits_30 ⟨by show cells + 0 ≤ 0; omega, by show slots + 0 ≤ 0; omega⟩) (kx_out C hex (fun _ _ _ h => h) (by omega) (by omega)) (fun r10 S9 H locs P hE hw => ?_)
  have p_a0 : pI S9 9 a0 := pI_x hE p_a0
  refine cl_i C P (run_V C P hl.1 (kd := 9) (met_X9_covers (CF_n C) G H.size _ _ S9 a0 r8 r10 p_a0 hw) p_a0 (by decide) rfl q_1441 q_1443 q_p31 q_10 q_1444 cd_X9_covers ⟨(Nat.le_of_ble_eq_true rfl), (Nat.le_of_ble_eq_true rfl)⟩ rfl rfl (As := [.int r8, .int r10]) (rest := [.int 3, .int (8 + r6)]) rfl rfl (Nat.le_of_ble_eq_true rfl) dX9_hits_33 ⟨by show cells + 0 ≤ 0; omega, by show slots + 0 ≤ 0; omega⟩) (kx_out C hex (fun _ _ _ h => h) (by omega) (by omega)) (fun r12 S11 H locs P hE hw => ?_)
  have p_a0 : pI S11 9 a0 := pI_x hE p_a0
  refine lv_imul hx hb dX9_hits_36 ?_
  refine lv_iadd hx hb dX9_hits_37 ?_
  refine lv_iconst (v := 2) hx hb dX9_hits_38 (by decide) ?_
  refine lv_aload_n hx hb dX9_hits_39 rfl (lv_at hl 0 rfl) ?_
  refine lv_iload_n hx hb dX9_hits_40 rfl (lv_at hl 2 rfl) ?_
  refine lv_bipush (v := 9) hx hb dX9_hits_41 (by decide) ?_
  refine cl_i C P (run_V C P hl.1 (kd := 9) (met_X9_of (CF_n C) G H.size _ _ S11 a0 x2 9 p_a0 hw) p_a0 (by decide) rfl q_1457 q_1459 q_p34 q_10 q_1460 cd_X9_of ⟨(Nat.le_of_ble_eq_true rfl), (Nat.le_of_ble_eq_true rfl)⟩ rfl rfl (As := [.int x2, .int 9]) (rest := [.int 2, .int ((8 + r6) + (3 * r12))]) rfl rfl (Nat.le_of_ble_eq_true rfl) dX9_hits_43 ⟨by show cells + 0 ≤ 0; omega, by show slots + 0 ≤ 0; omega⟩) (kx_out C hex (fun _ _ _ h => h) (by omega) (by omega)) (fun r14 S13 H locs P hE hw => ?_)
  have p_a0 : pI S13 9 a0 := pI_x hE p_a0
  refine lv_imul hx hb dX9_hits_46 ?_
  refine lv_iadd hx hb dX9_hits_47 ?_
  refine lv_istore (lv' := [(4, .int (((8 + r6) + (3 * r12)) + (2 * r14))), (0, .ref a0), (1, .int x1), (2, .int x2), (3, .int x3)]) hx hb dX9_hits_48 hl (by decide) rfl (fun ls hl => ?_)
  refine lv_iload_n hx hb dX9_hits_50 rfl (lv_at hl 4 rfl) ?_
  refine lv_bipush (v := 20) hx hb dX9_hits_51 (by decide) ?_
  refine lv_icmp_eq (tgt := 74) hx hb dX9_hits_53 (by decide) (fun hc => ?_) (fun hc => ?_)
  · have hw := hw.1 hc
    refine lv_iconst (v := 1) hx hb dX9_hits_74 (by decide) ?_
    refine lv_goto (tgt := 79) hx hb dX9_hits_75 (by decide) ?_
    exact e_i C hr (by decide +kernel) P hw (by omega) (by omega) dX9_hits_79
  · have hw := hw.2 hc
    refine lv_iload_n hx hb dX9_hits_56 rfl (lv_at hl 4 rfl) ?_
    refine lv_iconst (v := 1) hx hb dX9_hits_57 (by decide) ?_
    refine lv_icmp_le (tgt := 78) hx hb dX9_hits_58 (by decide) (fun hc => ?_) (fun hc => ?_)
    · have hw := hw.1 hc
      refine lv_iconst (v := 0) hx hb dX9_hits_78 (by decide) ?_
      exact e_i C hr (by decide +kernel) P hw (by omega) (by omega) dX9_hits_79
    · have hw := hw.2 hc
      refine lv_iload_n hx hb dX9_hits_61 rfl (lv_at hl 4 rfl) ?_
      refine lv_aload_n hx hb dX9_hits_62 rfl (lv_at hl 1 rfl) ?_
      refine lv_iload_n hx hb dX9_hits_63 rfl (lv_at hl 2 rfl) ?_
      refine lv_iconst (v := 2) hx hb dX9_hits_64 (by decide) ?_
      refine cl_i C P (run_V C P hl.1 (kd := 9) (met_X9_kindly (CF_n C) G H.size _ _ S13 a0 x1 2 p_a0 hw) p_a0 (by decide) rfl q_1532 q_1534 q_p44 q_10 q_1535 cd_X9_kindly ⟨(Nat.le_of_ble_eq_true rfl), (Nat.le_of_ble_eq_true rfl)⟩ rfl rfl (As := [.int x1, .int 2]) (rest := [.int x3]) rfl rfl (Nat.le_of_ble_eq_true rfl) dX9_hits_65 ⟨by show cells + 0 ≤ 0; omega, by show slots + 0 ≤ 0; omega⟩) (kx_out C hex (fun _ _ _ h => h) (by omega) (by omega)) (fun r16 S15 H locs P hE hw => ?_)
      have p_a0 : pI S15 9 a0 := pI_x hE p_a0
      refine lv_iadd hx hb dX9_hits_68 ?_
      refine lv_iload hx hb dX9_hits_69 (lv_at hl 0 rfl) ?_
      refine lv_icmp_lt (tgt := 78) hx hb dX9_hits_71 (by decide) (fun hc => ?_) (fun hc => ?_)
      · have hw := hw.1 hc
        refine lv_iconst (v := 0) hx hb dX9_hits_78 (by decide) ?_
        exact e_i C hr (by decide +kernel) P hw (by omega) (by omega) dX9_hits_79
      · have hw := hw.2 hc
        refine lv_iconst (v := 1) hx hb dX9_hits_74 (by decide) ?_
        refine lv_goto (tgt := 79) hx hb dX9_hits_75 (by decide) ?_
        exact e_i C hr (by decide +kernel) P hw (by omega) (by omega) dX9_hits_79
def wp_X9_hits (Q : Int32 → MS → Prop) (QX : String → MS → Prop) (S : MS) (a0 : Nat) (x1 : Int32) (x2 : Int32) (x3 : Int32) : Prop := wX9_hits_0 Q QX S a0 x1 x2 x3
set_option maxHeartbeats 4000000 in
set_option maxRecDepth 100000 in
theorem met_X9_hits {l : Launch} (hst : l.stackTraces = false) (G : GP) (sz : Nat) (Q : Int32 → MS → Prop) (QX : String → MS → Prop) (S : MS) (a0 : Nat) (x1 : Int32) (x2 : Int32) (x3 : Int32) (p_a0 : pI S 9 a0) (hw : wp_X9_hits Q QX S a0 x1 x2 x3) : vx_Met l yX9_hits (.code yX9_hits cX9_hits 5 (some .boolean) :: GW) rmX9_hits (va_Pc [.ref a0, .int x1, .int x2, .int x3] (PR G S sz)) (QI G S (FA G S sz) Q) (XX G S (FA G S sz) QX) 0 0 (FA G S sz) := by
  refine st_m (by decide +kernel) hst (fun p e s m below meth c C hr hnm hex P => ?_)
  refine en_m (Nat.le_of_ble_eq_true rfl) (lv := [(0, .ref a0), (1, .int x1), (2, .int x2), (3, .int x3)]) rfl (fun ls hl => ?_)
  have C : CF p l s m _ meth c "SkirmishGridModel" cX9_hits 5 G (FA G S sz) := C
  exact tX9_hits_0 C hr hex Q QX S a0 x1 x2 x3 p_a0 P hl (by omega) (by omega) hw
theorem cd_X9_hits : yX9_hits.cls = RX9 ∧ yX9_hits.cls ≠ "java/lang/invoke/MethodHandle" ∧ yX9_hits.cls ≠ "java/lang/invoke/VarHandle" ∧ (parseMethodDescriptor yX9_hits.desc).map (fun d => d.parameters.length) = some 3 := by decide +kernel
abbrev rmX9_damage : Room := { frames := 2, cells := 0, slots := 0, locals := 44 }
def wX9_damage_31 (Q : Int32 → MS → Prop) (QX : String → MS → Prop) (S : MS) (y3 : Int32) (z0 : Int32) : Prop := ((¬ y3 = 20 → Q z0 S) ∧ (y3 = 20 → Q (2 * z0) S))
set_option maxHeartbeats 4000000 in
set_option maxRecDepth 100000 in
theorem tX9_damage_31 {p : Program} {l : Launch} {e : Env} {s : State} {m : MethodId} {args : Array Value} {below : List Frame} {meth : Method} {c : Code} {H : Heap} {locs : List Loc} {cells slots : Nat} {G : GP} {A : Nat → Prop} {S0 : MS} {ls : Array Slot} (C : CF p l s m args meth c "SkirmishGridModel" cX9_damage 6 G A) (hr : meth.sig.returnType = (some .int)) (hex : ∀ x ∈ c.exceptionTable.toList, False) (Q : Int32 → MS → Prop) (QX : String → MS → Prop) (S : MS) (y3 : Int32) (z0 : Int32) (P : PW G A s H locs S0 S) (hl : lv_has ls 6 [(3, .int y3)]) (hcc : cells + 0 ≤ 0) (hss : slots + 0 ≤ 0) (hw : wX9_damage_31 Q QX S y3 z0) : W p l e rmX9_damage s m args below meth c H locs cells slots (vx_MQ below (QI G S0 A Q) (XX G S0 A QX) args s 0 0 A) (F0 m 31 ls [.int z0]) := by
  have hx := CF_x C
  have hb := CF_b C
  unfold wX9_damage_31 at hw
  refine lv_istore (lv' := [(5, .int z0), (3, .int y3)]) hx hb dX9_damage_31 hl (by decide) rfl (fun ls hl => ?_)
  refine lv_iload_n hx hb dX9_damage_33 rfl (lv_at hl 1 rfl) ?_
  refine lv_bipush (v := 20) hx hb dX9_damage_34 (by decide) ?_
  refine lv_icmp_ne (tgt := 46) hx hb dX9_damage_36 (by decide) (fun hc => ?_) (fun hc => ?_)
  · have hw := hw.1 hc
    refine lv_iload hx hb dX9_damage_46 (lv_at hl 0 rfl) ?_
    exact e_i C hr rfl P hw (by omega) (by omega) dX9_damage_48
  · have hw := hw.2 hc
    refine lv_iconst (v := 2) hx hb dX9_damage_39 (by decide) ?_
    refine lv_iload hx hb dX9_damage_40 (lv_at hl 0 rfl) ?_
    refine lv_imul hx hb dX9_damage_42 ?_
    refine lv_goto (tgt := 48) hx hb dX9_damage_43 (by decide) ?_
    exact e_i C hr rfl P hw (by omega) (by omega) dX9_damage_48
def wX9_damage_0 (Q : Int32 → MS → Prop) (QX : String → MS → Prop) (S : MS) (a0 : Nat) (x1 : Int32) (x2 : Int32) (x3 : Int32) (x4 : Int32) : Prop := wp_X9_kindly (fun r2 S1 => wp_X9_kindly (fun r4 S3 => ((1 ≤ ((x4 + r2) - r4) → wX9_damage_31 Q QX S3 x3 ((x4 + r2) - r4)) ∧ (¬ 1 ≤ ((x4 + r2) - r4) → wX9_damage_31 Q QX S3 x3 1))) QX S1 a0 x2 1) QX S a0 x1 6
set_option maxHeartbeats 4000000 in
set_option maxRecDepth 100000 in
theorem tX9_damage_0 {p : Program} {l : Launch} {e : Env} {s : State} {m : MethodId} {args : Array Value} {below : List Frame} {meth : Method} {c : Code} {H : Heap} {locs : List Loc} {cells slots : Nat} {G : GP} {A : Nat → Prop} {S0 : MS} {ls : Array Slot} (C : CF p l s m args meth c "SkirmishGridModel" cX9_damage 6 G A) (hr : meth.sig.returnType = (some .int)) (hex : ∀ x ∈ c.exceptionTable.toList, False) (Q : Int32 → MS → Prop) (QX : String → MS → Prop) (S : MS) (a0 : Nat) (x1 : Int32) (x2 : Int32) (x3 : Int32) (x4 : Int32) (p_a0 : pI S 9 a0) (P : PW G A s H locs S0 S) (hl : lv_has ls 6 [(0, .ref a0), (1, .int x1), (2, .int x2), (3, .int x3), (4, .int x4)]) (hcc : cells + 0 ≤ 0) (hss : slots + 0 ≤ 0) (hw : wX9_damage_0 Q QX S a0 x1 x2 x3 x4) : W p l e rmX9_damage s m args below meth c H locs cells slots (vx_MQ below (QI G S0 A Q) (XX G S0 A QX) args s 0 0 A) (F0 m 0 ls []) := by
  have hx := CF_x C
  have hb := CF_b C
  unfold wX9_damage_0 at hw
  refine lv_iload hx hb dX9_damage_0 (lv_at hl 4 rfl) ?_
  refine lv_aload_n hx hb dX9_damage_2 rfl (lv_at hl 0 rfl) ?_
  refine lv_iload_n hx hb dX9_damage_3 rfl (lv_at hl 1 rfl) ?_
  refine lv_bipush (v := 6) hx hb dX9_damage_4 (by decide) ?_
  refine cl_i C P (run_V C P hl.1 (kd := 9) (met_X9_kindly (CF_n C) G H.size _ _ S a0 x1 6 p_a0 hw) p_a0 (by decide) rfl q_1532 q_1534 q_p44 q_10 q_1535 cd_X9_kindly ⟨(Nat.le_of_ble_eq_true rfl), (Nat.le_of_ble_eq_true rfl)⟩ rfl rfl (As := [.int x1, .int 6]) (rest := [.int x4]) rfl rfl (Nat.le_of_ble_eq_true rfl) dX9_damage_6 ⟨by show cells + 0 ≤ 0; omega, by show slots + 0 ≤ 0; omega⟩) (kx_out C hex (fun _ _ _ h => h) (by omega) (by omega)) (fun r2 S1 H locs P hE hw => ?_)
  have p_a0 : pI S1 9 a0 := pI_x hE p_a0
  refine lv_iadd hx hb dX9_damage_9 ?_
  refine lv_aload_n hx hb dX9_damage_10 rfl (lv_at hl 0 rfl) ?_
  refine lv_iload_n hx hb dX9_damage_11 rfl (lv_at hl 2 rfl) ?_
  refine lv_iconst (v := 1) hx hb dX9_damage_12 (by decide) ?_
  refine cl_i C P (run_V C P hl.1 (kd := 9) (met_X9_kindly (CF_n C) G H.size _ _ S1 a0 x2 1 p_a0 hw) p_a0 (by decide) rfl q_1532 q_1534 q_p44 q_10 q_1535 cd_X9_kindly ⟨(Nat.le_of_ble_eq_true rfl), (Nat.le_of_ble_eq_true rfl)⟩ rfl rfl (As := [.int x2, .int 1]) (rest := [.int (x4 + r2)]) rfl rfl (Nat.le_of_ble_eq_true rfl) dX9_damage_13 ⟨by show cells + 0 ≤ 0; omega, by show slots + 0 ≤ 0; omega⟩) (kx_out C hex (fun _ _ _ h => h) (by omega) (by omega)) (fun r4 S3 H locs P hE hw => ?_)
  have p_a0 : pI S3 9 a0 := pI_x hE p_a0
  refine lv_isub hx hb dX9_damage_16 ?_
  refine lv_istore (lv' := [(5, .int ((x4 + r2) - r4)), (0, .ref a0), (1, .int x1), (2, .int x2), (3, .int x3), (4, .int x4)]) hx hb dX9_damage_17 hl (by decide) rfl (fun ls hl => ?_)
  refine lv_iload hx hb dX9_damage_19 (lv_at hl 0 rfl) ?_
  refine lv_iconst (v := 1) hx hb dX9_damage_21 (by decide) ?_
  refine lv_icmp_ge (tgt := 29) hx hb dX9_damage_22 (by decide) (fun hc => ?_) (fun hc => ?_)
  · have hw := hw.1 hc
    refine lv_iload hx hb dX9_damage_29 (lv_at hl 0 rfl) ?_
    exact tX9_damage_31 C hr hex Q QX S3 x3 ((x4 + r2) - r4) P (lv_sub hl [4] rfl) (by omega) (by omega) hw
  · have hw := hw.2 hc
    refine lv_iconst (v := 1) hx hb dX9_damage_25 (by decide) ?_
    refine lv_goto (tgt := 31) hx hb dX9_damage_26 (by decide) ?_
    exact tX9_damage_31 C hr hex Q QX S3 x3 1 P (lv_sub hl [4] rfl) (by omega) (by omega) hw
def wp_X9_damage (Q : Int32 → MS → Prop) (QX : String → MS → Prop) (S : MS) (a0 : Nat) (x1 : Int32) (x2 : Int32) (x3 : Int32) (x4 : Int32) : Prop := wX9_damage_0 Q QX S a0 x1 x2 x3 x4
set_option maxHeartbeats 4000000 in
set_option maxRecDepth 100000 in
theorem met_X9_damage {l : Launch} (hst : l.stackTraces = false) (G : GP) (sz : Nat) (Q : Int32 → MS → Prop) (QX : String → MS → Prop) (S : MS) (a0 : Nat) (x1 : Int32) (x2 : Int32) (x3 : Int32) (x4 : Int32) (p_a0 : pI S 9 a0) (hw : wp_X9_damage Q QX S a0 x1 x2 x3 x4) : vx_Met l yX9_damage (.code yX9_damage cX9_damage 6 (some .int) :: GW) rmX9_damage (va_Pc [.ref a0, .int x1, .int x2, .int x3, .int x4] (PR G S sz)) (QI G S (FA G S sz) Q) (XX G S (FA G S sz) QX) 0 0 (FA G S sz) := by
  refine st_m (by decide +kernel) hst (fun p e s m below meth c C hr hnm hex P => ?_)
  refine en_m (Nat.le_of_ble_eq_true rfl) (lv := [(0, .ref a0), (1, .int x1), (2, .int x2), (3, .int x3), (4, .int x4)]) rfl (fun ls hl => ?_)
  have C : CF p l s m _ meth c "SkirmishGridModel" cX9_damage 6 G (FA G S sz) := C
  exact tX9_damage_0 C hr hex Q QX S a0 x1 x2 x3 x4 p_a0 P hl (by omega) (by omega) hw
theorem cd_X9_damage : yX9_damage.cls = RX9 ∧ yX9_damage.cls ≠ "java/lang/invoke/MethodHandle" ∧ yX9_damage.cls ≠ "java/lang/invoke/VarHandle" ∧ (parseMethodDescriptor yX9_damage.desc).map (fun d => d.parameters.length) = some 4 := by decide +kernel
abbrev rmX9_attacks : Room := { frames := 3, cells := 0, slots := 0, locals := 70 }
def wX9_attacks_0 (Q : Int32 → MS → Prop) (QX : String → MS → Prop) (S : MS) (a0 : Nat) (x1 : Int32) (x2 : Int32) : Prop := wp_X9_of (fun r2 S1 => wp_X9_sets (fun S3 => wp_X9_roll (fun r5 S4 => wp_X9_hits (fun r7 S6 => ((¬ r7 = 0 → wp_X9_roll (fun r9 S8 => wp_X9_damage (fun r11 S10 => wp_X9_loses (fun S12 => wp_X9_tells (fun S13 => wp_X9_dies (fun S14 => Q r11 S14) QX S13 a0 x2) QX S12 a0 2 x1 r11) QX S10 a0 x2 r11) QX S8 a0 x1 x2 r5 r9) QX S6 a0 4) ∧ (r7 = 0 → wp_X9_tells (fun S15 => Q 0 S15) QX S6 a0 3 x1 x2))) QX S4 a0 x1 x2 r5) QX S3 a0 20) QX S1 a0 x1 4 (r2 - 1)) QX S a0 x1 4
set_option maxHeartbeats 4000000 in
set_option maxRecDepth 100000 in
theorem tX9_attacks_0 {p : Program} {l : Launch} {e : Env} {s : State} {m : MethodId} {args : Array Value} {below : List Frame} {meth : Method} {c : Code} {H : Heap} {locs : List Loc} {cells slots : Nat} {G : GP} {A : Nat → Prop} {S0 : MS} {ls : Array Slot} (C : CF p l s m args meth c "SkirmishGridModel" cX9_attacks 5 G A) (hr : meth.sig.returnType = (some .int)) (hex : ∀ x ∈ c.exceptionTable.toList, False) (Q : Int32 → MS → Prop) (QX : String → MS → Prop) (S : MS) (a0 : Nat) (x1 : Int32) (x2 : Int32) (p_a0 : pI S 9 a0) (P : PW G A s H locs S0 S) (hl : lv_has ls 5 [(0, .ref a0), (1, .int x1), (2, .int x2)]) (hcc : cells + 0 ≤ 0) (hss : slots + 0 ≤ 0) (hw : wX9_attacks_0 Q QX S a0 x1 x2) : W p l e rmX9_attacks s m args below meth c H locs cells slots (vx_MQ below (QI G S0 A Q) (XX G S0 A QX) args s 0 0 A) (F0 m 0 ls []) := by
  have hx := CF_x C
  have hb := CF_b C
  unfold wX9_attacks_0 at hw
  refine lv_aload_n hx hb dX9_attacks_0 rfl (lv_at hl 0 rfl) ?_
  refine lv_iload_n hx hb dX9_attacks_1 rfl (lv_at hl 1 rfl) ?_
  refine lv_iconst (v := 4) hx hb dX9_attacks_2 (by decide) ?_
  refine lv_aload_n hx hb dX9_attacks_3 rfl (lv_at hl 0 rfl) ?_
  refine lv_iload_n hx hb dX9_attacks_4 rfl (lv_at hl 1 rfl) ?_
  refine lv_iconst (v := 4) hx hb dX9_attacks_5 (by decide) ?_
  refine cl_i C P (run_V C P hl.1 (kd := 9) (met_X9_of (CF_n C) G H.size _ _ S a0 x1 4 p_a0 hw) p_a0 (by decide) rfl q_1457 q_1459 q_p34 q_10 q_1460 cd_X9_of ⟨(Nat.le_of_ble_eq_true rfl), (Nat.le_of_ble_eq_true rfl)⟩ rfl rfl (As := [.int x1, .int 4]) (rest := [.int 4, .int x1, .ref a0]) rfl rfl (Nat.le_of_ble_eq_true rfl) dX9_attacks_6 ⟨by show cells + 0 ≤ 0; omega, by show slots + 0 ≤ 0; omega⟩) (kx_out C hex (fun _ _ _ h => h) (by omega) (by omega)) (fun r2 S1 H locs P hE hw => ?_)
  have p_a0 : pI S1 9 a0 := pI_x hE p_a0
  refine lv_iconst (v := 1) hx hb dX9_attacks_9 (by decide) ?_
  refine lv_isub hx hb dX9_attacks_10 ?_
  refine cl_v C P (run_V C P hl.1 (kd := 9) (met_X9_sets (CF_n C) G H.size _ _ S1 a0 x1 4 (r2 - 1) p_a0 hw) p_a0 (by decide) rfl q_1465 q_1467 q_p36 q_10 q_1468 cd_X9_sets ⟨(Nat.le_of_ble_eq_true rfl), (Nat.le_of_ble_eq_true rfl)⟩ rfl rfl (As := [.int x1, .int 4, .int (r2 - 1)]) (rest := []) rfl rfl (Nat.le_of_ble_eq_true rfl) dX9_attacks_11 ⟨by show cells + 0 ≤ 0; omega, by show slots + 0 ≤ 0; omega⟩) (kx_out C hex (fun _ _ _ h => h) (by omega) (by omega)) (fun S3 H locs P hE hw => ?_)
  have p_a0 : pI S3 9 a0 := pI_x hE p_a0
  refine lv_aload_n hx hb dX9_attacks_14 rfl (lv_at hl 0 rfl) ?_
  refine lv_bipush (v := 20) hx hb dX9_attacks_15 (by decide) ?_
  refine cl_i C P (run_V C P hl.1 (kd := 9) (met_X9_roll (CF_n C) G H.size _ _ S3 a0 20 p_a0 hw) p_a0 (by decide) rfl q_1527 q_1529 q_p43 q_10 q_1530 cd_X9_roll ⟨(Nat.le_of_ble_eq_true rfl), (Nat.le_of_ble_eq_true rfl)⟩ rfl rfl (As := [.int 20]) (rest := []) rfl rfl (Nat.le_of_ble_eq_true rfl) dX9_attacks_17 ⟨by show cells + 0 ≤ 0; omega, by show slots + 0 ≤ 0; omega⟩) (kx_out C hex (fun _ _ _ h => h) (by omega) (by omega)) (fun r5 S4 H locs P hE hw => ?_)
  have p_a0 : pI S4 9 a0 := pI_x hE p_a0
  refine lv_istore_n (lv' := [(3, .int r5), (0, .ref a0), (1, .int x1), (2, .int x2)]) hx hb dX9_attacks_20 rfl hl (by decide) rfl (fun ls hl => ?_)
  refine lv_aload_n hx hb dX9_attacks_21 rfl (lv_at hl 1 rfl) ?_
  refine lv_iload_n hx hb dX9_attacks_22 rfl (lv_at hl 2 rfl) ?_
  refine lv_iload_n hx hb dX9_attacks_23 rfl (lv_at hl 3 rfl) ?_
  refine lv_iload_n hx hb dX9_attacks_24 rfl (lv_at hl 0 rfl) ?_
  refine cl_i C P (run_V C P hl.1 (kd := 9) (met_X9_hits (CF_n C) G H.size _ _ S4 a0 x1 x2 r5 p_a0 hw) p_a0 (by decide) rfl q_1604 q_1606 q_p59 q_10 q_1607 cd_X9_hits ⟨(Nat.le_of_ble_eq_true rfl), (Nat.le_of_ble_eq_true rfl)⟩ rfl rfl (As := [.int x1, .int x2, .int r5]) (rest := []) rfl rfl (Nat.le_of_ble_eq_true rfl) dX9_attacks_25 ⟨by show cells + 0 ≤ 0; omega, by show slots + 0 ≤ 0; omega⟩) (kx_out C hex (fun _ _ _ h => h) (by omega) (by omega)) (fun r7 S6 H locs P hE hw => ?_)
  have p_a0 : pI S6 9 a0 := pI_x hE p_a0
  refine lv_if_ne (tgt := 40) hx hb dX9_attacks_28 (by decide) (fun hc => ?_) (fun hc => ?_)
  · have hw := hw.1 hc
    refine lv_aload_n hx hb dX9_attacks_40 rfl (lv_at hl 1 rfl) ?_
    refine lv_iload_n hx hb dX9_attacks_41 rfl (lv_at hl 2 rfl) ?_
    refine lv_iload_n hx hb dX9_attacks_42 rfl (lv_at hl 3 rfl) ?_
    refine lv_iload_n hx hb dX9_attacks_43 rfl (lv_at hl 0 rfl) ?_
    refine lv_aload_n hx hb dX9_attacks_44 rfl (lv_at hl 1 rfl) ?_
    refine lv_iconst (v := 4) hx hb dX9_attacks_45 (by decide) ?_
    refine cl_i C P (run_V C P hl.1 (kd := 9) (met_X9_roll (CF_n C) G H.size _ _ S6 a0 4 p_a0 hw) p_a0 (by decide) rfl q_1527 q_1529 q_p43 q_10 q_1530 cd_X9_roll ⟨(Nat.le_of_ble_eq_true rfl), (Nat.le_of_ble_eq_true rfl)⟩ rfl rfl (As := [.int 4]) (rest := [.int r5, .int x2, .int x1, .ref a0]) rfl rfl (Nat.le_of_ble_eq_true rfl) dX9_attacks_46 ⟨by show cells + 0 ≤ 0; omega, by show slots + 0 ≤ 0; omega⟩) (kx_out C hex (fun _ _ _ h => h) (by omega) (by omega)) (fun r9 S8 H locs P hE hw => ?_)
    have p_a0 : pI S8 9 a0 := pI_x hE p_a0
    refine cl_i C P (run_V C P hl.1 (kd := 9) (met_X9_damage (CF_n C) G H.size _ _ S8 a0 x1 x2 r5 r9 p_a0 hw) p_a0 (by decide) rfl q_1617 q_1619 q_p61 q_10 q_1620 cd_X9_damage ⟨(Nat.le_of_ble_eq_true rfl), (Nat.le_of_ble_eq_true rfl)⟩ rfl rfl (As := [.int x1, .int x2, .int r5, .int r9]) (rest := []) rfl rfl (Nat.le_of_ble_eq_true rfl) dX9_attacks_49 ⟨by show cells + 0 ≤ 0; omega, by show slots + 0 ≤ 0; omega⟩) (kx_out C hex (fun _ _ _ h => h) (by omega) (by omega)) (fun r11 S10 H locs P hE hw => ?_)
    have p_a0 : pI S10 9 a0 := pI_x hE p_a0
    refine lv_istore (lv' := [(4, .int r11), (3, .int r5), (0, .ref a0), (1, .int x1), (2, .int x2)]) hx hb dX9_attacks_52 hl (by decide) rfl (fun ls hl => ?_)
    refine lv_aload_n hx hb dX9_attacks_54 rfl (lv_at hl 2 rfl) ?_
    refine lv_iload_n hx hb dX9_attacks_55 rfl (lv_at hl 4 rfl) ?_
    refine lv_iload hx hb dX9_attacks_56 (lv_at hl 0 rfl) ?_
    refine cl_v C P (run_V C P hl.1 (kd := 9) (met_X9_loses (CF_n C) G H.size _ _ S10 a0 x2 r11 p_a0 hw) p_a0 (by decide) rfl q_1544 q_1546 q_p47 q_10 q_1547 cd_X9_loses ⟨(Nat.le_of_ble_eq_true rfl), (Nat.le_of_ble_eq_true rfl)⟩ rfl rfl (As := [.int x2, .int r11]) (rest := []) rfl rfl (Nat.le_of_ble_eq_true rfl) dX9_attacks_58 ⟨by show cells + 0 ≤ 0; omega, by show slots + 0 ≤ 0; omega⟩) (kx_out C hex (fun _ _ _ h => h) (by omega) (by omega)) (fun S12 H locs P hE hw => ?_)
    have p_a0 : pI S12 9 a0 := pI_x hE p_a0
    refine lv_aload_n hx hb dX9_attacks_61 rfl (lv_at hl 2 rfl) ?_
    refine lv_iconst (v := 2) hx hb dX9_attacks_62 (by decide) ?_
    refine lv_iload_n hx hb dX9_attacks_63 rfl (lv_at hl 3 rfl) ?_
    refine lv_iload hx hb dX9_attacks_64 (lv_at hl 0 rfl) ?_
    refine cl_v C P (run_V C P hl.1 (kd := 9) (met_X9_tells (CF_n C) G H.size _ _ S12 a0 2 x1 r11 p_a0 hw) p_a0 (by decide) rfl q_1523 q_1525 q_p42 q_10 q_1526 cd_X9_tells ⟨(Nat.le_of_ble_eq_true rfl), (Nat.le_of_ble_eq_true rfl)⟩ rfl rfl (As := [.int 2, .int x1, .int r11]) (rest := []) rfl rfl (Nat.le_of_ble_eq_true rfl) dX9_attacks_66 ⟨by show cells + 0 ≤ 0; omega, by show slots + 0 ≤ 0; omega⟩) (kx_out C hex (fun _ _ _ h => h) (by omega) (by omega)) (fun S13 H locs P hE hw => ?_)
    have p_a0 : pI S13 9 a0 := pI_x hE p_a0
    refine lv_aload_n hx hb dX9_attacks_69 rfl (lv_at hl 2 rfl) ?_
    refine lv_iload_n hx hb dX9_attacks_70 rfl (lv_at hl 4 rfl) ?_
    refine cl_v C P (run_V C P hl.1 (kd := 9) (met_X9_dies (CF_n C) G H.size _ _ S13 a0 x2 p_a0 hw) p_a0 (by decide) rfl q_1548 q_1550 q_p48 q_10 q_1551 cd_X9_dies ⟨(Nat.le_of_ble_eq_true rfl), (Nat.le_of_ble_eq_true rfl)⟩ rfl rfl (As := [.int x2]) (rest := []) rfl rfl (Nat.le_of_ble_eq_true rfl) dX9_attacks_71 ⟨by show cells + 0 ≤ 0; omega, by show slots + 0 ≤ 0; omega⟩) (kx_out C hex (fun _ _ _ h => h) (by omega) (by omega)) (fun S14 H locs P hE hw => ?_)
    have p_a0 : pI S14 9 a0 := pI_x hE p_a0
    refine lv_iload hx hb dX9_attacks_74 (lv_at hl 0 rfl) ?_
    exact e_i C hr rfl P hw (by omega) (by omega) dX9_attacks_76
  · have hw := hw.2 hc
    refine lv_aload_n hx hb dX9_attacks_31 rfl (lv_at hl 1 rfl) ?_
    refine lv_iconst (v := 3) hx hb dX9_attacks_32 (by decide) ?_
    refine lv_iload_n hx hb dX9_attacks_33 rfl (lv_at hl 2 rfl) ?_
    refine lv_iload_n hx hb dX9_attacks_34 rfl (lv_at hl 3 rfl) ?_
    refine cl_v C P (run_V C P hl.1 (kd := 9) (met_X9_tells (CF_n C) G H.size _ _ S6 a0 3 x1 x2 p_a0 hw) p_a0 (by decide) rfl q_1523 q_1525 q_p42 q_10 q_1526 cd_X9_tells ⟨(Nat.le_of_ble_eq_true rfl), (Nat.le_of_ble_eq_true rfl)⟩ rfl rfl (As := [.int 3, .int x1, .int x2]) (rest := []) rfl rfl (Nat.le_of_ble_eq_true rfl) dX9_attacks_35 ⟨by show cells + 0 ≤ 0; omega, by show slots + 0 ≤ 0; omega⟩) (kx_out C hex (fun _ _ _ h => h) (by omega) (by omega)) (fun S15 H locs P hE hw => ?_)
    have p_a0 : pI S15 9 a0 := pI_x hE p_a0
    refine lv_iconst (v := 0) hx hb dX9_attacks_38 (by decide) ?_
    exact e_i C hr rfl P hw (by omega) (by omega) dX9_attacks_39
def wp_X9_attacks (Q : Int32 → MS → Prop) (QX : String → MS → Prop) (S : MS) (a0 : Nat) (x1 : Int32) (x2 : Int32) : Prop := wX9_attacks_0 Q QX S a0 x1 x2
set_option maxHeartbeats 4000000 in
set_option maxRecDepth 100000 in
theorem met_X9_attacks {l : Launch} (hst : l.stackTraces = false) (G : GP) (sz : Nat) (Q : Int32 → MS → Prop) (QX : String → MS → Prop) (S : MS) (a0 : Nat) (x1 : Int32) (x2 : Int32) (p_a0 : pI S 9 a0) (hw : wp_X9_attacks Q QX S a0 x1 x2) : vx_Met l yX9_attacks (.code yX9_attacks cX9_attacks 5 (some .int) :: GW) rmX9_attacks (va_Pc [.ref a0, .int x1, .int x2] (PR G S sz)) (QI G S (FA G S sz) Q) (XX G S (FA G S sz) QX) 0 0 (FA G S sz) := by
  refine st_m (by decide +kernel) hst (fun p e s m below meth c C hr hnm hex P => ?_)
  refine en_m (Nat.le_of_ble_eq_true rfl) (lv := [(0, .ref a0), (1, .int x1), (2, .int x2)]) rfl (fun ls hl => ?_)
  have C : CF p l s m _ meth c "SkirmishGridModel" cX9_attacks 5 G (FA G S sz) := C
  exact tX9_attacks_0 C hr hex Q QX S a0 x1 x2 p_a0 P hl (by omega) (by omega) hw
theorem cd_X9_attacks : yX9_attacks.cls = RX9 ∧ yX9_attacks.cls ≠ "java/lang/invoke/MethodHandle" ∧ yX9_attacks.cls ≠ "java/lang/invoke/VarHandle" ∧ (parseMethodDescriptor yX9_attacks.desc).map (fun d => d.parameters.length) = some 2 := by decide +kernel
abbrev rmX9_mayLook : Room := { frames := 4, cells := 0, slots := 0, locals := 100 }
def wX9_mayLook_35 (Q : Int32 → MS → Prop) (QX : String → MS → Prop) (S : MS) (a0 : Nat) (z0 : Int32) (w1 : Nat) : Prop := (∀ S1, S1 = (sI S w1 0 z0) → ((¬ (mI S1 a0 0) = 0 → Q 0 S1) ∧ ((mI S1 a0 0) = 0 → Q 1 S1)))
set_option maxHeartbeats 4000000 in
set_option maxRecDepth 100000 in
theorem tX9_mayLook_35 {p : Program} {l : Launch} {e : Env} {s : State} {m : MethodId} {args : Array Value} {below : List Frame} {meth : Method} {c : Code} {H : Heap} {locs : List Loc} {cells slots : Nat} {G : GP} {A : Nat → Prop} {S0 : MS} {ls : Array Slot} (C : CF p l s m args meth c "SkirmishGridModel" cX9_mayLook 3 G A) (hr : meth.sig.returnType = (some .boolean)) (hex : ∀ x ∈ c.exceptionTable.toList, False) (Q : Int32 → MS → Prop) (QX : String → MS → Prop) (S : MS) (a0 : Nat) (z0 : Int32) (w1 : Nat) (p_a0 : pI S 9 a0) (p_w1 : pI S 9 w1) (P : PW G A s H locs S0 S) (hl : lv_has ls 3 [(0, .ref a0)]) (hcc : cells + 0 ≤ 0) (hss : slots + 0 ≤ 0) (hw : wX9_mayLook_35 Q QX S a0 z0 w1) : W p l e rmX9_mayLook s m args below meth c H locs cells slots (vx_MQ below (QI G S0 A Q) (XX G S0 A QX) args s 0 0 A) (F0 m 35 ls [.int z0, .ref w1]) := by
  have hx := CF_x C
  have hb := CF_b C
  unfold wX9_mayLook_35 at hw
  refine pf_9_0 C P p_w1 q_1305 dX9_mayLook_35 (fun H locs P => ?_)
  obtain ⟨S1, hS⟩ : ∃ z, z = (sI S w1 0 z0) := ⟨_, rfl⟩
  have P : PW G A s H locs S0 S1 := by rw [hS]; exact P
  have p_a0 : pI S1 9 a0 := by rw [hS]; exact pI_x ext_sI p_a0
  have p_w1 : pI S1 9 w1 := by rw [hS]; exact pI_x ext_sI p_w1
  have hw := hw S1 hS
  refine lv_aload_n hx hb dX9_mayLook_38 rfl (lv_at hl 0 rfl) ?_
  refine gf_9_0 C P p_a0 q_1305 dX9_mayLook_39 ?_
  refine lv_if_ne (tgt := 49) hx hb dX9_mayLook_42 (by decide) (fun hc => ?_) (fun hc => ?_)
  · have hw := hw.1 hc
    refine lv_iconst (v := 0) hx hb dX9_mayLook_49 (by decide) ?_
    exact e_i C hr (by decide +kernel) P hw (by omega) (by omega) dX9_mayLook_50
  · have hw := hw.2 hc
    refine lv_iconst (v := 1) hx hb dX9_mayLook_45 (by decide) ?_
    refine lv_goto (tgt := 50) hx hb dX9_mayLook_46 (by decide) ?_
    exact e_i C hr (by decide +kernel) P hw (by omega) (by omega) dX9_mayLook_50
def wX9_mayLook_17 (Q : Int32 → MS → Prop) (QX : String → MS → Prop) (S : MS) (a0 : Nat) (w0 : Nat) : Prop := wX9_mayLook_35 Q QX S a0 1 w0
set_option maxHeartbeats 4000000 in
set_option maxRecDepth 100000 in
theorem tX9_mayLook_17 {p : Program} {l : Launch} {e : Env} {s : State} {m : MethodId} {args : Array Value} {below : List Frame} {meth : Method} {c : Code} {H : Heap} {locs : List Loc} {cells slots : Nat} {G : GP} {A : Nat → Prop} {S0 : MS} {ls : Array Slot} (C : CF p l s m args meth c "SkirmishGridModel" cX9_mayLook 3 G A) (hr : meth.sig.returnType = (some .boolean)) (hex : ∀ x ∈ c.exceptionTable.toList, False) (Q : Int32 → MS → Prop) (QX : String → MS → Prop) (S : MS) (a0 : Nat) (w0 : Nat) (p_a0 : pI S 9 a0) (p_w0 : pI S 9 w0) (P : PW G A s H locs S0 S) (hl : lv_has ls 3 [(0, .ref a0)]) (hcc : cells + 0 ≤ 0) (hss : slots + 0 ≤ 0) (hw : wX9_mayLook_17 Q QX S a0 w0) : W p l e rmX9_mayLook s m args below meth c H locs cells slots (vx_MQ below (QI G S0 A Q) (XX G S0 A QX) args s 0 0 A) (F0 m 17 ls [.ref w0]) := by
  have hx := CF_x C
  have hb := CF_b C
  unfold wX9_mayLook_17 at hw
  refine lv_iconst (v := 1) hx hb dX9_mayLook_17 (by decide) ?_
  refine lv_goto (tgt := 35) hx hb dX9_mayLook_18 (by decide) ?_
  exact tX9_mayLook_35 C hr hex Q QX S a0 1 w0 p_a0 p_w0 P (lv_sub hl [0] rfl) (by omega) (by omega) hw
def wX9_mayLook_0 (Q : Int32 → MS → Prop) (QX : String → MS → Prop) (S : MS) (a0 : Nat) (x1 : Int32) (x2 : Int32) : Prop := wp_X9_isUnit (fun r2 S1 => ((r2 = 0 → wX9_mayLook_17 Q QX S1 a0 a0) ∧ (¬ r2 = 0 → wp_X9_isUnit (fun r4 S3 => ((¬ r4 = 0 → wp_X9_canAttack (fun r6 S5 => ((¬ r6 = 0 → wX9_mayLook_35 Q QX S5 a0 0 a0) ∧ (r6 = 0 → wX9_mayLook_35 Q QX S5 a0 2 a0))) QX S3 a0 x1 x2) ∧ (r4 = 0 → wX9_mayLook_17 Q QX S3 a0 a0))) QX S1 a0 x2))) QX S a0 x1
set_option maxHeartbeats 4000000 in
set_option maxRecDepth 100000 in
theorem tX9_mayLook_0 {p : Program} {l : Launch} {e : Env} {s : State} {m : MethodId} {args : Array Value} {below : List Frame} {meth : Method} {c : Code} {H : Heap} {locs : List Loc} {cells slots : Nat} {G : GP} {A : Nat → Prop} {S0 : MS} {ls : Array Slot} (C : CF p l s m args meth c "SkirmishGridModel" cX9_mayLook 3 G A) (hr : meth.sig.returnType = (some .boolean)) (hex : ∀ x ∈ c.exceptionTable.toList, False) (Q : Int32 → MS → Prop) (QX : String → MS → Prop) (S : MS) (a0 : Nat) (x1 : Int32) (x2 : Int32) (p_a0 : pI S 9 a0) (P : PW G A s H locs S0 S) (hl : lv_has ls 3 [(0, .ref a0), (1, .int x1), (2, .int x2)]) (hcc : cells + 0 ≤ 0) (hss : slots + 0 ≤ 0) (hw : wX9_mayLook_0 Q QX S a0 x1 x2) : W p l e rmX9_mayLook s m args below meth c H locs cells slots (vx_MQ below (QI G S0 A Q) (XX G S0 A QX) args s 0 0 A) (F0 m 0 ls []) := by
  have hx := CF_x C
  have hb := CF_b C
  unfold wX9_mayLook_0 at hw
  refine lv_aload_n hx hb dX9_mayLook_0 rfl (lv_at hl 0 rfl) ?_
  refine lv_aload_n hx hb dX9_mayLook_1 rfl (lv_at hl 0 rfl) ?_
  refine lv_iload_n hx hb dX9_mayLook_2 rfl (lv_at hl 1 rfl) ?_
  refine cl_i C P (run_V C P hl.1 (kd := 9) (met_X9_isUnit (CF_n C) G H.size _ _ S a0 x1 p_a0 hw) p_a0 (by decide) rfl q_1480 q_1482 q_p37 q_10 q_1483 cd_X9_isUnit ⟨(Nat.le_of_ble_eq_true rfl), (Nat.le_of_ble_eq_true rfl)⟩ rfl rfl (As := [.int x1]) (rest := [.ref a0]) rfl rfl (Nat.le_of_ble_eq_true rfl) dX9_mayLook_3 ⟨by show cells + 0 ≤ 0; omega, by show slots + 0 ≤ 0; omega⟩) (kx_out C hex (fun _ _ _ h => h) (by omega) (by omega)) (fun r2 S1 H locs P hE hw => ?_)
  have p_a0 : pI S1 9 a0 := pI_x hE p_a0
  refine lv_if_eq (tgt := 17) hx hb dX9_mayLook_6 (by decide) (fun hc => ?_) (fun hc => ?_)
  · have hw := hw.1 hc
    exact tX9_mayLook_17 C hr hex Q QX S1 a0 a0 p_a0 p_a0 P (lv_sub hl [0] rfl) (by omega) (by omega) hw
  · have hw := hw.2 hc
    refine lv_aload_n hx hb dX9_mayLook_9 rfl (lv_at hl 0 rfl) ?_
    refine lv_iload_n hx hb dX9_mayLook_10 rfl (lv_at hl 2 rfl) ?_
    refine cl_i C P (run_V C P hl.1 (kd := 9) (met_X9_isUnit (CF_n C) G H.size _ _ S1 a0 x2 p_a0 hw) p_a0 (by decide) rfl q_1480 q_1482 q_p37 q_10 q_1483 cd_X9_isUnit ⟨(Nat.le_of_ble_eq_true rfl), (Nat.le_of_ble_eq_true rfl)⟩ rfl rfl (As := [.int x2]) (rest := [.ref a0]) rfl rfl (Nat.le_of_ble_eq_true rfl) dX9_mayLook_11 ⟨by show cells + 0 ≤ 0; omega, by show slots + 0 ≤ 0; omega⟩) (kx_out C hex (fun _ _ _ h => h) (by omega) (by omega)) (fun r4 S3 H locs P hE hw => ?_)
    have p_a0 : pI S3 9 a0 := pI_x hE p_a0
    refine lv_if_ne (tgt := 21) hx hb dX9_mayLook_14 (by decide) (fun hc => ?_) (fun hc => ?_)
    · have hw := hw.1 hc
      refine lv_aload_n hx hb dX9_mayLook_21 rfl (lv_at hl 0 rfl) ?_
      refine lv_iload_n hx hb dX9_mayLook_22 rfl (lv_at hl 1 rfl) ?_
      refine lv_iload_n hx hb dX9_mayLook_23 rfl (lv_at hl 2 rfl) ?_
      refine cl_i C P (run_V C P hl.1 (kd := 9) (met_X9_canAttack (CF_n C) G H.size _ _ S3 a0 x1 x2 p_a0 hw) p_a0 (by decide) rfl q_1596 q_1598 q_p57 q_10 q_1599 cd_X9_canAttack ⟨(Nat.le_of_ble_eq_true rfl), (Nat.le_of_ble_eq_true rfl)⟩ rfl rfl (As := [.int x1, .int x2]) (rest := [.ref a0]) rfl rfl (Nat.le_of_ble_eq_true rfl) dX9_mayLook_24 ⟨by show cells + 0 ≤ 0; omega, by show slots + 0 ≤ 0; omega⟩) (kx_out C hex (fun _ _ _ h => h) (by omega) (by omega)) (fun r6 S5 H locs P hE hw => ?_)
      have p_a0 : pI S5 9 a0 := pI_x hE p_a0
      refine lv_if_ne (tgt := 34) hx hb dX9_mayLook_27 (by decide) (fun hc => ?_) (fun hc => ?_)
      · have hw := hw.1 hc
        refine lv_iconst (v := 0) hx hb dX9_mayLook_34 (by decide) ?_
        exact tX9_mayLook_35 C hr hex Q QX S5 a0 0 a0 p_a0 p_a0 P (lv_sub hl [0] rfl) (by omega) (by omega) hw
      · have hw := hw.2 hc
        refine lv_iconst (v := 2) hx hb dX9_mayLook_30 (by decide) ?_
        refine lv_goto (tgt := 35) hx hb dX9_mayLook_31 (by decide) ?_
        exact tX9_mayLook_35 C hr hex Q QX S5 a0 2 a0 p_a0 p_a0 P (lv_sub hl [0] rfl) (by omega) (by omega) hw
    · have hw := hw.2 hc
      exact tX9_mayLook_17 C hr hex Q QX S3 a0 a0 p_a0 p_a0 P (lv_sub hl [0] rfl) (by omega) (by omega) hw
def wp_X9_mayLook (Q : Int32 → MS → Prop) (QX : String → MS → Prop) (S : MS) (a0 : Nat) (x1 : Int32) (x2 : Int32) : Prop := wX9_mayLook_0 Q QX S a0 x1 x2
set_option maxHeartbeats 4000000 in
set_option maxRecDepth 100000 in
theorem met_X9_mayLook {l : Launch} (hst : l.stackTraces = false) (G : GP) (sz : Nat) (Q : Int32 → MS → Prop) (QX : String → MS → Prop) (S : MS) (a0 : Nat) (x1 : Int32) (x2 : Int32) (p_a0 : pI S 9 a0) (hw : wp_X9_mayLook Q QX S a0 x1 x2) : vx_Met l yX9_mayLook (.code yX9_mayLook cX9_mayLook 3 (some .boolean) :: GW) rmX9_mayLook (va_Pc [.ref a0, .int x1, .int x2] (PR G S sz)) (QI G S (FA G S sz) Q) (XX G S (FA G S sz) QX) 0 0 (FA G S sz) := by
  refine st_m (by decide +kernel) hst (fun p e s m below meth c C hr hnm hex P => ?_)
  refine en_m (Nat.le_of_ble_eq_true rfl) (lv := [(0, .ref a0), (1, .int x1), (2, .int x2)]) rfl (fun ls hl => ?_)
  have C : CF p l s m _ meth c "SkirmishGridModel" cX9_mayLook 3 G (FA G S sz) := C
  exact tX9_mayLook_0 C hr hex Q QX S a0 x1 x2 p_a0 P hl (by omega) (by omega) hw
theorem cd_X9_mayLook : yX9_mayLook.cls = RX9 ∧ yX9_mayLook.cls ≠ "java/lang/invoke/MethodHandle" ∧ yX9_mayLook.cls ≠ "java/lang/invoke/VarHandle" ∧ (parseMethodDescriptor yX9_mayLook.desc).map (fun d => d.parameters.length) = some 2 := by decide +kernel
abbrev rmX9_chance : Room := { frames := 5, cells := 0, slots := 0, locals := 122 }
def wX9_chance_40 (Q : UInt64 → MS → Prop) (QX : String → MS → Prop) (k16 : MS → Nat → Int32 → Int32 → Int32 → Int32 → Prop) (S : MS) (a0 : Nat) (y1 : Int32) (y2 : Int32) (y4 : Int32) (z0 : Int32) (z1 : Int32) : Prop := k16 S a0 y1 y2 (z1 + z0) (y4 + 1)
set_option maxHeartbeats 4000000 in
set_option maxRecDepth 100000 in
theorem tX9_chance_40 {p : Program} {l : Launch} {e : Env} {s : State} {m : MethodId} {args : Array Value} {below : List Frame} {meth : Method} {c : Code} {H : Heap} {locs : List Loc} {cells slots : Nat} {G : GP} {A : Nat → Prop} {S0 : MS} {ls : Array Slot} (C : CF p l s m args meth c "SkirmishGridModel" cX9_chance 5 G A) (hr : meth.sig.returnType = (some .double)) (hex : ∀ x ∈ c.exceptionTable.toList, False) (Q : UInt64 → MS → Prop) (QX : String → MS → Prop) (k16 : MS → Nat → Int32 → Int32 → Int32 → Int32 → Prop) (kh16 : ∀ (S : MS) (a0 : Nat) (y1 : Int32) (y2 : Int32) (y3 : Int32) (y4 : Int32) (cells slots : Nat) (H : Heap) (locs : List Loc) (ls : Array Slot), pI S 9 a0 → PW G A s H locs S0 S → lv_has ls 5 [(0, .ref a0), (1, .int y1), (2, .int y2), (3, .int y3), (4, .int y4)] → cells + 0 ≤ 0 → slots + 0 ≤ 0 → k16 S a0 y1 y2 y3 y4 → W p l e rmX9_chance s m args below meth c H locs cells slots (vx_MQ below (QD G S0 A Q) (XX G S0 A QX) args s 0 0 A) (F0 m 16 ls [])) (S : MS) (a0 : Nat) (y1 : Int32) (y2 : Int32) (y4 : Int32) (z0 : Int32) (z1 : Int32) (p_a0 : pI S 9 a0) (P : PW G A s H locs S0 S) (hl : lv_has ls 5 [(0, .ref a0), (1, .int y1), (2, .int y2), (4, .int y4)]) (hcc : cells + 0 ≤ 0) (hss : slots + 0 ≤ 0) (hw : wX9_chance_40 Q QX k16 S a0 y1 y2 y4 z0 z1) : W p l e rmX9_chance s m args below meth c H locs cells slots (vx_MQ below (QD G S0 A Q) (XX G S0 A QX) args s 0 0 A) (F0 m 40 ls [.int z0, .int z1]) := by
  have hx := CF_x C
  have hb := CF_b C
  unfold wX9_chance_40 at hw
  refine lv_iadd hx hb dX9_chance_40 ?_
  refine lv_istore_n (lv' := [(3, .int (z1 + z0)), (0, .ref a0), (1, .int y1), (2, .int y2), (4, .int y4)]) hx hb dX9_chance_41 rfl hl (by decide) rfl (fun ls hl => ?_)
  refine lv_iinc (v := (y4 + 1)) (lv' := [(4, .int (y4 + 1)), (3, .int (z1 + z0)), (0, .ref a0), (1, .int y1), (2, .int y2)]) hx hb dX9_chance_42 hl (k := 4) rfl (by rfl) (by decide) rfl (fun ls hl => ?_)
  refine lv_goto (tgt := 16) hx hb dX9_chance_45 (by decide) ?_
  exact kh16 S a0 y1 y2 (z1 + z0) (y4 + 1) _ _ _ _ _ p_a0 P (lv_sub hl [2, 3, 4, 1, 0] rfl) (by omega) (by omega) hw
def wX9_chance_16 (Q : UInt64 → MS → Prop) (QX : String → MS → Prop) (k16 : MS → Nat → Int32 → Int32 → Int32 → Int32 → Prop) (S : MS) (a0 : Nat) (y1 : Int32) (y2 : Int32) (y3 : Int32) (y4 : Int32) : Prop := ((20 < y4 → (vf_n64 (FP.ddiv (FP.i2d y3) (4626322717216342016 : UInt64)) ∧ Q (FP.ddiv (FP.i2d y3) (4626322717216342016 : UInt64)) S)) ∧ (¬ 20 < y4 → wp_X9_hits (fun r2 S1 => ((r2 = 0 → wX9_chance_40 Q QX k16 S1 a0 y1 y2 y4 0 y3) ∧ (¬ r2 = 0 → wX9_chance_40 Q QX k16 S1 a0 y1 y2 y4 1 y3))) QX S a0 y1 y2 y4))
set_option maxHeartbeats 4000000 in
set_option maxRecDepth 100000 in
theorem tX9_chance_16 {p : Program} {l : Launch} {e : Env} {s : State} {m : MethodId} {args : Array Value} {below : List Frame} {meth : Method} {c : Code} {H : Heap} {locs : List Loc} {cells slots : Nat} {G : GP} {A : Nat → Prop} {S0 : MS} {ls : Array Slot} (C : CF p l s m args meth c "SkirmishGridModel" cX9_chance 5 G A) (hr : meth.sig.returnType = (some .double)) (hex : ∀ x ∈ c.exceptionTable.toList, False) (Q : UInt64 → MS → Prop) (QX : String → MS → Prop) (k16 : MS → Nat → Int32 → Int32 → Int32 → Int32 → Prop) (kh16 : ∀ (S : MS) (a0 : Nat) (y1 : Int32) (y2 : Int32) (y3 : Int32) (y4 : Int32) (cells slots : Nat) (H : Heap) (locs : List Loc) (ls : Array Slot), pI S 9 a0 → PW G A s H locs S0 S → lv_has ls 5 [(0, .ref a0), (1, .int y1), (2, .int y2), (3, .int y3), (4, .int y4)] → cells + 0 ≤ 0 → slots + 0 ≤ 0 → k16 S a0 y1 y2 y3 y4 → W p l e rmX9_chance s m args below meth c H locs cells slots (vx_MQ below (QD G S0 A Q) (XX G S0 A QX) args s 0 0 A) (F0 m 16 ls [])) (S : MS) (a0 : Nat) (y1 : Int32) (y2 : Int32) (y3 : Int32) (y4 : Int32) (p_a0 : pI S 9 a0) (P : PW G A s H locs S0 S) (hl : lv_has ls 5 [(0, .ref a0), (1, .int y1), (2, .int y2), (3, .int y3), (4, .int y4)]) (hcc : cells + 0 ≤ 0) (hss : slots + 0 ≤ 0) (hw : wX9_chance_16 Q QX k16 S a0 y1 y2 y3 y4) : W p l e rmX9_chance s m args below meth c H locs cells slots (vx_MQ below (QD G S0 A Q) (XX G S0 A QX) args s 0 0 A) (F0 m 16 ls []) := by
  have hx := CF_x C
  have hb := CF_b C
  unfold wX9_chance_16 at hw
  refine lv_iload hx hb dX9_chance_16 (lv_at hl 4 rfl) ?_
  refine lv_bipush (v := 20) hx hb dX9_chance_18 (by decide) ?_
  refine lv_icmp_gt (tgt := 48) hx hb dX9_chance_20 (by decide) (fun hc => ?_) (fun hc => ?_)
  · have hw := hw.1 hc
    refine lv_iload_n hx hb dX9_chance_48 rfl (lv_at hl 3 rfl) ?_
    refine lv_i2d hx hb dX9_chance_49 ?_
    refine lv_ldc2d (v := 4626322717216342016) hx hb (CF_o C) (CF_t C _ q_1608) dX9_chance_50 ?_
    obtain ⟨h1, hw⟩ := hw
    refine lv_ddiv hx hb dX9_chance_53 h1 ?_
    exact e_d C hr P hw (by omega) (by omega) dX9_chance_54
  · have hw := hw.2 hc
    refine lv_iload_n hx hb dX9_chance_23 rfl (lv_at hl 3 rfl) ?_
    refine lv_aload_n hx hb dX9_chance_24 rfl (lv_at hl 0 rfl) ?_
    refine lv_iload_n hx hb dX9_chance_25 rfl (lv_at hl 1 rfl) ?_
    refine lv_iload_n hx hb dX9_chance_26 rfl (lv_at hl 2 rfl) ?_
    refine lv_iload hx hb dX9_chance_27 (lv_at hl 4 rfl) ?_
    refine cl_i C P (run_V C P hl.1 (kd := 9) (met_X9_hits (CF_n C) G H.size _ _ S a0 y1 y2 y4 p_a0 hw) p_a0 (by decide) rfl q_1604 q_1606 q_p59 q_10 q_1607 cd_X9_hits ⟨(Nat.le_of_ble_eq_true rfl), (Nat.le_of_ble_eq_true rfl)⟩ rfl rfl (As := [.int y1, .int y2, .int y4]) (rest := [.int y3]) rfl rfl (Nat.le_of_ble_eq_true rfl) dX9_chance_29 ⟨by show cells + 0 ≤ 0; omega, by show slots + 0 ≤ 0; omega⟩) (kx_out C hex (fun _ _ _ h => h) (by omega) (by omega)) (fun r2 S1 H locs P hE hw => ?_)
    have p_a0 : pI S1 9 a0 := pI_x hE p_a0
    refine lv_if_eq (tgt := 39) hx hb dX9_chance_32 (by decide) (fun hc => ?_) (fun hc => ?_)
    · have hw := hw.1 hc
      refine lv_iconst (v := 0) hx hb dX9_chance_39 (by decide) ?_
      exact tX9_chance_40 C hr hex Q QX k16 kh16 S1 a0 y1 y2 y4 0 y3 p_a0 P (lv_sub hl [0, 1, 2, 4] rfl) (by omega) (by omega) hw
    · have hw := hw.2 hc
      refine lv_iconst (v := 1) hx hb dX9_chance_35 (by decide) ?_
      refine lv_goto (tgt := 40) hx hb dX9_chance_36 (by decide) ?_
      exact tX9_chance_40 C hr hex Q QX k16 kh16 S1 a0 y1 y2 y4 1 y3 p_a0 P (lv_sub hl [0, 1, 2, 4] rfl) (by omega) (by omega) hw
def lX9_chance_16 (Q : UInt64 → MS → Prop) (QX : String → MS → Prop) : Nat → MS → Nat → Int32 → Int32 → Int32 → Int32 → Prop
  | 0 => fun _ _ _ _ _ _ => False
  | n + 1 => fun S a0 y1 y2 y3 y4 => wX9_chance_16 Q QX (lX9_chance_16 Q QX n) S a0 y1 y2 y3 y4
theorem tlX9_chance_16 {p : Program} {l : Launch} {e : Env} {s : State} {m : MethodId} {args : Array Value} {below : List Frame} {meth : Method} {c : Code} {G : GP} {A : Nat → Prop} {S0 : MS} (C : CF p l s m args meth c "SkirmishGridModel" cX9_chance 5 G A) (hr : meth.sig.returnType = (some .double)) (hex : ∀ x ∈ c.exceptionTable.toList, False) (Q : UInt64 → MS → Prop) (QX : String → MS → Prop) : ∀ (n : Nat), ∀ (S : MS) (a0 : Nat) (y1 : Int32) (y2 : Int32) (y3 : Int32) (y4 : Int32) (cells slots : Nat) (H : Heap) (locs : List Loc) (ls : Array Slot), pI S 9 a0 → PW G A s H locs S0 S → lv_has ls 5 [(0, .ref a0), (1, .int y1), (2, .int y2), (3, .int y3), (4, .int y4)] → cells + 0 ≤ 0 → slots + 0 ≤ 0 → lX9_chance_16 Q QX n S a0 y1 y2 y3 y4 → W p l e rmX9_chance s m args below meth c H locs cells slots (vx_MQ below (QD G S0 A Q) (XX G S0 A QX) args s 0 0 A) (F0 m 16 ls []) := by
  intro n
  induction n with
  | zero => intro S a0 y1 y2 y3 y4 cells slots H locs ls p_a0 P hl hcc hss hw; exact hw.elim
  | succ n ih => intro S a0 y1 y2 y3 y4 cells slots H locs ls p_a0 P hl hcc hss hw; exact tX9_chance_16 C hr hex Q QX (lX9_chance_16 Q QX n) ih S a0 y1 y2 y3 y4 p_a0 P hl hcc hss hw
def wX9_chance_0 (Q : UInt64 → MS → Prop) (QX : String → MS → Prop) (S : MS) (a0 : Nat) (x1 : Int32) (x2 : Int32) : Prop := wp_X9_mayLook (fun r2 S1 => ((¬ r2 = 0 → (∃ n, lX9_chance_16 Q QX n S1 a0 x1 x2 0 1)) ∧ (r2 = 0 → Q FP.dconst0 S1))) QX S a0 x1 x2
set_option maxHeartbeats 4000000 in
set_option maxRecDepth 100000 in
theorem tX9_chance_0 {p : Program} {l : Launch} {e : Env} {s : State} {m : MethodId} {args : Array Value} {below : List Frame} {meth : Method} {c : Code} {H : Heap} {locs : List Loc} {cells slots : Nat} {G : GP} {A : Nat → Prop} {S0 : MS} {ls : Array Slot} (C : CF p l s m args meth c "SkirmishGridModel" cX9_chance 5 G A) (hr : meth.sig.returnType = (some .double)) (hex : ∀ x ∈ c.exceptionTable.toList, False) (Q : UInt64 → MS → Prop) (QX : String → MS → Prop) (S : MS) (a0 : Nat) (x1 : Int32) (x2 : Int32) (p_a0 : pI S 9 a0) (P : PW G A s H locs S0 S) (hl : lv_has ls 5 [(0, .ref a0), (1, .int x1), (2, .int x2)]) (hcc : cells + 0 ≤ 0) (hss : slots + 0 ≤ 0) (hw : wX9_chance_0 Q QX S a0 x1 x2) : W p l e rmX9_chance s m args below meth c H locs cells slots (vx_MQ below (QD G S0 A Q) (XX G S0 A QX) args s 0 0 A) (F0 m 0 ls []) := by
  have hx := CF_x C
  have hb := CF_b C
  unfold wX9_chance_0 at hw
  refine lv_aload_n hx hb dX9_chance_0 rfl (lv_at hl 0 rfl) ?_
  refine lv_iload_n hx hb dX9_chance_1 rfl (lv_at hl 1 rfl) ?_
  refine lv_iload_n hx hb dX9_chance_2 rfl (lv_at hl 2 rfl) ?_
  refine cl_i C P (run_V C P hl.1 (kd := 9) (met_X9_mayLook (CF_n C) G H.size _ _ S a0 x1 x2 p_a0 hw) p_a0 (by decide) rfl q_1592 q_1594 q_p56 q_10 q_1595 cd_X9_mayLook ⟨(Nat.le_of_ble_eq_true rfl), (Nat.le_of_ble_eq_true rfl)⟩ rfl rfl (As := [.int x1, .int x2]) (rest := []) rfl rfl (Nat.le_of_ble_eq_true rfl) dX9_chance_3 ⟨by show cells + 0 ≤ 0; omega, by show slots + 0 ≤ 0; omega⟩) (kx_out C hex (fun _ _ _ h => h) (by omega) (by omega)) (fun r2 S1 H locs P hE hw => ?_)
  have p_a0 : pI S1 9 a0 := pI_x hE p_a0
  refine lv_if_ne (tgt := 11) hx hb dX9_chance_6 (by decide) (fun hc => ?_) (fun hc => ?_)
  · have hw := hw.1 hc
    refine lv_iconst (v := 0) hx hb dX9_chance_11 (by decide) ?_
    refine lv_istore_n (lv' := [(3, .int 0), (0, .ref a0), (1, .int x1), (2, .int x2)]) hx hb dX9_chance_12 rfl hl (by decide) rfl (fun ls hl => ?_)
    refine lv_iconst (v := 1) hx hb dX9_chance_13 (by decide) ?_
    refine lv_istore (lv' := [(4, .int 1), (3, .int 0), (0, .ref a0), (1, .int x1), (2, .int x2)]) hx hb dX9_chance_14 hl (by decide) rfl (fun ls hl => ?_)
    obtain ⟨n, hw⟩ := hw
    exact tlX9_chance_16 C hr hex Q QX n S1 a0 x1 x2 0 1 _ _ _ _ _ p_a0 P (lv_sub hl [2, 3, 4, 1, 0] rfl) (by omega) (by omega) hw
  · have hw := hw.2 hc
    refine lv_dconst0 hx hb dX9_chance_9 ?_
    exact e_d C hr P hw (by omega) (by omega) dX9_chance_10
def wp_X9_chance (Q : UInt64 → MS → Prop) (QX : String → MS → Prop) (S : MS) (a0 : Nat) (x1 : Int32) (x2 : Int32) : Prop := wX9_chance_0 Q QX S a0 x1 x2
set_option maxHeartbeats 4000000 in
set_option maxRecDepth 100000 in
theorem met_X9_chance {l : Launch} (hst : l.stackTraces = false) (G : GP) (sz : Nat) (Q : UInt64 → MS → Prop) (QX : String → MS → Prop) (S : MS) (a0 : Nat) (x1 : Int32) (x2 : Int32) (p_a0 : pI S 9 a0) (hw : wp_X9_chance Q QX S a0 x1 x2) : vx_Met l yX9_chance (.code yX9_chance cX9_chance 5 (some .double) :: GW) rmX9_chance (va_Pc [.ref a0, .int x1, .int x2] (PR G S sz)) (QD G S (FA G S sz) Q) (XX G S (FA G S sz) QX) 0 0 (FA G S sz) := by
  refine st_m (by decide +kernel) hst (fun p e s m below meth c C hr hnm hex P => ?_)
  refine en_m (Nat.le_of_ble_eq_true rfl) (lv := [(0, .ref a0), (1, .int x1), (2, .int x2)]) rfl (fun ls hl => ?_)
  have C : CF p l s m _ meth c "SkirmishGridModel" cX9_chance 5 G (FA G S sz) := C
  exact tX9_chance_0 C hr hex Q QX S a0 x1 x2 p_a0 P hl (by omega) (by omega) hw
theorem cd_X9_chance : yX9_chance.cls = RX9 ∧ yX9_chance.cls ≠ "java/lang/invoke/MethodHandle" ∧ yX9_chance.cls ≠ "java/lang/invoke/VarHandle" ∧ (parseMethodDescriptor yX9_chance.desc).map (fun d => d.parameters.length) = some 2 := by decide +kernel
abbrev rmX9_damages : Room := { frames := 3, cells := 0, slots := 0, locals := 70 }
def wX9_damages_15 (Q : Int32 → MS → Prop) (QX : String → MS → Prop) (k5 : MS → Nat → Int32 → Int32 → Int32 → Int32 → Prop) (k15 : MS → Nat → Int32 → Int32 → Int32 → Int32 → Int32 → Prop) (S : MS) (a0 : Nat) (y1 : Int32) (y2 : Int32) (y3 : Int32) (y4 : Int32) (y5 : Int32) : Prop := ((4 < y5 → k5 S a0 y1 y2 y3 (y4 + 1)) ∧ (¬ 4 < y5 → wp_X9_hits (fun r2 S1 => ((r2 = 0 → k5 S1 a0 y1 y2 y3 (y4 + 1)) ∧ (¬ r2 = 0 → wp_X9_damage (fun r4 S3 => k15 S3 a0 y1 y2 (y3 + r4) y4 (y5 + 1)) QX S1 a0 y1 y2 y4 y5))) QX S a0 y1 y2 y4))
set_option maxHeartbeats 4000000 in
set_option maxRecDepth 100000 in
theorem tX9_damages_15 {p : Program} {l : Launch} {e : Env} {s : State} {m : MethodId} {args : Array Value} {below : List Frame} {meth : Method} {c : Code} {H : Heap} {locs : List Loc} {cells slots : Nat} {G : GP} {A : Nat → Prop} {S0 : MS} {ls : Array Slot} (C : CF p l s m args meth c "SkirmishGridModel" cX9_damages 6 G A) (hr : meth.sig.returnType = (some .int)) (hex : ∀ x ∈ c.exceptionTable.toList, False) (Q : Int32 → MS → Prop) (QX : String → MS → Prop) (k5 : MS → Nat → Int32 → Int32 → Int32 → Int32 → Prop) (k15 : MS → Nat → Int32 → Int32 → Int32 → Int32 → Int32 → Prop) (kh5 : ∀ (S : MS) (a0 : Nat) (y1 : Int32) (y2 : Int32) (y3 : Int32) (y4 : Int32) (cells slots : Nat) (H : Heap) (locs : List Loc) (ls : Array Slot), pI S 9 a0 → PW G A s H locs S0 S → lv_has ls 6 [(0, .ref a0), (1, .int y1), (2, .int y2), (3, .int y3), (4, .int y4)] → cells + 0 ≤ 0 → slots + 0 ≤ 0 → k5 S a0 y1 y2 y3 y4 → W p l e rmX9_damages s m args below meth c H locs cells slots (vx_MQ below (QI G S0 A Q) (XX G S0 A QX) args s 0 0 A) (F0 m 5 ls [])) (kh15 : ∀ (S : MS) (a0 : Nat) (y1 : Int32) (y2 : Int32) (y3 : Int32) (y4 : Int32) (y5 : Int32) (cells slots : Nat) (H : Heap) (locs : List Loc) (ls : Array Slot), pI S 9 a0 → PW G A s H locs S0 S → lv_has ls 6 [(0, .ref a0), (1, .int y1), (2, .int y2), (3, .int y3), (4, .int y4), (5, .int y5)] → cells + 0 ≤ 0 → slots + 0 ≤ 0 → k15 S a0 y1 y2 y3 y4 y5 → W p l e rmX9_damages s m args below meth c H locs cells slots (vx_MQ below (QI G S0 A Q) (XX G S0 A QX) args s 0 0 A) (F0 m 15 ls [])) (S : MS) (a0 : Nat) (y1 : Int32) (y2 : Int32) (y3 : Int32) (y4 : Int32) (y5 : Int32) (p_a0 : pI S 9 a0) (P : PW G A s H locs S0 S) (hl : lv_has ls 6 [(0, .ref a0), (1, .int y1), (2, .int y2), (3, .int y3), (4, .int y4), (5, .int y5)]) (hcc : cells + 0 ≤ 0) (hss : slots + 0 ≤ 0) (hw : wX9_damages_15 Q QX k5 k15 S a0 y1 y2 y3 y4 y5) : W p l e rmX9_damages s m args below meth c H locs cells slots (vx_MQ below (QI G S0 A Q) (XX G S0 A QX) args s 0 0 A) (F0 m 15 ls []) := by
  have hx := CF_x C
  have hb := CF_b C
  unfold wX9_damages_15 at hw
  refine lv_iload hx hb dX9_damages_15 (lv_at hl 5 rfl) ?_
  refine lv_iconst (v := 4) hx hb dX9_damages_17 (by decide) ?_
  refine lv_icmp_gt (tgt := 51) hx hb dX9_damages_18 (by decide) (fun hc => ?_) (fun hc => ?_)
  · have hw := hw.1 hc
    refine lv_iinc (v := (y4 + 1)) (lv' := [(4, .int (y4 + 1)), (0, .ref a0), (1, .int y1), (2, .int y2), (3, .int y3), (5, .int y5)]) hx hb dX9_damages_51 hl (k := 4) rfl (by rfl) (by decide) rfl (fun ls hl => ?_)
    refine lv_goto (tgt := 5) hx hb dX9_damages_54 (by decide) ?_
    exact kh5 S a0 y1 y2 y3 (y4 + 1) _ _ _ _ _ p_a0 P (lv_sub hl [1, 2, 3, 4, 0] rfl) (by omega) (by omega) hw
  · have hw := hw.2 hc
    refine lv_aload_n hx hb dX9_damages_21 rfl (lv_at hl 0 rfl) ?_
    refine lv_iload_n hx hb dX9_damages_22 rfl (lv_at hl 1 rfl) ?_
    refine lv_iload_n hx hb dX9_damages_23 rfl (lv_at hl 2 rfl) ?_
    refine lv_iload hx hb dX9_damages_24 (lv_at hl 4 rfl) ?_
    refine cl_i C P (run_V C P hl.1 (kd := 9) (met_X9_hits (CF_n C) G H.size _ _ S a0 y1 y2 y4 p_a0 hw) p_a0 (by decide) rfl q_1604 q_1606 q_p59 q_10 q_1607 cd_X9_hits ⟨(Nat.le_of_ble_eq_true rfl), (Nat.le_of_ble_eq_true rfl)⟩ rfl rfl (As := [.int y1, .int y2, .int y4]) (rest := []) rfl rfl (Nat.le_of_ble_eq_true rfl) dX9_damages_26 ⟨by show cells + 0 ≤ 0; omega, by show slots + 0 ≤ 0; omega⟩) (kx_out C hex (fun _ _ _ h => h) (by omega) (by omega)) (fun r2 S1 H locs P hE hw => ?_)
    have p_a0 : pI S1 9 a0 := pI_x hE p_a0
    refine lv_if_eq (tgt := 51) hx hb dX9_damages_29 (by decide) (fun hc => ?_) (fun hc => ?_)
    · have hw := hw.1 hc
      refine lv_iinc (v := (y4 + 1)) (lv' := [(4, .int (y4 + 1)), (0, .ref a0), (1, .int y1), (2, .int y2), (3, .int y3), (5, .int y5)]) hx hb dX9_damages_51 hl (k := 4) rfl (by rfl) (by decide) rfl (fun ls hl => ?_)
      refine lv_goto (tgt := 5) hx hb dX9_damages_54 (by decide) ?_
      exact kh5 S1 a0 y1 y2 y3 (y4 + 1) _ _ _ _ _ p_a0 P (lv_sub hl [1, 2, 3, 4, 0] rfl) (by omega) (by omega) hw
    · have hw := hw.2 hc
      refine lv_iload_n hx hb dX9_damages_32 rfl (lv_at hl 3 rfl) ?_
      refine lv_aload_n hx hb dX9_damages_33 rfl (lv_at hl 0 rfl) ?_
      refine lv_iload_n hx hb dX9_damages_34 rfl (lv_at hl 1 rfl) ?_
      refine lv_iload_n hx hb dX9_damages_35 rfl (lv_at hl 2 rfl) ?_
      refine lv_iload hx hb dX9_damages_36 (lv_at hl 4 rfl) ?_
      refine lv_iload hx hb dX9_damages_38 (lv_at hl 5 rfl) ?_
      refine cl_i C P (run_V C P hl.1 (kd := 9) (met_X9_damage (CF_n C) G H.size _ _ S1 a0 y1 y2 y4 y5 p_a0 hw) p_a0 (by decide) rfl q_1617 q_1619 q_p61 q_10 q_1620 cd_X9_damage ⟨(Nat.le_of_ble_eq_true rfl), (Nat.le_of_ble_eq_true rfl)⟩ rfl rfl (As := [.int y1, .int y2, .int y4, .int y5]) (rest := [.int y3]) rfl rfl (Nat.le_of_ble_eq_true rfl) dX9_damages_40 ⟨by show cells + 0 ≤ 0; omega, by show slots + 0 ≤ 0; omega⟩) (kx_out C hex (fun _ _ _ h => h) (by omega) (by omega)) (fun r4 S3 H locs P hE hw => ?_)
      have p_a0 : pI S3 9 a0 := pI_x hE p_a0
      refine lv_iadd hx hb dX9_damages_43 ?_
      refine lv_istore_n (lv' := [(3, .int (y3 + r4)), (0, .ref a0), (1, .int y1), (2, .int y2), (4, .int y4), (5, .int y5)]) hx hb dX9_damages_44 rfl hl (by decide) rfl (fun ls hl => ?_)
      refine lv_iinc (v := (y5 + 1)) (lv' := [(5, .int (y5 + 1)), (3, .int (y3 + r4)), (0, .ref a0), (1, .int y1), (2, .int y2), (4, .int y4)]) hx hb dX9_damages_45 hl (k := 5) rfl (by rfl) (by decide) rfl (fun ls hl => ?_)
      refine lv_goto (tgt := 15) hx hb dX9_damages_48 (by decide) ?_
      exact kh15 S3 a0 y1 y2 (y3 + r4) y4 (y5 + 1) _ _ _ _ _ p_a0 P (lv_sub hl [2, 3, 4, 1, 5, 0] rfl) (by omega) (by omega) hw
def lX9_damages_15 (Q : Int32 → MS → Prop) (QX : String → MS → Prop) (k5 : MS → Nat → Int32 → Int32 → Int32 → Int32 → Prop) : Nat → MS → Nat → Int32 → Int32 → Int32 → Int32 → Int32 → Prop
  | 0 => fun _ _ _ _ _ _ _ => False
  | n + 1 => fun S a0 y1 y2 y3 y4 y5 => wX9_damages_15 Q QX k5 (lX9_damages_15 Q QX k5 n) S a0 y1 y2 y3 y4 y5
theorem tlX9_damages_15 {p : Program} {l : Launch} {e : Env} {s : State} {m : MethodId} {args : Array Value} {below : List Frame} {meth : Method} {c : Code} {G : GP} {A : Nat → Prop} {S0 : MS} (C : CF p l s m args meth c "SkirmishGridModel" cX9_damages 6 G A) (hr : meth.sig.returnType = (some .int)) (hex : ∀ x ∈ c.exceptionTable.toList, False) (Q : Int32 → MS → Prop) (QX : String → MS → Prop) (k5 : MS → Nat → Int32 → Int32 → Int32 → Int32 → Prop) (kh5 : ∀ (S : MS) (a0 : Nat) (y1 : Int32) (y2 : Int32) (y3 : Int32) (y4 : Int32) (cells slots : Nat) (H : Heap) (locs : List Loc) (ls : Array Slot), pI S 9 a0 → PW G A s H locs S0 S → lv_has ls 6 [(0, .ref a0), (1, .int y1), (2, .int y2), (3, .int y3), (4, .int y4)] → cells + 0 ≤ 0 → slots + 0 ≤ 0 → k5 S a0 y1 y2 y3 y4 → W p l e rmX9_damages s m args below meth c H locs cells slots (vx_MQ below (QI G S0 A Q) (XX G S0 A QX) args s 0 0 A) (F0 m 5 ls [])) : ∀ (n : Nat), ∀ (S : MS) (a0 : Nat) (y1 : Int32) (y2 : Int32) (y3 : Int32) (y4 : Int32) (y5 : Int32) (cells slots : Nat) (H : Heap) (locs : List Loc) (ls : Array Slot), pI S 9 a0 → PW G A s H locs S0 S → lv_has ls 6 [(0, .ref a0), (1, .int y1), (2, .int y2), (3, .int y3), (4, .int y4), (5, .int y5)] → cells + 0 ≤ 0 → slots + 0 ≤ 0 → lX9_damages_15 Q QX k5 n S a0 y1 y2 y3 y4 y5 → W p l e rmX9_damages s m args below meth c H locs cells slots (vx_MQ below (QI G S0 A Q) (XX G S0 A QX) args s 0 0 A) (F0 m 15 ls []) := by
  intro n
  induction n with
  | zero => intro S a0 y1 y2 y3 y4 y5 cells slots H locs ls p_a0 P hl hcc hss hw; exact hw.elim
  | succ n ih => intro S a0 y1 y2 y3 y4 y5 cells slots H locs ls p_a0 P hl hcc hss hw; exact tX9_damages_15 C hr hex Q QX k5 (lX9_damages_15 Q QX k5 n) kh5 ih S a0 y1 y2 y3 y4 y5 p_a0 P hl hcc hss hw
def wX9_damages_5 (Q : Int32 → MS → Prop) (QX : String → MS → Prop) (k5 : MS → Nat → Int32 → Int32 → Int32 → Int32 → Prop) (S : MS) (a0 : Nat) (y1 : Int32) (y2 : Int32) (y3 : Int32) (y4 : Int32) : Prop := ((20 < y4 → Q y3 S) ∧ (¬ 20 < y4 → (∃ n, lX9_damages_15 Q QX k5 n S a0 y1 y2 y3 y4 1)))
set_option maxHeartbeats 4000000 in
set_option maxRecDepth 100000 in
theorem tX9_damages_5 {p : Program} {l : Launch} {e : Env} {s : State} {m : MethodId} {args : Array Value} {below : List Frame} {meth : Method} {c : Code} {H : Heap} {locs : List Loc} {cells slots : Nat} {G : GP} {A : Nat → Prop} {S0 : MS} {ls : Array Slot} (C : CF p l s m args meth c "SkirmishGridModel" cX9_damages 6 G A) (hr : meth.sig.returnType = (some .int)) (hex : ∀ x ∈ c.exceptionTable.toList, False) (Q : Int32 → MS → Prop) (QX : String → MS → Prop) (k5 : MS → Nat → Int32 → Int32 → Int32 → Int32 → Prop) (kh5 : ∀ (S : MS) (a0 : Nat) (y1 : Int32) (y2 : Int32) (y3 : Int32) (y4 : Int32) (cells slots : Nat) (H : Heap) (locs : List Loc) (ls : Array Slot), pI S 9 a0 → PW G A s H locs S0 S → lv_has ls 6 [(0, .ref a0), (1, .int y1), (2, .int y2), (3, .int y3), (4, .int y4)] → cells + 0 ≤ 0 → slots + 0 ≤ 0 → k5 S a0 y1 y2 y3 y4 → W p l e rmX9_damages s m args below meth c H locs cells slots (vx_MQ below (QI G S0 A Q) (XX G S0 A QX) args s 0 0 A) (F0 m 5 ls [])) (S : MS) (a0 : Nat) (y1 : Int32) (y2 : Int32) (y3 : Int32) (y4 : Int32) (p_a0 : pI S 9 a0) (P : PW G A s H locs S0 S) (hl : lv_has ls 6 [(0, .ref a0), (1, .int y1), (2, .int y2), (3, .int y3), (4, .int y4)]) (hcc : cells + 0 ≤ 0) (hss : slots + 0 ≤ 0) (hw : wX9_damages_5 Q QX k5 S a0 y1 y2 y3 y4) : W p l e rmX9_damages s m args below meth c H locs cells slots (vx_MQ below (QI G S0 A Q) (XX G S0 A QX) args s 0 0 A) (F0 m 5 ls []) := by
  have hx := CF_x C
  have hb := CF_b C
  unfold wX9_damages_5 at hw
  refine lv_iload hx hb dX9_damages_5 (lv_at hl 4 rfl) ?_
  refine lv_bipush (v := 20) hx hb dX9_damages_7 (by decide) ?_
  refine lv_icmp_gt (tgt := 57) hx hb dX9_damages_9 (by decide) (fun hc => ?_) (fun hc => ?_)
  · have hw := hw.1 hc
    refine lv_iload_n hx hb dX9_damages_57 rfl (lv_at hl 3 rfl) ?_
    exact e_i C hr rfl P hw (by omega) (by omega) dX9_damages_58
  · have hw := hw.2 hc
    refine lv_iconst (v := 1) hx hb dX9_damages_12 (by decide) ?_
    refine lv_istore (lv' := [(5, .int 1), (0, .ref a0), (1, .int y1), (2, .int y2), (3, .int y3), (4, .int y4)]) hx hb dX9_damages_13 hl (by decide) rfl (fun ls hl => ?_)
    obtain ⟨n, hw⟩ := hw
    exact tlX9_damages_15 C hr hex Q QX k5 kh5 n S a0 y1 y2 y3 y4 1 _ _ _ _ _ p_a0 P (lv_sub hl [1, 2, 3, 4, 5, 0] rfl) (by omega) (by omega) hw
def lX9_damages_5 (Q : Int32 → MS → Prop) (QX : String → MS → Prop) : Nat → MS → Nat → Int32 → Int32 → Int32 → Int32 → Prop
  | 0 => fun _ _ _ _ _ _ => False
  | n + 1 => fun S a0 y1 y2 y3 y4 => wX9_damages_5 Q QX (lX9_damages_5 Q QX n) S a0 y1 y2 y3 y4
theorem tlX9_damages_5 {p : Program} {l : Launch} {e : Env} {s : State} {m : MethodId} {args : Array Value} {below : List Frame} {meth : Method} {c : Code} {G : GP} {A : Nat → Prop} {S0 : MS} (C : CF p l s m args meth c "SkirmishGridModel" cX9_damages 6 G A) (hr : meth.sig.returnType = (some .int)) (hex : ∀ x ∈ c.exceptionTable.toList, False) (Q : Int32 → MS → Prop) (QX : String → MS → Prop) : ∀ (n : Nat), ∀ (S : MS) (a0 : Nat) (y1 : Int32) (y2 : Int32) (y3 : Int32) (y4 : Int32) (cells slots : Nat) (H : Heap) (locs : List Loc) (ls : Array Slot), pI S 9 a0 → PW G A s H locs S0 S → lv_has ls 6 [(0, .ref a0), (1, .int y1), (2, .int y2), (3, .int y3), (4, .int y4)] → cells + 0 ≤ 0 → slots + 0 ≤ 0 → lX9_damages_5 Q QX n S a0 y1 y2 y3 y4 → W p l e rmX9_damages s m args below meth c H locs cells slots (vx_MQ below (QI G S0 A Q) (XX G S0 A QX) args s 0 0 A) (F0 m 5 ls []) := by
  intro n
  induction n with
  | zero => intro S a0 y1 y2 y3 y4 cells slots H locs ls p_a0 P hl hcc hss hw; exact hw.elim
  | succ n ih => intro S a0 y1 y2 y3 y4 cells slots H locs ls p_a0 P hl hcc hss hw; exact tX9_damages_5 C hr hex Q QX (lX9_damages_5 Q QX n) ih S a0 y1 y2 y3 y4 p_a0 P hl hcc hss hw
def wX9_damages_0 (Q : Int32 → MS → Prop) (QX : String → MS → Prop) (S : MS) (a0 : Nat) (x1 : Int32) (x2 : Int32) : Prop := (∃ n, lX9_damages_5 Q QX n S a0 x1 x2 0 1)
set_option maxHeartbeats 4000000 in
set_option maxRecDepth 100000 in
theorem tX9_damages_0 {p : Program} {l : Launch} {e : Env} {s : State} {m : MethodId} {args : Array Value} {below : List Frame} {meth : Method} {c : Code} {H : Heap} {locs : List Loc} {cells slots : Nat} {G : GP} {A : Nat → Prop} {S0 : MS} {ls : Array Slot} (C : CF p l s m args meth c "SkirmishGridModel" cX9_damages 6 G A) (hr : meth.sig.returnType = (some .int)) (hex : ∀ x ∈ c.exceptionTable.toList, False) (Q : Int32 → MS → Prop) (QX : String → MS → Prop) (S : MS) (a0 : Nat) (x1 : Int32) (x2 : Int32) (p_a0 : pI S 9 a0) (P : PW G A s H locs S0 S) (hl : lv_has ls 6 [(0, .ref a0), (1, .int x1), (2, .int x2)]) (hcc : cells + 0 ≤ 0) (hss : slots + 0 ≤ 0) (hw : wX9_damages_0 Q QX S a0 x1 x2) : W p l e rmX9_damages s m args below meth c H locs cells slots (vx_MQ below (QI G S0 A Q) (XX G S0 A QX) args s 0 0 A) (F0 m 0 ls []) := by
  have hx := CF_x C
  have hb := CF_b C
  unfold wX9_damages_0 at hw
  refine lv_iconst (v := 0) hx hb dX9_damages_0 (by decide) ?_
  refine lv_istore_n (lv' := [(3, .int 0), (0, .ref a0), (1, .int x1), (2, .int x2)]) hx hb dX9_damages_1 rfl hl (by decide) rfl (fun ls hl => ?_)
  refine lv_iconst (v := 1) hx hb dX9_damages_2 (by decide) ?_
  refine lv_istore (lv' := [(4, .int 1), (3, .int 0), (0, .ref a0), (1, .int x1), (2, .int x2)]) hx hb dX9_damages_3 hl (by decide) rfl (fun ls hl => ?_)
  obtain ⟨n, hw⟩ := hw
  exact tlX9_damages_5 C hr hex Q QX n S a0 x1 x2 0 1 _ _ _ _ _ p_a0 P (lv_sub hl [2, 3, 4, 1, 0] rfl) (by omega) (by omega) hw
def wp_X9_damages (Q : Int32 → MS → Prop) (QX : String → MS → Prop) (S : MS) (a0 : Nat) (x1 : Int32) (x2 : Int32) : Prop := wX9_damages_0 Q QX S a0 x1 x2
set_option maxHeartbeats 4000000 in
set_option maxRecDepth 100000 in
theorem met_X9_damages {l : Launch} (hst : l.stackTraces = false) (G : GP) (sz : Nat) (Q : Int32 → MS → Prop) (QX : String → MS → Prop) (S : MS) (a0 : Nat) (x1 : Int32) (x2 : Int32) (p_a0 : pI S 9 a0) (hw : wp_X9_damages Q QX S a0 x1 x2) : vx_Met l yX9_damages (.code yX9_damages cX9_damages 6 (some .int) :: GW) rmX9_damages (va_Pc [.ref a0, .int x1, .int x2] (PR G S sz)) (QI G S (FA G S sz) Q) (XX G S (FA G S sz) QX) 0 0 (FA G S sz) := by
  refine st_m (by decide +kernel) hst (fun p e s m below meth c C hr hnm hex P => ?_)
  refine en_m (Nat.le_of_ble_eq_true rfl) (lv := [(0, .ref a0), (1, .int x1), (2, .int x2)]) rfl (fun ls hl => ?_)
  have C : CF p l s m _ meth c "SkirmishGridModel" cX9_damages 6 G (FA G S sz) := C
  exact tX9_damages_0 C hr hex Q QX S a0 x1 x2 p_a0 P hl (by omega) (by omega) hw
theorem cd_X9_damages : yX9_damages.cls = RX9 ∧ yX9_damages.cls ≠ "java/lang/invoke/MethodHandle" ∧ yX9_damages.cls ≠ "java/lang/invoke/VarHandle" ∧ (parseMethodDescriptor yX9_damages.desc).map (fun d => d.parameters.length) = some 2 := by decide +kernel
abbrev rmX9_meanDamage : Room := { frames := 5, cells := 0, slots := 0, locals := 122 }
def wX9_meanDamage_0 (Q : UInt64 → MS → Prop) (QX : String → MS → Prop) (S : MS) (a0 : Nat) (x1 : Int32) (x2 : Int32) : Prop := wp_X9_mayLook (fun r2 S1 => ((r2 = 0 → Q FP.dconst0 S1) ∧ (¬ r2 = 0 → wp_X9_damages (fun r4 S3 => (vf_n64 (FP.ddiv (FP.i2d r4) (4635329916471083008 : UInt64)) ∧ Q (FP.ddiv (FP.i2d r4) (4635329916471083008 : UInt64)) S3)) QX S1 a0 x1 x2))) QX S a0 x1 x2
set_option maxHeartbeats 4000000 in
set_option maxRecDepth 100000 in
theorem tX9_meanDamage_0 {p : Program} {l : Launch} {e : Env} {s : State} {m : MethodId} {args : Array Value} {below : List Frame} {meth : Method} {c : Code} {H : Heap} {locs : List Loc} {cells slots : Nat} {G : GP} {A : Nat → Prop} {S0 : MS} {ls : Array Slot} (C : CF p l s m args meth c "SkirmishGridModel" cX9_meanDamage 3 G A) (hr : meth.sig.returnType = (some .double)) (hex : ∀ x ∈ c.exceptionTable.toList, False) (Q : UInt64 → MS → Prop) (QX : String → MS → Prop) (S : MS) (a0 : Nat) (x1 : Int32) (x2 : Int32) (p_a0 : pI S 9 a0) (P : PW G A s H locs S0 S) (hl : lv_has ls 3 [(0, .ref a0), (1, .int x1), (2, .int x2)]) (hcc : cells + 0 ≤ 0) (hss : slots + 0 ≤ 0) (hw : wX9_meanDamage_0 Q QX S a0 x1 x2) : W p l e rmX9_meanDamage s m args below meth c H locs cells slots (vx_MQ below (QD G S0 A Q) (XX G S0 A QX) args s 0 0 A) (F0 m 0 ls []) := by
  have hx := CF_x C
  have hb := CF_b C
  unfold wX9_meanDamage_0 at hw
  refine lv_aload_n hx hb dX9_meanDamage_0 rfl (lv_at hl 0 rfl) ?_
  refine lv_iload_n hx hb dX9_meanDamage_1 rfl (lv_at hl 1 rfl) ?_
  refine lv_iload_n hx hb dX9_meanDamage_2 rfl (lv_at hl 2 rfl) ?_
  refine cl_i C P (run_V C P hl.1 (kd := 9) (met_X9_mayLook (CF_n C) G H.size _ _ S a0 x1 x2 p_a0 hw) p_a0 (by decide) rfl q_1592 q_1594 q_p56 q_10 q_1595 cd_X9_mayLook ⟨(Nat.le_of_ble_eq_true rfl), (Nat.le_of_ble_eq_true rfl)⟩ rfl rfl (As := [.int x1, .int x2]) (rest := []) rfl rfl (Nat.le_of_ble_eq_true rfl) dX9_meanDamage_3 ⟨by show cells + 0 ≤ 0; omega, by show slots + 0 ≤ 0; omega⟩) (kx_out C hex (fun _ _ _ h => h) (by omega) (by omega)) (fun r2 S1 H locs P hE hw => ?_)
  have p_a0 : pI S1 9 a0 := pI_x hE p_a0
  refine lv_if_eq (tgt := 23) hx hb dX9_meanDamage_6 (by decide) (fun hc => ?_) (fun hc => ?_)
  · have hw := hw.1 hc
    refine lv_dconst0 hx hb dX9_meanDamage_23 ?_
    exact e_d C hr P hw (by omega) (by omega) dX9_meanDamage_24
  · have hw := hw.2 hc
    refine lv_aload_n hx hb dX9_meanDamage_9 rfl (lv_at hl 0 rfl) ?_
    refine lv_iload_n hx hb dX9_meanDamage_10 rfl (lv_at hl 1 rfl) ?_
    refine lv_iload_n hx hb dX9_meanDamage_11 rfl (lv_at hl 2 rfl) ?_
    refine cl_i C P (run_V C P hl.1 (kd := 9) (met_X9_damages (CF_n C) G H.size _ _ S1 a0 x1 x2 p_a0 hw) p_a0 (by decide) rfl q_1613 q_1615 q_p60 q_10 q_1616 cd_X9_damages ⟨(Nat.le_of_ble_eq_true rfl), (Nat.le_of_ble_eq_true rfl)⟩ rfl rfl (As := [.int x1, .int x2]) (rest := []) rfl rfl (Nat.le_of_ble_eq_true rfl) dX9_meanDamage_12 ⟨by show cells + 0 ≤ 0; omega, by show slots + 0 ≤ 0; omega⟩) (kx_out C hex (fun _ _ _ h => h) (by omega) (by omega)) (fun r4 S3 H locs P hE hw => ?_)
    have p_a0 : pI S3 9 a0 := pI_x hE p_a0
    refine lv_i2d hx hb dX9_meanDamage_15 ?_
    refine lv_ldc2d (v := 4635329916471083008) hx hb (CF_o C) (CF_t C _ q_1621) dX9_meanDamage_16 ?_
    obtain ⟨h1, hw⟩ := hw
    refine lv_ddiv hx hb dX9_meanDamage_19 h1 ?_
    refine lv_goto (tgt := 24) hx hb dX9_meanDamage_20 (by decide) ?_
    exact e_d C hr P hw (by omega) (by omega) dX9_meanDamage_24
def wp_X9_meanDamage (Q : UInt64 → MS → Prop) (QX : String → MS → Prop) (S : MS) (a0 : Nat) (x1 : Int32) (x2 : Int32) : Prop := wX9_meanDamage_0 Q QX S a0 x1 x2
set_option maxHeartbeats 4000000 in
set_option maxRecDepth 100000 in
theorem met_X9_meanDamage {l : Launch} (hst : l.stackTraces = false) (G : GP) (sz : Nat) (Q : UInt64 → MS → Prop) (QX : String → MS → Prop) (S : MS) (a0 : Nat) (x1 : Int32) (x2 : Int32) (p_a0 : pI S 9 a0) (hw : wp_X9_meanDamage Q QX S a0 x1 x2) : vx_Met l yX9_meanDamage (.code yX9_meanDamage cX9_meanDamage 3 (some .double) :: GW) rmX9_meanDamage (va_Pc [.ref a0, .int x1, .int x2] (PR G S sz)) (QD G S (FA G S sz) Q) (XX G S (FA G S sz) QX) 0 0 (FA G S sz) := by
  refine st_m (by decide +kernel) hst (fun p e s m below meth c C hr hnm hex P => ?_)
  refine en_m (Nat.le_of_ble_eq_true rfl) (lv := [(0, .ref a0), (1, .int x1), (2, .int x2)]) rfl (fun ls hl => ?_)
  have C : CF p l s m _ meth c "SkirmishGridModel" cX9_meanDamage 3 G (FA G S sz) := C
  exact tX9_meanDamage_0 C hr hex Q QX S a0 x1 x2 p_a0 P hl (by omega) (by omega) hw
theorem cd_X9_meanDamage : yX9_meanDamage.cls = RX9 ∧ yX9_meanDamage.cls ≠ "java/lang/invoke/MethodHandle" ∧ yX9_meanDamage.cls ≠ "java/lang/invoke/VarHandle" ∧ (parseMethodDescriptor yX9_meanDamage.desc).map (fun d => d.parameters.length) = some 2 := by decide +kernel
