theorem q_401 : Cond.methodLink "SkirmishGridLaw" 129 yL_append ∈ GW := gw_t 401 (by decide +kernel) (by decide +kernel)
theorem q_402 : Cond.static yL_append ∈ GW := gw_t 402 (by decide +kernel) (by decide +kernel)
theorem q_0 : Cond.initialized "SkirmishGridLaw" ∈ GW := gw_t 0 (by decide +kernel) (by decide +kernel)
theorem q_403 : Cond.codeWith yL_append cL_append 4 (some .int) [(0, 9, 12, 13), (0, 9, 15, 15)] ∈ GW := gw_t 403 (by decide +kernel) (by decide +kernel)
theorem q_1379 : Cond.methodLink "SkirmishGridLaw" 134 yX9_append ∈ GW := gw_t 1379 (by decide +kernel) (by decide +kernel)
theorem q_1380 : Cond.instanceMethod yX9_append ∈ GW := gw_t 1380 (by decide +kernel) (by decide +kernel)
theorem q_1381 : Cond.selects "SkirmishGridModel" yX9_append yX9_append ∈ GW := gw_t 1381 (by decide +kernel) (by decide +kernel)
theorem q_1382 : Cond.code yX9_append cX9_append 2 (some .int) ∈ GW := gw_t 1382 (by decide +kernel) (by decide +kernel)
theorem q_1375 : Cond.methodLink "SkirmishGridLaw" 135 yX9_thrown ∈ GW := gw_t 1375 (by decide +kernel) (by decide +kernel)
theorem q_1376 : Cond.instanceMethod yX9_thrown ∈ GW := gw_t 1376 (by decide +kernel) (by decide +kernel)
theorem q_1377 : Cond.selects "SkirmishGridModel" yX9_thrown yX9_thrown ∈ GW := gw_t 1377 (by decide +kernel) (by decide +kernel)
theorem q_1378 : Cond.code yX9_thrown cX9_thrown 1 (some .int) ∈ GW := gw_t 1378 (by decide +kernel) (by decide +kernel)
theorem q_498 : Cond.methodLink "SkirmishGridLaw" 138 yL_load ∈ GW := gw_t 498 (by decide +kernel) (by decide +kernel)
theorem q_499 : Cond.static yL_load ∈ GW := gw_t 499 (by decide +kernel) (by decide +kernel)
theorem q_500 : Cond.codeWith yL_load cL_load 4 (some .int) [(0, 9, 12, 13), (0, 9, 15, 21)] ∈ GW := gw_t 500 (by decide +kernel) (by decide +kernel)
theorem q_1390 : Cond.methodLink "SkirmishGridLaw" 141 yX9_load ∈ GW := gw_t 1390 (by decide +kernel) (by decide +kernel)
theorem q_1391 : Cond.instanceMethod yX9_load ∈ GW := gw_t 1391 (by decide +kernel) (by decide +kernel)
theorem q_1392 : Cond.selects "SkirmishGridModel" yX9_load yX9_load ∈ GW := gw_t 1392 (by decide +kernel) (by decide +kernel)
theorem q_1393 : Cond.code yX9_load cX9_load 6 (some .int) ∈ GW := gw_t 1393 (by decide +kernel) (by decide +kernel)
theorem q_633 : Cond.methodLink "SkirmishGridLaw" 142 yL_errorPosition ∈ GW := gw_t 633 (by decide +kernel) (by decide +kernel)
theorem q_634 : Cond.static yL_errorPosition ∈ GW := gw_t 634 (by decide +kernel) (by decide +kernel)
theorem q_635 : Cond.codeWith yL_errorPosition cL_errorPosition 3 (some .int) [(0, 8, 11, 27)] ∈ GW := gw_t 635 (by decide +kernel) (by decide +kernel)
theorem q_1401 : Cond.methodLink "SkirmishGridLaw" 145 yX9_errorPosition ∈ GW := gw_t 1401 (by decide +kernel) (by decide +kernel)
theorem q_1402 : Cond.instanceMethod yX9_errorPosition ∈ GW := gw_t 1402 (by decide +kernel) (by decide +kernel)
theorem q_1403 : Cond.selects "SkirmishGridModel" yX9_errorPosition yX9_errorPosition ∈ GW := gw_t 1403 (by decide +kernel) (by decide +kernel)
theorem q_1404 : Cond.code yX9_errorPosition cX9_errorPosition 1 (some .int) ∈ GW := gw_t 1404 (by decide +kernel) (by decide +kernel)
theorem q_657 : Cond.methodLink "SkirmishGridLaw" 146 yL_terrain ∈ GW := gw_t 657 (by decide +kernel) (by decide +kernel)
theorem q_658 : Cond.static yL_terrain ∈ GW := gw_t 658 (by decide +kernel) (by decide +kernel)
theorem q_659 : Cond.codeWith yL_terrain cL_terrain 5 (some .int) [(0, 10, 13, 33)] ∈ GW := gw_t 659 (by decide +kernel) (by decide +kernel)
theorem q_1405 : Cond.methodLink "SkirmishGridLaw" 149 yX9_terrain ∈ GW := gw_t 1405 (by decide +kernel) (by decide +kernel)
theorem q_1406 : Cond.instanceMethod yX9_terrain ∈ GW := gw_t 1406 (by decide +kernel) (by decide +kernel)
theorem q_1407 : Cond.selects "SkirmishGridModel" yX9_terrain yX9_terrain ∈ GW := gw_t 1407 (by decide +kernel) (by decide +kernel)
theorem q_1408 : Cond.code yX9_terrain cX9_terrain 4 (some .char) ∈ GW := gw_t 1408 (by decide +kernel) (by decide +kernel)
theorem q_726 : Cond.methodLink "SkirmishGridLaw" 150 yL_isSeen ∈ GW := gw_t 726 (by decide +kernel) (by decide +kernel)
theorem q_727 : Cond.static yL_isSeen ∈ GW := gw_t 727 (by decide +kernel) (by decide +kernel)
theorem q_728 : Cond.codeWith yL_isSeen cL_isSeen 5 (some .int) [(0, 17, 20, 33)] ∈ GW := gw_t 728 (by decide +kernel) (by decide +kernel)
theorem q_1409 : Cond.methodLink "SkirmishGridLaw" 152 yX9_isSeen ∈ GW := gw_t 1409 (by decide +kernel) (by decide +kernel)
theorem q_1410 : Cond.instanceMethod yX9_isSeen ∈ GW := gw_t 1410 (by decide +kernel) (by decide +kernel)
theorem q_1411 : Cond.selects "SkirmishGridModel" yX9_isSeen yX9_isSeen ∈ GW := gw_t 1411 (by decide +kernel) (by decide +kernel)
theorem q_1412 : Cond.code yX9_isSeen cX9_isSeen 3 (some .boolean) ∈ GW := gw_t 1412 (by decide +kernel) (by decide +kernel)
theorem q_761 : Cond.methodLink "SkirmishGridLaw" 153 yL_cover ∈ GW := gw_t 761 (by decide +kernel) (by decide +kernel)
theorem q_762 : Cond.static yL_cover ∈ GW := gw_t 762 (by decide +kernel) (by decide +kernel)
theorem q_763 : Cond.codeWith yL_cover cL_cover 5 (some .int) [(0, 10, 13, 33)] ∈ GW := gw_t 763 (by decide +kernel) (by decide +kernel)
theorem q_1437 : Cond.methodLink "SkirmishGridLaw" 155 yX9_cover ∈ GW := gw_t 1437 (by decide +kernel) (by decide +kernel)
theorem q_1438 : Cond.instanceMethod yX9_cover ∈ GW := gw_t 1438 (by decide +kernel) (by decide +kernel)
theorem q_1439 : Cond.selects "SkirmishGridModel" yX9_cover yX9_cover ∈ GW := gw_t 1439 (by decide +kernel) (by decide +kernel)
theorem q_1440 : Cond.code yX9_cover cX9_cover 3 (some .int) ∈ GW := gw_t 1440 (by decide +kernel) (by decide +kernel)
theorem q_773 : Cond.methodLink "SkirmishGridLaw" 156 yL_addUnit ∈ GW := gw_t 773 (by decide +kernel) (by decide +kernel)
theorem q_774 : Cond.static yL_addUnit ∈ GW := gw_t 774 (by decide +kernel) (by decide +kernel)
theorem q_775 : Cond.codeWith yL_addUnit cL_addUnit 6 (some .int) [(0, 12, 15, 33), (0, 12, 19, 13), (0, 12, 23, 15)] ∈ GW := gw_t 775 (by decide +kernel) (by decide +kernel)
theorem q_1445 : Cond.methodLink "SkirmishGridLaw" 159 yX9_addUnit ∈ GW := gw_t 1445 (by decide +kernel) (by decide +kernel)
theorem q_1446 : Cond.instanceMethod yX9_addUnit ∈ GW := gw_t 1446 (by decide +kernel) (by decide +kernel)
theorem q_1447 : Cond.selects "SkirmishGridModel" yX9_addUnit yX9_addUnit ∈ GW := gw_t 1447 (by decide +kernel) (by decide +kernel)
theorem q_1448 : Cond.code yX9_addUnit cX9_addUnit 6 (some .int) ∈ GW := gw_t 1448 (by decide +kernel) (by decide +kernel)
theorem q_339 : Cond.methodLink "SkirmishGridLaw" 160 yX8_unitCount ∈ GW := gw_t 339 (by decide +kernel) (by decide +kernel)
theorem q_340 : Cond.instanceMethod yX8_unitCount ∈ GW := gw_t 340 (by decide +kernel) (by decide +kernel)
theorem q_341 : Cond.selects "SkirmishGrid" yX8_unitCount yX8_unitCount ∈ GW := gw_t 341 (by decide +kernel) (by decide +kernel)
theorem q_342 : Cond.code yX8_unitCount cX8_unitCount 1 (some .int) ∈ GW := gw_t 342 (by decide +kernel) (by decide +kernel)
theorem q_1472 : Cond.methodLink "SkirmishGridLaw" 163 yX9_unitCount ∈ GW := gw_t 1472 (by decide +kernel) (by decide +kernel)
theorem q_1473 : Cond.instanceMethod yX9_unitCount ∈ GW := gw_t 1473 (by decide +kernel) (by decide +kernel)
theorem q_1474 : Cond.selects "SkirmishGridModel" yX9_unitCount yX9_unitCount ∈ GW := gw_t 1474 (by decide +kernel) (by decide +kernel)
theorem q_1475 : Cond.code yX9_unitCount cX9_unitCount 1 (some .int) ∈ GW := gw_t 1475 (by decide +kernel) (by decide +kernel)
theorem q_805 : Cond.methodLink "SkirmishGridLaw" 164 yL_unit ∈ GW := gw_t 805 (by decide +kernel) (by decide +kernel)
theorem q_806 : Cond.static yL_unit ∈ GW := gw_t 806 (by decide +kernel) (by decide +kernel)
theorem q_807 : Cond.codeWith yL_unit cL_unit 5 (some .int) [(0, 10, 13, 33), (0, 10, 17, 13)] ∈ GW := gw_t 807 (by decide +kernel) (by decide +kernel)
theorem q_1476 : Cond.methodLink "SkirmishGridLaw" 166 yX9_unit ∈ GW := gw_t 1476 (by decide +kernel) (by decide +kernel)
theorem q_1477 : Cond.instanceMethod yX9_unit ∈ GW := gw_t 1477 (by decide +kernel) (by decide +kernel)
theorem q_1478 : Cond.selects "SkirmishGridModel" yX9_unit yX9_unit ∈ GW := gw_t 1478 (by decide +kernel) (by decide +kernel)
theorem q_1479 : Cond.code yX9_unit cX9_unit 3 (some .int) ∈ GW := gw_t 1479 (by decide +kernel) (by decide +kernel)
theorem q_822 : Cond.methodLink "SkirmishGridLaw" 167 yL_begin ∈ GW := gw_t 822 (by decide +kernel) (by decide +kernel)
theorem q_823 : Cond.static yL_begin ∈ GW := gw_t 823 (by decide +kernel) (by decide +kernel)
theorem q_824 : Cond.codeWith yL_begin cL_begin 3 (some .int) [(0, 8, 11, 15)] ∈ GW := gw_t 824 (by decide +kernel) (by decide +kernel)
theorem q_1508 : Cond.methodLink "SkirmishGridLaw" 169 yX9_begin ∈ GW := gw_t 1508 (by decide +kernel) (by decide +kernel)
theorem q_1509 : Cond.instanceMethod yX9_begin ∈ GW := gw_t 1509 (by decide +kernel) (by decide +kernel)
theorem q_1510 : Cond.selects "SkirmishGridModel" yX9_begin yX9_begin ∈ GW := gw_t 1510 (by decide +kernel) (by decide +kernel)
theorem q_1511 : Cond.code yX9_begin cX9_begin 1 (some .int) ∈ GW := gw_t 1511 (by decide +kernel) (by decide +kernel)
theorem q_343 : Cond.methodLink "SkirmishGridLaw" 170 yX8_condition ∈ GW := gw_t 343 (by decide +kernel) (by decide +kernel)
theorem q_344 : Cond.instanceMethod yX8_condition ∈ GW := gw_t 344 (by decide +kernel) (by decide +kernel)
theorem q_345 : Cond.selects "SkirmishGrid" yX8_condition yX8_condition ∈ GW := gw_t 345 (by decide +kernel) (by decide +kernel)
theorem q_346 : Cond.code yX8_condition cX8_condition 3 (some .int) ∈ GW := gw_t 346 (by decide +kernel) (by decide +kernel)
theorem q_1484 : Cond.methodLink "SkirmishGridLaw" 173 yX9_condition ∈ GW := gw_t 1484 (by decide +kernel) (by decide +kernel)
theorem q_1485 : Cond.instanceMethod yX9_condition ∈ GW := gw_t 1485 (by decide +kernel) (by decide +kernel)
theorem q_1486 : Cond.selects "SkirmishGridModel" yX9_condition yX9_condition ∈ GW := gw_t 1486 (by decide +kernel) (by decide +kernel)
theorem q_1487 : Cond.code yX9_condition cX9_condition 1 (some .int) ∈ GW := gw_t 1487 (by decide +kernel) (by decide +kernel)
theorem q_359 : Cond.methodLink "SkirmishGridLaw" 174 yX8_round ∈ GW := gw_t 359 (by decide +kernel) (by decide +kernel)
theorem q_360 : Cond.instanceMethod yX8_round ∈ GW := gw_t 360 (by decide +kernel) (by decide +kernel)
theorem q_361 : Cond.selects "SkirmishGrid" yX8_round yX8_round ∈ GW := gw_t 361 (by decide +kernel) (by decide +kernel)
theorem q_362 : Cond.code yX8_round cX8_round 1 (some .int) ∈ GW := gw_t 362 (by decide +kernel) (by decide +kernel)
theorem q_1496 : Cond.methodLink "SkirmishGridLaw" 177 yX9_round ∈ GW := gw_t 1496 (by decide +kernel) (by decide +kernel)
theorem q_1497 : Cond.instanceMethod yX9_round ∈ GW := gw_t 1497 (by decide +kernel) (by decide +kernel)
theorem q_1498 : Cond.selects "SkirmishGridModel" yX9_round yX9_round ∈ GW := gw_t 1498 (by decide +kernel) (by decide +kernel)
theorem q_1499 : Cond.code yX9_round cX9_round 1 (some .int) ∈ GW := gw_t 1499 (by decide +kernel) (by decide +kernel)
theorem q_871 : Cond.methodLink "SkirmishGridLaw" 178 yL_current ∈ GW := gw_t 871 (by decide +kernel) (by decide +kernel)
theorem q_872 : Cond.static yL_current ∈ GW := gw_t 872 (by decide +kernel) (by decide +kernel)
theorem q_873 : Cond.codeWith yL_current cL_current 3 (some .int) [(0, 8, 11, 27)] ∈ GW := gw_t 873 (by decide +kernel) (by decide +kernel)
theorem q_1500 : Cond.methodLink "SkirmishGridLaw" 180 yX9_current ∈ GW := gw_t 1500 (by decide +kernel) (by decide +kernel)
theorem q_1501 : Cond.instanceMethod yX9_current ∈ GW := gw_t 1501 (by decide +kernel) (by decide +kernel)
theorem q_1502 : Cond.selects "SkirmishGridModel" yX9_current yX9_current ∈ GW := gw_t 1502 (by decide +kernel) (by decide +kernel)
theorem q_1503 : Cond.code yX9_current cX9_current 1 (some .int) ∈ GW := gw_t 1503 (by decide +kernel) (by decide +kernel)
theorem q_883 : Cond.methodLink "SkirmishGridLaw" 181 yL_order ∈ GW := gw_t 883 (by decide +kernel) (by decide +kernel)
theorem q_884 : Cond.static yL_order ∈ GW := gw_t 884 (by decide +kernel) (by decide +kernel)
theorem q_885 : Cond.codeWith yL_order cL_order 4 (some .int) [(0, 9, 12, 27)] ∈ GW := gw_t 885 (by decide +kernel) (by decide +kernel)
theorem q_1504 : Cond.methodLink "SkirmishGridLaw" 183 yX9_order ∈ GW := gw_t 1504 (by decide +kernel) (by decide +kernel)
theorem q_1505 : Cond.instanceMethod yX9_order ∈ GW := gw_t 1505 (by decide +kernel) (by decide +kernel)
theorem q_1506 : Cond.selects "SkirmishGridModel" yX9_order yX9_order ∈ GW := gw_t 1506 (by decide +kernel) (by decide +kernel)
theorem q_1507 : Cond.code yX9_order cX9_order 2 (some .int) ∈ GW := gw_t 1507 (by decide +kernel) (by decide +kernel)
theorem q_891 : Cond.methodLink "SkirmishGridLaw" 184 yL_costs ∈ GW := gw_t 891 (by decide +kernel) (by decide +kernel)
theorem q_892 : Cond.static yL_costs ∈ GW := gw_t 892 (by decide +kernel) (by decide +kernel)
theorem q_893 : Cond.codeWith yL_costs cL_costs 4 (some .int) [(0, 9, 12, 33), (0, 9, 15, 21), (0, 9, 18, 27)] ∈ GW := gw_t 893 (by decide +kernel) (by decide +kernel)
theorem q_1552 : Cond.methodLink "SkirmishGridLaw" 186 yX9_costs ∈ GW := gw_t 1552 (by decide +kernel) (by decide +kernel)
theorem q_1553 : Cond.instanceMethod yX9_costs ∈ GW := gw_t 1553 (by decide +kernel) (by decide +kernel)
theorem q_1554 : Cond.selects "SkirmishGridModel" yX9_costs yX9_costs ∈ GW := gw_t 1554 (by decide +kernel) (by decide +kernel)
theorem q_1555 : Cond.code yX9_costs cX9_costs 3 (some .int) ∈ GW := gw_t 1555 (by decide +kernel) (by decide +kernel)
theorem q_937 : Cond.methodLink "SkirmishGridLaw" 187 yL_pathCell ∈ GW := gw_t 937 (by decide +kernel) (by decide +kernel)
theorem q_938 : Cond.static yL_pathCell ∈ GW := gw_t 938 (by decide +kernel) (by decide +kernel)
theorem q_939 : Cond.codeWith yL_pathCell cL_pathCell 5 (some .int) [(0, 10, 13, 33), (0, 10, 17, 21), (0, 10, 21, 27)] ∈ GW := gw_t 939 (by decide +kernel) (by decide +kernel)
theorem q_1580 : Cond.methodLink "SkirmishGridLaw" 189 yX9_pathCell ∈ GW := gw_t 1580 (by decide +kernel) (by decide +kernel)
theorem q_1581 : Cond.instanceMethod yX9_pathCell ∈ GW := gw_t 1581 (by decide +kernel) (by decide +kernel)
theorem q_1582 : Cond.selects "SkirmishGridModel" yX9_pathCell yX9_pathCell ∈ GW := gw_t 1582 (by decide +kernel) (by decide +kernel)
theorem q_1583 : Cond.code yX9_pathCell cX9_pathCell 5 (some .int) ∈ GW := gw_t 1583 (by decide +kernel) (by decide +kernel)
theorem q_950 : Cond.methodLink "SkirmishGridLaw" 190 yL_chance ∈ GW := gw_t 950 (by decide +kernel) (by decide +kernel)
theorem q_951 : Cond.static yL_chance ∈ GW := gw_t 951 (by decide +kernel) (by decide +kernel)
theorem q_952 : Cond.codeWith yL_chance cL_chance 5 (some .int) [(0, 9, 12, 33), (0, 9, 16, 13)] ∈ GW := gw_t 952 (by decide +kernel) (by decide +kernel)
theorem q_1588 : Cond.methodLink "SkirmishGridLaw" 193 yX9_chance ∈ GW := gw_t 1588 (by decide +kernel) (by decide +kernel)
theorem q_1589 : Cond.instanceMethod yX9_chance ∈ GW := gw_t 1589 (by decide +kernel) (by decide +kernel)
theorem q_1590 : Cond.selects "SkirmishGridModel" yX9_chance yX9_chance ∈ GW := gw_t 1590 (by decide +kernel) (by decide +kernel)
theorem q_1591 : Cond.code yX9_chance cX9_chance 5 (some .double) ∈ GW := gw_t 1591 (by decide +kernel) (by decide +kernel)
theorem q_989 : Cond.methodLink "SkirmishGridLaw" 194 yL_meanDamage ∈ GW := gw_t 989 (by decide +kernel) (by decide +kernel)
theorem q_990 : Cond.static yL_meanDamage ∈ GW := gw_t 990 (by decide +kernel) (by decide +kernel)
theorem q_991 : Cond.codeWith yL_meanDamage cL_meanDamage 5 (some .int) [(0, 9, 12, 33), (0, 9, 16, 13)] ∈ GW := gw_t 991 (by decide +kernel) (by decide +kernel)
theorem q_1609 : Cond.methodLink "SkirmishGridLaw" 196 yX9_meanDamage ∈ GW := gw_t 1609 (by decide +kernel) (by decide +kernel)
theorem q_1610 : Cond.instanceMethod yX9_meanDamage ∈ GW := gw_t 1610 (by decide +kernel) (by decide +kernel)
theorem q_1611 : Cond.selects "SkirmishGridModel" yX9_meanDamage yX9_meanDamage ∈ GW := gw_t 1611 (by decide +kernel) (by decide +kernel)
theorem q_1612 : Cond.code yX9_meanDamage cX9_meanDamage 3 (some .double) ∈ GW := gw_t 1612 (by decide +kernel) (by decide +kernel)
theorem q_1009 : Cond.methodLink "SkirmishGridLaw" 197 yL_bestTarget ∈ GW := gw_t 1009 (by decide +kernel) (by decide +kernel)
theorem q_1010 : Cond.static yL_bestTarget ∈ GW := gw_t 1010 (by decide +kernel) (by decide +kernel)
theorem q_1011 : Cond.codeWith yL_bestTarget cL_bestTarget 3 (some .int) [(0, 8, 11, 21), (0, 8, 14, 27)] ∈ GW := gw_t 1011 (by decide +kernel) (by decide +kernel)
theorem q_1622 : Cond.methodLink "SkirmishGridLaw" 199 yX9_bestTarget ∈ GW := gw_t 1622 (by decide +kernel) (by decide +kernel)
theorem q_1623 : Cond.instanceMethod yX9_bestTarget ∈ GW := gw_t 1623 (by decide +kernel) (by decide +kernel)
theorem q_1624 : Cond.selects "SkirmishGridModel" yX9_bestTarget yX9_bestTarget ∈ GW := gw_t 1624 (by decide +kernel) (by decide +kernel)
theorem q_1625 : Cond.code yX9_bestTarget cX9_bestTarget 5 (some .int) ∈ GW := gw_t 1625 (by decide +kernel) (by decide +kernel)
theorem q_1023 : Cond.methodLink "SkirmishGridLaw" 200 yL_move ∈ GW := gw_t 1023 (by decide +kernel) (by decide +kernel)
theorem q_1024 : Cond.static yL_move ∈ GW := gw_t 1024 (by decide +kernel) (by decide +kernel)
theorem q_1025 : Cond.codeWith yL_move cL_move 4 (some .int) [(0, 9, 12, 33), (0, 9, 15, 21), (0, 9, 18, 15), (0, 9, 21, 13)] ∈ GW := gw_t 1025 (by decide +kernel) (by decide +kernel)
theorem q_1626 : Cond.methodLink "SkirmishGridLaw" 202 yX9_move ∈ GW := gw_t 1626 (by decide +kernel) (by decide +kernel)
theorem q_1627 : Cond.instanceMethod yX9_move ∈ GW := gw_t 1627 (by decide +kernel) (by decide +kernel)
theorem q_1628 : Cond.selects "SkirmishGridModel" yX9_move yX9_move ∈ GW := gw_t 1628 (by decide +kernel) (by decide +kernel)
theorem q_1629 : Cond.code yX9_move cX9_move 3 (some .int) ∈ GW := gw_t 1629 (by decide +kernel) (by decide +kernel)
theorem q_1072 : Cond.methodLink "SkirmishGridLaw" 203 yL_attack ∈ GW := gw_t 1072 (by decide +kernel) (by decide +kernel)
theorem q_1073 : Cond.static yL_attack ∈ GW := gw_t 1073 (by decide +kernel) (by decide +kernel)
theorem q_1074 : Cond.codeWith yL_attack cL_attack 4 (some .int) [(0, 9, 12, 33), (0, 9, 15, 21), (0, 9, 18, 15), (0, 9, 21, 13)] ∈ GW := gw_t 1074 (by decide +kernel) (by decide +kernel)
theorem q_1670 : Cond.methodLink "SkirmishGridLaw" 205 yX9_attack ∈ GW := gw_t 1670 (by decide +kernel) (by decide +kernel)
theorem q_1671 : Cond.instanceMethod yX9_attack ∈ GW := gw_t 1671 (by decide +kernel) (by decide +kernel)
theorem q_1672 : Cond.selects "SkirmishGridModel" yX9_attack yX9_attack ∈ GW := gw_t 1672 (by decide +kernel) (by decide +kernel)
theorem q_1673 : Cond.code yX9_attack cX9_attack 2 (some .int) ∈ GW := gw_t 1673 (by decide +kernel) (by decide +kernel)
theorem q_1088 : Cond.methodLink "SkirmishGridLaw" 206 yL_throwAt ∈ GW := gw_t 1088 (by decide +kernel) (by decide +kernel)
theorem q_1089 : Cond.static yL_throwAt ∈ GW := gw_t 1089 (by decide +kernel) (by decide +kernel)
theorem q_1090 : Cond.codeWith yL_throwAt cL_throwAt 4 (some .int) [(0, 9, 12, 33), (0, 9, 15, 21), (0, 9, 18, 15), (0, 9, 21, 13)] ∈ GW := gw_t 1090 (by decide +kernel) (by decide +kernel)
theorem q_1674 : Cond.methodLink "SkirmishGridLaw" 208 yX9_throwAt ∈ GW := gw_t 1674 (by decide +kernel) (by decide +kernel)
theorem q_1675 : Cond.instanceMethod yX9_throwAt ∈ GW := gw_t 1675 (by decide +kernel) (by decide +kernel)
theorem q_1676 : Cond.selects "SkirmishGridModel" yX9_throwAt yX9_throwAt ∈ GW := gw_t 1676 (by decide +kernel) (by decide +kernel)
theorem q_1677 : Cond.code yX9_throwAt cX9_throwAt 3 (some .int) ∈ GW := gw_t 1677 (by decide +kernel) (by decide +kernel)
theorem q_1109 : Cond.methodLink "SkirmishGridLaw" 209 yL_guard ∈ GW := gw_t 1109 (by decide +kernel) (by decide +kernel)
theorem q_1110 : Cond.static yL_guard ∈ GW := gw_t 1110 (by decide +kernel) (by decide +kernel)
theorem q_1111 : Cond.codeWith yL_guard cL_guard 3 (some .int) [(0, 8, 11, 21), (0, 8, 14, 15)] ∈ GW := gw_t 1111 (by decide +kernel) (by decide +kernel)
theorem q_1678 : Cond.methodLink "SkirmishGridLaw" 211 yX9_guard ∈ GW := gw_t 1678 (by decide +kernel) (by decide +kernel)
theorem q_1679 : Cond.instanceMethod yX9_guard ∈ GW := gw_t 1679 (by decide +kernel) (by decide +kernel)
theorem q_1680 : Cond.selects "SkirmishGridModel" yX9_guard yX9_guard ∈ GW := gw_t 1680 (by decide +kernel) (by decide +kernel)
theorem q_1681 : Cond.code yX9_guard cX9_guard 1 (some .int) ∈ GW := gw_t 1681 (by decide +kernel) (by decide +kernel)
theorem q_1121 : Cond.methodLink "SkirmishGridLaw" 212 yL_watch ∈ GW := gw_t 1121 (by decide +kernel) (by decide +kernel)
theorem q_1122 : Cond.static yL_watch ∈ GW := gw_t 1122 (by decide +kernel) (by decide +kernel)
theorem q_1123 : Cond.codeWith yL_watch cL_watch 3 (some .int) [(0, 8, 11, 21), (0, 8, 14, 15)] ∈ GW := gw_t 1123 (by decide +kernel) (by decide +kernel)
theorem q_1686 : Cond.methodLink "SkirmishGridLaw" 214 yX9_watch ∈ GW := gw_t 1686 (by decide +kernel) (by decide +kernel)
theorem q_1687 : Cond.instanceMethod yX9_watch ∈ GW := gw_t 1687 (by decide +kernel) (by decide +kernel)
theorem q_1688 : Cond.selects "SkirmishGridModel" yX9_watch yX9_watch ∈ GW := gw_t 1688 (by decide +kernel) (by decide +kernel)
theorem q_1689 : Cond.code yX9_watch cX9_watch 1 (some .int) ∈ GW := gw_t 1689 (by decide +kernel) (by decide +kernel)
theorem q_1132 : Cond.methodLink "SkirmishGridLaw" 215 yL_reload ∈ GW := gw_t 1132 (by decide +kernel) (by decide +kernel)
theorem q_1133 : Cond.static yL_reload ∈ GW := gw_t 1133 (by decide +kernel) (by decide +kernel)
theorem q_1134 : Cond.codeWith yL_reload cL_reload 3 (some .int) [(0, 8, 11, 21), (0, 8, 14, 15)] ∈ GW := gw_t 1134 (by decide +kernel) (by decide +kernel)
theorem q_1690 : Cond.methodLink "SkirmishGridLaw" 217 yX9_reload ∈ GW := gw_t 1690 (by decide +kernel) (by decide +kernel)
theorem q_1691 : Cond.instanceMethod yX9_reload ∈ GW := gw_t 1691 (by decide +kernel) (by decide +kernel)
theorem q_1692 : Cond.selects "SkirmishGridModel" yX9_reload yX9_reload ∈ GW := gw_t 1692 (by decide +kernel) (by decide +kernel)
theorem q_1693 : Cond.code yX9_reload cX9_reload 1 (some .int) ∈ GW := gw_t 1693 (by decide +kernel) (by decide +kernel)
theorem q_1144 : Cond.methodLink "SkirmishGridLaw" 218 yL_endTurn ∈ GW := gw_t 1144 (by decide +kernel) (by decide +kernel)
theorem q_1145 : Cond.static yL_endTurn ∈ GW := gw_t 1145 (by decide +kernel) (by decide +kernel)
theorem q_1146 : Cond.codeWith yL_endTurn cL_endTurn 3 (some .int) [(0, 8, 11, 21)] ∈ GW := gw_t 1146 (by decide +kernel) (by decide +kernel)
theorem q_1694 : Cond.methodLink "SkirmishGridLaw" 220 yX9_endTurn ∈ GW := gw_t 1694 (by decide +kernel) (by decide +kernel)
theorem q_1695 : Cond.instanceMethod yX9_endTurn ∈ GW := gw_t 1695 (by decide +kernel) (by decide +kernel)
theorem q_1696 : Cond.selects "SkirmishGridModel" yX9_endTurn yX9_endTurn ∈ GW := gw_t 1696 (by decide +kernel) (by decide +kernel)
theorem q_1697 : Cond.code yX9_endTurn cX9_endTurn 1 (some .int) ∈ GW := gw_t 1697 (by decide +kernel) (by decide +kernel)
theorem q_363 : Cond.methodLink "SkirmishGridLaw" 221 yX8_eventCount ∈ GW := gw_t 363 (by decide +kernel) (by decide +kernel)
theorem q_364 : Cond.instanceMethod yX8_eventCount ∈ GW := gw_t 364 (by decide +kernel) (by decide +kernel)
theorem q_365 : Cond.selects "SkirmishGrid" yX8_eventCount yX8_eventCount ∈ GW := gw_t 365 (by decide +kernel) (by decide +kernel)
theorem q_366 : Cond.code yX8_eventCount cX8_eventCount 1 (some .int) ∈ GW := gw_t 366 (by decide +kernel) (by decide +kernel)
theorem q_1698 : Cond.methodLink "SkirmishGridLaw" 224 yX9_eventCount ∈ GW := gw_t 1698 (by decide +kernel) (by decide +kernel)
theorem q_1699 : Cond.instanceMethod yX9_eventCount ∈ GW := gw_t 1699 (by decide +kernel) (by decide +kernel)
theorem q_1700 : Cond.selects "SkirmishGridModel" yX9_eventCount yX9_eventCount ∈ GW := gw_t 1700 (by decide +kernel) (by decide +kernel)
theorem q_1701 : Cond.code yX9_eventCount cX9_eventCount 1 (some .int) ∈ GW := gw_t 1701 (by decide +kernel) (by decide +kernel)
theorem q_1159 : Cond.methodLink "SkirmishGridLaw" 225 yL_event ∈ GW := gw_t 1159 (by decide +kernel) (by decide +kernel)
theorem q_1160 : Cond.static yL_event ∈ GW := gw_t 1160 (by decide +kernel) (by decide +kernel)
theorem q_1161 : Cond.codeWith yL_event cL_event 5 (some .int) [(0, 10, 13, 33)] ∈ GW := gw_t 1161 (by decide +kernel) (by decide +kernel)
theorem q_1702 : Cond.methodLink "SkirmishGridLaw" 227 yX9_event ∈ GW := gw_t 1702 (by decide +kernel) (by decide +kernel)
theorem q_1703 : Cond.instanceMethod yX9_event ∈ GW := gw_t 1703 (by decide +kernel) (by decide +kernel)
theorem q_1704 : Cond.selects "SkirmishGridModel" yX9_event yX9_event ∈ GW := gw_t 1704 (by decide +kernel) (by decide +kernel)
theorem q_1705 : Cond.code yX9_event cX9_event 3 (some .int) ∈ GW := gw_t 1705 (by decide +kernel) (by decide +kernel)
theorem q_367 : Cond.methodLink "SkirmishGridLaw" 228 yX8_commandCount ∈ GW := gw_t 367 (by decide +kernel) (by decide +kernel)
theorem q_368 : Cond.instanceMethod yX8_commandCount ∈ GW := gw_t 368 (by decide +kernel) (by decide +kernel)
theorem q_369 : Cond.selects "SkirmishGrid" yX8_commandCount yX8_commandCount ∈ GW := gw_t 369 (by decide +kernel) (by decide +kernel)
theorem q_370 : Cond.code yX8_commandCount cX8_commandCount 1 (some .int) ∈ GW := gw_t 370 (by decide +kernel) (by decide +kernel)
theorem q_1706 : Cond.methodLink "SkirmishGridLaw" 231 yX9_commandCount ∈ GW := gw_t 1706 (by decide +kernel) (by decide +kernel)
theorem q_1707 : Cond.instanceMethod yX9_commandCount ∈ GW := gw_t 1707 (by decide +kernel) (by decide +kernel)
theorem q_1708 : Cond.selects "SkirmishGridModel" yX9_commandCount yX9_commandCount ∈ GW := gw_t 1708 (by decide +kernel) (by decide +kernel)
theorem q_1709 : Cond.code yX9_commandCount cX9_commandCount 1 (some .int) ∈ GW := gw_t 1709 (by decide +kernel) (by decide +kernel)
theorem q_1171 : Cond.methodLink "SkirmishGridLaw" 232 yL_undo ∈ GW := gw_t 1171 (by decide +kernel) (by decide +kernel)
theorem q_1172 : Cond.static yL_undo ∈ GW := gw_t 1172 (by decide +kernel) (by decide +kernel)
theorem q_1173 : Cond.codeWith yL_undo cL_undo 3 (some .int) [(0, 8, 11, 15)] ∈ GW := gw_t 1173 (by decide +kernel) (by decide +kernel)
theorem q_1710 : Cond.methodLink "SkirmishGridLaw" 234 yX9_undo ∈ GW := gw_t 1710 (by decide +kernel) (by decide +kernel)
theorem q_1711 : Cond.instanceMethod yX9_undo ∈ GW := gw_t 1711 (by decide +kernel) (by decide +kernel)
theorem q_1712 : Cond.selects "SkirmishGridModel" yX9_undo yX9_undo ∈ GW := gw_t 1712 (by decide +kernel) (by decide +kernel)
theorem q_1713 : Cond.code yX9_undo cX9_undo 2 (some .int) ∈ GW := gw_t 1713 (by decide +kernel) (by decide +kernel)
theorem q_1187 : Cond.methodLink "SkirmishGridLaw" 235 yL_isReplayed ∈ GW := gw_t 1187 (by decide +kernel) (by decide +kernel)
theorem q_1188 : Cond.static yL_isReplayed ∈ GW := gw_t 1188 (by decide +kernel) (by decide +kernel)
theorem q_1189 : Cond.codeWith yL_isReplayed cL_isReplayed 3 (some .int) [(0, 15, 18, 15)] ∈ GW := gw_t 1189 (by decide +kernel) (by decide +kernel)
theorem q_1714 : Cond.methodLink "SkirmishGridLaw" 237 yX9_isReplayed ∈ GW := gw_t 1714 (by decide +kernel) (by decide +kernel)
theorem q_1715 : Cond.instanceMethod yX9_isReplayed ∈ GW := gw_t 1715 (by decide +kernel) (by decide +kernel)
theorem q_1716 : Cond.selects "SkirmishGridModel" yX9_isReplayed yX9_isReplayed ∈ GW := gw_t 1716 (by decide +kernel) (by decide +kernel)
theorem q_1717 : Cond.code yX9_isReplayed cX9_isReplayed 3 (some .boolean) ∈ GW := gw_t 1717 (by decide +kernel) (by decide +kernel)
theorem q_1224 : Cond.methodLink "SkirmishGridLaw" 238 yL_meanHealth ∈ GW := gw_t 1224 (by decide +kernel) (by decide +kernel)
theorem q_1225 : Cond.static yL_meanHealth ∈ GW := gw_t 1225 (by decide +kernel) (by decide +kernel)
theorem q_1226 : Cond.codeWith yL_meanHealth cL_meanHealth 4 (some .int) [(0, 9, 12, 33), (0, 9, 15, 110)] ∈ GW := gw_t 1226 (by decide +kernel) (by decide +kernel)
theorem q_1718 : Cond.methodLink "SkirmishGridLaw" 241 yX9_meanHealth ∈ GW := gw_t 1718 (by decide +kernel) (by decide +kernel)
theorem q_1719 : Cond.instanceMethod yX9_meanHealth ∈ GW := gw_t 1719 (by decide +kernel) (by decide +kernel)
theorem q_1720 : Cond.selects "SkirmishGridModel" yX9_meanHealth yX9_meanHealth ∈ GW := gw_t 1720 (by decide +kernel) (by decide +kernel)
theorem q_1721 : Cond.code yX9_meanHealth cX9_meanHealth 5 (some .float) ∈ GW := gw_t 1721 (by decide +kernel) (by decide +kernel)
theorem q_1722 : Cond.methodLink "SkirmishGridLaw" 245 yX9_storeHealths ∈ GW := gw_t 1722 (by decide +kernel) (by decide +kernel)
theorem q_1723 : Cond.instanceMethod yX9_storeHealths ∈ GW := gw_t 1723 (by decide +kernel) (by decide +kernel)
theorem q_1724 : Cond.selects "SkirmishGridModel" yX9_storeHealths yX9_storeHealths ∈ GW := gw_t 1724 (by decide +kernel) (by decide +kernel)
theorem q_1725 : Cond.code yX9_storeHealths cX9_storeHealths 4 (some .int) ∈ GW := gw_t 1725 (by decide +kernel) (by decide +kernel)
theorem q_1248 : Cond.methodLink "SkirmishGridLaw" 242 yL_storeHealths ∈ GW := gw_t 1248 (by decide +kernel) (by decide +kernel)
theorem q_1249 : Cond.static yL_storeHealths ∈ GW := gw_t 1249 (by decide +kernel) (by decide +kernel)
theorem q_1250 : Cond.codeWith yL_storeHealths cL_storeHealths 5 (some .int) [(0, 10, 13, 33)] ∈ GW := gw_t 1250 (by decide +kernel) (by decide +kernel)
theorem q_1265 : Cond.methodLink "SkirmishGridLaw" 246 yL_copyHealths ∈ GW := gw_t 1265 (by decide +kernel) (by decide +kernel)
theorem q_1266 : Cond.static yL_copyHealths ∈ GW := gw_t 1266 (by decide +kernel) (by decide +kernel)
theorem q_1267 : Cond.codeWith yL_copyHealths cL_copyHealths 5 (some .int) [(0, 17, 20, 33), (0, 17, 24, 27), (0, 17, 28, 21), (0, 17, 32, 13)] ∈ GW := gw_t 1267 (by decide +kernel) (by decide +kernel)
theorem q_1726 : Cond.methodLink "SkirmishGridLaw" 248 yX9_copyHealths ∈ GW := gw_t 1726 (by decide +kernel) (by decide +kernel)
theorem q_1727 : Cond.instanceMethod yX9_copyHealths ∈ GW := gw_t 1727 (by decide +kernel) (by decide +kernel)
theorem q_1728 : Cond.selects "SkirmishGridModel" yX9_copyHealths yX9_copyHealths ∈ GW := gw_t 1728 (by decide +kernel) (by decide +kernel)
theorem q_1729 : Cond.code yX9_copyHealths cX9_copyHealths 7 (some .boolean) ∈ GW := gw_t 1729 (by decide +kernel) (by decide +kernel)
theorem q_1279 : Cond.methodLink "SkirmishGridLaw" 249 yL_storedBits ∈ GW := gw_t 1279 (by decide +kernel) (by decide +kernel)
theorem q_1280 : Cond.static yL_storedBits ∈ GW := gw_t 1280 (by decide +kernel) (by decide +kernel)
theorem q_1281 : Cond.codeWith yL_storedBits cL_storedBits 5 (some .int) [(0, 10, 13, 33), (0, 10, 17, 27)] ∈ GW := gw_t 1281 (by decide +kernel) (by decide +kernel)
theorem q_1730 : Cond.methodLink "SkirmishGridLaw" 251 yX9_storedBits ∈ GW := gw_t 1730 (by decide +kernel) (by decide +kernel)
theorem q_1731 : Cond.instanceMethod yX9_storedBits ∈ GW := gw_t 1731 (by decide +kernel) (by decide +kernel)
theorem q_1732 : Cond.selects "SkirmishGridModel" yX9_storedBits yX9_storedBits ∈ GW := gw_t 1732 (by decide +kernel) (by decide +kernel)
theorem q_1733 : Cond.code yX9_storedBits cX9_storedBits 3 (some .int) ∈ GW := gw_t 1733 (by decide +kernel) (by decide +kernel)
theorem q_371 : Cond.methodLink "SkirmishGridLaw" 252 yX8_snapshot ∈ GW := gw_t 371 (by decide +kernel) (by decide +kernel)
theorem q_372 : Cond.instanceMethod yX8_snapshot ∈ GW := gw_t 372 (by decide +kernel) (by decide +kernel)
theorem q_373 : Cond.selects "SkirmishGrid" yX8_snapshot yX8_snapshot ∈ GW := gw_t 373 (by decide +kernel) (by decide +kernel)
theorem q_374 : Cond.code yX8_snapshot cX8_snapshot 1 (some .int) ∈ GW := gw_t 374 (by decide +kernel) (by decide +kernel)
theorem q_1744 : Cond.methodLink "SkirmishGridLaw" 255 yX9_snapshot ∈ GW := gw_t 1744 (by decide +kernel) (by decide +kernel)
theorem q_1745 : Cond.instanceMethod yX9_snapshot ∈ GW := gw_t 1745 (by decide +kernel) (by decide +kernel)
theorem q_1746 : Cond.selects "SkirmishGridModel" yX9_snapshot yX9_snapshot ∈ GW := gw_t 1746 (by decide +kernel) (by decide +kernel)
theorem q_1747 : Cond.code yX9_snapshot cX9_snapshot 1 (some .int) ∈ GW := gw_t 1747 (by decide +kernel) (by decide +kernel)
theorem q_1291 : Cond.methodLink "SkirmishGridLaw" 256 yL_restore ∈ GW := gw_t 1291 (by decide +kernel) (by decide +kernel)
theorem q_1292 : Cond.static yL_restore ∈ GW := gw_t 1292 (by decide +kernel) (by decide +kernel)
theorem q_1293 : Cond.codeWith yL_restore cL_restore 3 (some .int) [(0, 8, 11, 15)] ∈ GW := gw_t 1293 (by decide +kernel) (by decide +kernel)
theorem q_1748 : Cond.methodLink "SkirmishGridLaw" 258 yX9_restore ∈ GW := gw_t 1748 (by decide +kernel) (by decide +kernel)
theorem q_1749 : Cond.instanceMethod yX9_restore ∈ GW := gw_t 1749 (by decide +kernel) (by decide +kernel)
theorem q_1750 : Cond.selects "SkirmishGridModel" yX9_restore yX9_restore ∈ GW := gw_t 1750 (by decide +kernel) (by decide +kernel)
theorem q_1751 : Cond.code yX9_restore cX9_restore 1 (some .int) ∈ GW := gw_t 1751 (by decide +kernel) (by decide +kernel)
theorem q_30 : Cond.classLink "SkirmishGridLaw" 8 "SkirmishGrid" ∈ GW := gw_t 30 (by decide +kernel) (by decide +kernel)
theorem q_31 : Cond.instantiable "SkirmishGrid" 13 ∈ GW := gw_t 31 (by decide +kernel) (by decide +kernel)
theorem q_32 : Cond.methodLink "SkirmishGridLaw" 125 yX8_init ∈ GW := gw_t 32 (by decide +kernel) (by decide +kernel)
theorem q_33 : Cond.instanceMethod yX8_init ∈ GW := gw_t 33 (by decide +kernel) (by decide +kernel)
theorem q_34 : Cond.code yX8_init cX8_init 1 none ∈ GW := gw_t 34 (by decide +kernel) (by decide +kernel)
theorem q_1299 : Cond.classLink "SkirmishGridLaw" 126 "SkirmishGridModel" ∈ GW := gw_t 1299 (by decide +kernel) (by decide +kernel)
theorem q_1300 : Cond.instantiable "SkirmishGridModel" 23 ∈ GW := gw_t 1300 (by decide +kernel) (by decide +kernel)
theorem q_1301 : Cond.methodLink "SkirmishGridLaw" 128 yX9_init ∈ GW := gw_t 1301 (by decide +kernel) (by decide +kernel)
theorem q_1302 : Cond.instanceMethod yX9_init ∈ GW := gw_t 1302 (by decide +kernel) (by decide +kernel)
theorem q_1303 : Cond.code yX9_init cX9_init 1 none ∈ GW := gw_t 1303 (by decide +kernel) (by decide +kernel)
theorem q_1752 : Cond.arrayClass .long ∈ GW := gw_t 1752 (by decide +kernel) (by decide +kernel)
theorem q_1753 : Cond.arrayClass .double ∈ GW := gw_t 1753 (by decide +kernel) (by decide +kernel)
theorem dL_law_0 : decode cL_law 0 = .ok (.new 8, 3) := by decide +kernel
theorem dL_law_3 : decode cL_law 3 = .ok (.dup, 1) := by decide +kernel
theorem dL_law_4 : decode cL_law 4 = .ok (.invokespecial 125, 3) := by decide +kernel
theorem dL_law_7 : decode cL_law 7 = .ok (.astore_n 1, 1) := by decide +kernel
theorem dL_law_8 : decode cL_law 8 = .ok (.new 126, 3) := by decide +kernel
theorem dL_law_11 : decode cL_law 11 = .ok (.dup, 1) := by decide +kernel
theorem dL_law_12 : decode cL_law 12 = .ok (.invokespecial 128, 3) := by decide +kernel
theorem dL_law_15 : decode cL_law 15 = .ok (.astore_n 2, 1) := by decide +kernel
theorem dL_law_16 : decode cL_law 16 = .ok (.iconst 1, 1) := by decide +kernel
theorem dL_law_17 : decode cL_law 17 = .ok (.newarray .long, 2) := by decide +kernel
theorem dL_law_19 : decode cL_law 19 = .ok (.astore_n 3, 1) := by decide +kernel
theorem dL_law_20 : decode cL_law 20 = .ok (.iconst 1, 1) := by decide +kernel
theorem dL_law_21 : decode cL_law 21 = .ok (.newarray .double, 2) := by decide +kernel
theorem dL_law_23 : decode cL_law 23 = .ok (.astore 4, 2) := by decide +kernel
theorem dL_law_25 : decode cL_law 25 = .ok (.iconst 0, 1) := by decide +kernel
theorem dL_law_26 : decode cL_law 26 = .ok (.istore 5, 2) := by decide +kernel
theorem dL_law_28 : decode cL_law 28 = .ok (.iload 5, 2) := by decide +kernel
theorem dL_law_30 : decode cL_law 30 = .ok (.aload_n 0, 1) := by decide +kernel
theorem dL_law_31 : decode cL_law 31 = .ok (.arraylength, 1) := by decide +kernel
theorem dL_law_32 : decode cL_law 32 = .ok (.iconst 4, 1) := by decide +kernel
theorem dL_law_33 : decode cL_law 33 = .ok (.isub, 1) := by decide +kernel
theorem dL_law_34 : decode cL_law 34 = .ok (.if_icmp .gt 2121, 3) := by decide +kernel
theorem dL_law_37 : decode cL_law 37 = .ok (.aload_n 0, 1) := by decide +kernel
theorem dL_law_38 : decode cL_law 38 = .ok (.iload 5, 2) := by decide +kernel
theorem dL_law_40 : decode cL_law 40 = .ok (.iaload, 1) := by decide +kernel
theorem dL_law_41 : decode cL_law 41 = .ok (.bipush 63, 2) := by decide +kernel
theorem dL_law_43 : decode cL_law 43 = .ok (.iand, 1) := by decide +kernel
theorem dL_law_44 : decode cL_law 44 = .ok (.tableswitch 2105 0 36 #[164, 222, 278, 322, 390, 465, 533, 613, 626, 694, 738, 751, 764, 808, 864, 920, 988, 1077, 1166, 1210, 1266, 1322, 1378, 1422, 1466, 1510, 1554, 1567, 1635, 1648, 1692, 1743, 1821, 1905, 1980, 2048, 2061], 164) := by decide +kernel
theorem dL_law_208 : decode cL_law 208 = .ok (.aload_n 1, 1) := by decide +kernel
theorem dL_law_209 : decode cL_law 209 = .ok (.aload_n 0, 1) := by decide +kernel
theorem dL_law_210 : decode cL_law 210 = .ok (.iload 5, 2) := by decide +kernel
theorem dL_law_212 : decode cL_law 212 = .ok (.iconst 1, 1) := by decide +kernel
theorem dL_law_213 : decode cL_law 213 = .ok (.iadd, 1) := by decide +kernel
theorem dL_law_214 : decode cL_law 214 = .ok (.iaload, 1) := by decide +kernel
theorem dL_law_215 : decode cL_law 215 = .ok (.i2c, 1) := by decide +kernel
theorem dL_law_216 : decode cL_law 216 = .ok (.aload_n 3, 1) := by decide +kernel
theorem dL_law_217 : decode cL_law 217 = .ok (.invokestatic 129, 3) := by decide +kernel
theorem dL_law_220 : decode cL_law 220 = .ok (.istore 6, 2) := by decide +kernel
theorem dL_law_222 : decode cL_law 222 = .ok (.aload_n 2, 1) := by decide +kernel
theorem dL_law_223 : decode cL_law 223 = .ok (.aload_n 0, 1) := by decide +kernel
theorem dL_law_224 : decode cL_law 224 = .ok (.iload 5, 2) := by decide +kernel
theorem dL_law_226 : decode cL_law 226 = .ok (.iconst 1, 1) := by decide +kernel
theorem dL_law_227 : decode cL_law 227 = .ok (.iadd, 1) := by decide +kernel
theorem dL_law_228 : decode cL_law 228 = .ok (.iaload, 1) := by decide +kernel
theorem dL_law_229 : decode cL_law 229 = .ok (.i2c, 1) := by decide +kernel
theorem dL_law_230 : decode cL_law 230 = .ok (.invokevirtual 134, 3) := by decide +kernel
theorem dL_law_233 : decode cL_law 233 = .ok (.istore 7, 2) := by decide +kernel
theorem dL_law_235 : decode cL_law 235 = .ok (.aload_n 2, 1) := by decide +kernel
theorem dL_law_236 : decode cL_law 236 = .ok (.invokevirtual 135, 3) := by decide +kernel
theorem dL_law_239 : decode cL_law 239 = .ok (.iload 6, 2) := by decide +kernel
theorem dL_law_241 : decode cL_law 241 = .ok (.if_icmp .eq 5, 3) := by decide +kernel
theorem dL_law_244 : decode cL_law 244 = .ok (.iconst 0, 1) := by decide +kernel
theorem dL_law_245 : decode cL_law 245 = .ok (.ireturn, 1) := by decide +kernel
theorem dL_law_246 : decode cL_law 246 = .ok (.iload 6, 2) := by decide +kernel
theorem dL_law_248 : decode cL_law 248 = .ok (.ifCond .ne 15, 3) := by decide +kernel
theorem dL_law_251 : decode cL_law 251 = .ok (.aload_n 3, 1) := by decide +kernel
theorem dL_law_252 : decode cL_law 252 = .ok (.iconst 0, 1) := by decide +kernel
theorem dL_law_253 : decode cL_law 253 = .ok (.laload, 1) := by decide +kernel
theorem dL_law_254 : decode cL_law 254 = .ok (.iload 7, 2) := by decide +kernel
theorem dL_law_256 : decode cL_law 256 = .ok (.i2l, 1) := by decide +kernel
theorem dL_law_257 : decode cL_law 257 = .ok (.lcmp, 1) := by decide +kernel
theorem dL_law_258 : decode cL_law 258 = .ok (.ifCond .eq 5, 3) := by decide +kernel
theorem dL_law_261 : decode cL_law 261 = .ok (.iconst 0, 1) := by decide +kernel
theorem dL_law_262 : decode cL_law 262 = .ok (.ireturn, 1) := by decide +kernel
theorem dL_law_263 : decode cL_law 263 = .ok (.goto 1886, 3) := by decide +kernel
theorem dL_law_266 : decode cL_law 266 = .ok (.aload_n 1, 1) := by decide +kernel
theorem dL_law_267 : decode cL_law 267 = .ok (.aload_n 0, 1) := by decide +kernel
theorem dL_law_268 : decode cL_law 268 = .ok (.iload 5, 2) := by decide +kernel
theorem dL_law_270 : decode cL_law 270 = .ok (.iconst 1, 1) := by decide +kernel
theorem dL_law_271 : decode cL_law 271 = .ok (.iadd, 1) := by decide +kernel
theorem dL_law_272 : decode cL_law 272 = .ok (.iaload, 1) := by decide +kernel
theorem dL_law_273 : decode cL_law 273 = .ok (.aload_n 3, 1) := by decide +kernel
theorem dL_law_274 : decode cL_law 274 = .ok (.invokestatic 138, 3) := by decide +kernel
theorem dL_law_277 : decode cL_law 277 = .ok (.istore 6, 2) := by decide +kernel
theorem dL_law_279 : decode cL_law 279 = .ok (.aload_n 2, 1) := by decide +kernel
theorem dL_law_280 : decode cL_law 280 = .ok (.aload_n 0, 1) := by decide +kernel
theorem dL_law_281 : decode cL_law 281 = .ok (.iload 5, 2) := by decide +kernel
theorem dL_law_283 : decode cL_law 283 = .ok (.iconst 1, 1) := by decide +kernel
theorem dL_law_284 : decode cL_law 284 = .ok (.iadd, 1) := by decide +kernel
theorem dL_law_285 : decode cL_law 285 = .ok (.iaload, 1) := by decide +kernel
theorem dL_law_286 : decode cL_law 286 = .ok (.invokevirtual 141, 3) := by decide +kernel
theorem dL_law_289 : decode cL_law 289 = .ok (.istore 7, 2) := by decide +kernel
theorem dL_law_291 : decode cL_law 291 = .ok (.aload_n 2, 1) := by decide +kernel
theorem dL_law_292 : decode cL_law 292 = .ok (.invokevirtual 135, 3) := by decide +kernel
theorem dL_law_295 : decode cL_law 295 = .ok (.iload 6, 2) := by decide +kernel
theorem dL_law_297 : decode cL_law 297 = .ok (.if_icmp .eq 5, 3) := by decide +kernel
theorem dL_law_300 : decode cL_law 300 = .ok (.iconst 0, 1) := by decide +kernel
theorem dL_law_301 : decode cL_law 301 = .ok (.ireturn, 1) := by decide +kernel
theorem dL_law_302 : decode cL_law 302 = .ok (.iload 6, 2) := by decide +kernel
theorem dL_law_304 : decode cL_law 304 = .ok (.ifCond .ne 15, 3) := by decide +kernel
theorem dL_law_307 : decode cL_law 307 = .ok (.aload_n 3, 1) := by decide +kernel
theorem dL_law_308 : decode cL_law 308 = .ok (.iconst 0, 1) := by decide +kernel
theorem dL_law_309 : decode cL_law 309 = .ok (.laload, 1) := by decide +kernel
theorem dL_law_310 : decode cL_law 310 = .ok (.iload 7, 2) := by decide +kernel
theorem dL_law_312 : decode cL_law 312 = .ok (.i2l, 1) := by decide +kernel
theorem dL_law_313 : decode cL_law 313 = .ok (.lcmp, 1) := by decide +kernel
theorem dL_law_314 : decode cL_law 314 = .ok (.ifCond .eq 5, 3) := by decide +kernel
theorem dL_law_317 : decode cL_law 317 = .ok (.iconst 0, 1) := by decide +kernel
theorem dL_law_318 : decode cL_law 318 = .ok (.ireturn, 1) := by decide +kernel
theorem dL_law_319 : decode cL_law 319 = .ok (.goto 1830, 3) := by decide +kernel
theorem dL_law_322 : decode cL_law 322 = .ok (.aload_n 1, 1) := by decide +kernel
theorem dL_law_323 : decode cL_law 323 = .ok (.aload_n 3, 1) := by decide +kernel
theorem dL_law_324 : decode cL_law 324 = .ok (.invokestatic 142, 3) := by decide +kernel
theorem dL_law_327 : decode cL_law 327 = .ok (.istore 6, 2) := by decide +kernel
theorem dL_law_329 : decode cL_law 329 = .ok (.aload_n 2, 1) := by decide +kernel
theorem dL_law_330 : decode cL_law 330 = .ok (.invokevirtual 145, 3) := by decide +kernel
theorem dL_law_333 : decode cL_law 333 = .ok (.istore 7, 2) := by decide +kernel
theorem dL_law_335 : decode cL_law 335 = .ok (.aload_n 2, 1) := by decide +kernel
theorem dL_law_336 : decode cL_law 336 = .ok (.invokevirtual 135, 3) := by decide +kernel
theorem dL_law_339 : decode cL_law 339 = .ok (.iload 6, 2) := by decide +kernel
theorem dL_law_341 : decode cL_law 341 = .ok (.if_icmp .eq 5, 3) := by decide +kernel
theorem dL_law_344 : decode cL_law 344 = .ok (.iconst 0, 1) := by decide +kernel
theorem dL_law_345 : decode cL_law 345 = .ok (.ireturn, 1) := by decide +kernel
theorem dL_law_346 : decode cL_law 346 = .ok (.iload 6, 2) := by decide +kernel
theorem dL_law_348 : decode cL_law 348 = .ok (.ifCond .ne 15, 3) := by decide +kernel
theorem dL_law_351 : decode cL_law 351 = .ok (.aload_n 3, 1) := by decide +kernel
theorem dL_law_352 : decode cL_law 352 = .ok (.iconst 0, 1) := by decide +kernel
theorem dL_law_353 : decode cL_law 353 = .ok (.laload, 1) := by decide +kernel
theorem dL_law_354 : decode cL_law 354 = .ok (.iload 7, 2) := by decide +kernel
theorem dL_law_356 : decode cL_law 356 = .ok (.i2l, 1) := by decide +kernel
theorem dL_law_357 : decode cL_law 357 = .ok (.lcmp, 1) := by decide +kernel
theorem dL_law_358 : decode cL_law 358 = .ok (.ifCond .eq 5, 3) := by decide +kernel
theorem dL_law_361 : decode cL_law 361 = .ok (.iconst 0, 1) := by decide +kernel
theorem dL_law_362 : decode cL_law 362 = .ok (.ireturn, 1) := by decide +kernel
theorem dL_law_363 : decode cL_law 363 = .ok (.goto 1786, 3) := by decide +kernel
theorem dL_law_366 : decode cL_law 366 = .ok (.aload_n 1, 1) := by decide +kernel
theorem dL_law_367 : decode cL_law 367 = .ok (.aload_n 0, 1) := by decide +kernel
theorem dL_law_368 : decode cL_law 368 = .ok (.iload 5, 2) := by decide +kernel
theorem dL_law_370 : decode cL_law 370 = .ok (.iconst 1, 1) := by decide +kernel
theorem dL_law_371 : decode cL_law 371 = .ok (.iadd, 1) := by decide +kernel
theorem dL_law_372 : decode cL_law 372 = .ok (.iaload, 1) := by decide +kernel
theorem dL_law_373 : decode cL_law 373 = .ok (.aload_n 0, 1) := by decide +kernel
theorem dL_law_374 : decode cL_law 374 = .ok (.iload 5, 2) := by decide +kernel
theorem dL_law_376 : decode cL_law 376 = .ok (.iconst 2, 1) := by decide +kernel
theorem dL_law_377 : decode cL_law 377 = .ok (.iadd, 1) := by decide +kernel
theorem dL_law_378 : decode cL_law 378 = .ok (.iaload, 1) := by decide +kernel
theorem dL_law_379 : decode cL_law 379 = .ok (.aload_n 3, 1) := by decide +kernel
theorem dL_law_380 : decode cL_law 380 = .ok (.invokestatic 146, 3) := by decide +kernel
theorem dL_law_383 : decode cL_law 383 = .ok (.istore 6, 2) := by decide +kernel
theorem dL_law_385 : decode cL_law 385 = .ok (.aload_n 2, 1) := by decide +kernel
theorem dL_law_386 : decode cL_law 386 = .ok (.aload_n 0, 1) := by decide +kernel
theorem dL_law_387 : decode cL_law 387 = .ok (.iload 5, 2) := by decide +kernel
theorem dL_law_389 : decode cL_law 389 = .ok (.iconst 1, 1) := by decide +kernel
theorem dL_law_390 : decode cL_law 390 = .ok (.iadd, 1) := by decide +kernel
theorem dL_law_391 : decode cL_law 391 = .ok (.iaload, 1) := by decide +kernel
theorem dL_law_392 : decode cL_law 392 = .ok (.aload_n 0, 1) := by decide +kernel
theorem dL_law_393 : decode cL_law 393 = .ok (.iload 5, 2) := by decide +kernel
theorem dL_law_395 : decode cL_law 395 = .ok (.iconst 2, 1) := by decide +kernel
theorem dL_law_396 : decode cL_law 396 = .ok (.iadd, 1) := by decide +kernel
theorem dL_law_397 : decode cL_law 397 = .ok (.iaload, 1) := by decide +kernel
theorem dL_law_398 : decode cL_law 398 = .ok (.invokevirtual 149, 3) := by decide +kernel
theorem dL_law_401 : decode cL_law 401 = .ok (.istore 7, 2) := by decide +kernel
theorem dL_law_403 : decode cL_law 403 = .ok (.aload_n 2, 1) := by decide +kernel
theorem dL_law_404 : decode cL_law 404 = .ok (.invokevirtual 135, 3) := by decide +kernel
theorem dL_law_407 : decode cL_law 407 = .ok (.iload 6, 2) := by decide +kernel
theorem dL_law_409 : decode cL_law 409 = .ok (.if_icmp .eq 5, 3) := by decide +kernel
theorem dL_law_412 : decode cL_law 412 = .ok (.iconst 0, 1) := by decide +kernel
theorem dL_law_413 : decode cL_law 413 = .ok (.ireturn, 1) := by decide +kernel
theorem dL_law_414 : decode cL_law 414 = .ok (.iload 6, 2) := by decide +kernel
theorem dL_law_416 : decode cL_law 416 = .ok (.ifCond .ne 15, 3) := by decide +kernel
theorem dL_law_419 : decode cL_law 419 = .ok (.aload_n 3, 1) := by decide +kernel
theorem dL_law_420 : decode cL_law 420 = .ok (.iconst 0, 1) := by decide +kernel
theorem dL_law_421 : decode cL_law 421 = .ok (.laload, 1) := by decide +kernel
theorem dL_law_422 : decode cL_law 422 = .ok (.iload 7, 2) := by decide +kernel
theorem dL_law_424 : decode cL_law 424 = .ok (.i2l, 1) := by decide +kernel
theorem dL_law_425 : decode cL_law 425 = .ok (.lcmp, 1) := by decide +kernel
theorem dL_law_426 : decode cL_law 426 = .ok (.ifCond .eq 5, 3) := by decide +kernel
theorem dL_law_429 : decode cL_law 429 = .ok (.iconst 0, 1) := by decide +kernel
theorem dL_law_430 : decode cL_law 430 = .ok (.ireturn, 1) := by decide +kernel
theorem dL_law_431 : decode cL_law 431 = .ok (.goto 1718, 3) := by decide +kernel
theorem dL_law_434 : decode cL_law 434 = .ok (.aload_n 1, 1) := by decide +kernel
theorem dL_law_435 : decode cL_law 435 = .ok (.aload_n 0, 1) := by decide +kernel
theorem dL_law_436 : decode cL_law 436 = .ok (.iload 5, 2) := by decide +kernel
theorem dL_law_438 : decode cL_law 438 = .ok (.iconst 1, 1) := by decide +kernel
theorem dL_law_439 : decode cL_law 439 = .ok (.iadd, 1) := by decide +kernel
theorem dL_law_440 : decode cL_law 440 = .ok (.iaload, 1) := by decide +kernel
theorem dL_law_441 : decode cL_law 441 = .ok (.aload_n 0, 1) := by decide +kernel
theorem dL_law_442 : decode cL_law 442 = .ok (.iload 5, 2) := by decide +kernel
theorem dL_law_444 : decode cL_law 444 = .ok (.iconst 2, 1) := by decide +kernel
theorem dL_law_445 : decode cL_law 445 = .ok (.iadd, 1) := by decide +kernel
theorem dL_law_446 : decode cL_law 446 = .ok (.iaload, 1) := by decide +kernel
theorem dL_law_447 : decode cL_law 447 = .ok (.aload_n 3, 1) := by decide +kernel
theorem dL_law_448 : decode cL_law 448 = .ok (.invokestatic 150, 3) := by decide +kernel
theorem dL_law_451 : decode cL_law 451 = .ok (.istore 6, 2) := by decide +kernel
theorem dL_law_453 : decode cL_law 453 = .ok (.aload_n 2, 1) := by decide +kernel
theorem dL_law_454 : decode cL_law 454 = .ok (.aload_n 0, 1) := by decide +kernel
theorem dL_law_455 : decode cL_law 455 = .ok (.iload 5, 2) := by decide +kernel
theorem dL_law_457 : decode cL_law 457 = .ok (.iconst 1, 1) := by decide +kernel
theorem dL_law_458 : decode cL_law 458 = .ok (.iadd, 1) := by decide +kernel
theorem dL_law_459 : decode cL_law 459 = .ok (.iaload, 1) := by decide +kernel
theorem dL_law_460 : decode cL_law 460 = .ok (.aload_n 0, 1) := by decide +kernel
theorem dL_law_461 : decode cL_law 461 = .ok (.iload 5, 2) := by decide +kernel
theorem dL_law_463 : decode cL_law 463 = .ok (.iconst 2, 1) := by decide +kernel
theorem dL_law_464 : decode cL_law 464 = .ok (.iadd, 1) := by decide +kernel
theorem dL_law_465 : decode cL_law 465 = .ok (.iaload, 1) := by decide +kernel
theorem dL_law_466 : decode cL_law 466 = .ok (.invokevirtual 152, 3) := by decide +kernel
theorem dL_law_469 : decode cL_law 469 = .ok (.istore 7, 2) := by decide +kernel
theorem dL_law_471 : decode cL_law 471 = .ok (.aload_n 2, 1) := by decide +kernel
theorem dL_law_472 : decode cL_law 472 = .ok (.invokevirtual 135, 3) := by decide +kernel
theorem dL_law_475 : decode cL_law 475 = .ok (.iload 6, 2) := by decide +kernel
theorem dL_law_477 : decode cL_law 477 = .ok (.if_icmp .eq 5, 3) := by decide +kernel
theorem dL_law_480 : decode cL_law 480 = .ok (.iconst 0, 1) := by decide +kernel
theorem dL_law_481 : decode cL_law 481 = .ok (.ireturn, 1) := by decide +kernel
theorem dL_law_482 : decode cL_law 482 = .ok (.iload 6, 2) := by decide +kernel
theorem dL_law_484 : decode cL_law 484 = .ok (.ifCond .ne 22, 3) := by decide +kernel
theorem dL_law_487 : decode cL_law 487 = .ok (.aload_n 3, 1) := by decide +kernel
theorem dL_law_488 : decode cL_law 488 = .ok (.iconst 0, 1) := by decide +kernel
theorem dL_law_489 : decode cL_law 489 = .ok (.laload, 1) := by decide +kernel
theorem dL_law_490 : decode cL_law 490 = .ok (.iload 7, 2) := by decide +kernel
theorem dL_law_492 : decode cL_law 492 = .ok (.ifCond .eq 7, 3) := by decide +kernel
theorem dL_law_495 : decode cL_law 495 = .ok (.lconst 1, 1) := by decide +kernel
theorem dL_law_496 : decode cL_law 496 = .ok (.goto 4, 3) := by decide +kernel
theorem dL_law_499 : decode cL_law 499 = .ok (.lconst 0, 1) := by decide +kernel
theorem dL_law_500 : decode cL_law 500 = .ok (.lcmp, 1) := by decide +kernel
theorem dL_law_501 : decode cL_law 501 = .ok (.ifCond .eq 5, 3) := by decide +kernel
theorem dL_law_504 : decode cL_law 504 = .ok (.iconst 0, 1) := by decide +kernel
theorem dL_law_505 : decode cL_law 505 = .ok (.ireturn, 1) := by decide +kernel
theorem dL_law_506 : decode cL_law 506 = .ok (.goto 1643, 3) := by decide +kernel
theorem dL_law_509 : decode cL_law 509 = .ok (.aload_n 1, 1) := by decide +kernel
theorem dL_law_510 : decode cL_law 510 = .ok (.aload_n 0, 1) := by decide +kernel
theorem dL_law_511 : decode cL_law 511 = .ok (.iload 5, 2) := by decide +kernel
theorem dL_law_513 : decode cL_law 513 = .ok (.iconst 1, 1) := by decide +kernel
theorem dL_law_514 : decode cL_law 514 = .ok (.iadd, 1) := by decide +kernel
theorem dL_law_515 : decode cL_law 515 = .ok (.iaload, 1) := by decide +kernel
theorem dL_law_516 : decode cL_law 516 = .ok (.aload_n 0, 1) := by decide +kernel
theorem dL_law_517 : decode cL_law 517 = .ok (.iload 5, 2) := by decide +kernel
theorem dL_law_519 : decode cL_law 519 = .ok (.iconst 2, 1) := by decide +kernel
theorem dL_law_520 : decode cL_law 520 = .ok (.iadd, 1) := by decide +kernel
theorem dL_law_521 : decode cL_law 521 = .ok (.iaload, 1) := by decide +kernel
theorem dL_law_522 : decode cL_law 522 = .ok (.aload_n 3, 1) := by decide +kernel
theorem dL_law_523 : decode cL_law 523 = .ok (.invokestatic 153, 3) := by decide +kernel
theorem dL_law_526 : decode cL_law 526 = .ok (.istore 6, 2) := by decide +kernel
theorem dL_law_528 : decode cL_law 528 = .ok (.aload_n 2, 1) := by decide +kernel
theorem dL_law_529 : decode cL_law 529 = .ok (.aload_n 0, 1) := by decide +kernel
theorem dL_law_530 : decode cL_law 530 = .ok (.iload 5, 2) := by decide +kernel
theorem dL_law_532 : decode cL_law 532 = .ok (.iconst 1, 1) := by decide +kernel
theorem dL_law_533 : decode cL_law 533 = .ok (.iadd, 1) := by decide +kernel
theorem dL_law_534 : decode cL_law 534 = .ok (.iaload, 1) := by decide +kernel
theorem dL_law_535 : decode cL_law 535 = .ok (.aload_n 0, 1) := by decide +kernel
theorem dL_law_536 : decode cL_law 536 = .ok (.iload 5, 2) := by decide +kernel
theorem dL_law_538 : decode cL_law 538 = .ok (.iconst 2, 1) := by decide +kernel
theorem dL_law_539 : decode cL_law 539 = .ok (.iadd, 1) := by decide +kernel
theorem dL_law_540 : decode cL_law 540 = .ok (.iaload, 1) := by decide +kernel
theorem dL_law_541 : decode cL_law 541 = .ok (.invokevirtual 155, 3) := by decide +kernel
theorem dL_law_544 : decode cL_law 544 = .ok (.istore 7, 2) := by decide +kernel
theorem dL_law_546 : decode cL_law 546 = .ok (.aload_n 2, 1) := by decide +kernel
theorem dL_law_547 : decode cL_law 547 = .ok (.invokevirtual 135, 3) := by decide +kernel
theorem dL_law_550 : decode cL_law 550 = .ok (.iload 6, 2) := by decide +kernel
theorem dL_law_552 : decode cL_law 552 = .ok (.if_icmp .eq 5, 3) := by decide +kernel
theorem dL_law_555 : decode cL_law 555 = .ok (.iconst 0, 1) := by decide +kernel
theorem dL_law_556 : decode cL_law 556 = .ok (.ireturn, 1) := by decide +kernel
theorem dL_law_557 : decode cL_law 557 = .ok (.iload 6, 2) := by decide +kernel
theorem dL_law_559 : decode cL_law 559 = .ok (.ifCond .ne 15, 3) := by decide +kernel
theorem dL_law_562 : decode cL_law 562 = .ok (.aload_n 3, 1) := by decide +kernel
theorem dL_law_563 : decode cL_law 563 = .ok (.iconst 0, 1) := by decide +kernel
theorem dL_law_564 : decode cL_law 564 = .ok (.laload, 1) := by decide +kernel
theorem dL_law_565 : decode cL_law 565 = .ok (.iload 7, 2) := by decide +kernel
theorem dL_law_567 : decode cL_law 567 = .ok (.i2l, 1) := by decide +kernel
theorem dL_law_568 : decode cL_law 568 = .ok (.lcmp, 1) := by decide +kernel
theorem dL_law_569 : decode cL_law 569 = .ok (.ifCond .eq 5, 3) := by decide +kernel
theorem dL_law_572 : decode cL_law 572 = .ok (.iconst 0, 1) := by decide +kernel
theorem dL_law_573 : decode cL_law 573 = .ok (.ireturn, 1) := by decide +kernel
theorem dL_law_574 : decode cL_law 574 = .ok (.goto 1575, 3) := by decide +kernel
theorem dL_law_577 : decode cL_law 577 = .ok (.aload_n 1, 1) := by decide +kernel
theorem dL_law_578 : decode cL_law 578 = .ok (.aload_n 0, 1) := by decide +kernel
theorem dL_law_579 : decode cL_law 579 = .ok (.iload 5, 2) := by decide +kernel
theorem dL_law_581 : decode cL_law 581 = .ok (.iconst 1, 1) := by decide +kernel
theorem dL_law_582 : decode cL_law 582 = .ok (.iadd, 1) := by decide +kernel
theorem dL_law_583 : decode cL_law 583 = .ok (.iaload, 1) := by decide +kernel
theorem dL_law_584 : decode cL_law 584 = .ok (.aload_n 0, 1) := by decide +kernel
theorem dL_law_585 : decode cL_law 585 = .ok (.iload 5, 2) := by decide +kernel
theorem dL_law_587 : decode cL_law 587 = .ok (.iconst 2, 1) := by decide +kernel
theorem dL_law_588 : decode cL_law 588 = .ok (.iadd, 1) := by decide +kernel
theorem dL_law_589 : decode cL_law 589 = .ok (.iaload, 1) := by decide +kernel
theorem dL_law_590 : decode cL_law 590 = .ok (.aload_n 0, 1) := by decide +kernel
theorem dL_law_591 : decode cL_law 591 = .ok (.iload 5, 2) := by decide +kernel
theorem dL_law_593 : decode cL_law 593 = .ok (.iconst 3, 1) := by decide +kernel
theorem dL_law_594 : decode cL_law 594 = .ok (.iadd, 1) := by decide +kernel
theorem dL_law_595 : decode cL_law 595 = .ok (.iaload, 1) := by decide +kernel
theorem dL_law_596 : decode cL_law 596 = .ok (.aload_n 3, 1) := by decide +kernel
theorem dL_law_597 : decode cL_law 597 = .ok (.invokestatic 156, 3) := by decide +kernel
theorem dL_law_600 : decode cL_law 600 = .ok (.istore 6, 2) := by decide +kernel
theorem dL_law_602 : decode cL_law 602 = .ok (.aload_n 2, 1) := by decide +kernel
theorem dL_law_603 : decode cL_law 603 = .ok (.aload_n 0, 1) := by decide +kernel
theorem dL_law_604 : decode cL_law 604 = .ok (.iload 5, 2) := by decide +kernel
theorem dL_law_606 : decode cL_law 606 = .ok (.iconst 1, 1) := by decide +kernel
theorem dL_law_607 : decode cL_law 607 = .ok (.iadd, 1) := by decide +kernel
theorem dL_law_608 : decode cL_law 608 = .ok (.iaload, 1) := by decide +kernel
theorem dL_law_609 : decode cL_law 609 = .ok (.aload_n 0, 1) := by decide +kernel
theorem dL_law_610 : decode cL_law 610 = .ok (.iload 5, 2) := by decide +kernel
theorem dL_law_612 : decode cL_law 612 = .ok (.iconst 2, 1) := by decide +kernel
theorem dL_law_613 : decode cL_law 613 = .ok (.iadd, 1) := by decide +kernel
theorem dL_law_614 : decode cL_law 614 = .ok (.iaload, 1) := by decide +kernel
theorem dL_law_615 : decode cL_law 615 = .ok (.aload_n 0, 1) := by decide +kernel
theorem dL_law_616 : decode cL_law 616 = .ok (.iload 5, 2) := by decide +kernel
theorem dL_law_618 : decode cL_law 618 = .ok (.iconst 3, 1) := by decide +kernel
theorem dL_law_619 : decode cL_law 619 = .ok (.iadd, 1) := by decide +kernel
theorem dL_law_620 : decode cL_law 620 = .ok (.iaload, 1) := by decide +kernel
theorem dL_law_621 : decode cL_law 621 = .ok (.invokevirtual 159, 3) := by decide +kernel
theorem dL_law_624 : decode cL_law 624 = .ok (.istore 7, 2) := by decide +kernel
theorem dL_law_626 : decode cL_law 626 = .ok (.aload_n 2, 1) := by decide +kernel
theorem dL_law_627 : decode cL_law 627 = .ok (.invokevirtual 135, 3) := by decide +kernel
theorem dL_law_630 : decode cL_law 630 = .ok (.iload 6, 2) := by decide +kernel
theorem dL_law_632 : decode cL_law 632 = .ok (.if_icmp .eq 5, 3) := by decide +kernel
theorem dL_law_635 : decode cL_law 635 = .ok (.iconst 0, 1) := by decide +kernel
theorem dL_law_636 : decode cL_law 636 = .ok (.ireturn, 1) := by decide +kernel
theorem dL_law_637 : decode cL_law 637 = .ok (.iload 6, 2) := by decide +kernel
theorem dL_law_639 : decode cL_law 639 = .ok (.ifCond .ne 15, 3) := by decide +kernel
theorem dL_law_642 : decode cL_law 642 = .ok (.aload_n 3, 1) := by decide +kernel
theorem dL_law_643 : decode cL_law 643 = .ok (.iconst 0, 1) := by decide +kernel
theorem dL_law_644 : decode cL_law 644 = .ok (.laload, 1) := by decide +kernel
theorem dL_law_645 : decode cL_law 645 = .ok (.iload 7, 2) := by decide +kernel
theorem dL_law_647 : decode cL_law 647 = .ok (.i2l, 1) := by decide +kernel
theorem dL_law_648 : decode cL_law 648 = .ok (.lcmp, 1) := by decide +kernel
theorem dL_law_649 : decode cL_law 649 = .ok (.ifCond .eq 5, 3) := by decide +kernel
theorem dL_law_652 : decode cL_law 652 = .ok (.iconst 0, 1) := by decide +kernel
theorem dL_law_653 : decode cL_law 653 = .ok (.ireturn, 1) := by decide +kernel
theorem dL_law_654 : decode cL_law 654 = .ok (.goto 1495, 3) := by decide +kernel
theorem dL_law_657 : decode cL_law 657 = .ok (.aload_n 1, 1) := by decide +kernel
theorem dL_law_658 : decode cL_law 658 = .ok (.invokevirtual 160, 3) := by decide +kernel
theorem dL_law_661 : decode cL_law 661 = .ok (.aload_n 2, 1) := by decide +kernel
theorem dL_law_662 : decode cL_law 662 = .ok (.invokevirtual 163, 3) := by decide +kernel
theorem dL_law_665 : decode cL_law 665 = .ok (.if_icmp .eq 1484, 3) := by decide +kernel
theorem dL_law_668 : decode cL_law 668 = .ok (.iconst 0, 1) := by decide +kernel
theorem dL_law_669 : decode cL_law 669 = .ok (.ireturn, 1) := by decide +kernel
theorem dL_law_670 : decode cL_law 670 = .ok (.aload_n 1, 1) := by decide +kernel
theorem dL_law_671 : decode cL_law 671 = .ok (.aload_n 0, 1) := by decide +kernel
theorem dL_law_672 : decode cL_law 672 = .ok (.iload 5, 2) := by decide +kernel
theorem dL_law_674 : decode cL_law 674 = .ok (.iconst 1, 1) := by decide +kernel
theorem dL_law_675 : decode cL_law 675 = .ok (.iadd, 1) := by decide +kernel
theorem dL_law_676 : decode cL_law 676 = .ok (.iaload, 1) := by decide +kernel
theorem dL_law_677 : decode cL_law 677 = .ok (.aload_n 0, 1) := by decide +kernel
theorem dL_law_678 : decode cL_law 678 = .ok (.iload 5, 2) := by decide +kernel
theorem dL_law_680 : decode cL_law 680 = .ok (.iconst 2, 1) := by decide +kernel
theorem dL_law_681 : decode cL_law 681 = .ok (.iadd, 1) := by decide +kernel
theorem dL_law_682 : decode cL_law 682 = .ok (.iaload, 1) := by decide +kernel
theorem dL_law_683 : decode cL_law 683 = .ok (.aload_n 3, 1) := by decide +kernel
theorem dL_law_684 : decode cL_law 684 = .ok (.invokestatic 164, 3) := by decide +kernel
theorem dL_law_687 : decode cL_law 687 = .ok (.istore 6, 2) := by decide +kernel
theorem dL_law_689 : decode cL_law 689 = .ok (.aload_n 2, 1) := by decide +kernel
theorem dL_law_690 : decode cL_law 690 = .ok (.aload_n 0, 1) := by decide +kernel
theorem dL_law_691 : decode cL_law 691 = .ok (.iload 5, 2) := by decide +kernel
theorem dL_law_693 : decode cL_law 693 = .ok (.iconst 1, 1) := by decide +kernel
theorem dL_law_694 : decode cL_law 694 = .ok (.iadd, 1) := by decide +kernel
theorem dL_law_695 : decode cL_law 695 = .ok (.iaload, 1) := by decide +kernel
theorem dL_law_696 : decode cL_law 696 = .ok (.aload_n 0, 1) := by decide +kernel
theorem dL_law_697 : decode cL_law 697 = .ok (.iload 5, 2) := by decide +kernel
theorem dL_law_699 : decode cL_law 699 = .ok (.iconst 2, 1) := by decide +kernel
theorem dL_law_700 : decode cL_law 700 = .ok (.iadd, 1) := by decide +kernel
theorem dL_law_701 : decode cL_law 701 = .ok (.iaload, 1) := by decide +kernel
theorem dL_law_702 : decode cL_law 702 = .ok (.invokevirtual 166, 3) := by decide +kernel
theorem dL_law_705 : decode cL_law 705 = .ok (.istore 7, 2) := by decide +kernel
theorem dL_law_707 : decode cL_law 707 = .ok (.aload_n 2, 1) := by decide +kernel
theorem dL_law_708 : decode cL_law 708 = .ok (.invokevirtual 135, 3) := by decide +kernel
theorem dL_law_711 : decode cL_law 711 = .ok (.iload 6, 2) := by decide +kernel
theorem dL_law_713 : decode cL_law 713 = .ok (.if_icmp .eq 5, 3) := by decide +kernel
theorem dL_law_716 : decode cL_law 716 = .ok (.iconst 0, 1) := by decide +kernel
theorem dL_law_717 : decode cL_law 717 = .ok (.ireturn, 1) := by decide +kernel
theorem dL_law_718 : decode cL_law 718 = .ok (.iload 6, 2) := by decide +kernel
theorem dL_law_720 : decode cL_law 720 = .ok (.ifCond .ne 15, 3) := by decide +kernel
theorem dL_law_723 : decode cL_law 723 = .ok (.aload_n 3, 1) := by decide +kernel
theorem dL_law_724 : decode cL_law 724 = .ok (.iconst 0, 1) := by decide +kernel
theorem dL_law_725 : decode cL_law 725 = .ok (.laload, 1) := by decide +kernel
theorem dL_law_726 : decode cL_law 726 = .ok (.iload 7, 2) := by decide +kernel
theorem dL_law_728 : decode cL_law 728 = .ok (.i2l, 1) := by decide +kernel
theorem dL_law_729 : decode cL_law 729 = .ok (.lcmp, 1) := by decide +kernel
theorem dL_law_730 : decode cL_law 730 = .ok (.ifCond .eq 5, 3) := by decide +kernel
theorem dL_law_733 : decode cL_law 733 = .ok (.iconst 0, 1) := by decide +kernel
theorem dL_law_734 : decode cL_law 734 = .ok (.ireturn, 1) := by decide +kernel
theorem dL_law_735 : decode cL_law 735 = .ok (.goto 1414, 3) := by decide +kernel
theorem dL_law_738 : decode cL_law 738 = .ok (.aload_n 1, 1) := by decide +kernel
theorem dL_law_739 : decode cL_law 739 = .ok (.aload_n 3, 1) := by decide +kernel
theorem dL_law_740 : decode cL_law 740 = .ok (.invokestatic 167, 3) := by decide +kernel
theorem dL_law_743 : decode cL_law 743 = .ok (.istore 6, 2) := by decide +kernel
theorem dL_law_745 : decode cL_law 745 = .ok (.aload_n 2, 1) := by decide +kernel
theorem dL_law_746 : decode cL_law 746 = .ok (.invokevirtual 169, 3) := by decide +kernel
theorem dL_law_749 : decode cL_law 749 = .ok (.istore 7, 2) := by decide +kernel
theorem dL_law_751 : decode cL_law 751 = .ok (.aload_n 2, 1) := by decide +kernel
theorem dL_law_752 : decode cL_law 752 = .ok (.invokevirtual 135, 3) := by decide +kernel
theorem dL_law_755 : decode cL_law 755 = .ok (.iload 6, 2) := by decide +kernel
theorem dL_law_757 : decode cL_law 757 = .ok (.if_icmp .eq 5, 3) := by decide +kernel
theorem dL_law_760 : decode cL_law 760 = .ok (.iconst 0, 1) := by decide +kernel
theorem dL_law_761 : decode cL_law 761 = .ok (.ireturn, 1) := by decide +kernel
theorem dL_law_762 : decode cL_law 762 = .ok (.iload 6, 2) := by decide +kernel
theorem dL_law_764 : decode cL_law 764 = .ok (.ifCond .ne 15, 3) := by decide +kernel
theorem dL_law_767 : decode cL_law 767 = .ok (.aload_n 3, 1) := by decide +kernel
theorem dL_law_768 : decode cL_law 768 = .ok (.iconst 0, 1) := by decide +kernel
theorem dL_law_769 : decode cL_law 769 = .ok (.laload, 1) := by decide +kernel
theorem dL_law_770 : decode cL_law 770 = .ok (.iload 7, 2) := by decide +kernel
theorem dL_law_772 : decode cL_law 772 = .ok (.i2l, 1) := by decide +kernel
theorem dL_law_773 : decode cL_law 773 = .ok (.lcmp, 1) := by decide +kernel
theorem dL_law_774 : decode cL_law 774 = .ok (.ifCond .eq 5, 3) := by decide +kernel
theorem dL_law_777 : decode cL_law 777 = .ok (.iconst 0, 1) := by decide +kernel
theorem dL_law_778 : decode cL_law 778 = .ok (.ireturn, 1) := by decide +kernel
theorem dL_law_779 : decode cL_law 779 = .ok (.goto 1370, 3) := by decide +kernel
theorem dL_law_782 : decode cL_law 782 = .ok (.aload_n 1, 1) := by decide +kernel
theorem dL_law_783 : decode cL_law 783 = .ok (.invokevirtual 170, 3) := by decide +kernel
theorem dL_law_786 : decode cL_law 786 = .ok (.aload_n 2, 1) := by decide +kernel
theorem dL_law_787 : decode cL_law 787 = .ok (.invokevirtual 173, 3) := by decide +kernel
theorem dL_law_790 : decode cL_law 790 = .ok (.if_icmp .eq 1359, 3) := by decide +kernel
theorem dL_law_793 : decode cL_law 793 = .ok (.iconst 0, 1) := by decide +kernel
theorem dL_law_794 : decode cL_law 794 = .ok (.ireturn, 1) := by decide +kernel
theorem dL_law_795 : decode cL_law 795 = .ok (.aload_n 1, 1) := by decide +kernel
theorem dL_law_796 : decode cL_law 796 = .ok (.invokevirtual 174, 3) := by decide +kernel
theorem dL_law_799 : decode cL_law 799 = .ok (.aload_n 2, 1) := by decide +kernel
theorem dL_law_800 : decode cL_law 800 = .ok (.invokevirtual 177, 3) := by decide +kernel
theorem dL_law_803 : decode cL_law 803 = .ok (.if_icmp .eq 1346, 3) := by decide +kernel
theorem dL_law_806 : decode cL_law 806 = .ok (.iconst 0, 1) := by decide +kernel
theorem dL_law_807 : decode cL_law 807 = .ok (.ireturn, 1) := by decide +kernel
theorem dL_law_808 : decode cL_law 808 = .ok (.aload_n 1, 1) := by decide +kernel
theorem dL_law_809 : decode cL_law 809 = .ok (.aload_n 3, 1) := by decide +kernel
theorem dL_law_810 : decode cL_law 810 = .ok (.invokestatic 178, 3) := by decide +kernel
theorem dL_law_813 : decode cL_law 813 = .ok (.istore 6, 2) := by decide +kernel
theorem dL_law_815 : decode cL_law 815 = .ok (.aload_n 2, 1) := by decide +kernel
theorem dL_law_816 : decode cL_law 816 = .ok (.invokevirtual 180, 3) := by decide +kernel
theorem dL_law_819 : decode cL_law 819 = .ok (.istore 7, 2) := by decide +kernel
theorem dL_law_821 : decode cL_law 821 = .ok (.aload_n 2, 1) := by decide +kernel
theorem dL_law_822 : decode cL_law 822 = .ok (.invokevirtual 135, 3) := by decide +kernel
theorem dL_law_825 : decode cL_law 825 = .ok (.iload 6, 2) := by decide +kernel
theorem dL_law_827 : decode cL_law 827 = .ok (.if_icmp .eq 5, 3) := by decide +kernel
theorem dL_law_830 : decode cL_law 830 = .ok (.iconst 0, 1) := by decide +kernel
theorem dL_law_831 : decode cL_law 831 = .ok (.ireturn, 1) := by decide +kernel
theorem dL_law_832 : decode cL_law 832 = .ok (.iload 6, 2) := by decide +kernel
theorem dL_law_834 : decode cL_law 834 = .ok (.ifCond .ne 15, 3) := by decide +kernel
theorem dL_law_837 : decode cL_law 837 = .ok (.aload_n 3, 1) := by decide +kernel
theorem dL_law_838 : decode cL_law 838 = .ok (.iconst 0, 1) := by decide +kernel
theorem dL_law_839 : decode cL_law 839 = .ok (.laload, 1) := by decide +kernel
theorem dL_law_840 : decode cL_law 840 = .ok (.iload 7, 2) := by decide +kernel
theorem dL_law_842 : decode cL_law 842 = .ok (.i2l, 1) := by decide +kernel
theorem dL_law_843 : decode cL_law 843 = .ok (.lcmp, 1) := by decide +kernel
theorem dL_law_844 : decode cL_law 844 = .ok (.ifCond .eq 5, 3) := by decide +kernel
theorem dL_law_847 : decode cL_law 847 = .ok (.iconst 0, 1) := by decide +kernel
theorem dL_law_848 : decode cL_law 848 = .ok (.ireturn, 1) := by decide +kernel
theorem dL_law_849 : decode cL_law 849 = .ok (.goto 1300, 3) := by decide +kernel
theorem dL_law_852 : decode cL_law 852 = .ok (.aload_n 1, 1) := by decide +kernel
theorem dL_law_853 : decode cL_law 853 = .ok (.aload_n 0, 1) := by decide +kernel
theorem dL_law_854 : decode cL_law 854 = .ok (.iload 5, 2) := by decide +kernel
theorem dL_law_856 : decode cL_law 856 = .ok (.iconst 1, 1) := by decide +kernel
theorem dL_law_857 : decode cL_law 857 = .ok (.iadd, 1) := by decide +kernel
theorem dL_law_858 : decode cL_law 858 = .ok (.iaload, 1) := by decide +kernel
theorem dL_law_859 : decode cL_law 859 = .ok (.aload_n 3, 1) := by decide +kernel
theorem dL_law_860 : decode cL_law 860 = .ok (.invokestatic 181, 3) := by decide +kernel
theorem dL_law_863 : decode cL_law 863 = .ok (.istore 6, 2) := by decide +kernel
theorem dL_law_865 : decode cL_law 865 = .ok (.aload_n 2, 1) := by decide +kernel
theorem dL_law_866 : decode cL_law 866 = .ok (.aload_n 0, 1) := by decide +kernel
theorem dL_law_867 : decode cL_law 867 = .ok (.iload 5, 2) := by decide +kernel
theorem dL_law_869 : decode cL_law 869 = .ok (.iconst 1, 1) := by decide +kernel
theorem dL_law_870 : decode cL_law 870 = .ok (.iadd, 1) := by decide +kernel
theorem dL_law_871 : decode cL_law 871 = .ok (.iaload, 1) := by decide +kernel
theorem dL_law_872 : decode cL_law 872 = .ok (.invokevirtual 183, 3) := by decide +kernel
theorem dL_law_875 : decode cL_law 875 = .ok (.istore 7, 2) := by decide +kernel
theorem dL_law_877 : decode cL_law 877 = .ok (.aload_n 2, 1) := by decide +kernel
theorem dL_law_878 : decode cL_law 878 = .ok (.invokevirtual 135, 3) := by decide +kernel
theorem dL_law_881 : decode cL_law 881 = .ok (.iload 6, 2) := by decide +kernel
theorem dL_law_883 : decode cL_law 883 = .ok (.if_icmp .eq 5, 3) := by decide +kernel
theorem dL_law_886 : decode cL_law 886 = .ok (.iconst 0, 1) := by decide +kernel
theorem dL_law_887 : decode cL_law 887 = .ok (.ireturn, 1) := by decide +kernel
theorem dL_law_888 : decode cL_law 888 = .ok (.iload 6, 2) := by decide +kernel
theorem dL_law_890 : decode cL_law 890 = .ok (.ifCond .ne 15, 3) := by decide +kernel
theorem dL_law_893 : decode cL_law 893 = .ok (.aload_n 3, 1) := by decide +kernel
theorem dL_law_894 : decode cL_law 894 = .ok (.iconst 0, 1) := by decide +kernel
theorem dL_law_895 : decode cL_law 895 = .ok (.laload, 1) := by decide +kernel
theorem dL_law_896 : decode cL_law 896 = .ok (.iload 7, 2) := by decide +kernel
theorem dL_law_898 : decode cL_law 898 = .ok (.i2l, 1) := by decide +kernel
theorem dL_law_899 : decode cL_law 899 = .ok (.lcmp, 1) := by decide +kernel
theorem dL_law_900 : decode cL_law 900 = .ok (.ifCond .eq 5, 3) := by decide +kernel
theorem dL_law_903 : decode cL_law 903 = .ok (.iconst 0, 1) := by decide +kernel
theorem dL_law_904 : decode cL_law 904 = .ok (.ireturn, 1) := by decide +kernel
theorem dL_law_905 : decode cL_law 905 = .ok (.goto 1244, 3) := by decide +kernel
theorem dL_law_908 : decode cL_law 908 = .ok (.aload_n 1, 1) := by decide +kernel
theorem dL_law_909 : decode cL_law 909 = .ok (.aload_n 0, 1) := by decide +kernel
theorem dL_law_910 : decode cL_law 910 = .ok (.iload 5, 2) := by decide +kernel
theorem dL_law_912 : decode cL_law 912 = .ok (.iconst 1, 1) := by decide +kernel
theorem dL_law_913 : decode cL_law 913 = .ok (.iadd, 1) := by decide +kernel
theorem dL_law_914 : decode cL_law 914 = .ok (.iaload, 1) := by decide +kernel
theorem dL_law_915 : decode cL_law 915 = .ok (.aload_n 3, 1) := by decide +kernel
theorem dL_law_916 : decode cL_law 916 = .ok (.invokestatic 184, 3) := by decide +kernel
theorem dL_law_919 : decode cL_law 919 = .ok (.istore 6, 2) := by decide +kernel
theorem dL_law_921 : decode cL_law 921 = .ok (.aload_n 2, 1) := by decide +kernel
theorem dL_law_922 : decode cL_law 922 = .ok (.aload_n 0, 1) := by decide +kernel
theorem dL_law_923 : decode cL_law 923 = .ok (.iload 5, 2) := by decide +kernel
theorem dL_law_925 : decode cL_law 925 = .ok (.iconst 1, 1) := by decide +kernel
theorem dL_law_926 : decode cL_law 926 = .ok (.iadd, 1) := by decide +kernel
theorem dL_law_927 : decode cL_law 927 = .ok (.iaload, 1) := by decide +kernel
theorem dL_law_928 : decode cL_law 928 = .ok (.invokevirtual 186, 3) := by decide +kernel
theorem dL_law_931 : decode cL_law 931 = .ok (.istore 7, 2) := by decide +kernel
theorem dL_law_933 : decode cL_law 933 = .ok (.aload_n 2, 1) := by decide +kernel
theorem dL_law_934 : decode cL_law 934 = .ok (.invokevirtual 135, 3) := by decide +kernel
theorem dL_law_937 : decode cL_law 937 = .ok (.iload 6, 2) := by decide +kernel
theorem dL_law_939 : decode cL_law 939 = .ok (.if_icmp .eq 5, 3) := by decide +kernel
theorem dL_law_942 : decode cL_law 942 = .ok (.iconst 0, 1) := by decide +kernel
theorem dL_law_943 : decode cL_law 943 = .ok (.ireturn, 1) := by decide +kernel
theorem dL_law_944 : decode cL_law 944 = .ok (.iload 6, 2) := by decide +kernel
theorem dL_law_946 : decode cL_law 946 = .ok (.ifCond .ne 15, 3) := by decide +kernel
theorem dL_law_949 : decode cL_law 949 = .ok (.aload_n 3, 1) := by decide +kernel
theorem dL_law_950 : decode cL_law 950 = .ok (.iconst 0, 1) := by decide +kernel
theorem dL_law_951 : decode cL_law 951 = .ok (.laload, 1) := by decide +kernel
theorem dL_law_952 : decode cL_law 952 = .ok (.iload 7, 2) := by decide +kernel
theorem dL_law_954 : decode cL_law 954 = .ok (.i2l, 1) := by decide +kernel
theorem dL_law_955 : decode cL_law 955 = .ok (.lcmp, 1) := by decide +kernel
theorem dL_law_956 : decode cL_law 956 = .ok (.ifCond .eq 5, 3) := by decide +kernel
theorem dL_law_959 : decode cL_law 959 = .ok (.iconst 0, 1) := by decide +kernel
theorem dL_law_960 : decode cL_law 960 = .ok (.ireturn, 1) := by decide +kernel
theorem dL_law_961 : decode cL_law 961 = .ok (.goto 1188, 3) := by decide +kernel
theorem dL_law_964 : decode cL_law 964 = .ok (.aload_n 1, 1) := by decide +kernel
theorem dL_law_965 : decode cL_law 965 = .ok (.aload_n 0, 1) := by decide +kernel
theorem dL_law_966 : decode cL_law 966 = .ok (.iload 5, 2) := by decide +kernel
theorem dL_law_968 : decode cL_law 968 = .ok (.iconst 1, 1) := by decide +kernel
theorem dL_law_969 : decode cL_law 969 = .ok (.iadd, 1) := by decide +kernel
theorem dL_law_970 : decode cL_law 970 = .ok (.iaload, 1) := by decide +kernel
theorem dL_law_971 : decode cL_law 971 = .ok (.aload_n 0, 1) := by decide +kernel
theorem dL_law_972 : decode cL_law 972 = .ok (.iload 5, 2) := by decide +kernel
theorem dL_law_974 : decode cL_law 974 = .ok (.iconst 2, 1) := by decide +kernel
theorem dL_law_975 : decode cL_law 975 = .ok (.iadd, 1) := by decide +kernel
theorem dL_law_976 : decode cL_law 976 = .ok (.iaload, 1) := by decide +kernel
theorem dL_law_977 : decode cL_law 977 = .ok (.aload_n 3, 1) := by decide +kernel
theorem dL_law_978 : decode cL_law 978 = .ok (.invokestatic 187, 3) := by decide +kernel
theorem dL_law_981 : decode cL_law 981 = .ok (.istore 6, 2) := by decide +kernel
theorem dL_law_983 : decode cL_law 983 = .ok (.aload_n 2, 1) := by decide +kernel
theorem dL_law_984 : decode cL_law 984 = .ok (.aload_n 0, 1) := by decide +kernel
theorem dL_law_985 : decode cL_law 985 = .ok (.iload 5, 2) := by decide +kernel
theorem dL_law_987 : decode cL_law 987 = .ok (.iconst 1, 1) := by decide +kernel
theorem dL_law_988 : decode cL_law 988 = .ok (.iadd, 1) := by decide +kernel
theorem dL_law_989 : decode cL_law 989 = .ok (.iaload, 1) := by decide +kernel
theorem dL_law_990 : decode cL_law 990 = .ok (.aload_n 0, 1) := by decide +kernel
theorem dL_law_991 : decode cL_law 991 = .ok (.iload 5, 2) := by decide +kernel
theorem dL_law_993 : decode cL_law 993 = .ok (.iconst 2, 1) := by decide +kernel
theorem dL_law_994 : decode cL_law 994 = .ok (.iadd, 1) := by decide +kernel
theorem dL_law_995 : decode cL_law 995 = .ok (.iaload, 1) := by decide +kernel
theorem dL_law_996 : decode cL_law 996 = .ok (.invokevirtual 189, 3) := by decide +kernel
theorem dL_law_999 : decode cL_law 999 = .ok (.istore 7, 2) := by decide +kernel
theorem dL_law_1001 : decode cL_law 1001 = .ok (.aload_n 2, 1) := by decide +kernel
theorem dL_law_1002 : decode cL_law 1002 = .ok (.invokevirtual 135, 3) := by decide +kernel
theorem dL_law_1005 : decode cL_law 1005 = .ok (.iload 6, 2) := by decide +kernel
theorem dL_law_1007 : decode cL_law 1007 = .ok (.if_icmp .eq 5, 3) := by decide +kernel
theorem dL_law_1010 : decode cL_law 1010 = .ok (.iconst 0, 1) := by decide +kernel
theorem dL_law_1011 : decode cL_law 1011 = .ok (.ireturn, 1) := by decide +kernel
theorem dL_law_1012 : decode cL_law 1012 = .ok (.iload 6, 2) := by decide +kernel
theorem dL_law_1014 : decode cL_law 1014 = .ok (.ifCond .ne 15, 3) := by decide +kernel
theorem dL_law_1017 : decode cL_law 1017 = .ok (.aload_n 3, 1) := by decide +kernel
theorem dL_law_1018 : decode cL_law 1018 = .ok (.iconst 0, 1) := by decide +kernel
theorem dL_law_1019 : decode cL_law 1019 = .ok (.laload, 1) := by decide +kernel
theorem dL_law_1020 : decode cL_law 1020 = .ok (.iload 7, 2) := by decide +kernel
theorem dL_law_1022 : decode cL_law 1022 = .ok (.i2l, 1) := by decide +kernel
theorem dL_law_1023 : decode cL_law 1023 = .ok (.lcmp, 1) := by decide +kernel
theorem dL_law_1024 : decode cL_law 1024 = .ok (.ifCond .eq 5, 3) := by decide +kernel
theorem dL_law_1027 : decode cL_law 1027 = .ok (.iconst 0, 1) := by decide +kernel
theorem dL_law_1028 : decode cL_law 1028 = .ok (.ireturn, 1) := by decide +kernel
theorem dL_law_1029 : decode cL_law 1029 = .ok (.goto 1120, 3) := by decide +kernel
theorem dL_law_1032 : decode cL_law 1032 = .ok (.aload_n 1, 1) := by decide +kernel
theorem dL_law_1033 : decode cL_law 1033 = .ok (.aload_n 0, 1) := by decide +kernel
theorem dL_law_1034 : decode cL_law 1034 = .ok (.iload 5, 2) := by decide +kernel
theorem dL_law_1036 : decode cL_law 1036 = .ok (.iconst 1, 1) := by decide +kernel
theorem dL_law_1037 : decode cL_law 1037 = .ok (.iadd, 1) := by decide +kernel
theorem dL_law_1038 : decode cL_law 1038 = .ok (.iaload, 1) := by decide +kernel
theorem dL_law_1039 : decode cL_law 1039 = .ok (.aload_n 0, 1) := by decide +kernel
theorem dL_law_1040 : decode cL_law 1040 = .ok (.iload 5, 2) := by decide +kernel
theorem dL_law_1042 : decode cL_law 1042 = .ok (.iconst 2, 1) := by decide +kernel
theorem dL_law_1043 : decode cL_law 1043 = .ok (.iadd, 1) := by decide +kernel
theorem dL_law_1044 : decode cL_law 1044 = .ok (.iaload, 1) := by decide +kernel
theorem dL_law_1045 : decode cL_law 1045 = .ok (.aload 4, 2) := by decide +kernel
theorem dL_law_1047 : decode cL_law 1047 = .ok (.invokestatic 190, 3) := by decide +kernel
theorem dL_law_1050 : decode cL_law 1050 = .ok (.istore 6, 2) := by decide +kernel
theorem dL_law_1052 : decode cL_law 1052 = .ok (.aload_n 2, 1) := by decide +kernel
theorem dL_law_1053 : decode cL_law 1053 = .ok (.aload_n 0, 1) := by decide +kernel
theorem dL_law_1054 : decode cL_law 1054 = .ok (.iload 5, 2) := by decide +kernel
theorem dL_law_1056 : decode cL_law 1056 = .ok (.iconst 1, 1) := by decide +kernel
theorem dL_law_1057 : decode cL_law 1057 = .ok (.iadd, 1) := by decide +kernel
theorem dL_law_1058 : decode cL_law 1058 = .ok (.iaload, 1) := by decide +kernel
theorem dL_law_1059 : decode cL_law 1059 = .ok (.aload_n 0, 1) := by decide +kernel
theorem dL_law_1060 : decode cL_law 1060 = .ok (.iload 5, 2) := by decide +kernel
theorem dL_law_1062 : decode cL_law 1062 = .ok (.iconst 2, 1) := by decide +kernel
theorem dL_law_1063 : decode cL_law 1063 = .ok (.iadd, 1) := by decide +kernel
theorem dL_law_1064 : decode cL_law 1064 = .ok (.iaload, 1) := by decide +kernel
theorem dL_law_1065 : decode cL_law 1065 = .ok (.invokevirtual 193, 3) := by decide +kernel
theorem dL_law_1068 : decode cL_law 1068 = .ok (.dstore 7, 2) := by decide +kernel
theorem dL_law_1070 : decode cL_law 1070 = .ok (.aload_n 2, 1) := by decide +kernel
theorem dL_law_1071 : decode cL_law 1071 = .ok (.invokevirtual 135, 3) := by decide +kernel
theorem dL_law_1074 : decode cL_law 1074 = .ok (.iload 6, 2) := by decide +kernel
theorem dL_law_1076 : decode cL_law 1076 = .ok (.if_icmp .eq 5, 3) := by decide +kernel
theorem dL_law_1079 : decode cL_law 1079 = .ok (.iconst 0, 1) := by decide +kernel
theorem dL_law_1080 : decode cL_law 1080 = .ok (.ireturn, 1) := by decide +kernel
theorem dL_law_1081 : decode cL_law 1081 = .ok (.iload 6, 2) := by decide +kernel
theorem dL_law_1083 : decode cL_law 1083 = .ok (.ifCond .ne 35, 3) := by decide +kernel
theorem dL_law_1086 : decode cL_law 1086 = .ok (.aload 4, 2) := by decide +kernel
theorem dL_law_1088 : decode cL_law 1088 = .ok (.iconst 0, 1) := by decide +kernel
theorem dL_law_1089 : decode cL_law 1089 = .ok (.daload, 1) := by decide +kernel
theorem dL_law_1090 : decode cL_law 1090 = .ok (.dload 7, 2) := by decide +kernel
theorem dL_law_1092 : decode cL_law 1092 = .ok (.dcmp .l, 1) := by decide +kernel
theorem dL_law_1093 : decode cL_law 1093 = .ok (.ifCond .eq 25, 3) := by decide +kernel
theorem dL_law_1096 : decode cL_law 1096 = .ok (.aload 4, 2) := by decide +kernel
theorem dL_law_1098 : decode cL_law 1098 = .ok (.iconst 0, 1) := by decide +kernel
theorem dL_law_1099 : decode cL_law 1099 = .ok (.daload, 1) := by decide +kernel
theorem dL_law_1100 : decode cL_law 1100 = .ok (.aload 4, 2) := by decide +kernel
theorem dL_law_1102 : decode cL_law 1102 = .ok (.iconst 0, 1) := by decide +kernel
theorem dL_law_1103 : decode cL_law 1103 = .ok (.daload, 1) := by decide +kernel
theorem dL_law_1104 : decode cL_law 1104 = .ok (.dcmp .l, 1) := by decide +kernel
theorem dL_law_1105 : decode cL_law 1105 = .ok (.ifCond .eq 11, 3) := by decide +kernel
theorem dL_law_1108 : decode cL_law 1108 = .ok (.dload 7, 2) := by decide +kernel
theorem dL_law_1110 : decode cL_law 1110 = .ok (.dload 7, 2) := by decide +kernel
theorem dL_law_1112 : decode cL_law 1112 = .ok (.dcmp .l, 1) := by decide +kernel
theorem dL_law_1113 : decode cL_law 1113 = .ok (.ifCond .ne 5, 3) := by decide +kernel
theorem dL_law_1116 : decode cL_law 1116 = .ok (.iconst 0, 1) := by decide +kernel
theorem dL_law_1117 : decode cL_law 1117 = .ok (.ireturn, 1) := by decide +kernel
theorem dL_law_1118 : decode cL_law 1118 = .ok (.goto 1031, 3) := by decide +kernel
theorem dL_law_1121 : decode cL_law 1121 = .ok (.aload_n 1, 1) := by decide +kernel
theorem dL_law_1122 : decode cL_law 1122 = .ok (.aload_n 0, 1) := by decide +kernel
theorem dL_law_1123 : decode cL_law 1123 = .ok (.iload 5, 2) := by decide +kernel
theorem dL_law_1125 : decode cL_law 1125 = .ok (.iconst 1, 1) := by decide +kernel
theorem dL_law_1126 : decode cL_law 1126 = .ok (.iadd, 1) := by decide +kernel
theorem dL_law_1127 : decode cL_law 1127 = .ok (.iaload, 1) := by decide +kernel
theorem dL_law_1128 : decode cL_law 1128 = .ok (.aload_n 0, 1) := by decide +kernel
theorem dL_law_1129 : decode cL_law 1129 = .ok (.iload 5, 2) := by decide +kernel
theorem dL_law_1131 : decode cL_law 1131 = .ok (.iconst 2, 1) := by decide +kernel
theorem dL_law_1132 : decode cL_law 1132 = .ok (.iadd, 1) := by decide +kernel
theorem dL_law_1133 : decode cL_law 1133 = .ok (.iaload, 1) := by decide +kernel
theorem dL_law_1134 : decode cL_law 1134 = .ok (.aload 4, 2) := by decide +kernel
theorem dL_law_1136 : decode cL_law 1136 = .ok (.invokestatic 194, 3) := by decide +kernel
theorem dL_law_1139 : decode cL_law 1139 = .ok (.istore 6, 2) := by decide +kernel
theorem dL_law_1141 : decode cL_law 1141 = .ok (.aload_n 2, 1) := by decide +kernel
theorem dL_law_1142 : decode cL_law 1142 = .ok (.aload_n 0, 1) := by decide +kernel
theorem dL_law_1143 : decode cL_law 1143 = .ok (.iload 5, 2) := by decide +kernel
theorem dL_law_1145 : decode cL_law 1145 = .ok (.iconst 1, 1) := by decide +kernel
theorem dL_law_1146 : decode cL_law 1146 = .ok (.iadd, 1) := by decide +kernel
theorem dL_law_1147 : decode cL_law 1147 = .ok (.iaload, 1) := by decide +kernel
theorem dL_law_1148 : decode cL_law 1148 = .ok (.aload_n 0, 1) := by decide +kernel
theorem dL_law_1149 : decode cL_law 1149 = .ok (.iload 5, 2) := by decide +kernel
theorem dL_law_1151 : decode cL_law 1151 = .ok (.iconst 2, 1) := by decide +kernel
theorem dL_law_1152 : decode cL_law 1152 = .ok (.iadd, 1) := by decide +kernel
theorem dL_law_1153 : decode cL_law 1153 = .ok (.iaload, 1) := by decide +kernel
theorem dL_law_1154 : decode cL_law 1154 = .ok (.invokevirtual 196, 3) := by decide +kernel
theorem dL_law_1157 : decode cL_law 1157 = .ok (.dstore 7, 2) := by decide +kernel
theorem dL_law_1159 : decode cL_law 1159 = .ok (.aload_n 2, 1) := by decide +kernel
theorem dL_law_1160 : decode cL_law 1160 = .ok (.invokevirtual 135, 3) := by decide +kernel
theorem dL_law_1163 : decode cL_law 1163 = .ok (.iload 6, 2) := by decide +kernel
theorem dL_law_1165 : decode cL_law 1165 = .ok (.if_icmp .eq 5, 3) := by decide +kernel
theorem dL_law_1168 : decode cL_law 1168 = .ok (.iconst 0, 1) := by decide +kernel
theorem dL_law_1169 : decode cL_law 1169 = .ok (.ireturn, 1) := by decide +kernel
theorem dL_law_1170 : decode cL_law 1170 = .ok (.iload 6, 2) := by decide +kernel
theorem dL_law_1172 : decode cL_law 1172 = .ok (.ifCond .ne 35, 3) := by decide +kernel
theorem dL_law_1175 : decode cL_law 1175 = .ok (.aload 4, 2) := by decide +kernel
theorem dL_law_1177 : decode cL_law 1177 = .ok (.iconst 0, 1) := by decide +kernel
theorem dL_law_1178 : decode cL_law 1178 = .ok (.daload, 1) := by decide +kernel
theorem dL_law_1179 : decode cL_law 1179 = .ok (.dload 7, 2) := by decide +kernel
theorem dL_law_1181 : decode cL_law 1181 = .ok (.dcmp .l, 1) := by decide +kernel
theorem dL_law_1182 : decode cL_law 1182 = .ok (.ifCond .eq 25, 3) := by decide +kernel
theorem dL_law_1185 : decode cL_law 1185 = .ok (.aload 4, 2) := by decide +kernel
theorem dL_law_1187 : decode cL_law 1187 = .ok (.iconst 0, 1) := by decide +kernel
theorem dL_law_1188 : decode cL_law 1188 = .ok (.daload, 1) := by decide +kernel
theorem dL_law_1189 : decode cL_law 1189 = .ok (.aload 4, 2) := by decide +kernel
theorem dL_law_1191 : decode cL_law 1191 = .ok (.iconst 0, 1) := by decide +kernel
theorem dL_law_1192 : decode cL_law 1192 = .ok (.daload, 1) := by decide +kernel
theorem dL_law_1193 : decode cL_law 1193 = .ok (.dcmp .l, 1) := by decide +kernel
theorem dL_law_1194 : decode cL_law 1194 = .ok (.ifCond .eq 11, 3) := by decide +kernel
theorem dL_law_1197 : decode cL_law 1197 = .ok (.dload 7, 2) := by decide +kernel
theorem dL_law_1199 : decode cL_law 1199 = .ok (.dload 7, 2) := by decide +kernel
theorem dL_law_1201 : decode cL_law 1201 = .ok (.dcmp .l, 1) := by decide +kernel
theorem dL_law_1202 : decode cL_law 1202 = .ok (.ifCond .ne 5, 3) := by decide +kernel
theorem dL_law_1205 : decode cL_law 1205 = .ok (.iconst 0, 1) := by decide +kernel
theorem dL_law_1206 : decode cL_law 1206 = .ok (.ireturn, 1) := by decide +kernel
theorem dL_law_1207 : decode cL_law 1207 = .ok (.goto 942, 3) := by decide +kernel
theorem dL_law_1210 : decode cL_law 1210 = .ok (.aload_n 1, 1) := by decide +kernel
theorem dL_law_1211 : decode cL_law 1211 = .ok (.aload_n 3, 1) := by decide +kernel
theorem dL_law_1212 : decode cL_law 1212 = .ok (.invokestatic 197, 3) := by decide +kernel
theorem dL_law_1215 : decode cL_law 1215 = .ok (.istore 6, 2) := by decide +kernel
theorem dL_law_1217 : decode cL_law 1217 = .ok (.aload_n 2, 1) := by decide +kernel
theorem dL_law_1218 : decode cL_law 1218 = .ok (.invokevirtual 199, 3) := by decide +kernel
theorem dL_law_1221 : decode cL_law 1221 = .ok (.istore 7, 2) := by decide +kernel
theorem dL_law_1223 : decode cL_law 1223 = .ok (.aload_n 2, 1) := by decide +kernel
theorem dL_law_1224 : decode cL_law 1224 = .ok (.invokevirtual 135, 3) := by decide +kernel
theorem dL_law_1227 : decode cL_law 1227 = .ok (.iload 6, 2) := by decide +kernel
theorem dL_law_1229 : decode cL_law 1229 = .ok (.if_icmp .eq 5, 3) := by decide +kernel
theorem dL_law_1232 : decode cL_law 1232 = .ok (.iconst 0, 1) := by decide +kernel
theorem dL_law_1233 : decode cL_law 1233 = .ok (.ireturn, 1) := by decide +kernel
theorem dL_law_1234 : decode cL_law 1234 = .ok (.iload 6, 2) := by decide +kernel
theorem dL_law_1236 : decode cL_law 1236 = .ok (.ifCond .ne 15, 3) := by decide +kernel
theorem dL_law_1239 : decode cL_law 1239 = .ok (.aload_n 3, 1) := by decide +kernel
theorem dL_law_1240 : decode cL_law 1240 = .ok (.iconst 0, 1) := by decide +kernel
theorem dL_law_1241 : decode cL_law 1241 = .ok (.laload, 1) := by decide +kernel
theorem dL_law_1242 : decode cL_law 1242 = .ok (.iload 7, 2) := by decide +kernel
theorem dL_law_1244 : decode cL_law 1244 = .ok (.i2l, 1) := by decide +kernel
theorem dL_law_1245 : decode cL_law 1245 = .ok (.lcmp, 1) := by decide +kernel
theorem dL_law_1246 : decode cL_law 1246 = .ok (.ifCond .eq 5, 3) := by decide +kernel
theorem dL_law_1249 : decode cL_law 1249 = .ok (.iconst 0, 1) := by decide +kernel
theorem dL_law_1250 : decode cL_law 1250 = .ok (.ireturn, 1) := by decide +kernel
theorem dL_law_1251 : decode cL_law 1251 = .ok (.goto 898, 3) := by decide +kernel
theorem dL_law_1254 : decode cL_law 1254 = .ok (.aload_n 1, 1) := by decide +kernel
theorem dL_law_1255 : decode cL_law 1255 = .ok (.aload_n 0, 1) := by decide +kernel
theorem dL_law_1256 : decode cL_law 1256 = .ok (.iload 5, 2) := by decide +kernel
theorem dL_law_1258 : decode cL_law 1258 = .ok (.iconst 1, 1) := by decide +kernel
theorem dL_law_1259 : decode cL_law 1259 = .ok (.iadd, 1) := by decide +kernel
theorem dL_law_1260 : decode cL_law 1260 = .ok (.iaload, 1) := by decide +kernel
theorem dL_law_1261 : decode cL_law 1261 = .ok (.aload_n 3, 1) := by decide +kernel
theorem dL_law_1262 : decode cL_law 1262 = .ok (.invokestatic 200, 3) := by decide +kernel
theorem dL_law_1265 : decode cL_law 1265 = .ok (.istore 6, 2) := by decide +kernel
theorem dL_law_1267 : decode cL_law 1267 = .ok (.aload_n 2, 1) := by decide +kernel
theorem dL_law_1268 : decode cL_law 1268 = .ok (.aload_n 0, 1) := by decide +kernel
theorem dL_law_1269 : decode cL_law 1269 = .ok (.iload 5, 2) := by decide +kernel
theorem dL_law_1271 : decode cL_law 1271 = .ok (.iconst 1, 1) := by decide +kernel
theorem dL_law_1272 : decode cL_law 1272 = .ok (.iadd, 1) := by decide +kernel
theorem dL_law_1273 : decode cL_law 1273 = .ok (.iaload, 1) := by decide +kernel
theorem dL_law_1274 : decode cL_law 1274 = .ok (.invokevirtual 202, 3) := by decide +kernel
theorem dL_law_1277 : decode cL_law 1277 = .ok (.istore 7, 2) := by decide +kernel
theorem dL_law_1279 : decode cL_law 1279 = .ok (.aload_n 2, 1) := by decide +kernel
theorem dL_law_1280 : decode cL_law 1280 = .ok (.invokevirtual 135, 3) := by decide +kernel
theorem dL_law_1283 : decode cL_law 1283 = .ok (.iload 6, 2) := by decide +kernel
theorem dL_law_1285 : decode cL_law 1285 = .ok (.if_icmp .eq 5, 3) := by decide +kernel
theorem dL_law_1288 : decode cL_law 1288 = .ok (.iconst 0, 1) := by decide +kernel
theorem dL_law_1289 : decode cL_law 1289 = .ok (.ireturn, 1) := by decide +kernel
theorem dL_law_1290 : decode cL_law 1290 = .ok (.iload 6, 2) := by decide +kernel
theorem dL_law_1292 : decode cL_law 1292 = .ok (.ifCond .ne 15, 3) := by decide +kernel
theorem dL_law_1295 : decode cL_law 1295 = .ok (.aload_n 3, 1) := by decide +kernel
theorem dL_law_1296 : decode cL_law 1296 = .ok (.iconst 0, 1) := by decide +kernel
theorem dL_law_1297 : decode cL_law 1297 = .ok (.laload, 1) := by decide +kernel
theorem dL_law_1298 : decode cL_law 1298 = .ok (.iload 7, 2) := by decide +kernel
theorem dL_law_1300 : decode cL_law 1300 = .ok (.i2l, 1) := by decide +kernel
theorem dL_law_1301 : decode cL_law 1301 = .ok (.lcmp, 1) := by decide +kernel
theorem dL_law_1302 : decode cL_law 1302 = .ok (.ifCond .eq 5, 3) := by decide +kernel
theorem dL_law_1305 : decode cL_law 1305 = .ok (.iconst 0, 1) := by decide +kernel
theorem dL_law_1306 : decode cL_law 1306 = .ok (.ireturn, 1) := by decide +kernel
theorem dL_law_1307 : decode cL_law 1307 = .ok (.goto 842, 3) := by decide +kernel
theorem dL_law_1310 : decode cL_law 1310 = .ok (.aload_n 1, 1) := by decide +kernel
theorem dL_law_1311 : decode cL_law 1311 = .ok (.aload_n 0, 1) := by decide +kernel
theorem dL_law_1312 : decode cL_law 1312 = .ok (.iload 5, 2) := by decide +kernel
theorem dL_law_1314 : decode cL_law 1314 = .ok (.iconst 1, 1) := by decide +kernel
theorem dL_law_1315 : decode cL_law 1315 = .ok (.iadd, 1) := by decide +kernel
theorem dL_law_1316 : decode cL_law 1316 = .ok (.iaload, 1) := by decide +kernel
theorem dL_law_1317 : decode cL_law 1317 = .ok (.aload_n 3, 1) := by decide +kernel
theorem dL_law_1318 : decode cL_law 1318 = .ok (.invokestatic 203, 3) := by decide +kernel
theorem dL_law_1321 : decode cL_law 1321 = .ok (.istore 6, 2) := by decide +kernel
theorem dL_law_1323 : decode cL_law 1323 = .ok (.aload_n 2, 1) := by decide +kernel
theorem dL_law_1324 : decode cL_law 1324 = .ok (.aload_n 0, 1) := by decide +kernel
theorem dL_law_1325 : decode cL_law 1325 = .ok (.iload 5, 2) := by decide +kernel
theorem dL_law_1327 : decode cL_law 1327 = .ok (.iconst 1, 1) := by decide +kernel
theorem dL_law_1328 : decode cL_law 1328 = .ok (.iadd, 1) := by decide +kernel
theorem dL_law_1329 : decode cL_law 1329 = .ok (.iaload, 1) := by decide +kernel
theorem dL_law_1330 : decode cL_law 1330 = .ok (.invokevirtual 205, 3) := by decide +kernel
theorem dL_law_1333 : decode cL_law 1333 = .ok (.istore 7, 2) := by decide +kernel
theorem dL_law_1335 : decode cL_law 1335 = .ok (.aload_n 2, 1) := by decide +kernel
theorem dL_law_1336 : decode cL_law 1336 = .ok (.invokevirtual 135, 3) := by decide +kernel
theorem dL_law_1339 : decode cL_law 1339 = .ok (.iload 6, 2) := by decide +kernel
theorem dL_law_1341 : decode cL_law 1341 = .ok (.if_icmp .eq 5, 3) := by decide +kernel
theorem dL_law_1344 : decode cL_law 1344 = .ok (.iconst 0, 1) := by decide +kernel
theorem dL_law_1345 : decode cL_law 1345 = .ok (.ireturn, 1) := by decide +kernel
theorem dL_law_1346 : decode cL_law 1346 = .ok (.iload 6, 2) := by decide +kernel
theorem dL_law_1348 : decode cL_law 1348 = .ok (.ifCond .ne 15, 3) := by decide +kernel
theorem dL_law_1351 : decode cL_law 1351 = .ok (.aload_n 3, 1) := by decide +kernel
theorem dL_law_1352 : decode cL_law 1352 = .ok (.iconst 0, 1) := by decide +kernel
theorem dL_law_1353 : decode cL_law 1353 = .ok (.laload, 1) := by decide +kernel
theorem dL_law_1354 : decode cL_law 1354 = .ok (.iload 7, 2) := by decide +kernel
theorem dL_law_1356 : decode cL_law 1356 = .ok (.i2l, 1) := by decide +kernel
theorem dL_law_1357 : decode cL_law 1357 = .ok (.lcmp, 1) := by decide +kernel
theorem dL_law_1358 : decode cL_law 1358 = .ok (.ifCond .eq 5, 3) := by decide +kernel
theorem dL_law_1361 : decode cL_law 1361 = .ok (.iconst 0, 1) := by decide +kernel
theorem dL_law_1362 : decode cL_law 1362 = .ok (.ireturn, 1) := by decide +kernel
theorem dL_law_1363 : decode cL_law 1363 = .ok (.goto 786, 3) := by decide +kernel
theorem dL_law_1366 : decode cL_law 1366 = .ok (.aload_n 1, 1) := by decide +kernel
theorem dL_law_1367 : decode cL_law 1367 = .ok (.aload_n 0, 1) := by decide +kernel
theorem dL_law_1368 : decode cL_law 1368 = .ok (.iload 5, 2) := by decide +kernel
theorem dL_law_1370 : decode cL_law 1370 = .ok (.iconst 1, 1) := by decide +kernel
theorem dL_law_1371 : decode cL_law 1371 = .ok (.iadd, 1) := by decide +kernel
theorem dL_law_1372 : decode cL_law 1372 = .ok (.iaload, 1) := by decide +kernel
theorem dL_law_1373 : decode cL_law 1373 = .ok (.aload_n 3, 1) := by decide +kernel
theorem dL_law_1374 : decode cL_law 1374 = .ok (.invokestatic 206, 3) := by decide +kernel
theorem dL_law_1377 : decode cL_law 1377 = .ok (.istore 6, 2) := by decide +kernel
theorem dL_law_1379 : decode cL_law 1379 = .ok (.aload_n 2, 1) := by decide +kernel
theorem dL_law_1380 : decode cL_law 1380 = .ok (.aload_n 0, 1) := by decide +kernel
theorem dL_law_1381 : decode cL_law 1381 = .ok (.iload 5, 2) := by decide +kernel
theorem dL_law_1383 : decode cL_law 1383 = .ok (.iconst 1, 1) := by decide +kernel
theorem dL_law_1384 : decode cL_law 1384 = .ok (.iadd, 1) := by decide +kernel
theorem dL_law_1385 : decode cL_law 1385 = .ok (.iaload, 1) := by decide +kernel
theorem dL_law_1386 : decode cL_law 1386 = .ok (.invokevirtual 208, 3) := by decide +kernel
theorem dL_law_1389 : decode cL_law 1389 = .ok (.istore 7, 2) := by decide +kernel
theorem dL_law_1391 : decode cL_law 1391 = .ok (.aload_n 2, 1) := by decide +kernel
theorem dL_law_1392 : decode cL_law 1392 = .ok (.invokevirtual 135, 3) := by decide +kernel
theorem dL_law_1395 : decode cL_law 1395 = .ok (.iload 6, 2) := by decide +kernel
theorem dL_law_1397 : decode cL_law 1397 = .ok (.if_icmp .eq 5, 3) := by decide +kernel
theorem dL_law_1400 : decode cL_law 1400 = .ok (.iconst 0, 1) := by decide +kernel
theorem dL_law_1401 : decode cL_law 1401 = .ok (.ireturn, 1) := by decide +kernel
theorem dL_law_1402 : decode cL_law 1402 = .ok (.iload 6, 2) := by decide +kernel
theorem dL_law_1404 : decode cL_law 1404 = .ok (.ifCond .ne 15, 3) := by decide +kernel
theorem dL_law_1407 : decode cL_law 1407 = .ok (.aload_n 3, 1) := by decide +kernel
theorem dL_law_1408 : decode cL_law 1408 = .ok (.iconst 0, 1) := by decide +kernel
theorem dL_law_1409 : decode cL_law 1409 = .ok (.laload, 1) := by decide +kernel
theorem dL_law_1410 : decode cL_law 1410 = .ok (.iload 7, 2) := by decide +kernel
theorem dL_law_1412 : decode cL_law 1412 = .ok (.i2l, 1) := by decide +kernel
theorem dL_law_1413 : decode cL_law 1413 = .ok (.lcmp, 1) := by decide +kernel
theorem dL_law_1414 : decode cL_law 1414 = .ok (.ifCond .eq 5, 3) := by decide +kernel
theorem dL_law_1417 : decode cL_law 1417 = .ok (.iconst 0, 1) := by decide +kernel
theorem dL_law_1418 : decode cL_law 1418 = .ok (.ireturn, 1) := by decide +kernel
theorem dL_law_1419 : decode cL_law 1419 = .ok (.goto 730, 3) := by decide +kernel
theorem dL_law_1422 : decode cL_law 1422 = .ok (.aload_n 1, 1) := by decide +kernel
theorem dL_law_1423 : decode cL_law 1423 = .ok (.aload_n 3, 1) := by decide +kernel
theorem dL_law_1424 : decode cL_law 1424 = .ok (.invokestatic 209, 3) := by decide +kernel
theorem dL_law_1427 : decode cL_law 1427 = .ok (.istore 6, 2) := by decide +kernel
theorem dL_law_1429 : decode cL_law 1429 = .ok (.aload_n 2, 1) := by decide +kernel
theorem dL_law_1430 : decode cL_law 1430 = .ok (.invokevirtual 211, 3) := by decide +kernel
theorem dL_law_1433 : decode cL_law 1433 = .ok (.istore 7, 2) := by decide +kernel
theorem dL_law_1435 : decode cL_law 1435 = .ok (.aload_n 2, 1) := by decide +kernel
theorem dL_law_1436 : decode cL_law 1436 = .ok (.invokevirtual 135, 3) := by decide +kernel
theorem dL_law_1439 : decode cL_law 1439 = .ok (.iload 6, 2) := by decide +kernel
theorem dL_law_1441 : decode cL_law 1441 = .ok (.if_icmp .eq 5, 3) := by decide +kernel
theorem dL_law_1444 : decode cL_law 1444 = .ok (.iconst 0, 1) := by decide +kernel
theorem dL_law_1445 : decode cL_law 1445 = .ok (.ireturn, 1) := by decide +kernel
theorem dL_law_1446 : decode cL_law 1446 = .ok (.iload 6, 2) := by decide +kernel
theorem dL_law_1448 : decode cL_law 1448 = .ok (.ifCond .ne 15, 3) := by decide +kernel
theorem dL_law_1451 : decode cL_law 1451 = .ok (.aload_n 3, 1) := by decide +kernel
theorem dL_law_1452 : decode cL_law 1452 = .ok (.iconst 0, 1) := by decide +kernel
theorem dL_law_1453 : decode cL_law 1453 = .ok (.laload, 1) := by decide +kernel
theorem dL_law_1454 : decode cL_law 1454 = .ok (.iload 7, 2) := by decide +kernel
theorem dL_law_1456 : decode cL_law 1456 = .ok (.i2l, 1) := by decide +kernel
theorem dL_law_1457 : decode cL_law 1457 = .ok (.lcmp, 1) := by decide +kernel
theorem dL_law_1458 : decode cL_law 1458 = .ok (.ifCond .eq 5, 3) := by decide +kernel
theorem dL_law_1461 : decode cL_law 1461 = .ok (.iconst 0, 1) := by decide +kernel
theorem dL_law_1462 : decode cL_law 1462 = .ok (.ireturn, 1) := by decide +kernel
theorem dL_law_1463 : decode cL_law 1463 = .ok (.goto 686, 3) := by decide +kernel
theorem dL_law_1466 : decode cL_law 1466 = .ok (.aload_n 1, 1) := by decide +kernel
theorem dL_law_1467 : decode cL_law 1467 = .ok (.aload_n 3, 1) := by decide +kernel
theorem dL_law_1468 : decode cL_law 1468 = .ok (.invokestatic 212, 3) := by decide +kernel
theorem dL_law_1471 : decode cL_law 1471 = .ok (.istore 6, 2) := by decide +kernel
theorem dL_law_1473 : decode cL_law 1473 = .ok (.aload_n 2, 1) := by decide +kernel
theorem dL_law_1474 : decode cL_law 1474 = .ok (.invokevirtual 214, 3) := by decide +kernel
theorem dL_law_1477 : decode cL_law 1477 = .ok (.istore 7, 2) := by decide +kernel
theorem dL_law_1479 : decode cL_law 1479 = .ok (.aload_n 2, 1) := by decide +kernel
theorem dL_law_1480 : decode cL_law 1480 = .ok (.invokevirtual 135, 3) := by decide +kernel
theorem dL_law_1483 : decode cL_law 1483 = .ok (.iload 6, 2) := by decide +kernel
theorem dL_law_1485 : decode cL_law 1485 = .ok (.if_icmp .eq 5, 3) := by decide +kernel
theorem dL_law_1488 : decode cL_law 1488 = .ok (.iconst 0, 1) := by decide +kernel
theorem dL_law_1489 : decode cL_law 1489 = .ok (.ireturn, 1) := by decide +kernel
theorem dL_law_1490 : decode cL_law 1490 = .ok (.iload 6, 2) := by decide +kernel
theorem dL_law_1492 : decode cL_law 1492 = .ok (.ifCond .ne 15, 3) := by decide +kernel
theorem dL_law_1495 : decode cL_law 1495 = .ok (.aload_n 3, 1) := by decide +kernel
theorem dL_law_1496 : decode cL_law 1496 = .ok (.iconst 0, 1) := by decide +kernel
theorem dL_law_1497 : decode cL_law 1497 = .ok (.laload, 1) := by decide +kernel
theorem dL_law_1498 : decode cL_law 1498 = .ok (.iload 7, 2) := by decide +kernel
theorem dL_law_1500 : decode cL_law 1500 = .ok (.i2l, 1) := by decide +kernel
theorem dL_law_1501 : decode cL_law 1501 = .ok (.lcmp, 1) := by decide +kernel
theorem dL_law_1502 : decode cL_law 1502 = .ok (.ifCond .eq 5, 3) := by decide +kernel
theorem dL_law_1505 : decode cL_law 1505 = .ok (.iconst 0, 1) := by decide +kernel
theorem dL_law_1506 : decode cL_law 1506 = .ok (.ireturn, 1) := by decide +kernel
theorem dL_law_1507 : decode cL_law 1507 = .ok (.goto 642, 3) := by decide +kernel
theorem dL_law_1510 : decode cL_law 1510 = .ok (.aload_n 1, 1) := by decide +kernel
theorem dL_law_1511 : decode cL_law 1511 = .ok (.aload_n 3, 1) := by decide +kernel
theorem dL_law_1512 : decode cL_law 1512 = .ok (.invokestatic 215, 3) := by decide +kernel
theorem dL_law_1515 : decode cL_law 1515 = .ok (.istore 6, 2) := by decide +kernel
theorem dL_law_1517 : decode cL_law 1517 = .ok (.aload_n 2, 1) := by decide +kernel
theorem dL_law_1518 : decode cL_law 1518 = .ok (.invokevirtual 217, 3) := by decide +kernel
theorem dL_law_1521 : decode cL_law 1521 = .ok (.istore 7, 2) := by decide +kernel
theorem dL_law_1523 : decode cL_law 1523 = .ok (.aload_n 2, 1) := by decide +kernel
theorem dL_law_1524 : decode cL_law 1524 = .ok (.invokevirtual 135, 3) := by decide +kernel
theorem dL_law_1527 : decode cL_law 1527 = .ok (.iload 6, 2) := by decide +kernel
theorem dL_law_1529 : decode cL_law 1529 = .ok (.if_icmp .eq 5, 3) := by decide +kernel
theorem dL_law_1532 : decode cL_law 1532 = .ok (.iconst 0, 1) := by decide +kernel
theorem dL_law_1533 : decode cL_law 1533 = .ok (.ireturn, 1) := by decide +kernel
theorem dL_law_1534 : decode cL_law 1534 = .ok (.iload 6, 2) := by decide +kernel
theorem dL_law_1536 : decode cL_law 1536 = .ok (.ifCond .ne 15, 3) := by decide +kernel
theorem dL_law_1539 : decode cL_law 1539 = .ok (.aload_n 3, 1) := by decide +kernel
theorem dL_law_1540 : decode cL_law 1540 = .ok (.iconst 0, 1) := by decide +kernel
theorem dL_law_1541 : decode cL_law 1541 = .ok (.laload, 1) := by decide +kernel
theorem dL_law_1542 : decode cL_law 1542 = .ok (.iload 7, 2) := by decide +kernel
theorem dL_law_1544 : decode cL_law 1544 = .ok (.i2l, 1) := by decide +kernel
theorem dL_law_1545 : decode cL_law 1545 = .ok (.lcmp, 1) := by decide +kernel
theorem dL_law_1546 : decode cL_law 1546 = .ok (.ifCond .eq 5, 3) := by decide +kernel
theorem dL_law_1549 : decode cL_law 1549 = .ok (.iconst 0, 1) := by decide +kernel
theorem dL_law_1550 : decode cL_law 1550 = .ok (.ireturn, 1) := by decide +kernel
theorem dL_law_1551 : decode cL_law 1551 = .ok (.goto 598, 3) := by decide +kernel
theorem dL_law_1554 : decode cL_law 1554 = .ok (.aload_n 1, 1) := by decide +kernel
theorem dL_law_1555 : decode cL_law 1555 = .ok (.aload_n 3, 1) := by decide +kernel
theorem dL_law_1556 : decode cL_law 1556 = .ok (.invokestatic 218, 3) := by decide +kernel
theorem dL_law_1559 : decode cL_law 1559 = .ok (.istore 6, 2) := by decide +kernel
theorem dL_law_1561 : decode cL_law 1561 = .ok (.aload_n 2, 1) := by decide +kernel
theorem dL_law_1562 : decode cL_law 1562 = .ok (.invokevirtual 220, 3) := by decide +kernel
theorem dL_law_1565 : decode cL_law 1565 = .ok (.istore 7, 2) := by decide +kernel
theorem dL_law_1567 : decode cL_law 1567 = .ok (.aload_n 2, 1) := by decide +kernel
theorem dL_law_1568 : decode cL_law 1568 = .ok (.invokevirtual 135, 3) := by decide +kernel
theorem dL_law_1571 : decode cL_law 1571 = .ok (.iload 6, 2) := by decide +kernel
theorem dL_law_1573 : decode cL_law 1573 = .ok (.if_icmp .eq 5, 3) := by decide +kernel
theorem dL_law_1576 : decode cL_law 1576 = .ok (.iconst 0, 1) := by decide +kernel
theorem dL_law_1577 : decode cL_law 1577 = .ok (.ireturn, 1) := by decide +kernel
theorem dL_law_1578 : decode cL_law 1578 = .ok (.iload 6, 2) := by decide +kernel
theorem dL_law_1580 : decode cL_law 1580 = .ok (.ifCond .ne 15, 3) := by decide +kernel
theorem dL_law_1583 : decode cL_law 1583 = .ok (.aload_n 3, 1) := by decide +kernel
theorem dL_law_1584 : decode cL_law 1584 = .ok (.iconst 0, 1) := by decide +kernel
theorem dL_law_1585 : decode cL_law 1585 = .ok (.laload, 1) := by decide +kernel
theorem dL_law_1586 : decode cL_law 1586 = .ok (.iload 7, 2) := by decide +kernel
theorem dL_law_1588 : decode cL_law 1588 = .ok (.i2l, 1) := by decide +kernel
theorem dL_law_1589 : decode cL_law 1589 = .ok (.lcmp, 1) := by decide +kernel
theorem dL_law_1590 : decode cL_law 1590 = .ok (.ifCond .eq 5, 3) := by decide +kernel
theorem dL_law_1593 : decode cL_law 1593 = .ok (.iconst 0, 1) := by decide +kernel
theorem dL_law_1594 : decode cL_law 1594 = .ok (.ireturn, 1) := by decide +kernel
theorem dL_law_1595 : decode cL_law 1595 = .ok (.goto 554, 3) := by decide +kernel
theorem dL_law_1598 : decode cL_law 1598 = .ok (.aload_n 1, 1) := by decide +kernel
theorem dL_law_1599 : decode cL_law 1599 = .ok (.invokevirtual 221, 3) := by decide +kernel
theorem dL_law_1602 : decode cL_law 1602 = .ok (.aload_n 2, 1) := by decide +kernel
theorem dL_law_1603 : decode cL_law 1603 = .ok (.invokevirtual 224, 3) := by decide +kernel
theorem dL_law_1606 : decode cL_law 1606 = .ok (.if_icmp .eq 543, 3) := by decide +kernel
theorem dL_law_1609 : decode cL_law 1609 = .ok (.iconst 0, 1) := by decide +kernel
theorem dL_law_1610 : decode cL_law 1610 = .ok (.ireturn, 1) := by decide +kernel
theorem dL_law_1611 : decode cL_law 1611 = .ok (.aload_n 1, 1) := by decide +kernel
theorem dL_law_1612 : decode cL_law 1612 = .ok (.aload_n 0, 1) := by decide +kernel
theorem dL_law_1613 : decode cL_law 1613 = .ok (.iload 5, 2) := by decide +kernel
theorem dL_law_1615 : decode cL_law 1615 = .ok (.iconst 1, 1) := by decide +kernel
theorem dL_law_1616 : decode cL_law 1616 = .ok (.iadd, 1) := by decide +kernel
theorem dL_law_1617 : decode cL_law 1617 = .ok (.iaload, 1) := by decide +kernel
theorem dL_law_1618 : decode cL_law 1618 = .ok (.aload_n 0, 1) := by decide +kernel
theorem dL_law_1619 : decode cL_law 1619 = .ok (.iload 5, 2) := by decide +kernel
theorem dL_law_1621 : decode cL_law 1621 = .ok (.iconst 2, 1) := by decide +kernel
theorem dL_law_1622 : decode cL_law 1622 = .ok (.iadd, 1) := by decide +kernel
theorem dL_law_1623 : decode cL_law 1623 = .ok (.iaload, 1) := by decide +kernel
theorem dL_law_1624 : decode cL_law 1624 = .ok (.aload_n 3, 1) := by decide +kernel
theorem dL_law_1625 : decode cL_law 1625 = .ok (.invokestatic 225, 3) := by decide +kernel
theorem dL_law_1628 : decode cL_law 1628 = .ok (.istore 6, 2) := by decide +kernel
theorem dL_law_1630 : decode cL_law 1630 = .ok (.aload_n 2, 1) := by decide +kernel
theorem dL_law_1631 : decode cL_law 1631 = .ok (.aload_n 0, 1) := by decide +kernel
theorem dL_law_1632 : decode cL_law 1632 = .ok (.iload 5, 2) := by decide +kernel
theorem dL_law_1634 : decode cL_law 1634 = .ok (.iconst 1, 1) := by decide +kernel
theorem dL_law_1635 : decode cL_law 1635 = .ok (.iadd, 1) := by decide +kernel
theorem dL_law_1636 : decode cL_law 1636 = .ok (.iaload, 1) := by decide +kernel
theorem dL_law_1637 : decode cL_law 1637 = .ok (.aload_n 0, 1) := by decide +kernel
theorem dL_law_1638 : decode cL_law 1638 = .ok (.iload 5, 2) := by decide +kernel
theorem dL_law_1640 : decode cL_law 1640 = .ok (.iconst 2, 1) := by decide +kernel
theorem dL_law_1641 : decode cL_law 1641 = .ok (.iadd, 1) := by decide +kernel
theorem dL_law_1642 : decode cL_law 1642 = .ok (.iaload, 1) := by decide +kernel
theorem dL_law_1643 : decode cL_law 1643 = .ok (.invokevirtual 227, 3) := by decide +kernel
theorem dL_law_1646 : decode cL_law 1646 = .ok (.istore 7, 2) := by decide +kernel
theorem dL_law_1648 : decode cL_law 1648 = .ok (.aload_n 2, 1) := by decide +kernel
theorem dL_law_1649 : decode cL_law 1649 = .ok (.invokevirtual 135, 3) := by decide +kernel
theorem dL_law_1652 : decode cL_law 1652 = .ok (.iload 6, 2) := by decide +kernel
theorem dL_law_1654 : decode cL_law 1654 = .ok (.if_icmp .eq 5, 3) := by decide +kernel
theorem dL_law_1657 : decode cL_law 1657 = .ok (.iconst 0, 1) := by decide +kernel
theorem dL_law_1658 : decode cL_law 1658 = .ok (.ireturn, 1) := by decide +kernel
theorem dL_law_1659 : decode cL_law 1659 = .ok (.iload 6, 2) := by decide +kernel
theorem dL_law_1661 : decode cL_law 1661 = .ok (.ifCond .ne 15, 3) := by decide +kernel
theorem dL_law_1664 : decode cL_law 1664 = .ok (.aload_n 3, 1) := by decide +kernel
theorem dL_law_1665 : decode cL_law 1665 = .ok (.iconst 0, 1) := by decide +kernel
theorem dL_law_1666 : decode cL_law 1666 = .ok (.laload, 1) := by decide +kernel
theorem dL_law_1667 : decode cL_law 1667 = .ok (.iload 7, 2) := by decide +kernel
theorem dL_law_1669 : decode cL_law 1669 = .ok (.i2l, 1) := by decide +kernel
theorem dL_law_1670 : decode cL_law 1670 = .ok (.lcmp, 1) := by decide +kernel
theorem dL_law_1671 : decode cL_law 1671 = .ok (.ifCond .eq 5, 3) := by decide +kernel
theorem dL_law_1674 : decode cL_law 1674 = .ok (.iconst 0, 1) := by decide +kernel
theorem dL_law_1675 : decode cL_law 1675 = .ok (.ireturn, 1) := by decide +kernel
theorem dL_law_1676 : decode cL_law 1676 = .ok (.goto 473, 3) := by decide +kernel
theorem dL_law_1679 : decode cL_law 1679 = .ok (.aload_n 1, 1) := by decide +kernel
theorem dL_law_1680 : decode cL_law 1680 = .ok (.invokevirtual 228, 3) := by decide +kernel
theorem dL_law_1683 : decode cL_law 1683 = .ok (.aload_n 2, 1) := by decide +kernel
theorem dL_law_1684 : decode cL_law 1684 = .ok (.invokevirtual 231, 3) := by decide +kernel
theorem dL_law_1687 : decode cL_law 1687 = .ok (.if_icmp .eq 462, 3) := by decide +kernel
theorem dL_law_1690 : decode cL_law 1690 = .ok (.iconst 0, 1) := by decide +kernel
theorem dL_law_1691 : decode cL_law 1691 = .ok (.ireturn, 1) := by decide +kernel
theorem dL_law_1692 : decode cL_law 1692 = .ok (.aload_n 1, 1) := by decide +kernel
theorem dL_law_1693 : decode cL_law 1693 = .ok (.aload_n 3, 1) := by decide +kernel
theorem dL_law_1694 : decode cL_law 1694 = .ok (.invokestatic 232, 3) := by decide +kernel
theorem dL_law_1697 : decode cL_law 1697 = .ok (.istore 6, 2) := by decide +kernel
theorem dL_law_1699 : decode cL_law 1699 = .ok (.aload_n 2, 1) := by decide +kernel
theorem dL_law_1700 : decode cL_law 1700 = .ok (.invokevirtual 234, 3) := by decide +kernel
theorem dL_law_1703 : decode cL_law 1703 = .ok (.istore 7, 2) := by decide +kernel
theorem dL_law_1705 : decode cL_law 1705 = .ok (.aload_n 2, 1) := by decide +kernel
theorem dL_law_1706 : decode cL_law 1706 = .ok (.invokevirtual 135, 3) := by decide +kernel
theorem dL_law_1709 : decode cL_law 1709 = .ok (.iload 6, 2) := by decide +kernel
theorem dL_law_1711 : decode cL_law 1711 = .ok (.if_icmp .eq 5, 3) := by decide +kernel
theorem dL_law_1714 : decode cL_law 1714 = .ok (.iconst 0, 1) := by decide +kernel
theorem dL_law_1715 : decode cL_law 1715 = .ok (.ireturn, 1) := by decide +kernel
theorem dL_law_1716 : decode cL_law 1716 = .ok (.iload 6, 2) := by decide +kernel
theorem dL_law_1718 : decode cL_law 1718 = .ok (.ifCond .ne 15, 3) := by decide +kernel
theorem dL_law_1721 : decode cL_law 1721 = .ok (.aload_n 3, 1) := by decide +kernel
theorem dL_law_1722 : decode cL_law 1722 = .ok (.iconst 0, 1) := by decide +kernel
theorem dL_law_1723 : decode cL_law 1723 = .ok (.laload, 1) := by decide +kernel
theorem dL_law_1724 : decode cL_law 1724 = .ok (.iload 7, 2) := by decide +kernel
theorem dL_law_1726 : decode cL_law 1726 = .ok (.i2l, 1) := by decide +kernel
theorem dL_law_1727 : decode cL_law 1727 = .ok (.lcmp, 1) := by decide +kernel
theorem dL_law_1728 : decode cL_law 1728 = .ok (.ifCond .eq 5, 3) := by decide +kernel
theorem dL_law_1731 : decode cL_law 1731 = .ok (.iconst 0, 1) := by decide +kernel
theorem dL_law_1732 : decode cL_law 1732 = .ok (.ireturn, 1) := by decide +kernel
theorem dL_law_1733 : decode cL_law 1733 = .ok (.goto 416, 3) := by decide +kernel
theorem dL_law_1736 : decode cL_law 1736 = .ok (.aload_n 1, 1) := by decide +kernel
theorem dL_law_1737 : decode cL_law 1737 = .ok (.aload_n 3, 1) := by decide +kernel
theorem dL_law_1738 : decode cL_law 1738 = .ok (.invokestatic 235, 3) := by decide +kernel
theorem dL_law_1741 : decode cL_law 1741 = .ok (.istore 6, 2) := by decide +kernel
theorem dL_law_1743 : decode cL_law 1743 = .ok (.aload_n 2, 1) := by decide +kernel
theorem dL_law_1744 : decode cL_law 1744 = .ok (.invokevirtual 237, 3) := by decide +kernel
theorem dL_law_1747 : decode cL_law 1747 = .ok (.istore 7, 2) := by decide +kernel
theorem dL_law_1749 : decode cL_law 1749 = .ok (.aload_n 2, 1) := by decide +kernel
theorem dL_law_1750 : decode cL_law 1750 = .ok (.invokevirtual 135, 3) := by decide +kernel
theorem dL_law_1753 : decode cL_law 1753 = .ok (.iload 6, 2) := by decide +kernel
theorem dL_law_1755 : decode cL_law 1755 = .ok (.if_icmp .eq 5, 3) := by decide +kernel
theorem dL_law_1758 : decode cL_law 1758 = .ok (.iconst 0, 1) := by decide +kernel
theorem dL_law_1759 : decode cL_law 1759 = .ok (.ireturn, 1) := by decide +kernel
theorem dL_law_1760 : decode cL_law 1760 = .ok (.iload 6, 2) := by decide +kernel
theorem dL_law_1762 : decode cL_law 1762 = .ok (.ifCond .ne 22, 3) := by decide +kernel
theorem dL_law_1765 : decode cL_law 1765 = .ok (.aload_n 3, 1) := by decide +kernel
theorem dL_law_1766 : decode cL_law 1766 = .ok (.iconst 0, 1) := by decide +kernel
theorem dL_law_1767 : decode cL_law 1767 = .ok (.laload, 1) := by decide +kernel
theorem dL_law_1768 : decode cL_law 1768 = .ok (.iload 7, 2) := by decide +kernel
theorem dL_law_1770 : decode cL_law 1770 = .ok (.ifCond .eq 7, 3) := by decide +kernel
theorem dL_law_1773 : decode cL_law 1773 = .ok (.lconst 1, 1) := by decide +kernel
theorem dL_law_1774 : decode cL_law 1774 = .ok (.goto 4, 3) := by decide +kernel
theorem dL_law_1777 : decode cL_law 1777 = .ok (.lconst 0, 1) := by decide +kernel
theorem dL_law_1778 : decode cL_law 1778 = .ok (.lcmp, 1) := by decide +kernel
theorem dL_law_1779 : decode cL_law 1779 = .ok (.ifCond .eq 5, 3) := by decide +kernel
theorem dL_law_1782 : decode cL_law 1782 = .ok (.iconst 0, 1) := by decide +kernel
theorem dL_law_1783 : decode cL_law 1783 = .ok (.ireturn, 1) := by decide +kernel
theorem dL_law_1784 : decode cL_law 1784 = .ok (.goto 365, 3) := by decide +kernel
theorem dL_law_1787 : decode cL_law 1787 = .ok (.aload_n 1, 1) := by decide +kernel
theorem dL_law_1788 : decode cL_law 1788 = .ok (.aload_n 0, 1) := by decide +kernel
theorem dL_law_1789 : decode cL_law 1789 = .ok (.iload 5, 2) := by decide +kernel
theorem dL_law_1791 : decode cL_law 1791 = .ok (.iconst 1, 1) := by decide +kernel
theorem dL_law_1792 : decode cL_law 1792 = .ok (.iadd, 1) := by decide +kernel
theorem dL_law_1793 : decode cL_law 1793 = .ok (.iaload, 1) := by decide +kernel
theorem dL_law_1794 : decode cL_law 1794 = .ok (.aload 4, 2) := by decide +kernel
theorem dL_law_1796 : decode cL_law 1796 = .ok (.invokestatic 238, 3) := by decide +kernel
theorem dL_law_1799 : decode cL_law 1799 = .ok (.istore 6, 2) := by decide +kernel
theorem dL_law_1801 : decode cL_law 1801 = .ok (.aload_n 2, 1) := by decide +kernel
theorem dL_law_1802 : decode cL_law 1802 = .ok (.aload_n 0, 1) := by decide +kernel
theorem dL_law_1803 : decode cL_law 1803 = .ok (.iload 5, 2) := by decide +kernel
theorem dL_law_1805 : decode cL_law 1805 = .ok (.iconst 1, 1) := by decide +kernel
theorem dL_law_1806 : decode cL_law 1806 = .ok (.iadd, 1) := by decide +kernel
theorem dL_law_1807 : decode cL_law 1807 = .ok (.iaload, 1) := by decide +kernel
theorem dL_law_1808 : decode cL_law 1808 = .ok (.invokevirtual 241, 3) := by decide +kernel
theorem dL_law_1811 : decode cL_law 1811 = .ok (.fstore 7, 2) := by decide +kernel
theorem dL_law_1813 : decode cL_law 1813 = .ok (.aload_n 2, 1) := by decide +kernel
theorem dL_law_1814 : decode cL_law 1814 = .ok (.invokevirtual 135, 3) := by decide +kernel
theorem dL_law_1817 : decode cL_law 1817 = .ok (.iload 6, 2) := by decide +kernel
theorem dL_law_1819 : decode cL_law 1819 = .ok (.if_icmp .eq 5, 3) := by decide +kernel
theorem dL_law_1822 : decode cL_law 1822 = .ok (.iconst 0, 1) := by decide +kernel
theorem dL_law_1823 : decode cL_law 1823 = .ok (.ireturn, 1) := by decide +kernel
theorem dL_law_1824 : decode cL_law 1824 = .ok (.iload 6, 2) := by decide +kernel
theorem dL_law_1826 : decode cL_law 1826 = .ok (.ifCond .ne 36, 3) := by decide +kernel
theorem dL_law_1829 : decode cL_law 1829 = .ok (.aload 4, 2) := by decide +kernel
theorem dL_law_1831 : decode cL_law 1831 = .ok (.iconst 0, 1) := by decide +kernel
theorem dL_law_1832 : decode cL_law 1832 = .ok (.daload, 1) := by decide +kernel
theorem dL_law_1833 : decode cL_law 1833 = .ok (.fload 7, 2) := by decide +kernel
theorem dL_law_1835 : decode cL_law 1835 = .ok (.f2d, 1) := by decide +kernel
theorem dL_law_1836 : decode cL_law 1836 = .ok (.dcmp .l, 1) := by decide +kernel
theorem dL_law_1837 : decode cL_law 1837 = .ok (.ifCond .eq 25, 3) := by decide +kernel
theorem dL_law_1840 : decode cL_law 1840 = .ok (.aload 4, 2) := by decide +kernel
theorem dL_law_1842 : decode cL_law 1842 = .ok (.iconst 0, 1) := by decide +kernel
theorem dL_law_1843 : decode cL_law 1843 = .ok (.daload, 1) := by decide +kernel
theorem dL_law_1844 : decode cL_law 1844 = .ok (.aload 4, 2) := by decide +kernel
theorem dL_law_1846 : decode cL_law 1846 = .ok (.iconst 0, 1) := by decide +kernel
theorem dL_law_1847 : decode cL_law 1847 = .ok (.daload, 1) := by decide +kernel
theorem dL_law_1848 : decode cL_law 1848 = .ok (.dcmp .l, 1) := by decide +kernel
theorem dL_law_1849 : decode cL_law 1849 = .ok (.ifCond .eq 11, 3) := by decide +kernel
theorem dL_law_1852 : decode cL_law 1852 = .ok (.fload 7, 2) := by decide +kernel
theorem dL_law_1854 : decode cL_law 1854 = .ok (.fload 7, 2) := by decide +kernel
theorem dL_law_1856 : decode cL_law 1856 = .ok (.fcmp .l, 1) := by decide +kernel
theorem dL_law_1857 : decode cL_law 1857 = .ok (.ifCond .ne 5, 3) := by decide +kernel
theorem dL_law_1860 : decode cL_law 1860 = .ok (.iconst 0, 1) := by decide +kernel
theorem dL_law_1861 : decode cL_law 1861 = .ok (.ireturn, 1) := by decide +kernel
theorem dL_law_1862 : decode cL_law 1862 = .ok (.goto 287, 3) := by decide +kernel
theorem dL_law_1865 : decode cL_law 1865 = .ok (.aload_n 1, 1) := by decide +kernel
theorem dL_law_1866 : decode cL_law 1866 = .ok (.aload_n 0, 1) := by decide +kernel
theorem dL_law_1867 : decode cL_law 1867 = .ok (.iload 5, 2) := by decide +kernel
theorem dL_law_1869 : decode cL_law 1869 = .ok (.iconst 1, 1) := by decide +kernel
theorem dL_law_1870 : decode cL_law 1870 = .ok (.iadd, 1) := by decide +kernel
theorem dL_law_1871 : decode cL_law 1871 = .ok (.iaload, 1) := by decide +kernel
theorem dL_law_1872 : decode cL_law 1872 = .ok (.aload_n 0, 1) := by decide +kernel
theorem dL_law_1873 : decode cL_law 1873 = .ok (.iload 5, 2) := by decide +kernel
theorem dL_law_1875 : decode cL_law 1875 = .ok (.iconst 2, 1) := by decide +kernel
theorem dL_law_1876 : decode cL_law 1876 = .ok (.iadd, 1) := by decide +kernel
theorem dL_law_1877 : decode cL_law 1877 = .ok (.iaload, 1) := by decide +kernel
theorem dL_law_1878 : decode cL_law 1878 = .ok (.ifCond .eq 7, 3) := by decide +kernel
theorem dL_law_1881 : decode cL_law 1881 = .ok (.iconst 1, 1) := by decide +kernel
theorem dL_law_1882 : decode cL_law 1882 = .ok (.goto 4, 3) := by decide +kernel
theorem dL_law_1885 : decode cL_law 1885 = .ok (.iconst 0, 1) := by decide +kernel
theorem dL_law_1886 : decode cL_law 1886 = .ok (.aload_n 3, 1) := by decide +kernel
theorem dL_law_1887 : decode cL_law 1887 = .ok (.invokestatic 242, 3) := by decide +kernel
theorem dL_law_1890 : decode cL_law 1890 = .ok (.istore 6, 2) := by decide +kernel
theorem dL_law_1892 : decode cL_law 1892 = .ok (.aload_n 2, 1) := by decide +kernel
theorem dL_law_1893 : decode cL_law 1893 = .ok (.aload_n 0, 1) := by decide +kernel
theorem dL_law_1894 : decode cL_law 1894 = .ok (.iload 5, 2) := by decide +kernel
theorem dL_law_1896 : decode cL_law 1896 = .ok (.iconst 1, 1) := by decide +kernel
theorem dL_law_1897 : decode cL_law 1897 = .ok (.iadd, 1) := by decide +kernel
theorem dL_law_1898 : decode cL_law 1898 = .ok (.iaload, 1) := by decide +kernel
theorem dL_law_1899 : decode cL_law 1899 = .ok (.aload_n 0, 1) := by decide +kernel
theorem dL_law_1900 : decode cL_law 1900 = .ok (.iload 5, 2) := by decide +kernel
theorem dL_law_1902 : decode cL_law 1902 = .ok (.iconst 2, 1) := by decide +kernel
theorem dL_law_1903 : decode cL_law 1903 = .ok (.iadd, 1) := by decide +kernel
theorem dL_law_1904 : decode cL_law 1904 = .ok (.iaload, 1) := by decide +kernel
theorem dL_law_1905 : decode cL_law 1905 = .ok (.ifCond .eq 7, 3) := by decide +kernel
theorem dL_law_1908 : decode cL_law 1908 = .ok (.iconst 1, 1) := by decide +kernel
theorem dL_law_1909 : decode cL_law 1909 = .ok (.goto 4, 3) := by decide +kernel
theorem dL_law_1912 : decode cL_law 1912 = .ok (.iconst 0, 1) := by decide +kernel
theorem dL_law_1913 : decode cL_law 1913 = .ok (.invokevirtual 245, 3) := by decide +kernel
theorem dL_law_1916 : decode cL_law 1916 = .ok (.istore 7, 2) := by decide +kernel
theorem dL_law_1918 : decode cL_law 1918 = .ok (.aload_n 2, 1) := by decide +kernel
theorem dL_law_1919 : decode cL_law 1919 = .ok (.invokevirtual 135, 3) := by decide +kernel
theorem dL_law_1922 : decode cL_law 1922 = .ok (.iload 6, 2) := by decide +kernel
theorem dL_law_1924 : decode cL_law 1924 = .ok (.if_icmp .eq 5, 3) := by decide +kernel
theorem dL_law_1927 : decode cL_law 1927 = .ok (.iconst 0, 1) := by decide +kernel
theorem dL_law_1928 : decode cL_law 1928 = .ok (.ireturn, 1) := by decide +kernel
theorem dL_law_1929 : decode cL_law 1929 = .ok (.iload 6, 2) := by decide +kernel
theorem dL_law_1931 : decode cL_law 1931 = .ok (.ifCond .ne 15, 3) := by decide +kernel
theorem dL_law_1934 : decode cL_law 1934 = .ok (.aload_n 3, 1) := by decide +kernel
theorem dL_law_1935 : decode cL_law 1935 = .ok (.iconst 0, 1) := by decide +kernel
theorem dL_law_1936 : decode cL_law 1936 = .ok (.laload, 1) := by decide +kernel
theorem dL_law_1937 : decode cL_law 1937 = .ok (.iload 7, 2) := by decide +kernel
theorem dL_law_1939 : decode cL_law 1939 = .ok (.i2l, 1) := by decide +kernel
theorem dL_law_1940 : decode cL_law 1940 = .ok (.lcmp, 1) := by decide +kernel
theorem dL_law_1941 : decode cL_law 1941 = .ok (.ifCond .eq 5, 3) := by decide +kernel
theorem dL_law_1944 : decode cL_law 1944 = .ok (.iconst 0, 1) := by decide +kernel
theorem dL_law_1945 : decode cL_law 1945 = .ok (.ireturn, 1) := by decide +kernel
theorem dL_law_1946 : decode cL_law 1946 = .ok (.goto 203, 3) := by decide +kernel
theorem dL_law_1949 : decode cL_law 1949 = .ok (.aload_n 1, 1) := by decide +kernel
theorem dL_law_1950 : decode cL_law 1950 = .ok (.aload_n 0, 1) := by decide +kernel
theorem dL_law_1951 : decode cL_law 1951 = .ok (.iload 5, 2) := by decide +kernel
theorem dL_law_1953 : decode cL_law 1953 = .ok (.iconst 1, 1) := by decide +kernel
theorem dL_law_1954 : decode cL_law 1954 = .ok (.iadd, 1) := by decide +kernel
theorem dL_law_1955 : decode cL_law 1955 = .ok (.iaload, 1) := by decide +kernel
theorem dL_law_1956 : decode cL_law 1956 = .ok (.aload_n 0, 1) := by decide +kernel
theorem dL_law_1957 : decode cL_law 1957 = .ok (.iload 5, 2) := by decide +kernel
theorem dL_law_1959 : decode cL_law 1959 = .ok (.iconst 2, 1) := by decide +kernel
theorem dL_law_1960 : decode cL_law 1960 = .ok (.iadd, 1) := by decide +kernel
theorem dL_law_1961 : decode cL_law 1961 = .ok (.iaload, 1) := by decide +kernel
theorem dL_law_1962 : decode cL_law 1962 = .ok (.aload_n 3, 1) := by decide +kernel
theorem dL_law_1963 : decode cL_law 1963 = .ok (.invokestatic 246, 3) := by decide +kernel
theorem dL_law_1966 : decode cL_law 1966 = .ok (.istore 6, 2) := by decide +kernel
theorem dL_law_1968 : decode cL_law 1968 = .ok (.aload_n 2, 1) := by decide +kernel
theorem dL_law_1969 : decode cL_law 1969 = .ok (.aload_n 0, 1) := by decide +kernel
theorem dL_law_1970 : decode cL_law 1970 = .ok (.iload 5, 2) := by decide +kernel
theorem dL_law_1972 : decode cL_law 1972 = .ok (.iconst 1, 1) := by decide +kernel
theorem dL_law_1973 : decode cL_law 1973 = .ok (.iadd, 1) := by decide +kernel
theorem dL_law_1974 : decode cL_law 1974 = .ok (.iaload, 1) := by decide +kernel
theorem dL_law_1975 : decode cL_law 1975 = .ok (.aload_n 0, 1) := by decide +kernel
theorem dL_law_1976 : decode cL_law 1976 = .ok (.iload 5, 2) := by decide +kernel
theorem dL_law_1978 : decode cL_law 1978 = .ok (.iconst 2, 1) := by decide +kernel
theorem dL_law_1979 : decode cL_law 1979 = .ok (.iadd, 1) := by decide +kernel
theorem dL_law_1980 : decode cL_law 1980 = .ok (.iaload, 1) := by decide +kernel
theorem dL_law_1981 : decode cL_law 1981 = .ok (.invokevirtual 248, 3) := by decide +kernel
theorem dL_law_1984 : decode cL_law 1984 = .ok (.istore 7, 2) := by decide +kernel
theorem dL_law_1986 : decode cL_law 1986 = .ok (.aload_n 2, 1) := by decide +kernel
theorem dL_law_1987 : decode cL_law 1987 = .ok (.invokevirtual 135, 3) := by decide +kernel
theorem dL_law_1990 : decode cL_law 1990 = .ok (.iload 6, 2) := by decide +kernel
theorem dL_law_1992 : decode cL_law 1992 = .ok (.if_icmp .eq 5, 3) := by decide +kernel
theorem dL_law_1995 : decode cL_law 1995 = .ok (.iconst 0, 1) := by decide +kernel
theorem dL_law_1996 : decode cL_law 1996 = .ok (.ireturn, 1) := by decide +kernel
theorem dL_law_1997 : decode cL_law 1997 = .ok (.iload 6, 2) := by decide +kernel
theorem dL_law_1999 : decode cL_law 1999 = .ok (.ifCond .ne 22, 3) := by decide +kernel
theorem dL_law_2002 : decode cL_law 2002 = .ok (.aload_n 3, 1) := by decide +kernel
theorem dL_law_2003 : decode cL_law 2003 = .ok (.iconst 0, 1) := by decide +kernel
theorem dL_law_2004 : decode cL_law 2004 = .ok (.laload, 1) := by decide +kernel
theorem dL_law_2005 : decode cL_law 2005 = .ok (.iload 7, 2) := by decide +kernel
theorem dL_law_2007 : decode cL_law 2007 = .ok (.ifCond .eq 7, 3) := by decide +kernel
theorem dL_law_2010 : decode cL_law 2010 = .ok (.lconst 1, 1) := by decide +kernel
theorem dL_law_2011 : decode cL_law 2011 = .ok (.goto 4, 3) := by decide +kernel
theorem dL_law_2014 : decode cL_law 2014 = .ok (.lconst 0, 1) := by decide +kernel
theorem dL_law_2015 : decode cL_law 2015 = .ok (.lcmp, 1) := by decide +kernel
theorem dL_law_2016 : decode cL_law 2016 = .ok (.ifCond .eq 5, 3) := by decide +kernel
theorem dL_law_2019 : decode cL_law 2019 = .ok (.iconst 0, 1) := by decide +kernel
theorem dL_law_2020 : decode cL_law 2020 = .ok (.ireturn, 1) := by decide +kernel
theorem dL_law_2021 : decode cL_law 2021 = .ok (.goto 128, 3) := by decide +kernel
theorem dL_law_2024 : decode cL_law 2024 = .ok (.aload_n 1, 1) := by decide +kernel
theorem dL_law_2025 : decode cL_law 2025 = .ok (.aload_n 0, 1) := by decide +kernel
theorem dL_law_2026 : decode cL_law 2026 = .ok (.iload 5, 2) := by decide +kernel
theorem dL_law_2028 : decode cL_law 2028 = .ok (.iconst 1, 1) := by decide +kernel
theorem dL_law_2029 : decode cL_law 2029 = .ok (.iadd, 1) := by decide +kernel
theorem dL_law_2030 : decode cL_law 2030 = .ok (.iaload, 1) := by decide +kernel
theorem dL_law_2031 : decode cL_law 2031 = .ok (.aload_n 0, 1) := by decide +kernel
theorem dL_law_2032 : decode cL_law 2032 = .ok (.iload 5, 2) := by decide +kernel
theorem dL_law_2034 : decode cL_law 2034 = .ok (.iconst 2, 1) := by decide +kernel
theorem dL_law_2035 : decode cL_law 2035 = .ok (.iadd, 1) := by decide +kernel
theorem dL_law_2036 : decode cL_law 2036 = .ok (.iaload, 1) := by decide +kernel
theorem dL_law_2037 : decode cL_law 2037 = .ok (.aload_n 3, 1) := by decide +kernel
theorem dL_law_2038 : decode cL_law 2038 = .ok (.invokestatic 249, 3) := by decide +kernel
theorem dL_law_2041 : decode cL_law 2041 = .ok (.istore 6, 2) := by decide +kernel
theorem dL_law_2043 : decode cL_law 2043 = .ok (.aload_n 2, 1) := by decide +kernel
theorem dL_law_2044 : decode cL_law 2044 = .ok (.aload_n 0, 1) := by decide +kernel
theorem dL_law_2045 : decode cL_law 2045 = .ok (.iload 5, 2) := by decide +kernel
theorem dL_law_2047 : decode cL_law 2047 = .ok (.iconst 1, 1) := by decide +kernel
theorem dL_law_2048 : decode cL_law 2048 = .ok (.iadd, 1) := by decide +kernel
theorem dL_law_2049 : decode cL_law 2049 = .ok (.iaload, 1) := by decide +kernel
theorem dL_law_2050 : decode cL_law 2050 = .ok (.aload_n 0, 1) := by decide +kernel
theorem dL_law_2051 : decode cL_law 2051 = .ok (.iload 5, 2) := by decide +kernel
theorem dL_law_2053 : decode cL_law 2053 = .ok (.iconst 2, 1) := by decide +kernel
theorem dL_law_2054 : decode cL_law 2054 = .ok (.iadd, 1) := by decide +kernel
theorem dL_law_2055 : decode cL_law 2055 = .ok (.iaload, 1) := by decide +kernel
theorem dL_law_2056 : decode cL_law 2056 = .ok (.invokevirtual 251, 3) := by decide +kernel
theorem dL_law_2059 : decode cL_law 2059 = .ok (.istore 7, 2) := by decide +kernel
theorem dL_law_2061 : decode cL_law 2061 = .ok (.aload_n 2, 1) := by decide +kernel
theorem dL_law_2062 : decode cL_law 2062 = .ok (.invokevirtual 135, 3) := by decide +kernel
theorem dL_law_2065 : decode cL_law 2065 = .ok (.iload 6, 2) := by decide +kernel
theorem dL_law_2067 : decode cL_law 2067 = .ok (.if_icmp .eq 5, 3) := by decide +kernel
theorem dL_law_2070 : decode cL_law 2070 = .ok (.iconst 0, 1) := by decide +kernel
theorem dL_law_2071 : decode cL_law 2071 = .ok (.ireturn, 1) := by decide +kernel
theorem dL_law_2072 : decode cL_law 2072 = .ok (.iload 6, 2) := by decide +kernel
theorem dL_law_2074 : decode cL_law 2074 = .ok (.ifCond .ne 15, 3) := by decide +kernel
theorem dL_law_2077 : decode cL_law 2077 = .ok (.aload_n 3, 1) := by decide +kernel
theorem dL_law_2078 : decode cL_law 2078 = .ok (.iconst 0, 1) := by decide +kernel
theorem dL_law_2079 : decode cL_law 2079 = .ok (.laload, 1) := by decide +kernel
theorem dL_law_2080 : decode cL_law 2080 = .ok (.iload 7, 2) := by decide +kernel
theorem dL_law_2082 : decode cL_law 2082 = .ok (.i2l, 1) := by decide +kernel
theorem dL_law_2083 : decode cL_law 2083 = .ok (.lcmp, 1) := by decide +kernel
theorem dL_law_2084 : decode cL_law 2084 = .ok (.ifCond .eq 5, 3) := by decide +kernel
theorem dL_law_2087 : decode cL_law 2087 = .ok (.iconst 0, 1) := by decide +kernel
theorem dL_law_2088 : decode cL_law 2088 = .ok (.ireturn, 1) := by decide +kernel
theorem dL_law_2089 : decode cL_law 2089 = .ok (.goto 60, 3) := by decide +kernel
theorem dL_law_2092 : decode cL_law 2092 = .ok (.aload_n 1, 1) := by decide +kernel
theorem dL_law_2093 : decode cL_law 2093 = .ok (.invokevirtual 252, 3) := by decide +kernel
theorem dL_law_2096 : decode cL_law 2096 = .ok (.aload_n 2, 1) := by decide +kernel
theorem dL_law_2097 : decode cL_law 2097 = .ok (.invokevirtual 255, 3) := by decide +kernel
theorem dL_law_2100 : decode cL_law 2100 = .ok (.if_icmp .eq 49, 3) := by decide +kernel
theorem dL_law_2103 : decode cL_law 2103 = .ok (.iconst 0, 1) := by decide +kernel
theorem dL_law_2104 : decode cL_law 2104 = .ok (.ireturn, 1) := by decide +kernel
theorem dL_law_2105 : decode cL_law 2105 = .ok (.aload_n 1, 1) := by decide +kernel
theorem dL_law_2106 : decode cL_law 2106 = .ok (.aload_n 3, 1) := by decide +kernel
theorem dL_law_2107 : decode cL_law 2107 = .ok (.invokestatic 256, 3) := by decide +kernel
theorem dL_law_2110 : decode cL_law 2110 = .ok (.istore 6, 2) := by decide +kernel
theorem dL_law_2112 : decode cL_law 2112 = .ok (.aload_n 2, 1) := by decide +kernel
theorem dL_law_2113 : decode cL_law 2113 = .ok (.invokevirtual 258, 3) := by decide +kernel
theorem dL_law_2116 : decode cL_law 2116 = .ok (.istore 7, 2) := by decide +kernel
theorem dL_law_2118 : decode cL_law 2118 = .ok (.aload_n 2, 1) := by decide +kernel
theorem dL_law_2119 : decode cL_law 2119 = .ok (.invokevirtual 135, 3) := by decide +kernel
theorem dL_law_2122 : decode cL_law 2122 = .ok (.iload 6, 2) := by decide +kernel
theorem dL_law_2124 : decode cL_law 2124 = .ok (.if_icmp .eq 5, 3) := by decide +kernel
theorem dL_law_2127 : decode cL_law 2127 = .ok (.iconst 0, 1) := by decide +kernel
theorem dL_law_2128 : decode cL_law 2128 = .ok (.ireturn, 1) := by decide +kernel
theorem dL_law_2129 : decode cL_law 2129 = .ok (.iload 6, 2) := by decide +kernel
theorem dL_law_2131 : decode cL_law 2131 = .ok (.ifCond .ne 15, 3) := by decide +kernel
theorem dL_law_2134 : decode cL_law 2134 = .ok (.aload_n 3, 1) := by decide +kernel
theorem dL_law_2135 : decode cL_law 2135 = .ok (.iconst 0, 1) := by decide +kernel
theorem dL_law_2136 : decode cL_law 2136 = .ok (.laload, 1) := by decide +kernel
theorem dL_law_2137 : decode cL_law 2137 = .ok (.iload 7, 2) := by decide +kernel
theorem dL_law_2139 : decode cL_law 2139 = .ok (.i2l, 1) := by decide +kernel
theorem dL_law_2140 : decode cL_law 2140 = .ok (.lcmp, 1) := by decide +kernel
theorem dL_law_2141 : decode cL_law 2141 = .ok (.ifCond .eq 5, 3) := by decide +kernel
theorem dL_law_2144 : decode cL_law 2144 = .ok (.iconst 0, 1) := by decide +kernel
theorem dL_law_2145 : decode cL_law 2145 = .ok (.ireturn, 1) := by decide +kernel
theorem dL_law_2146 : decode cL_law 2146 = .ok (.goto 3, 3) := by decide +kernel
theorem dL_law_2149 : decode cL_law 2149 = .ok (.iinc 5 4, 3) := by decide +kernel
theorem dL_law_2152 : decode cL_law 2152 = .ok (.goto (-2124), 3) := by decide +kernel
theorem dL_law_2155 : decode cL_law 2155 = .ok (.iconst 1, 1) := by decide +kernel
theorem dL_law_2156 : decode cL_law 2156 = .ok (.ireturn, 1) := by decide +kernel
def wL_law_208 (L : Nat) (xs : Nat → Int32) (k28 : MS → Nat → Nat → Nat → Nat → Int32 → Prop) (S : MS) (u1 : Nat) (u2 : Nat) (u3 : Nat) (u4 : Nat) (y5 : Int32) : Prop := (vp_in (y5 + 1) L ∧ wp_L_append (fun r2 S1 => (vp_in (y5 + 1) L ∧ wp_X9_append (fun r4 S3 => wp_X9_thrown (fun r6 S5 => ((r6 = r2 → ((¬ r2 = 0 → k28 S5 u1 u2 u3 u4 (y5 + 4)) ∧ (r2 = 0 → (vp_in 0 (mN S5 u3) ∧ (((lg_cmp (mJ S5 u3 (0 : Int32).toNatClampNeg) ((r4 : Int32).toInt64)) = 0 → k28 S5 u1 u2 u3 u4 (y5 + 4)) ∧ (¬ (lg_cmp (mJ S5 u3 (0 : Int32).toNatClampNeg) ((r4 : Int32).toInt64)) = 0 → False)))))) ∧ (¬ r6 = r2 → False))) (fun _ _ => False) S3 u2) (fun _ _ => False) S1 u2 ((((xs ((y5 + 1) : Int32).toNatClampNeg) : Int32).toUInt32 % 65536).toInt32))) (fun _ _ => False) S u1 ((((xs ((y5 + 1) : Int32).toNatClampNeg) : Int32).toUInt32 % 65536).toInt32) u3)
set_option maxHeartbeats 8000000 in
set_option maxRecDepth 100000 in
theorem tL_law_208 {p : Program} {l : Launch} {e : Env} {s : State} {m : MethodId} {below : List Frame} {meth : Method} {c : Code} {H : Heap} {locs : List Loc} {cells slots : Nat} {G : GP} {S0 : MS} {ls : Array Slot} {b L : Nat} {xs : Nat → Int32} (C : CF p l s m #[Value.ref b] meth c "SkirmishGridLaw" code 9 G (fun q => s.heap.size ≤ q)) (hr : meth.sig.returnType = ret) (hX : va_X b L xs s s.heap) (hbl : b < s.heap.size) (c0 s0 : Nat) (k28 : MS → Nat → Nat → Nat → Nat → Int32 → Prop) (kh28 : ∀ (S : MS) (u1 : Nat) (u2 : Nat) (u3 : Nat) (u4 : Nat) (y5 : Int32) (cells slots : Nat) (H : Heap) (locs : List Loc) (ls : Array Slot), pI S 8 u1 → pI S 9 u2 → pI S 16 u3 → pI S 17 u4 → PW G (fun q => s.heap.size ≤ q) s H locs S0 S → lv_has ls 9 [(0, .ref b), (1, .ref u1), (2, .ref u2), (3, .ref u3), (4, .ref u4), (5, .int y5)] → cells ≤ c0 + 5 → slots ≤ s0 + 30 → k28 S u1 u2 u3 u4 y5 → W p l e room_1 s m #[Value.ref b] below meth c H locs cells slots (lw_Z below #[Value.ref b] s) (F0 m 28 ls [])) (S : MS) (u1 : Nat) (u2 : Nat) (u3 : Nat) (u4 : Nat) (y5 : Int32) (p_u1 : pI S 8 u1) (p_u2 : pI S 9 u2) (p_u3 : pI S 16 u3) (p_u4 : pI S 17 u4) (P : PW G (fun q => s.heap.size ≤ q) s H locs S0 S) (hl : lv_has ls 9 [(0, .ref b), (1, .ref u1), (2, .ref u2), (3, .ref u3), (4, .ref u4), (5, .int y5)]) (hcc : cells + 1 ≤ c0 + 5) (hss : slots + 6 ≤ s0 + 30) (h0 : c0 + 5 ≤ 600006) (hs0 : s0 + 30 ≤ 7302056) (hw : wL_law_208 L xs k28 S u1 u2 u3 u4 y5) : W p l e room_1 s m #[Value.ref b] below meth c H locs cells slots (lw_Z below #[Value.ref b] s) (F0 m 208 ls []) := by
  have hx := CF_x C
  have hb := CF_b C
  unfold wL_law_208 at hw
  refine lv_aload_n hx hb dL_law_208 rfl (lv_at hl 1 rfl) ?_
  refine lv_aload_n hx hb dL_law_209 rfl (lv_at hl 0 rfl) ?_
  refine lv_iload hx hb dL_law_210 (lv_at hl 5 rfl) ?_
  refine lv_iconst (v := 1) hx hb dL_law_212 (by decide) ?_
  refine lv_iadd hx hb dL_law_213 ?_
  obtain ⟨h1, hw⟩ := hw
  refine va_sld hx hb hX hbl (Nat.not_le.mpr hbl) P.2.2.1 h1 dL_law_214 ?_
  refine lv_i2c (v := (((xs ((y5 + 1) : Int32).toNatClampNeg) : Int32).toUInt32 % 65536).toInt32) hx hb dL_law_215 rfl ?_
  refine lv_aload_n hx hb dL_law_216 rfl (lv_at hl 3 rfl) ?_
  refine cl_i C P (run_SX C P hl.1 (met_L_append (CF_n C) G H.size _ _ S u1 ((((xs ((y5 + 1) : Int32).toNatClampNeg) : Int32).toUInt32 % 65536).toInt32) u3 p_u1 p_u3 hw) q_401 q_402 q_0 q_403 cd_L_append.2 ⟨(Nat.le_of_ble_eq_true rfl), (Nat.le_of_ble_eq_true rfl)⟩ rfl rfl (As := [.ref u1, .int ((((xs ((y5 + 1) : Int32).toNatClampNeg) : Int32).toUInt32 % 65536).toInt32), .ref u3]) (rest := []) rfl rfl (Nat.le_of_ble_eq_true rfl) dL_law_217 ⟨by show cells + 1 ≤ 600006; omega, by show slots + 6 ≤ 7302056; omega⟩) kx_no (fun r2 S1 H locs P hE hw => ?_)
  have p_u1 : pI S1 8 u1 := pI_x hE p_u1
  have p_u2 : pI S1 9 u2 := pI_x hE p_u2
  have p_u3 : pI S1 16 u3 := pI_x hE p_u3
  have p_u4 : pI S1 17 u4 := pI_x hE p_u4
  refine lv_istore (lv' := [(6, .int r2), (0, .ref b), (1, .ref u1), (2, .ref u2), (3, .ref u3), (4, .ref u4), (5, .int y5)]) hx hb dL_law_220 hl (by decide) rfl (fun ls hl => ?_)
  refine lv_aload_n hx hb dL_law_222 rfl (lv_at hl 3 rfl) ?_
  refine lv_aload_n hx hb dL_law_223 rfl (lv_at hl 1 rfl) ?_
  refine lv_iload hx hb dL_law_224 (lv_at hl 6 rfl) ?_
  refine lv_iconst (v := 1) hx hb dL_law_226 (by decide) ?_
  refine lv_iadd hx hb dL_law_227 ?_
  obtain ⟨h1, hw⟩ := hw
  refine va_sld hx hb hX hbl (Nat.not_le.mpr hbl) P.2.2.1 h1 dL_law_228 ?_
  refine lv_i2c (v := (((xs ((y5 + 1) : Int32).toNatClampNeg) : Int32).toUInt32 % 65536).toInt32) hx hb dL_law_229 rfl ?_
  refine cl_i C P (run_V C P hl.1 (kd := 9) (met_X9_append (CF_n C) G H.size _ _ S1 u2 ((((xs ((y5 + 1) : Int32).toNatClampNeg) : Int32).toUInt32 % 65536).toInt32) p_u2 hw) p_u2 (by decide) rfl q_1379 q_1380 q_1381 q_10 q_1382 cd_X9_append ⟨(Nat.le_of_ble_eq_true rfl), (Nat.le_of_ble_eq_true rfl)⟩ rfl rfl (As := [.int ((((xs ((y5 + 1) : Int32).toNatClampNeg) : Int32).toUInt32 % 65536).toInt32)]) (rest := []) rfl rfl (Nat.le_of_ble_eq_true rfl) dL_law_230 ⟨by show cells + 1 + 0 ≤ 600006; omega, by show slots + 6 + 0 ≤ 7302056; omega⟩) kx_no (fun r4 S3 H locs P hE hw => ?_)
  have p_u1 : pI S3 8 u1 := pI_x hE p_u1
  have p_u2 : pI S3 9 u2 := pI_x hE p_u2
  have p_u3 : pI S3 16 u3 := pI_x hE p_u3
  have p_u4 : pI S3 17 u4 := pI_x hE p_u4
  refine lv_istore (lv' := [(7, .int r4), (6, .int r2), (0, .ref b), (1, .ref u1), (2, .ref u2), (3, .ref u3), (4, .ref u4), (5, .int y5)]) hx hb dL_law_233 hl (by decide) rfl (fun ls hl => ?_)
  refine lv_aload_n hx hb dL_law_235 rfl (lv_at hl 4 rfl) ?_
  refine cl_i C P (run_V C P hl.1 (kd := 9) (met_X9_thrown (CF_n C) G H.size _ _ S3 u2 p_u2 hw) p_u2 (by decide) rfl q_1375 q_1376 q_1377 q_10 q_1378 cd_X9_thrown ⟨(Nat.le_of_ble_eq_true rfl), (Nat.le_of_ble_eq_true rfl)⟩ rfl rfl (As := []) (rest := []) rfl rfl (Nat.le_of_ble_eq_true rfl) dL_law_236 ⟨by show cells + 1 + 0 ≤ 600006; omega, by show slots + 6 + 0 ≤ 7302056; omega⟩) kx_no (fun r6 S5 H locs P hE hw => ?_)
  have p_u1 : pI S5 8 u1 := pI_x hE p_u1
  have p_u2 : pI S5 9 u2 := pI_x hE p_u2
  have p_u3 : pI S5 16 u3 := pI_x hE p_u3
  have p_u4 : pI S5 17 u4 := pI_x hE p_u4
  refine lv_iload hx hb dL_law_239 (lv_at hl 1 rfl) ?_
  refine lv_icmp_eq (tgt := 246) hx hb dL_law_241 (by decide) (fun hc => ?_) (fun hc => ?_)
  · have hw := hw.1 hc
    refine lv_iload hx hb dL_law_246 (lv_at hl 1 rfl) ?_
    refine lv_if_ne (tgt := 263) hx hb dL_law_248 (by decide) (fun hc => ?_) (fun hc => ?_)
    · have hw := hw.1 hc
      refine lv_goto (tgt := 2149) hx hb dL_law_263 (by decide) ?_
      refine lv_iinc (v := (y5 + 4)) (lv' := [(5, .int (y5 + 4)), (7, .int r4), (6, .int r2), (0, .ref b), (1, .ref u1), (2, .ref u2), (3, .ref u3), (4, .ref u4)]) hx hb dL_law_2149 hl (k := 7) rfl (by rfl) (by decide) rfl (fun ls hl => ?_)
      refine lv_goto (tgt := 28) hx hb dL_law_2152 (by decide) ?_
      exact kh28 S5 u1 u2 u3 u4 (y5 + 4) _ _ _ _ _ p_u1 p_u2 p_u3 p_u4 P (lv_sub hl [3, 4, 5, 6, 7, 0] rfl) (by omega) (by omega) hw
    · have hw := hw.2 hc
      refine lv_aload_n hx hb dL_law_251 rfl (lv_at hl 5 rfl) ?_
      refine lv_iconst (v := 0) hx hb dL_law_252 (by decide) ?_
      obtain ⟨h1, hw⟩ := hw
      refine ra_j C P p_u3 h1 dL_law_253 ?_
      refine lv_iload hx hb dL_law_254 (lv_at hl 0 rfl) ?_
      refine lv_i2l (v := (r4 : Int32).toInt64) hx hb dL_law_256 rfl ?_
      refine W.lcmp hx hb dL_law_257 ?_
      refine lv_if_eq (tgt := 263) hx hb dL_law_258 (by decide) (fun hc => ?_) (fun hc => ?_)
      · have hw := hw.1 hc
        refine lv_goto (tgt := 2149) hx hb dL_law_263 (by decide) ?_
        refine lv_iinc (v := (y5 + 4)) (lv' := [(5, .int (y5 + 4)), (7, .int r4), (6, .int r2), (0, .ref b), (1, .ref u1), (2, .ref u2), (3, .ref u3), (4, .ref u4)]) hx hb dL_law_2149 hl (k := 7) rfl (by rfl) (by decide) rfl (fun ls hl => ?_)
        refine lv_goto (tgt := 28) hx hb dL_law_2152 (by decide) ?_
        exact kh28 S5 u1 u2 u3 u4 (y5 + 4) _ _ _ _ _ p_u1 p_u2 p_u3 p_u4 P (lv_sub hl [3, 4, 5, 6, 7, 0] rfl) (by omega) (by omega) hw
      · have hw := hw.2 hc
        refine lv_iconst (v := 0) hx hb dL_law_261 (by decide) ?_
        exact hw.elim
  · have hw := hw.2 hc
    refine lv_iconst (v := 0) hx hb dL_law_244 (by decide) ?_
    exact hw.elim
def wL_law_266 (L : Nat) (xs : Nat → Int32) (k28 : MS → Nat → Nat → Nat → Nat → Int32 → Prop) (S : MS) (u1 : Nat) (u2 : Nat) (u3 : Nat) (u4 : Nat) (y5 : Int32) : Prop := (vp_in (y5 + 1) L ∧ wp_L_load (fun r2 S1 => (vp_in (y5 + 1) L ∧ wp_X9_load (fun r4 S3 => wp_X9_thrown (fun r6 S5 => ((r6 = r2 → ((¬ r2 = 0 → k28 S5 u1 u2 u3 u4 (y5 + 4)) ∧ (r2 = 0 → (vp_in 0 (mN S5 u3) ∧ (((lg_cmp (mJ S5 u3 (0 : Int32).toNatClampNeg) ((r4 : Int32).toInt64)) = 0 → k28 S5 u1 u2 u3 u4 (y5 + 4)) ∧ (¬ (lg_cmp (mJ S5 u3 (0 : Int32).toNatClampNeg) ((r4 : Int32).toInt64)) = 0 → False)))))) ∧ (¬ r6 = r2 → False))) (fun _ _ => False) S3 u2) (fun _ _ => False) S1 u2 (xs ((y5 + 1) : Int32).toNatClampNeg))) (fun _ _ => False) S u1 (xs ((y5 + 1) : Int32).toNatClampNeg) u3)
set_option maxHeartbeats 8000000 in
set_option maxRecDepth 100000 in
theorem tL_law_266 {p : Program} {l : Launch} {e : Env} {s : State} {m : MethodId} {below : List Frame} {meth : Method} {c : Code} {H : Heap} {locs : List Loc} {cells slots : Nat} {G : GP} {S0 : MS} {ls : Array Slot} {b L : Nat} {xs : Nat → Int32} (C : CF p l s m #[Value.ref b] meth c "SkirmishGridLaw" code 9 G (fun q => s.heap.size ≤ q)) (hr : meth.sig.returnType = ret) (hX : va_X b L xs s s.heap) (hbl : b < s.heap.size) (c0 s0 : Nat) (k28 : MS → Nat → Nat → Nat → Nat → Int32 → Prop) (kh28 : ∀ (S : MS) (u1 : Nat) (u2 : Nat) (u3 : Nat) (u4 : Nat) (y5 : Int32) (cells slots : Nat) (H : Heap) (locs : List Loc) (ls : Array Slot), pI S 8 u1 → pI S 9 u2 → pI S 16 u3 → pI S 17 u4 → PW G (fun q => s.heap.size ≤ q) s H locs S0 S → lv_has ls 9 [(0, .ref b), (1, .ref u1), (2, .ref u2), (3, .ref u3), (4, .ref u4), (5, .int y5)] → cells ≤ c0 + 5 → slots ≤ s0 + 30 → k28 S u1 u2 u3 u4 y5 → W p l e room_1 s m #[Value.ref b] below meth c H locs cells slots (lw_Z below #[Value.ref b] s) (F0 m 28 ls [])) (S : MS) (u1 : Nat) (u2 : Nat) (u3 : Nat) (u4 : Nat) (y5 : Int32) (p_u1 : pI S 8 u1) (p_u2 : pI S 9 u2) (p_u3 : pI S 16 u3) (p_u4 : pI S 17 u4) (P : PW G (fun q => s.heap.size ≤ q) s H locs S0 S) (hl : lv_has ls 9 [(0, .ref b), (1, .ref u1), (2, .ref u2), (3, .ref u3), (4, .ref u4), (5, .int y5)]) (hcc : cells + 1 ≤ c0 + 5) (hss : slots + 6 ≤ s0 + 30) (h0 : c0 + 5 ≤ 600006) (hs0 : s0 + 30 ≤ 7302056) (hw : wL_law_266 L xs k28 S u1 u2 u3 u4 y5) : W p l e room_1 s m #[Value.ref b] below meth c H locs cells slots (lw_Z below #[Value.ref b] s) (F0 m 266 ls []) := by
  have hx := CF_x C
  have hb := CF_b C
  unfold wL_law_266 at hw
  refine lv_aload_n hx hb dL_law_266 rfl (lv_at hl 1 rfl) ?_
  refine lv_aload_n hx hb dL_law_267 rfl (lv_at hl 0 rfl) ?_
  refine lv_iload hx hb dL_law_268 (lv_at hl 5 rfl) ?_
  refine lv_iconst (v := 1) hx hb dL_law_270 (by decide) ?_
  refine lv_iadd hx hb dL_law_271 ?_
  obtain ⟨h1, hw⟩ := hw
  refine va_sld hx hb hX hbl (Nat.not_le.mpr hbl) P.2.2.1 h1 dL_law_272 ?_
  refine lv_aload_n hx hb dL_law_273 rfl (lv_at hl 3 rfl) ?_
  refine cl_i C P (run_SX C P hl.1 (met_L_load (CF_n C) G H.size _ _ S u1 (xs ((y5 + 1) : Int32).toNatClampNeg) u3 p_u1 p_u3 hw) q_498 q_499 q_0 q_500 cd_L_load.2 ⟨(Nat.le_of_ble_eq_true rfl), (Nat.le_of_ble_eq_true rfl)⟩ rfl rfl (As := [.ref u1, .int (xs ((y5 + 1) : Int32).toNatClampNeg), .ref u3]) (rest := []) rfl rfl (Nat.le_of_ble_eq_true rfl) dL_law_274 ⟨by show cells + 1 ≤ 600006; omega, by show slots + 6 ≤ 7302056; omega⟩) kx_no (fun r2 S1 H locs P hE hw => ?_)
  have p_u1 : pI S1 8 u1 := pI_x hE p_u1
  have p_u2 : pI S1 9 u2 := pI_x hE p_u2
  have p_u3 : pI S1 16 u3 := pI_x hE p_u3
  have p_u4 : pI S1 17 u4 := pI_x hE p_u4
  refine lv_istore (lv' := [(6, .int r2), (0, .ref b), (1, .ref u1), (2, .ref u2), (3, .ref u3), (4, .ref u4), (5, .int y5)]) hx hb dL_law_277 hl (by decide) rfl (fun ls hl => ?_)
  refine lv_aload_n hx hb dL_law_279 rfl (lv_at hl 3 rfl) ?_
  refine lv_aload_n hx hb dL_law_280 rfl (lv_at hl 1 rfl) ?_
  refine lv_iload hx hb dL_law_281 (lv_at hl 6 rfl) ?_
  refine lv_iconst (v := 1) hx hb dL_law_283 (by decide) ?_
  refine lv_iadd hx hb dL_law_284 ?_
  obtain ⟨h1, hw⟩ := hw
  refine va_sld hx hb hX hbl (Nat.not_le.mpr hbl) P.2.2.1 h1 dL_law_285 ?_
  refine cl_i C P (run_V C P hl.1 (kd := 9) (met_X9_load (CF_n C) G H.size _ _ S1 u2 (xs ((y5 + 1) : Int32).toNatClampNeg) p_u2 hw) p_u2 (by decide) rfl q_1390 q_1391 q_1392 q_10 q_1393 cd_X9_load ⟨(Nat.le_of_ble_eq_true rfl), (Nat.le_of_ble_eq_true rfl)⟩ rfl rfl (As := [.int (xs ((y5 + 1) : Int32).toNatClampNeg)]) (rest := []) rfl rfl (Nat.le_of_ble_eq_true rfl) dL_law_286 ⟨by show cells + 1 + 0 ≤ 600006; omega, by show slots + 6 + 0 ≤ 7302056; omega⟩) kx_no (fun r4 S3 H locs P hE hw => ?_)
  have p_u1 : pI S3 8 u1 := pI_x hE p_u1
  have p_u2 : pI S3 9 u2 := pI_x hE p_u2
  have p_u3 : pI S3 16 u3 := pI_x hE p_u3
  have p_u4 : pI S3 17 u4 := pI_x hE p_u4
  refine lv_istore (lv' := [(7, .int r4), (6, .int r2), (0, .ref b), (1, .ref u1), (2, .ref u2), (3, .ref u3), (4, .ref u4), (5, .int y5)]) hx hb dL_law_289 hl (by decide) rfl (fun ls hl => ?_)
  refine lv_aload_n hx hb dL_law_291 rfl (lv_at hl 4 rfl) ?_
  refine cl_i C P (run_V C P hl.1 (kd := 9) (met_X9_thrown (CF_n C) G H.size _ _ S3 u2 p_u2 hw) p_u2 (by decide) rfl q_1375 q_1376 q_1377 q_10 q_1378 cd_X9_thrown ⟨(Nat.le_of_ble_eq_true rfl), (Nat.le_of_ble_eq_true rfl)⟩ rfl rfl (As := []) (rest := []) rfl rfl (Nat.le_of_ble_eq_true rfl) dL_law_292 ⟨by show cells + 1 + 0 ≤ 600006; omega, by show slots + 6 + 0 ≤ 7302056; omega⟩) kx_no (fun r6 S5 H locs P hE hw => ?_)
  have p_u1 : pI S5 8 u1 := pI_x hE p_u1
  have p_u2 : pI S5 9 u2 := pI_x hE p_u2
  have p_u3 : pI S5 16 u3 := pI_x hE p_u3
  have p_u4 : pI S5 17 u4 := pI_x hE p_u4
  refine lv_iload hx hb dL_law_295 (lv_at hl 1 rfl) ?_
  refine lv_icmp_eq (tgt := 302) hx hb dL_law_297 (by decide) (fun hc => ?_) (fun hc => ?_)
  · have hw := hw.1 hc
    refine lv_iload hx hb dL_law_302 (lv_at hl 1 rfl) ?_
    refine lv_if_ne (tgt := 319) hx hb dL_law_304 (by decide) (fun hc => ?_) (fun hc => ?_)
    · have hw := hw.1 hc
      refine lv_goto (tgt := 2149) hx hb dL_law_319 (by decide) ?_
      refine lv_iinc (v := (y5 + 4)) (lv' := [(5, .int (y5 + 4)), (7, .int r4), (6, .int r2), (0, .ref b), (1, .ref u1), (2, .ref u2), (3, .ref u3), (4, .ref u4)]) hx hb dL_law_2149 hl (k := 7) rfl (by rfl) (by decide) rfl (fun ls hl => ?_)
      refine lv_goto (tgt := 28) hx hb dL_law_2152 (by decide) ?_
      exact kh28 S5 u1 u2 u3 u4 (y5 + 4) _ _ _ _ _ p_u1 p_u2 p_u3 p_u4 P (lv_sub hl [3, 4, 5, 6, 7, 0] rfl) (by omega) (by omega) hw
    · have hw := hw.2 hc
      refine lv_aload_n hx hb dL_law_307 rfl (lv_at hl 5 rfl) ?_
      refine lv_iconst (v := 0) hx hb dL_law_308 (by decide) ?_
      obtain ⟨h1, hw⟩ := hw
      refine ra_j C P p_u3 h1 dL_law_309 ?_
      refine lv_iload hx hb dL_law_310 (lv_at hl 0 rfl) ?_
      refine lv_i2l (v := (r4 : Int32).toInt64) hx hb dL_law_312 rfl ?_
      refine W.lcmp hx hb dL_law_313 ?_
      refine lv_if_eq (tgt := 319) hx hb dL_law_314 (by decide) (fun hc => ?_) (fun hc => ?_)
      · have hw := hw.1 hc
        refine lv_goto (tgt := 2149) hx hb dL_law_319 (by decide) ?_
        refine lv_iinc (v := (y5 + 4)) (lv' := [(5, .int (y5 + 4)), (7, .int r4), (6, .int r2), (0, .ref b), (1, .ref u1), (2, .ref u2), (3, .ref u3), (4, .ref u4)]) hx hb dL_law_2149 hl (k := 7) rfl (by rfl) (by decide) rfl (fun ls hl => ?_)
        refine lv_goto (tgt := 28) hx hb dL_law_2152 (by decide) ?_
        exact kh28 S5 u1 u2 u3 u4 (y5 + 4) _ _ _ _ _ p_u1 p_u2 p_u3 p_u4 P (lv_sub hl [3, 4, 5, 6, 7, 0] rfl) (by omega) (by omega) hw
      · have hw := hw.2 hc
        refine lv_iconst (v := 0) hx hb dL_law_317 (by decide) ?_
        exact hw.elim
  · have hw := hw.2 hc
    refine lv_iconst (v := 0) hx hb dL_law_300 (by decide) ?_
    exact hw.elim
def wL_law_322 (L : Nat) (xs : Nat → Int32) (k28 : MS → Nat → Nat → Nat → Nat → Int32 → Prop) (S : MS) (u1 : Nat) (u2 : Nat) (u3 : Nat) (u4 : Nat) (y5 : Int32) : Prop := wp_L_errorPosition (fun r2 S1 => wp_X9_errorPosition (fun r4 S3 => wp_X9_thrown (fun r6 S5 => ((r6 = r2 → ((¬ r2 = 0 → k28 S5 u1 u2 u3 u4 (y5 + 4)) ∧ (r2 = 0 → (vp_in 0 (mN S5 u3) ∧ (((lg_cmp (mJ S5 u3 (0 : Int32).toNatClampNeg) ((r4 : Int32).toInt64)) = 0 → k28 S5 u1 u2 u3 u4 (y5 + 4)) ∧ (¬ (lg_cmp (mJ S5 u3 (0 : Int32).toNatClampNeg) ((r4 : Int32).toInt64)) = 0 → False)))))) ∧ (¬ r6 = r2 → False))) (fun _ _ => False) S3 u2) (fun _ _ => False) S1 u2) (fun _ _ => False) S u1 u3
set_option maxHeartbeats 8000000 in
set_option maxRecDepth 100000 in
theorem tL_law_322 {p : Program} {l : Launch} {e : Env} {s : State} {m : MethodId} {below : List Frame} {meth : Method} {c : Code} {H : Heap} {locs : List Loc} {cells slots : Nat} {G : GP} {S0 : MS} {ls : Array Slot} {b L : Nat} {xs : Nat → Int32} (C : CF p l s m #[Value.ref b] meth c "SkirmishGridLaw" code 9 G (fun q => s.heap.size ≤ q)) (hr : meth.sig.returnType = ret) (hX : va_X b L xs s s.heap) (hbl : b < s.heap.size) (c0 s0 : Nat) (k28 : MS → Nat → Nat → Nat → Nat → Int32 → Prop) (kh28 : ∀ (S : MS) (u1 : Nat) (u2 : Nat) (u3 : Nat) (u4 : Nat) (y5 : Int32) (cells slots : Nat) (H : Heap) (locs : List Loc) (ls : Array Slot), pI S 8 u1 → pI S 9 u2 → pI S 16 u3 → pI S 17 u4 → PW G (fun q => s.heap.size ≤ q) s H locs S0 S → lv_has ls 9 [(0, .ref b), (1, .ref u1), (2, .ref u2), (3, .ref u3), (4, .ref u4), (5, .int y5)] → cells ≤ c0 + 5 → slots ≤ s0 + 30 → k28 S u1 u2 u3 u4 y5 → W p l e room_1 s m #[Value.ref b] below meth c H locs cells slots (lw_Z below #[Value.ref b] s) (F0 m 28 ls [])) (S : MS) (u1 : Nat) (u2 : Nat) (u3 : Nat) (u4 : Nat) (y5 : Int32) (p_u1 : pI S 8 u1) (p_u2 : pI S 9 u2) (p_u3 : pI S 16 u3) (p_u4 : pI S 17 u4) (P : PW G (fun q => s.heap.size ≤ q) s H locs S0 S) (hl : lv_has ls 9 [(0, .ref b), (1, .ref u1), (2, .ref u2), (3, .ref u3), (4, .ref u4), (5, .int y5)]) (hcc : cells + 1 ≤ c0 + 5) (hss : slots + 6 ≤ s0 + 30) (h0 : c0 + 5 ≤ 600006) (hs0 : s0 + 30 ≤ 7302056) (hw : wL_law_322 L xs k28 S u1 u2 u3 u4 y5) : W p l e room_1 s m #[Value.ref b] below meth c H locs cells slots (lw_Z below #[Value.ref b] s) (F0 m 322 ls []) := by
  have hx := CF_x C
  have hb := CF_b C
  unfold wL_law_322 at hw
  refine lv_aload_n hx hb dL_law_322 rfl (lv_at hl 1 rfl) ?_
  refine lv_aload_n hx hb dL_law_323 rfl (lv_at hl 3 rfl) ?_
  refine cl_i C P (run_SX C P hl.1 (met_L_errorPosition (CF_n C) G H.size _ _ S u1 u3 p_u1 p_u3 hw) q_633 q_634 q_0 q_635 cd_L_errorPosition.2 ⟨(Nat.le_of_ble_eq_true rfl), (Nat.le_of_ble_eq_true rfl)⟩ rfl rfl (As := [.ref u1, .ref u3]) (rest := []) rfl rfl (Nat.le_of_ble_eq_true rfl) dL_law_324 ⟨by show cells + 1 ≤ 600006; omega, by show slots + 6 ≤ 7302056; omega⟩) kx_no (fun r2 S1 H locs P hE hw => ?_)
  have p_u1 : pI S1 8 u1 := pI_x hE p_u1
  have p_u2 : pI S1 9 u2 := pI_x hE p_u2
  have p_u3 : pI S1 16 u3 := pI_x hE p_u3
  have p_u4 : pI S1 17 u4 := pI_x hE p_u4
  refine lv_istore (lv' := [(6, .int r2), (0, .ref b), (1, .ref u1), (2, .ref u2), (3, .ref u3), (4, .ref u4), (5, .int y5)]) hx hb dL_law_327 hl (by decide) rfl (fun ls hl => ?_)
  refine lv_aload_n hx hb dL_law_329 rfl (lv_at hl 3 rfl) ?_
  refine cl_i C P (run_V C P hl.1 (kd := 9) (met_X9_errorPosition (CF_n C) G H.size _ _ S1 u2 p_u2 hw) p_u2 (by decide) rfl q_1401 q_1402 q_1403 q_10 q_1404 cd_X9_errorPosition ⟨(Nat.le_of_ble_eq_true rfl), (Nat.le_of_ble_eq_true rfl)⟩ rfl rfl (As := []) (rest := []) rfl rfl (Nat.le_of_ble_eq_true rfl) dL_law_330 ⟨by show cells + 1 + 0 ≤ 600006; omega, by show slots + 6 + 0 ≤ 7302056; omega⟩) kx_no (fun r4 S3 H locs P hE hw => ?_)
  have p_u1 : pI S3 8 u1 := pI_x hE p_u1
  have p_u2 : pI S3 9 u2 := pI_x hE p_u2
  have p_u3 : pI S3 16 u3 := pI_x hE p_u3
  have p_u4 : pI S3 17 u4 := pI_x hE p_u4
  refine lv_istore (lv' := [(7, .int r4), (6, .int r2), (0, .ref b), (1, .ref u1), (2, .ref u2), (3, .ref u3), (4, .ref u4), (5, .int y5)]) hx hb dL_law_333 hl (by decide) rfl (fun ls hl => ?_)
  refine lv_aload_n hx hb dL_law_335 rfl (lv_at hl 4 rfl) ?_
  refine cl_i C P (run_V C P hl.1 (kd := 9) (met_X9_thrown (CF_n C) G H.size _ _ S3 u2 p_u2 hw) p_u2 (by decide) rfl q_1375 q_1376 q_1377 q_10 q_1378 cd_X9_thrown ⟨(Nat.le_of_ble_eq_true rfl), (Nat.le_of_ble_eq_true rfl)⟩ rfl rfl (As := []) (rest := []) rfl rfl (Nat.le_of_ble_eq_true rfl) dL_law_336 ⟨by show cells + 1 + 0 ≤ 600006; omega, by show slots + 6 + 0 ≤ 7302056; omega⟩) kx_no (fun r6 S5 H locs P hE hw => ?_)
  have p_u1 : pI S5 8 u1 := pI_x hE p_u1
  have p_u2 : pI S5 9 u2 := pI_x hE p_u2
  have p_u3 : pI S5 16 u3 := pI_x hE p_u3
  have p_u4 : pI S5 17 u4 := pI_x hE p_u4
  refine lv_iload hx hb dL_law_339 (lv_at hl 1 rfl) ?_
  refine lv_icmp_eq (tgt := 346) hx hb dL_law_341 (by decide) (fun hc => ?_) (fun hc => ?_)
  · have hw := hw.1 hc
    refine lv_iload hx hb dL_law_346 (lv_at hl 1 rfl) ?_
    refine lv_if_ne (tgt := 363) hx hb dL_law_348 (by decide) (fun hc => ?_) (fun hc => ?_)
    · have hw := hw.1 hc
      refine lv_goto (tgt := 2149) hx hb dL_law_363 (by decide) ?_
      refine lv_iinc (v := (y5 + 4)) (lv' := [(5, .int (y5 + 4)), (7, .int r4), (6, .int r2), (0, .ref b), (1, .ref u1), (2, .ref u2), (3, .ref u3), (4, .ref u4)]) hx hb dL_law_2149 hl (k := 7) rfl (by rfl) (by decide) rfl (fun ls hl => ?_)
      refine lv_goto (tgt := 28) hx hb dL_law_2152 (by decide) ?_
      exact kh28 S5 u1 u2 u3 u4 (y5 + 4) _ _ _ _ _ p_u1 p_u2 p_u3 p_u4 P (lv_sub hl [3, 4, 5, 6, 7, 0] rfl) (by omega) (by omega) hw
    · have hw := hw.2 hc
      refine lv_aload_n hx hb dL_law_351 rfl (lv_at hl 5 rfl) ?_
      refine lv_iconst (v := 0) hx hb dL_law_352 (by decide) ?_
      obtain ⟨h1, hw⟩ := hw
      refine ra_j C P p_u3 h1 dL_law_353 ?_
      refine lv_iload hx hb dL_law_354 (lv_at hl 0 rfl) ?_
      refine lv_i2l (v := (r4 : Int32).toInt64) hx hb dL_law_356 rfl ?_
      refine W.lcmp hx hb dL_law_357 ?_
      refine lv_if_eq (tgt := 363) hx hb dL_law_358 (by decide) (fun hc => ?_) (fun hc => ?_)
      · have hw := hw.1 hc
        refine lv_goto (tgt := 2149) hx hb dL_law_363 (by decide) ?_
        refine lv_iinc (v := (y5 + 4)) (lv' := [(5, .int (y5 + 4)), (7, .int r4), (6, .int r2), (0, .ref b), (1, .ref u1), (2, .ref u2), (3, .ref u3), (4, .ref u4)]) hx hb dL_law_2149 hl (k := 7) rfl (by rfl) (by decide) rfl (fun ls hl => ?_)
        refine lv_goto (tgt := 28) hx hb dL_law_2152 (by decide) ?_
        exact kh28 S5 u1 u2 u3 u4 (y5 + 4) _ _ _ _ _ p_u1 p_u2 p_u3 p_u4 P (lv_sub hl [3, 4, 5, 6, 7, 0] rfl) (by omega) (by omega) hw
      · have hw := hw.2 hc
        refine lv_iconst (v := 0) hx hb dL_law_361 (by decide) ?_
        exact hw.elim
  · have hw := hw.2 hc
    refine lv_iconst (v := 0) hx hb dL_law_344 (by decide) ?_
    exact hw.elim
def wL_law_366 (L : Nat) (xs : Nat → Int32) (k28 : MS → Nat → Nat → Nat → Nat → Int32 → Prop) (S : MS) (u1 : Nat) (u2 : Nat) (u3 : Nat) (u4 : Nat) (y5 : Int32) : Prop := (vp_in (y5 + 1) L ∧ (vp_in (y5 + 2) L ∧ wp_L_terrain (fun r2 S1 => (vp_in (y5 + 1) L ∧ (vp_in (y5 + 2) L ∧ wp_X9_terrain (fun r4 S3 => wp_X9_thrown (fun r6 S5 => ((r6 = r2 → ((¬ r2 = 0 → k28 S5 u1 u2 u3 u4 (y5 + 4)) ∧ (r2 = 0 → (vp_in 0 (mN S5 u3) ∧ (((lg_cmp (mJ S5 u3 (0 : Int32).toNatClampNeg) ((r4 : Int32).toInt64)) = 0 → k28 S5 u1 u2 u3 u4 (y5 + 4)) ∧ (¬ (lg_cmp (mJ S5 u3 (0 : Int32).toNatClampNeg) ((r4 : Int32).toInt64)) = 0 → False)))))) ∧ (¬ r6 = r2 → False))) (fun _ _ => False) S3 u2) (fun _ _ => False) S1 u2 (xs ((y5 + 1) : Int32).toNatClampNeg) (xs ((y5 + 2) : Int32).toNatClampNeg)))) (fun _ _ => False) S u1 (xs ((y5 + 1) : Int32).toNatClampNeg) (xs ((y5 + 2) : Int32).toNatClampNeg) u3))
set_option maxHeartbeats 8000000 in
set_option maxRecDepth 100000 in
theorem tL_law_366 {p : Program} {l : Launch} {e : Env} {s : State} {m : MethodId} {below : List Frame} {meth : Method} {c : Code} {H : Heap} {locs : List Loc} {cells slots : Nat} {G : GP} {S0 : MS} {ls : Array Slot} {b L : Nat} {xs : Nat → Int32} (C : CF p l s m #[Value.ref b] meth c "SkirmishGridLaw" code 9 G (fun q => s.heap.size ≤ q)) (hr : meth.sig.returnType = ret) (hX : va_X b L xs s s.heap) (hbl : b < s.heap.size) (c0 s0 : Nat) (k28 : MS → Nat → Nat → Nat → Nat → Int32 → Prop) (kh28 : ∀ (S : MS) (u1 : Nat) (u2 : Nat) (u3 : Nat) (u4 : Nat) (y5 : Int32) (cells slots : Nat) (H : Heap) (locs : List Loc) (ls : Array Slot), pI S 8 u1 → pI S 9 u2 → pI S 16 u3 → pI S 17 u4 → PW G (fun q => s.heap.size ≤ q) s H locs S0 S → lv_has ls 9 [(0, .ref b), (1, .ref u1), (2, .ref u2), (3, .ref u3), (4, .ref u4), (5, .int y5)] → cells ≤ c0 + 5 → slots ≤ s0 + 30 → k28 S u1 u2 u3 u4 y5 → W p l e room_1 s m #[Value.ref b] below meth c H locs cells slots (lw_Z below #[Value.ref b] s) (F0 m 28 ls [])) (S : MS) (u1 : Nat) (u2 : Nat) (u3 : Nat) (u4 : Nat) (y5 : Int32) (p_u1 : pI S 8 u1) (p_u2 : pI S 9 u2) (p_u3 : pI S 16 u3) (p_u4 : pI S 17 u4) (P : PW G (fun q => s.heap.size ≤ q) s H locs S0 S) (hl : lv_has ls 9 [(0, .ref b), (1, .ref u1), (2, .ref u2), (3, .ref u3), (4, .ref u4), (5, .int y5)]) (hcc : cells + 1 ≤ c0 + 5) (hss : slots + 6 ≤ s0 + 30) (h0 : c0 + 5 ≤ 600006) (hs0 : s0 + 30 ≤ 7302056) (hw : wL_law_366 L xs k28 S u1 u2 u3 u4 y5) : W p l e room_1 s m #[Value.ref b] below meth c H locs cells slots (lw_Z below #[Value.ref b] s) (F0 m 366 ls []) := by
  have hx := CF_x C
  have hb := CF_b C
  unfold wL_law_366 at hw
  refine lv_aload_n hx hb dL_law_366 rfl (lv_at hl 1 rfl) ?_
  refine lv_aload_n hx hb dL_law_367 rfl (lv_at hl 0 rfl) ?_
  refine lv_iload hx hb dL_law_368 (lv_at hl 5 rfl) ?_
  refine lv_iconst (v := 1) hx hb dL_law_370 (by decide) ?_
  refine lv_iadd hx hb dL_law_371 ?_
  obtain ⟨h1, hw⟩ := hw
  refine va_sld hx hb hX hbl (Nat.not_le.mpr hbl) P.2.2.1 h1 dL_law_372 ?_
  refine lv_aload_n hx hb dL_law_373 rfl (lv_at hl 0 rfl) ?_
  refine lv_iload hx hb dL_law_374 (lv_at hl 5 rfl) ?_
  refine lv_iconst (v := 2) hx hb dL_law_376 (by decide) ?_
  refine lv_iadd hx hb dL_law_377 ?_
  obtain ⟨h1, hw⟩ := hw
  refine va_sld hx hb hX hbl (Nat.not_le.mpr hbl) P.2.2.1 h1 dL_law_378 ?_
  refine lv_aload_n hx hb dL_law_379 rfl (lv_at hl 3 rfl) ?_
  refine cl_i C P (run_SX C P hl.1 (met_L_terrain (CF_n C) G H.size _ _ S u1 (xs ((y5 + 1) : Int32).toNatClampNeg) (xs ((y5 + 2) : Int32).toNatClampNeg) u3 p_u1 p_u3 hw) q_657 q_658 q_0 q_659 cd_L_terrain.2 ⟨(Nat.le_of_ble_eq_true rfl), (Nat.le_of_ble_eq_true rfl)⟩ rfl rfl (As := [.ref u1, .int (xs ((y5 + 1) : Int32).toNatClampNeg), .int (xs ((y5 + 2) : Int32).toNatClampNeg), .ref u3]) (rest := []) rfl rfl (Nat.le_of_ble_eq_true rfl) dL_law_380 ⟨by show cells + 1 ≤ 600006; omega, by show slots + 6 ≤ 7302056; omega⟩) kx_no (fun r2 S1 H locs P hE hw => ?_)
  have p_u1 : pI S1 8 u1 := pI_x hE p_u1
  have p_u2 : pI S1 9 u2 := pI_x hE p_u2
  have p_u3 : pI S1 16 u3 := pI_x hE p_u3
  have p_u4 : pI S1 17 u4 := pI_x hE p_u4
  refine lv_istore (lv' := [(6, .int r2), (0, .ref b), (1, .ref u1), (2, .ref u2), (3, .ref u3), (4, .ref u4), (5, .int y5)]) hx hb dL_law_383 hl (by decide) rfl (fun ls hl => ?_)
  refine lv_aload_n hx hb dL_law_385 rfl (lv_at hl 3 rfl) ?_
  refine lv_aload_n hx hb dL_law_386 rfl (lv_at hl 1 rfl) ?_
  refine lv_iload hx hb dL_law_387 (lv_at hl 6 rfl) ?_
  refine lv_iconst (v := 1) hx hb dL_law_389 (by decide) ?_
  refine lv_iadd hx hb dL_law_390 ?_
  obtain ⟨h1, hw⟩ := hw
  refine va_sld hx hb hX hbl (Nat.not_le.mpr hbl) P.2.2.1 h1 dL_law_391 ?_
  refine lv_aload_n hx hb dL_law_392 rfl (lv_at hl 1 rfl) ?_
  refine lv_iload hx hb dL_law_393 (lv_at hl 6 rfl) ?_
  refine lv_iconst (v := 2) hx hb dL_law_395 (by decide) ?_
  refine lv_iadd hx hb dL_law_396 ?_
  obtain ⟨h1, hw⟩ := hw
  refine va_sld hx hb hX hbl (Nat.not_le.mpr hbl) P.2.2.1 h1 dL_law_397 ?_
  refine cl_i C P (run_V C P hl.1 (kd := 9) (met_X9_terrain (CF_n C) G H.size _ _ S1 u2 (xs ((y5 + 1) : Int32).toNatClampNeg) (xs ((y5 + 2) : Int32).toNatClampNeg) p_u2 hw) p_u2 (by decide) rfl q_1405 q_1406 q_1407 q_10 q_1408 cd_X9_terrain ⟨(Nat.le_of_ble_eq_true rfl), (Nat.le_of_ble_eq_true rfl)⟩ rfl rfl (As := [.int (xs ((y5 + 1) : Int32).toNatClampNeg), .int (xs ((y5 + 2) : Int32).toNatClampNeg)]) (rest := []) rfl rfl (Nat.le_of_ble_eq_true rfl) dL_law_398 ⟨by show cells + 1 + 0 ≤ 600006; omega, by show slots + 6 + 0 ≤ 7302056; omega⟩) kx_no (fun r4 S3 H locs P hE hw => ?_)
  have p_u1 : pI S3 8 u1 := pI_x hE p_u1
  have p_u2 : pI S3 9 u2 := pI_x hE p_u2
  have p_u3 : pI S3 16 u3 := pI_x hE p_u3
  have p_u4 : pI S3 17 u4 := pI_x hE p_u4
  refine lv_istore (lv' := [(7, .int r4), (6, .int r2), (0, .ref b), (1, .ref u1), (2, .ref u2), (3, .ref u3), (4, .ref u4), (5, .int y5)]) hx hb dL_law_401 hl (by decide) rfl (fun ls hl => ?_)
  refine lv_aload_n hx hb dL_law_403 rfl (lv_at hl 4 rfl) ?_
  refine cl_i C P (run_V C P hl.1 (kd := 9) (met_X9_thrown (CF_n C) G H.size _ _ S3 u2 p_u2 hw) p_u2 (by decide) rfl q_1375 q_1376 q_1377 q_10 q_1378 cd_X9_thrown ⟨(Nat.le_of_ble_eq_true rfl), (Nat.le_of_ble_eq_true rfl)⟩ rfl rfl (As := []) (rest := []) rfl rfl (Nat.le_of_ble_eq_true rfl) dL_law_404 ⟨by show cells + 1 + 0 ≤ 600006; omega, by show slots + 6 + 0 ≤ 7302056; omega⟩) kx_no (fun r6 S5 H locs P hE hw => ?_)
  have p_u1 : pI S5 8 u1 := pI_x hE p_u1
  have p_u2 : pI S5 9 u2 := pI_x hE p_u2
  have p_u3 : pI S5 16 u3 := pI_x hE p_u3
  have p_u4 : pI S5 17 u4 := pI_x hE p_u4
  refine lv_iload hx hb dL_law_407 (lv_at hl 1 rfl) ?_
  refine lv_icmp_eq (tgt := 414) hx hb dL_law_409 (by decide) (fun hc => ?_) (fun hc => ?_)
  · have hw := hw.1 hc
    refine lv_iload hx hb dL_law_414 (lv_at hl 1 rfl) ?_
    refine lv_if_ne (tgt := 431) hx hb dL_law_416 (by decide) (fun hc => ?_) (fun hc => ?_)
    · have hw := hw.1 hc
      refine lv_goto (tgt := 2149) hx hb dL_law_431 (by decide) ?_
      refine lv_iinc (v := (y5 + 4)) (lv' := [(5, .int (y5 + 4)), (7, .int r4), (6, .int r2), (0, .ref b), (1, .ref u1), (2, .ref u2), (3, .ref u3), (4, .ref u4)]) hx hb dL_law_2149 hl (k := 7) rfl (by rfl) (by decide) rfl (fun ls hl => ?_)
      refine lv_goto (tgt := 28) hx hb dL_law_2152 (by decide) ?_
      exact kh28 S5 u1 u2 u3 u4 (y5 + 4) _ _ _ _ _ p_u1 p_u2 p_u3 p_u4 P (lv_sub hl [3, 4, 5, 6, 7, 0] rfl) (by omega) (by omega) hw
    · have hw := hw.2 hc
      refine lv_aload_n hx hb dL_law_419 rfl (lv_at hl 5 rfl) ?_
      refine lv_iconst (v := 0) hx hb dL_law_420 (by decide) ?_
      obtain ⟨h1, hw⟩ := hw
      refine ra_j C P p_u3 h1 dL_law_421 ?_
      refine lv_iload hx hb dL_law_422 (lv_at hl 0 rfl) ?_
      refine lv_i2l (v := (r4 : Int32).toInt64) hx hb dL_law_424 rfl ?_
      refine W.lcmp hx hb dL_law_425 ?_
      refine lv_if_eq (tgt := 431) hx hb dL_law_426 (by decide) (fun hc => ?_) (fun hc => ?_)
      · have hw := hw.1 hc
        refine lv_goto (tgt := 2149) hx hb dL_law_431 (by decide) ?_
        refine lv_iinc (v := (y5 + 4)) (lv' := [(5, .int (y5 + 4)), (7, .int r4), (6, .int r2), (0, .ref b), (1, .ref u1), (2, .ref u2), (3, .ref u3), (4, .ref u4)]) hx hb dL_law_2149 hl (k := 7) rfl (by rfl) (by decide) rfl (fun ls hl => ?_)
        refine lv_goto (tgt := 28) hx hb dL_law_2152 (by decide) ?_
        exact kh28 S5 u1 u2 u3 u4 (y5 + 4) _ _ _ _ _ p_u1 p_u2 p_u3 p_u4 P (lv_sub hl [3, 4, 5, 6, 7, 0] rfl) (by omega) (by omega) hw
      · have hw := hw.2 hc
        refine lv_iconst (v := 0) hx hb dL_law_429 (by decide) ?_
        exact hw.elim
  · have hw := hw.2 hc
    refine lv_iconst (v := 0) hx hb dL_law_412 (by decide) ?_
    exact hw.elim
def wL_law_500 (L : Nat) (xs : Nat → Int32) (k28 : MS → Nat → Nat → Nat → Nat → Int32 → Prop) (S : MS) (u1 : Nat) (u2 : Nat) (u3 : Nat) (u4 : Nat) (y5 : Int32) (z0 : Int64) (z1 : Int64) : Prop := (((lg_cmp z1 z0) = 0 → k28 S u1 u2 u3 u4 (y5 + 4)) ∧ (¬ (lg_cmp z1 z0) = 0 → False))
set_option maxHeartbeats 8000000 in
set_option maxRecDepth 100000 in
theorem tL_law_500 {p : Program} {l : Launch} {e : Env} {s : State} {m : MethodId} {below : List Frame} {meth : Method} {c : Code} {H : Heap} {locs : List Loc} {cells slots : Nat} {G : GP} {S0 : MS} {ls : Array Slot} {b L : Nat} {xs : Nat → Int32} (C : CF p l s m #[Value.ref b] meth c "SkirmishGridLaw" code 9 G (fun q => s.heap.size ≤ q)) (hr : meth.sig.returnType = ret) (hX : va_X b L xs s s.heap) (hbl : b < s.heap.size) (c0 s0 : Nat) (k28 : MS → Nat → Nat → Nat → Nat → Int32 → Prop) (kh28 : ∀ (S : MS) (u1 : Nat) (u2 : Nat) (u3 : Nat) (u4 : Nat) (y5 : Int32) (cells slots : Nat) (H : Heap) (locs : List Loc) (ls : Array Slot), pI S 8 u1 → pI S 9 u2 → pI S 16 u3 → pI S 17 u4 → PW G (fun q => s.heap.size ≤ q) s H locs S0 S → lv_has ls 9 [(0, .ref b), (1, .ref u1), (2, .ref u2), (3, .ref u3), (4, .ref u4), (5, .int y5)] → cells ≤ c0 + 5 → slots ≤ s0 + 30 → k28 S u1 u2 u3 u4 y5 → W p l e room_1 s m #[Value.ref b] below meth c H locs cells slots (lw_Z below #[Value.ref b] s) (F0 m 28 ls [])) (S : MS) (u1 : Nat) (u2 : Nat) (u3 : Nat) (u4 : Nat) (y5 : Int32) (z0 : Int64) (z1 : Int64) (p_u1 : pI S 8 u1) (p_u2 : pI S 9 u2) (p_u3 : pI S 16 u3) (p_u4 : pI S 17 u4) (P : PW G (fun q => s.heap.size ≤ q) s H locs S0 S) (hl : lv_has ls 9 [(0, .ref b), (1, .ref u1), (2, .ref u2), (3, .ref u3), (4, .ref u4), (5, .int y5)]) (hcc : cells + 0 ≤ c0 + 5) (hss : slots + 0 ≤ s0 + 30) (h0 : c0 + 5 ≤ 600006) (hs0 : s0 + 30 ≤ 7302056) (hw : wL_law_500 L xs k28 S u1 u2 u3 u4 y5 z0 z1) : W p l e room_1 s m #[Value.ref b] below meth c H locs cells slots (lw_Z below #[Value.ref b] s) (F0 m 500 ls [.long z0, .long z1]) := by
  have hx := CF_x C
  have hb := CF_b C
  unfold wL_law_500 at hw
  refine W.lcmp hx hb dL_law_500 ?_
  refine lv_if_eq (tgt := 506) hx hb dL_law_501 (by decide) (fun hc => ?_) (fun hc => ?_)
  · have hw := hw.1 hc
    refine lv_goto (tgt := 2149) hx hb dL_law_506 (by decide) ?_
    refine lv_iinc (v := (y5 + 4)) (lv' := [(5, .int (y5 + 4)), (0, .ref b), (1, .ref u1), (2, .ref u2), (3, .ref u3), (4, .ref u4)]) hx hb dL_law_2149 hl (k := 5) rfl (by rfl) (by decide) rfl (fun ls hl => ?_)
    refine lv_goto (tgt := 28) hx hb dL_law_2152 (by decide) ?_
    exact kh28 S u1 u2 u3 u4 (y5 + 4) _ _ _ _ _ p_u1 p_u2 p_u3 p_u4 P (lv_sub hl [1, 2, 3, 4, 5, 0] rfl) (by omega) (by omega) hw
  · have hw := hw.2 hc
    refine lv_iconst (v := 0) hx hb dL_law_504 (by decide) ?_
    exact hw.elim
def wL_law_434 (L : Nat) (xs : Nat → Int32) (k28 : MS → Nat → Nat → Nat → Nat → Int32 → Prop) (S : MS) (u1 : Nat) (u2 : Nat) (u3 : Nat) (u4 : Nat) (y5 : Int32) : Prop := (vp_in (y5 + 1) L ∧ (vp_in (y5 + 2) L ∧ wp_L_isSeen (fun r2 S1 => (vp_in (y5 + 1) L ∧ (vp_in (y5 + 2) L ∧ wp_X9_isSeen (fun r4 S3 => wp_X9_thrown (fun r6 S5 => ((r6 = r2 → ((¬ r2 = 0 → k28 S5 u1 u2 u3 u4 (y5 + 4)) ∧ (r2 = 0 → (vp_in 0 (mN S5 u3) ∧ ((r4 = 0 → wL_law_500 L xs k28 S5 u1 u2 u3 u4 y5 0 (mJ S5 u3 (0 : Int32).toNatClampNeg)) ∧ (¬ r4 = 0 → wL_law_500 L xs k28 S5 u1 u2 u3 u4 y5 1 (mJ S5 u3 (0 : Int32).toNatClampNeg))))))) ∧ (¬ r6 = r2 → False))) (fun _ _ => False) S3 u2) (fun _ _ => False) S1 u2 (xs ((y5 + 1) : Int32).toNatClampNeg) (xs ((y5 + 2) : Int32).toNatClampNeg)))) (fun _ _ => False) S u1 (xs ((y5 + 1) : Int32).toNatClampNeg) (xs ((y5 + 2) : Int32).toNatClampNeg) u3))
set_option maxHeartbeats 8000000 in
set_option maxRecDepth 100000 in
theorem tL_law_434 {p : Program} {l : Launch} {e : Env} {s : State} {m : MethodId} {below : List Frame} {meth : Method} {c : Code} {H : Heap} {locs : List Loc} {cells slots : Nat} {G : GP} {S0 : MS} {ls : Array Slot} {b L : Nat} {xs : Nat → Int32} (C : CF p l s m #[Value.ref b] meth c "SkirmishGridLaw" code 9 G (fun q => s.heap.size ≤ q)) (hr : meth.sig.returnType = ret) (hX : va_X b L xs s s.heap) (hbl : b < s.heap.size) (c0 s0 : Nat) (k28 : MS → Nat → Nat → Nat → Nat → Int32 → Prop) (kh28 : ∀ (S : MS) (u1 : Nat) (u2 : Nat) (u3 : Nat) (u4 : Nat) (y5 : Int32) (cells slots : Nat) (H : Heap) (locs : List Loc) (ls : Array Slot), pI S 8 u1 → pI S 9 u2 → pI S 16 u3 → pI S 17 u4 → PW G (fun q => s.heap.size ≤ q) s H locs S0 S → lv_has ls 9 [(0, .ref b), (1, .ref u1), (2, .ref u2), (3, .ref u3), (4, .ref u4), (5, .int y5)] → cells ≤ c0 + 5 → slots ≤ s0 + 30 → k28 S u1 u2 u3 u4 y5 → W p l e room_1 s m #[Value.ref b] below meth c H locs cells slots (lw_Z below #[Value.ref b] s) (F0 m 28 ls [])) (S : MS) (u1 : Nat) (u2 : Nat) (u3 : Nat) (u4 : Nat) (y5 : Int32) (p_u1 : pI S 8 u1) (p_u2 : pI S 9 u2) (p_u3 : pI S 16 u3) (p_u4 : pI S 17 u4) (P : PW G (fun q => s.heap.size ≤ q) s H locs S0 S) (hl : lv_has ls 9 [(0, .ref b), (1, .ref u1), (2, .ref u2), (3, .ref u3), (4, .ref u4), (5, .int y5)]) (hcc : cells + 2 ≤ c0 + 5) (hss : slots + 12 ≤ s0 + 30) (h0 : c0 + 5 ≤ 600006) (hs0 : s0 + 30 ≤ 7302056) (hw : wL_law_434 L xs k28 S u1 u2 u3 u4 y5) : W p l e room_1 s m #[Value.ref b] below meth c H locs cells slots (lw_Z below #[Value.ref b] s) (F0 m 434 ls []) := by
  have hx := CF_x C
  have hb := CF_b C
  unfold wL_law_434 at hw
  refine lv_aload_n hx hb dL_law_434 rfl (lv_at hl 1 rfl) ?_
  refine lv_aload_n hx hb dL_law_435 rfl (lv_at hl 0 rfl) ?_
  refine lv_iload hx hb dL_law_436 (lv_at hl 5 rfl) ?_
  refine lv_iconst (v := 1) hx hb dL_law_438 (by decide) ?_
  refine lv_iadd hx hb dL_law_439 ?_
  obtain ⟨h1, hw⟩ := hw
  refine va_sld hx hb hX hbl (Nat.not_le.mpr hbl) P.2.2.1 h1 dL_law_440 ?_
  refine lv_aload_n hx hb dL_law_441 rfl (lv_at hl 0 rfl) ?_
  refine lv_iload hx hb dL_law_442 (lv_at hl 5 rfl) ?_
  refine lv_iconst (v := 2) hx hb dL_law_444 (by decide) ?_
  refine lv_iadd hx hb dL_law_445 ?_
  obtain ⟨h1, hw⟩ := hw
  refine va_sld hx hb hX hbl (Nat.not_le.mpr hbl) P.2.2.1 h1 dL_law_446 ?_
  refine lv_aload_n hx hb dL_law_447 rfl (lv_at hl 3 rfl) ?_
  refine cl_i C P (run_SX C P hl.1 (met_L_isSeen (CF_n C) G H.size _ _ S u1 (xs ((y5 + 1) : Int32).toNatClampNeg) (xs ((y5 + 2) : Int32).toNatClampNeg) u3 p_u1 p_u3 hw) q_726 q_727 q_0 q_728 cd_L_isSeen.2 ⟨(Nat.le_of_ble_eq_true rfl), (Nat.le_of_ble_eq_true rfl)⟩ rfl rfl (As := [.ref u1, .int (xs ((y5 + 1) : Int32).toNatClampNeg), .int (xs ((y5 + 2) : Int32).toNatClampNeg), .ref u3]) (rest := []) rfl rfl (Nat.le_of_ble_eq_true rfl) dL_law_448 ⟨by show cells + 2 ≤ 600006; omega, by show slots + 12 ≤ 7302056; omega⟩) kx_no (fun r2 S1 H locs P hE hw => ?_)
  have p_u1 : pI S1 8 u1 := pI_x hE p_u1
  have p_u2 : pI S1 9 u2 := pI_x hE p_u2
  have p_u3 : pI S1 16 u3 := pI_x hE p_u3
  have p_u4 : pI S1 17 u4 := pI_x hE p_u4
  refine lv_istore (lv' := [(6, .int r2), (0, .ref b), (1, .ref u1), (2, .ref u2), (3, .ref u3), (4, .ref u4), (5, .int y5)]) hx hb dL_law_451 hl (by decide) rfl (fun ls hl => ?_)
  refine lv_aload_n hx hb dL_law_453 rfl (lv_at hl 3 rfl) ?_
  refine lv_aload_n hx hb dL_law_454 rfl (lv_at hl 1 rfl) ?_
  refine lv_iload hx hb dL_law_455 (lv_at hl 6 rfl) ?_
  refine lv_iconst (v := 1) hx hb dL_law_457 (by decide) ?_
  refine lv_iadd hx hb dL_law_458 ?_
  obtain ⟨h1, hw⟩ := hw
  refine va_sld hx hb hX hbl (Nat.not_le.mpr hbl) P.2.2.1 h1 dL_law_459 ?_
  refine lv_aload_n hx hb dL_law_460 rfl (lv_at hl 1 rfl) ?_
  refine lv_iload hx hb dL_law_461 (lv_at hl 6 rfl) ?_
  refine lv_iconst (v := 2) hx hb dL_law_463 (by decide) ?_
  refine lv_iadd hx hb dL_law_464 ?_
  obtain ⟨h1, hw⟩ := hw
  refine va_sld hx hb hX hbl (Nat.not_le.mpr hbl) P.2.2.1 h1 dL_law_465 ?_
  refine cl_i C P (run_V C P hl.1 (kd := 9) (met_X9_isSeen (CF_n C) G H.size _ _ S1 u2 (xs ((y5 + 1) : Int32).toNatClampNeg) (xs ((y5 + 2) : Int32).toNatClampNeg) p_u2 hw) p_u2 (by decide) rfl q_1409 q_1410 q_1411 q_10 q_1412 cd_X9_isSeen ⟨(Nat.le_of_ble_eq_true rfl), (Nat.le_of_ble_eq_true rfl)⟩ rfl rfl (As := [.int (xs ((y5 + 1) : Int32).toNatClampNeg), .int (xs ((y5 + 2) : Int32).toNatClampNeg)]) (rest := []) rfl rfl (Nat.le_of_ble_eq_true rfl) dL_law_466 ⟨by show cells + 2 + 0 ≤ 600006; omega, by show slots + 12 + 0 ≤ 7302056; omega⟩) kx_no (fun r4 S3 H locs P hE hw => ?_)
  have p_u1 : pI S3 8 u1 := pI_x hE p_u1
  have p_u2 : pI S3 9 u2 := pI_x hE p_u2
  have p_u3 : pI S3 16 u3 := pI_x hE p_u3
  have p_u4 : pI S3 17 u4 := pI_x hE p_u4
  refine lv_istore (lv' := [(7, .int r4), (6, .int r2), (0, .ref b), (1, .ref u1), (2, .ref u2), (3, .ref u3), (4, .ref u4), (5, .int y5)]) hx hb dL_law_469 hl (by decide) rfl (fun ls hl => ?_)
  refine lv_aload_n hx hb dL_law_471 rfl (lv_at hl 4 rfl) ?_
  refine cl_i C P (run_V C P hl.1 (kd := 9) (met_X9_thrown (CF_n C) G H.size _ _ S3 u2 p_u2 hw) p_u2 (by decide) rfl q_1375 q_1376 q_1377 q_10 q_1378 cd_X9_thrown ⟨(Nat.le_of_ble_eq_true rfl), (Nat.le_of_ble_eq_true rfl)⟩ rfl rfl (As := []) (rest := []) rfl rfl (Nat.le_of_ble_eq_true rfl) dL_law_472 ⟨by show cells + 2 + 0 ≤ 600006; omega, by show slots + 12 + 0 ≤ 7302056; omega⟩) kx_no (fun r6 S5 H locs P hE hw => ?_)
  have p_u1 : pI S5 8 u1 := pI_x hE p_u1
  have p_u2 : pI S5 9 u2 := pI_x hE p_u2
  have p_u3 : pI S5 16 u3 := pI_x hE p_u3
  have p_u4 : pI S5 17 u4 := pI_x hE p_u4
  refine lv_iload hx hb dL_law_475 (lv_at hl 1 rfl) ?_
  refine lv_icmp_eq (tgt := 482) hx hb dL_law_477 (by decide) (fun hc => ?_) (fun hc => ?_)
  · have hw := hw.1 hc
    refine lv_iload hx hb dL_law_482 (lv_at hl 1 rfl) ?_
    refine lv_if_ne (tgt := 506) hx hb dL_law_484 (by decide) (fun hc => ?_) (fun hc => ?_)
    · have hw := hw.1 hc
      refine lv_goto (tgt := 2149) hx hb dL_law_506 (by decide) ?_
      refine lv_iinc (v := (y5 + 4)) (lv' := [(5, .int (y5 + 4)), (7, .int r4), (6, .int r2), (0, .ref b), (1, .ref u1), (2, .ref u2), (3, .ref u3), (4, .ref u4)]) hx hb dL_law_2149 hl (k := 7) rfl (by rfl) (by decide) rfl (fun ls hl => ?_)
      refine lv_goto (tgt := 28) hx hb dL_law_2152 (by decide) ?_
      exact kh28 S5 u1 u2 u3 u4 (y5 + 4) _ _ _ _ _ p_u1 p_u2 p_u3 p_u4 P (lv_sub hl [3, 4, 5, 6, 7, 0] rfl) (by omega) (by omega) hw
    · have hw := hw.2 hc
      refine lv_aload_n hx hb dL_law_487 rfl (lv_at hl 5 rfl) ?_
      refine lv_iconst (v := 0) hx hb dL_law_488 (by decide) ?_
      obtain ⟨h1, hw⟩ := hw
      refine ra_j C P p_u3 h1 dL_law_489 ?_
      refine lv_iload hx hb dL_law_490 (lv_at hl 0 rfl) ?_
      refine lv_if_eq (tgt := 499) hx hb dL_law_492 (by decide) (fun hc => ?_) (fun hc => ?_)
      · have hw := hw.1 hc
        refine lv_lconst (v := 0) hx hb dL_law_499 (by decide) ?_
        exact tL_law_500 C hr hX hbl c0 s0 k28 kh28 S5 u1 u2 u3 u4 y5 0 (mJ S5 u3 (0 : Int32).toNatClampNeg) p_u1 p_u2 p_u3 p_u4 P (lv_sub hl [2, 3, 4, 5, 6, 7] rfl) (by omega) (by omega) h0 hs0 hw
      · have hw := hw.2 hc
        refine lv_lconst (v := 1) hx hb dL_law_495 (by decide) ?_
        refine lv_goto (tgt := 500) hx hb dL_law_496 (by decide) ?_
        exact tL_law_500 C hr hX hbl c0 s0 k28 kh28 S5 u1 u2 u3 u4 y5 1 (mJ S5 u3 (0 : Int32).toNatClampNeg) p_u1 p_u2 p_u3 p_u4 P (lv_sub hl [2, 3, 4, 5, 6, 7] rfl) (by omega) (by omega) h0 hs0 hw
  · have hw := hw.2 hc
    refine lv_iconst (v := 0) hx hb dL_law_480 (by decide) ?_
    exact hw.elim
def wL_law_509 (L : Nat) (xs : Nat → Int32) (k28 : MS → Nat → Nat → Nat → Nat → Int32 → Prop) (S : MS) (u1 : Nat) (u2 : Nat) (u3 : Nat) (u4 : Nat) (y5 : Int32) : Prop := (vp_in (y5 + 1) L ∧ (vp_in (y5 + 2) L ∧ wp_L_cover (fun r2 S1 => (vp_in (y5 + 1) L ∧ (vp_in (y5 + 2) L ∧ wp_X9_cover (fun r4 S3 => wp_X9_thrown (fun r6 S5 => ((r6 = r2 → ((¬ r2 = 0 → k28 S5 u1 u2 u3 u4 (y5 + 4)) ∧ (r2 = 0 → (vp_in 0 (mN S5 u3) ∧ (((lg_cmp (mJ S5 u3 (0 : Int32).toNatClampNeg) ((r4 : Int32).toInt64)) = 0 → k28 S5 u1 u2 u3 u4 (y5 + 4)) ∧ (¬ (lg_cmp (mJ S5 u3 (0 : Int32).toNatClampNeg) ((r4 : Int32).toInt64)) = 0 → False)))))) ∧ (¬ r6 = r2 → False))) (fun _ _ => False) S3 u2) (fun _ _ => False) S1 u2 (xs ((y5 + 1) : Int32).toNatClampNeg) (xs ((y5 + 2) : Int32).toNatClampNeg)))) (fun _ _ => False) S u1 (xs ((y5 + 1) : Int32).toNatClampNeg) (xs ((y5 + 2) : Int32).toNatClampNeg) u3))
set_option maxHeartbeats 8000000 in
set_option maxRecDepth 100000 in
theorem tL_law_509 {p : Program} {l : Launch} {e : Env} {s : State} {m : MethodId} {below : List Frame} {meth : Method} {c : Code} {H : Heap} {locs : List Loc} {cells slots : Nat} {G : GP} {S0 : MS} {ls : Array Slot} {b L : Nat} {xs : Nat → Int32} (C : CF p l s m #[Value.ref b] meth c "SkirmishGridLaw" code 9 G (fun q => s.heap.size ≤ q)) (hr : meth.sig.returnType = ret) (hX : va_X b L xs s s.heap) (hbl : b < s.heap.size) (c0 s0 : Nat) (k28 : MS → Nat → Nat → Nat → Nat → Int32 → Prop) (kh28 : ∀ (S : MS) (u1 : Nat) (u2 : Nat) (u3 : Nat) (u4 : Nat) (y5 : Int32) (cells slots : Nat) (H : Heap) (locs : List Loc) (ls : Array Slot), pI S 8 u1 → pI S 9 u2 → pI S 16 u3 → pI S 17 u4 → PW G (fun q => s.heap.size ≤ q) s H locs S0 S → lv_has ls 9 [(0, .ref b), (1, .ref u1), (2, .ref u2), (3, .ref u3), (4, .ref u4), (5, .int y5)] → cells ≤ c0 + 5 → slots ≤ s0 + 30 → k28 S u1 u2 u3 u4 y5 → W p l e room_1 s m #[Value.ref b] below meth c H locs cells slots (lw_Z below #[Value.ref b] s) (F0 m 28 ls [])) (S : MS) (u1 : Nat) (u2 : Nat) (u3 : Nat) (u4 : Nat) (y5 : Int32) (p_u1 : pI S 8 u1) (p_u2 : pI S 9 u2) (p_u3 : pI S 16 u3) (p_u4 : pI S 17 u4) (P : PW G (fun q => s.heap.size ≤ q) s H locs S0 S) (hl : lv_has ls 9 [(0, .ref b), (1, .ref u1), (2, .ref u2), (3, .ref u3), (4, .ref u4), (5, .int y5)]) (hcc : cells + 2 ≤ c0 + 5) (hss : slots + 12 ≤ s0 + 30) (h0 : c0 + 5 ≤ 600006) (hs0 : s0 + 30 ≤ 7302056) (hw : wL_law_509 L xs k28 S u1 u2 u3 u4 y5) : W p l e room_1 s m #[Value.ref b] below meth c H locs cells slots (lw_Z below #[Value.ref b] s) (F0 m 509 ls []) := by
  have hx := CF_x C
  have hb := CF_b C
  unfold wL_law_509 at hw
  refine lv_aload_n hx hb dL_law_509 rfl (lv_at hl 1 rfl) ?_
  refine lv_aload_n hx hb dL_law_510 rfl (lv_at hl 0 rfl) ?_
  refine lv_iload hx hb dL_law_511 (lv_at hl 5 rfl) ?_
  refine lv_iconst (v := 1) hx hb dL_law_513 (by decide) ?_
  refine lv_iadd hx hb dL_law_514 ?_
  obtain ⟨h1, hw⟩ := hw
  refine va_sld hx hb hX hbl (Nat.not_le.mpr hbl) P.2.2.1 h1 dL_law_515 ?_
  refine lv_aload_n hx hb dL_law_516 rfl (lv_at hl 0 rfl) ?_
  refine lv_iload hx hb dL_law_517 (lv_at hl 5 rfl) ?_
  refine lv_iconst (v := 2) hx hb dL_law_519 (by decide) ?_
  refine lv_iadd hx hb dL_law_520 ?_
  obtain ⟨h1, hw⟩ := hw
  refine va_sld hx hb hX hbl (Nat.not_le.mpr hbl) P.2.2.1 h1 dL_law_521 ?_
  refine lv_aload_n hx hb dL_law_522 rfl (lv_at hl 3 rfl) ?_
  refine cl_i C P (run_SX C P hl.1 (met_L_cover (CF_n C) G H.size _ _ S u1 (xs ((y5 + 1) : Int32).toNatClampNeg) (xs ((y5 + 2) : Int32).toNatClampNeg) u3 p_u1 p_u3 hw) q_761 q_762 q_0 q_763 cd_L_cover.2 ⟨(Nat.le_of_ble_eq_true rfl), (Nat.le_of_ble_eq_true rfl)⟩ rfl rfl (As := [.ref u1, .int (xs ((y5 + 1) : Int32).toNatClampNeg), .int (xs ((y5 + 2) : Int32).toNatClampNeg), .ref u3]) (rest := []) rfl rfl (Nat.le_of_ble_eq_true rfl) dL_law_523 ⟨by show cells + 2 ≤ 600006; omega, by show slots + 12 ≤ 7302056; omega⟩) kx_no (fun r2 S1 H locs P hE hw => ?_)
  have p_u1 : pI S1 8 u1 := pI_x hE p_u1
  have p_u2 : pI S1 9 u2 := pI_x hE p_u2
  have p_u3 : pI S1 16 u3 := pI_x hE p_u3
  have p_u4 : pI S1 17 u4 := pI_x hE p_u4
  refine lv_istore (lv' := [(6, .int r2), (0, .ref b), (1, .ref u1), (2, .ref u2), (3, .ref u3), (4, .ref u4), (5, .int y5)]) hx hb dL_law_526 hl (by decide) rfl (fun ls hl => ?_)
  refine lv_aload_n hx hb dL_law_528 rfl (lv_at hl 3 rfl) ?_
  refine lv_aload_n hx hb dL_law_529 rfl (lv_at hl 1 rfl) ?_
  refine lv_iload hx hb dL_law_530 (lv_at hl 6 rfl) ?_
  refine lv_iconst (v := 1) hx hb dL_law_532 (by decide) ?_
  refine lv_iadd hx hb dL_law_533 ?_
  obtain ⟨h1, hw⟩ := hw
  refine va_sld hx hb hX hbl (Nat.not_le.mpr hbl) P.2.2.1 h1 dL_law_534 ?_
  refine lv_aload_n hx hb dL_law_535 rfl (lv_at hl 1 rfl) ?_
  refine lv_iload hx hb dL_law_536 (lv_at hl 6 rfl) ?_
  refine lv_iconst (v := 2) hx hb dL_law_538 (by decide) ?_
  refine lv_iadd hx hb dL_law_539 ?_
  obtain ⟨h1, hw⟩ := hw
  refine va_sld hx hb hX hbl (Nat.not_le.mpr hbl) P.2.2.1 h1 dL_law_540 ?_
  refine cl_i C P (run_V C P hl.1 (kd := 9) (met_X9_cover (CF_n C) G H.size _ _ S1 u2 (xs ((y5 + 1) : Int32).toNatClampNeg) (xs ((y5 + 2) : Int32).toNatClampNeg) p_u2 hw) p_u2 (by decide) rfl q_1437 q_1438 q_1439 q_10 q_1440 cd_X9_cover ⟨(Nat.le_of_ble_eq_true rfl), (Nat.le_of_ble_eq_true rfl)⟩ rfl rfl (As := [.int (xs ((y5 + 1) : Int32).toNatClampNeg), .int (xs ((y5 + 2) : Int32).toNatClampNeg)]) (rest := []) rfl rfl (Nat.le_of_ble_eq_true rfl) dL_law_541 ⟨by show cells + 2 + 0 ≤ 600006; omega, by show slots + 12 + 0 ≤ 7302056; omega⟩) kx_no (fun r4 S3 H locs P hE hw => ?_)
  have p_u1 : pI S3 8 u1 := pI_x hE p_u1
  have p_u2 : pI S3 9 u2 := pI_x hE p_u2
  have p_u3 : pI S3 16 u3 := pI_x hE p_u3
  have p_u4 : pI S3 17 u4 := pI_x hE p_u4
  refine lv_istore (lv' := [(7, .int r4), (6, .int r2), (0, .ref b), (1, .ref u1), (2, .ref u2), (3, .ref u3), (4, .ref u4), (5, .int y5)]) hx hb dL_law_544 hl (by decide) rfl (fun ls hl => ?_)
  refine lv_aload_n hx hb dL_law_546 rfl (lv_at hl 4 rfl) ?_
  refine cl_i C P (run_V C P hl.1 (kd := 9) (met_X9_thrown (CF_n C) G H.size _ _ S3 u2 p_u2 hw) p_u2 (by decide) rfl q_1375 q_1376 q_1377 q_10 q_1378 cd_X9_thrown ⟨(Nat.le_of_ble_eq_true rfl), (Nat.le_of_ble_eq_true rfl)⟩ rfl rfl (As := []) (rest := []) rfl rfl (Nat.le_of_ble_eq_true rfl) dL_law_547 ⟨by show cells + 2 + 0 ≤ 600006; omega, by show slots + 12 + 0 ≤ 7302056; omega⟩) kx_no (fun r6 S5 H locs P hE hw => ?_)
  have p_u1 : pI S5 8 u1 := pI_x hE p_u1
  have p_u2 : pI S5 9 u2 := pI_x hE p_u2
  have p_u3 : pI S5 16 u3 := pI_x hE p_u3
  have p_u4 : pI S5 17 u4 := pI_x hE p_u4
  refine lv_iload hx hb dL_law_550 (lv_at hl 1 rfl) ?_
  refine lv_icmp_eq (tgt := 557) hx hb dL_law_552 (by decide) (fun hc => ?_) (fun hc => ?_)
  · have hw := hw.1 hc
    refine lv_iload hx hb dL_law_557 (lv_at hl 1 rfl) ?_
    refine lv_if_ne (tgt := 574) hx hb dL_law_559 (by decide) (fun hc => ?_) (fun hc => ?_)
    · have hw := hw.1 hc
      refine lv_goto (tgt := 2149) hx hb dL_law_574 (by decide) ?_
      refine lv_iinc (v := (y5 + 4)) (lv' := [(5, .int (y5 + 4)), (7, .int r4), (6, .int r2), (0, .ref b), (1, .ref u1), (2, .ref u2), (3, .ref u3), (4, .ref u4)]) hx hb dL_law_2149 hl (k := 7) rfl (by rfl) (by decide) rfl (fun ls hl => ?_)
      refine lv_goto (tgt := 28) hx hb dL_law_2152 (by decide) ?_
      exact kh28 S5 u1 u2 u3 u4 (y5 + 4) _ _ _ _ _ p_u1 p_u2 p_u3 p_u4 P (lv_sub hl [3, 4, 5, 6, 7, 0] rfl) (by omega) (by omega) hw
    · have hw := hw.2 hc
      refine lv_aload_n hx hb dL_law_562 rfl (lv_at hl 5 rfl) ?_
      refine lv_iconst (v := 0) hx hb dL_law_563 (by decide) ?_
      obtain ⟨h1, hw⟩ := hw
      refine ra_j C P p_u3 h1 dL_law_564 ?_
      refine lv_iload hx hb dL_law_565 (lv_at hl 0 rfl) ?_
      refine lv_i2l (v := (r4 : Int32).toInt64) hx hb dL_law_567 rfl ?_
      refine W.lcmp hx hb dL_law_568 ?_
      refine lv_if_eq (tgt := 574) hx hb dL_law_569 (by decide) (fun hc => ?_) (fun hc => ?_)
      · have hw := hw.1 hc
        refine lv_goto (tgt := 2149) hx hb dL_law_574 (by decide) ?_
        refine lv_iinc (v := (y5 + 4)) (lv' := [(5, .int (y5 + 4)), (7, .int r4), (6, .int r2), (0, .ref b), (1, .ref u1), (2, .ref u2), (3, .ref u3), (4, .ref u4)]) hx hb dL_law_2149 hl (k := 7) rfl (by rfl) (by decide) rfl (fun ls hl => ?_)
        refine lv_goto (tgt := 28) hx hb dL_law_2152 (by decide) ?_
        exact kh28 S5 u1 u2 u3 u4 (y5 + 4) _ _ _ _ _ p_u1 p_u2 p_u3 p_u4 P (lv_sub hl [3, 4, 5, 6, 7, 0] rfl) (by omega) (by omega) hw
      · have hw := hw.2 hc
        refine lv_iconst (v := 0) hx hb dL_law_572 (by decide) ?_
        exact hw.elim
  · have hw := hw.2 hc
    refine lv_iconst (v := 0) hx hb dL_law_555 (by decide) ?_
    exact hw.elim
def wL_law_577 (L : Nat) (xs : Nat → Int32) (k28 : MS → Nat → Nat → Nat → Nat → Int32 → Prop) (S : MS) (u1 : Nat) (u2 : Nat) (u3 : Nat) (u4 : Nat) (y5 : Int32) : Prop := (vp_in (y5 + 1) L ∧ (vp_in (y5 + 2) L ∧ (vp_in (y5 + 3) L ∧ wp_L_addUnit (fun r2 S1 => (vp_in (y5 + 1) L ∧ (vp_in (y5 + 2) L ∧ (vp_in (y5 + 3) L ∧ wp_X9_addUnit (fun r4 S3 => wp_X9_thrown (fun r6 S5 => ((r6 = r2 → ((¬ r2 = 0 → k28 S5 u1 u2 u3 u4 (y5 + 4)) ∧ (r2 = 0 → (vp_in 0 (mN S5 u3) ∧ (((lg_cmp (mJ S5 u3 (0 : Int32).toNatClampNeg) ((r4 : Int32).toInt64)) = 0 → k28 S5 u1 u2 u3 u4 (y5 + 4)) ∧ (¬ (lg_cmp (mJ S5 u3 (0 : Int32).toNatClampNeg) ((r4 : Int32).toInt64)) = 0 → False)))))) ∧ (¬ r6 = r2 → False))) (fun _ _ => False) S3 u2) (fun _ _ => False) S1 u2 (xs ((y5 + 1) : Int32).toNatClampNeg) (xs ((y5 + 2) : Int32).toNatClampNeg) (xs ((y5 + 3) : Int32).toNatClampNeg))))) (fun _ _ => False) S u1 (xs ((y5 + 1) : Int32).toNatClampNeg) (xs ((y5 + 2) : Int32).toNatClampNeg) (xs ((y5 + 3) : Int32).toNatClampNeg) u3)))
set_option maxHeartbeats 8000000 in
set_option maxRecDepth 100000 in
theorem tL_law_577 {p : Program} {l : Launch} {e : Env} {s : State} {m : MethodId} {below : List Frame} {meth : Method} {c : Code} {H : Heap} {locs : List Loc} {cells slots : Nat} {G : GP} {S0 : MS} {ls : Array Slot} {b L : Nat} {xs : Nat → Int32} (C : CF p l s m #[Value.ref b] meth c "SkirmishGridLaw" code 9 G (fun q => s.heap.size ≤ q)) (hr : meth.sig.returnType = ret) (hX : va_X b L xs s s.heap) (hbl : b < s.heap.size) (c0 s0 : Nat) (k28 : MS → Nat → Nat → Nat → Nat → Int32 → Prop) (kh28 : ∀ (S : MS) (u1 : Nat) (u2 : Nat) (u3 : Nat) (u4 : Nat) (y5 : Int32) (cells slots : Nat) (H : Heap) (locs : List Loc) (ls : Array Slot), pI S 8 u1 → pI S 9 u2 → pI S 16 u3 → pI S 17 u4 → PW G (fun q => s.heap.size ≤ q) s H locs S0 S → lv_has ls 9 [(0, .ref b), (1, .ref u1), (2, .ref u2), (3, .ref u3), (4, .ref u4), (5, .int y5)] → cells ≤ c0 + 5 → slots ≤ s0 + 30 → k28 S u1 u2 u3 u4 y5 → W p l e room_1 s m #[Value.ref b] below meth c H locs cells slots (lw_Z below #[Value.ref b] s) (F0 m 28 ls [])) (S : MS) (u1 : Nat) (u2 : Nat) (u3 : Nat) (u4 : Nat) (y5 : Int32) (p_u1 : pI S 8 u1) (p_u2 : pI S 9 u2) (p_u3 : pI S 16 u3) (p_u4 : pI S 17 u4) (P : PW G (fun q => s.heap.size ≤ q) s H locs S0 S) (hl : lv_has ls 9 [(0, .ref b), (1, .ref u1), (2, .ref u2), (3, .ref u3), (4, .ref u4), (5, .int y5)]) (hcc : cells + 3 ≤ c0 + 5) (hss : slots + 18 ≤ s0 + 30) (h0 : c0 + 5 ≤ 600006) (hs0 : s0 + 30 ≤ 7302056) (hw : wL_law_577 L xs k28 S u1 u2 u3 u4 y5) : W p l e room_1 s m #[Value.ref b] below meth c H locs cells slots (lw_Z below #[Value.ref b] s) (F0 m 577 ls []) := by
  have hx := CF_x C
  have hb := CF_b C
  unfold wL_law_577 at hw
  refine lv_aload_n hx hb dL_law_577 rfl (lv_at hl 1 rfl) ?_
  refine lv_aload_n hx hb dL_law_578 rfl (lv_at hl 0 rfl) ?_
  refine lv_iload hx hb dL_law_579 (lv_at hl 5 rfl) ?_
  refine lv_iconst (v := 1) hx hb dL_law_581 (by decide) ?_
  refine lv_iadd hx hb dL_law_582 ?_
  obtain ⟨h1, hw⟩ := hw
  refine va_sld hx hb hX hbl (Nat.not_le.mpr hbl) P.2.2.1 h1 dL_law_583 ?_
  refine lv_aload_n hx hb dL_law_584 rfl (lv_at hl 0 rfl) ?_
  refine lv_iload hx hb dL_law_585 (lv_at hl 5 rfl) ?_
  refine lv_iconst (v := 2) hx hb dL_law_587 (by decide) ?_
  refine lv_iadd hx hb dL_law_588 ?_
  obtain ⟨h1, hw⟩ := hw
  refine va_sld hx hb hX hbl (Nat.not_le.mpr hbl) P.2.2.1 h1 dL_law_589 ?_
  refine lv_aload_n hx hb dL_law_590 rfl (lv_at hl 0 rfl) ?_
  refine lv_iload hx hb dL_law_591 (lv_at hl 5 rfl) ?_
  refine lv_iconst (v := 3) hx hb dL_law_593 (by decide) ?_
  refine lv_iadd hx hb dL_law_594 ?_
  obtain ⟨h1, hw⟩ := hw
  refine va_sld hx hb hX hbl (Nat.not_le.mpr hbl) P.2.2.1 h1 dL_law_595 ?_
  refine lv_aload_n hx hb dL_law_596 rfl (lv_at hl 3 rfl) ?_
  refine cl_i C P (run_SX C P hl.1 (met_L_addUnit (CF_n C) G H.size _ _ S u1 (xs ((y5 + 1) : Int32).toNatClampNeg) (xs ((y5 + 2) : Int32).toNatClampNeg) (xs ((y5 + 3) : Int32).toNatClampNeg) u3 p_u1 p_u3 hw) q_773 q_774 q_0 q_775 cd_L_addUnit.2 ⟨(Nat.le_of_ble_eq_true rfl), (Nat.le_of_ble_eq_true rfl)⟩ rfl rfl (As := [.ref u1, .int (xs ((y5 + 1) : Int32).toNatClampNeg), .int (xs ((y5 + 2) : Int32).toNatClampNeg), .int (xs ((y5 + 3) : Int32).toNatClampNeg), .ref u3]) (rest := []) rfl rfl (Nat.le_of_ble_eq_true rfl) dL_law_597 ⟨by show cells + 3 ≤ 600006; omega, by show slots + 18 ≤ 7302056; omega⟩) kx_no (fun r2 S1 H locs P hE hw => ?_)
  have p_u1 : pI S1 8 u1 := pI_x hE p_u1
  have p_u2 : pI S1 9 u2 := pI_x hE p_u2
  have p_u3 : pI S1 16 u3 := pI_x hE p_u3
  have p_u4 : pI S1 17 u4 := pI_x hE p_u4
  refine lv_istore (lv' := [(6, .int r2), (0, .ref b), (1, .ref u1), (2, .ref u2), (3, .ref u3), (4, .ref u4), (5, .int y5)]) hx hb dL_law_600 hl (by decide) rfl (fun ls hl => ?_)
  refine lv_aload_n hx hb dL_law_602 rfl (lv_at hl 3 rfl) ?_
  refine lv_aload_n hx hb dL_law_603 rfl (lv_at hl 1 rfl) ?_
  refine lv_iload hx hb dL_law_604 (lv_at hl 6 rfl) ?_
  refine lv_iconst (v := 1) hx hb dL_law_606 (by decide) ?_
  refine lv_iadd hx hb dL_law_607 ?_
  obtain ⟨h1, hw⟩ := hw
  refine va_sld hx hb hX hbl (Nat.not_le.mpr hbl) P.2.2.1 h1 dL_law_608 ?_
  refine lv_aload_n hx hb dL_law_609 rfl (lv_at hl 1 rfl) ?_
  refine lv_iload hx hb dL_law_610 (lv_at hl 6 rfl) ?_
  refine lv_iconst (v := 2) hx hb dL_law_612 (by decide) ?_
  refine lv_iadd hx hb dL_law_613 ?_
  obtain ⟨h1, hw⟩ := hw
  refine va_sld hx hb hX hbl (Nat.not_le.mpr hbl) P.2.2.1 h1 dL_law_614 ?_
  refine lv_aload_n hx hb dL_law_615 rfl (lv_at hl 1 rfl) ?_
  refine lv_iload hx hb dL_law_616 (lv_at hl 6 rfl) ?_
  refine lv_iconst (v := 3) hx hb dL_law_618 (by decide) ?_
  refine lv_iadd hx hb dL_law_619 ?_
  obtain ⟨h1, hw⟩ := hw
  refine va_sld hx hb hX hbl (Nat.not_le.mpr hbl) P.2.2.1 h1 dL_law_620 ?_
  refine cl_i C P (run_V C P hl.1 (kd := 9) (met_X9_addUnit (CF_n C) G H.size _ _ S1 u2 (xs ((y5 + 1) : Int32).toNatClampNeg) (xs ((y5 + 2) : Int32).toNatClampNeg) (xs ((y5 + 3) : Int32).toNatClampNeg) p_u2 hw) p_u2 (by decide) rfl q_1445 q_1446 q_1447 q_10 q_1448 cd_X9_addUnit ⟨(Nat.le_of_ble_eq_true rfl), (Nat.le_of_ble_eq_true rfl)⟩ rfl rfl (As := [.int (xs ((y5 + 1) : Int32).toNatClampNeg), .int (xs ((y5 + 2) : Int32).toNatClampNeg), .int (xs ((y5 + 3) : Int32).toNatClampNeg)]) (rest := []) rfl rfl (Nat.le_of_ble_eq_true rfl) dL_law_621 ⟨by show cells + 3 + 0 ≤ 600006; omega, by show slots + 18 + 0 ≤ 7302056; omega⟩) kx_no (fun r4 S3 H locs P hE hw => ?_)
  have p_u1 : pI S3 8 u1 := pI_x hE p_u1
  have p_u2 : pI S3 9 u2 := pI_x hE p_u2
  have p_u3 : pI S3 16 u3 := pI_x hE p_u3
  have p_u4 : pI S3 17 u4 := pI_x hE p_u4
  refine lv_istore (lv' := [(7, .int r4), (6, .int r2), (0, .ref b), (1, .ref u1), (2, .ref u2), (3, .ref u3), (4, .ref u4), (5, .int y5)]) hx hb dL_law_624 hl (by decide) rfl (fun ls hl => ?_)
  refine lv_aload_n hx hb dL_law_626 rfl (lv_at hl 4 rfl) ?_
  refine cl_i C P (run_V C P hl.1 (kd := 9) (met_X9_thrown (CF_n C) G H.size _ _ S3 u2 p_u2 hw) p_u2 (by decide) rfl q_1375 q_1376 q_1377 q_10 q_1378 cd_X9_thrown ⟨(Nat.le_of_ble_eq_true rfl), (Nat.le_of_ble_eq_true rfl)⟩ rfl rfl (As := []) (rest := []) rfl rfl (Nat.le_of_ble_eq_true rfl) dL_law_627 ⟨by show cells + 3 + 0 ≤ 600006; omega, by show slots + 18 + 0 ≤ 7302056; omega⟩) kx_no (fun r6 S5 H locs P hE hw => ?_)
  have p_u1 : pI S5 8 u1 := pI_x hE p_u1
  have p_u2 : pI S5 9 u2 := pI_x hE p_u2
  have p_u3 : pI S5 16 u3 := pI_x hE p_u3
  have p_u4 : pI S5 17 u4 := pI_x hE p_u4
  refine lv_iload hx hb dL_law_630 (lv_at hl 1 rfl) ?_
  refine lv_icmp_eq (tgt := 637) hx hb dL_law_632 (by decide) (fun hc => ?_) (fun hc => ?_)
  · have hw := hw.1 hc
    refine lv_iload hx hb dL_law_637 (lv_at hl 1 rfl) ?_
    refine lv_if_ne (tgt := 654) hx hb dL_law_639 (by decide) (fun hc => ?_) (fun hc => ?_)
    · have hw := hw.1 hc
      refine lv_goto (tgt := 2149) hx hb dL_law_654 (by decide) ?_
      refine lv_iinc (v := (y5 + 4)) (lv' := [(5, .int (y5 + 4)), (7, .int r4), (6, .int r2), (0, .ref b), (1, .ref u1), (2, .ref u2), (3, .ref u3), (4, .ref u4)]) hx hb dL_law_2149 hl (k := 7) rfl (by rfl) (by decide) rfl (fun ls hl => ?_)
      refine lv_goto (tgt := 28) hx hb dL_law_2152 (by decide) ?_
      exact kh28 S5 u1 u2 u3 u4 (y5 + 4) _ _ _ _ _ p_u1 p_u2 p_u3 p_u4 P (lv_sub hl [3, 4, 5, 6, 7, 0] rfl) (by omega) (by omega) hw
    · have hw := hw.2 hc
      refine lv_aload_n hx hb dL_law_642 rfl (lv_at hl 5 rfl) ?_
      refine lv_iconst (v := 0) hx hb dL_law_643 (by decide) ?_
      obtain ⟨h1, hw⟩ := hw
      refine ra_j C P p_u3 h1 dL_law_644 ?_
      refine lv_iload hx hb dL_law_645 (lv_at hl 0 rfl) ?_
      refine lv_i2l (v := (r4 : Int32).toInt64) hx hb dL_law_647 rfl ?_
      refine W.lcmp hx hb dL_law_648 ?_
      refine lv_if_eq (tgt := 654) hx hb dL_law_649 (by decide) (fun hc => ?_) (fun hc => ?_)
      · have hw := hw.1 hc
        refine lv_goto (tgt := 2149) hx hb dL_law_654 (by decide) ?_
        refine lv_iinc (v := (y5 + 4)) (lv' := [(5, .int (y5 + 4)), (7, .int r4), (6, .int r2), (0, .ref b), (1, .ref u1), (2, .ref u2), (3, .ref u3), (4, .ref u4)]) hx hb dL_law_2149 hl (k := 7) rfl (by rfl) (by decide) rfl (fun ls hl => ?_)
        refine lv_goto (tgt := 28) hx hb dL_law_2152 (by decide) ?_
        exact kh28 S5 u1 u2 u3 u4 (y5 + 4) _ _ _ _ _ p_u1 p_u2 p_u3 p_u4 P (lv_sub hl [3, 4, 5, 6, 7, 0] rfl) (by omega) (by omega) hw
      · have hw := hw.2 hc
        refine lv_iconst (v := 0) hx hb dL_law_652 (by decide) ?_
        exact hw.elim
  · have hw := hw.2 hc
    refine lv_iconst (v := 0) hx hb dL_law_635 (by decide) ?_
    exact hw.elim
def wL_law_657 (L : Nat) (xs : Nat → Int32) (k28 : MS → Nat → Nat → Nat → Nat → Int32 → Prop) (S : MS) (u1 : Nat) (u2 : Nat) (u3 : Nat) (u4 : Nat) (y5 : Int32) : Prop := wp_X8_unitCount (fun r2 S1 => wp_X9_unitCount (fun r4 S3 => ((r2 = r4 → k28 S3 u1 u2 u3 u4 (y5 + 4)) ∧ (¬ r2 = r4 → False))) (fun _ _ => False) S1 u2) (fun _ _ => False) S u1
set_option maxHeartbeats 8000000 in
set_option maxRecDepth 100000 in
theorem tL_law_657 {p : Program} {l : Launch} {e : Env} {s : State} {m : MethodId} {below : List Frame} {meth : Method} {c : Code} {H : Heap} {locs : List Loc} {cells slots : Nat} {G : GP} {S0 : MS} {ls : Array Slot} {b L : Nat} {xs : Nat → Int32} (C : CF p l s m #[Value.ref b] meth c "SkirmishGridLaw" code 9 G (fun q => s.heap.size ≤ q)) (hr : meth.sig.returnType = ret) (hX : va_X b L xs s s.heap) (hbl : b < s.heap.size) (c0 s0 : Nat) (k28 : MS → Nat → Nat → Nat → Nat → Int32 → Prop) (kh28 : ∀ (S : MS) (u1 : Nat) (u2 : Nat) (u3 : Nat) (u4 : Nat) (y5 : Int32) (cells slots : Nat) (H : Heap) (locs : List Loc) (ls : Array Slot), pI S 8 u1 → pI S 9 u2 → pI S 16 u3 → pI S 17 u4 → PW G (fun q => s.heap.size ≤ q) s H locs S0 S → lv_has ls 9 [(0, .ref b), (1, .ref u1), (2, .ref u2), (3, .ref u3), (4, .ref u4), (5, .int y5)] → cells ≤ c0 + 5 → slots ≤ s0 + 30 → k28 S u1 u2 u3 u4 y5 → W p l e room_1 s m #[Value.ref b] below meth c H locs cells slots (lw_Z below #[Value.ref b] s) (F0 m 28 ls [])) (S : MS) (u1 : Nat) (u2 : Nat) (u3 : Nat) (u4 : Nat) (y5 : Int32) (p_u1 : pI S 8 u1) (p_u2 : pI S 9 u2) (p_u3 : pI S 16 u3) (p_u4 : pI S 17 u4) (P : PW G (fun q => s.heap.size ≤ q) s H locs S0 S) (hl : lv_has ls 9 [(0, .ref b), (1, .ref u1), (2, .ref u2), (3, .ref u3), (4, .ref u4), (5, .int y5)]) (hcc : cells + 0 ≤ c0 + 5) (hss : slots + 0 ≤ s0 + 30) (h0 : c0 + 5 ≤ 600006) (hs0 : s0 + 30 ≤ 7302056) (hw : wL_law_657 L xs k28 S u1 u2 u3 u4 y5) : W p l e room_1 s m #[Value.ref b] below meth c H locs cells slots (lw_Z below #[Value.ref b] s) (F0 m 657 ls []) := by
  have hx := CF_x C
  have hb := CF_b C
  unfold wL_law_657 at hw
  refine lv_aload_n hx hb dL_law_657 rfl (lv_at hl 1 rfl) ?_
  refine cl_i C P (run_V C P hl.1 (kd := 8) (met_X8_unitCount (CF_n C) G H.size _ _ S u1 p_u1 hw) p_u1 (by decide) rfl q_339 q_340 q_341 q_1 q_342 cd_X8_unitCount ⟨(Nat.le_of_ble_eq_true rfl), (Nat.le_of_ble_eq_true rfl)⟩ rfl rfl (As := []) (rest := []) rfl rfl (Nat.le_of_ble_eq_true rfl) dL_law_658 ⟨by show cells + 0 ≤ 600006; omega, by show slots + 0 ≤ 7302056; omega⟩) kx_no (fun r2 S1 H locs P hE hw => ?_)
  have p_u1 : pI S1 8 u1 := pI_x hE p_u1
  have p_u2 : pI S1 9 u2 := pI_x hE p_u2
  have p_u3 : pI S1 16 u3 := pI_x hE p_u3
  have p_u4 : pI S1 17 u4 := pI_x hE p_u4
  refine lv_aload_n hx hb dL_law_661 rfl (lv_at hl 2 rfl) ?_
  refine cl_i C P (run_V C P hl.1 (kd := 9) (met_X9_unitCount (CF_n C) G H.size _ _ S1 u2 p_u2 hw) p_u2 (by decide) rfl q_1472 q_1473 q_1474 q_10 q_1475 cd_X9_unitCount ⟨(Nat.le_of_ble_eq_true rfl), (Nat.le_of_ble_eq_true rfl)⟩ rfl rfl (As := []) (rest := [.int r2]) rfl rfl (Nat.le_of_ble_eq_true rfl) dL_law_662 ⟨by show cells + 0 ≤ 600006; omega, by show slots + 0 ≤ 7302056; omega⟩) kx_no (fun r4 S3 H locs P hE hw => ?_)
  have p_u1 : pI S3 8 u1 := pI_x hE p_u1
  have p_u2 : pI S3 9 u2 := pI_x hE p_u2
  have p_u3 : pI S3 16 u3 := pI_x hE p_u3
  have p_u4 : pI S3 17 u4 := pI_x hE p_u4
  refine lv_icmp_eq (tgt := 2149) hx hb dL_law_665 (by decide) (fun hc => ?_) (fun hc => ?_)
  · have hw := hw.1 hc
    refine lv_iinc (v := (y5 + 4)) (lv' := [(5, .int (y5 + 4)), (0, .ref b), (1, .ref u1), (2, .ref u2), (3, .ref u3), (4, .ref u4)]) hx hb dL_law_2149 hl (k := 5) rfl (by rfl) (by decide) rfl (fun ls hl => ?_)
    refine lv_goto (tgt := 28) hx hb dL_law_2152 (by decide) ?_
    exact kh28 S3 u1 u2 u3 u4 (y5 + 4) _ _ _ _ _ p_u1 p_u2 p_u3 p_u4 P (lv_sub hl [1, 2, 3, 4, 5, 0] rfl) (by omega) (by omega) hw
  · have hw := hw.2 hc
    refine lv_iconst (v := 0) hx hb dL_law_668 (by decide) ?_
    exact hw.elim
def wL_law_670 (L : Nat) (xs : Nat → Int32) (k28 : MS → Nat → Nat → Nat → Nat → Int32 → Prop) (S : MS) (u1 : Nat) (u2 : Nat) (u3 : Nat) (u4 : Nat) (y5 : Int32) : Prop := (vp_in (y5 + 1) L ∧ (vp_in (y5 + 2) L ∧ wp_L_unit (fun r2 S1 => (vp_in (y5 + 1) L ∧ (vp_in (y5 + 2) L ∧ wp_X9_unit (fun r4 S3 => wp_X9_thrown (fun r6 S5 => ((r6 = r2 → ((¬ r2 = 0 → k28 S5 u1 u2 u3 u4 (y5 + 4)) ∧ (r2 = 0 → (vp_in 0 (mN S5 u3) ∧ (((lg_cmp (mJ S5 u3 (0 : Int32).toNatClampNeg) ((r4 : Int32).toInt64)) = 0 → k28 S5 u1 u2 u3 u4 (y5 + 4)) ∧ (¬ (lg_cmp (mJ S5 u3 (0 : Int32).toNatClampNeg) ((r4 : Int32).toInt64)) = 0 → False)))))) ∧ (¬ r6 = r2 → False))) (fun _ _ => False) S3 u2) (fun _ _ => False) S1 u2 (xs ((y5 + 1) : Int32).toNatClampNeg) (xs ((y5 + 2) : Int32).toNatClampNeg)))) (fun _ _ => False) S u1 (xs ((y5 + 1) : Int32).toNatClampNeg) (xs ((y5 + 2) : Int32).toNatClampNeg) u3))
set_option maxHeartbeats 8000000 in
set_option maxRecDepth 100000 in
theorem tL_law_670 {p : Program} {l : Launch} {e : Env} {s : State} {m : MethodId} {below : List Frame} {meth : Method} {c : Code} {H : Heap} {locs : List Loc} {cells slots : Nat} {G : GP} {S0 : MS} {ls : Array Slot} {b L : Nat} {xs : Nat → Int32} (C : CF p l s m #[Value.ref b] meth c "SkirmishGridLaw" code 9 G (fun q => s.heap.size ≤ q)) (hr : meth.sig.returnType = ret) (hX : va_X b L xs s s.heap) (hbl : b < s.heap.size) (c0 s0 : Nat) (k28 : MS → Nat → Nat → Nat → Nat → Int32 → Prop) (kh28 : ∀ (S : MS) (u1 : Nat) (u2 : Nat) (u3 : Nat) (u4 : Nat) (y5 : Int32) (cells slots : Nat) (H : Heap) (locs : List Loc) (ls : Array Slot), pI S 8 u1 → pI S 9 u2 → pI S 16 u3 → pI S 17 u4 → PW G (fun q => s.heap.size ≤ q) s H locs S0 S → lv_has ls 9 [(0, .ref b), (1, .ref u1), (2, .ref u2), (3, .ref u3), (4, .ref u4), (5, .int y5)] → cells ≤ c0 + 5 → slots ≤ s0 + 30 → k28 S u1 u2 u3 u4 y5 → W p l e room_1 s m #[Value.ref b] below meth c H locs cells slots (lw_Z below #[Value.ref b] s) (F0 m 28 ls [])) (S : MS) (u1 : Nat) (u2 : Nat) (u3 : Nat) (u4 : Nat) (y5 : Int32) (p_u1 : pI S 8 u1) (p_u2 : pI S 9 u2) (p_u3 : pI S 16 u3) (p_u4 : pI S 17 u4) (P : PW G (fun q => s.heap.size ≤ q) s H locs S0 S) (hl : lv_has ls 9 [(0, .ref b), (1, .ref u1), (2, .ref u2), (3, .ref u3), (4, .ref u4), (5, .int y5)]) (hcc : cells + 2 ≤ c0 + 5) (hss : slots + 12 ≤ s0 + 30) (h0 : c0 + 5 ≤ 600006) (hs0 : s0 + 30 ≤ 7302056) (hw : wL_law_670 L xs k28 S u1 u2 u3 u4 y5) : W p l e room_1 s m #[Value.ref b] below meth c H locs cells slots (lw_Z below #[Value.ref b] s) (F0 m 670 ls []) := by
  have hx := CF_x C
  have hb := CF_b C
  unfold wL_law_670 at hw
  refine lv_aload_n hx hb dL_law_670 rfl (lv_at hl 1 rfl) ?_
  refine lv_aload_n hx hb dL_law_671 rfl (lv_at hl 0 rfl) ?_
  refine lv_iload hx hb dL_law_672 (lv_at hl 5 rfl) ?_
  refine lv_iconst (v := 1) hx hb dL_law_674 (by decide) ?_
  refine lv_iadd hx hb dL_law_675 ?_
  obtain ⟨h1, hw⟩ := hw
  refine va_sld hx hb hX hbl (Nat.not_le.mpr hbl) P.2.2.1 h1 dL_law_676 ?_
  refine lv_aload_n hx hb dL_law_677 rfl (lv_at hl 0 rfl) ?_
  refine lv_iload hx hb dL_law_678 (lv_at hl 5 rfl) ?_
  refine lv_iconst (v := 2) hx hb dL_law_680 (by decide) ?_
  refine lv_iadd hx hb dL_law_681 ?_
  obtain ⟨h1, hw⟩ := hw
  refine va_sld hx hb hX hbl (Nat.not_le.mpr hbl) P.2.2.1 h1 dL_law_682 ?_
  refine lv_aload_n hx hb dL_law_683 rfl (lv_at hl 3 rfl) ?_
  refine cl_i C P (run_SX C P hl.1 (met_L_unit (CF_n C) G H.size _ _ S u1 (xs ((y5 + 1) : Int32).toNatClampNeg) (xs ((y5 + 2) : Int32).toNatClampNeg) u3 p_u1 p_u3 hw) q_805 q_806 q_0 q_807 cd_L_unit.2 ⟨(Nat.le_of_ble_eq_true rfl), (Nat.le_of_ble_eq_true rfl)⟩ rfl rfl (As := [.ref u1, .int (xs ((y5 + 1) : Int32).toNatClampNeg), .int (xs ((y5 + 2) : Int32).toNatClampNeg), .ref u3]) (rest := []) rfl rfl (Nat.le_of_ble_eq_true rfl) dL_law_684 ⟨by show cells + 2 ≤ 600006; omega, by show slots + 12 ≤ 7302056; omega⟩) kx_no (fun r2 S1 H locs P hE hw => ?_)
  have p_u1 : pI S1 8 u1 := pI_x hE p_u1
  have p_u2 : pI S1 9 u2 := pI_x hE p_u2
  have p_u3 : pI S1 16 u3 := pI_x hE p_u3
  have p_u4 : pI S1 17 u4 := pI_x hE p_u4
  refine lv_istore (lv' := [(6, .int r2), (0, .ref b), (1, .ref u1), (2, .ref u2), (3, .ref u3), (4, .ref u4), (5, .int y5)]) hx hb dL_law_687 hl (by decide) rfl (fun ls hl => ?_)
  refine lv_aload_n hx hb dL_law_689 rfl (lv_at hl 3 rfl) ?_
  refine lv_aload_n hx hb dL_law_690 rfl (lv_at hl 1 rfl) ?_
  refine lv_iload hx hb dL_law_691 (lv_at hl 6 rfl) ?_
  refine lv_iconst (v := 1) hx hb dL_law_693 (by decide) ?_
  refine lv_iadd hx hb dL_law_694 ?_
  obtain ⟨h1, hw⟩ := hw
  refine va_sld hx hb hX hbl (Nat.not_le.mpr hbl) P.2.2.1 h1 dL_law_695 ?_
  refine lv_aload_n hx hb dL_law_696 rfl (lv_at hl 1 rfl) ?_
  refine lv_iload hx hb dL_law_697 (lv_at hl 6 rfl) ?_
  refine lv_iconst (v := 2) hx hb dL_law_699 (by decide) ?_
  refine lv_iadd hx hb dL_law_700 ?_
  obtain ⟨h1, hw⟩ := hw
  refine va_sld hx hb hX hbl (Nat.not_le.mpr hbl) P.2.2.1 h1 dL_law_701 ?_
  refine cl_i C P (run_V C P hl.1 (kd := 9) (met_X9_unit (CF_n C) G H.size _ _ S1 u2 (xs ((y5 + 1) : Int32).toNatClampNeg) (xs ((y5 + 2) : Int32).toNatClampNeg) p_u2 hw) p_u2 (by decide) rfl q_1476 q_1477 q_1478 q_10 q_1479 cd_X9_unit ⟨(Nat.le_of_ble_eq_true rfl), (Nat.le_of_ble_eq_true rfl)⟩ rfl rfl (As := [.int (xs ((y5 + 1) : Int32).toNatClampNeg), .int (xs ((y5 + 2) : Int32).toNatClampNeg)]) (rest := []) rfl rfl (Nat.le_of_ble_eq_true rfl) dL_law_702 ⟨by show cells + 2 + 0 ≤ 600006; omega, by show slots + 12 + 0 ≤ 7302056; omega⟩) kx_no (fun r4 S3 H locs P hE hw => ?_)
  have p_u1 : pI S3 8 u1 := pI_x hE p_u1
  have p_u2 : pI S3 9 u2 := pI_x hE p_u2
  have p_u3 : pI S3 16 u3 := pI_x hE p_u3
  have p_u4 : pI S3 17 u4 := pI_x hE p_u4
  refine lv_istore (lv' := [(7, .int r4), (6, .int r2), (0, .ref b), (1, .ref u1), (2, .ref u2), (3, .ref u3), (4, .ref u4), (5, .int y5)]) hx hb dL_law_705 hl (by decide) rfl (fun ls hl => ?_)
  refine lv_aload_n hx hb dL_law_707 rfl (lv_at hl 4 rfl) ?_
  refine cl_i C P (run_V C P hl.1 (kd := 9) (met_X9_thrown (CF_n C) G H.size _ _ S3 u2 p_u2 hw) p_u2 (by decide) rfl q_1375 q_1376 q_1377 q_10 q_1378 cd_X9_thrown ⟨(Nat.le_of_ble_eq_true rfl), (Nat.le_of_ble_eq_true rfl)⟩ rfl rfl (As := []) (rest := []) rfl rfl (Nat.le_of_ble_eq_true rfl) dL_law_708 ⟨by show cells + 2 + 0 ≤ 600006; omega, by show slots + 12 + 0 ≤ 7302056; omega⟩) kx_no (fun r6 S5 H locs P hE hw => ?_)
  have p_u1 : pI S5 8 u1 := pI_x hE p_u1
  have p_u2 : pI S5 9 u2 := pI_x hE p_u2
  have p_u3 : pI S5 16 u3 := pI_x hE p_u3
  have p_u4 : pI S5 17 u4 := pI_x hE p_u4
  refine lv_iload hx hb dL_law_711 (lv_at hl 1 rfl) ?_
  refine lv_icmp_eq (tgt := 718) hx hb dL_law_713 (by decide) (fun hc => ?_) (fun hc => ?_)
  · have hw := hw.1 hc
    refine lv_iload hx hb dL_law_718 (lv_at hl 1 rfl) ?_
    refine lv_if_ne (tgt := 735) hx hb dL_law_720 (by decide) (fun hc => ?_) (fun hc => ?_)
    · have hw := hw.1 hc
      refine lv_goto (tgt := 2149) hx hb dL_law_735 (by decide) ?_
      refine lv_iinc (v := (y5 + 4)) (lv' := [(5, .int (y5 + 4)), (7, .int r4), (6, .int r2), (0, .ref b), (1, .ref u1), (2, .ref u2), (3, .ref u3), (4, .ref u4)]) hx hb dL_law_2149 hl (k := 7) rfl (by rfl) (by decide) rfl (fun ls hl => ?_)
      refine lv_goto (tgt := 28) hx hb dL_law_2152 (by decide) ?_
      exact kh28 S5 u1 u2 u3 u4 (y5 + 4) _ _ _ _ _ p_u1 p_u2 p_u3 p_u4 P (lv_sub hl [3, 4, 5, 6, 7, 0] rfl) (by omega) (by omega) hw
    · have hw := hw.2 hc
      refine lv_aload_n hx hb dL_law_723 rfl (lv_at hl 5 rfl) ?_
      refine lv_iconst (v := 0) hx hb dL_law_724 (by decide) ?_
      obtain ⟨h1, hw⟩ := hw
      refine ra_j C P p_u3 h1 dL_law_725 ?_
      refine lv_iload hx hb dL_law_726 (lv_at hl 0 rfl) ?_
      refine lv_i2l (v := (r4 : Int32).toInt64) hx hb dL_law_728 rfl ?_
      refine W.lcmp hx hb dL_law_729 ?_
      refine lv_if_eq (tgt := 735) hx hb dL_law_730 (by decide) (fun hc => ?_) (fun hc => ?_)
      · have hw := hw.1 hc
        refine lv_goto (tgt := 2149) hx hb dL_law_735 (by decide) ?_
        refine lv_iinc (v := (y5 + 4)) (lv' := [(5, .int (y5 + 4)), (7, .int r4), (6, .int r2), (0, .ref b), (1, .ref u1), (2, .ref u2), (3, .ref u3), (4, .ref u4)]) hx hb dL_law_2149 hl (k := 7) rfl (by rfl) (by decide) rfl (fun ls hl => ?_)
        refine lv_goto (tgt := 28) hx hb dL_law_2152 (by decide) ?_
        exact kh28 S5 u1 u2 u3 u4 (y5 + 4) _ _ _ _ _ p_u1 p_u2 p_u3 p_u4 P (lv_sub hl [3, 4, 5, 6, 7, 0] rfl) (by omega) (by omega) hw
      · have hw := hw.2 hc
        refine lv_iconst (v := 0) hx hb dL_law_733 (by decide) ?_
        exact hw.elim
  · have hw := hw.2 hc
    refine lv_iconst (v := 0) hx hb dL_law_716 (by decide) ?_
    exact hw.elim
def wL_law_738 (L : Nat) (xs : Nat → Int32) (k28 : MS → Nat → Nat → Nat → Nat → Int32 → Prop) (S : MS) (u1 : Nat) (u2 : Nat) (u3 : Nat) (u4 : Nat) (y5 : Int32) : Prop := wp_L_begin (fun r2 S1 => wp_X9_begin (fun r4 S3 => wp_X9_thrown (fun r6 S5 => ((r6 = r2 → ((¬ r2 = 0 → k28 S5 u1 u2 u3 u4 (y5 + 4)) ∧ (r2 = 0 → (vp_in 0 (mN S5 u3) ∧ (((lg_cmp (mJ S5 u3 (0 : Int32).toNatClampNeg) ((r4 : Int32).toInt64)) = 0 → k28 S5 u1 u2 u3 u4 (y5 + 4)) ∧ (¬ (lg_cmp (mJ S5 u3 (0 : Int32).toNatClampNeg) ((r4 : Int32).toInt64)) = 0 → False)))))) ∧ (¬ r6 = r2 → False))) (fun _ _ => False) S3 u2) (fun _ _ => False) S1 u2) (fun _ _ => False) S u1 u3
set_option maxHeartbeats 8000000 in
set_option maxRecDepth 100000 in
theorem tL_law_738 {p : Program} {l : Launch} {e : Env} {s : State} {m : MethodId} {below : List Frame} {meth : Method} {c : Code} {H : Heap} {locs : List Loc} {cells slots : Nat} {G : GP} {S0 : MS} {ls : Array Slot} {b L : Nat} {xs : Nat → Int32} (C : CF p l s m #[Value.ref b] meth c "SkirmishGridLaw" code 9 G (fun q => s.heap.size ≤ q)) (hr : meth.sig.returnType = ret) (hX : va_X b L xs s s.heap) (hbl : b < s.heap.size) (c0 s0 : Nat) (k28 : MS → Nat → Nat → Nat → Nat → Int32 → Prop) (kh28 : ∀ (S : MS) (u1 : Nat) (u2 : Nat) (u3 : Nat) (u4 : Nat) (y5 : Int32) (cells slots : Nat) (H : Heap) (locs : List Loc) (ls : Array Slot), pI S 8 u1 → pI S 9 u2 → pI S 16 u3 → pI S 17 u4 → PW G (fun q => s.heap.size ≤ q) s H locs S0 S → lv_has ls 9 [(0, .ref b), (1, .ref u1), (2, .ref u2), (3, .ref u3), (4, .ref u4), (5, .int y5)] → cells ≤ c0 + 5 → slots ≤ s0 + 30 → k28 S u1 u2 u3 u4 y5 → W p l e room_1 s m #[Value.ref b] below meth c H locs cells slots (lw_Z below #[Value.ref b] s) (F0 m 28 ls [])) (S : MS) (u1 : Nat) (u2 : Nat) (u3 : Nat) (u4 : Nat) (y5 : Int32) (p_u1 : pI S 8 u1) (p_u2 : pI S 9 u2) (p_u3 : pI S 16 u3) (p_u4 : pI S 17 u4) (P : PW G (fun q => s.heap.size ≤ q) s H locs S0 S) (hl : lv_has ls 9 [(0, .ref b), (1, .ref u1), (2, .ref u2), (3, .ref u3), (4, .ref u4), (5, .int y5)]) (hcc : cells + 1 ≤ c0 + 5) (hss : slots + 6 ≤ s0 + 30) (h0 : c0 + 5 ≤ 600006) (hs0 : s0 + 30 ≤ 7302056) (hw : wL_law_738 L xs k28 S u1 u2 u3 u4 y5) : W p l e room_1 s m #[Value.ref b] below meth c H locs cells slots (lw_Z below #[Value.ref b] s) (F0 m 738 ls []) := by
  have hx := CF_x C
  have hb := CF_b C
  unfold wL_law_738 at hw
  refine lv_aload_n hx hb dL_law_738 rfl (lv_at hl 1 rfl) ?_
  refine lv_aload_n hx hb dL_law_739 rfl (lv_at hl 3 rfl) ?_
  refine cl_i C P (run_SX C P hl.1 (met_L_begin (CF_n C) G H.size _ _ S u1 u3 p_u1 p_u3 hw) q_822 q_823 q_0 q_824 cd_L_begin.2 ⟨(Nat.le_of_ble_eq_true rfl), (Nat.le_of_ble_eq_true rfl)⟩ rfl rfl (As := [.ref u1, .ref u3]) (rest := []) rfl rfl (Nat.le_of_ble_eq_true rfl) dL_law_740 ⟨by show cells + 1 ≤ 600006; omega, by show slots + 6 ≤ 7302056; omega⟩) kx_no (fun r2 S1 H locs P hE hw => ?_)
  have p_u1 : pI S1 8 u1 := pI_x hE p_u1
  have p_u2 : pI S1 9 u2 := pI_x hE p_u2
  have p_u3 : pI S1 16 u3 := pI_x hE p_u3
  have p_u4 : pI S1 17 u4 := pI_x hE p_u4
  refine lv_istore (lv' := [(6, .int r2), (0, .ref b), (1, .ref u1), (2, .ref u2), (3, .ref u3), (4, .ref u4), (5, .int y5)]) hx hb dL_law_743 hl (by decide) rfl (fun ls hl => ?_)
  refine lv_aload_n hx hb dL_law_745 rfl (lv_at hl 3 rfl) ?_
  refine cl_i C P (run_V C P hl.1 (kd := 9) (met_X9_begin (CF_n C) G H.size _ _ S1 u2 p_u2 hw) p_u2 (by decide) rfl q_1508 q_1509 q_1510 q_10 q_1511 cd_X9_begin ⟨(Nat.le_of_ble_eq_true rfl), (Nat.le_of_ble_eq_true rfl)⟩ rfl rfl (As := []) (rest := []) rfl rfl (Nat.le_of_ble_eq_true rfl) dL_law_746 ⟨by show cells + 1 + 0 ≤ 600006; omega, by show slots + 6 + 0 ≤ 7302056; omega⟩) kx_no (fun r4 S3 H locs P hE hw => ?_)
  have p_u1 : pI S3 8 u1 := pI_x hE p_u1
  have p_u2 : pI S3 9 u2 := pI_x hE p_u2
  have p_u3 : pI S3 16 u3 := pI_x hE p_u3
  have p_u4 : pI S3 17 u4 := pI_x hE p_u4
  refine lv_istore (lv' := [(7, .int r4), (6, .int r2), (0, .ref b), (1, .ref u1), (2, .ref u2), (3, .ref u3), (4, .ref u4), (5, .int y5)]) hx hb dL_law_749 hl (by decide) rfl (fun ls hl => ?_)
  refine lv_aload_n hx hb dL_law_751 rfl (lv_at hl 4 rfl) ?_
  refine cl_i C P (run_V C P hl.1 (kd := 9) (met_X9_thrown (CF_n C) G H.size _ _ S3 u2 p_u2 hw) p_u2 (by decide) rfl q_1375 q_1376 q_1377 q_10 q_1378 cd_X9_thrown ⟨(Nat.le_of_ble_eq_true rfl), (Nat.le_of_ble_eq_true rfl)⟩ rfl rfl (As := []) (rest := []) rfl rfl (Nat.le_of_ble_eq_true rfl) dL_law_752 ⟨by show cells + 1 + 0 ≤ 600006; omega, by show slots + 6 + 0 ≤ 7302056; omega⟩) kx_no (fun r6 S5 H locs P hE hw => ?_)
  have p_u1 : pI S5 8 u1 := pI_x hE p_u1
  have p_u2 : pI S5 9 u2 := pI_x hE p_u2
  have p_u3 : pI S5 16 u3 := pI_x hE p_u3
  have p_u4 : pI S5 17 u4 := pI_x hE p_u4
  refine lv_iload hx hb dL_law_755 (lv_at hl 1 rfl) ?_
  refine lv_icmp_eq (tgt := 762) hx hb dL_law_757 (by decide) (fun hc => ?_) (fun hc => ?_)
  · have hw := hw.1 hc
    refine lv_iload hx hb dL_law_762 (lv_at hl 1 rfl) ?_
    refine lv_if_ne (tgt := 779) hx hb dL_law_764 (by decide) (fun hc => ?_) (fun hc => ?_)
    · have hw := hw.1 hc
      refine lv_goto (tgt := 2149) hx hb dL_law_779 (by decide) ?_
      refine lv_iinc (v := (y5 + 4)) (lv' := [(5, .int (y5 + 4)), (7, .int r4), (6, .int r2), (0, .ref b), (1, .ref u1), (2, .ref u2), (3, .ref u3), (4, .ref u4)]) hx hb dL_law_2149 hl (k := 7) rfl (by rfl) (by decide) rfl (fun ls hl => ?_)
      refine lv_goto (tgt := 28) hx hb dL_law_2152 (by decide) ?_
      exact kh28 S5 u1 u2 u3 u4 (y5 + 4) _ _ _ _ _ p_u1 p_u2 p_u3 p_u4 P (lv_sub hl [3, 4, 5, 6, 7, 0] rfl) (by omega) (by omega) hw
    · have hw := hw.2 hc
      refine lv_aload_n hx hb dL_law_767 rfl (lv_at hl 5 rfl) ?_
      refine lv_iconst (v := 0) hx hb dL_law_768 (by decide) ?_
      obtain ⟨h1, hw⟩ := hw
      refine ra_j C P p_u3 h1 dL_law_769 ?_
      refine lv_iload hx hb dL_law_770 (lv_at hl 0 rfl) ?_
      refine lv_i2l (v := (r4 : Int32).toInt64) hx hb dL_law_772 rfl ?_
      refine W.lcmp hx hb dL_law_773 ?_
      refine lv_if_eq (tgt := 779) hx hb dL_law_774 (by decide) (fun hc => ?_) (fun hc => ?_)
      · have hw := hw.1 hc
        refine lv_goto (tgt := 2149) hx hb dL_law_779 (by decide) ?_
        refine lv_iinc (v := (y5 + 4)) (lv' := [(5, .int (y5 + 4)), (7, .int r4), (6, .int r2), (0, .ref b), (1, .ref u1), (2, .ref u2), (3, .ref u3), (4, .ref u4)]) hx hb dL_law_2149 hl (k := 7) rfl (by rfl) (by decide) rfl (fun ls hl => ?_)
        refine lv_goto (tgt := 28) hx hb dL_law_2152 (by decide) ?_
        exact kh28 S5 u1 u2 u3 u4 (y5 + 4) _ _ _ _ _ p_u1 p_u2 p_u3 p_u4 P (lv_sub hl [3, 4, 5, 6, 7, 0] rfl) (by omega) (by omega) hw
      · have hw := hw.2 hc
        refine lv_iconst (v := 0) hx hb dL_law_777 (by decide) ?_
        exact hw.elim
  · have hw := hw.2 hc
    refine lv_iconst (v := 0) hx hb dL_law_760 (by decide) ?_
    exact hw.elim
def wL_law_782 (L : Nat) (xs : Nat → Int32) (k28 : MS → Nat → Nat → Nat → Nat → Int32 → Prop) (S : MS) (u1 : Nat) (u2 : Nat) (u3 : Nat) (u4 : Nat) (y5 : Int32) : Prop := wp_X8_condition (fun r2 S1 => wp_X9_condition (fun r4 S3 => ((r2 = r4 → k28 S3 u1 u2 u3 u4 (y5 + 4)) ∧ (¬ r2 = r4 → False))) (fun _ _ => False) S1 u2) (fun _ _ => False) S u1
set_option maxHeartbeats 8000000 in
set_option maxRecDepth 100000 in
theorem tL_law_782 {p : Program} {l : Launch} {e : Env} {s : State} {m : MethodId} {below : List Frame} {meth : Method} {c : Code} {H : Heap} {locs : List Loc} {cells slots : Nat} {G : GP} {S0 : MS} {ls : Array Slot} {b L : Nat} {xs : Nat → Int32} (C : CF p l s m #[Value.ref b] meth c "SkirmishGridLaw" code 9 G (fun q => s.heap.size ≤ q)) (hr : meth.sig.returnType = ret) (hX : va_X b L xs s s.heap) (hbl : b < s.heap.size) (c0 s0 : Nat) (k28 : MS → Nat → Nat → Nat → Nat → Int32 → Prop) (kh28 : ∀ (S : MS) (u1 : Nat) (u2 : Nat) (u3 : Nat) (u4 : Nat) (y5 : Int32) (cells slots : Nat) (H : Heap) (locs : List Loc) (ls : Array Slot), pI S 8 u1 → pI S 9 u2 → pI S 16 u3 → pI S 17 u4 → PW G (fun q => s.heap.size ≤ q) s H locs S0 S → lv_has ls 9 [(0, .ref b), (1, .ref u1), (2, .ref u2), (3, .ref u3), (4, .ref u4), (5, .int y5)] → cells ≤ c0 + 5 → slots ≤ s0 + 30 → k28 S u1 u2 u3 u4 y5 → W p l e room_1 s m #[Value.ref b] below meth c H locs cells slots (lw_Z below #[Value.ref b] s) (F0 m 28 ls [])) (S : MS) (u1 : Nat) (u2 : Nat) (u3 : Nat) (u4 : Nat) (y5 : Int32) (p_u1 : pI S 8 u1) (p_u2 : pI S 9 u2) (p_u3 : pI S 16 u3) (p_u4 : pI S 17 u4) (P : PW G (fun q => s.heap.size ≤ q) s H locs S0 S) (hl : lv_has ls 9 [(0, .ref b), (1, .ref u1), (2, .ref u2), (3, .ref u3), (4, .ref u4), (5, .int y5)]) (hcc : cells + 0 ≤ c0 + 5) (hss : slots + 0 ≤ s0 + 30) (h0 : c0 + 5 ≤ 600006) (hs0 : s0 + 30 ≤ 7302056) (hw : wL_law_782 L xs k28 S u1 u2 u3 u4 y5) : W p l e room_1 s m #[Value.ref b] below meth c H locs cells slots (lw_Z below #[Value.ref b] s) (F0 m 782 ls []) := by
  have hx := CF_x C
  have hb := CF_b C
  unfold wL_law_782 at hw
  refine lv_aload_n hx hb dL_law_782 rfl (lv_at hl 1 rfl) ?_
  refine cl_i C P (run_V C P hl.1 (kd := 8) (met_X8_condition (CF_n C) G H.size _ _ S u1 p_u1 hw) p_u1 (by decide) rfl q_343 q_344 q_345 q_1 q_346 cd_X8_condition ⟨(Nat.le_of_ble_eq_true rfl), (Nat.le_of_ble_eq_true rfl)⟩ rfl rfl (As := []) (rest := []) rfl rfl (Nat.le_of_ble_eq_true rfl) dL_law_783 ⟨by show cells + 0 ≤ 600006; omega, by show slots + 0 ≤ 7302056; omega⟩) kx_no (fun r2 S1 H locs P hE hw => ?_)
  have p_u1 : pI S1 8 u1 := pI_x hE p_u1
  have p_u2 : pI S1 9 u2 := pI_x hE p_u2
  have p_u3 : pI S1 16 u3 := pI_x hE p_u3
  have p_u4 : pI S1 17 u4 := pI_x hE p_u4
  refine lv_aload_n hx hb dL_law_786 rfl (lv_at hl 2 rfl) ?_
  refine cl_i C P (run_V C P hl.1 (kd := 9) (met_X9_condition (CF_n C) G H.size _ _ S1 u2 p_u2 hw) p_u2 (by decide) rfl q_1484 q_1485 q_1486 q_10 q_1487 cd_X9_condition ⟨(Nat.le_of_ble_eq_true rfl), (Nat.le_of_ble_eq_true rfl)⟩ rfl rfl (As := []) (rest := [.int r2]) rfl rfl (Nat.le_of_ble_eq_true rfl) dL_law_787 ⟨by show cells + 0 ≤ 600006; omega, by show slots + 0 ≤ 7302056; omega⟩) kx_no (fun r4 S3 H locs P hE hw => ?_)
  have p_u1 : pI S3 8 u1 := pI_x hE p_u1
  have p_u2 : pI S3 9 u2 := pI_x hE p_u2
  have p_u3 : pI S3 16 u3 := pI_x hE p_u3
  have p_u4 : pI S3 17 u4 := pI_x hE p_u4
  refine lv_icmp_eq (tgt := 2149) hx hb dL_law_790 (by decide) (fun hc => ?_) (fun hc => ?_)
  · have hw := hw.1 hc
    refine lv_iinc (v := (y5 + 4)) (lv' := [(5, .int (y5 + 4)), (0, .ref b), (1, .ref u1), (2, .ref u2), (3, .ref u3), (4, .ref u4)]) hx hb dL_law_2149 hl (k := 5) rfl (by rfl) (by decide) rfl (fun ls hl => ?_)
    refine lv_goto (tgt := 28) hx hb dL_law_2152 (by decide) ?_
    exact kh28 S3 u1 u2 u3 u4 (y5 + 4) _ _ _ _ _ p_u1 p_u2 p_u3 p_u4 P (lv_sub hl [1, 2, 3, 4, 5, 0] rfl) (by omega) (by omega) hw
  · have hw := hw.2 hc
    refine lv_iconst (v := 0) hx hb dL_law_793 (by decide) ?_
    exact hw.elim
def wL_law_795 (L : Nat) (xs : Nat → Int32) (k28 : MS → Nat → Nat → Nat → Nat → Int32 → Prop) (S : MS) (u1 : Nat) (u2 : Nat) (u3 : Nat) (u4 : Nat) (y5 : Int32) : Prop := wp_X8_round (fun r2 S1 => wp_X9_round (fun r4 S3 => ((r2 = r4 → k28 S3 u1 u2 u3 u4 (y5 + 4)) ∧ (¬ r2 = r4 → False))) (fun _ _ => False) S1 u2) (fun _ _ => False) S u1
set_option maxHeartbeats 8000000 in
set_option maxRecDepth 100000 in
theorem tL_law_795 {p : Program} {l : Launch} {e : Env} {s : State} {m : MethodId} {below : List Frame} {meth : Method} {c : Code} {H : Heap} {locs : List Loc} {cells slots : Nat} {G : GP} {S0 : MS} {ls : Array Slot} {b L : Nat} {xs : Nat → Int32} (C : CF p l s m #[Value.ref b] meth c "SkirmishGridLaw" code 9 G (fun q => s.heap.size ≤ q)) (hr : meth.sig.returnType = ret) (hX : va_X b L xs s s.heap) (hbl : b < s.heap.size) (c0 s0 : Nat) (k28 : MS → Nat → Nat → Nat → Nat → Int32 → Prop) (kh28 : ∀ (S : MS) (u1 : Nat) (u2 : Nat) (u3 : Nat) (u4 : Nat) (y5 : Int32) (cells slots : Nat) (H : Heap) (locs : List Loc) (ls : Array Slot), pI S 8 u1 → pI S 9 u2 → pI S 16 u3 → pI S 17 u4 → PW G (fun q => s.heap.size ≤ q) s H locs S0 S → lv_has ls 9 [(0, .ref b), (1, .ref u1), (2, .ref u2), (3, .ref u3), (4, .ref u4), (5, .int y5)] → cells ≤ c0 + 5 → slots ≤ s0 + 30 → k28 S u1 u2 u3 u4 y5 → W p l e room_1 s m #[Value.ref b] below meth c H locs cells slots (lw_Z below #[Value.ref b] s) (F0 m 28 ls [])) (S : MS) (u1 : Nat) (u2 : Nat) (u3 : Nat) (u4 : Nat) (y5 : Int32) (p_u1 : pI S 8 u1) (p_u2 : pI S 9 u2) (p_u3 : pI S 16 u3) (p_u4 : pI S 17 u4) (P : PW G (fun q => s.heap.size ≤ q) s H locs S0 S) (hl : lv_has ls 9 [(0, .ref b), (1, .ref u1), (2, .ref u2), (3, .ref u3), (4, .ref u4), (5, .int y5)]) (hcc : cells + 0 ≤ c0 + 5) (hss : slots + 0 ≤ s0 + 30) (h0 : c0 + 5 ≤ 600006) (hs0 : s0 + 30 ≤ 7302056) (hw : wL_law_795 L xs k28 S u1 u2 u3 u4 y5) : W p l e room_1 s m #[Value.ref b] below meth c H locs cells slots (lw_Z below #[Value.ref b] s) (F0 m 795 ls []) := by
  have hx := CF_x C
  have hb := CF_b C
  unfold wL_law_795 at hw
  refine lv_aload_n hx hb dL_law_795 rfl (lv_at hl 1 rfl) ?_
  refine cl_i C P (run_V C P hl.1 (kd := 8) (met_X8_round (CF_n C) G H.size _ _ S u1 p_u1 hw) p_u1 (by decide) rfl q_359 q_360 q_361 q_1 q_362 cd_X8_round ⟨(Nat.le_of_ble_eq_true rfl), (Nat.le_of_ble_eq_true rfl)⟩ rfl rfl (As := []) (rest := []) rfl rfl (Nat.le_of_ble_eq_true rfl) dL_law_796 ⟨by show cells + 0 ≤ 600006; omega, by show slots + 0 ≤ 7302056; omega⟩) kx_no (fun r2 S1 H locs P hE hw => ?_)
  have p_u1 : pI S1 8 u1 := pI_x hE p_u1
  have p_u2 : pI S1 9 u2 := pI_x hE p_u2
  have p_u3 : pI S1 16 u3 := pI_x hE p_u3
  have p_u4 : pI S1 17 u4 := pI_x hE p_u4
  refine lv_aload_n hx hb dL_law_799 rfl (lv_at hl 2 rfl) ?_
  refine cl_i C P (run_V C P hl.1 (kd := 9) (met_X9_round (CF_n C) G H.size _ _ S1 u2 p_u2 hw) p_u2 (by decide) rfl q_1496 q_1497 q_1498 q_10 q_1499 cd_X9_round ⟨(Nat.le_of_ble_eq_true rfl), (Nat.le_of_ble_eq_true rfl)⟩ rfl rfl (As := []) (rest := [.int r2]) rfl rfl (Nat.le_of_ble_eq_true rfl) dL_law_800 ⟨by show cells + 0 ≤ 600006; omega, by show slots + 0 ≤ 7302056; omega⟩) kx_no (fun r4 S3 H locs P hE hw => ?_)
  have p_u1 : pI S3 8 u1 := pI_x hE p_u1
  have p_u2 : pI S3 9 u2 := pI_x hE p_u2
  have p_u3 : pI S3 16 u3 := pI_x hE p_u3
  have p_u4 : pI S3 17 u4 := pI_x hE p_u4
  refine lv_icmp_eq (tgt := 2149) hx hb dL_law_803 (by decide) (fun hc => ?_) (fun hc => ?_)
  · have hw := hw.1 hc
    refine lv_iinc (v := (y5 + 4)) (lv' := [(5, .int (y5 + 4)), (0, .ref b), (1, .ref u1), (2, .ref u2), (3, .ref u3), (4, .ref u4)]) hx hb dL_law_2149 hl (k := 5) rfl (by rfl) (by decide) rfl (fun ls hl => ?_)
    refine lv_goto (tgt := 28) hx hb dL_law_2152 (by decide) ?_
    exact kh28 S3 u1 u2 u3 u4 (y5 + 4) _ _ _ _ _ p_u1 p_u2 p_u3 p_u4 P (lv_sub hl [1, 2, 3, 4, 5, 0] rfl) (by omega) (by omega) hw
  · have hw := hw.2 hc
    refine lv_iconst (v := 0) hx hb dL_law_806 (by decide) ?_
    exact hw.elim
def wL_law_808 (L : Nat) (xs : Nat → Int32) (k28 : MS → Nat → Nat → Nat → Nat → Int32 → Prop) (S : MS) (u1 : Nat) (u2 : Nat) (u3 : Nat) (u4 : Nat) (y5 : Int32) : Prop := wp_L_current (fun r2 S1 => wp_X9_current (fun r4 S3 => wp_X9_thrown (fun r6 S5 => ((r6 = r2 → ((¬ r2 = 0 → k28 S5 u1 u2 u3 u4 (y5 + 4)) ∧ (r2 = 0 → (vp_in 0 (mN S5 u3) ∧ (((lg_cmp (mJ S5 u3 (0 : Int32).toNatClampNeg) ((r4 : Int32).toInt64)) = 0 → k28 S5 u1 u2 u3 u4 (y5 + 4)) ∧ (¬ (lg_cmp (mJ S5 u3 (0 : Int32).toNatClampNeg) ((r4 : Int32).toInt64)) = 0 → False)))))) ∧ (¬ r6 = r2 → False))) (fun _ _ => False) S3 u2) (fun _ _ => False) S1 u2) (fun _ _ => False) S u1 u3
set_option maxHeartbeats 8000000 in
set_option maxRecDepth 100000 in
theorem tL_law_808 {p : Program} {l : Launch} {e : Env} {s : State} {m : MethodId} {below : List Frame} {meth : Method} {c : Code} {H : Heap} {locs : List Loc} {cells slots : Nat} {G : GP} {S0 : MS} {ls : Array Slot} {b L : Nat} {xs : Nat → Int32} (C : CF p l s m #[Value.ref b] meth c "SkirmishGridLaw" code 9 G (fun q => s.heap.size ≤ q)) (hr : meth.sig.returnType = ret) (hX : va_X b L xs s s.heap) (hbl : b < s.heap.size) (c0 s0 : Nat) (k28 : MS → Nat → Nat → Nat → Nat → Int32 → Prop) (kh28 : ∀ (S : MS) (u1 : Nat) (u2 : Nat) (u3 : Nat) (u4 : Nat) (y5 : Int32) (cells slots : Nat) (H : Heap) (locs : List Loc) (ls : Array Slot), pI S 8 u1 → pI S 9 u2 → pI S 16 u3 → pI S 17 u4 → PW G (fun q => s.heap.size ≤ q) s H locs S0 S → lv_has ls 9 [(0, .ref b), (1, .ref u1), (2, .ref u2), (3, .ref u3), (4, .ref u4), (5, .int y5)] → cells ≤ c0 + 5 → slots ≤ s0 + 30 → k28 S u1 u2 u3 u4 y5 → W p l e room_1 s m #[Value.ref b] below meth c H locs cells slots (lw_Z below #[Value.ref b] s) (F0 m 28 ls [])) (S : MS) (u1 : Nat) (u2 : Nat) (u3 : Nat) (u4 : Nat) (y5 : Int32) (p_u1 : pI S 8 u1) (p_u2 : pI S 9 u2) (p_u3 : pI S 16 u3) (p_u4 : pI S 17 u4) (P : PW G (fun q => s.heap.size ≤ q) s H locs S0 S) (hl : lv_has ls 9 [(0, .ref b), (1, .ref u1), (2, .ref u2), (3, .ref u3), (4, .ref u4), (5, .int y5)]) (hcc : cells + 1 ≤ c0 + 5) (hss : slots + 6 ≤ s0 + 30) (h0 : c0 + 5 ≤ 600006) (hs0 : s0 + 30 ≤ 7302056) (hw : wL_law_808 L xs k28 S u1 u2 u3 u4 y5) : W p l e room_1 s m #[Value.ref b] below meth c H locs cells slots (lw_Z below #[Value.ref b] s) (F0 m 808 ls []) := by
  have hx := CF_x C
  have hb := CF_b C
  unfold wL_law_808 at hw
  refine lv_aload_n hx hb dL_law_808 rfl (lv_at hl 1 rfl) ?_
  refine lv_aload_n hx hb dL_law_809 rfl (lv_at hl 3 rfl) ?_
  refine cl_i C P (run_SX C P hl.1 (met_L_current (CF_n C) G H.size _ _ S u1 u3 p_u1 p_u3 hw) q_871 q_872 q_0 q_873 cd_L_current.2 ⟨(Nat.le_of_ble_eq_true rfl), (Nat.le_of_ble_eq_true rfl)⟩ rfl rfl (As := [.ref u1, .ref u3]) (rest := []) rfl rfl (Nat.le_of_ble_eq_true rfl) dL_law_810 ⟨by show cells + 1 ≤ 600006; omega, by show slots + 6 ≤ 7302056; omega⟩) kx_no (fun r2 S1 H locs P hE hw => ?_)
  have p_u1 : pI S1 8 u1 := pI_x hE p_u1
  have p_u2 : pI S1 9 u2 := pI_x hE p_u2
  have p_u3 : pI S1 16 u3 := pI_x hE p_u3
  have p_u4 : pI S1 17 u4 := pI_x hE p_u4
  refine lv_istore (lv' := [(6, .int r2), (0, .ref b), (1, .ref u1), (2, .ref u2), (3, .ref u3), (4, .ref u4), (5, .int y5)]) hx hb dL_law_813 hl (by decide) rfl (fun ls hl => ?_)
  refine lv_aload_n hx hb dL_law_815 rfl (lv_at hl 3 rfl) ?_
  refine cl_i C P (run_V C P hl.1 (kd := 9) (met_X9_current (CF_n C) G H.size _ _ S1 u2 p_u2 hw) p_u2 (by decide) rfl q_1500 q_1501 q_1502 q_10 q_1503 cd_X9_current ⟨(Nat.le_of_ble_eq_true rfl), (Nat.le_of_ble_eq_true rfl)⟩ rfl rfl (As := []) (rest := []) rfl rfl (Nat.le_of_ble_eq_true rfl) dL_law_816 ⟨by show cells + 1 + 0 ≤ 600006; omega, by show slots + 6 + 0 ≤ 7302056; omega⟩) kx_no (fun r4 S3 H locs P hE hw => ?_)
  have p_u1 : pI S3 8 u1 := pI_x hE p_u1
  have p_u2 : pI S3 9 u2 := pI_x hE p_u2
  have p_u3 : pI S3 16 u3 := pI_x hE p_u3
  have p_u4 : pI S3 17 u4 := pI_x hE p_u4
  refine lv_istore (lv' := [(7, .int r4), (6, .int r2), (0, .ref b), (1, .ref u1), (2, .ref u2), (3, .ref u3), (4, .ref u4), (5, .int y5)]) hx hb dL_law_819 hl (by decide) rfl (fun ls hl => ?_)
  refine lv_aload_n hx hb dL_law_821 rfl (lv_at hl 4 rfl) ?_
  refine cl_i C P (run_V C P hl.1 (kd := 9) (met_X9_thrown (CF_n C) G H.size _ _ S3 u2 p_u2 hw) p_u2 (by decide) rfl q_1375 q_1376 q_1377 q_10 q_1378 cd_X9_thrown ⟨(Nat.le_of_ble_eq_true rfl), (Nat.le_of_ble_eq_true rfl)⟩ rfl rfl (As := []) (rest := []) rfl rfl (Nat.le_of_ble_eq_true rfl) dL_law_822 ⟨by show cells + 1 + 0 ≤ 600006; omega, by show slots + 6 + 0 ≤ 7302056; omega⟩) kx_no (fun r6 S5 H locs P hE hw => ?_)
  have p_u1 : pI S5 8 u1 := pI_x hE p_u1
  have p_u2 : pI S5 9 u2 := pI_x hE p_u2
  have p_u3 : pI S5 16 u3 := pI_x hE p_u3
  have p_u4 : pI S5 17 u4 := pI_x hE p_u4
  refine lv_iload hx hb dL_law_825 (lv_at hl 1 rfl) ?_
  refine lv_icmp_eq (tgt := 832) hx hb dL_law_827 (by decide) (fun hc => ?_) (fun hc => ?_)
  · have hw := hw.1 hc
    refine lv_iload hx hb dL_law_832 (lv_at hl 1 rfl) ?_
    refine lv_if_ne (tgt := 849) hx hb dL_law_834 (by decide) (fun hc => ?_) (fun hc => ?_)
    · have hw := hw.1 hc
      refine lv_goto (tgt := 2149) hx hb dL_law_849 (by decide) ?_
      refine lv_iinc (v := (y5 + 4)) (lv' := [(5, .int (y5 + 4)), (7, .int r4), (6, .int r2), (0, .ref b), (1, .ref u1), (2, .ref u2), (3, .ref u3), (4, .ref u4)]) hx hb dL_law_2149 hl (k := 7) rfl (by rfl) (by decide) rfl (fun ls hl => ?_)
      refine lv_goto (tgt := 28) hx hb dL_law_2152 (by decide) ?_
      exact kh28 S5 u1 u2 u3 u4 (y5 + 4) _ _ _ _ _ p_u1 p_u2 p_u3 p_u4 P (lv_sub hl [3, 4, 5, 6, 7, 0] rfl) (by omega) (by omega) hw
    · have hw := hw.2 hc
      refine lv_aload_n hx hb dL_law_837 rfl (lv_at hl 5 rfl) ?_
      refine lv_iconst (v := 0) hx hb dL_law_838 (by decide) ?_
      obtain ⟨h1, hw⟩ := hw
      refine ra_j C P p_u3 h1 dL_law_839 ?_
      refine lv_iload hx hb dL_law_840 (lv_at hl 0 rfl) ?_
      refine lv_i2l (v := (r4 : Int32).toInt64) hx hb dL_law_842 rfl ?_
      refine W.lcmp hx hb dL_law_843 ?_
      refine lv_if_eq (tgt := 849) hx hb dL_law_844 (by decide) (fun hc => ?_) (fun hc => ?_)
      · have hw := hw.1 hc
        refine lv_goto (tgt := 2149) hx hb dL_law_849 (by decide) ?_
        refine lv_iinc (v := (y5 + 4)) (lv' := [(5, .int (y5 + 4)), (7, .int r4), (6, .int r2), (0, .ref b), (1, .ref u1), (2, .ref u2), (3, .ref u3), (4, .ref u4)]) hx hb dL_law_2149 hl (k := 7) rfl (by rfl) (by decide) rfl (fun ls hl => ?_)
        refine lv_goto (tgt := 28) hx hb dL_law_2152 (by decide) ?_
        exact kh28 S5 u1 u2 u3 u4 (y5 + 4) _ _ _ _ _ p_u1 p_u2 p_u3 p_u4 P (lv_sub hl [3, 4, 5, 6, 7, 0] rfl) (by omega) (by omega) hw
      · have hw := hw.2 hc
        refine lv_iconst (v := 0) hx hb dL_law_847 (by decide) ?_
        exact hw.elim
  · have hw := hw.2 hc
    refine lv_iconst (v := 0) hx hb dL_law_830 (by decide) ?_
    exact hw.elim
def wL_law_852 (L : Nat) (xs : Nat → Int32) (k28 : MS → Nat → Nat → Nat → Nat → Int32 → Prop) (S : MS) (u1 : Nat) (u2 : Nat) (u3 : Nat) (u4 : Nat) (y5 : Int32) : Prop := (vp_in (y5 + 1) L ∧ wp_L_order (fun r2 S1 => (vp_in (y5 + 1) L ∧ wp_X9_order (fun r4 S3 => wp_X9_thrown (fun r6 S5 => ((r6 = r2 → ((¬ r2 = 0 → k28 S5 u1 u2 u3 u4 (y5 + 4)) ∧ (r2 = 0 → (vp_in 0 (mN S5 u3) ∧ (((lg_cmp (mJ S5 u3 (0 : Int32).toNatClampNeg) ((r4 : Int32).toInt64)) = 0 → k28 S5 u1 u2 u3 u4 (y5 + 4)) ∧ (¬ (lg_cmp (mJ S5 u3 (0 : Int32).toNatClampNeg) ((r4 : Int32).toInt64)) = 0 → False)))))) ∧ (¬ r6 = r2 → False))) (fun _ _ => False) S3 u2) (fun _ _ => False) S1 u2 (xs ((y5 + 1) : Int32).toNatClampNeg))) (fun _ _ => False) S u1 (xs ((y5 + 1) : Int32).toNatClampNeg) u3)
set_option maxHeartbeats 8000000 in
set_option maxRecDepth 100000 in
theorem tL_law_852 {p : Program} {l : Launch} {e : Env} {s : State} {m : MethodId} {below : List Frame} {meth : Method} {c : Code} {H : Heap} {locs : List Loc} {cells slots : Nat} {G : GP} {S0 : MS} {ls : Array Slot} {b L : Nat} {xs : Nat → Int32} (C : CF p l s m #[Value.ref b] meth c "SkirmishGridLaw" code 9 G (fun q => s.heap.size ≤ q)) (hr : meth.sig.returnType = ret) (hX : va_X b L xs s s.heap) (hbl : b < s.heap.size) (c0 s0 : Nat) (k28 : MS → Nat → Nat → Nat → Nat → Int32 → Prop) (kh28 : ∀ (S : MS) (u1 : Nat) (u2 : Nat) (u3 : Nat) (u4 : Nat) (y5 : Int32) (cells slots : Nat) (H : Heap) (locs : List Loc) (ls : Array Slot), pI S 8 u1 → pI S 9 u2 → pI S 16 u3 → pI S 17 u4 → PW G (fun q => s.heap.size ≤ q) s H locs S0 S → lv_has ls 9 [(0, .ref b), (1, .ref u1), (2, .ref u2), (3, .ref u3), (4, .ref u4), (5, .int y5)] → cells ≤ c0 + 5 → slots ≤ s0 + 30 → k28 S u1 u2 u3 u4 y5 → W p l e room_1 s m #[Value.ref b] below meth c H locs cells slots (lw_Z below #[Value.ref b] s) (F0 m 28 ls [])) (S : MS) (u1 : Nat) (u2 : Nat) (u3 : Nat) (u4 : Nat) (y5 : Int32) (p_u1 : pI S 8 u1) (p_u2 : pI S 9 u2) (p_u3 : pI S 16 u3) (p_u4 : pI S 17 u4) (P : PW G (fun q => s.heap.size ≤ q) s H locs S0 S) (hl : lv_has ls 9 [(0, .ref b), (1, .ref u1), (2, .ref u2), (3, .ref u3), (4, .ref u4), (5, .int y5)]) (hcc : cells + 1 ≤ c0 + 5) (hss : slots + 6 ≤ s0 + 30) (h0 : c0 + 5 ≤ 600006) (hs0 : s0 + 30 ≤ 7302056) (hw : wL_law_852 L xs k28 S u1 u2 u3 u4 y5) : W p l e room_1 s m #[Value.ref b] below meth c H locs cells slots (lw_Z below #[Value.ref b] s) (F0 m 852 ls []) := by
  have hx := CF_x C
  have hb := CF_b C
  unfold wL_law_852 at hw
  refine lv_aload_n hx hb dL_law_852 rfl (lv_at hl 1 rfl) ?_
  refine lv_aload_n hx hb dL_law_853 rfl (lv_at hl 0 rfl) ?_
  refine lv_iload hx hb dL_law_854 (lv_at hl 5 rfl) ?_
  refine lv_iconst (v := 1) hx hb dL_law_856 (by decide) ?_
  refine lv_iadd hx hb dL_law_857 ?_
  obtain ⟨h1, hw⟩ := hw
  refine va_sld hx hb hX hbl (Nat.not_le.mpr hbl) P.2.2.1 h1 dL_law_858 ?_
  refine lv_aload_n hx hb dL_law_859 rfl (lv_at hl 3 rfl) ?_
  refine cl_i C P (run_SX C P hl.1 (met_L_order (CF_n C) G H.size _ _ S u1 (xs ((y5 + 1) : Int32).toNatClampNeg) u3 p_u1 p_u3 hw) q_883 q_884 q_0 q_885 cd_L_order.2 ⟨(Nat.le_of_ble_eq_true rfl), (Nat.le_of_ble_eq_true rfl)⟩ rfl rfl (As := [.ref u1, .int (xs ((y5 + 1) : Int32).toNatClampNeg), .ref u3]) (rest := []) rfl rfl (Nat.le_of_ble_eq_true rfl) dL_law_860 ⟨by show cells + 1 ≤ 600006; omega, by show slots + 6 ≤ 7302056; omega⟩) kx_no (fun r2 S1 H locs P hE hw => ?_)
  have p_u1 : pI S1 8 u1 := pI_x hE p_u1
  have p_u2 : pI S1 9 u2 := pI_x hE p_u2
  have p_u3 : pI S1 16 u3 := pI_x hE p_u3
  have p_u4 : pI S1 17 u4 := pI_x hE p_u4
  refine lv_istore (lv' := [(6, .int r2), (0, .ref b), (1, .ref u1), (2, .ref u2), (3, .ref u3), (4, .ref u4), (5, .int y5)]) hx hb dL_law_863 hl (by decide) rfl (fun ls hl => ?_)
  refine lv_aload_n hx hb dL_law_865 rfl (lv_at hl 3 rfl) ?_
  refine lv_aload_n hx hb dL_law_866 rfl (lv_at hl 1 rfl) ?_
  refine lv_iload hx hb dL_law_867 (lv_at hl 6 rfl) ?_
  refine lv_iconst (v := 1) hx hb dL_law_869 (by decide) ?_
  refine lv_iadd hx hb dL_law_870 ?_
  obtain ⟨h1, hw⟩ := hw
  refine va_sld hx hb hX hbl (Nat.not_le.mpr hbl) P.2.2.1 h1 dL_law_871 ?_
  refine cl_i C P (run_V C P hl.1 (kd := 9) (met_X9_order (CF_n C) G H.size _ _ S1 u2 (xs ((y5 + 1) : Int32).toNatClampNeg) p_u2 hw) p_u2 (by decide) rfl q_1504 q_1505 q_1506 q_10 q_1507 cd_X9_order ⟨(Nat.le_of_ble_eq_true rfl), (Nat.le_of_ble_eq_true rfl)⟩ rfl rfl (As := [.int (xs ((y5 + 1) : Int32).toNatClampNeg)]) (rest := []) rfl rfl (Nat.le_of_ble_eq_true rfl) dL_law_872 ⟨by show cells + 1 + 0 ≤ 600006; omega, by show slots + 6 + 0 ≤ 7302056; omega⟩) kx_no (fun r4 S3 H locs P hE hw => ?_)
  have p_u1 : pI S3 8 u1 := pI_x hE p_u1
  have p_u2 : pI S3 9 u2 := pI_x hE p_u2
  have p_u3 : pI S3 16 u3 := pI_x hE p_u3
  have p_u4 : pI S3 17 u4 := pI_x hE p_u4
  refine lv_istore (lv' := [(7, .int r4), (6, .int r2), (0, .ref b), (1, .ref u1), (2, .ref u2), (3, .ref u3), (4, .ref u4), (5, .int y5)]) hx hb dL_law_875 hl (by decide) rfl (fun ls hl => ?_)
  refine lv_aload_n hx hb dL_law_877 rfl (lv_at hl 4 rfl) ?_
  refine cl_i C P (run_V C P hl.1 (kd := 9) (met_X9_thrown (CF_n C) G H.size _ _ S3 u2 p_u2 hw) p_u2 (by decide) rfl q_1375 q_1376 q_1377 q_10 q_1378 cd_X9_thrown ⟨(Nat.le_of_ble_eq_true rfl), (Nat.le_of_ble_eq_true rfl)⟩ rfl rfl (As := []) (rest := []) rfl rfl (Nat.le_of_ble_eq_true rfl) dL_law_878 ⟨by show cells + 1 + 0 ≤ 600006; omega, by show slots + 6 + 0 ≤ 7302056; omega⟩) kx_no (fun r6 S5 H locs P hE hw => ?_)
  have p_u1 : pI S5 8 u1 := pI_x hE p_u1
  have p_u2 : pI S5 9 u2 := pI_x hE p_u2
  have p_u3 : pI S5 16 u3 := pI_x hE p_u3
  have p_u4 : pI S5 17 u4 := pI_x hE p_u4
  refine lv_iload hx hb dL_law_881 (lv_at hl 1 rfl) ?_
  refine lv_icmp_eq (tgt := 888) hx hb dL_law_883 (by decide) (fun hc => ?_) (fun hc => ?_)
  · have hw := hw.1 hc
    refine lv_iload hx hb dL_law_888 (lv_at hl 1 rfl) ?_
    refine lv_if_ne (tgt := 905) hx hb dL_law_890 (by decide) (fun hc => ?_) (fun hc => ?_)
    · have hw := hw.1 hc
      refine lv_goto (tgt := 2149) hx hb dL_law_905 (by decide) ?_
      refine lv_iinc (v := (y5 + 4)) (lv' := [(5, .int (y5 + 4)), (7, .int r4), (6, .int r2), (0, .ref b), (1, .ref u1), (2, .ref u2), (3, .ref u3), (4, .ref u4)]) hx hb dL_law_2149 hl (k := 7) rfl (by rfl) (by decide) rfl (fun ls hl => ?_)
      refine lv_goto (tgt := 28) hx hb dL_law_2152 (by decide) ?_
      exact kh28 S5 u1 u2 u3 u4 (y5 + 4) _ _ _ _ _ p_u1 p_u2 p_u3 p_u4 P (lv_sub hl [3, 4, 5, 6, 7, 0] rfl) (by omega) (by omega) hw
    · have hw := hw.2 hc
      refine lv_aload_n hx hb dL_law_893 rfl (lv_at hl 5 rfl) ?_
      refine lv_iconst (v := 0) hx hb dL_law_894 (by decide) ?_
      obtain ⟨h1, hw⟩ := hw
      refine ra_j C P p_u3 h1 dL_law_895 ?_
      refine lv_iload hx hb dL_law_896 (lv_at hl 0 rfl) ?_
      refine lv_i2l (v := (r4 : Int32).toInt64) hx hb dL_law_898 rfl ?_
      refine W.lcmp hx hb dL_law_899 ?_
      refine lv_if_eq (tgt := 905) hx hb dL_law_900 (by decide) (fun hc => ?_) (fun hc => ?_)
      · have hw := hw.1 hc
        refine lv_goto (tgt := 2149) hx hb dL_law_905 (by decide) ?_
        refine lv_iinc (v := (y5 + 4)) (lv' := [(5, .int (y5 + 4)), (7, .int r4), (6, .int r2), (0, .ref b), (1, .ref u1), (2, .ref u2), (3, .ref u3), (4, .ref u4)]) hx hb dL_law_2149 hl (k := 7) rfl (by rfl) (by decide) rfl (fun ls hl => ?_)
        refine lv_goto (tgt := 28) hx hb dL_law_2152 (by decide) ?_
        exact kh28 S5 u1 u2 u3 u4 (y5 + 4) _ _ _ _ _ p_u1 p_u2 p_u3 p_u4 P (lv_sub hl [3, 4, 5, 6, 7, 0] rfl) (by omega) (by omega) hw
      · have hw := hw.2 hc
        refine lv_iconst (v := 0) hx hb dL_law_903 (by decide) ?_
        exact hw.elim
  · have hw := hw.2 hc
    refine lv_iconst (v := 0) hx hb dL_law_886 (by decide) ?_
    exact hw.elim
def wL_law_908 (L : Nat) (xs : Nat → Int32) (k28 : MS → Nat → Nat → Nat → Nat → Int32 → Prop) (S : MS) (u1 : Nat) (u2 : Nat) (u3 : Nat) (u4 : Nat) (y5 : Int32) : Prop := (vp_in (y5 + 1) L ∧ wp_L_costs (fun r2 S1 => (vp_in (y5 + 1) L ∧ wp_X9_costs (fun r4 S3 => wp_X9_thrown (fun r6 S5 => ((r6 = r2 → ((¬ r2 = 0 → k28 S5 u1 u2 u3 u4 (y5 + 4)) ∧ (r2 = 0 → (vp_in 0 (mN S5 u3) ∧ (((lg_cmp (mJ S5 u3 (0 : Int32).toNatClampNeg) ((r4 : Int32).toInt64)) = 0 → k28 S5 u1 u2 u3 u4 (y5 + 4)) ∧ (¬ (lg_cmp (mJ S5 u3 (0 : Int32).toNatClampNeg) ((r4 : Int32).toInt64)) = 0 → False)))))) ∧ (¬ r6 = r2 → False))) (fun _ _ => False) S3 u2) (fun _ _ => False) S1 u2 (xs ((y5 + 1) : Int32).toNatClampNeg))) (fun _ _ => False) S u1 (xs ((y5 + 1) : Int32).toNatClampNeg) u3)
set_option maxHeartbeats 8000000 in
set_option maxRecDepth 100000 in
theorem tL_law_908 {p : Program} {l : Launch} {e : Env} {s : State} {m : MethodId} {below : List Frame} {meth : Method} {c : Code} {H : Heap} {locs : List Loc} {cells slots : Nat} {G : GP} {S0 : MS} {ls : Array Slot} {b L : Nat} {xs : Nat → Int32} (C : CF p l s m #[Value.ref b] meth c "SkirmishGridLaw" code 9 G (fun q => s.heap.size ≤ q)) (hr : meth.sig.returnType = ret) (hX : va_X b L xs s s.heap) (hbl : b < s.heap.size) (c0 s0 : Nat) (k28 : MS → Nat → Nat → Nat → Nat → Int32 → Prop) (kh28 : ∀ (S : MS) (u1 : Nat) (u2 : Nat) (u3 : Nat) (u4 : Nat) (y5 : Int32) (cells slots : Nat) (H : Heap) (locs : List Loc) (ls : Array Slot), pI S 8 u1 → pI S 9 u2 → pI S 16 u3 → pI S 17 u4 → PW G (fun q => s.heap.size ≤ q) s H locs S0 S → lv_has ls 9 [(0, .ref b), (1, .ref u1), (2, .ref u2), (3, .ref u3), (4, .ref u4), (5, .int y5)] → cells ≤ c0 + 5 → slots ≤ s0 + 30 → k28 S u1 u2 u3 u4 y5 → W p l e room_1 s m #[Value.ref b] below meth c H locs cells slots (lw_Z below #[Value.ref b] s) (F0 m 28 ls [])) (S : MS) (u1 : Nat) (u2 : Nat) (u3 : Nat) (u4 : Nat) (y5 : Int32) (p_u1 : pI S 8 u1) (p_u2 : pI S 9 u2) (p_u3 : pI S 16 u3) (p_u4 : pI S 17 u4) (P : PW G (fun q => s.heap.size ≤ q) s H locs S0 S) (hl : lv_has ls 9 [(0, .ref b), (1, .ref u1), (2, .ref u2), (3, .ref u3), (4, .ref u4), (5, .int y5)]) (hcc : cells + 3 ≤ c0 + 5) (hss : slots + 18 ≤ s0 + 30) (h0 : c0 + 5 ≤ 600006) (hs0 : s0 + 30 ≤ 7302056) (hw : wL_law_908 L xs k28 S u1 u2 u3 u4 y5) : W p l e room_1 s m #[Value.ref b] below meth c H locs cells slots (lw_Z below #[Value.ref b] s) (F0 m 908 ls []) := by
  have hx := CF_x C
  have hb := CF_b C
  unfold wL_law_908 at hw
  refine lv_aload_n hx hb dL_law_908 rfl (lv_at hl 1 rfl) ?_
  refine lv_aload_n hx hb dL_law_909 rfl (lv_at hl 0 rfl) ?_
  refine lv_iload hx hb dL_law_910 (lv_at hl 5 rfl) ?_
  refine lv_iconst (v := 1) hx hb dL_law_912 (by decide) ?_
  refine lv_iadd hx hb dL_law_913 ?_
  obtain ⟨h1, hw⟩ := hw
  refine va_sld hx hb hX hbl (Nat.not_le.mpr hbl) P.2.2.1 h1 dL_law_914 ?_
  refine lv_aload_n hx hb dL_law_915 rfl (lv_at hl 3 rfl) ?_
  refine cl_i C P (run_SX C P hl.1 (met_L_costs (CF_n C) G H.size _ _ S u1 (xs ((y5 + 1) : Int32).toNatClampNeg) u3 p_u1 p_u3 hw) q_891 q_892 q_0 q_893 cd_L_costs.2 ⟨(Nat.le_of_ble_eq_true rfl), (Nat.le_of_ble_eq_true rfl)⟩ rfl rfl (As := [.ref u1, .int (xs ((y5 + 1) : Int32).toNatClampNeg), .ref u3]) (rest := []) rfl rfl (Nat.le_of_ble_eq_true rfl) dL_law_916 ⟨by show cells + 3 ≤ 600006; omega, by show slots + 18 ≤ 7302056; omega⟩) kx_no (fun r2 S1 H locs P hE hw => ?_)
  have p_u1 : pI S1 8 u1 := pI_x hE p_u1
  have p_u2 : pI S1 9 u2 := pI_x hE p_u2
  have p_u3 : pI S1 16 u3 := pI_x hE p_u3
  have p_u4 : pI S1 17 u4 := pI_x hE p_u4
  refine lv_istore (lv' := [(6, .int r2), (0, .ref b), (1, .ref u1), (2, .ref u2), (3, .ref u3), (4, .ref u4), (5, .int y5)]) hx hb dL_law_919 hl (by decide) rfl (fun ls hl => ?_)
  refine lv_aload_n hx hb dL_law_921 rfl (lv_at hl 3 rfl) ?_
  refine lv_aload_n hx hb dL_law_922 rfl (lv_at hl 1 rfl) ?_
  refine lv_iload hx hb dL_law_923 (lv_at hl 6 rfl) ?_
  refine lv_iconst (v := 1) hx hb dL_law_925 (by decide) ?_
  refine lv_iadd hx hb dL_law_926 ?_
  obtain ⟨h1, hw⟩ := hw
  refine va_sld hx hb hX hbl (Nat.not_le.mpr hbl) P.2.2.1 h1 dL_law_927 ?_
  refine cl_i C P (run_V C P hl.1 (kd := 9) (met_X9_costs (CF_n C) G H.size _ _ S1 u2 (xs ((y5 + 1) : Int32).toNatClampNeg) p_u2 hw) p_u2 (by decide) rfl q_1552 q_1553 q_1554 q_10 q_1555 cd_X9_costs ⟨(Nat.le_of_ble_eq_true rfl), (Nat.le_of_ble_eq_true rfl)⟩ rfl rfl (As := [.int (xs ((y5 + 1) : Int32).toNatClampNeg)]) (rest := []) rfl rfl (Nat.le_of_ble_eq_true rfl) dL_law_928 ⟨by show cells + 3 + 0 ≤ 600006; omega, by show slots + 18 + 0 ≤ 7302056; omega⟩) kx_no (fun r4 S3 H locs P hE hw => ?_)
  have p_u1 : pI S3 8 u1 := pI_x hE p_u1
  have p_u2 : pI S3 9 u2 := pI_x hE p_u2
  have p_u3 : pI S3 16 u3 := pI_x hE p_u3
  have p_u4 : pI S3 17 u4 := pI_x hE p_u4
  refine lv_istore (lv' := [(7, .int r4), (6, .int r2), (0, .ref b), (1, .ref u1), (2, .ref u2), (3, .ref u3), (4, .ref u4), (5, .int y5)]) hx hb dL_law_931 hl (by decide) rfl (fun ls hl => ?_)
  refine lv_aload_n hx hb dL_law_933 rfl (lv_at hl 4 rfl) ?_
  refine cl_i C P (run_V C P hl.1 (kd := 9) (met_X9_thrown (CF_n C) G H.size _ _ S3 u2 p_u2 hw) p_u2 (by decide) rfl q_1375 q_1376 q_1377 q_10 q_1378 cd_X9_thrown ⟨(Nat.le_of_ble_eq_true rfl), (Nat.le_of_ble_eq_true rfl)⟩ rfl rfl (As := []) (rest := []) rfl rfl (Nat.le_of_ble_eq_true rfl) dL_law_934 ⟨by show cells + 3 + 0 ≤ 600006; omega, by show slots + 18 + 0 ≤ 7302056; omega⟩) kx_no (fun r6 S5 H locs P hE hw => ?_)
  have p_u1 : pI S5 8 u1 := pI_x hE p_u1
  have p_u2 : pI S5 9 u2 := pI_x hE p_u2
  have p_u3 : pI S5 16 u3 := pI_x hE p_u3
  have p_u4 : pI S5 17 u4 := pI_x hE p_u4
  refine lv_iload hx hb dL_law_937 (lv_at hl 1 rfl) ?_
  refine lv_icmp_eq (tgt := 944) hx hb dL_law_939 (by decide) (fun hc => ?_) (fun hc => ?_)
  · have hw := hw.1 hc
    refine lv_iload hx hb dL_law_944 (lv_at hl 1 rfl) ?_
    refine lv_if_ne (tgt := 961) hx hb dL_law_946 (by decide) (fun hc => ?_) (fun hc => ?_)
    · have hw := hw.1 hc
      refine lv_goto (tgt := 2149) hx hb dL_law_961 (by decide) ?_
      refine lv_iinc (v := (y5 + 4)) (lv' := [(5, .int (y5 + 4)), (7, .int r4), (6, .int r2), (0, .ref b), (1, .ref u1), (2, .ref u2), (3, .ref u3), (4, .ref u4)]) hx hb dL_law_2149 hl (k := 7) rfl (by rfl) (by decide) rfl (fun ls hl => ?_)
      refine lv_goto (tgt := 28) hx hb dL_law_2152 (by decide) ?_
      exact kh28 S5 u1 u2 u3 u4 (y5 + 4) _ _ _ _ _ p_u1 p_u2 p_u3 p_u4 P (lv_sub hl [3, 4, 5, 6, 7, 0] rfl) (by omega) (by omega) hw
    · have hw := hw.2 hc
      refine lv_aload_n hx hb dL_law_949 rfl (lv_at hl 5 rfl) ?_
      refine lv_iconst (v := 0) hx hb dL_law_950 (by decide) ?_
      obtain ⟨h1, hw⟩ := hw
      refine ra_j C P p_u3 h1 dL_law_951 ?_
      refine lv_iload hx hb dL_law_952 (lv_at hl 0 rfl) ?_
      refine lv_i2l (v := (r4 : Int32).toInt64) hx hb dL_law_954 rfl ?_
      refine W.lcmp hx hb dL_law_955 ?_
      refine lv_if_eq (tgt := 961) hx hb dL_law_956 (by decide) (fun hc => ?_) (fun hc => ?_)
      · have hw := hw.1 hc
        refine lv_goto (tgt := 2149) hx hb dL_law_961 (by decide) ?_
        refine lv_iinc (v := (y5 + 4)) (lv' := [(5, .int (y5 + 4)), (7, .int r4), (6, .int r2), (0, .ref b), (1, .ref u1), (2, .ref u2), (3, .ref u3), (4, .ref u4)]) hx hb dL_law_2149 hl (k := 7) rfl (by rfl) (by decide) rfl (fun ls hl => ?_)
        refine lv_goto (tgt := 28) hx hb dL_law_2152 (by decide) ?_
        exact kh28 S5 u1 u2 u3 u4 (y5 + 4) _ _ _ _ _ p_u1 p_u2 p_u3 p_u4 P (lv_sub hl [3, 4, 5, 6, 7, 0] rfl) (by omega) (by omega) hw
      · have hw := hw.2 hc
        refine lv_iconst (v := 0) hx hb dL_law_959 (by decide) ?_
        exact hw.elim
  · have hw := hw.2 hc
    refine lv_iconst (v := 0) hx hb dL_law_942 (by decide) ?_
    exact hw.elim
def wL_law_964 (L : Nat) (xs : Nat → Int32) (k28 : MS → Nat → Nat → Nat → Nat → Int32 → Prop) (S : MS) (u1 : Nat) (u2 : Nat) (u3 : Nat) (u4 : Nat) (y5 : Int32) : Prop := (vp_in (y5 + 1) L ∧ (vp_in (y5 + 2) L ∧ wp_L_pathCell (fun r2 S1 => (vp_in (y5 + 1) L ∧ (vp_in (y5 + 2) L ∧ wp_X9_pathCell (fun r4 S3 => wp_X9_thrown (fun r6 S5 => ((r6 = r2 → ((¬ r2 = 0 → k28 S5 u1 u2 u3 u4 (y5 + 4)) ∧ (r2 = 0 → (vp_in 0 (mN S5 u3) ∧ (((lg_cmp (mJ S5 u3 (0 : Int32).toNatClampNeg) ((r4 : Int32).toInt64)) = 0 → k28 S5 u1 u2 u3 u4 (y5 + 4)) ∧ (¬ (lg_cmp (mJ S5 u3 (0 : Int32).toNatClampNeg) ((r4 : Int32).toInt64)) = 0 → False)))))) ∧ (¬ r6 = r2 → False))) (fun _ _ => False) S3 u2) (fun _ _ => False) S1 u2 (xs ((y5 + 1) : Int32).toNatClampNeg) (xs ((y5 + 2) : Int32).toNatClampNeg)))) (fun _ _ => False) S u1 (xs ((y5 + 1) : Int32).toNatClampNeg) (xs ((y5 + 2) : Int32).toNatClampNeg) u3))
set_option maxHeartbeats 8000000 in
set_option maxRecDepth 100000 in
theorem tL_law_964 {p : Program} {l : Launch} {e : Env} {s : State} {m : MethodId} {below : List Frame} {meth : Method} {c : Code} {H : Heap} {locs : List Loc} {cells slots : Nat} {G : GP} {S0 : MS} {ls : Array Slot} {b L : Nat} {xs : Nat → Int32} (C : CF p l s m #[Value.ref b] meth c "SkirmishGridLaw" code 9 G (fun q => s.heap.size ≤ q)) (hr : meth.sig.returnType = ret) (hX : va_X b L xs s s.heap) (hbl : b < s.heap.size) (c0 s0 : Nat) (k28 : MS → Nat → Nat → Nat → Nat → Int32 → Prop) (kh28 : ∀ (S : MS) (u1 : Nat) (u2 : Nat) (u3 : Nat) (u4 : Nat) (y5 : Int32) (cells slots : Nat) (H : Heap) (locs : List Loc) (ls : Array Slot), pI S 8 u1 → pI S 9 u2 → pI S 16 u3 → pI S 17 u4 → PW G (fun q => s.heap.size ≤ q) s H locs S0 S → lv_has ls 9 [(0, .ref b), (1, .ref u1), (2, .ref u2), (3, .ref u3), (4, .ref u4), (5, .int y5)] → cells ≤ c0 + 5 → slots ≤ s0 + 30 → k28 S u1 u2 u3 u4 y5 → W p l e room_1 s m #[Value.ref b] below meth c H locs cells slots (lw_Z below #[Value.ref b] s) (F0 m 28 ls [])) (S : MS) (u1 : Nat) (u2 : Nat) (u3 : Nat) (u4 : Nat) (y5 : Int32) (p_u1 : pI S 8 u1) (p_u2 : pI S 9 u2) (p_u3 : pI S 16 u3) (p_u4 : pI S 17 u4) (P : PW G (fun q => s.heap.size ≤ q) s H locs S0 S) (hl : lv_has ls 9 [(0, .ref b), (1, .ref u1), (2, .ref u2), (3, .ref u3), (4, .ref u4), (5, .int y5)]) (hcc : cells + 4 ≤ c0 + 5) (hss : slots + 24 ≤ s0 + 30) (h0 : c0 + 5 ≤ 600006) (hs0 : s0 + 30 ≤ 7302056) (hw : wL_law_964 L xs k28 S u1 u2 u3 u4 y5) : W p l e room_1 s m #[Value.ref b] below meth c H locs cells slots (lw_Z below #[Value.ref b] s) (F0 m 964 ls []) := by
  have hx := CF_x C
  have hb := CF_b C
  unfold wL_law_964 at hw
  refine lv_aload_n hx hb dL_law_964 rfl (lv_at hl 1 rfl) ?_
  refine lv_aload_n hx hb dL_law_965 rfl (lv_at hl 0 rfl) ?_
  refine lv_iload hx hb dL_law_966 (lv_at hl 5 rfl) ?_
  refine lv_iconst (v := 1) hx hb dL_law_968 (by decide) ?_
  refine lv_iadd hx hb dL_law_969 ?_
  obtain ⟨h1, hw⟩ := hw
  refine va_sld hx hb hX hbl (Nat.not_le.mpr hbl) P.2.2.1 h1 dL_law_970 ?_
  refine lv_aload_n hx hb dL_law_971 rfl (lv_at hl 0 rfl) ?_
  refine lv_iload hx hb dL_law_972 (lv_at hl 5 rfl) ?_
  refine lv_iconst (v := 2) hx hb dL_law_974 (by decide) ?_
  refine lv_iadd hx hb dL_law_975 ?_
  obtain ⟨h1, hw⟩ := hw
  refine va_sld hx hb hX hbl (Nat.not_le.mpr hbl) P.2.2.1 h1 dL_law_976 ?_
  refine lv_aload_n hx hb dL_law_977 rfl (lv_at hl 3 rfl) ?_
  refine cl_i C P (run_SX C P hl.1 (met_L_pathCell (CF_n C) G H.size _ _ S u1 (xs ((y5 + 1) : Int32).toNatClampNeg) (xs ((y5 + 2) : Int32).toNatClampNeg) u3 p_u1 p_u3 hw) q_937 q_938 q_0 q_939 cd_L_pathCell.2 ⟨(Nat.le_of_ble_eq_true rfl), (Nat.le_of_ble_eq_true rfl)⟩ rfl rfl (As := [.ref u1, .int (xs ((y5 + 1) : Int32).toNatClampNeg), .int (xs ((y5 + 2) : Int32).toNatClampNeg), .ref u3]) (rest := []) rfl rfl (Nat.le_of_ble_eq_true rfl) dL_law_978 ⟨by show cells + 4 ≤ 600006; omega, by show slots + 24 ≤ 7302056; omega⟩) kx_no (fun r2 S1 H locs P hE hw => ?_)
  have p_u1 : pI S1 8 u1 := pI_x hE p_u1
  have p_u2 : pI S1 9 u2 := pI_x hE p_u2
  have p_u3 : pI S1 16 u3 := pI_x hE p_u3
  have p_u4 : pI S1 17 u4 := pI_x hE p_u4
  refine lv_istore (lv' := [(6, .int r2), (0, .ref b), (1, .ref u1), (2, .ref u2), (3, .ref u3), (4, .ref u4), (5, .int y5)]) hx hb dL_law_981 hl (by decide) rfl (fun ls hl => ?_)
  refine lv_aload_n hx hb dL_law_983 rfl (lv_at hl 3 rfl) ?_
  refine lv_aload_n hx hb dL_law_984 rfl (lv_at hl 1 rfl) ?_
  refine lv_iload hx hb dL_law_985 (lv_at hl 6 rfl) ?_
  refine lv_iconst (v := 1) hx hb dL_law_987 (by decide) ?_
  refine lv_iadd hx hb dL_law_988 ?_
  obtain ⟨h1, hw⟩ := hw
  refine va_sld hx hb hX hbl (Nat.not_le.mpr hbl) P.2.2.1 h1 dL_law_989 ?_
  refine lv_aload_n hx hb dL_law_990 rfl (lv_at hl 1 rfl) ?_
  refine lv_iload hx hb dL_law_991 (lv_at hl 6 rfl) ?_
  refine lv_iconst (v := 2) hx hb dL_law_993 (by decide) ?_
  refine lv_iadd hx hb dL_law_994 ?_
  obtain ⟨h1, hw⟩ := hw
  refine va_sld hx hb hX hbl (Nat.not_le.mpr hbl) P.2.2.1 h1 dL_law_995 ?_
  refine cl_i C P (run_V C P hl.1 (kd := 9) (met_X9_pathCell (CF_n C) G H.size _ _ S1 u2 (xs ((y5 + 1) : Int32).toNatClampNeg) (xs ((y5 + 2) : Int32).toNatClampNeg) p_u2 hw) p_u2 (by decide) rfl q_1580 q_1581 q_1582 q_10 q_1583 cd_X9_pathCell ⟨(Nat.le_of_ble_eq_true rfl), (Nat.le_of_ble_eq_true rfl)⟩ rfl rfl (As := [.int (xs ((y5 + 1) : Int32).toNatClampNeg), .int (xs ((y5 + 2) : Int32).toNatClampNeg)]) (rest := []) rfl rfl (Nat.le_of_ble_eq_true rfl) dL_law_996 ⟨by show cells + 4 + 0 ≤ 600006; omega, by show slots + 24 + 0 ≤ 7302056; omega⟩) kx_no (fun r4 S3 H locs P hE hw => ?_)
  have p_u1 : pI S3 8 u1 := pI_x hE p_u1
  have p_u2 : pI S3 9 u2 := pI_x hE p_u2
  have p_u3 : pI S3 16 u3 := pI_x hE p_u3
  have p_u4 : pI S3 17 u4 := pI_x hE p_u4
  refine lv_istore (lv' := [(7, .int r4), (6, .int r2), (0, .ref b), (1, .ref u1), (2, .ref u2), (3, .ref u3), (4, .ref u4), (5, .int y5)]) hx hb dL_law_999 hl (by decide) rfl (fun ls hl => ?_)
  refine lv_aload_n hx hb dL_law_1001 rfl (lv_at hl 4 rfl) ?_
  refine cl_i C P (run_V C P hl.1 (kd := 9) (met_X9_thrown (CF_n C) G H.size _ _ S3 u2 p_u2 hw) p_u2 (by decide) rfl q_1375 q_1376 q_1377 q_10 q_1378 cd_X9_thrown ⟨(Nat.le_of_ble_eq_true rfl), (Nat.le_of_ble_eq_true rfl)⟩ rfl rfl (As := []) (rest := []) rfl rfl (Nat.le_of_ble_eq_true rfl) dL_law_1002 ⟨by show cells + 4 + 0 ≤ 600006; omega, by show slots + 24 + 0 ≤ 7302056; omega⟩) kx_no (fun r6 S5 H locs P hE hw => ?_)
  have p_u1 : pI S5 8 u1 := pI_x hE p_u1
  have p_u2 : pI S5 9 u2 := pI_x hE p_u2
  have p_u3 : pI S5 16 u3 := pI_x hE p_u3
  have p_u4 : pI S5 17 u4 := pI_x hE p_u4
  refine lv_iload hx hb dL_law_1005 (lv_at hl 1 rfl) ?_
  refine lv_icmp_eq (tgt := 1012) hx hb dL_law_1007 (by decide) (fun hc => ?_) (fun hc => ?_)
  · have hw := hw.1 hc
    refine lv_iload hx hb dL_law_1012 (lv_at hl 1 rfl) ?_
    refine lv_if_ne (tgt := 1029) hx hb dL_law_1014 (by decide) (fun hc => ?_) (fun hc => ?_)
    · have hw := hw.1 hc
      refine lv_goto (tgt := 2149) hx hb dL_law_1029 (by decide) ?_
      refine lv_iinc (v := (y5 + 4)) (lv' := [(5, .int (y5 + 4)), (7, .int r4), (6, .int r2), (0, .ref b), (1, .ref u1), (2, .ref u2), (3, .ref u3), (4, .ref u4)]) hx hb dL_law_2149 hl (k := 7) rfl (by rfl) (by decide) rfl (fun ls hl => ?_)
      refine lv_goto (tgt := 28) hx hb dL_law_2152 (by decide) ?_
      exact kh28 S5 u1 u2 u3 u4 (y5 + 4) _ _ _ _ _ p_u1 p_u2 p_u3 p_u4 P (lv_sub hl [3, 4, 5, 6, 7, 0] rfl) (by omega) (by omega) hw
    · have hw := hw.2 hc
      refine lv_aload_n hx hb dL_law_1017 rfl (lv_at hl 5 rfl) ?_
      refine lv_iconst (v := 0) hx hb dL_law_1018 (by decide) ?_
      obtain ⟨h1, hw⟩ := hw
      refine ra_j C P p_u3 h1 dL_law_1019 ?_
      refine lv_iload hx hb dL_law_1020 (lv_at hl 0 rfl) ?_
      refine lv_i2l (v := (r4 : Int32).toInt64) hx hb dL_law_1022 rfl ?_
      refine W.lcmp hx hb dL_law_1023 ?_
      refine lv_if_eq (tgt := 1029) hx hb dL_law_1024 (by decide) (fun hc => ?_) (fun hc => ?_)
      · have hw := hw.1 hc
        refine lv_goto (tgt := 2149) hx hb dL_law_1029 (by decide) ?_
        refine lv_iinc (v := (y5 + 4)) (lv' := [(5, .int (y5 + 4)), (7, .int r4), (6, .int r2), (0, .ref b), (1, .ref u1), (2, .ref u2), (3, .ref u3), (4, .ref u4)]) hx hb dL_law_2149 hl (k := 7) rfl (by rfl) (by decide) rfl (fun ls hl => ?_)
        refine lv_goto (tgt := 28) hx hb dL_law_2152 (by decide) ?_
        exact kh28 S5 u1 u2 u3 u4 (y5 + 4) _ _ _ _ _ p_u1 p_u2 p_u3 p_u4 P (lv_sub hl [3, 4, 5, 6, 7, 0] rfl) (by omega) (by omega) hw
      · have hw := hw.2 hc
        refine lv_iconst (v := 0) hx hb dL_law_1027 (by decide) ?_
        exact hw.elim
  · have hw := hw.2 hc
    refine lv_iconst (v := 0) hx hb dL_law_1010 (by decide) ?_
    exact hw.elim
def wL_law_1032 (L : Nat) (xs : Nat → Int32) (k28 : MS → Nat → Nat → Nat → Nat → Int32 → Prop) (S : MS) (u1 : Nat) (u2 : Nat) (u3 : Nat) (u4 : Nat) (y5 : Int32) : Prop := (vp_in (y5 + 1) L ∧ (vp_in (y5 + 2) L ∧ wp_L_chance (fun r2 S1 => (vp_in (y5 + 1) L ∧ (vp_in (y5 + 2) L ∧ wp_X9_chance (fun r4 S3 => wp_X9_thrown (fun r6 S5 => ((r6 = r2 → ((¬ r2 = 0 → k28 S5 u1 u2 u3 u4 (y5 + 4)) ∧ (r2 = 0 → (vp_in 0 (mN S5 u4) ∧ (((Op.cmpValue (FP.dcmp (mD S5 u4 (0 : Int32).toNatClampNeg) r4) CmpOp.l) = 0 → k28 S5 u1 u2 u3 u4 (y5 + 4)) ∧ (¬ (Op.cmpValue (FP.dcmp (mD S5 u4 (0 : Int32).toNatClampNeg) r4) CmpOp.l) = 0 → (vp_in 0 (mN S5 u4) ∧ (vp_in 0 (mN S5 u4) ∧ (((Op.cmpValue (FP.dcmp (mD S5 u4 (0 : Int32).toNatClampNeg) (mD S5 u4 (0 : Int32).toNatClampNeg)) CmpOp.l) = 0 → False) ∧ (¬ (Op.cmpValue (FP.dcmp (mD S5 u4 (0 : Int32).toNatClampNeg) (mD S5 u4 (0 : Int32).toNatClampNeg)) CmpOp.l) = 0 → ((¬ (Op.cmpValue (FP.dcmp r4 r4) CmpOp.l) = 0 → k28 S5 u1 u2 u3 u4 (y5 + 4)) ∧ ((Op.cmpValue (FP.dcmp r4 r4) CmpOp.l) = 0 → False)))))))))))) ∧ (¬ r6 = r2 → False))) (fun _ _ => False) S3 u2) (fun _ _ => False) S1 u2 (xs ((y5 + 1) : Int32).toNatClampNeg) (xs ((y5 + 2) : Int32).toNatClampNeg)))) (fun _ _ => False) S u1 (xs ((y5 + 1) : Int32).toNatClampNeg) (xs ((y5 + 2) : Int32).toNatClampNeg) u4))
set_option maxHeartbeats 8000000 in
set_option maxRecDepth 100000 in
theorem tL_law_1032 {p : Program} {l : Launch} {e : Env} {s : State} {m : MethodId} {below : List Frame} {meth : Method} {c : Code} {H : Heap} {locs : List Loc} {cells slots : Nat} {G : GP} {S0 : MS} {ls : Array Slot} {b L : Nat} {xs : Nat → Int32} (C : CF p l s m #[Value.ref b] meth c "SkirmishGridLaw" code 9 G (fun q => s.heap.size ≤ q)) (hr : meth.sig.returnType = ret) (hX : va_X b L xs s s.heap) (hbl : b < s.heap.size) (c0 s0 : Nat) (k28 : MS → Nat → Nat → Nat → Nat → Int32 → Prop) (kh28 : ∀ (S : MS) (u1 : Nat) (u2 : Nat) (u3 : Nat) (u4 : Nat) (y5 : Int32) (cells slots : Nat) (H : Heap) (locs : List Loc) (ls : Array Slot), pI S 8 u1 → pI S 9 u2 → pI S 16 u3 → pI S 17 u4 → PW G (fun q => s.heap.size ≤ q) s H locs S0 S → lv_has ls 9 [(0, .ref b), (1, .ref u1), (2, .ref u2), (3, .ref u3), (4, .ref u4), (5, .int y5)] → cells ≤ c0 + 5 → slots ≤ s0 + 30 → k28 S u1 u2 u3 u4 y5 → W p l e room_1 s m #[Value.ref b] below meth c H locs cells slots (lw_Z below #[Value.ref b] s) (F0 m 28 ls [])) (S : MS) (u1 : Nat) (u2 : Nat) (u3 : Nat) (u4 : Nat) (y5 : Int32) (p_u1 : pI S 8 u1) (p_u2 : pI S 9 u2) (p_u3 : pI S 16 u3) (p_u4 : pI S 17 u4) (P : PW G (fun q => s.heap.size ≤ q) s H locs S0 S) (hl : lv_has ls 9 [(0, .ref b), (1, .ref u1), (2, .ref u2), (3, .ref u3), (4, .ref u4), (5, .int y5)]) (hcc : cells + 3 ≤ c0 + 5) (hss : slots + 18 ≤ s0 + 30) (h0 : c0 + 5 ≤ 600006) (hs0 : s0 + 30 ≤ 7302056) (hw : wL_law_1032 L xs k28 S u1 u2 u3 u4 y5) : W p l e room_1 s m #[Value.ref b] below meth c H locs cells slots (lw_Z below #[Value.ref b] s) (F0 m 1032 ls []) := by
  have hx := CF_x C
  have hb := CF_b C
  unfold wL_law_1032 at hw
  refine lv_aload_n hx hb dL_law_1032 rfl (lv_at hl 1 rfl) ?_
  refine lv_aload_n hx hb dL_law_1033 rfl (lv_at hl 0 rfl) ?_
  refine lv_iload hx hb dL_law_1034 (lv_at hl 5 rfl) ?_
  refine lv_iconst (v := 1) hx hb dL_law_1036 (by decide) ?_
  refine lv_iadd hx hb dL_law_1037 ?_
  obtain ⟨h1, hw⟩ := hw
  refine va_sld hx hb hX hbl (Nat.not_le.mpr hbl) P.2.2.1 h1 dL_law_1038 ?_
  refine lv_aload_n hx hb dL_law_1039 rfl (lv_at hl 0 rfl) ?_
  refine lv_iload hx hb dL_law_1040 (lv_at hl 5 rfl) ?_
  refine lv_iconst (v := 2) hx hb dL_law_1042 (by decide) ?_
  refine lv_iadd hx hb dL_law_1043 ?_
  obtain ⟨h1, hw⟩ := hw
  refine va_sld hx hb hX hbl (Nat.not_le.mpr hbl) P.2.2.1 h1 dL_law_1044 ?_
  refine lv_aload hx hb dL_law_1045 (lv_at hl 4 rfl) ?_
  refine cl_i C P (run_SX C P hl.1 (met_L_chance (CF_n C) G H.size _ _ S u1 (xs ((y5 + 1) : Int32).toNatClampNeg) (xs ((y5 + 2) : Int32).toNatClampNeg) u4 p_u1 p_u4 hw) q_950 q_951 q_0 q_952 cd_L_chance.2 ⟨(Nat.le_of_ble_eq_true rfl), (Nat.le_of_ble_eq_true rfl)⟩ rfl rfl (As := [.ref u1, .int (xs ((y5 + 1) : Int32).toNatClampNeg), .int (xs ((y5 + 2) : Int32).toNatClampNeg), .ref u4]) (rest := []) rfl rfl (Nat.le_of_ble_eq_true rfl) dL_law_1047 ⟨by show cells + 3 ≤ 600006; omega, by show slots + 18 ≤ 7302056; omega⟩) kx_no (fun r2 S1 H locs P hE hw => ?_)
  have p_u1 : pI S1 8 u1 := pI_x hE p_u1
  have p_u2 : pI S1 9 u2 := pI_x hE p_u2
  have p_u3 : pI S1 16 u3 := pI_x hE p_u3
  have p_u4 : pI S1 17 u4 := pI_x hE p_u4
  refine lv_istore (lv' := [(6, .int r2), (0, .ref b), (1, .ref u1), (2, .ref u2), (3, .ref u3), (4, .ref u4), (5, .int y5)]) hx hb dL_law_1050 hl (by decide) rfl (fun ls hl => ?_)
  refine lv_aload_n hx hb dL_law_1052 rfl (lv_at hl 3 rfl) ?_
  refine lv_aload_n hx hb dL_law_1053 rfl (lv_at hl 1 rfl) ?_
  refine lv_iload hx hb dL_law_1054 (lv_at hl 6 rfl) ?_
  refine lv_iconst (v := 1) hx hb dL_law_1056 (by decide) ?_
  refine lv_iadd hx hb dL_law_1057 ?_
  obtain ⟨h1, hw⟩ := hw
  refine va_sld hx hb hX hbl (Nat.not_le.mpr hbl) P.2.2.1 h1 dL_law_1058 ?_
  refine lv_aload_n hx hb dL_law_1059 rfl (lv_at hl 1 rfl) ?_
  refine lv_iload hx hb dL_law_1060 (lv_at hl 6 rfl) ?_
  refine lv_iconst (v := 2) hx hb dL_law_1062 (by decide) ?_
  refine lv_iadd hx hb dL_law_1063 ?_
  obtain ⟨h1, hw⟩ := hw
  refine va_sld hx hb hX hbl (Nat.not_le.mpr hbl) P.2.2.1 h1 dL_law_1064 ?_
  refine cl_d C P (run_V C P hl.1 (kd := 9) (met_X9_chance (CF_n C) G H.size _ _ S1 u2 (xs ((y5 + 1) : Int32).toNatClampNeg) (xs ((y5 + 2) : Int32).toNatClampNeg) p_u2 hw) p_u2 (by decide) rfl q_1588 q_1589 q_1590 q_10 q_1591 cd_X9_chance ⟨(Nat.le_of_ble_eq_true rfl), (Nat.le_of_ble_eq_true rfl)⟩ rfl rfl (As := [.int (xs ((y5 + 1) : Int32).toNatClampNeg), .int (xs ((y5 + 2) : Int32).toNatClampNeg)]) (rest := []) rfl rfl (Nat.le_of_ble_eq_true rfl) dL_law_1065 ⟨by show cells + 3 + 0 ≤ 600006; omega, by show slots + 18 + 0 ≤ 7302056; omega⟩) kx_no (fun r4 S3 H locs P hE hw => ?_)
  have p_u1 : pI S3 8 u1 := pI_x hE p_u1
  have p_u2 : pI S3 9 u2 := pI_x hE p_u2
  have p_u3 : pI S3 16 u3 := pI_x hE p_u3
  have p_u4 : pI S3 17 u4 := pI_x hE p_u4
  refine lv_dstore (lv' := [(7, .double r4), (6, .int r2), (0, .ref b), (1, .ref u1), (2, .ref u2), (3, .ref u3), (4, .ref u4), (5, .int y5)]) hx hb dL_law_1068 hl (by decide) rfl (fun ls hl => ?_)
  refine lv_aload_n hx hb dL_law_1070 rfl (lv_at hl 4 rfl) ?_
  refine cl_i C P (run_V C P hl.1 (kd := 9) (met_X9_thrown (CF_n C) G H.size _ _ S3 u2 p_u2 hw) p_u2 (by decide) rfl q_1375 q_1376 q_1377 q_10 q_1378 cd_X9_thrown ⟨(Nat.le_of_ble_eq_true rfl), (Nat.le_of_ble_eq_true rfl)⟩ rfl rfl (As := []) (rest := []) rfl rfl (Nat.le_of_ble_eq_true rfl) dL_law_1071 ⟨by show cells + 3 + 0 ≤ 600006; omega, by show slots + 18 + 0 ≤ 7302056; omega⟩) kx_no (fun r6 S5 H locs P hE hw => ?_)
  have p_u1 : pI S5 8 u1 := pI_x hE p_u1
  have p_u2 : pI S5 9 u2 := pI_x hE p_u2
  have p_u3 : pI S5 16 u3 := pI_x hE p_u3
  have p_u4 : pI S5 17 u4 := pI_x hE p_u4
  refine lv_iload hx hb dL_law_1074 (lv_at hl 1 rfl) ?_
  refine lv_icmp_eq (tgt := 1081) hx hb dL_law_1076 (by decide) (fun hc => ?_) (fun hc => ?_)
  · have hw := hw.1 hc
    refine lv_iload hx hb dL_law_1081 (lv_at hl 1 rfl) ?_
    refine lv_if_ne (tgt := 1118) hx hb dL_law_1083 (by decide) (fun hc => ?_) (fun hc => ?_)
    · have hw := hw.1 hc
      refine lv_goto (tgt := 2149) hx hb dL_law_1118 (by decide) ?_
      refine lv_iinc (v := (y5 + 4)) (lv' := [(5, .int (y5 + 4)), (7, .double r4), (6, .int r2), (0, .ref b), (1, .ref u1), (2, .ref u2), (3, .ref u3), (4, .ref u4)]) hx hb dL_law_2149 hl (k := 7) rfl (by rfl) (by decide) rfl (fun ls hl => ?_)
      refine lv_goto (tgt := 28) hx hb dL_law_2152 (by decide) ?_
      exact kh28 S5 u1 u2 u3 u4 (y5 + 4) _ _ _ _ _ p_u1 p_u2 p_u3 p_u4 P (lv_sub hl [3, 4, 5, 6, 7, 0] rfl) (by omega) (by omega) hw
    · have hw := hw.2 hc
      refine lv_aload hx hb dL_law_1086 (lv_at hl 6 rfl) ?_
      refine lv_iconst (v := 0) hx hb dL_law_1088 (by decide) ?_
      obtain ⟨h1, hw⟩ := hw
      refine ra_d C P p_u4 h1 dL_law_1089 ?_
      refine lv_dload hx hb dL_law_1090 (lv_at hl 0 rfl) ?_
      refine lv_dcmp hx hb dL_law_1092 ?_
      refine lv_if_eq (tgt := 1118) hx hb dL_law_1093 (by decide) (fun hc => ?_) (fun hc => ?_)
      · have hw := hw.1 hc
        refine lv_goto (tgt := 2149) hx hb dL_law_1118 (by decide) ?_
        refine lv_iinc (v := (y5 + 4)) (lv' := [(5, .int (y5 + 4)), (7, .double r4), (6, .int r2), (0, .ref b), (1, .ref u1), (2, .ref u2), (3, .ref u3), (4, .ref u4)]) hx hb dL_law_2149 hl (k := 7) rfl (by rfl) (by decide) rfl (fun ls hl => ?_)
        refine lv_goto (tgt := 28) hx hb dL_law_2152 (by decide) ?_
        exact kh28 S5 u1 u2 u3 u4 (y5 + 4) _ _ _ _ _ p_u1 p_u2 p_u3 p_u4 P (lv_sub hl [3, 4, 5, 6, 7, 0] rfl) (by omega) (by omega) hw
      · have hw := hw.2 hc
        refine lv_aload hx hb dL_law_1096 (lv_at hl 6 rfl) ?_
        refine lv_iconst (v := 0) hx hb dL_law_1098 (by decide) ?_
        obtain ⟨h1, hw⟩ := hw
        refine ra_d C P p_u4 h1 dL_law_1099 ?_
        refine lv_aload hx hb dL_law_1100 (lv_at hl 6 rfl) ?_
        refine lv_iconst (v := 0) hx hb dL_law_1102 (by decide) ?_
        obtain ⟨h1, hw⟩ := hw
        refine ra_d C P p_u4 h1 dL_law_1103 ?_
        refine lv_dcmp hx hb dL_law_1104 ?_
        refine lv_if_eq (tgt := 1116) hx hb dL_law_1105 (by decide) (fun hc => ?_) (fun hc => ?_)
        · have hw := hw.1 hc
          refine lv_iconst (v := 0) hx hb dL_law_1116 (by decide) ?_
          exact hw.elim
        · have hw := hw.2 hc
          refine lv_dload hx hb dL_law_1108 (lv_at hl 0 rfl) ?_
          refine lv_dload hx hb dL_law_1110 (lv_at hl 0 rfl) ?_
          refine lv_dcmp hx hb dL_law_1112 ?_
          refine lv_if_ne (tgt := 1118) hx hb dL_law_1113 (by decide) (fun hc => ?_) (fun hc => ?_)
          · have hw := hw.1 hc
            refine lv_goto (tgt := 2149) hx hb dL_law_1118 (by decide) ?_
            refine lv_iinc (v := (y5 + 4)) (lv' := [(5, .int (y5 + 4)), (7, .double r4), (6, .int r2), (0, .ref b), (1, .ref u1), (2, .ref u2), (3, .ref u3), (4, .ref u4)]) hx hb dL_law_2149 hl (k := 7) rfl (by rfl) (by decide) rfl (fun ls hl => ?_)
            refine lv_goto (tgt := 28) hx hb dL_law_2152 (by decide) ?_
            exact kh28 S5 u1 u2 u3 u4 (y5 + 4) _ _ _ _ _ p_u1 p_u2 p_u3 p_u4 P (lv_sub hl [3, 4, 5, 6, 7, 0] rfl) (by omega) (by omega) hw
          · have hw := hw.2 hc
            refine lv_iconst (v := 0) hx hb dL_law_1116 (by decide) ?_
            exact hw.elim
  · have hw := hw.2 hc
    refine lv_iconst (v := 0) hx hb dL_law_1079 (by decide) ?_
    exact hw.elim
def wL_law_1121 (L : Nat) (xs : Nat → Int32) (k28 : MS → Nat → Nat → Nat → Nat → Int32 → Prop) (S : MS) (u1 : Nat) (u2 : Nat) (u3 : Nat) (u4 : Nat) (y5 : Int32) : Prop := (vp_in (y5 + 1) L ∧ (vp_in (y5 + 2) L ∧ wp_L_meanDamage (fun r2 S1 => (vp_in (y5 + 1) L ∧ (vp_in (y5 + 2) L ∧ wp_X9_meanDamage (fun r4 S3 => wp_X9_thrown (fun r6 S5 => ((r6 = r2 → ((¬ r2 = 0 → k28 S5 u1 u2 u3 u4 (y5 + 4)) ∧ (r2 = 0 → (vp_in 0 (mN S5 u4) ∧ (((Op.cmpValue (FP.dcmp (mD S5 u4 (0 : Int32).toNatClampNeg) r4) CmpOp.l) = 0 → k28 S5 u1 u2 u3 u4 (y5 + 4)) ∧ (¬ (Op.cmpValue (FP.dcmp (mD S5 u4 (0 : Int32).toNatClampNeg) r4) CmpOp.l) = 0 → (vp_in 0 (mN S5 u4) ∧ (vp_in 0 (mN S5 u4) ∧ (((Op.cmpValue (FP.dcmp (mD S5 u4 (0 : Int32).toNatClampNeg) (mD S5 u4 (0 : Int32).toNatClampNeg)) CmpOp.l) = 0 → False) ∧ (¬ (Op.cmpValue (FP.dcmp (mD S5 u4 (0 : Int32).toNatClampNeg) (mD S5 u4 (0 : Int32).toNatClampNeg)) CmpOp.l) = 0 → ((¬ (Op.cmpValue (FP.dcmp r4 r4) CmpOp.l) = 0 → k28 S5 u1 u2 u3 u4 (y5 + 4)) ∧ ((Op.cmpValue (FP.dcmp r4 r4) CmpOp.l) = 0 → False)))))))))))) ∧ (¬ r6 = r2 → False))) (fun _ _ => False) S3 u2) (fun _ _ => False) S1 u2 (xs ((y5 + 1) : Int32).toNatClampNeg) (xs ((y5 + 2) : Int32).toNatClampNeg)))) (fun _ _ => False) S u1 (xs ((y5 + 1) : Int32).toNatClampNeg) (xs ((y5 + 2) : Int32).toNatClampNeg) u4))
set_option maxHeartbeats 8000000 in
set_option maxRecDepth 100000 in
theorem tL_law_1121 {p : Program} {l : Launch} {e : Env} {s : State} {m : MethodId} {below : List Frame} {meth : Method} {c : Code} {H : Heap} {locs : List Loc} {cells slots : Nat} {G : GP} {S0 : MS} {ls : Array Slot} {b L : Nat} {xs : Nat → Int32} (C : CF p l s m #[Value.ref b] meth c "SkirmishGridLaw" code 9 G (fun q => s.heap.size ≤ q)) (hr : meth.sig.returnType = ret) (hX : va_X b L xs s s.heap) (hbl : b < s.heap.size) (c0 s0 : Nat) (k28 : MS → Nat → Nat → Nat → Nat → Int32 → Prop) (kh28 : ∀ (S : MS) (u1 : Nat) (u2 : Nat) (u3 : Nat) (u4 : Nat) (y5 : Int32) (cells slots : Nat) (H : Heap) (locs : List Loc) (ls : Array Slot), pI S 8 u1 → pI S 9 u2 → pI S 16 u3 → pI S 17 u4 → PW G (fun q => s.heap.size ≤ q) s H locs S0 S → lv_has ls 9 [(0, .ref b), (1, .ref u1), (2, .ref u2), (3, .ref u3), (4, .ref u4), (5, .int y5)] → cells ≤ c0 + 5 → slots ≤ s0 + 30 → k28 S u1 u2 u3 u4 y5 → W p l e room_1 s m #[Value.ref b] below meth c H locs cells slots (lw_Z below #[Value.ref b] s) (F0 m 28 ls [])) (S : MS) (u1 : Nat) (u2 : Nat) (u3 : Nat) (u4 : Nat) (y5 : Int32) (p_u1 : pI S 8 u1) (p_u2 : pI S 9 u2) (p_u3 : pI S 16 u3) (p_u4 : pI S 17 u4) (P : PW G (fun q => s.heap.size ≤ q) s H locs S0 S) (hl : lv_has ls 9 [(0, .ref b), (1, .ref u1), (2, .ref u2), (3, .ref u3), (4, .ref u4), (5, .int y5)]) (hcc : cells + 3 ≤ c0 + 5) (hss : slots + 18 ≤ s0 + 30) (h0 : c0 + 5 ≤ 600006) (hs0 : s0 + 30 ≤ 7302056) (hw : wL_law_1121 L xs k28 S u1 u2 u3 u4 y5) : W p l e room_1 s m #[Value.ref b] below meth c H locs cells slots (lw_Z below #[Value.ref b] s) (F0 m 1121 ls []) := by
  have hx := CF_x C
  have hb := CF_b C
  unfold wL_law_1121 at hw
  refine lv_aload_n hx hb dL_law_1121 rfl (lv_at hl 1 rfl) ?_
  refine lv_aload_n hx hb dL_law_1122 rfl (lv_at hl 0 rfl) ?_
  refine lv_iload hx hb dL_law_1123 (lv_at hl 5 rfl) ?_
  refine lv_iconst (v := 1) hx hb dL_law_1125 (by decide) ?_
  refine lv_iadd hx hb dL_law_1126 ?_
  obtain ⟨h1, hw⟩ := hw
  refine va_sld hx hb hX hbl (Nat.not_le.mpr hbl) P.2.2.1 h1 dL_law_1127 ?_
  refine lv_aload_n hx hb dL_law_1128 rfl (lv_at hl 0 rfl) ?_
  refine lv_iload hx hb dL_law_1129 (lv_at hl 5 rfl) ?_
  refine lv_iconst (v := 2) hx hb dL_law_1131 (by decide) ?_
  refine lv_iadd hx hb dL_law_1132 ?_
  obtain ⟨h1, hw⟩ := hw
  refine va_sld hx hb hX hbl (Nat.not_le.mpr hbl) P.2.2.1 h1 dL_law_1133 ?_
  refine lv_aload hx hb dL_law_1134 (lv_at hl 4 rfl) ?_
  refine cl_i C P (run_SX C P hl.1 (met_L_meanDamage (CF_n C) G H.size _ _ S u1 (xs ((y5 + 1) : Int32).toNatClampNeg) (xs ((y5 + 2) : Int32).toNatClampNeg) u4 p_u1 p_u4 hw) q_989 q_990 q_0 q_991 cd_L_meanDamage.2 ⟨(Nat.le_of_ble_eq_true rfl), (Nat.le_of_ble_eq_true rfl)⟩ rfl rfl (As := [.ref u1, .int (xs ((y5 + 1) : Int32).toNatClampNeg), .int (xs ((y5 + 2) : Int32).toNatClampNeg), .ref u4]) (rest := []) rfl rfl (Nat.le_of_ble_eq_true rfl) dL_law_1136 ⟨by show cells + 3 ≤ 600006; omega, by show slots + 18 ≤ 7302056; omega⟩) kx_no (fun r2 S1 H locs P hE hw => ?_)
  have p_u1 : pI S1 8 u1 := pI_x hE p_u1
  have p_u2 : pI S1 9 u2 := pI_x hE p_u2
  have p_u3 : pI S1 16 u3 := pI_x hE p_u3
  have p_u4 : pI S1 17 u4 := pI_x hE p_u4
  refine lv_istore (lv' := [(6, .int r2), (0, .ref b), (1, .ref u1), (2, .ref u2), (3, .ref u3), (4, .ref u4), (5, .int y5)]) hx hb dL_law_1139 hl (by decide) rfl (fun ls hl => ?_)
  refine lv_aload_n hx hb dL_law_1141 rfl (lv_at hl 3 rfl) ?_
  refine lv_aload_n hx hb dL_law_1142 rfl (lv_at hl 1 rfl) ?_
  refine lv_iload hx hb dL_law_1143 (lv_at hl 6 rfl) ?_
  refine lv_iconst (v := 1) hx hb dL_law_1145 (by decide) ?_
  refine lv_iadd hx hb dL_law_1146 ?_
  obtain ⟨h1, hw⟩ := hw
  refine va_sld hx hb hX hbl (Nat.not_le.mpr hbl) P.2.2.1 h1 dL_law_1147 ?_
  refine lv_aload_n hx hb dL_law_1148 rfl (lv_at hl 1 rfl) ?_
  refine lv_iload hx hb dL_law_1149 (lv_at hl 6 rfl) ?_
  refine lv_iconst (v := 2) hx hb dL_law_1151 (by decide) ?_
  refine lv_iadd hx hb dL_law_1152 ?_
  obtain ⟨h1, hw⟩ := hw
  refine va_sld hx hb hX hbl (Nat.not_le.mpr hbl) P.2.2.1 h1 dL_law_1153 ?_
  refine cl_d C P (run_V C P hl.1 (kd := 9) (met_X9_meanDamage (CF_n C) G H.size _ _ S1 u2 (xs ((y5 + 1) : Int32).toNatClampNeg) (xs ((y5 + 2) : Int32).toNatClampNeg) p_u2 hw) p_u2 (by decide) rfl q_1609 q_1610 q_1611 q_10 q_1612 cd_X9_meanDamage ⟨(Nat.le_of_ble_eq_true rfl), (Nat.le_of_ble_eq_true rfl)⟩ rfl rfl (As := [.int (xs ((y5 + 1) : Int32).toNatClampNeg), .int (xs ((y5 + 2) : Int32).toNatClampNeg)]) (rest := []) rfl rfl (Nat.le_of_ble_eq_true rfl) dL_law_1154 ⟨by show cells + 3 + 0 ≤ 600006; omega, by show slots + 18 + 0 ≤ 7302056; omega⟩) kx_no (fun r4 S3 H locs P hE hw => ?_)
  have p_u1 : pI S3 8 u1 := pI_x hE p_u1
  have p_u2 : pI S3 9 u2 := pI_x hE p_u2
  have p_u3 : pI S3 16 u3 := pI_x hE p_u3
  have p_u4 : pI S3 17 u4 := pI_x hE p_u4
  refine lv_dstore (lv' := [(7, .double r4), (6, .int r2), (0, .ref b), (1, .ref u1), (2, .ref u2), (3, .ref u3), (4, .ref u4), (5, .int y5)]) hx hb dL_law_1157 hl (by decide) rfl (fun ls hl => ?_)
  refine lv_aload_n hx hb dL_law_1159 rfl (lv_at hl 4 rfl) ?_
  refine cl_i C P (run_V C P hl.1 (kd := 9) (met_X9_thrown (CF_n C) G H.size _ _ S3 u2 p_u2 hw) p_u2 (by decide) rfl q_1375 q_1376 q_1377 q_10 q_1378 cd_X9_thrown ⟨(Nat.le_of_ble_eq_true rfl), (Nat.le_of_ble_eq_true rfl)⟩ rfl rfl (As := []) (rest := []) rfl rfl (Nat.le_of_ble_eq_true rfl) dL_law_1160 ⟨by show cells + 3 + 0 ≤ 600006; omega, by show slots + 18 + 0 ≤ 7302056; omega⟩) kx_no (fun r6 S5 H locs P hE hw => ?_)
  have p_u1 : pI S5 8 u1 := pI_x hE p_u1
  have p_u2 : pI S5 9 u2 := pI_x hE p_u2
  have p_u3 : pI S5 16 u3 := pI_x hE p_u3
  have p_u4 : pI S5 17 u4 := pI_x hE p_u4
  refine lv_iload hx hb dL_law_1163 (lv_at hl 1 rfl) ?_
  refine lv_icmp_eq (tgt := 1170) hx hb dL_law_1165 (by decide) (fun hc => ?_) (fun hc => ?_)
  · have hw := hw.1 hc
    refine lv_iload hx hb dL_law_1170 (lv_at hl 1 rfl) ?_
    refine lv_if_ne (tgt := 1207) hx hb dL_law_1172 (by decide) (fun hc => ?_) (fun hc => ?_)
    · have hw := hw.1 hc
      refine lv_goto (tgt := 2149) hx hb dL_law_1207 (by decide) ?_
      refine lv_iinc (v := (y5 + 4)) (lv' := [(5, .int (y5 + 4)), (7, .double r4), (6, .int r2), (0, .ref b), (1, .ref u1), (2, .ref u2), (3, .ref u3), (4, .ref u4)]) hx hb dL_law_2149 hl (k := 7) rfl (by rfl) (by decide) rfl (fun ls hl => ?_)
      refine lv_goto (tgt := 28) hx hb dL_law_2152 (by decide) ?_
      exact kh28 S5 u1 u2 u3 u4 (y5 + 4) _ _ _ _ _ p_u1 p_u2 p_u3 p_u4 P (lv_sub hl [3, 4, 5, 6, 7, 0] rfl) (by omega) (by omega) hw
    · have hw := hw.2 hc
      refine lv_aload hx hb dL_law_1175 (lv_at hl 6 rfl) ?_
      refine lv_iconst (v := 0) hx hb dL_law_1177 (by decide) ?_
      obtain ⟨h1, hw⟩ := hw
      refine ra_d C P p_u4 h1 dL_law_1178 ?_
      refine lv_dload hx hb dL_law_1179 (lv_at hl 0 rfl) ?_
      refine lv_dcmp hx hb dL_law_1181 ?_
      refine lv_if_eq (tgt := 1207) hx hb dL_law_1182 (by decide) (fun hc => ?_) (fun hc => ?_)
      · have hw := hw.1 hc
        refine lv_goto (tgt := 2149) hx hb dL_law_1207 (by decide) ?_
        refine lv_iinc (v := (y5 + 4)) (lv' := [(5, .int (y5 + 4)), (7, .double r4), (6, .int r2), (0, .ref b), (1, .ref u1), (2, .ref u2), (3, .ref u3), (4, .ref u4)]) hx hb dL_law_2149 hl (k := 7) rfl (by rfl) (by decide) rfl (fun ls hl => ?_)
        refine lv_goto (tgt := 28) hx hb dL_law_2152 (by decide) ?_
        exact kh28 S5 u1 u2 u3 u4 (y5 + 4) _ _ _ _ _ p_u1 p_u2 p_u3 p_u4 P (lv_sub hl [3, 4, 5, 6, 7, 0] rfl) (by omega) (by omega) hw
      · have hw := hw.2 hc
        refine lv_aload hx hb dL_law_1185 (lv_at hl 6 rfl) ?_
        refine lv_iconst (v := 0) hx hb dL_law_1187 (by decide) ?_
        obtain ⟨h1, hw⟩ := hw
        refine ra_d C P p_u4 h1 dL_law_1188 ?_
        refine lv_aload hx hb dL_law_1189 (lv_at hl 6 rfl) ?_
        refine lv_iconst (v := 0) hx hb dL_law_1191 (by decide) ?_
        obtain ⟨h1, hw⟩ := hw
        refine ra_d C P p_u4 h1 dL_law_1192 ?_
        refine lv_dcmp hx hb dL_law_1193 ?_
        refine lv_if_eq (tgt := 1205) hx hb dL_law_1194 (by decide) (fun hc => ?_) (fun hc => ?_)
        · have hw := hw.1 hc
          refine lv_iconst (v := 0) hx hb dL_law_1205 (by decide) ?_
          exact hw.elim
        · have hw := hw.2 hc
          refine lv_dload hx hb dL_law_1197 (lv_at hl 0 rfl) ?_
          refine lv_dload hx hb dL_law_1199 (lv_at hl 0 rfl) ?_
          refine lv_dcmp hx hb dL_law_1201 ?_
          refine lv_if_ne (tgt := 1207) hx hb dL_law_1202 (by decide) (fun hc => ?_) (fun hc => ?_)
          · have hw := hw.1 hc
            refine lv_goto (tgt := 2149) hx hb dL_law_1207 (by decide) ?_
            refine lv_iinc (v := (y5 + 4)) (lv' := [(5, .int (y5 + 4)), (7, .double r4), (6, .int r2), (0, .ref b), (1, .ref u1), (2, .ref u2), (3, .ref u3), (4, .ref u4)]) hx hb dL_law_2149 hl (k := 7) rfl (by rfl) (by decide) rfl (fun ls hl => ?_)
            refine lv_goto (tgt := 28) hx hb dL_law_2152 (by decide) ?_
            exact kh28 S5 u1 u2 u3 u4 (y5 + 4) _ _ _ _ _ p_u1 p_u2 p_u3 p_u4 P (lv_sub hl [3, 4, 5, 6, 7, 0] rfl) (by omega) (by omega) hw
          · have hw := hw.2 hc
            refine lv_iconst (v := 0) hx hb dL_law_1205 (by decide) ?_
            exact hw.elim
  · have hw := hw.2 hc
    refine lv_iconst (v := 0) hx hb dL_law_1168 (by decide) ?_
    exact hw.elim
def wL_law_1210 (L : Nat) (xs : Nat → Int32) (k28 : MS → Nat → Nat → Nat → Nat → Int32 → Prop) (S : MS) (u1 : Nat) (u2 : Nat) (u3 : Nat) (u4 : Nat) (y5 : Int32) : Prop := wp_L_bestTarget (fun r2 S1 => wp_X9_bestTarget (fun r4 S3 => wp_X9_thrown (fun r6 S5 => ((r6 = r2 → ((¬ r2 = 0 → k28 S5 u1 u2 u3 u4 (y5 + 4)) ∧ (r2 = 0 → (vp_in 0 (mN S5 u3) ∧ (((lg_cmp (mJ S5 u3 (0 : Int32).toNatClampNeg) ((r4 : Int32).toInt64)) = 0 → k28 S5 u1 u2 u3 u4 (y5 + 4)) ∧ (¬ (lg_cmp (mJ S5 u3 (0 : Int32).toNatClampNeg) ((r4 : Int32).toInt64)) = 0 → False)))))) ∧ (¬ r6 = r2 → False))) (fun _ _ => False) S3 u2) (fun _ _ => False) S1 u2) (fun _ _ => False) S u1 u3
set_option maxHeartbeats 8000000 in
set_option maxRecDepth 100000 in
theorem tL_law_1210 {p : Program} {l : Launch} {e : Env} {s : State} {m : MethodId} {below : List Frame} {meth : Method} {c : Code} {H : Heap} {locs : List Loc} {cells slots : Nat} {G : GP} {S0 : MS} {ls : Array Slot} {b L : Nat} {xs : Nat → Int32} (C : CF p l s m #[Value.ref b] meth c "SkirmishGridLaw" code 9 G (fun q => s.heap.size ≤ q)) (hr : meth.sig.returnType = ret) (hX : va_X b L xs s s.heap) (hbl : b < s.heap.size) (c0 s0 : Nat) (k28 : MS → Nat → Nat → Nat → Nat → Int32 → Prop) (kh28 : ∀ (S : MS) (u1 : Nat) (u2 : Nat) (u3 : Nat) (u4 : Nat) (y5 : Int32) (cells slots : Nat) (H : Heap) (locs : List Loc) (ls : Array Slot), pI S 8 u1 → pI S 9 u2 → pI S 16 u3 → pI S 17 u4 → PW G (fun q => s.heap.size ≤ q) s H locs S0 S → lv_has ls 9 [(0, .ref b), (1, .ref u1), (2, .ref u2), (3, .ref u3), (4, .ref u4), (5, .int y5)] → cells ≤ c0 + 5 → slots ≤ s0 + 30 → k28 S u1 u2 u3 u4 y5 → W p l e room_1 s m #[Value.ref b] below meth c H locs cells slots (lw_Z below #[Value.ref b] s) (F0 m 28 ls [])) (S : MS) (u1 : Nat) (u2 : Nat) (u3 : Nat) (u4 : Nat) (y5 : Int32) (p_u1 : pI S 8 u1) (p_u2 : pI S 9 u2) (p_u3 : pI S 16 u3) (p_u4 : pI S 17 u4) (P : PW G (fun q => s.heap.size ≤ q) s H locs S0 S) (hl : lv_has ls 9 [(0, .ref b), (1, .ref u1), (2, .ref u2), (3, .ref u3), (4, .ref u4), (5, .int y5)]) (hcc : cells + 2 ≤ c0 + 5) (hss : slots + 12 ≤ s0 + 30) (h0 : c0 + 5 ≤ 600006) (hs0 : s0 + 30 ≤ 7302056) (hw : wL_law_1210 L xs k28 S u1 u2 u3 u4 y5) : W p l e room_1 s m #[Value.ref b] below meth c H locs cells slots (lw_Z below #[Value.ref b] s) (F0 m 1210 ls []) := by
  have hx := CF_x C
  have hb := CF_b C
  unfold wL_law_1210 at hw
  refine lv_aload_n hx hb dL_law_1210 rfl (lv_at hl 1 rfl) ?_
  refine lv_aload_n hx hb dL_law_1211 rfl (lv_at hl 3 rfl) ?_
  refine cl_i C P (run_SX C P hl.1 (met_L_bestTarget (CF_n C) G H.size _ _ S u1 u3 p_u1 p_u3 hw) q_1009 q_1010 q_0 q_1011 cd_L_bestTarget.2 ⟨(Nat.le_of_ble_eq_true rfl), (Nat.le_of_ble_eq_true rfl)⟩ rfl rfl (As := [.ref u1, .ref u3]) (rest := []) rfl rfl (Nat.le_of_ble_eq_true rfl) dL_law_1212 ⟨by show cells + 2 ≤ 600006; omega, by show slots + 12 ≤ 7302056; omega⟩) kx_no (fun r2 S1 H locs P hE hw => ?_)
  have p_u1 : pI S1 8 u1 := pI_x hE p_u1
  have p_u2 : pI S1 9 u2 := pI_x hE p_u2
  have p_u3 : pI S1 16 u3 := pI_x hE p_u3
  have p_u4 : pI S1 17 u4 := pI_x hE p_u4
  refine lv_istore (lv' := [(6, .int r2), (0, .ref b), (1, .ref u1), (2, .ref u2), (3, .ref u3), (4, .ref u4), (5, .int y5)]) hx hb dL_law_1215 hl (by decide) rfl (fun ls hl => ?_)
  refine lv_aload_n hx hb dL_law_1217 rfl (lv_at hl 3 rfl) ?_
  refine cl_i C P (run_V C P hl.1 (kd := 9) (met_X9_bestTarget (CF_n C) G H.size _ _ S1 u2 p_u2 hw) p_u2 (by decide) rfl q_1622 q_1623 q_1624 q_10 q_1625 cd_X9_bestTarget ⟨(Nat.le_of_ble_eq_true rfl), (Nat.le_of_ble_eq_true rfl)⟩ rfl rfl (As := []) (rest := []) rfl rfl (Nat.le_of_ble_eq_true rfl) dL_law_1218 ⟨by show cells + 2 + 0 ≤ 600006; omega, by show slots + 12 + 0 ≤ 7302056; omega⟩) kx_no (fun r4 S3 H locs P hE hw => ?_)
  have p_u1 : pI S3 8 u1 := pI_x hE p_u1
  have p_u2 : pI S3 9 u2 := pI_x hE p_u2
  have p_u3 : pI S3 16 u3 := pI_x hE p_u3
  have p_u4 : pI S3 17 u4 := pI_x hE p_u4
  refine lv_istore (lv' := [(7, .int r4), (6, .int r2), (0, .ref b), (1, .ref u1), (2, .ref u2), (3, .ref u3), (4, .ref u4), (5, .int y5)]) hx hb dL_law_1221 hl (by decide) rfl (fun ls hl => ?_)
  refine lv_aload_n hx hb dL_law_1223 rfl (lv_at hl 4 rfl) ?_
  refine cl_i C P (run_V C P hl.1 (kd := 9) (met_X9_thrown (CF_n C) G H.size _ _ S3 u2 p_u2 hw) p_u2 (by decide) rfl q_1375 q_1376 q_1377 q_10 q_1378 cd_X9_thrown ⟨(Nat.le_of_ble_eq_true rfl), (Nat.le_of_ble_eq_true rfl)⟩ rfl rfl (As := []) (rest := []) rfl rfl (Nat.le_of_ble_eq_true rfl) dL_law_1224 ⟨by show cells + 2 + 0 ≤ 600006; omega, by show slots + 12 + 0 ≤ 7302056; omega⟩) kx_no (fun r6 S5 H locs P hE hw => ?_)
  have p_u1 : pI S5 8 u1 := pI_x hE p_u1
  have p_u2 : pI S5 9 u2 := pI_x hE p_u2
  have p_u3 : pI S5 16 u3 := pI_x hE p_u3
  have p_u4 : pI S5 17 u4 := pI_x hE p_u4
  refine lv_iload hx hb dL_law_1227 (lv_at hl 1 rfl) ?_
  refine lv_icmp_eq (tgt := 1234) hx hb dL_law_1229 (by decide) (fun hc => ?_) (fun hc => ?_)
  · have hw := hw.1 hc
    refine lv_iload hx hb dL_law_1234 (lv_at hl 1 rfl) ?_
    refine lv_if_ne (tgt := 1251) hx hb dL_law_1236 (by decide) (fun hc => ?_) (fun hc => ?_)
    · have hw := hw.1 hc
      refine lv_goto (tgt := 2149) hx hb dL_law_1251 (by decide) ?_
      refine lv_iinc (v := (y5 + 4)) (lv' := [(5, .int (y5 + 4)), (7, .int r4), (6, .int r2), (0, .ref b), (1, .ref u1), (2, .ref u2), (3, .ref u3), (4, .ref u4)]) hx hb dL_law_2149 hl (k := 7) rfl (by rfl) (by decide) rfl (fun ls hl => ?_)
      refine lv_goto (tgt := 28) hx hb dL_law_2152 (by decide) ?_
      exact kh28 S5 u1 u2 u3 u4 (y5 + 4) _ _ _ _ _ p_u1 p_u2 p_u3 p_u4 P (lv_sub hl [3, 4, 5, 6, 7, 0] rfl) (by omega) (by omega) hw
    · have hw := hw.2 hc
      refine lv_aload_n hx hb dL_law_1239 rfl (lv_at hl 5 rfl) ?_
      refine lv_iconst (v := 0) hx hb dL_law_1240 (by decide) ?_
      obtain ⟨h1, hw⟩ := hw
      refine ra_j C P p_u3 h1 dL_law_1241 ?_
      refine lv_iload hx hb dL_law_1242 (lv_at hl 0 rfl) ?_
      refine lv_i2l (v := (r4 : Int32).toInt64) hx hb dL_law_1244 rfl ?_
      refine W.lcmp hx hb dL_law_1245 ?_
      refine lv_if_eq (tgt := 1251) hx hb dL_law_1246 (by decide) (fun hc => ?_) (fun hc => ?_)
      · have hw := hw.1 hc
        refine lv_goto (tgt := 2149) hx hb dL_law_1251 (by decide) ?_
        refine lv_iinc (v := (y5 + 4)) (lv' := [(5, .int (y5 + 4)), (7, .int r4), (6, .int r2), (0, .ref b), (1, .ref u1), (2, .ref u2), (3, .ref u3), (4, .ref u4)]) hx hb dL_law_2149 hl (k := 7) rfl (by rfl) (by decide) rfl (fun ls hl => ?_)
        refine lv_goto (tgt := 28) hx hb dL_law_2152 (by decide) ?_
        exact kh28 S5 u1 u2 u3 u4 (y5 + 4) _ _ _ _ _ p_u1 p_u2 p_u3 p_u4 P (lv_sub hl [3, 4, 5, 6, 7, 0] rfl) (by omega) (by omega) hw
      · have hw := hw.2 hc
        refine lv_iconst (v := 0) hx hb dL_law_1249 (by decide) ?_
        exact hw.elim
  · have hw := hw.2 hc
    refine lv_iconst (v := 0) hx hb dL_law_1232 (by decide) ?_
    exact hw.elim
def wL_law_1254 (L : Nat) (xs : Nat → Int32) (k28 : MS → Nat → Nat → Nat → Nat → Int32 → Prop) (S : MS) (u1 : Nat) (u2 : Nat) (u3 : Nat) (u4 : Nat) (y5 : Int32) : Prop := (vp_in (y5 + 1) L ∧ wp_L_move (fun r2 S1 => (vp_in (y5 + 1) L ∧ wp_X9_move (fun r4 S3 => wp_X9_thrown (fun r6 S5 => ((r6 = r2 → ((¬ r2 = 0 → k28 S5 u1 u2 u3 u4 (y5 + 4)) ∧ (r2 = 0 → (vp_in 0 (mN S5 u3) ∧ (((lg_cmp (mJ S5 u3 (0 : Int32).toNatClampNeg) ((r4 : Int32).toInt64)) = 0 → k28 S5 u1 u2 u3 u4 (y5 + 4)) ∧ (¬ (lg_cmp (mJ S5 u3 (0 : Int32).toNatClampNeg) ((r4 : Int32).toInt64)) = 0 → False)))))) ∧ (¬ r6 = r2 → False))) (fun _ _ => False) S3 u2) (fun _ _ => False) S1 u2 (xs ((y5 + 1) : Int32).toNatClampNeg))) (fun _ _ => False) S u1 (xs ((y5 + 1) : Int32).toNatClampNeg) u3)
set_option maxHeartbeats 8000000 in
set_option maxRecDepth 100000 in
theorem tL_law_1254 {p : Program} {l : Launch} {e : Env} {s : State} {m : MethodId} {below : List Frame} {meth : Method} {c : Code} {H : Heap} {locs : List Loc} {cells slots : Nat} {G : GP} {S0 : MS} {ls : Array Slot} {b L : Nat} {xs : Nat → Int32} (C : CF p l s m #[Value.ref b] meth c "SkirmishGridLaw" code 9 G (fun q => s.heap.size ≤ q)) (hr : meth.sig.returnType = ret) (hX : va_X b L xs s s.heap) (hbl : b < s.heap.size) (c0 s0 : Nat) (k28 : MS → Nat → Nat → Nat → Nat → Int32 → Prop) (kh28 : ∀ (S : MS) (u1 : Nat) (u2 : Nat) (u3 : Nat) (u4 : Nat) (y5 : Int32) (cells slots : Nat) (H : Heap) (locs : List Loc) (ls : Array Slot), pI S 8 u1 → pI S 9 u2 → pI S 16 u3 → pI S 17 u4 → PW G (fun q => s.heap.size ≤ q) s H locs S0 S → lv_has ls 9 [(0, .ref b), (1, .ref u1), (2, .ref u2), (3, .ref u3), (4, .ref u4), (5, .int y5)] → cells ≤ c0 + 5 → slots ≤ s0 + 30 → k28 S u1 u2 u3 u4 y5 → W p l e room_1 s m #[Value.ref b] below meth c H locs cells slots (lw_Z below #[Value.ref b] s) (F0 m 28 ls [])) (S : MS) (u1 : Nat) (u2 : Nat) (u3 : Nat) (u4 : Nat) (y5 : Int32) (p_u1 : pI S 8 u1) (p_u2 : pI S 9 u2) (p_u3 : pI S 16 u3) (p_u4 : pI S 17 u4) (P : PW G (fun q => s.heap.size ≤ q) s H locs S0 S) (hl : lv_has ls 9 [(0, .ref b), (1, .ref u1), (2, .ref u2), (3, .ref u3), (4, .ref u4), (5, .int y5)]) (hcc : cells + 4 ≤ c0 + 5) (hss : slots + 24 ≤ s0 + 30) (h0 : c0 + 5 ≤ 600006) (hs0 : s0 + 30 ≤ 7302056) (hw : wL_law_1254 L xs k28 S u1 u2 u3 u4 y5) : W p l e room_1 s m #[Value.ref b] below meth c H locs cells slots (lw_Z below #[Value.ref b] s) (F0 m 1254 ls []) := by
  have hx := CF_x C
  have hb := CF_b C
  unfold wL_law_1254 at hw
  refine lv_aload_n hx hb dL_law_1254 rfl (lv_at hl 1 rfl) ?_
  refine lv_aload_n hx hb dL_law_1255 rfl (lv_at hl 0 rfl) ?_
  refine lv_iload hx hb dL_law_1256 (lv_at hl 5 rfl) ?_
  refine lv_iconst (v := 1) hx hb dL_law_1258 (by decide) ?_
  refine lv_iadd hx hb dL_law_1259 ?_
  obtain ⟨h1, hw⟩ := hw
  refine va_sld hx hb hX hbl (Nat.not_le.mpr hbl) P.2.2.1 h1 dL_law_1260 ?_
  refine lv_aload_n hx hb dL_law_1261 rfl (lv_at hl 3 rfl) ?_
  refine cl_i C P (run_SX C P hl.1 (met_L_move (CF_n C) G H.size _ _ S u1 (xs ((y5 + 1) : Int32).toNatClampNeg) u3 p_u1 p_u3 hw) q_1023 q_1024 q_0 q_1025 cd_L_move.2 ⟨(Nat.le_of_ble_eq_true rfl), (Nat.le_of_ble_eq_true rfl)⟩ rfl rfl (As := [.ref u1, .int (xs ((y5 + 1) : Int32).toNatClampNeg), .ref u3]) (rest := []) rfl rfl (Nat.le_of_ble_eq_true rfl) dL_law_1262 ⟨by show cells + 4 ≤ 600006; omega, by show slots + 24 ≤ 7302056; omega⟩) kx_no (fun r2 S1 H locs P hE hw => ?_)
  have p_u1 : pI S1 8 u1 := pI_x hE p_u1
  have p_u2 : pI S1 9 u2 := pI_x hE p_u2
  have p_u3 : pI S1 16 u3 := pI_x hE p_u3
  have p_u4 : pI S1 17 u4 := pI_x hE p_u4
  refine lv_istore (lv' := [(6, .int r2), (0, .ref b), (1, .ref u1), (2, .ref u2), (3, .ref u3), (4, .ref u4), (5, .int y5)]) hx hb dL_law_1265 hl (by decide) rfl (fun ls hl => ?_)
  refine lv_aload_n hx hb dL_law_1267 rfl (lv_at hl 3 rfl) ?_
  refine lv_aload_n hx hb dL_law_1268 rfl (lv_at hl 1 rfl) ?_
  refine lv_iload hx hb dL_law_1269 (lv_at hl 6 rfl) ?_
  refine lv_iconst (v := 1) hx hb dL_law_1271 (by decide) ?_
  refine lv_iadd hx hb dL_law_1272 ?_
  obtain ⟨h1, hw⟩ := hw
  refine va_sld hx hb hX hbl (Nat.not_le.mpr hbl) P.2.2.1 h1 dL_law_1273 ?_
  refine cl_i C P (run_V C P hl.1 (kd := 9) (met_X9_move (CF_n C) G H.size _ _ S1 u2 (xs ((y5 + 1) : Int32).toNatClampNeg) p_u2 hw) p_u2 (by decide) rfl q_1626 q_1627 q_1628 q_10 q_1629 cd_X9_move ⟨(Nat.le_of_ble_eq_true rfl), (Nat.le_of_ble_eq_true rfl)⟩ rfl rfl (As := [.int (xs ((y5 + 1) : Int32).toNatClampNeg)]) (rest := []) rfl rfl (Nat.le_of_ble_eq_true rfl) dL_law_1274 ⟨by show cells + 4 + 0 ≤ 600006; omega, by show slots + 24 + 0 ≤ 7302056; omega⟩) kx_no (fun r4 S3 H locs P hE hw => ?_)
  have p_u1 : pI S3 8 u1 := pI_x hE p_u1
  have p_u2 : pI S3 9 u2 := pI_x hE p_u2
  have p_u3 : pI S3 16 u3 := pI_x hE p_u3
  have p_u4 : pI S3 17 u4 := pI_x hE p_u4
  refine lv_istore (lv' := [(7, .int r4), (6, .int r2), (0, .ref b), (1, .ref u1), (2, .ref u2), (3, .ref u3), (4, .ref u4), (5, .int y5)]) hx hb dL_law_1277 hl (by decide) rfl (fun ls hl => ?_)
  refine lv_aload_n hx hb dL_law_1279 rfl (lv_at hl 4 rfl) ?_
  refine cl_i C P (run_V C P hl.1 (kd := 9) (met_X9_thrown (CF_n C) G H.size _ _ S3 u2 p_u2 hw) p_u2 (by decide) rfl q_1375 q_1376 q_1377 q_10 q_1378 cd_X9_thrown ⟨(Nat.le_of_ble_eq_true rfl), (Nat.le_of_ble_eq_true rfl)⟩ rfl rfl (As := []) (rest := []) rfl rfl (Nat.le_of_ble_eq_true rfl) dL_law_1280 ⟨by show cells + 4 + 0 ≤ 600006; omega, by show slots + 24 + 0 ≤ 7302056; omega⟩) kx_no (fun r6 S5 H locs P hE hw => ?_)
  have p_u1 : pI S5 8 u1 := pI_x hE p_u1
  have p_u2 : pI S5 9 u2 := pI_x hE p_u2
  have p_u3 : pI S5 16 u3 := pI_x hE p_u3
  have p_u4 : pI S5 17 u4 := pI_x hE p_u4
  refine lv_iload hx hb dL_law_1283 (lv_at hl 1 rfl) ?_
  refine lv_icmp_eq (tgt := 1290) hx hb dL_law_1285 (by decide) (fun hc => ?_) (fun hc => ?_)
  · have hw := hw.1 hc
    refine lv_iload hx hb dL_law_1290 (lv_at hl 1 rfl) ?_
    refine lv_if_ne (tgt := 1307) hx hb dL_law_1292 (by decide) (fun hc => ?_) (fun hc => ?_)
    · have hw := hw.1 hc
      refine lv_goto (tgt := 2149) hx hb dL_law_1307 (by decide) ?_
      refine lv_iinc (v := (y5 + 4)) (lv' := [(5, .int (y5 + 4)), (7, .int r4), (6, .int r2), (0, .ref b), (1, .ref u1), (2, .ref u2), (3, .ref u3), (4, .ref u4)]) hx hb dL_law_2149 hl (k := 7) rfl (by rfl) (by decide) rfl (fun ls hl => ?_)
      refine lv_goto (tgt := 28) hx hb dL_law_2152 (by decide) ?_
      exact kh28 S5 u1 u2 u3 u4 (y5 + 4) _ _ _ _ _ p_u1 p_u2 p_u3 p_u4 P (lv_sub hl [3, 4, 5, 6, 7, 0] rfl) (by omega) (by omega) hw
    · have hw := hw.2 hc
      refine lv_aload_n hx hb dL_law_1295 rfl (lv_at hl 5 rfl) ?_
      refine lv_iconst (v := 0) hx hb dL_law_1296 (by decide) ?_
      obtain ⟨h1, hw⟩ := hw
      refine ra_j C P p_u3 h1 dL_law_1297 ?_
      refine lv_iload hx hb dL_law_1298 (lv_at hl 0 rfl) ?_
      refine lv_i2l (v := (r4 : Int32).toInt64) hx hb dL_law_1300 rfl ?_
      refine W.lcmp hx hb dL_law_1301 ?_
      refine lv_if_eq (tgt := 1307) hx hb dL_law_1302 (by decide) (fun hc => ?_) (fun hc => ?_)
      · have hw := hw.1 hc
        refine lv_goto (tgt := 2149) hx hb dL_law_1307 (by decide) ?_
        refine lv_iinc (v := (y5 + 4)) (lv' := [(5, .int (y5 + 4)), (7, .int r4), (6, .int r2), (0, .ref b), (1, .ref u1), (2, .ref u2), (3, .ref u3), (4, .ref u4)]) hx hb dL_law_2149 hl (k := 7) rfl (by rfl) (by decide) rfl (fun ls hl => ?_)
        refine lv_goto (tgt := 28) hx hb dL_law_2152 (by decide) ?_
        exact kh28 S5 u1 u2 u3 u4 (y5 + 4) _ _ _ _ _ p_u1 p_u2 p_u3 p_u4 P (lv_sub hl [3, 4, 5, 6, 7, 0] rfl) (by omega) (by omega) hw
      · have hw := hw.2 hc
        refine lv_iconst (v := 0) hx hb dL_law_1305 (by decide) ?_
        exact hw.elim
  · have hw := hw.2 hc
    refine lv_iconst (v := 0) hx hb dL_law_1288 (by decide) ?_
    exact hw.elim
def wL_law_1310 (L : Nat) (xs : Nat → Int32) (k28 : MS → Nat → Nat → Nat → Nat → Int32 → Prop) (S : MS) (u1 : Nat) (u2 : Nat) (u3 : Nat) (u4 : Nat) (y5 : Int32) : Prop := (vp_in (y5 + 1) L ∧ wp_L_attack (fun r2 S1 => (vp_in (y5 + 1) L ∧ wp_X9_attack (fun r4 S3 => wp_X9_thrown (fun r6 S5 => ((r6 = r2 → ((¬ r2 = 0 → k28 S5 u1 u2 u3 u4 (y5 + 4)) ∧ (r2 = 0 → (vp_in 0 (mN S5 u3) ∧ (((lg_cmp (mJ S5 u3 (0 : Int32).toNatClampNeg) ((r4 : Int32).toInt64)) = 0 → k28 S5 u1 u2 u3 u4 (y5 + 4)) ∧ (¬ (lg_cmp (mJ S5 u3 (0 : Int32).toNatClampNeg) ((r4 : Int32).toInt64)) = 0 → False)))))) ∧ (¬ r6 = r2 → False))) (fun _ _ => False) S3 u2) (fun _ _ => False) S1 u2 (xs ((y5 + 1) : Int32).toNatClampNeg))) (fun _ _ => False) S u1 (xs ((y5 + 1) : Int32).toNatClampNeg) u3)
set_option maxHeartbeats 8000000 in
set_option maxRecDepth 100000 in
theorem tL_law_1310 {p : Program} {l : Launch} {e : Env} {s : State} {m : MethodId} {below : List Frame} {meth : Method} {c : Code} {H : Heap} {locs : List Loc} {cells slots : Nat} {G : GP} {S0 : MS} {ls : Array Slot} {b L : Nat} {xs : Nat → Int32} (C : CF p l s m #[Value.ref b] meth c "SkirmishGridLaw" code 9 G (fun q => s.heap.size ≤ q)) (hr : meth.sig.returnType = ret) (hX : va_X b L xs s s.heap) (hbl : b < s.heap.size) (c0 s0 : Nat) (k28 : MS → Nat → Nat → Nat → Nat → Int32 → Prop) (kh28 : ∀ (S : MS) (u1 : Nat) (u2 : Nat) (u3 : Nat) (u4 : Nat) (y5 : Int32) (cells slots : Nat) (H : Heap) (locs : List Loc) (ls : Array Slot), pI S 8 u1 → pI S 9 u2 → pI S 16 u3 → pI S 17 u4 → PW G (fun q => s.heap.size ≤ q) s H locs S0 S → lv_has ls 9 [(0, .ref b), (1, .ref u1), (2, .ref u2), (3, .ref u3), (4, .ref u4), (5, .int y5)] → cells ≤ c0 + 5 → slots ≤ s0 + 30 → k28 S u1 u2 u3 u4 y5 → W p l e room_1 s m #[Value.ref b] below meth c H locs cells slots (lw_Z below #[Value.ref b] s) (F0 m 28 ls [])) (S : MS) (u1 : Nat) (u2 : Nat) (u3 : Nat) (u4 : Nat) (y5 : Int32) (p_u1 : pI S 8 u1) (p_u2 : pI S 9 u2) (p_u3 : pI S 16 u3) (p_u4 : pI S 17 u4) (P : PW G (fun q => s.heap.size ≤ q) s H locs S0 S) (hl : lv_has ls 9 [(0, .ref b), (1, .ref u1), (2, .ref u2), (3, .ref u3), (4, .ref u4), (5, .int y5)]) (hcc : cells + 5 ≤ c0 + 5) (hss : slots + 30 ≤ s0 + 30) (h0 : c0 + 5 ≤ 600006) (hs0 : s0 + 30 ≤ 7302056) (hw : wL_law_1310 L xs k28 S u1 u2 u3 u4 y5) : W p l e room_1 s m #[Value.ref b] below meth c H locs cells slots (lw_Z below #[Value.ref b] s) (F0 m 1310 ls []) := by
  have hx := CF_x C
  have hb := CF_b C
  unfold wL_law_1310 at hw
  refine lv_aload_n hx hb dL_law_1310 rfl (lv_at hl 1 rfl) ?_
  refine lv_aload_n hx hb dL_law_1311 rfl (lv_at hl 0 rfl) ?_
  refine lv_iload hx hb dL_law_1312 (lv_at hl 5 rfl) ?_
  refine lv_iconst (v := 1) hx hb dL_law_1314 (by decide) ?_
  refine lv_iadd hx hb dL_law_1315 ?_
  obtain ⟨h1, hw⟩ := hw
  refine va_sld hx hb hX hbl (Nat.not_le.mpr hbl) P.2.2.1 h1 dL_law_1316 ?_
  refine lv_aload_n hx hb dL_law_1317 rfl (lv_at hl 3 rfl) ?_
  refine cl_i C P (run_SX C P hl.1 (met_L_attack (CF_n C) G H.size _ _ S u1 (xs ((y5 + 1) : Int32).toNatClampNeg) u3 p_u1 p_u3 hw) q_1072 q_1073 q_0 q_1074 cd_L_attack.2 ⟨(Nat.le_of_ble_eq_true rfl), (Nat.le_of_ble_eq_true rfl)⟩ rfl rfl (As := [.ref u1, .int (xs ((y5 + 1) : Int32).toNatClampNeg), .ref u3]) (rest := []) rfl rfl (Nat.le_of_ble_eq_true rfl) dL_law_1318 ⟨by show cells + 5 ≤ 600006; omega, by show slots + 30 ≤ 7302056; omega⟩) kx_no (fun r2 S1 H locs P hE hw => ?_)
  have p_u1 : pI S1 8 u1 := pI_x hE p_u1
  have p_u2 : pI S1 9 u2 := pI_x hE p_u2
  have p_u3 : pI S1 16 u3 := pI_x hE p_u3
  have p_u4 : pI S1 17 u4 := pI_x hE p_u4
  refine lv_istore (lv' := [(6, .int r2), (0, .ref b), (1, .ref u1), (2, .ref u2), (3, .ref u3), (4, .ref u4), (5, .int y5)]) hx hb dL_law_1321 hl (by decide) rfl (fun ls hl => ?_)
  refine lv_aload_n hx hb dL_law_1323 rfl (lv_at hl 3 rfl) ?_
  refine lv_aload_n hx hb dL_law_1324 rfl (lv_at hl 1 rfl) ?_
  refine lv_iload hx hb dL_law_1325 (lv_at hl 6 rfl) ?_
  refine lv_iconst (v := 1) hx hb dL_law_1327 (by decide) ?_
  refine lv_iadd hx hb dL_law_1328 ?_
  obtain ⟨h1, hw⟩ := hw
  refine va_sld hx hb hX hbl (Nat.not_le.mpr hbl) P.2.2.1 h1 dL_law_1329 ?_
  refine cl_i C P (run_V C P hl.1 (kd := 9) (met_X9_attack (CF_n C) G H.size _ _ S1 u2 (xs ((y5 + 1) : Int32).toNatClampNeg) p_u2 hw) p_u2 (by decide) rfl q_1670 q_1671 q_1672 q_10 q_1673 cd_X9_attack ⟨(Nat.le_of_ble_eq_true rfl), (Nat.le_of_ble_eq_true rfl)⟩ rfl rfl (As := [.int (xs ((y5 + 1) : Int32).toNatClampNeg)]) (rest := []) rfl rfl (Nat.le_of_ble_eq_true rfl) dL_law_1330 ⟨by show cells + 5 + 0 ≤ 600006; omega, by show slots + 30 + 0 ≤ 7302056; omega⟩) kx_no (fun r4 S3 H locs P hE hw => ?_)
  have p_u1 : pI S3 8 u1 := pI_x hE p_u1
  have p_u2 : pI S3 9 u2 := pI_x hE p_u2
  have p_u3 : pI S3 16 u3 := pI_x hE p_u3
  have p_u4 : pI S3 17 u4 := pI_x hE p_u4
  refine lv_istore (lv' := [(7, .int r4), (6, .int r2), (0, .ref b), (1, .ref u1), (2, .ref u2), (3, .ref u3), (4, .ref u4), (5, .int y5)]) hx hb dL_law_1333 hl (by decide) rfl (fun ls hl => ?_)
  refine lv_aload_n hx hb dL_law_1335 rfl (lv_at hl 4 rfl) ?_
  refine cl_i C P (run_V C P hl.1 (kd := 9) (met_X9_thrown (CF_n C) G H.size _ _ S3 u2 p_u2 hw) p_u2 (by decide) rfl q_1375 q_1376 q_1377 q_10 q_1378 cd_X9_thrown ⟨(Nat.le_of_ble_eq_true rfl), (Nat.le_of_ble_eq_true rfl)⟩ rfl rfl (As := []) (rest := []) rfl rfl (Nat.le_of_ble_eq_true rfl) dL_law_1336 ⟨by show cells + 5 + 0 ≤ 600006; omega, by show slots + 30 + 0 ≤ 7302056; omega⟩) kx_no (fun r6 S5 H locs P hE hw => ?_)
  have p_u1 : pI S5 8 u1 := pI_x hE p_u1
  have p_u2 : pI S5 9 u2 := pI_x hE p_u2
  have p_u3 : pI S5 16 u3 := pI_x hE p_u3
  have p_u4 : pI S5 17 u4 := pI_x hE p_u4
  refine lv_iload hx hb dL_law_1339 (lv_at hl 1 rfl) ?_
  refine lv_icmp_eq (tgt := 1346) hx hb dL_law_1341 (by decide) (fun hc => ?_) (fun hc => ?_)
  · have hw := hw.1 hc
    refine lv_iload hx hb dL_law_1346 (lv_at hl 1 rfl) ?_
    refine lv_if_ne (tgt := 1363) hx hb dL_law_1348 (by decide) (fun hc => ?_) (fun hc => ?_)
    · have hw := hw.1 hc
      refine lv_goto (tgt := 2149) hx hb dL_law_1363 (by decide) ?_
      refine lv_iinc (v := (y5 + 4)) (lv' := [(5, .int (y5 + 4)), (7, .int r4), (6, .int r2), (0, .ref b), (1, .ref u1), (2, .ref u2), (3, .ref u3), (4, .ref u4)]) hx hb dL_law_2149 hl (k := 7) rfl (by rfl) (by decide) rfl (fun ls hl => ?_)
      refine lv_goto (tgt := 28) hx hb dL_law_2152 (by decide) ?_
      exact kh28 S5 u1 u2 u3 u4 (y5 + 4) _ _ _ _ _ p_u1 p_u2 p_u3 p_u4 P (lv_sub hl [3, 4, 5, 6, 7, 0] rfl) (by omega) (by omega) hw
    · have hw := hw.2 hc
      refine lv_aload_n hx hb dL_law_1351 rfl (lv_at hl 5 rfl) ?_
      refine lv_iconst (v := 0) hx hb dL_law_1352 (by decide) ?_
      obtain ⟨h1, hw⟩ := hw
      refine ra_j C P p_u3 h1 dL_law_1353 ?_
      refine lv_iload hx hb dL_law_1354 (lv_at hl 0 rfl) ?_
      refine lv_i2l (v := (r4 : Int32).toInt64) hx hb dL_law_1356 rfl ?_
      refine W.lcmp hx hb dL_law_1357 ?_
      refine lv_if_eq (tgt := 1363) hx hb dL_law_1358 (by decide) (fun hc => ?_) (fun hc => ?_)
      · have hw := hw.1 hc
        refine lv_goto (tgt := 2149) hx hb dL_law_1363 (by decide) ?_
        refine lv_iinc (v := (y5 + 4)) (lv' := [(5, .int (y5 + 4)), (7, .int r4), (6, .int r2), (0, .ref b), (1, .ref u1), (2, .ref u2), (3, .ref u3), (4, .ref u4)]) hx hb dL_law_2149 hl (k := 7) rfl (by rfl) (by decide) rfl (fun ls hl => ?_)
        refine lv_goto (tgt := 28) hx hb dL_law_2152 (by decide) ?_
        exact kh28 S5 u1 u2 u3 u4 (y5 + 4) _ _ _ _ _ p_u1 p_u2 p_u3 p_u4 P (lv_sub hl [3, 4, 5, 6, 7, 0] rfl) (by omega) (by omega) hw
      · have hw := hw.2 hc
        refine lv_iconst (v := 0) hx hb dL_law_1361 (by decide) ?_
        exact hw.elim
  · have hw := hw.2 hc
    refine lv_iconst (v := 0) hx hb dL_law_1344 (by decide) ?_
    exact hw.elim
def wL_law_1366 (L : Nat) (xs : Nat → Int32) (k28 : MS → Nat → Nat → Nat → Nat → Int32 → Prop) (S : MS) (u1 : Nat) (u2 : Nat) (u3 : Nat) (u4 : Nat) (y5 : Int32) : Prop := (vp_in (y5 + 1) L ∧ wp_L_throwAt (fun r2 S1 => (vp_in (y5 + 1) L ∧ wp_X9_throwAt (fun r4 S3 => wp_X9_thrown (fun r6 S5 => ((r6 = r2 → ((¬ r2 = 0 → k28 S5 u1 u2 u3 u4 (y5 + 4)) ∧ (r2 = 0 → (vp_in 0 (mN S5 u3) ∧ (((lg_cmp (mJ S5 u3 (0 : Int32).toNatClampNeg) ((r4 : Int32).toInt64)) = 0 → k28 S5 u1 u2 u3 u4 (y5 + 4)) ∧ (¬ (lg_cmp (mJ S5 u3 (0 : Int32).toNatClampNeg) ((r4 : Int32).toInt64)) = 0 → False)))))) ∧ (¬ r6 = r2 → False))) (fun _ _ => False) S3 u2) (fun _ _ => False) S1 u2 (xs ((y5 + 1) : Int32).toNatClampNeg))) (fun _ _ => False) S u1 (xs ((y5 + 1) : Int32).toNatClampNeg) u3)
set_option maxHeartbeats 8000000 in
set_option maxRecDepth 100000 in
theorem tL_law_1366 {p : Program} {l : Launch} {e : Env} {s : State} {m : MethodId} {below : List Frame} {meth : Method} {c : Code} {H : Heap} {locs : List Loc} {cells slots : Nat} {G : GP} {S0 : MS} {ls : Array Slot} {b L : Nat} {xs : Nat → Int32} (C : CF p l s m #[Value.ref b] meth c "SkirmishGridLaw" code 9 G (fun q => s.heap.size ≤ q)) (hr : meth.sig.returnType = ret) (hX : va_X b L xs s s.heap) (hbl : b < s.heap.size) (c0 s0 : Nat) (k28 : MS → Nat → Nat → Nat → Nat → Int32 → Prop) (kh28 : ∀ (S : MS) (u1 : Nat) (u2 : Nat) (u3 : Nat) (u4 : Nat) (y5 : Int32) (cells slots : Nat) (H : Heap) (locs : List Loc) (ls : Array Slot), pI S 8 u1 → pI S 9 u2 → pI S 16 u3 → pI S 17 u4 → PW G (fun q => s.heap.size ≤ q) s H locs S0 S → lv_has ls 9 [(0, .ref b), (1, .ref u1), (2, .ref u2), (3, .ref u3), (4, .ref u4), (5, .int y5)] → cells ≤ c0 + 5 → slots ≤ s0 + 30 → k28 S u1 u2 u3 u4 y5 → W p l e room_1 s m #[Value.ref b] below meth c H locs cells slots (lw_Z below #[Value.ref b] s) (F0 m 28 ls [])) (S : MS) (u1 : Nat) (u2 : Nat) (u3 : Nat) (u4 : Nat) (y5 : Int32) (p_u1 : pI S 8 u1) (p_u2 : pI S 9 u2) (p_u3 : pI S 16 u3) (p_u4 : pI S 17 u4) (P : PW G (fun q => s.heap.size ≤ q) s H locs S0 S) (hl : lv_has ls 9 [(0, .ref b), (1, .ref u1), (2, .ref u2), (3, .ref u3), (4, .ref u4), (5, .int y5)]) (hcc : cells + 4 ≤ c0 + 5) (hss : slots + 24 ≤ s0 + 30) (h0 : c0 + 5 ≤ 600006) (hs0 : s0 + 30 ≤ 7302056) (hw : wL_law_1366 L xs k28 S u1 u2 u3 u4 y5) : W p l e room_1 s m #[Value.ref b] below meth c H locs cells slots (lw_Z below #[Value.ref b] s) (F0 m 1366 ls []) := by
  have hx := CF_x C
  have hb := CF_b C
  unfold wL_law_1366 at hw
  refine lv_aload_n hx hb dL_law_1366 rfl (lv_at hl 1 rfl) ?_
  refine lv_aload_n hx hb dL_law_1367 rfl (lv_at hl 0 rfl) ?_
  refine lv_iload hx hb dL_law_1368 (lv_at hl 5 rfl) ?_
  refine lv_iconst (v := 1) hx hb dL_law_1370 (by decide) ?_
  refine lv_iadd hx hb dL_law_1371 ?_
  obtain ⟨h1, hw⟩ := hw
  refine va_sld hx hb hX hbl (Nat.not_le.mpr hbl) P.2.2.1 h1 dL_law_1372 ?_
  refine lv_aload_n hx hb dL_law_1373 rfl (lv_at hl 3 rfl) ?_
  refine cl_i C P (run_SX C P hl.1 (met_L_throwAt (CF_n C) G H.size _ _ S u1 (xs ((y5 + 1) : Int32).toNatClampNeg) u3 p_u1 p_u3 hw) q_1088 q_1089 q_0 q_1090 cd_L_throwAt.2 ⟨(Nat.le_of_ble_eq_true rfl), (Nat.le_of_ble_eq_true rfl)⟩ rfl rfl (As := [.ref u1, .int (xs ((y5 + 1) : Int32).toNatClampNeg), .ref u3]) (rest := []) rfl rfl (Nat.le_of_ble_eq_true rfl) dL_law_1374 ⟨by show cells + 4 ≤ 600006; omega, by show slots + 24 ≤ 7302056; omega⟩) kx_no (fun r2 S1 H locs P hE hw => ?_)
  have p_u1 : pI S1 8 u1 := pI_x hE p_u1
  have p_u2 : pI S1 9 u2 := pI_x hE p_u2
  have p_u3 : pI S1 16 u3 := pI_x hE p_u3
  have p_u4 : pI S1 17 u4 := pI_x hE p_u4
  refine lv_istore (lv' := [(6, .int r2), (0, .ref b), (1, .ref u1), (2, .ref u2), (3, .ref u3), (4, .ref u4), (5, .int y5)]) hx hb dL_law_1377 hl (by decide) rfl (fun ls hl => ?_)
  refine lv_aload_n hx hb dL_law_1379 rfl (lv_at hl 3 rfl) ?_
  refine lv_aload_n hx hb dL_law_1380 rfl (lv_at hl 1 rfl) ?_
  refine lv_iload hx hb dL_law_1381 (lv_at hl 6 rfl) ?_
  refine lv_iconst (v := 1) hx hb dL_law_1383 (by decide) ?_
  refine lv_iadd hx hb dL_law_1384 ?_
  obtain ⟨h1, hw⟩ := hw
  refine va_sld hx hb hX hbl (Nat.not_le.mpr hbl) P.2.2.1 h1 dL_law_1385 ?_
  refine cl_i C P (run_V C P hl.1 (kd := 9) (met_X9_throwAt (CF_n C) G H.size _ _ S1 u2 (xs ((y5 + 1) : Int32).toNatClampNeg) p_u2 hw) p_u2 (by decide) rfl q_1674 q_1675 q_1676 q_10 q_1677 cd_X9_throwAt ⟨(Nat.le_of_ble_eq_true rfl), (Nat.le_of_ble_eq_true rfl)⟩ rfl rfl (As := [.int (xs ((y5 + 1) : Int32).toNatClampNeg)]) (rest := []) rfl rfl (Nat.le_of_ble_eq_true rfl) dL_law_1386 ⟨by show cells + 4 + 0 ≤ 600006; omega, by show slots + 24 + 0 ≤ 7302056; omega⟩) kx_no (fun r4 S3 H locs P hE hw => ?_)
  have p_u1 : pI S3 8 u1 := pI_x hE p_u1
  have p_u2 : pI S3 9 u2 := pI_x hE p_u2
  have p_u3 : pI S3 16 u3 := pI_x hE p_u3
  have p_u4 : pI S3 17 u4 := pI_x hE p_u4
  refine lv_istore (lv' := [(7, .int r4), (6, .int r2), (0, .ref b), (1, .ref u1), (2, .ref u2), (3, .ref u3), (4, .ref u4), (5, .int y5)]) hx hb dL_law_1389 hl (by decide) rfl (fun ls hl => ?_)
  refine lv_aload_n hx hb dL_law_1391 rfl (lv_at hl 4 rfl) ?_
  refine cl_i C P (run_V C P hl.1 (kd := 9) (met_X9_thrown (CF_n C) G H.size _ _ S3 u2 p_u2 hw) p_u2 (by decide) rfl q_1375 q_1376 q_1377 q_10 q_1378 cd_X9_thrown ⟨(Nat.le_of_ble_eq_true rfl), (Nat.le_of_ble_eq_true rfl)⟩ rfl rfl (As := []) (rest := []) rfl rfl (Nat.le_of_ble_eq_true rfl) dL_law_1392 ⟨by show cells + 4 + 0 ≤ 600006; omega, by show slots + 24 + 0 ≤ 7302056; omega⟩) kx_no (fun r6 S5 H locs P hE hw => ?_)
  have p_u1 : pI S5 8 u1 := pI_x hE p_u1
  have p_u2 : pI S5 9 u2 := pI_x hE p_u2
  have p_u3 : pI S5 16 u3 := pI_x hE p_u3
  have p_u4 : pI S5 17 u4 := pI_x hE p_u4
  refine lv_iload hx hb dL_law_1395 (lv_at hl 1 rfl) ?_
  refine lv_icmp_eq (tgt := 1402) hx hb dL_law_1397 (by decide) (fun hc => ?_) (fun hc => ?_)
  · have hw := hw.1 hc
    refine lv_iload hx hb dL_law_1402 (lv_at hl 1 rfl) ?_
    refine lv_if_ne (tgt := 1419) hx hb dL_law_1404 (by decide) (fun hc => ?_) (fun hc => ?_)
    · have hw := hw.1 hc
      refine lv_goto (tgt := 2149) hx hb dL_law_1419 (by decide) ?_
      refine lv_iinc (v := (y5 + 4)) (lv' := [(5, .int (y5 + 4)), (7, .int r4), (6, .int r2), (0, .ref b), (1, .ref u1), (2, .ref u2), (3, .ref u3), (4, .ref u4)]) hx hb dL_law_2149 hl (k := 7) rfl (by rfl) (by decide) rfl (fun ls hl => ?_)
      refine lv_goto (tgt := 28) hx hb dL_law_2152 (by decide) ?_
      exact kh28 S5 u1 u2 u3 u4 (y5 + 4) _ _ _ _ _ p_u1 p_u2 p_u3 p_u4 P (lv_sub hl [3, 4, 5, 6, 7, 0] rfl) (by omega) (by omega) hw
    · have hw := hw.2 hc
      refine lv_aload_n hx hb dL_law_1407 rfl (lv_at hl 5 rfl) ?_
      refine lv_iconst (v := 0) hx hb dL_law_1408 (by decide) ?_
      obtain ⟨h1, hw⟩ := hw
      refine ra_j C P p_u3 h1 dL_law_1409 ?_
      refine lv_iload hx hb dL_law_1410 (lv_at hl 0 rfl) ?_
      refine lv_i2l (v := (r4 : Int32).toInt64) hx hb dL_law_1412 rfl ?_
      refine W.lcmp hx hb dL_law_1413 ?_
      refine lv_if_eq (tgt := 1419) hx hb dL_law_1414 (by decide) (fun hc => ?_) (fun hc => ?_)
      · have hw := hw.1 hc
        refine lv_goto (tgt := 2149) hx hb dL_law_1419 (by decide) ?_
        refine lv_iinc (v := (y5 + 4)) (lv' := [(5, .int (y5 + 4)), (7, .int r4), (6, .int r2), (0, .ref b), (1, .ref u1), (2, .ref u2), (3, .ref u3), (4, .ref u4)]) hx hb dL_law_2149 hl (k := 7) rfl (by rfl) (by decide) rfl (fun ls hl => ?_)
        refine lv_goto (tgt := 28) hx hb dL_law_2152 (by decide) ?_
        exact kh28 S5 u1 u2 u3 u4 (y5 + 4) _ _ _ _ _ p_u1 p_u2 p_u3 p_u4 P (lv_sub hl [3, 4, 5, 6, 7, 0] rfl) (by omega) (by omega) hw
      · have hw := hw.2 hc
        refine lv_iconst (v := 0) hx hb dL_law_1417 (by decide) ?_
        exact hw.elim
  · have hw := hw.2 hc
    refine lv_iconst (v := 0) hx hb dL_law_1400 (by decide) ?_
    exact hw.elim
def wL_law_1422 (L : Nat) (xs : Nat → Int32) (k28 : MS → Nat → Nat → Nat → Nat → Int32 → Prop) (S : MS) (u1 : Nat) (u2 : Nat) (u3 : Nat) (u4 : Nat) (y5 : Int32) : Prop := wp_L_guard (fun r2 S1 => wp_X9_guard (fun r4 S3 => wp_X9_thrown (fun r6 S5 => ((r6 = r2 → ((¬ r2 = 0 → k28 S5 u1 u2 u3 u4 (y5 + 4)) ∧ (r2 = 0 → (vp_in 0 (mN S5 u3) ∧ (((lg_cmp (mJ S5 u3 (0 : Int32).toNatClampNeg) ((r4 : Int32).toInt64)) = 0 → k28 S5 u1 u2 u3 u4 (y5 + 4)) ∧ (¬ (lg_cmp (mJ S5 u3 (0 : Int32).toNatClampNeg) ((r4 : Int32).toInt64)) = 0 → False)))))) ∧ (¬ r6 = r2 → False))) (fun _ _ => False) S3 u2) (fun _ _ => False) S1 u2) (fun _ _ => False) S u1 u3
set_option maxHeartbeats 8000000 in
set_option maxRecDepth 100000 in
theorem tL_law_1422 {p : Program} {l : Launch} {e : Env} {s : State} {m : MethodId} {below : List Frame} {meth : Method} {c : Code} {H : Heap} {locs : List Loc} {cells slots : Nat} {G : GP} {S0 : MS} {ls : Array Slot} {b L : Nat} {xs : Nat → Int32} (C : CF p l s m #[Value.ref b] meth c "SkirmishGridLaw" code 9 G (fun q => s.heap.size ≤ q)) (hr : meth.sig.returnType = ret) (hX : va_X b L xs s s.heap) (hbl : b < s.heap.size) (c0 s0 : Nat) (k28 : MS → Nat → Nat → Nat → Nat → Int32 → Prop) (kh28 : ∀ (S : MS) (u1 : Nat) (u2 : Nat) (u3 : Nat) (u4 : Nat) (y5 : Int32) (cells slots : Nat) (H : Heap) (locs : List Loc) (ls : Array Slot), pI S 8 u1 → pI S 9 u2 → pI S 16 u3 → pI S 17 u4 → PW G (fun q => s.heap.size ≤ q) s H locs S0 S → lv_has ls 9 [(0, .ref b), (1, .ref u1), (2, .ref u2), (3, .ref u3), (4, .ref u4), (5, .int y5)] → cells ≤ c0 + 5 → slots ≤ s0 + 30 → k28 S u1 u2 u3 u4 y5 → W p l e room_1 s m #[Value.ref b] below meth c H locs cells slots (lw_Z below #[Value.ref b] s) (F0 m 28 ls [])) (S : MS) (u1 : Nat) (u2 : Nat) (u3 : Nat) (u4 : Nat) (y5 : Int32) (p_u1 : pI S 8 u1) (p_u2 : pI S 9 u2) (p_u3 : pI S 16 u3) (p_u4 : pI S 17 u4) (P : PW G (fun q => s.heap.size ≤ q) s H locs S0 S) (hl : lv_has ls 9 [(0, .ref b), (1, .ref u1), (2, .ref u2), (3, .ref u3), (4, .ref u4), (5, .int y5)]) (hcc : cells + 3 ≤ c0 + 5) (hss : slots + 18 ≤ s0 + 30) (h0 : c0 + 5 ≤ 600006) (hs0 : s0 + 30 ≤ 7302056) (hw : wL_law_1422 L xs k28 S u1 u2 u3 u4 y5) : W p l e room_1 s m #[Value.ref b] below meth c H locs cells slots (lw_Z below #[Value.ref b] s) (F0 m 1422 ls []) := by
  have hx := CF_x C
  have hb := CF_b C
  unfold wL_law_1422 at hw
  refine lv_aload_n hx hb dL_law_1422 rfl (lv_at hl 1 rfl) ?_
  refine lv_aload_n hx hb dL_law_1423 rfl (lv_at hl 3 rfl) ?_
  refine cl_i C P (run_SX C P hl.1 (met_L_guard (CF_n C) G H.size _ _ S u1 u3 p_u1 p_u3 hw) q_1109 q_1110 q_0 q_1111 cd_L_guard.2 ⟨(Nat.le_of_ble_eq_true rfl), (Nat.le_of_ble_eq_true rfl)⟩ rfl rfl (As := [.ref u1, .ref u3]) (rest := []) rfl rfl (Nat.le_of_ble_eq_true rfl) dL_law_1424 ⟨by show cells + 3 ≤ 600006; omega, by show slots + 18 ≤ 7302056; omega⟩) kx_no (fun r2 S1 H locs P hE hw => ?_)
  have p_u1 : pI S1 8 u1 := pI_x hE p_u1
  have p_u2 : pI S1 9 u2 := pI_x hE p_u2
  have p_u3 : pI S1 16 u3 := pI_x hE p_u3
  have p_u4 : pI S1 17 u4 := pI_x hE p_u4
  refine lv_istore (lv' := [(6, .int r2), (0, .ref b), (1, .ref u1), (2, .ref u2), (3, .ref u3), (4, .ref u4), (5, .int y5)]) hx hb dL_law_1427 hl (by decide) rfl (fun ls hl => ?_)
  refine lv_aload_n hx hb dL_law_1429 rfl (lv_at hl 3 rfl) ?_
  refine cl_i C P (run_V C P hl.1 (kd := 9) (met_X9_guard (CF_n C) G H.size _ _ S1 u2 p_u2 hw) p_u2 (by decide) rfl q_1678 q_1679 q_1680 q_10 q_1681 cd_X9_guard ⟨(Nat.le_of_ble_eq_true rfl), (Nat.le_of_ble_eq_true rfl)⟩ rfl rfl (As := []) (rest := []) rfl rfl (Nat.le_of_ble_eq_true rfl) dL_law_1430 ⟨by show cells + 3 + 0 ≤ 600006; omega, by show slots + 18 + 0 ≤ 7302056; omega⟩) kx_no (fun r4 S3 H locs P hE hw => ?_)
  have p_u1 : pI S3 8 u1 := pI_x hE p_u1
  have p_u2 : pI S3 9 u2 := pI_x hE p_u2
  have p_u3 : pI S3 16 u3 := pI_x hE p_u3
  have p_u4 : pI S3 17 u4 := pI_x hE p_u4
  refine lv_istore (lv' := [(7, .int r4), (6, .int r2), (0, .ref b), (1, .ref u1), (2, .ref u2), (3, .ref u3), (4, .ref u4), (5, .int y5)]) hx hb dL_law_1433 hl (by decide) rfl (fun ls hl => ?_)
  refine lv_aload_n hx hb dL_law_1435 rfl (lv_at hl 4 rfl) ?_
  refine cl_i C P (run_V C P hl.1 (kd := 9) (met_X9_thrown (CF_n C) G H.size _ _ S3 u2 p_u2 hw) p_u2 (by decide) rfl q_1375 q_1376 q_1377 q_10 q_1378 cd_X9_thrown ⟨(Nat.le_of_ble_eq_true rfl), (Nat.le_of_ble_eq_true rfl)⟩ rfl rfl (As := []) (rest := []) rfl rfl (Nat.le_of_ble_eq_true rfl) dL_law_1436 ⟨by show cells + 3 + 0 ≤ 600006; omega, by show slots + 18 + 0 ≤ 7302056; omega⟩) kx_no (fun r6 S5 H locs P hE hw => ?_)
  have p_u1 : pI S5 8 u1 := pI_x hE p_u1
  have p_u2 : pI S5 9 u2 := pI_x hE p_u2
  have p_u3 : pI S5 16 u3 := pI_x hE p_u3
  have p_u4 : pI S5 17 u4 := pI_x hE p_u4
  refine lv_iload hx hb dL_law_1439 (lv_at hl 1 rfl) ?_
  refine lv_icmp_eq (tgt := 1446) hx hb dL_law_1441 (by decide) (fun hc => ?_) (fun hc => ?_)
  · have hw := hw.1 hc
    refine lv_iload hx hb dL_law_1446 (lv_at hl 1 rfl) ?_
    refine lv_if_ne (tgt := 1463) hx hb dL_law_1448 (by decide) (fun hc => ?_) (fun hc => ?_)
    · have hw := hw.1 hc
      refine lv_goto (tgt := 2149) hx hb dL_law_1463 (by decide) ?_
      refine lv_iinc (v := (y5 + 4)) (lv' := [(5, .int (y5 + 4)), (7, .int r4), (6, .int r2), (0, .ref b), (1, .ref u1), (2, .ref u2), (3, .ref u3), (4, .ref u4)]) hx hb dL_law_2149 hl (k := 7) rfl (by rfl) (by decide) rfl (fun ls hl => ?_)
      refine lv_goto (tgt := 28) hx hb dL_law_2152 (by decide) ?_
      exact kh28 S5 u1 u2 u3 u4 (y5 + 4) _ _ _ _ _ p_u1 p_u2 p_u3 p_u4 P (lv_sub hl [3, 4, 5, 6, 7, 0] rfl) (by omega) (by omega) hw
    · have hw := hw.2 hc
      refine lv_aload_n hx hb dL_law_1451 rfl (lv_at hl 5 rfl) ?_
      refine lv_iconst (v := 0) hx hb dL_law_1452 (by decide) ?_
      obtain ⟨h1, hw⟩ := hw
      refine ra_j C P p_u3 h1 dL_law_1453 ?_
      refine lv_iload hx hb dL_law_1454 (lv_at hl 0 rfl) ?_
      refine lv_i2l (v := (r4 : Int32).toInt64) hx hb dL_law_1456 rfl ?_
      refine W.lcmp hx hb dL_law_1457 ?_
      refine lv_if_eq (tgt := 1463) hx hb dL_law_1458 (by decide) (fun hc => ?_) (fun hc => ?_)
      · have hw := hw.1 hc
        refine lv_goto (tgt := 2149) hx hb dL_law_1463 (by decide) ?_
        refine lv_iinc (v := (y5 + 4)) (lv' := [(5, .int (y5 + 4)), (7, .int r4), (6, .int r2), (0, .ref b), (1, .ref u1), (2, .ref u2), (3, .ref u3), (4, .ref u4)]) hx hb dL_law_2149 hl (k := 7) rfl (by rfl) (by decide) rfl (fun ls hl => ?_)
        refine lv_goto (tgt := 28) hx hb dL_law_2152 (by decide) ?_
        exact kh28 S5 u1 u2 u3 u4 (y5 + 4) _ _ _ _ _ p_u1 p_u2 p_u3 p_u4 P (lv_sub hl [3, 4, 5, 6, 7, 0] rfl) (by omega) (by omega) hw
      · have hw := hw.2 hc
        refine lv_iconst (v := 0) hx hb dL_law_1461 (by decide) ?_
        exact hw.elim
  · have hw := hw.2 hc
    refine lv_iconst (v := 0) hx hb dL_law_1444 (by decide) ?_
    exact hw.elim
def wL_law_1466 (L : Nat) (xs : Nat → Int32) (k28 : MS → Nat → Nat → Nat → Nat → Int32 → Prop) (S : MS) (u1 : Nat) (u2 : Nat) (u3 : Nat) (u4 : Nat) (y5 : Int32) : Prop := wp_L_watch (fun r2 S1 => wp_X9_watch (fun r4 S3 => wp_X9_thrown (fun r6 S5 => ((r6 = r2 → ((¬ r2 = 0 → k28 S5 u1 u2 u3 u4 (y5 + 4)) ∧ (r2 = 0 → (vp_in 0 (mN S5 u3) ∧ (((lg_cmp (mJ S5 u3 (0 : Int32).toNatClampNeg) ((r4 : Int32).toInt64)) = 0 → k28 S5 u1 u2 u3 u4 (y5 + 4)) ∧ (¬ (lg_cmp (mJ S5 u3 (0 : Int32).toNatClampNeg) ((r4 : Int32).toInt64)) = 0 → False)))))) ∧ (¬ r6 = r2 → False))) (fun _ _ => False) S3 u2) (fun _ _ => False) S1 u2) (fun _ _ => False) S u1 u3
set_option maxHeartbeats 8000000 in
set_option maxRecDepth 100000 in
theorem tL_law_1466 {p : Program} {l : Launch} {e : Env} {s : State} {m : MethodId} {below : List Frame} {meth : Method} {c : Code} {H : Heap} {locs : List Loc} {cells slots : Nat} {G : GP} {S0 : MS} {ls : Array Slot} {b L : Nat} {xs : Nat → Int32} (C : CF p l s m #[Value.ref b] meth c "SkirmishGridLaw" code 9 G (fun q => s.heap.size ≤ q)) (hr : meth.sig.returnType = ret) (hX : va_X b L xs s s.heap) (hbl : b < s.heap.size) (c0 s0 : Nat) (k28 : MS → Nat → Nat → Nat → Nat → Int32 → Prop) (kh28 : ∀ (S : MS) (u1 : Nat) (u2 : Nat) (u3 : Nat) (u4 : Nat) (y5 : Int32) (cells slots : Nat) (H : Heap) (locs : List Loc) (ls : Array Slot), pI S 8 u1 → pI S 9 u2 → pI S 16 u3 → pI S 17 u4 → PW G (fun q => s.heap.size ≤ q) s H locs S0 S → lv_has ls 9 [(0, .ref b), (1, .ref u1), (2, .ref u2), (3, .ref u3), (4, .ref u4), (5, .int y5)] → cells ≤ c0 + 5 → slots ≤ s0 + 30 → k28 S u1 u2 u3 u4 y5 → W p l e room_1 s m #[Value.ref b] below meth c H locs cells slots (lw_Z below #[Value.ref b] s) (F0 m 28 ls [])) (S : MS) (u1 : Nat) (u2 : Nat) (u3 : Nat) (u4 : Nat) (y5 : Int32) (p_u1 : pI S 8 u1) (p_u2 : pI S 9 u2) (p_u3 : pI S 16 u3) (p_u4 : pI S 17 u4) (P : PW G (fun q => s.heap.size ≤ q) s H locs S0 S) (hl : lv_has ls 9 [(0, .ref b), (1, .ref u1), (2, .ref u2), (3, .ref u3), (4, .ref u4), (5, .int y5)]) (hcc : cells + 3 ≤ c0 + 5) (hss : slots + 18 ≤ s0 + 30) (h0 : c0 + 5 ≤ 600006) (hs0 : s0 + 30 ≤ 7302056) (hw : wL_law_1466 L xs k28 S u1 u2 u3 u4 y5) : W p l e room_1 s m #[Value.ref b] below meth c H locs cells slots (lw_Z below #[Value.ref b] s) (F0 m 1466 ls []) := by
  have hx := CF_x C
  have hb := CF_b C
  unfold wL_law_1466 at hw
  refine lv_aload_n hx hb dL_law_1466 rfl (lv_at hl 1 rfl) ?_
  refine lv_aload_n hx hb dL_law_1467 rfl (lv_at hl 3 rfl) ?_
  refine cl_i C P (run_SX C P hl.1 (met_L_watch (CF_n C) G H.size _ _ S u1 u3 p_u1 p_u3 hw) q_1121 q_1122 q_0 q_1123 cd_L_watch.2 ⟨(Nat.le_of_ble_eq_true rfl), (Nat.le_of_ble_eq_true rfl)⟩ rfl rfl (As := [.ref u1, .ref u3]) (rest := []) rfl rfl (Nat.le_of_ble_eq_true rfl) dL_law_1468 ⟨by show cells + 3 ≤ 600006; omega, by show slots + 18 ≤ 7302056; omega⟩) kx_no (fun r2 S1 H locs P hE hw => ?_)
  have p_u1 : pI S1 8 u1 := pI_x hE p_u1
  have p_u2 : pI S1 9 u2 := pI_x hE p_u2
  have p_u3 : pI S1 16 u3 := pI_x hE p_u3
  have p_u4 : pI S1 17 u4 := pI_x hE p_u4
  refine lv_istore (lv' := [(6, .int r2), (0, .ref b), (1, .ref u1), (2, .ref u2), (3, .ref u3), (4, .ref u4), (5, .int y5)]) hx hb dL_law_1471 hl (by decide) rfl (fun ls hl => ?_)
  refine lv_aload_n hx hb dL_law_1473 rfl (lv_at hl 3 rfl) ?_
  refine cl_i C P (run_V C P hl.1 (kd := 9) (met_X9_watch (CF_n C) G H.size _ _ S1 u2 p_u2 hw) p_u2 (by decide) rfl q_1686 q_1687 q_1688 q_10 q_1689 cd_X9_watch ⟨(Nat.le_of_ble_eq_true rfl), (Nat.le_of_ble_eq_true rfl)⟩ rfl rfl (As := []) (rest := []) rfl rfl (Nat.le_of_ble_eq_true rfl) dL_law_1474 ⟨by show cells + 3 + 0 ≤ 600006; omega, by show slots + 18 + 0 ≤ 7302056; omega⟩) kx_no (fun r4 S3 H locs P hE hw => ?_)
  have p_u1 : pI S3 8 u1 := pI_x hE p_u1
  have p_u2 : pI S3 9 u2 := pI_x hE p_u2
  have p_u3 : pI S3 16 u3 := pI_x hE p_u3
  have p_u4 : pI S3 17 u4 := pI_x hE p_u4
  refine lv_istore (lv' := [(7, .int r4), (6, .int r2), (0, .ref b), (1, .ref u1), (2, .ref u2), (3, .ref u3), (4, .ref u4), (5, .int y5)]) hx hb dL_law_1477 hl (by decide) rfl (fun ls hl => ?_)
  refine lv_aload_n hx hb dL_law_1479 rfl (lv_at hl 4 rfl) ?_
  refine cl_i C P (run_V C P hl.1 (kd := 9) (met_X9_thrown (CF_n C) G H.size _ _ S3 u2 p_u2 hw) p_u2 (by decide) rfl q_1375 q_1376 q_1377 q_10 q_1378 cd_X9_thrown ⟨(Nat.le_of_ble_eq_true rfl), (Nat.le_of_ble_eq_true rfl)⟩ rfl rfl (As := []) (rest := []) rfl rfl (Nat.le_of_ble_eq_true rfl) dL_law_1480 ⟨by show cells + 3 + 0 ≤ 600006; omega, by show slots + 18 + 0 ≤ 7302056; omega⟩) kx_no (fun r6 S5 H locs P hE hw => ?_)
  have p_u1 : pI S5 8 u1 := pI_x hE p_u1
  have p_u2 : pI S5 9 u2 := pI_x hE p_u2
  have p_u3 : pI S5 16 u3 := pI_x hE p_u3
  have p_u4 : pI S5 17 u4 := pI_x hE p_u4
  refine lv_iload hx hb dL_law_1483 (lv_at hl 1 rfl) ?_
  refine lv_icmp_eq (tgt := 1490) hx hb dL_law_1485 (by decide) (fun hc => ?_) (fun hc => ?_)
  · have hw := hw.1 hc
    refine lv_iload hx hb dL_law_1490 (lv_at hl 1 rfl) ?_
    refine lv_if_ne (tgt := 1507) hx hb dL_law_1492 (by decide) (fun hc => ?_) (fun hc => ?_)
    · have hw := hw.1 hc
      refine lv_goto (tgt := 2149) hx hb dL_law_1507 (by decide) ?_
      refine lv_iinc (v := (y5 + 4)) (lv' := [(5, .int (y5 + 4)), (7, .int r4), (6, .int r2), (0, .ref b), (1, .ref u1), (2, .ref u2), (3, .ref u3), (4, .ref u4)]) hx hb dL_law_2149 hl (k := 7) rfl (by rfl) (by decide) rfl (fun ls hl => ?_)
      refine lv_goto (tgt := 28) hx hb dL_law_2152 (by decide) ?_
      exact kh28 S5 u1 u2 u3 u4 (y5 + 4) _ _ _ _ _ p_u1 p_u2 p_u3 p_u4 P (lv_sub hl [3, 4, 5, 6, 7, 0] rfl) (by omega) (by omega) hw
    · have hw := hw.2 hc
      refine lv_aload_n hx hb dL_law_1495 rfl (lv_at hl 5 rfl) ?_
      refine lv_iconst (v := 0) hx hb dL_law_1496 (by decide) ?_
      obtain ⟨h1, hw⟩ := hw
      refine ra_j C P p_u3 h1 dL_law_1497 ?_
      refine lv_iload hx hb dL_law_1498 (lv_at hl 0 rfl) ?_
      refine lv_i2l (v := (r4 : Int32).toInt64) hx hb dL_law_1500 rfl ?_
      refine W.lcmp hx hb dL_law_1501 ?_
      refine lv_if_eq (tgt := 1507) hx hb dL_law_1502 (by decide) (fun hc => ?_) (fun hc => ?_)
      · have hw := hw.1 hc
        refine lv_goto (tgt := 2149) hx hb dL_law_1507 (by decide) ?_
        refine lv_iinc (v := (y5 + 4)) (lv' := [(5, .int (y5 + 4)), (7, .int r4), (6, .int r2), (0, .ref b), (1, .ref u1), (2, .ref u2), (3, .ref u3), (4, .ref u4)]) hx hb dL_law_2149 hl (k := 7) rfl (by rfl) (by decide) rfl (fun ls hl => ?_)
        refine lv_goto (tgt := 28) hx hb dL_law_2152 (by decide) ?_
        exact kh28 S5 u1 u2 u3 u4 (y5 + 4) _ _ _ _ _ p_u1 p_u2 p_u3 p_u4 P (lv_sub hl [3, 4, 5, 6, 7, 0] rfl) (by omega) (by omega) hw
      · have hw := hw.2 hc
        refine lv_iconst (v := 0) hx hb dL_law_1505 (by decide) ?_
        exact hw.elim
  · have hw := hw.2 hc
    refine lv_iconst (v := 0) hx hb dL_law_1488 (by decide) ?_
    exact hw.elim
def wL_law_1510 (L : Nat) (xs : Nat → Int32) (k28 : MS → Nat → Nat → Nat → Nat → Int32 → Prop) (S : MS) (u1 : Nat) (u2 : Nat) (u3 : Nat) (u4 : Nat) (y5 : Int32) : Prop := wp_L_reload (fun r2 S1 => wp_X9_reload (fun r4 S3 => wp_X9_thrown (fun r6 S5 => ((r6 = r2 → ((¬ r2 = 0 → k28 S5 u1 u2 u3 u4 (y5 + 4)) ∧ (r2 = 0 → (vp_in 0 (mN S5 u3) ∧ (((lg_cmp (mJ S5 u3 (0 : Int32).toNatClampNeg) ((r4 : Int32).toInt64)) = 0 → k28 S5 u1 u2 u3 u4 (y5 + 4)) ∧ (¬ (lg_cmp (mJ S5 u3 (0 : Int32).toNatClampNeg) ((r4 : Int32).toInt64)) = 0 → False)))))) ∧ (¬ r6 = r2 → False))) (fun _ _ => False) S3 u2) (fun _ _ => False) S1 u2) (fun _ _ => False) S u1 u3
set_option maxHeartbeats 8000000 in
set_option maxRecDepth 100000 in
theorem tL_law_1510 {p : Program} {l : Launch} {e : Env} {s : State} {m : MethodId} {below : List Frame} {meth : Method} {c : Code} {H : Heap} {locs : List Loc} {cells slots : Nat} {G : GP} {S0 : MS} {ls : Array Slot} {b L : Nat} {xs : Nat → Int32} (C : CF p l s m #[Value.ref b] meth c "SkirmishGridLaw" code 9 G (fun q => s.heap.size ≤ q)) (hr : meth.sig.returnType = ret) (hX : va_X b L xs s s.heap) (hbl : b < s.heap.size) (c0 s0 : Nat) (k28 : MS → Nat → Nat → Nat → Nat → Int32 → Prop) (kh28 : ∀ (S : MS) (u1 : Nat) (u2 : Nat) (u3 : Nat) (u4 : Nat) (y5 : Int32) (cells slots : Nat) (H : Heap) (locs : List Loc) (ls : Array Slot), pI S 8 u1 → pI S 9 u2 → pI S 16 u3 → pI S 17 u4 → PW G (fun q => s.heap.size ≤ q) s H locs S0 S → lv_has ls 9 [(0, .ref b), (1, .ref u1), (2, .ref u2), (3, .ref u3), (4, .ref u4), (5, .int y5)] → cells ≤ c0 + 5 → slots ≤ s0 + 30 → k28 S u1 u2 u3 u4 y5 → W p l e room_1 s m #[Value.ref b] below meth c H locs cells slots (lw_Z below #[Value.ref b] s) (F0 m 28 ls [])) (S : MS) (u1 : Nat) (u2 : Nat) (u3 : Nat) (u4 : Nat) (y5 : Int32) (p_u1 : pI S 8 u1) (p_u2 : pI S 9 u2) (p_u3 : pI S 16 u3) (p_u4 : pI S 17 u4) (P : PW G (fun q => s.heap.size ≤ q) s H locs S0 S) (hl : lv_has ls 9 [(0, .ref b), (1, .ref u1), (2, .ref u2), (3, .ref u3), (4, .ref u4), (5, .int y5)]) (hcc : cells + 2 ≤ c0 + 5) (hss : slots + 12 ≤ s0 + 30) (h0 : c0 + 5 ≤ 600006) (hs0 : s0 + 30 ≤ 7302056) (hw : wL_law_1510 L xs k28 S u1 u2 u3 u4 y5) : W p l e room_1 s m #[Value.ref b] below meth c H locs cells slots (lw_Z below #[Value.ref b] s) (F0 m 1510 ls []) := by
  have hx := CF_x C
  have hb := CF_b C
  unfold wL_law_1510 at hw
  refine lv_aload_n hx hb dL_law_1510 rfl (lv_at hl 1 rfl) ?_
  refine lv_aload_n hx hb dL_law_1511 rfl (lv_at hl 3 rfl) ?_
  refine cl_i C P (run_SX C P hl.1 (met_L_reload (CF_n C) G H.size _ _ S u1 u3 p_u1 p_u3 hw) q_1132 q_1133 q_0 q_1134 cd_L_reload.2 ⟨(Nat.le_of_ble_eq_true rfl), (Nat.le_of_ble_eq_true rfl)⟩ rfl rfl (As := [.ref u1, .ref u3]) (rest := []) rfl rfl (Nat.le_of_ble_eq_true rfl) dL_law_1512 ⟨by show cells + 2 ≤ 600006; omega, by show slots + 12 ≤ 7302056; omega⟩) kx_no (fun r2 S1 H locs P hE hw => ?_)
  have p_u1 : pI S1 8 u1 := pI_x hE p_u1
  have p_u2 : pI S1 9 u2 := pI_x hE p_u2
  have p_u3 : pI S1 16 u3 := pI_x hE p_u3
  have p_u4 : pI S1 17 u4 := pI_x hE p_u4
  refine lv_istore (lv' := [(6, .int r2), (0, .ref b), (1, .ref u1), (2, .ref u2), (3, .ref u3), (4, .ref u4), (5, .int y5)]) hx hb dL_law_1515 hl (by decide) rfl (fun ls hl => ?_)
  refine lv_aload_n hx hb dL_law_1517 rfl (lv_at hl 3 rfl) ?_
  refine cl_i C P (run_V C P hl.1 (kd := 9) (met_X9_reload (CF_n C) G H.size _ _ S1 u2 p_u2 hw) p_u2 (by decide) rfl q_1690 q_1691 q_1692 q_10 q_1693 cd_X9_reload ⟨(Nat.le_of_ble_eq_true rfl), (Nat.le_of_ble_eq_true rfl)⟩ rfl rfl (As := []) (rest := []) rfl rfl (Nat.le_of_ble_eq_true rfl) dL_law_1518 ⟨by show cells + 2 + 0 ≤ 600006; omega, by show slots + 12 + 0 ≤ 7302056; omega⟩) kx_no (fun r4 S3 H locs P hE hw => ?_)
  have p_u1 : pI S3 8 u1 := pI_x hE p_u1
  have p_u2 : pI S3 9 u2 := pI_x hE p_u2
  have p_u3 : pI S3 16 u3 := pI_x hE p_u3
  have p_u4 : pI S3 17 u4 := pI_x hE p_u4
  refine lv_istore (lv' := [(7, .int r4), (6, .int r2), (0, .ref b), (1, .ref u1), (2, .ref u2), (3, .ref u3), (4, .ref u4), (5, .int y5)]) hx hb dL_law_1521 hl (by decide) rfl (fun ls hl => ?_)
  refine lv_aload_n hx hb dL_law_1523 rfl (lv_at hl 4 rfl) ?_
  refine cl_i C P (run_V C P hl.1 (kd := 9) (met_X9_thrown (CF_n C) G H.size _ _ S3 u2 p_u2 hw) p_u2 (by decide) rfl q_1375 q_1376 q_1377 q_10 q_1378 cd_X9_thrown ⟨(Nat.le_of_ble_eq_true rfl), (Nat.le_of_ble_eq_true rfl)⟩ rfl rfl (As := []) (rest := []) rfl rfl (Nat.le_of_ble_eq_true rfl) dL_law_1524 ⟨by show cells + 2 + 0 ≤ 600006; omega, by show slots + 12 + 0 ≤ 7302056; omega⟩) kx_no (fun r6 S5 H locs P hE hw => ?_)
  have p_u1 : pI S5 8 u1 := pI_x hE p_u1
  have p_u2 : pI S5 9 u2 := pI_x hE p_u2
  have p_u3 : pI S5 16 u3 := pI_x hE p_u3
  have p_u4 : pI S5 17 u4 := pI_x hE p_u4
  refine lv_iload hx hb dL_law_1527 (lv_at hl 1 rfl) ?_
  refine lv_icmp_eq (tgt := 1534) hx hb dL_law_1529 (by decide) (fun hc => ?_) (fun hc => ?_)
  · have hw := hw.1 hc
    refine lv_iload hx hb dL_law_1534 (lv_at hl 1 rfl) ?_
    refine lv_if_ne (tgt := 1551) hx hb dL_law_1536 (by decide) (fun hc => ?_) (fun hc => ?_)
    · have hw := hw.1 hc
      refine lv_goto (tgt := 2149) hx hb dL_law_1551 (by decide) ?_
      refine lv_iinc (v := (y5 + 4)) (lv' := [(5, .int (y5 + 4)), (7, .int r4), (6, .int r2), (0, .ref b), (1, .ref u1), (2, .ref u2), (3, .ref u3), (4, .ref u4)]) hx hb dL_law_2149 hl (k := 7) rfl (by rfl) (by decide) rfl (fun ls hl => ?_)
      refine lv_goto (tgt := 28) hx hb dL_law_2152 (by decide) ?_
      exact kh28 S5 u1 u2 u3 u4 (y5 + 4) _ _ _ _ _ p_u1 p_u2 p_u3 p_u4 P (lv_sub hl [3, 4, 5, 6, 7, 0] rfl) (by omega) (by omega) hw
    · have hw := hw.2 hc
      refine lv_aload_n hx hb dL_law_1539 rfl (lv_at hl 5 rfl) ?_
      refine lv_iconst (v := 0) hx hb dL_law_1540 (by decide) ?_
      obtain ⟨h1, hw⟩ := hw
      refine ra_j C P p_u3 h1 dL_law_1541 ?_
      refine lv_iload hx hb dL_law_1542 (lv_at hl 0 rfl) ?_
      refine lv_i2l (v := (r4 : Int32).toInt64) hx hb dL_law_1544 rfl ?_
      refine W.lcmp hx hb dL_law_1545 ?_
      refine lv_if_eq (tgt := 1551) hx hb dL_law_1546 (by decide) (fun hc => ?_) (fun hc => ?_)
      · have hw := hw.1 hc
        refine lv_goto (tgt := 2149) hx hb dL_law_1551 (by decide) ?_
        refine lv_iinc (v := (y5 + 4)) (lv' := [(5, .int (y5 + 4)), (7, .int r4), (6, .int r2), (0, .ref b), (1, .ref u1), (2, .ref u2), (3, .ref u3), (4, .ref u4)]) hx hb dL_law_2149 hl (k := 7) rfl (by rfl) (by decide) rfl (fun ls hl => ?_)
        refine lv_goto (tgt := 28) hx hb dL_law_2152 (by decide) ?_
        exact kh28 S5 u1 u2 u3 u4 (y5 + 4) _ _ _ _ _ p_u1 p_u2 p_u3 p_u4 P (lv_sub hl [3, 4, 5, 6, 7, 0] rfl) (by omega) (by omega) hw
      · have hw := hw.2 hc
        refine lv_iconst (v := 0) hx hb dL_law_1549 (by decide) ?_
        exact hw.elim
  · have hw := hw.2 hc
    refine lv_iconst (v := 0) hx hb dL_law_1532 (by decide) ?_
    exact hw.elim
def wL_law_1554 (L : Nat) (xs : Nat → Int32) (k28 : MS → Nat → Nat → Nat → Nat → Int32 → Prop) (S : MS) (u1 : Nat) (u2 : Nat) (u3 : Nat) (u4 : Nat) (y5 : Int32) : Prop := wp_L_endTurn (fun r2 S1 => wp_X9_endTurn (fun r4 S3 => wp_X9_thrown (fun r6 S5 => ((r6 = r2 → ((¬ r2 = 0 → k28 S5 u1 u2 u3 u4 (y5 + 4)) ∧ (r2 = 0 → (vp_in 0 (mN S5 u3) ∧ (((lg_cmp (mJ S5 u3 (0 : Int32).toNatClampNeg) ((r4 : Int32).toInt64)) = 0 → k28 S5 u1 u2 u3 u4 (y5 + 4)) ∧ (¬ (lg_cmp (mJ S5 u3 (0 : Int32).toNatClampNeg) ((r4 : Int32).toInt64)) = 0 → False)))))) ∧ (¬ r6 = r2 → False))) (fun _ _ => False) S3 u2) (fun _ _ => False) S1 u2) (fun _ _ => False) S u1 u3
set_option maxHeartbeats 8000000 in
set_option maxRecDepth 100000 in
theorem tL_law_1554 {p : Program} {l : Launch} {e : Env} {s : State} {m : MethodId} {below : List Frame} {meth : Method} {c : Code} {H : Heap} {locs : List Loc} {cells slots : Nat} {G : GP} {S0 : MS} {ls : Array Slot} {b L : Nat} {xs : Nat → Int32} (C : CF p l s m #[Value.ref b] meth c "SkirmishGridLaw" code 9 G (fun q => s.heap.size ≤ q)) (hr : meth.sig.returnType = ret) (hX : va_X b L xs s s.heap) (hbl : b < s.heap.size) (c0 s0 : Nat) (k28 : MS → Nat → Nat → Nat → Nat → Int32 → Prop) (kh28 : ∀ (S : MS) (u1 : Nat) (u2 : Nat) (u3 : Nat) (u4 : Nat) (y5 : Int32) (cells slots : Nat) (H : Heap) (locs : List Loc) (ls : Array Slot), pI S 8 u1 → pI S 9 u2 → pI S 16 u3 → pI S 17 u4 → PW G (fun q => s.heap.size ≤ q) s H locs S0 S → lv_has ls 9 [(0, .ref b), (1, .ref u1), (2, .ref u2), (3, .ref u3), (4, .ref u4), (5, .int y5)] → cells ≤ c0 + 5 → slots ≤ s0 + 30 → k28 S u1 u2 u3 u4 y5 → W p l e room_1 s m #[Value.ref b] below meth c H locs cells slots (lw_Z below #[Value.ref b] s) (F0 m 28 ls [])) (S : MS) (u1 : Nat) (u2 : Nat) (u3 : Nat) (u4 : Nat) (y5 : Int32) (p_u1 : pI S 8 u1) (p_u2 : pI S 9 u2) (p_u3 : pI S 16 u3) (p_u4 : pI S 17 u4) (P : PW G (fun q => s.heap.size ≤ q) s H locs S0 S) (hl : lv_has ls 9 [(0, .ref b), (1, .ref u1), (2, .ref u2), (3, .ref u3), (4, .ref u4), (5, .int y5)]) (hcc : cells + 1 ≤ c0 + 5) (hss : slots + 6 ≤ s0 + 30) (h0 : c0 + 5 ≤ 600006) (hs0 : s0 + 30 ≤ 7302056) (hw : wL_law_1554 L xs k28 S u1 u2 u3 u4 y5) : W p l e room_1 s m #[Value.ref b] below meth c H locs cells slots (lw_Z below #[Value.ref b] s) (F0 m 1554 ls []) := by
  have hx := CF_x C
  have hb := CF_b C
  unfold wL_law_1554 at hw
  refine lv_aload_n hx hb dL_law_1554 rfl (lv_at hl 1 rfl) ?_
  refine lv_aload_n hx hb dL_law_1555 rfl (lv_at hl 3 rfl) ?_
  refine cl_i C P (run_SX C P hl.1 (met_L_endTurn (CF_n C) G H.size _ _ S u1 u3 p_u1 p_u3 hw) q_1144 q_1145 q_0 q_1146 cd_L_endTurn.2 ⟨(Nat.le_of_ble_eq_true rfl), (Nat.le_of_ble_eq_true rfl)⟩ rfl rfl (As := [.ref u1, .ref u3]) (rest := []) rfl rfl (Nat.le_of_ble_eq_true rfl) dL_law_1556 ⟨by show cells + 1 ≤ 600006; omega, by show slots + 6 ≤ 7302056; omega⟩) kx_no (fun r2 S1 H locs P hE hw => ?_)
  have p_u1 : pI S1 8 u1 := pI_x hE p_u1
  have p_u2 : pI S1 9 u2 := pI_x hE p_u2
  have p_u3 : pI S1 16 u3 := pI_x hE p_u3
  have p_u4 : pI S1 17 u4 := pI_x hE p_u4
  refine lv_istore (lv' := [(6, .int r2), (0, .ref b), (1, .ref u1), (2, .ref u2), (3, .ref u3), (4, .ref u4), (5, .int y5)]) hx hb dL_law_1559 hl (by decide) rfl (fun ls hl => ?_)
  refine lv_aload_n hx hb dL_law_1561 rfl (lv_at hl 3 rfl) ?_
  refine cl_i C P (run_V C P hl.1 (kd := 9) (met_X9_endTurn (CF_n C) G H.size _ _ S1 u2 p_u2 hw) p_u2 (by decide) rfl q_1694 q_1695 q_1696 q_10 q_1697 cd_X9_endTurn ⟨(Nat.le_of_ble_eq_true rfl), (Nat.le_of_ble_eq_true rfl)⟩ rfl rfl (As := []) (rest := []) rfl rfl (Nat.le_of_ble_eq_true rfl) dL_law_1562 ⟨by show cells + 1 + 0 ≤ 600006; omega, by show slots + 6 + 0 ≤ 7302056; omega⟩) kx_no (fun r4 S3 H locs P hE hw => ?_)
  have p_u1 : pI S3 8 u1 := pI_x hE p_u1
  have p_u2 : pI S3 9 u2 := pI_x hE p_u2
  have p_u3 : pI S3 16 u3 := pI_x hE p_u3
  have p_u4 : pI S3 17 u4 := pI_x hE p_u4
  refine lv_istore (lv' := [(7, .int r4), (6, .int r2), (0, .ref b), (1, .ref u1), (2, .ref u2), (3, .ref u3), (4, .ref u4), (5, .int y5)]) hx hb dL_law_1565 hl (by decide) rfl (fun ls hl => ?_)
  refine lv_aload_n hx hb dL_law_1567 rfl (lv_at hl 4 rfl) ?_
  refine cl_i C P (run_V C P hl.1 (kd := 9) (met_X9_thrown (CF_n C) G H.size _ _ S3 u2 p_u2 hw) p_u2 (by decide) rfl q_1375 q_1376 q_1377 q_10 q_1378 cd_X9_thrown ⟨(Nat.le_of_ble_eq_true rfl), (Nat.le_of_ble_eq_true rfl)⟩ rfl rfl (As := []) (rest := []) rfl rfl (Nat.le_of_ble_eq_true rfl) dL_law_1568 ⟨by show cells + 1 + 0 ≤ 600006; omega, by show slots + 6 + 0 ≤ 7302056; omega⟩) kx_no (fun r6 S5 H locs P hE hw => ?_)
  have p_u1 : pI S5 8 u1 := pI_x hE p_u1
  have p_u2 : pI S5 9 u2 := pI_x hE p_u2
  have p_u3 : pI S5 16 u3 := pI_x hE p_u3
  have p_u4 : pI S5 17 u4 := pI_x hE p_u4
  refine lv_iload hx hb dL_law_1571 (lv_at hl 1 rfl) ?_
  refine lv_icmp_eq (tgt := 1578) hx hb dL_law_1573 (by decide) (fun hc => ?_) (fun hc => ?_)
  · have hw := hw.1 hc
    refine lv_iload hx hb dL_law_1578 (lv_at hl 1 rfl) ?_
    refine lv_if_ne (tgt := 1595) hx hb dL_law_1580 (by decide) (fun hc => ?_) (fun hc => ?_)
    · have hw := hw.1 hc
      refine lv_goto (tgt := 2149) hx hb dL_law_1595 (by decide) ?_
      refine lv_iinc (v := (y5 + 4)) (lv' := [(5, .int (y5 + 4)), (7, .int r4), (6, .int r2), (0, .ref b), (1, .ref u1), (2, .ref u2), (3, .ref u3), (4, .ref u4)]) hx hb dL_law_2149 hl (k := 7) rfl (by rfl) (by decide) rfl (fun ls hl => ?_)
      refine lv_goto (tgt := 28) hx hb dL_law_2152 (by decide) ?_
      exact kh28 S5 u1 u2 u3 u4 (y5 + 4) _ _ _ _ _ p_u1 p_u2 p_u3 p_u4 P (lv_sub hl [3, 4, 5, 6, 7, 0] rfl) (by omega) (by omega) hw
    · have hw := hw.2 hc
      refine lv_aload_n hx hb dL_law_1583 rfl (lv_at hl 5 rfl) ?_
      refine lv_iconst (v := 0) hx hb dL_law_1584 (by decide) ?_
      obtain ⟨h1, hw⟩ := hw
      refine ra_j C P p_u3 h1 dL_law_1585 ?_
      refine lv_iload hx hb dL_law_1586 (lv_at hl 0 rfl) ?_
      refine lv_i2l (v := (r4 : Int32).toInt64) hx hb dL_law_1588 rfl ?_
      refine W.lcmp hx hb dL_law_1589 ?_
      refine lv_if_eq (tgt := 1595) hx hb dL_law_1590 (by decide) (fun hc => ?_) (fun hc => ?_)
      · have hw := hw.1 hc
        refine lv_goto (tgt := 2149) hx hb dL_law_1595 (by decide) ?_
        refine lv_iinc (v := (y5 + 4)) (lv' := [(5, .int (y5 + 4)), (7, .int r4), (6, .int r2), (0, .ref b), (1, .ref u1), (2, .ref u2), (3, .ref u3), (4, .ref u4)]) hx hb dL_law_2149 hl (k := 7) rfl (by rfl) (by decide) rfl (fun ls hl => ?_)
        refine lv_goto (tgt := 28) hx hb dL_law_2152 (by decide) ?_
        exact kh28 S5 u1 u2 u3 u4 (y5 + 4) _ _ _ _ _ p_u1 p_u2 p_u3 p_u4 P (lv_sub hl [3, 4, 5, 6, 7, 0] rfl) (by omega) (by omega) hw
      · have hw := hw.2 hc
        refine lv_iconst (v := 0) hx hb dL_law_1593 (by decide) ?_
        exact hw.elim
  · have hw := hw.2 hc
    refine lv_iconst (v := 0) hx hb dL_law_1576 (by decide) ?_
    exact hw.elim
def wL_law_1598 (L : Nat) (xs : Nat → Int32) (k28 : MS → Nat → Nat → Nat → Nat → Int32 → Prop) (S : MS) (u1 : Nat) (u2 : Nat) (u3 : Nat) (u4 : Nat) (y5 : Int32) : Prop := wp_X8_eventCount (fun r2 S1 => wp_X9_eventCount (fun r4 S3 => ((r2 = r4 → k28 S3 u1 u2 u3 u4 (y5 + 4)) ∧ (¬ r2 = r4 → False))) (fun _ _ => False) S1 u2) (fun _ _ => False) S u1
set_option maxHeartbeats 8000000 in
set_option maxRecDepth 100000 in
theorem tL_law_1598 {p : Program} {l : Launch} {e : Env} {s : State} {m : MethodId} {below : List Frame} {meth : Method} {c : Code} {H : Heap} {locs : List Loc} {cells slots : Nat} {G : GP} {S0 : MS} {ls : Array Slot} {b L : Nat} {xs : Nat → Int32} (C : CF p l s m #[Value.ref b] meth c "SkirmishGridLaw" code 9 G (fun q => s.heap.size ≤ q)) (hr : meth.sig.returnType = ret) (hX : va_X b L xs s s.heap) (hbl : b < s.heap.size) (c0 s0 : Nat) (k28 : MS → Nat → Nat → Nat → Nat → Int32 → Prop) (kh28 : ∀ (S : MS) (u1 : Nat) (u2 : Nat) (u3 : Nat) (u4 : Nat) (y5 : Int32) (cells slots : Nat) (H : Heap) (locs : List Loc) (ls : Array Slot), pI S 8 u1 → pI S 9 u2 → pI S 16 u3 → pI S 17 u4 → PW G (fun q => s.heap.size ≤ q) s H locs S0 S → lv_has ls 9 [(0, .ref b), (1, .ref u1), (2, .ref u2), (3, .ref u3), (4, .ref u4), (5, .int y5)] → cells ≤ c0 + 5 → slots ≤ s0 + 30 → k28 S u1 u2 u3 u4 y5 → W p l e room_1 s m #[Value.ref b] below meth c H locs cells slots (lw_Z below #[Value.ref b] s) (F0 m 28 ls [])) (S : MS) (u1 : Nat) (u2 : Nat) (u3 : Nat) (u4 : Nat) (y5 : Int32) (p_u1 : pI S 8 u1) (p_u2 : pI S 9 u2) (p_u3 : pI S 16 u3) (p_u4 : pI S 17 u4) (P : PW G (fun q => s.heap.size ≤ q) s H locs S0 S) (hl : lv_has ls 9 [(0, .ref b), (1, .ref u1), (2, .ref u2), (3, .ref u3), (4, .ref u4), (5, .int y5)]) (hcc : cells + 0 ≤ c0 + 5) (hss : slots + 0 ≤ s0 + 30) (h0 : c0 + 5 ≤ 600006) (hs0 : s0 + 30 ≤ 7302056) (hw : wL_law_1598 L xs k28 S u1 u2 u3 u4 y5) : W p l e room_1 s m #[Value.ref b] below meth c H locs cells slots (lw_Z below #[Value.ref b] s) (F0 m 1598 ls []) := by
  have hx := CF_x C
  have hb := CF_b C
  unfold wL_law_1598 at hw
  refine lv_aload_n hx hb dL_law_1598 rfl (lv_at hl 1 rfl) ?_
  refine cl_i C P (run_V C P hl.1 (kd := 8) (met_X8_eventCount (CF_n C) G H.size _ _ S u1 p_u1 hw) p_u1 (by decide) rfl q_363 q_364 q_365 q_1 q_366 cd_X8_eventCount ⟨(Nat.le_of_ble_eq_true rfl), (Nat.le_of_ble_eq_true rfl)⟩ rfl rfl (As := []) (rest := []) rfl rfl (Nat.le_of_ble_eq_true rfl) dL_law_1599 ⟨by show cells + 0 ≤ 600006; omega, by show slots + 0 ≤ 7302056; omega⟩) kx_no (fun r2 S1 H locs P hE hw => ?_)
  have p_u1 : pI S1 8 u1 := pI_x hE p_u1
  have p_u2 : pI S1 9 u2 := pI_x hE p_u2
  have p_u3 : pI S1 16 u3 := pI_x hE p_u3
  have p_u4 : pI S1 17 u4 := pI_x hE p_u4
  refine lv_aload_n hx hb dL_law_1602 rfl (lv_at hl 2 rfl) ?_
  refine cl_i C P (run_V C P hl.1 (kd := 9) (met_X9_eventCount (CF_n C) G H.size _ _ S1 u2 p_u2 hw) p_u2 (by decide) rfl q_1698 q_1699 q_1700 q_10 q_1701 cd_X9_eventCount ⟨(Nat.le_of_ble_eq_true rfl), (Nat.le_of_ble_eq_true rfl)⟩ rfl rfl (As := []) (rest := [.int r2]) rfl rfl (Nat.le_of_ble_eq_true rfl) dL_law_1603 ⟨by show cells + 0 ≤ 600006; omega, by show slots + 0 ≤ 7302056; omega⟩) kx_no (fun r4 S3 H locs P hE hw => ?_)
  have p_u1 : pI S3 8 u1 := pI_x hE p_u1
  have p_u2 : pI S3 9 u2 := pI_x hE p_u2
  have p_u3 : pI S3 16 u3 := pI_x hE p_u3
  have p_u4 : pI S3 17 u4 := pI_x hE p_u4
  refine lv_icmp_eq (tgt := 2149) hx hb dL_law_1606 (by decide) (fun hc => ?_) (fun hc => ?_)
  · have hw := hw.1 hc
    refine lv_iinc (v := (y5 + 4)) (lv' := [(5, .int (y5 + 4)), (0, .ref b), (1, .ref u1), (2, .ref u2), (3, .ref u3), (4, .ref u4)]) hx hb dL_law_2149 hl (k := 5) rfl (by rfl) (by decide) rfl (fun ls hl => ?_)
    refine lv_goto (tgt := 28) hx hb dL_law_2152 (by decide) ?_
    exact kh28 S3 u1 u2 u3 u4 (y5 + 4) _ _ _ _ _ p_u1 p_u2 p_u3 p_u4 P (lv_sub hl [1, 2, 3, 4, 5, 0] rfl) (by omega) (by omega) hw
  · have hw := hw.2 hc
    refine lv_iconst (v := 0) hx hb dL_law_1609 (by decide) ?_
    exact hw.elim
def wL_law_1611 (L : Nat) (xs : Nat → Int32) (k28 : MS → Nat → Nat → Nat → Nat → Int32 → Prop) (S : MS) (u1 : Nat) (u2 : Nat) (u3 : Nat) (u4 : Nat) (y5 : Int32) : Prop := (vp_in (y5 + 1) L ∧ (vp_in (y5 + 2) L ∧ wp_L_event (fun r2 S1 => (vp_in (y5 + 1) L ∧ (vp_in (y5 + 2) L ∧ wp_X9_event (fun r4 S3 => wp_X9_thrown (fun r6 S5 => ((r6 = r2 → ((¬ r2 = 0 → k28 S5 u1 u2 u3 u4 (y5 + 4)) ∧ (r2 = 0 → (vp_in 0 (mN S5 u3) ∧ (((lg_cmp (mJ S5 u3 (0 : Int32).toNatClampNeg) ((r4 : Int32).toInt64)) = 0 → k28 S5 u1 u2 u3 u4 (y5 + 4)) ∧ (¬ (lg_cmp (mJ S5 u3 (0 : Int32).toNatClampNeg) ((r4 : Int32).toInt64)) = 0 → False)))))) ∧ (¬ r6 = r2 → False))) (fun _ _ => False) S3 u2) (fun _ _ => False) S1 u2 (xs ((y5 + 1) : Int32).toNatClampNeg) (xs ((y5 + 2) : Int32).toNatClampNeg)))) (fun _ _ => False) S u1 (xs ((y5 + 1) : Int32).toNatClampNeg) (xs ((y5 + 2) : Int32).toNatClampNeg) u3))
set_option maxHeartbeats 8000000 in
set_option maxRecDepth 100000 in
theorem tL_law_1611 {p : Program} {l : Launch} {e : Env} {s : State} {m : MethodId} {below : List Frame} {meth : Method} {c : Code} {H : Heap} {locs : List Loc} {cells slots : Nat} {G : GP} {S0 : MS} {ls : Array Slot} {b L : Nat} {xs : Nat → Int32} (C : CF p l s m #[Value.ref b] meth c "SkirmishGridLaw" code 9 G (fun q => s.heap.size ≤ q)) (hr : meth.sig.returnType = ret) (hX : va_X b L xs s s.heap) (hbl : b < s.heap.size) (c0 s0 : Nat) (k28 : MS → Nat → Nat → Nat → Nat → Int32 → Prop) (kh28 : ∀ (S : MS) (u1 : Nat) (u2 : Nat) (u3 : Nat) (u4 : Nat) (y5 : Int32) (cells slots : Nat) (H : Heap) (locs : List Loc) (ls : Array Slot), pI S 8 u1 → pI S 9 u2 → pI S 16 u3 → pI S 17 u4 → PW G (fun q => s.heap.size ≤ q) s H locs S0 S → lv_has ls 9 [(0, .ref b), (1, .ref u1), (2, .ref u2), (3, .ref u3), (4, .ref u4), (5, .int y5)] → cells ≤ c0 + 5 → slots ≤ s0 + 30 → k28 S u1 u2 u3 u4 y5 → W p l e room_1 s m #[Value.ref b] below meth c H locs cells slots (lw_Z below #[Value.ref b] s) (F0 m 28 ls [])) (S : MS) (u1 : Nat) (u2 : Nat) (u3 : Nat) (u4 : Nat) (y5 : Int32) (p_u1 : pI S 8 u1) (p_u2 : pI S 9 u2) (p_u3 : pI S 16 u3) (p_u4 : pI S 17 u4) (P : PW G (fun q => s.heap.size ≤ q) s H locs S0 S) (hl : lv_has ls 9 [(0, .ref b), (1, .ref u1), (2, .ref u2), (3, .ref u3), (4, .ref u4), (5, .int y5)]) (hcc : cells + 1 ≤ c0 + 5) (hss : slots + 6 ≤ s0 + 30) (h0 : c0 + 5 ≤ 600006) (hs0 : s0 + 30 ≤ 7302056) (hw : wL_law_1611 L xs k28 S u1 u2 u3 u4 y5) : W p l e room_1 s m #[Value.ref b] below meth c H locs cells slots (lw_Z below #[Value.ref b] s) (F0 m 1611 ls []) := by
  have hx := CF_x C
  have hb := CF_b C
  unfold wL_law_1611 at hw
  refine lv_aload_n hx hb dL_law_1611 rfl (lv_at hl 1 rfl) ?_
  refine lv_aload_n hx hb dL_law_1612 rfl (lv_at hl 0 rfl) ?_
  refine lv_iload hx hb dL_law_1613 (lv_at hl 5 rfl) ?_
  refine lv_iconst (v := 1) hx hb dL_law_1615 (by decide) ?_
  refine lv_iadd hx hb dL_law_1616 ?_
  obtain ⟨h1, hw⟩ := hw
  refine va_sld hx hb hX hbl (Nat.not_le.mpr hbl) P.2.2.1 h1 dL_law_1617 ?_
  refine lv_aload_n hx hb dL_law_1618 rfl (lv_at hl 0 rfl) ?_
  refine lv_iload hx hb dL_law_1619 (lv_at hl 5 rfl) ?_
  refine lv_iconst (v := 2) hx hb dL_law_1621 (by decide) ?_
  refine lv_iadd hx hb dL_law_1622 ?_
  obtain ⟨h1, hw⟩ := hw
  refine va_sld hx hb hX hbl (Nat.not_le.mpr hbl) P.2.2.1 h1 dL_law_1623 ?_
  refine lv_aload_n hx hb dL_law_1624 rfl (lv_at hl 3 rfl) ?_
  refine cl_i C P (run_SX C P hl.1 (met_L_event (CF_n C) G H.size _ _ S u1 (xs ((y5 + 1) : Int32).toNatClampNeg) (xs ((y5 + 2) : Int32).toNatClampNeg) u3 p_u1 p_u3 hw) q_1159 q_1160 q_0 q_1161 cd_L_event.2 ⟨(Nat.le_of_ble_eq_true rfl), (Nat.le_of_ble_eq_true rfl)⟩ rfl rfl (As := [.ref u1, .int (xs ((y5 + 1) : Int32).toNatClampNeg), .int (xs ((y5 + 2) : Int32).toNatClampNeg), .ref u3]) (rest := []) rfl rfl (Nat.le_of_ble_eq_true rfl) dL_law_1625 ⟨by show cells + 1 ≤ 600006; omega, by show slots + 6 ≤ 7302056; omega⟩) kx_no (fun r2 S1 H locs P hE hw => ?_)
  have p_u1 : pI S1 8 u1 := pI_x hE p_u1
  have p_u2 : pI S1 9 u2 := pI_x hE p_u2
  have p_u3 : pI S1 16 u3 := pI_x hE p_u3
  have p_u4 : pI S1 17 u4 := pI_x hE p_u4
  refine lv_istore (lv' := [(6, .int r2), (0, .ref b), (1, .ref u1), (2, .ref u2), (3, .ref u3), (4, .ref u4), (5, .int y5)]) hx hb dL_law_1628 hl (by decide) rfl (fun ls hl => ?_)
  refine lv_aload_n hx hb dL_law_1630 rfl (lv_at hl 3 rfl) ?_
  refine lv_aload_n hx hb dL_law_1631 rfl (lv_at hl 1 rfl) ?_
  refine lv_iload hx hb dL_law_1632 (lv_at hl 6 rfl) ?_
  refine lv_iconst (v := 1) hx hb dL_law_1634 (by decide) ?_
  refine lv_iadd hx hb dL_law_1635 ?_
  obtain ⟨h1, hw⟩ := hw
  refine va_sld hx hb hX hbl (Nat.not_le.mpr hbl) P.2.2.1 h1 dL_law_1636 ?_
  refine lv_aload_n hx hb dL_law_1637 rfl (lv_at hl 1 rfl) ?_
  refine lv_iload hx hb dL_law_1638 (lv_at hl 6 rfl) ?_
  refine lv_iconst (v := 2) hx hb dL_law_1640 (by decide) ?_
  refine lv_iadd hx hb dL_law_1641 ?_
  obtain ⟨h1, hw⟩ := hw
  refine va_sld hx hb hX hbl (Nat.not_le.mpr hbl) P.2.2.1 h1 dL_law_1642 ?_
  refine cl_i C P (run_V C P hl.1 (kd := 9) (met_X9_event (CF_n C) G H.size _ _ S1 u2 (xs ((y5 + 1) : Int32).toNatClampNeg) (xs ((y5 + 2) : Int32).toNatClampNeg) p_u2 hw) p_u2 (by decide) rfl q_1702 q_1703 q_1704 q_10 q_1705 cd_X9_event ⟨(Nat.le_of_ble_eq_true rfl), (Nat.le_of_ble_eq_true rfl)⟩ rfl rfl (As := [.int (xs ((y5 + 1) : Int32).toNatClampNeg), .int (xs ((y5 + 2) : Int32).toNatClampNeg)]) (rest := []) rfl rfl (Nat.le_of_ble_eq_true rfl) dL_law_1643 ⟨by show cells + 1 + 0 ≤ 600006; omega, by show slots + 6 + 0 ≤ 7302056; omega⟩) kx_no (fun r4 S3 H locs P hE hw => ?_)
  have p_u1 : pI S3 8 u1 := pI_x hE p_u1
  have p_u2 : pI S3 9 u2 := pI_x hE p_u2
  have p_u3 : pI S3 16 u3 := pI_x hE p_u3
  have p_u4 : pI S3 17 u4 := pI_x hE p_u4
  refine lv_istore (lv' := [(7, .int r4), (6, .int r2), (0, .ref b), (1, .ref u1), (2, .ref u2), (3, .ref u3), (4, .ref u4), (5, .int y5)]) hx hb dL_law_1646 hl (by decide) rfl (fun ls hl => ?_)
  refine lv_aload_n hx hb dL_law_1648 rfl (lv_at hl 4 rfl) ?_
  refine cl_i C P (run_V C P hl.1 (kd := 9) (met_X9_thrown (CF_n C) G H.size _ _ S3 u2 p_u2 hw) p_u2 (by decide) rfl q_1375 q_1376 q_1377 q_10 q_1378 cd_X9_thrown ⟨(Nat.le_of_ble_eq_true rfl), (Nat.le_of_ble_eq_true rfl)⟩ rfl rfl (As := []) (rest := []) rfl rfl (Nat.le_of_ble_eq_true rfl) dL_law_1649 ⟨by show cells + 1 + 0 ≤ 600006; omega, by show slots + 6 + 0 ≤ 7302056; omega⟩) kx_no (fun r6 S5 H locs P hE hw => ?_)
  have p_u1 : pI S5 8 u1 := pI_x hE p_u1
  have p_u2 : pI S5 9 u2 := pI_x hE p_u2
  have p_u3 : pI S5 16 u3 := pI_x hE p_u3
  have p_u4 : pI S5 17 u4 := pI_x hE p_u4
  refine lv_iload hx hb dL_law_1652 (lv_at hl 1 rfl) ?_
  refine lv_icmp_eq (tgt := 1659) hx hb dL_law_1654 (by decide) (fun hc => ?_) (fun hc => ?_)
  · have hw := hw.1 hc
    refine lv_iload hx hb dL_law_1659 (lv_at hl 1 rfl) ?_
    refine lv_if_ne (tgt := 1676) hx hb dL_law_1661 (by decide) (fun hc => ?_) (fun hc => ?_)
    · have hw := hw.1 hc
      refine lv_goto (tgt := 2149) hx hb dL_law_1676 (by decide) ?_
      refine lv_iinc (v := (y5 + 4)) (lv' := [(5, .int (y5 + 4)), (7, .int r4), (6, .int r2), (0, .ref b), (1, .ref u1), (2, .ref u2), (3, .ref u3), (4, .ref u4)]) hx hb dL_law_2149 hl (k := 7) rfl (by rfl) (by decide) rfl (fun ls hl => ?_)
      refine lv_goto (tgt := 28) hx hb dL_law_2152 (by decide) ?_
      exact kh28 S5 u1 u2 u3 u4 (y5 + 4) _ _ _ _ _ p_u1 p_u2 p_u3 p_u4 P (lv_sub hl [3, 4, 5, 6, 7, 0] rfl) (by omega) (by omega) hw
    · have hw := hw.2 hc
      refine lv_aload_n hx hb dL_law_1664 rfl (lv_at hl 5 rfl) ?_
      refine lv_iconst (v := 0) hx hb dL_law_1665 (by decide) ?_
      obtain ⟨h1, hw⟩ := hw
      refine ra_j C P p_u3 h1 dL_law_1666 ?_
      refine lv_iload hx hb dL_law_1667 (lv_at hl 0 rfl) ?_
      refine lv_i2l (v := (r4 : Int32).toInt64) hx hb dL_law_1669 rfl ?_
      refine W.lcmp hx hb dL_law_1670 ?_
      refine lv_if_eq (tgt := 1676) hx hb dL_law_1671 (by decide) (fun hc => ?_) (fun hc => ?_)
      · have hw := hw.1 hc
        refine lv_goto (tgt := 2149) hx hb dL_law_1676 (by decide) ?_
        refine lv_iinc (v := (y5 + 4)) (lv' := [(5, .int (y5 + 4)), (7, .int r4), (6, .int r2), (0, .ref b), (1, .ref u1), (2, .ref u2), (3, .ref u3), (4, .ref u4)]) hx hb dL_law_2149 hl (k := 7) rfl (by rfl) (by decide) rfl (fun ls hl => ?_)
        refine lv_goto (tgt := 28) hx hb dL_law_2152 (by decide) ?_
        exact kh28 S5 u1 u2 u3 u4 (y5 + 4) _ _ _ _ _ p_u1 p_u2 p_u3 p_u4 P (lv_sub hl [3, 4, 5, 6, 7, 0] rfl) (by omega) (by omega) hw
      · have hw := hw.2 hc
        refine lv_iconst (v := 0) hx hb dL_law_1674 (by decide) ?_
        exact hw.elim
  · have hw := hw.2 hc
    refine lv_iconst (v := 0) hx hb dL_law_1657 (by decide) ?_
    exact hw.elim
def wL_law_1679 (L : Nat) (xs : Nat → Int32) (k28 : MS → Nat → Nat → Nat → Nat → Int32 → Prop) (S : MS) (u1 : Nat) (u2 : Nat) (u3 : Nat) (u4 : Nat) (y5 : Int32) : Prop := wp_X8_commandCount (fun r2 S1 => wp_X9_commandCount (fun r4 S3 => ((r2 = r4 → k28 S3 u1 u2 u3 u4 (y5 + 4)) ∧ (¬ r2 = r4 → False))) (fun _ _ => False) S1 u2) (fun _ _ => False) S u1
set_option maxHeartbeats 8000000 in
set_option maxRecDepth 100000 in
theorem tL_law_1679 {p : Program} {l : Launch} {e : Env} {s : State} {m : MethodId} {below : List Frame} {meth : Method} {c : Code} {H : Heap} {locs : List Loc} {cells slots : Nat} {G : GP} {S0 : MS} {ls : Array Slot} {b L : Nat} {xs : Nat → Int32} (C : CF p l s m #[Value.ref b] meth c "SkirmishGridLaw" code 9 G (fun q => s.heap.size ≤ q)) (hr : meth.sig.returnType = ret) (hX : va_X b L xs s s.heap) (hbl : b < s.heap.size) (c0 s0 : Nat) (k28 : MS → Nat → Nat → Nat → Nat → Int32 → Prop) (kh28 : ∀ (S : MS) (u1 : Nat) (u2 : Nat) (u3 : Nat) (u4 : Nat) (y5 : Int32) (cells slots : Nat) (H : Heap) (locs : List Loc) (ls : Array Slot), pI S 8 u1 → pI S 9 u2 → pI S 16 u3 → pI S 17 u4 → PW G (fun q => s.heap.size ≤ q) s H locs S0 S → lv_has ls 9 [(0, .ref b), (1, .ref u1), (2, .ref u2), (3, .ref u3), (4, .ref u4), (5, .int y5)] → cells ≤ c0 + 5 → slots ≤ s0 + 30 → k28 S u1 u2 u3 u4 y5 → W p l e room_1 s m #[Value.ref b] below meth c H locs cells slots (lw_Z below #[Value.ref b] s) (F0 m 28 ls [])) (S : MS) (u1 : Nat) (u2 : Nat) (u3 : Nat) (u4 : Nat) (y5 : Int32) (p_u1 : pI S 8 u1) (p_u2 : pI S 9 u2) (p_u3 : pI S 16 u3) (p_u4 : pI S 17 u4) (P : PW G (fun q => s.heap.size ≤ q) s H locs S0 S) (hl : lv_has ls 9 [(0, .ref b), (1, .ref u1), (2, .ref u2), (3, .ref u3), (4, .ref u4), (5, .int y5)]) (hcc : cells + 0 ≤ c0 + 5) (hss : slots + 0 ≤ s0 + 30) (h0 : c0 + 5 ≤ 600006) (hs0 : s0 + 30 ≤ 7302056) (hw : wL_law_1679 L xs k28 S u1 u2 u3 u4 y5) : W p l e room_1 s m #[Value.ref b] below meth c H locs cells slots (lw_Z below #[Value.ref b] s) (F0 m 1679 ls []) := by
  have hx := CF_x C
  have hb := CF_b C
  unfold wL_law_1679 at hw
  refine lv_aload_n hx hb dL_law_1679 rfl (lv_at hl 1 rfl) ?_
  refine cl_i C P (run_V C P hl.1 (kd := 8) (met_X8_commandCount (CF_n C) G H.size _ _ S u1 p_u1 hw) p_u1 (by decide) rfl q_367 q_368 q_369 q_1 q_370 cd_X8_commandCount ⟨(Nat.le_of_ble_eq_true rfl), (Nat.le_of_ble_eq_true rfl)⟩ rfl rfl (As := []) (rest := []) rfl rfl (Nat.le_of_ble_eq_true rfl) dL_law_1680 ⟨by show cells + 0 ≤ 600006; omega, by show slots + 0 ≤ 7302056; omega⟩) kx_no (fun r2 S1 H locs P hE hw => ?_)
  have p_u1 : pI S1 8 u1 := pI_x hE p_u1
  have p_u2 : pI S1 9 u2 := pI_x hE p_u2
  have p_u3 : pI S1 16 u3 := pI_x hE p_u3
  have p_u4 : pI S1 17 u4 := pI_x hE p_u4
  refine lv_aload_n hx hb dL_law_1683 rfl (lv_at hl 2 rfl) ?_
  refine cl_i C P (run_V C P hl.1 (kd := 9) (met_X9_commandCount (CF_n C) G H.size _ _ S1 u2 p_u2 hw) p_u2 (by decide) rfl q_1706 q_1707 q_1708 q_10 q_1709 cd_X9_commandCount ⟨(Nat.le_of_ble_eq_true rfl), (Nat.le_of_ble_eq_true rfl)⟩ rfl rfl (As := []) (rest := [.int r2]) rfl rfl (Nat.le_of_ble_eq_true rfl) dL_law_1684 ⟨by show cells + 0 ≤ 600006; omega, by show slots + 0 ≤ 7302056; omega⟩) kx_no (fun r4 S3 H locs P hE hw => ?_)
  have p_u1 : pI S3 8 u1 := pI_x hE p_u1
  have p_u2 : pI S3 9 u2 := pI_x hE p_u2
  have p_u3 : pI S3 16 u3 := pI_x hE p_u3
  have p_u4 : pI S3 17 u4 := pI_x hE p_u4
  refine lv_icmp_eq (tgt := 2149) hx hb dL_law_1687 (by decide) (fun hc => ?_) (fun hc => ?_)
  · have hw := hw.1 hc
    refine lv_iinc (v := (y5 + 4)) (lv' := [(5, .int (y5 + 4)), (0, .ref b), (1, .ref u1), (2, .ref u2), (3, .ref u3), (4, .ref u4)]) hx hb dL_law_2149 hl (k := 5) rfl (by rfl) (by decide) rfl (fun ls hl => ?_)
    refine lv_goto (tgt := 28) hx hb dL_law_2152 (by decide) ?_
    exact kh28 S3 u1 u2 u3 u4 (y5 + 4) _ _ _ _ _ p_u1 p_u2 p_u3 p_u4 P (lv_sub hl [1, 2, 3, 4, 5, 0] rfl) (by omega) (by omega) hw
  · have hw := hw.2 hc
    refine lv_iconst (v := 0) hx hb dL_law_1690 (by decide) ?_
    exact hw.elim
def wL_law_1692 (L : Nat) (xs : Nat → Int32) (k28 : MS → Nat → Nat → Nat → Nat → Int32 → Prop) (S : MS) (u1 : Nat) (u2 : Nat) (u3 : Nat) (u4 : Nat) (y5 : Int32) : Prop := wp_L_undo (fun r2 S1 => wp_X9_undo (fun r4 S3 => wp_X9_thrown (fun r6 S5 => ((r6 = r2 → ((¬ r2 = 0 → k28 S5 u1 u2 u3 u4 (y5 + 4)) ∧ (r2 = 0 → (vp_in 0 (mN S5 u3) ∧ (((lg_cmp (mJ S5 u3 (0 : Int32).toNatClampNeg) ((r4 : Int32).toInt64)) = 0 → k28 S5 u1 u2 u3 u4 (y5 + 4)) ∧ (¬ (lg_cmp (mJ S5 u3 (0 : Int32).toNatClampNeg) ((r4 : Int32).toInt64)) = 0 → False)))))) ∧ (¬ r6 = r2 → False))) (fun _ _ => False) S3 u2) (fun _ _ => False) S1 u2) (fun _ _ => False) S u1 u3
set_option maxHeartbeats 8000000 in
set_option maxRecDepth 100000 in
theorem tL_law_1692 {p : Program} {l : Launch} {e : Env} {s : State} {m : MethodId} {below : List Frame} {meth : Method} {c : Code} {H : Heap} {locs : List Loc} {cells slots : Nat} {G : GP} {S0 : MS} {ls : Array Slot} {b L : Nat} {xs : Nat → Int32} (C : CF p l s m #[Value.ref b] meth c "SkirmishGridLaw" code 9 G (fun q => s.heap.size ≤ q)) (hr : meth.sig.returnType = ret) (hX : va_X b L xs s s.heap) (hbl : b < s.heap.size) (c0 s0 : Nat) (k28 : MS → Nat → Nat → Nat → Nat → Int32 → Prop) (kh28 : ∀ (S : MS) (u1 : Nat) (u2 : Nat) (u3 : Nat) (u4 : Nat) (y5 : Int32) (cells slots : Nat) (H : Heap) (locs : List Loc) (ls : Array Slot), pI S 8 u1 → pI S 9 u2 → pI S 16 u3 → pI S 17 u4 → PW G (fun q => s.heap.size ≤ q) s H locs S0 S → lv_has ls 9 [(0, .ref b), (1, .ref u1), (2, .ref u2), (3, .ref u3), (4, .ref u4), (5, .int y5)] → cells ≤ c0 + 5 → slots ≤ s0 + 30 → k28 S u1 u2 u3 u4 y5 → W p l e room_1 s m #[Value.ref b] below meth c H locs cells slots (lw_Z below #[Value.ref b] s) (F0 m 28 ls [])) (S : MS) (u1 : Nat) (u2 : Nat) (u3 : Nat) (u4 : Nat) (y5 : Int32) (p_u1 : pI S 8 u1) (p_u2 : pI S 9 u2) (p_u3 : pI S 16 u3) (p_u4 : pI S 17 u4) (P : PW G (fun q => s.heap.size ≤ q) s H locs S0 S) (hl : lv_has ls 9 [(0, .ref b), (1, .ref u1), (2, .ref u2), (3, .ref u3), (4, .ref u4), (5, .int y5)]) (hcc : cells + 1 ≤ c0 + 5) (hss : slots + 6 ≤ s0 + 30) (h0 : c0 + 5 ≤ 600006) (hs0 : s0 + 30 ≤ 7302056) (hw : wL_law_1692 L xs k28 S u1 u2 u3 u4 y5) : W p l e room_1 s m #[Value.ref b] below meth c H locs cells slots (lw_Z below #[Value.ref b] s) (F0 m 1692 ls []) := by
  have hx := CF_x C
  have hb := CF_b C
  unfold wL_law_1692 at hw
  refine lv_aload_n hx hb dL_law_1692 rfl (lv_at hl 1 rfl) ?_
  refine lv_aload_n hx hb dL_law_1693 rfl (lv_at hl 3 rfl) ?_
  refine cl_i C P (run_SX C P hl.1 (met_L_undo (CF_n C) G H.size _ _ S u1 u3 p_u1 p_u3 hw) q_1171 q_1172 q_0 q_1173 cd_L_undo.2 ⟨(Nat.le_of_ble_eq_true rfl), (Nat.le_of_ble_eq_true rfl)⟩ rfl rfl (As := [.ref u1, .ref u3]) (rest := []) rfl rfl (Nat.le_of_ble_eq_true rfl) dL_law_1694 ⟨by show cells + 1 ≤ 600006; omega, by show slots + 6 ≤ 7302056; omega⟩) kx_no (fun r2 S1 H locs P hE hw => ?_)
  have p_u1 : pI S1 8 u1 := pI_x hE p_u1
  have p_u2 : pI S1 9 u2 := pI_x hE p_u2
  have p_u3 : pI S1 16 u3 := pI_x hE p_u3
  have p_u4 : pI S1 17 u4 := pI_x hE p_u4
  refine lv_istore (lv' := [(6, .int r2), (0, .ref b), (1, .ref u1), (2, .ref u2), (3, .ref u3), (4, .ref u4), (5, .int y5)]) hx hb dL_law_1697 hl (by decide) rfl (fun ls hl => ?_)
  refine lv_aload_n hx hb dL_law_1699 rfl (lv_at hl 3 rfl) ?_
  refine cl_i C P (run_V C P hl.1 (kd := 9) (met_X9_undo (CF_n C) G H.size _ _ S1 u2 p_u2 hw) p_u2 (by decide) rfl q_1710 q_1711 q_1712 q_10 q_1713 cd_X9_undo ⟨(Nat.le_of_ble_eq_true rfl), (Nat.le_of_ble_eq_true rfl)⟩ rfl rfl (As := []) (rest := []) rfl rfl (Nat.le_of_ble_eq_true rfl) dL_law_1700 ⟨by show cells + 1 + 0 ≤ 600006; omega, by show slots + 6 + 0 ≤ 7302056; omega⟩) kx_no (fun r4 S3 H locs P hE hw => ?_)
  have p_u1 : pI S3 8 u1 := pI_x hE p_u1
  have p_u2 : pI S3 9 u2 := pI_x hE p_u2
  have p_u3 : pI S3 16 u3 := pI_x hE p_u3
  have p_u4 : pI S3 17 u4 := pI_x hE p_u4
  refine lv_istore (lv' := [(7, .int r4), (6, .int r2), (0, .ref b), (1, .ref u1), (2, .ref u2), (3, .ref u3), (4, .ref u4), (5, .int y5)]) hx hb dL_law_1703 hl (by decide) rfl (fun ls hl => ?_)
  refine lv_aload_n hx hb dL_law_1705 rfl (lv_at hl 4 rfl) ?_
  refine cl_i C P (run_V C P hl.1 (kd := 9) (met_X9_thrown (CF_n C) G H.size _ _ S3 u2 p_u2 hw) p_u2 (by decide) rfl q_1375 q_1376 q_1377 q_10 q_1378 cd_X9_thrown ⟨(Nat.le_of_ble_eq_true rfl), (Nat.le_of_ble_eq_true rfl)⟩ rfl rfl (As := []) (rest := []) rfl rfl (Nat.le_of_ble_eq_true rfl) dL_law_1706 ⟨by show cells + 1 + 0 ≤ 600006; omega, by show slots + 6 + 0 ≤ 7302056; omega⟩) kx_no (fun r6 S5 H locs P hE hw => ?_)
  have p_u1 : pI S5 8 u1 := pI_x hE p_u1
  have p_u2 : pI S5 9 u2 := pI_x hE p_u2
  have p_u3 : pI S5 16 u3 := pI_x hE p_u3
  have p_u4 : pI S5 17 u4 := pI_x hE p_u4
  refine lv_iload hx hb dL_law_1709 (lv_at hl 1 rfl) ?_
  refine lv_icmp_eq (tgt := 1716) hx hb dL_law_1711 (by decide) (fun hc => ?_) (fun hc => ?_)
  · have hw := hw.1 hc
    refine lv_iload hx hb dL_law_1716 (lv_at hl 1 rfl) ?_
    refine lv_if_ne (tgt := 1733) hx hb dL_law_1718 (by decide) (fun hc => ?_) (fun hc => ?_)
    · have hw := hw.1 hc
      refine lv_goto (tgt := 2149) hx hb dL_law_1733 (by decide) ?_
      refine lv_iinc (v := (y5 + 4)) (lv' := [(5, .int (y5 + 4)), (7, .int r4), (6, .int r2), (0, .ref b), (1, .ref u1), (2, .ref u2), (3, .ref u3), (4, .ref u4)]) hx hb dL_law_2149 hl (k := 7) rfl (by rfl) (by decide) rfl (fun ls hl => ?_)
      refine lv_goto (tgt := 28) hx hb dL_law_2152 (by decide) ?_
      exact kh28 S5 u1 u2 u3 u4 (y5 + 4) _ _ _ _ _ p_u1 p_u2 p_u3 p_u4 P (lv_sub hl [3, 4, 5, 6, 7, 0] rfl) (by omega) (by omega) hw
    · have hw := hw.2 hc
      refine lv_aload_n hx hb dL_law_1721 rfl (lv_at hl 5 rfl) ?_
      refine lv_iconst (v := 0) hx hb dL_law_1722 (by decide) ?_
      obtain ⟨h1, hw⟩ := hw
      refine ra_j C P p_u3 h1 dL_law_1723 ?_
      refine lv_iload hx hb dL_law_1724 (lv_at hl 0 rfl) ?_
      refine lv_i2l (v := (r4 : Int32).toInt64) hx hb dL_law_1726 rfl ?_
      refine W.lcmp hx hb dL_law_1727 ?_
      refine lv_if_eq (tgt := 1733) hx hb dL_law_1728 (by decide) (fun hc => ?_) (fun hc => ?_)
      · have hw := hw.1 hc
        refine lv_goto (tgt := 2149) hx hb dL_law_1733 (by decide) ?_
        refine lv_iinc (v := (y5 + 4)) (lv' := [(5, .int (y5 + 4)), (7, .int r4), (6, .int r2), (0, .ref b), (1, .ref u1), (2, .ref u2), (3, .ref u3), (4, .ref u4)]) hx hb dL_law_2149 hl (k := 7) rfl (by rfl) (by decide) rfl (fun ls hl => ?_)
        refine lv_goto (tgt := 28) hx hb dL_law_2152 (by decide) ?_
        exact kh28 S5 u1 u2 u3 u4 (y5 + 4) _ _ _ _ _ p_u1 p_u2 p_u3 p_u4 P (lv_sub hl [3, 4, 5, 6, 7, 0] rfl) (by omega) (by omega) hw
      · have hw := hw.2 hc
        refine lv_iconst (v := 0) hx hb dL_law_1731 (by decide) ?_
        exact hw.elim
  · have hw := hw.2 hc
    refine lv_iconst (v := 0) hx hb dL_law_1714 (by decide) ?_
    exact hw.elim
def wL_law_1778 (L : Nat) (xs : Nat → Int32) (k28 : MS → Nat → Nat → Nat → Nat → Int32 → Prop) (S : MS) (u1 : Nat) (u2 : Nat) (u3 : Nat) (u4 : Nat) (y5 : Int32) (z0 : Int64) (z1 : Int64) : Prop := (((lg_cmp z1 z0) = 0 → k28 S u1 u2 u3 u4 (y5 + 4)) ∧ (¬ (lg_cmp z1 z0) = 0 → False))
set_option maxHeartbeats 8000000 in
set_option maxRecDepth 100000 in
theorem tL_law_1778 {p : Program} {l : Launch} {e : Env} {s : State} {m : MethodId} {below : List Frame} {meth : Method} {c : Code} {H : Heap} {locs : List Loc} {cells slots : Nat} {G : GP} {S0 : MS} {ls : Array Slot} {b L : Nat} {xs : Nat → Int32} (C : CF p l s m #[Value.ref b] meth c "SkirmishGridLaw" code 9 G (fun q => s.heap.size ≤ q)) (hr : meth.sig.returnType = ret) (hX : va_X b L xs s s.heap) (hbl : b < s.heap.size) (c0 s0 : Nat) (k28 : MS → Nat → Nat → Nat → Nat → Int32 → Prop) (kh28 : ∀ (S : MS) (u1 : Nat) (u2 : Nat) (u3 : Nat) (u4 : Nat) (y5 : Int32) (cells slots : Nat) (H : Heap) (locs : List Loc) (ls : Array Slot), pI S 8 u1 → pI S 9 u2 → pI S 16 u3 → pI S 17 u4 → PW G (fun q => s.heap.size ≤ q) s H locs S0 S → lv_has ls 9 [(0, .ref b), (1, .ref u1), (2, .ref u2), (3, .ref u3), (4, .ref u4), (5, .int y5)] → cells ≤ c0 + 5 → slots ≤ s0 + 30 → k28 S u1 u2 u3 u4 y5 → W p l e room_1 s m #[Value.ref b] below meth c H locs cells slots (lw_Z below #[Value.ref b] s) (F0 m 28 ls [])) (S : MS) (u1 : Nat) (u2 : Nat) (u3 : Nat) (u4 : Nat) (y5 : Int32) (z0 : Int64) (z1 : Int64) (p_u1 : pI S 8 u1) (p_u2 : pI S 9 u2) (p_u3 : pI S 16 u3) (p_u4 : pI S 17 u4) (P : PW G (fun q => s.heap.size ≤ q) s H locs S0 S) (hl : lv_has ls 9 [(0, .ref b), (1, .ref u1), (2, .ref u2), (3, .ref u3), (4, .ref u4), (5, .int y5)]) (hcc : cells + 0 ≤ c0 + 5) (hss : slots + 0 ≤ s0 + 30) (h0 : c0 + 5 ≤ 600006) (hs0 : s0 + 30 ≤ 7302056) (hw : wL_law_1778 L xs k28 S u1 u2 u3 u4 y5 z0 z1) : W p l e room_1 s m #[Value.ref b] below meth c H locs cells slots (lw_Z below #[Value.ref b] s) (F0 m 1778 ls [.long z0, .long z1]) := by
  have hx := CF_x C
  have hb := CF_b C
  unfold wL_law_1778 at hw
  refine W.lcmp hx hb dL_law_1778 ?_
  refine lv_if_eq (tgt := 1784) hx hb dL_law_1779 (by decide) (fun hc => ?_) (fun hc => ?_)
  · have hw := hw.1 hc
    refine lv_goto (tgt := 2149) hx hb dL_law_1784 (by decide) ?_
    refine lv_iinc (v := (y5 + 4)) (lv' := [(5, .int (y5 + 4)), (0, .ref b), (1, .ref u1), (2, .ref u2), (3, .ref u3), (4, .ref u4)]) hx hb dL_law_2149 hl (k := 5) rfl (by rfl) (by decide) rfl (fun ls hl => ?_)
    refine lv_goto (tgt := 28) hx hb dL_law_2152 (by decide) ?_
    exact kh28 S u1 u2 u3 u4 (y5 + 4) _ _ _ _ _ p_u1 p_u2 p_u3 p_u4 P (lv_sub hl [1, 2, 3, 4, 5, 0] rfl) (by omega) (by omega) hw
  · have hw := hw.2 hc
    refine lv_iconst (v := 0) hx hb dL_law_1782 (by decide) ?_
    exact hw.elim
def wL_law_1736 (L : Nat) (xs : Nat → Int32) (k28 : MS → Nat → Nat → Nat → Nat → Int32 → Prop) (S : MS) (u1 : Nat) (u2 : Nat) (u3 : Nat) (u4 : Nat) (y5 : Int32) : Prop := wp_L_isReplayed (fun r2 S1 => wp_X9_isReplayed (fun r4 S3 => wp_X9_thrown (fun r6 S5 => ((r6 = r2 → ((¬ r2 = 0 → k28 S5 u1 u2 u3 u4 (y5 + 4)) ∧ (r2 = 0 → (vp_in 0 (mN S5 u3) ∧ ((r4 = 0 → wL_law_1778 L xs k28 S5 u1 u2 u3 u4 y5 0 (mJ S5 u3 (0 : Int32).toNatClampNeg)) ∧ (¬ r4 = 0 → wL_law_1778 L xs k28 S5 u1 u2 u3 u4 y5 1 (mJ S5 u3 (0 : Int32).toNatClampNeg))))))) ∧ (¬ r6 = r2 → False))) (fun _ _ => False) S3 u2) (fun _ _ => False) S1 u2) (fun _ _ => False) S u1 u3
set_option maxHeartbeats 8000000 in
set_option maxRecDepth 100000 in
theorem tL_law_1736 {p : Program} {l : Launch} {e : Env} {s : State} {m : MethodId} {below : List Frame} {meth : Method} {c : Code} {H : Heap} {locs : List Loc} {cells slots : Nat} {G : GP} {S0 : MS} {ls : Array Slot} {b L : Nat} {xs : Nat → Int32} (C : CF p l s m #[Value.ref b] meth c "SkirmishGridLaw" code 9 G (fun q => s.heap.size ≤ q)) (hr : meth.sig.returnType = ret) (hX : va_X b L xs s s.heap) (hbl : b < s.heap.size) (c0 s0 : Nat) (k28 : MS → Nat → Nat → Nat → Nat → Int32 → Prop) (kh28 : ∀ (S : MS) (u1 : Nat) (u2 : Nat) (u3 : Nat) (u4 : Nat) (y5 : Int32) (cells slots : Nat) (H : Heap) (locs : List Loc) (ls : Array Slot), pI S 8 u1 → pI S 9 u2 → pI S 16 u3 → pI S 17 u4 → PW G (fun q => s.heap.size ≤ q) s H locs S0 S → lv_has ls 9 [(0, .ref b), (1, .ref u1), (2, .ref u2), (3, .ref u3), (4, .ref u4), (5, .int y5)] → cells ≤ c0 + 5 → slots ≤ s0 + 30 → k28 S u1 u2 u3 u4 y5 → W p l e room_1 s m #[Value.ref b] below meth c H locs cells slots (lw_Z below #[Value.ref b] s) (F0 m 28 ls [])) (S : MS) (u1 : Nat) (u2 : Nat) (u3 : Nat) (u4 : Nat) (y5 : Int32) (p_u1 : pI S 8 u1) (p_u2 : pI S 9 u2) (p_u3 : pI S 16 u3) (p_u4 : pI S 17 u4) (P : PW G (fun q => s.heap.size ≤ q) s H locs S0 S) (hl : lv_has ls 9 [(0, .ref b), (1, .ref u1), (2, .ref u2), (3, .ref u3), (4, .ref u4), (5, .int y5)]) (hcc : cells + 1 ≤ c0 + 5) (hss : slots + 6 ≤ s0 + 30) (h0 : c0 + 5 ≤ 600006) (hs0 : s0 + 30 ≤ 7302056) (hw : wL_law_1736 L xs k28 S u1 u2 u3 u4 y5) : W p l e room_1 s m #[Value.ref b] below meth c H locs cells slots (lw_Z below #[Value.ref b] s) (F0 m 1736 ls []) := by
  have hx := CF_x C
  have hb := CF_b C
  unfold wL_law_1736 at hw
  refine lv_aload_n hx hb dL_law_1736 rfl (lv_at hl 1 rfl) ?_
  refine lv_aload_n hx hb dL_law_1737 rfl (lv_at hl 3 rfl) ?_
  refine cl_i C P (run_SX C P hl.1 (met_L_isReplayed (CF_n C) G H.size _ _ S u1 u3 p_u1 p_u3 hw) q_1187 q_1188 q_0 q_1189 cd_L_isReplayed.2 ⟨(Nat.le_of_ble_eq_true rfl), (Nat.le_of_ble_eq_true rfl)⟩ rfl rfl (As := [.ref u1, .ref u3]) (rest := []) rfl rfl (Nat.le_of_ble_eq_true rfl) dL_law_1738 ⟨by show cells + 1 ≤ 600006; omega, by show slots + 6 ≤ 7302056; omega⟩) kx_no (fun r2 S1 H locs P hE hw => ?_)
  have p_u1 : pI S1 8 u1 := pI_x hE p_u1
  have p_u2 : pI S1 9 u2 := pI_x hE p_u2
  have p_u3 : pI S1 16 u3 := pI_x hE p_u3
  have p_u4 : pI S1 17 u4 := pI_x hE p_u4
  refine lv_istore (lv' := [(6, .int r2), (0, .ref b), (1, .ref u1), (2, .ref u2), (3, .ref u3), (4, .ref u4), (5, .int y5)]) hx hb dL_law_1741 hl (by decide) rfl (fun ls hl => ?_)
  refine lv_aload_n hx hb dL_law_1743 rfl (lv_at hl 3 rfl) ?_
  refine cl_i C P (run_V C P hl.1 (kd := 9) (met_X9_isReplayed (CF_n C) G H.size _ _ S1 u2 p_u2 hw) p_u2 (by decide) rfl q_1714 q_1715 q_1716 q_10 q_1717 cd_X9_isReplayed ⟨(Nat.le_of_ble_eq_true rfl), (Nat.le_of_ble_eq_true rfl)⟩ rfl rfl (As := []) (rest := []) rfl rfl (Nat.le_of_ble_eq_true rfl) dL_law_1744 ⟨by show cells + 1 + 0 ≤ 600006; omega, by show slots + 6 + 0 ≤ 7302056; omega⟩) kx_no (fun r4 S3 H locs P hE hw => ?_)
  have p_u1 : pI S3 8 u1 := pI_x hE p_u1
  have p_u2 : pI S3 9 u2 := pI_x hE p_u2
  have p_u3 : pI S3 16 u3 := pI_x hE p_u3
  have p_u4 : pI S3 17 u4 := pI_x hE p_u4
  refine lv_istore (lv' := [(7, .int r4), (6, .int r2), (0, .ref b), (1, .ref u1), (2, .ref u2), (3, .ref u3), (4, .ref u4), (5, .int y5)]) hx hb dL_law_1747 hl (by decide) rfl (fun ls hl => ?_)
  refine lv_aload_n hx hb dL_law_1749 rfl (lv_at hl 4 rfl) ?_
  refine cl_i C P (run_V C P hl.1 (kd := 9) (met_X9_thrown (CF_n C) G H.size _ _ S3 u2 p_u2 hw) p_u2 (by decide) rfl q_1375 q_1376 q_1377 q_10 q_1378 cd_X9_thrown ⟨(Nat.le_of_ble_eq_true rfl), (Nat.le_of_ble_eq_true rfl)⟩ rfl rfl (As := []) (rest := []) rfl rfl (Nat.le_of_ble_eq_true rfl) dL_law_1750 ⟨by show cells + 1 + 0 ≤ 600006; omega, by show slots + 6 + 0 ≤ 7302056; omega⟩) kx_no (fun r6 S5 H locs P hE hw => ?_)
  have p_u1 : pI S5 8 u1 := pI_x hE p_u1
  have p_u2 : pI S5 9 u2 := pI_x hE p_u2
  have p_u3 : pI S5 16 u3 := pI_x hE p_u3
  have p_u4 : pI S5 17 u4 := pI_x hE p_u4
  refine lv_iload hx hb dL_law_1753 (lv_at hl 1 rfl) ?_
  refine lv_icmp_eq (tgt := 1760) hx hb dL_law_1755 (by decide) (fun hc => ?_) (fun hc => ?_)
  · have hw := hw.1 hc
    refine lv_iload hx hb dL_law_1760 (lv_at hl 1 rfl) ?_
    refine lv_if_ne (tgt := 1784) hx hb dL_law_1762 (by decide) (fun hc => ?_) (fun hc => ?_)
    · have hw := hw.1 hc
      refine lv_goto (tgt := 2149) hx hb dL_law_1784 (by decide) ?_
      refine lv_iinc (v := (y5 + 4)) (lv' := [(5, .int (y5 + 4)), (7, .int r4), (6, .int r2), (0, .ref b), (1, .ref u1), (2, .ref u2), (3, .ref u3), (4, .ref u4)]) hx hb dL_law_2149 hl (k := 7) rfl (by rfl) (by decide) rfl (fun ls hl => ?_)
      refine lv_goto (tgt := 28) hx hb dL_law_2152 (by decide) ?_
      exact kh28 S5 u1 u2 u3 u4 (y5 + 4) _ _ _ _ _ p_u1 p_u2 p_u3 p_u4 P (lv_sub hl [3, 4, 5, 6, 7, 0] rfl) (by omega) (by omega) hw
    · have hw := hw.2 hc
      refine lv_aload_n hx hb dL_law_1765 rfl (lv_at hl 5 rfl) ?_
      refine lv_iconst (v := 0) hx hb dL_law_1766 (by decide) ?_
      obtain ⟨h1, hw⟩ := hw
      refine ra_j C P p_u3 h1 dL_law_1767 ?_
      refine lv_iload hx hb dL_law_1768 (lv_at hl 0 rfl) ?_
      refine lv_if_eq (tgt := 1777) hx hb dL_law_1770 (by decide) (fun hc => ?_) (fun hc => ?_)
      · have hw := hw.1 hc
        refine lv_lconst (v := 0) hx hb dL_law_1777 (by decide) ?_
        exact tL_law_1778 C hr hX hbl c0 s0 k28 kh28 S5 u1 u2 u3 u4 y5 0 (mJ S5 u3 (0 : Int32).toNatClampNeg) p_u1 p_u2 p_u3 p_u4 P (lv_sub hl [2, 3, 4, 5, 6, 7] rfl) (by omega) (by omega) h0 hs0 hw
      · have hw := hw.2 hc
        refine lv_lconst (v := 1) hx hb dL_law_1773 (by decide) ?_
        refine lv_goto (tgt := 1778) hx hb dL_law_1774 (by decide) ?_
        exact tL_law_1778 C hr hX hbl c0 s0 k28 kh28 S5 u1 u2 u3 u4 y5 1 (mJ S5 u3 (0 : Int32).toNatClampNeg) p_u1 p_u2 p_u3 p_u4 P (lv_sub hl [2, 3, 4, 5, 6, 7] rfl) (by omega) (by omega) h0 hs0 hw
  · have hw := hw.2 hc
    refine lv_iconst (v := 0) hx hb dL_law_1758 (by decide) ?_
    exact hw.elim
def wL_law_1787 (L : Nat) (xs : Nat → Int32) (k28 : MS → Nat → Nat → Nat → Nat → Int32 → Prop) (S : MS) (u1 : Nat) (u2 : Nat) (u3 : Nat) (u4 : Nat) (y5 : Int32) : Prop := (vp_in (y5 + 1) L ∧ wp_L_meanHealth (fun r2 S1 => (vp_in (y5 + 1) L ∧ wp_X9_meanHealth (fun r4 S3 => wp_X9_thrown (fun r6 S5 => ((r6 = r2 → ((¬ r2 = 0 → k28 S5 u1 u2 u3 u4 (y5 + 4)) ∧ (r2 = 0 → (vp_in 0 (mN S5 u4) ∧ (vf_n64 (FP.f2d r4) ∧ (((Op.cmpValue (FP.dcmp (mD S5 u4 (0 : Int32).toNatClampNeg) (FP.f2d r4)) CmpOp.l) = 0 → k28 S5 u1 u2 u3 u4 (y5 + 4)) ∧ (¬ (Op.cmpValue (FP.dcmp (mD S5 u4 (0 : Int32).toNatClampNeg) (FP.f2d r4)) CmpOp.l) = 0 → (vp_in 0 (mN S5 u4) ∧ (vp_in 0 (mN S5 u4) ∧ (((Op.cmpValue (FP.dcmp (mD S5 u4 (0 : Int32).toNatClampNeg) (mD S5 u4 (0 : Int32).toNatClampNeg)) CmpOp.l) = 0 → False) ∧ (¬ (Op.cmpValue (FP.dcmp (mD S5 u4 (0 : Int32).toNatClampNeg) (mD S5 u4 (0 : Int32).toNatClampNeg)) CmpOp.l) = 0 → ((¬ (Op.cmpValue (FP.fcmp r4 r4) CmpOp.l) = 0 → k28 S5 u1 u2 u3 u4 (y5 + 4)) ∧ ((Op.cmpValue (FP.fcmp r4 r4) CmpOp.l) = 0 → False))))))))))))) ∧ (¬ r6 = r2 → False))) (fun _ _ => False) S3 u2) (fun _ _ => False) S1 u2 (xs ((y5 + 1) : Int32).toNatClampNeg))) (fun _ _ => False) S u1 (xs ((y5 + 1) : Int32).toNatClampNeg) u4)
set_option maxHeartbeats 8000000 in
set_option maxRecDepth 100000 in
theorem tL_law_1787 {p : Program} {l : Launch} {e : Env} {s : State} {m : MethodId} {below : List Frame} {meth : Method} {c : Code} {H : Heap} {locs : List Loc} {cells slots : Nat} {G : GP} {S0 : MS} {ls : Array Slot} {b L : Nat} {xs : Nat → Int32} (C : CF p l s m #[Value.ref b] meth c "SkirmishGridLaw" code 9 G (fun q => s.heap.size ≤ q)) (hr : meth.sig.returnType = ret) (hX : va_X b L xs s s.heap) (hbl : b < s.heap.size) (c0 s0 : Nat) (k28 : MS → Nat → Nat → Nat → Nat → Int32 → Prop) (kh28 : ∀ (S : MS) (u1 : Nat) (u2 : Nat) (u3 : Nat) (u4 : Nat) (y5 : Int32) (cells slots : Nat) (H : Heap) (locs : List Loc) (ls : Array Slot), pI S 8 u1 → pI S 9 u2 → pI S 16 u3 → pI S 17 u4 → PW G (fun q => s.heap.size ≤ q) s H locs S0 S → lv_has ls 9 [(0, .ref b), (1, .ref u1), (2, .ref u2), (3, .ref u3), (4, .ref u4), (5, .int y5)] → cells ≤ c0 + 5 → slots ≤ s0 + 30 → k28 S u1 u2 u3 u4 y5 → W p l e room_1 s m #[Value.ref b] below meth c H locs cells slots (lw_Z below #[Value.ref b] s) (F0 m 28 ls [])) (S : MS) (u1 : Nat) (u2 : Nat) (u3 : Nat) (u4 : Nat) (y5 : Int32) (p_u1 : pI S 8 u1) (p_u2 : pI S 9 u2) (p_u3 : pI S 16 u3) (p_u4 : pI S 17 u4) (P : PW G (fun q => s.heap.size ≤ q) s H locs S0 S) (hl : lv_has ls 9 [(0, .ref b), (1, .ref u1), (2, .ref u2), (3, .ref u3), (4, .ref u4), (5, .int y5)]) (hcc : cells + 2 ≤ c0 + 5) (hss : slots + 12 ≤ s0 + 30) (h0 : c0 + 5 ≤ 600006) (hs0 : s0 + 30 ≤ 7302056) (hw : wL_law_1787 L xs k28 S u1 u2 u3 u4 y5) : W p l e room_1 s m #[Value.ref b] below meth c H locs cells slots (lw_Z below #[Value.ref b] s) (F0 m 1787 ls []) := by
  have hx := CF_x C
  have hb := CF_b C
  unfold wL_law_1787 at hw
  refine lv_aload_n hx hb dL_law_1787 rfl (lv_at hl 1 rfl) ?_
  refine lv_aload_n hx hb dL_law_1788 rfl (lv_at hl 0 rfl) ?_
  refine lv_iload hx hb dL_law_1789 (lv_at hl 5 rfl) ?_
  refine lv_iconst (v := 1) hx hb dL_law_1791 (by decide) ?_
  refine lv_iadd hx hb dL_law_1792 ?_
  obtain ⟨h1, hw⟩ := hw
  refine va_sld hx hb hX hbl (Nat.not_le.mpr hbl) P.2.2.1 h1 dL_law_1793 ?_
  refine lv_aload hx hb dL_law_1794 (lv_at hl 4 rfl) ?_
  refine cl_i C P (run_SX C P hl.1 (met_L_meanHealth (CF_n C) G H.size _ _ S u1 (xs ((y5 + 1) : Int32).toNatClampNeg) u4 p_u1 p_u4 hw) q_1224 q_1225 q_0 q_1226 cd_L_meanHealth.2 ⟨(Nat.le_of_ble_eq_true rfl), (Nat.le_of_ble_eq_true rfl)⟩ rfl rfl (As := [.ref u1, .int (xs ((y5 + 1) : Int32).toNatClampNeg), .ref u4]) (rest := []) rfl rfl (Nat.le_of_ble_eq_true rfl) dL_law_1796 ⟨by show cells + 2 ≤ 600006; omega, by show slots + 12 ≤ 7302056; omega⟩) kx_no (fun r2 S1 H locs P hE hw => ?_)
  have p_u1 : pI S1 8 u1 := pI_x hE p_u1
  have p_u2 : pI S1 9 u2 := pI_x hE p_u2
  have p_u3 : pI S1 16 u3 := pI_x hE p_u3
  have p_u4 : pI S1 17 u4 := pI_x hE p_u4
  refine lv_istore (lv' := [(6, .int r2), (0, .ref b), (1, .ref u1), (2, .ref u2), (3, .ref u3), (4, .ref u4), (5, .int y5)]) hx hb dL_law_1799 hl (by decide) rfl (fun ls hl => ?_)
  refine lv_aload_n hx hb dL_law_1801 rfl (lv_at hl 3 rfl) ?_
  refine lv_aload_n hx hb dL_law_1802 rfl (lv_at hl 1 rfl) ?_
  refine lv_iload hx hb dL_law_1803 (lv_at hl 6 rfl) ?_
  refine lv_iconst (v := 1) hx hb dL_law_1805 (by decide) ?_
  refine lv_iadd hx hb dL_law_1806 ?_
  obtain ⟨h1, hw⟩ := hw
  refine va_sld hx hb hX hbl (Nat.not_le.mpr hbl) P.2.2.1 h1 dL_law_1807 ?_
  refine cl_f C P (run_V C P hl.1 (kd := 9) (met_X9_meanHealth (CF_n C) G H.size _ _ S1 u2 (xs ((y5 + 1) : Int32).toNatClampNeg) p_u2 hw) p_u2 (by decide) rfl q_1718 q_1719 q_1720 q_10 q_1721 cd_X9_meanHealth ⟨(Nat.le_of_ble_eq_true rfl), (Nat.le_of_ble_eq_true rfl)⟩ rfl rfl (As := [.int (xs ((y5 + 1) : Int32).toNatClampNeg)]) (rest := []) rfl rfl (Nat.le_of_ble_eq_true rfl) dL_law_1808 ⟨by show cells + 2 + 0 ≤ 600006; omega, by show slots + 12 + 0 ≤ 7302056; omega⟩) kx_no (fun r4 S3 H locs P hE hw => ?_)
  have p_u1 : pI S3 8 u1 := pI_x hE p_u1
  have p_u2 : pI S3 9 u2 := pI_x hE p_u2
  have p_u3 : pI S3 16 u3 := pI_x hE p_u3
  have p_u4 : pI S3 17 u4 := pI_x hE p_u4
  refine lv_fstore (lv' := [(7, .float r4), (6, .int r2), (0, .ref b), (1, .ref u1), (2, .ref u2), (3, .ref u3), (4, .ref u4), (5, .int y5)]) hx hb dL_law_1811 hl (by decide) rfl (fun ls hl => ?_)
  refine lv_aload_n hx hb dL_law_1813 rfl (lv_at hl 4 rfl) ?_
  refine cl_i C P (run_V C P hl.1 (kd := 9) (met_X9_thrown (CF_n C) G H.size _ _ S3 u2 p_u2 hw) p_u2 (by decide) rfl q_1375 q_1376 q_1377 q_10 q_1378 cd_X9_thrown ⟨(Nat.le_of_ble_eq_true rfl), (Nat.le_of_ble_eq_true rfl)⟩ rfl rfl (As := []) (rest := []) rfl rfl (Nat.le_of_ble_eq_true rfl) dL_law_1814 ⟨by show cells + 2 + 0 ≤ 600006; omega, by show slots + 12 + 0 ≤ 7302056; omega⟩) kx_no (fun r6 S5 H locs P hE hw => ?_)
  have p_u1 : pI S5 8 u1 := pI_x hE p_u1
  have p_u2 : pI S5 9 u2 := pI_x hE p_u2
  have p_u3 : pI S5 16 u3 := pI_x hE p_u3
  have p_u4 : pI S5 17 u4 := pI_x hE p_u4
  refine lv_iload hx hb dL_law_1817 (lv_at hl 1 rfl) ?_
  refine lv_icmp_eq (tgt := 1824) hx hb dL_law_1819 (by decide) (fun hc => ?_) (fun hc => ?_)
  · have hw := hw.1 hc
    refine lv_iload hx hb dL_law_1824 (lv_at hl 1 rfl) ?_
    refine lv_if_ne (tgt := 1862) hx hb dL_law_1826 (by decide) (fun hc => ?_) (fun hc => ?_)
    · have hw := hw.1 hc
      refine lv_goto (tgt := 2149) hx hb dL_law_1862 (by decide) ?_
      refine lv_iinc (v := (y5 + 4)) (lv' := [(5, .int (y5 + 4)), (7, .float r4), (6, .int r2), (0, .ref b), (1, .ref u1), (2, .ref u2), (3, .ref u3), (4, .ref u4)]) hx hb dL_law_2149 hl (k := 7) rfl (by rfl) (by decide) rfl (fun ls hl => ?_)
      refine lv_goto (tgt := 28) hx hb dL_law_2152 (by decide) ?_
      exact kh28 S5 u1 u2 u3 u4 (y5 + 4) _ _ _ _ _ p_u1 p_u2 p_u3 p_u4 P (lv_sub hl [3, 4, 5, 6, 7, 0] rfl) (by omega) (by omega) hw
    · have hw := hw.2 hc
      refine lv_aload hx hb dL_law_1829 (lv_at hl 6 rfl) ?_
      refine lv_iconst (v := 0) hx hb dL_law_1831 (by decide) ?_
      obtain ⟨h1, hw⟩ := hw
      refine ra_d C P p_u4 h1 dL_law_1832 ?_
      refine lv_fload hx hb dL_law_1833 (lv_at hl 0 rfl) ?_
      obtain ⟨h1, hw⟩ := hw
      refine lv_f2d hx hb dL_law_1835 h1 ?_
      refine lv_dcmp hx hb dL_law_1836 ?_
      refine lv_if_eq (tgt := 1862) hx hb dL_law_1837 (by decide) (fun hc => ?_) (fun hc => ?_)
      · have hw := hw.1 hc
        refine lv_goto (tgt := 2149) hx hb dL_law_1862 (by decide) ?_
        refine lv_iinc (v := (y5 + 4)) (lv' := [(5, .int (y5 + 4)), (7, .float r4), (6, .int r2), (0, .ref b), (1, .ref u1), (2, .ref u2), (3, .ref u3), (4, .ref u4)]) hx hb dL_law_2149 hl (k := 7) rfl (by rfl) (by decide) rfl (fun ls hl => ?_)
        refine lv_goto (tgt := 28) hx hb dL_law_2152 (by decide) ?_
        exact kh28 S5 u1 u2 u3 u4 (y5 + 4) _ _ _ _ _ p_u1 p_u2 p_u3 p_u4 P (lv_sub hl [3, 4, 5, 6, 7, 0] rfl) (by omega) (by omega) hw
      · have hw := hw.2 hc
        refine lv_aload hx hb dL_law_1840 (lv_at hl 6 rfl) ?_
        refine lv_iconst (v := 0) hx hb dL_law_1842 (by decide) ?_
        obtain ⟨h1, hw⟩ := hw
        refine ra_d C P p_u4 h1 dL_law_1843 ?_
        refine lv_aload hx hb dL_law_1844 (lv_at hl 6 rfl) ?_
        refine lv_iconst (v := 0) hx hb dL_law_1846 (by decide) ?_
        obtain ⟨h1, hw⟩ := hw
        refine ra_d C P p_u4 h1 dL_law_1847 ?_
        refine lv_dcmp hx hb dL_law_1848 ?_
        refine lv_if_eq (tgt := 1860) hx hb dL_law_1849 (by decide) (fun hc => ?_) (fun hc => ?_)
        · have hw := hw.1 hc
          refine lv_iconst (v := 0) hx hb dL_law_1860 (by decide) ?_
          exact hw.elim
        · have hw := hw.2 hc
          refine lv_fload hx hb dL_law_1852 (lv_at hl 0 rfl) ?_
          refine lv_fload hx hb dL_law_1854 (lv_at hl 0 rfl) ?_
          refine lv_fcmp hx hb dL_law_1856 ?_
          refine lv_if_ne (tgt := 1862) hx hb dL_law_1857 (by decide) (fun hc => ?_) (fun hc => ?_)
          · have hw := hw.1 hc
            refine lv_goto (tgt := 2149) hx hb dL_law_1862 (by decide) ?_
            refine lv_iinc (v := (y5 + 4)) (lv' := [(5, .int (y5 + 4)), (7, .float r4), (6, .int r2), (0, .ref b), (1, .ref u1), (2, .ref u2), (3, .ref u3), (4, .ref u4)]) hx hb dL_law_2149 hl (k := 7) rfl (by rfl) (by decide) rfl (fun ls hl => ?_)
            refine lv_goto (tgt := 28) hx hb dL_law_2152 (by decide) ?_
            exact kh28 S5 u1 u2 u3 u4 (y5 + 4) _ _ _ _ _ p_u1 p_u2 p_u3 p_u4 P (lv_sub hl [3, 4, 5, 6, 7, 0] rfl) (by omega) (by omega) hw
          · have hw := hw.2 hc
            refine lv_iconst (v := 0) hx hb dL_law_1860 (by decide) ?_
            exact hw.elim
  · have hw := hw.2 hc
    refine lv_iconst (v := 0) hx hb dL_law_1822 (by decide) ?_
    exact hw.elim
def wL_law_1913 (L : Nat) (xs : Nat → Int32) (k28 : MS → Nat → Nat → Nat → Nat → Int32 → Prop) (S : MS) (u1 : Nat) (u2 : Nat) (u3 : Nat) (u4 : Nat) (y5 : Int32) (y6 : Int32) (z0 : Int32) (z1 : Int32) (w2 : Nat) : Prop := wp_X9_storeHealths (fun r2 S1 => wp_X9_thrown (fun r4 S3 => ((r4 = y6 → ((¬ y6 = 0 → k28 S3 u1 u2 u3 u4 (y5 + 4)) ∧ (y6 = 0 → (vp_in 0 (mN S3 u3) ∧ (((lg_cmp (mJ S3 u3 (0 : Int32).toNatClampNeg) ((r2 : Int32).toInt64)) = 0 → k28 S3 u1 u2 u3 u4 (y5 + 4)) ∧ (¬ (lg_cmp (mJ S3 u3 (0 : Int32).toNatClampNeg) ((r2 : Int32).toInt64)) = 0 → False)))))) ∧ (¬ r4 = y6 → False))) (fun _ _ => False) S1 u2) (fun _ _ => False) S w2 z1 z0
set_option maxHeartbeats 8000000 in
set_option maxRecDepth 100000 in
theorem tL_law_1913 {p : Program} {l : Launch} {e : Env} {s : State} {m : MethodId} {below : List Frame} {meth : Method} {c : Code} {H : Heap} {locs : List Loc} {cells slots : Nat} {G : GP} {S0 : MS} {ls : Array Slot} {b L : Nat} {xs : Nat → Int32} (C : CF p l s m #[Value.ref b] meth c "SkirmishGridLaw" code 9 G (fun q => s.heap.size ≤ q)) (hr : meth.sig.returnType = ret) (hX : va_X b L xs s s.heap) (hbl : b < s.heap.size) (c0 s0 : Nat) (k28 : MS → Nat → Nat → Nat → Nat → Int32 → Prop) (kh28 : ∀ (S : MS) (u1 : Nat) (u2 : Nat) (u3 : Nat) (u4 : Nat) (y5 : Int32) (cells slots : Nat) (H : Heap) (locs : List Loc) (ls : Array Slot), pI S 8 u1 → pI S 9 u2 → pI S 16 u3 → pI S 17 u4 → PW G (fun q => s.heap.size ≤ q) s H locs S0 S → lv_has ls 9 [(0, .ref b), (1, .ref u1), (2, .ref u2), (3, .ref u3), (4, .ref u4), (5, .int y5)] → cells ≤ c0 + 5 → slots ≤ s0 + 30 → k28 S u1 u2 u3 u4 y5 → W p l e room_1 s m #[Value.ref b] below meth c H locs cells slots (lw_Z below #[Value.ref b] s) (F0 m 28 ls [])) (S : MS) (u1 : Nat) (u2 : Nat) (u3 : Nat) (u4 : Nat) (y5 : Int32) (y6 : Int32) (z0 : Int32) (z1 : Int32) (w2 : Nat) (p_u1 : pI S 8 u1) (p_u2 : pI S 9 u2) (p_u3 : pI S 16 u3) (p_u4 : pI S 17 u4) (p_w2 : pI S 9 w2) (P : PW G (fun q => s.heap.size ≤ q) s H locs S0 S) (hl : lv_has ls 9 [(0, .ref b), (1, .ref u1), (2, .ref u2), (3, .ref u3), (4, .ref u4), (5, .int y5), (6, .int y6)]) (hcc : cells + 0 ≤ c0 + 5) (hss : slots + 0 ≤ s0 + 30) (h0 : c0 + 5 ≤ 600006) (hs0 : s0 + 30 ≤ 7302056) (hw : wL_law_1913 L xs k28 S u1 u2 u3 u4 y5 y6 z0 z1 w2) : W p l e room_1 s m #[Value.ref b] below meth c H locs cells slots (lw_Z below #[Value.ref b] s) (F0 m 1913 ls [.int z0, .int z1, .ref w2]) := by
  have hx := CF_x C
  have hb := CF_b C
  unfold wL_law_1913 at hw
  refine cl_i C P (run_V C P hl.1 (kd := 9) (met_X9_storeHealths (CF_n C) G H.size _ _ S w2 z1 z0 p_w2 hw) p_w2 (by decide) rfl q_1722 q_1723 q_1724 q_10 q_1725 cd_X9_storeHealths ⟨(Nat.le_of_ble_eq_true rfl), (Nat.le_of_ble_eq_true rfl)⟩ rfl rfl (As := [.int z1, .int z0]) (rest := []) rfl rfl (Nat.le_of_ble_eq_true rfl) dL_law_1913 ⟨by show cells + 0 ≤ 600006; omega, by show slots + 0 ≤ 7302056; omega⟩) kx_no (fun r2 S1 H locs P hE hw => ?_)
  have p_u1 : pI S1 8 u1 := pI_x hE p_u1
  have p_u2 : pI S1 9 u2 := pI_x hE p_u2
  have p_u3 : pI S1 16 u3 := pI_x hE p_u3
  have p_u4 : pI S1 17 u4 := pI_x hE p_u4
  have p_w2 : pI S1 9 w2 := pI_x hE p_w2
  refine lv_istore (lv' := [(7, .int r2), (0, .ref b), (1, .ref u1), (2, .ref u2), (3, .ref u3), (4, .ref u4), (5, .int y5), (6, .int y6)]) hx hb dL_law_1916 hl (by decide) rfl (fun ls hl => ?_)
  refine lv_aload_n hx hb dL_law_1918 rfl (lv_at hl 3 rfl) ?_
  refine cl_i C P (run_V C P hl.1 (kd := 9) (met_X9_thrown (CF_n C) G H.size _ _ S1 u2 p_u2 hw) p_u2 (by decide) rfl q_1375 q_1376 q_1377 q_10 q_1378 cd_X9_thrown ⟨(Nat.le_of_ble_eq_true rfl), (Nat.le_of_ble_eq_true rfl)⟩ rfl rfl (As := []) (rest := []) rfl rfl (Nat.le_of_ble_eq_true rfl) dL_law_1919 ⟨by show cells + 0 ≤ 600006; omega, by show slots + 0 ≤ 7302056; omega⟩) kx_no (fun r4 S3 H locs P hE hw => ?_)
  have p_u1 : pI S3 8 u1 := pI_x hE p_u1
  have p_u2 : pI S3 9 u2 := pI_x hE p_u2
  have p_u3 : pI S3 16 u3 := pI_x hE p_u3
  have p_u4 : pI S3 17 u4 := pI_x hE p_u4
  refine lv_iload hx hb dL_law_1922 (lv_at hl 7 rfl) ?_
  refine lv_icmp_eq (tgt := 1929) hx hb dL_law_1924 (by decide) (fun hc => ?_) (fun hc => ?_)
  · have hw := hw.1 hc
    refine lv_iload hx hb dL_law_1929 (lv_at hl 7 rfl) ?_
    refine lv_if_ne (tgt := 1946) hx hb dL_law_1931 (by decide) (fun hc => ?_) (fun hc => ?_)
    · have hw := hw.1 hc
      refine lv_goto (tgt := 2149) hx hb dL_law_1946 (by decide) ?_
      refine lv_iinc (v := (y5 + 4)) (lv' := [(5, .int (y5 + 4)), (7, .int r2), (0, .ref b), (1, .ref u1), (2, .ref u2), (3, .ref u3), (4, .ref u4), (6, .int y6)]) hx hb dL_law_2149 hl (k := 6) rfl (by rfl) (by decide) rfl (fun ls hl => ?_)
      refine lv_goto (tgt := 28) hx hb dL_law_2152 (by decide) ?_
      exact kh28 S3 u1 u2 u3 u4 (y5 + 4) _ _ _ _ _ p_u1 p_u2 p_u3 p_u4 P (lv_sub hl [2, 3, 4, 5, 6, 0] rfl) (by omega) (by omega) hw
    · have hw := hw.2 hc
      refine lv_aload_n hx hb dL_law_1934 rfl (lv_at hl 4 rfl) ?_
      refine lv_iconst (v := 0) hx hb dL_law_1935 (by decide) ?_
      obtain ⟨h1, hw⟩ := hw
      refine ra_j C P p_u3 h1 dL_law_1936 ?_
      refine lv_iload hx hb dL_law_1937 (lv_at hl 0 rfl) ?_
      refine lv_i2l (v := (r2 : Int32).toInt64) hx hb dL_law_1939 rfl ?_
      refine W.lcmp hx hb dL_law_1940 ?_
      refine lv_if_eq (tgt := 1946) hx hb dL_law_1941 (by decide) (fun hc => ?_) (fun hc => ?_)
      · have hw := hw.1 hc
        refine lv_goto (tgt := 2149) hx hb dL_law_1946 (by decide) ?_
        refine lv_iinc (v := (y5 + 4)) (lv' := [(5, .int (y5 + 4)), (7, .int r2), (0, .ref b), (1, .ref u1), (2, .ref u2), (3, .ref u3), (4, .ref u4), (6, .int y6)]) hx hb dL_law_2149 hl (k := 6) rfl (by rfl) (by decide) rfl (fun ls hl => ?_)
        refine lv_goto (tgt := 28) hx hb dL_law_2152 (by decide) ?_
        exact kh28 S3 u1 u2 u3 u4 (y5 + 4) _ _ _ _ _ p_u1 p_u2 p_u3 p_u4 P (lv_sub hl [2, 3, 4, 5, 6, 0] rfl) (by omega) (by omega) hw
      · have hw := hw.2 hc
        refine lv_iconst (v := 0) hx hb dL_law_1944 (by decide) ?_
        exact hw.elim
  · have hw := hw.2 hc
    refine lv_iconst (v := 0) hx hb dL_law_1927 (by decide) ?_
    exact hw.elim
def wL_law_1886 (L : Nat) (xs : Nat → Int32) (k28 : MS → Nat → Nat → Nat → Nat → Int32 → Prop) (S : MS) (u1 : Nat) (u2 : Nat) (u3 : Nat) (u4 : Nat) (y5 : Int32) (z0 : Int32) (z1 : Int32) (w2 : Nat) : Prop := wp_L_storeHealths (fun r2 S1 => (vp_in (y5 + 1) L ∧ (vp_in (y5 + 2) L ∧ (((xs ((y5 + 2) : Int32).toNatClampNeg) = 0 → wL_law_1913 L xs k28 S1 u1 u2 u3 u4 y5 r2 0 (xs ((y5 + 1) : Int32).toNatClampNeg) u2) ∧ (¬ (xs ((y5 + 2) : Int32).toNatClampNeg) = 0 → wL_law_1913 L xs k28 S1 u1 u2 u3 u4 y5 r2 1 (xs ((y5 + 1) : Int32).toNatClampNeg) u2))))) (fun _ _ => False) S w2 z1 z0 u3
set_option maxHeartbeats 8000000 in
set_option maxRecDepth 100000 in
theorem tL_law_1886 {p : Program} {l : Launch} {e : Env} {s : State} {m : MethodId} {below : List Frame} {meth : Method} {c : Code} {H : Heap} {locs : List Loc} {cells slots : Nat} {G : GP} {S0 : MS} {ls : Array Slot} {b L : Nat} {xs : Nat → Int32} (C : CF p l s m #[Value.ref b] meth c "SkirmishGridLaw" code 9 G (fun q => s.heap.size ≤ q)) (hr : meth.sig.returnType = ret) (hX : va_X b L xs s s.heap) (hbl : b < s.heap.size) (c0 s0 : Nat) (k28 : MS → Nat → Nat → Nat → Nat → Int32 → Prop) (kh28 : ∀ (S : MS) (u1 : Nat) (u2 : Nat) (u3 : Nat) (u4 : Nat) (y5 : Int32) (cells slots : Nat) (H : Heap) (locs : List Loc) (ls : Array Slot), pI S 8 u1 → pI S 9 u2 → pI S 16 u3 → pI S 17 u4 → PW G (fun q => s.heap.size ≤ q) s H locs S0 S → lv_has ls 9 [(0, .ref b), (1, .ref u1), (2, .ref u2), (3, .ref u3), (4, .ref u4), (5, .int y5)] → cells ≤ c0 + 5 → slots ≤ s0 + 30 → k28 S u1 u2 u3 u4 y5 → W p l e room_1 s m #[Value.ref b] below meth c H locs cells slots (lw_Z below #[Value.ref b] s) (F0 m 28 ls [])) (S : MS) (u1 : Nat) (u2 : Nat) (u3 : Nat) (u4 : Nat) (y5 : Int32) (z0 : Int32) (z1 : Int32) (w2 : Nat) (p_u1 : pI S 8 u1) (p_u2 : pI S 9 u2) (p_u3 : pI S 16 u3) (p_u4 : pI S 17 u4) (p_w2 : pI S 8 w2) (P : PW G (fun q => s.heap.size ≤ q) s H locs S0 S) (hl : lv_has ls 9 [(0, .ref b), (1, .ref u1), (2, .ref u2), (3, .ref u3), (4, .ref u4), (5, .int y5)]) (hcc : cells + 1 ≤ c0 + 5) (hss : slots + 6 ≤ s0 + 30) (h0 : c0 + 5 ≤ 600006) (hs0 : s0 + 30 ≤ 7302056) (hw : wL_law_1886 L xs k28 S u1 u2 u3 u4 y5 z0 z1 w2) : W p l e room_1 s m #[Value.ref b] below meth c H locs cells slots (lw_Z below #[Value.ref b] s) (F0 m 1886 ls [.int z0, .int z1, .ref w2]) := by
  have hx := CF_x C
  have hb := CF_b C
  unfold wL_law_1886 at hw
  refine lv_aload_n hx hb dL_law_1886 rfl (lv_at hl 3 rfl) ?_
  refine cl_i C P (run_SX C P hl.1 (met_L_storeHealths (CF_n C) G H.size _ _ S w2 z1 z0 u3 p_w2 p_u3 hw) q_1248 q_1249 q_0 q_1250 cd_L_storeHealths.2 ⟨(Nat.le_of_ble_eq_true rfl), (Nat.le_of_ble_eq_true rfl)⟩ rfl rfl (As := [.ref w2, .int z1, .int z0, .ref u3]) (rest := []) rfl rfl (Nat.le_of_ble_eq_true rfl) dL_law_1887 ⟨by show cells + 1 ≤ 600006; omega, by show slots + 6 ≤ 7302056; omega⟩) kx_no (fun r2 S1 H locs P hE hw => ?_)
  have p_u1 : pI S1 8 u1 := pI_x hE p_u1
  have p_u2 : pI S1 9 u2 := pI_x hE p_u2
  have p_u3 : pI S1 16 u3 := pI_x hE p_u3
  have p_u4 : pI S1 17 u4 := pI_x hE p_u4
  have p_w2 : pI S1 8 w2 := pI_x hE p_w2
  refine lv_istore (lv' := [(6, .int r2), (0, .ref b), (1, .ref u1), (2, .ref u2), (3, .ref u3), (4, .ref u4), (5, .int y5)]) hx hb dL_law_1890 hl (by decide) rfl (fun ls hl => ?_)
  refine lv_aload_n hx hb dL_law_1892 rfl (lv_at hl 3 rfl) ?_
  refine lv_aload_n hx hb dL_law_1893 rfl (lv_at hl 1 rfl) ?_
  refine lv_iload hx hb dL_law_1894 (lv_at hl 6 rfl) ?_
  refine lv_iconst (v := 1) hx hb dL_law_1896 (by decide) ?_
  refine lv_iadd hx hb dL_law_1897 ?_
  obtain ⟨h1, hw⟩ := hw
  refine va_sld hx hb hX hbl (Nat.not_le.mpr hbl) P.2.2.1 h1 dL_law_1898 ?_
  refine lv_aload_n hx hb dL_law_1899 rfl (lv_at hl 1 rfl) ?_
  refine lv_iload hx hb dL_law_1900 (lv_at hl 6 rfl) ?_
  refine lv_iconst (v := 2) hx hb dL_law_1902 (by decide) ?_
  refine lv_iadd hx hb dL_law_1903 ?_
  obtain ⟨h1, hw⟩ := hw
  refine va_sld hx hb hX hbl (Nat.not_le.mpr hbl) P.2.2.1 h1 dL_law_1904 ?_
  refine lv_if_eq (tgt := 1912) hx hb dL_law_1905 (by decide) (fun hc => ?_) (fun hc => ?_)
  · have hw := hw.1 hc
    refine lv_iconst (v := 0) hx hb dL_law_1912 (by decide) ?_
    exact tL_law_1913 C hr hX hbl c0 s0 k28 kh28 S1 u1 u2 u3 u4 y5 r2 0 (xs ((y5 + 1) : Int32).toNatClampNeg) u2 p_u1 p_u2 p_u3 p_u4 p_u2 P (lv_sub hl [1, 2, 3, 4, 5, 6, 0] rfl) (by omega) (by omega) h0 hs0 hw
  · have hw := hw.2 hc
    refine lv_iconst (v := 1) hx hb dL_law_1908 (by decide) ?_
    refine lv_goto (tgt := 1913) hx hb dL_law_1909 (by decide) ?_
    exact tL_law_1913 C hr hX hbl c0 s0 k28 kh28 S1 u1 u2 u3 u4 y5 r2 1 (xs ((y5 + 1) : Int32).toNatClampNeg) u2 p_u1 p_u2 p_u3 p_u4 p_u2 P (lv_sub hl [1, 2, 3, 4, 5, 6, 0] rfl) (by omega) (by omega) h0 hs0 hw
def wL_law_1865 (L : Nat) (xs : Nat → Int32) (k28 : MS → Nat → Nat → Nat → Nat → Int32 → Prop) (S : MS) (u1 : Nat) (u2 : Nat) (u3 : Nat) (u4 : Nat) (y5 : Int32) : Prop := (vp_in (y5 + 1) L ∧ (vp_in (y5 + 2) L ∧ (((xs ((y5 + 2) : Int32).toNatClampNeg) = 0 → wL_law_1886 L xs k28 S u1 u2 u3 u4 y5 0 (xs ((y5 + 1) : Int32).toNatClampNeg) u1) ∧ (¬ (xs ((y5 + 2) : Int32).toNatClampNeg) = 0 → wL_law_1886 L xs k28 S u1 u2 u3 u4 y5 1 (xs ((y5 + 1) : Int32).toNatClampNeg) u1))))
set_option maxHeartbeats 8000000 in
set_option maxRecDepth 100000 in
theorem tL_law_1865 {p : Program} {l : Launch} {e : Env} {s : State} {m : MethodId} {below : List Frame} {meth : Method} {c : Code} {H : Heap} {locs : List Loc} {cells slots : Nat} {G : GP} {S0 : MS} {ls : Array Slot} {b L : Nat} {xs : Nat → Int32} (C : CF p l s m #[Value.ref b] meth c "SkirmishGridLaw" code 9 G (fun q => s.heap.size ≤ q)) (hr : meth.sig.returnType = ret) (hX : va_X b L xs s s.heap) (hbl : b < s.heap.size) (c0 s0 : Nat) (k28 : MS → Nat → Nat → Nat → Nat → Int32 → Prop) (kh28 : ∀ (S : MS) (u1 : Nat) (u2 : Nat) (u3 : Nat) (u4 : Nat) (y5 : Int32) (cells slots : Nat) (H : Heap) (locs : List Loc) (ls : Array Slot), pI S 8 u1 → pI S 9 u2 → pI S 16 u3 → pI S 17 u4 → PW G (fun q => s.heap.size ≤ q) s H locs S0 S → lv_has ls 9 [(0, .ref b), (1, .ref u1), (2, .ref u2), (3, .ref u3), (4, .ref u4), (5, .int y5)] → cells ≤ c0 + 5 → slots ≤ s0 + 30 → k28 S u1 u2 u3 u4 y5 → W p l e room_1 s m #[Value.ref b] below meth c H locs cells slots (lw_Z below #[Value.ref b] s) (F0 m 28 ls [])) (S : MS) (u1 : Nat) (u2 : Nat) (u3 : Nat) (u4 : Nat) (y5 : Int32) (p_u1 : pI S 8 u1) (p_u2 : pI S 9 u2) (p_u3 : pI S 16 u3) (p_u4 : pI S 17 u4) (P : PW G (fun q => s.heap.size ≤ q) s H locs S0 S) (hl : lv_has ls 9 [(0, .ref b), (1, .ref u1), (2, .ref u2), (3, .ref u3), (4, .ref u4), (5, .int y5)]) (hcc : cells + 1 ≤ c0 + 5) (hss : slots + 6 ≤ s0 + 30) (h0 : c0 + 5 ≤ 600006) (hs0 : s0 + 30 ≤ 7302056) (hw : wL_law_1865 L xs k28 S u1 u2 u3 u4 y5) : W p l e room_1 s m #[Value.ref b] below meth c H locs cells slots (lw_Z below #[Value.ref b] s) (F0 m 1865 ls []) := by
  have hx := CF_x C
  have hb := CF_b C
  unfold wL_law_1865 at hw
  refine lv_aload_n hx hb dL_law_1865 rfl (lv_at hl 1 rfl) ?_
  refine lv_aload_n hx hb dL_law_1866 rfl (lv_at hl 0 rfl) ?_
  refine lv_iload hx hb dL_law_1867 (lv_at hl 5 rfl) ?_
  refine lv_iconst (v := 1) hx hb dL_law_1869 (by decide) ?_
  refine lv_iadd hx hb dL_law_1870 ?_
  obtain ⟨h1, hw⟩ := hw
  refine va_sld hx hb hX hbl (Nat.not_le.mpr hbl) P.2.2.1 h1 dL_law_1871 ?_
  refine lv_aload_n hx hb dL_law_1872 rfl (lv_at hl 0 rfl) ?_
  refine lv_iload hx hb dL_law_1873 (lv_at hl 5 rfl) ?_
  refine lv_iconst (v := 2) hx hb dL_law_1875 (by decide) ?_
  refine lv_iadd hx hb dL_law_1876 ?_
  obtain ⟨h1, hw⟩ := hw
  refine va_sld hx hb hX hbl (Nat.not_le.mpr hbl) P.2.2.1 h1 dL_law_1877 ?_
  refine lv_if_eq (tgt := 1885) hx hb dL_law_1878 (by decide) (fun hc => ?_) (fun hc => ?_)
  · have hw := hw.1 hc
    refine lv_iconst (v := 0) hx hb dL_law_1885 (by decide) ?_
    exact tL_law_1886 C hr hX hbl c0 s0 k28 kh28 S u1 u2 u3 u4 y5 0 (xs ((y5 + 1) : Int32).toNatClampNeg) u1 p_u1 p_u2 p_u3 p_u4 p_u1 P (lv_sub hl [0, 1, 2, 3, 4, 5] rfl) (by omega) (by omega) h0 hs0 hw
  · have hw := hw.2 hc
    refine lv_iconst (v := 1) hx hb dL_law_1881 (by decide) ?_
    refine lv_goto (tgt := 1886) hx hb dL_law_1882 (by decide) ?_
    exact tL_law_1886 C hr hX hbl c0 s0 k28 kh28 S u1 u2 u3 u4 y5 1 (xs ((y5 + 1) : Int32).toNatClampNeg) u1 p_u1 p_u2 p_u3 p_u4 p_u1 P (lv_sub hl [0, 1, 2, 3, 4, 5] rfl) (by omega) (by omega) h0 hs0 hw
def wL_law_2015 (L : Nat) (xs : Nat → Int32) (k28 : MS → Nat → Nat → Nat → Nat → Int32 → Prop) (S : MS) (u1 : Nat) (u2 : Nat) (u3 : Nat) (u4 : Nat) (y5 : Int32) (z0 : Int64) (z1 : Int64) : Prop := (((lg_cmp z1 z0) = 0 → k28 S u1 u2 u3 u4 (y5 + 4)) ∧ (¬ (lg_cmp z1 z0) = 0 → False))
set_option maxHeartbeats 8000000 in
set_option maxRecDepth 100000 in
theorem tL_law_2015 {p : Program} {l : Launch} {e : Env} {s : State} {m : MethodId} {below : List Frame} {meth : Method} {c : Code} {H : Heap} {locs : List Loc} {cells slots : Nat} {G : GP} {S0 : MS} {ls : Array Slot} {b L : Nat} {xs : Nat → Int32} (C : CF p l s m #[Value.ref b] meth c "SkirmishGridLaw" code 9 G (fun q => s.heap.size ≤ q)) (hr : meth.sig.returnType = ret) (hX : va_X b L xs s s.heap) (hbl : b < s.heap.size) (c0 s0 : Nat) (k28 : MS → Nat → Nat → Nat → Nat → Int32 → Prop) (kh28 : ∀ (S : MS) (u1 : Nat) (u2 : Nat) (u3 : Nat) (u4 : Nat) (y5 : Int32) (cells slots : Nat) (H : Heap) (locs : List Loc) (ls : Array Slot), pI S 8 u1 → pI S 9 u2 → pI S 16 u3 → pI S 17 u4 → PW G (fun q => s.heap.size ≤ q) s H locs S0 S → lv_has ls 9 [(0, .ref b), (1, .ref u1), (2, .ref u2), (3, .ref u3), (4, .ref u4), (5, .int y5)] → cells ≤ c0 + 5 → slots ≤ s0 + 30 → k28 S u1 u2 u3 u4 y5 → W p l e room_1 s m #[Value.ref b] below meth c H locs cells slots (lw_Z below #[Value.ref b] s) (F0 m 28 ls [])) (S : MS) (u1 : Nat) (u2 : Nat) (u3 : Nat) (u4 : Nat) (y5 : Int32) (z0 : Int64) (z1 : Int64) (p_u1 : pI S 8 u1) (p_u2 : pI S 9 u2) (p_u3 : pI S 16 u3) (p_u4 : pI S 17 u4) (P : PW G (fun q => s.heap.size ≤ q) s H locs S0 S) (hl : lv_has ls 9 [(0, .ref b), (1, .ref u1), (2, .ref u2), (3, .ref u3), (4, .ref u4), (5, .int y5)]) (hcc : cells + 0 ≤ c0 + 5) (hss : slots + 0 ≤ s0 + 30) (h0 : c0 + 5 ≤ 600006) (hs0 : s0 + 30 ≤ 7302056) (hw : wL_law_2015 L xs k28 S u1 u2 u3 u4 y5 z0 z1) : W p l e room_1 s m #[Value.ref b] below meth c H locs cells slots (lw_Z below #[Value.ref b] s) (F0 m 2015 ls [.long z0, .long z1]) := by
  have hx := CF_x C
  have hb := CF_b C
  unfold wL_law_2015 at hw
  refine W.lcmp hx hb dL_law_2015 ?_
  refine lv_if_eq (tgt := 2021) hx hb dL_law_2016 (by decide) (fun hc => ?_) (fun hc => ?_)
  · have hw := hw.1 hc
    refine lv_goto (tgt := 2149) hx hb dL_law_2021 (by decide) ?_
    refine lv_iinc (v := (y5 + 4)) (lv' := [(5, .int (y5 + 4)), (0, .ref b), (1, .ref u1), (2, .ref u2), (3, .ref u3), (4, .ref u4)]) hx hb dL_law_2149 hl (k := 5) rfl (by rfl) (by decide) rfl (fun ls hl => ?_)
    refine lv_goto (tgt := 28) hx hb dL_law_2152 (by decide) ?_
    exact kh28 S u1 u2 u3 u4 (y5 + 4) _ _ _ _ _ p_u1 p_u2 p_u3 p_u4 P (lv_sub hl [1, 2, 3, 4, 5, 0] rfl) (by omega) (by omega) hw
  · have hw := hw.2 hc
    refine lv_iconst (v := 0) hx hb dL_law_2019 (by decide) ?_
    exact hw.elim
def wL_law_1949 (L : Nat) (xs : Nat → Int32) (k28 : MS → Nat → Nat → Nat → Nat → Int32 → Prop) (S : MS) (u1 : Nat) (u2 : Nat) (u3 : Nat) (u4 : Nat) (y5 : Int32) : Prop := (vp_in (y5 + 1) L ∧ (vp_in (y5 + 2) L ∧ wp_L_copyHealths (fun r2 S1 => (vp_in (y5 + 1) L ∧ (vp_in (y5 + 2) L ∧ wp_X9_copyHealths (fun r4 S3 => wp_X9_thrown (fun r6 S5 => ((r6 = r2 → ((¬ r2 = 0 → k28 S5 u1 u2 u3 u4 (y5 + 4)) ∧ (r2 = 0 → (vp_in 0 (mN S5 u3) ∧ ((r4 = 0 → wL_law_2015 L xs k28 S5 u1 u2 u3 u4 y5 0 (mJ S5 u3 (0 : Int32).toNatClampNeg)) ∧ (¬ r4 = 0 → wL_law_2015 L xs k28 S5 u1 u2 u3 u4 y5 1 (mJ S5 u3 (0 : Int32).toNatClampNeg))))))) ∧ (¬ r6 = r2 → False))) (fun _ _ => False) S3 u2) (fun _ _ => False) S1 u2 (xs ((y5 + 1) : Int32).toNatClampNeg) (xs ((y5 + 2) : Int32).toNatClampNeg)))) (fun _ _ => False) S u1 (xs ((y5 + 1) : Int32).toNatClampNeg) (xs ((y5 + 2) : Int32).toNatClampNeg) u3))
set_option maxHeartbeats 8000000 in
set_option maxRecDepth 100000 in
theorem tL_law_1949 {p : Program} {l : Launch} {e : Env} {s : State} {m : MethodId} {below : List Frame} {meth : Method} {c : Code} {H : Heap} {locs : List Loc} {cells slots : Nat} {G : GP} {S0 : MS} {ls : Array Slot} {b L : Nat} {xs : Nat → Int32} (C : CF p l s m #[Value.ref b] meth c "SkirmishGridLaw" code 9 G (fun q => s.heap.size ≤ q)) (hr : meth.sig.returnType = ret) (hX : va_X b L xs s s.heap) (hbl : b < s.heap.size) (c0 s0 : Nat) (k28 : MS → Nat → Nat → Nat → Nat → Int32 → Prop) (kh28 : ∀ (S : MS) (u1 : Nat) (u2 : Nat) (u3 : Nat) (u4 : Nat) (y5 : Int32) (cells slots : Nat) (H : Heap) (locs : List Loc) (ls : Array Slot), pI S 8 u1 → pI S 9 u2 → pI S 16 u3 → pI S 17 u4 → PW G (fun q => s.heap.size ≤ q) s H locs S0 S → lv_has ls 9 [(0, .ref b), (1, .ref u1), (2, .ref u2), (3, .ref u3), (4, .ref u4), (5, .int y5)] → cells ≤ c0 + 5 → slots ≤ s0 + 30 → k28 S u1 u2 u3 u4 y5 → W p l e room_1 s m #[Value.ref b] below meth c H locs cells slots (lw_Z below #[Value.ref b] s) (F0 m 28 ls [])) (S : MS) (u1 : Nat) (u2 : Nat) (u3 : Nat) (u4 : Nat) (y5 : Int32) (p_u1 : pI S 8 u1) (p_u2 : pI S 9 u2) (p_u3 : pI S 16 u3) (p_u4 : pI S 17 u4) (P : PW G (fun q => s.heap.size ≤ q) s H locs S0 S) (hl : lv_has ls 9 [(0, .ref b), (1, .ref u1), (2, .ref u2), (3, .ref u3), (4, .ref u4), (5, .int y5)]) (hcc : cells + 3 ≤ c0 + 5) (hss : slots + 18 ≤ s0 + 30) (h0 : c0 + 5 ≤ 600006) (hs0 : s0 + 30 ≤ 7302056) (hw : wL_law_1949 L xs k28 S u1 u2 u3 u4 y5) : W p l e room_1 s m #[Value.ref b] below meth c H locs cells slots (lw_Z below #[Value.ref b] s) (F0 m 1949 ls []) := by
  have hx := CF_x C
  have hb := CF_b C
  unfold wL_law_1949 at hw
  refine lv_aload_n hx hb dL_law_1949 rfl (lv_at hl 1 rfl) ?_
  refine lv_aload_n hx hb dL_law_1950 rfl (lv_at hl 0 rfl) ?_
  refine lv_iload hx hb dL_law_1951 (lv_at hl 5 rfl) ?_
  refine lv_iconst (v := 1) hx hb dL_law_1953 (by decide) ?_
  refine lv_iadd hx hb dL_law_1954 ?_
  obtain ⟨h1, hw⟩ := hw
  refine va_sld hx hb hX hbl (Nat.not_le.mpr hbl) P.2.2.1 h1 dL_law_1955 ?_
  refine lv_aload_n hx hb dL_law_1956 rfl (lv_at hl 0 rfl) ?_
  refine lv_iload hx hb dL_law_1957 (lv_at hl 5 rfl) ?_
  refine lv_iconst (v := 2) hx hb dL_law_1959 (by decide) ?_
  refine lv_iadd hx hb dL_law_1960 ?_
  obtain ⟨h1, hw⟩ := hw
  refine va_sld hx hb hX hbl (Nat.not_le.mpr hbl) P.2.2.1 h1 dL_law_1961 ?_
  refine lv_aload_n hx hb dL_law_1962 rfl (lv_at hl 3 rfl) ?_
  refine cl_i C P (run_SX C P hl.1 (met_L_copyHealths (CF_n C) G H.size _ _ S u1 (xs ((y5 + 1) : Int32).toNatClampNeg) (xs ((y5 + 2) : Int32).toNatClampNeg) u3 p_u1 p_u3 hw) q_1265 q_1266 q_0 q_1267 cd_L_copyHealths.2 ⟨(Nat.le_of_ble_eq_true rfl), (Nat.le_of_ble_eq_true rfl)⟩ rfl rfl (As := [.ref u1, .int (xs ((y5 + 1) : Int32).toNatClampNeg), .int (xs ((y5 + 2) : Int32).toNatClampNeg), .ref u3]) (rest := []) rfl rfl (Nat.le_of_ble_eq_true rfl) dL_law_1963 ⟨by show cells + 3 ≤ 600006; omega, by show slots + 18 ≤ 7302056; omega⟩) kx_no (fun r2 S1 H locs P hE hw => ?_)
  have p_u1 : pI S1 8 u1 := pI_x hE p_u1
  have p_u2 : pI S1 9 u2 := pI_x hE p_u2
  have p_u3 : pI S1 16 u3 := pI_x hE p_u3
  have p_u4 : pI S1 17 u4 := pI_x hE p_u4
  refine lv_istore (lv' := [(6, .int r2), (0, .ref b), (1, .ref u1), (2, .ref u2), (3, .ref u3), (4, .ref u4), (5, .int y5)]) hx hb dL_law_1966 hl (by decide) rfl (fun ls hl => ?_)
  refine lv_aload_n hx hb dL_law_1968 rfl (lv_at hl 3 rfl) ?_
  refine lv_aload_n hx hb dL_law_1969 rfl (lv_at hl 1 rfl) ?_
  refine lv_iload hx hb dL_law_1970 (lv_at hl 6 rfl) ?_
  refine lv_iconst (v := 1) hx hb dL_law_1972 (by decide) ?_
  refine lv_iadd hx hb dL_law_1973 ?_
  obtain ⟨h1, hw⟩ := hw
  refine va_sld hx hb hX hbl (Nat.not_le.mpr hbl) P.2.2.1 h1 dL_law_1974 ?_
  refine lv_aload_n hx hb dL_law_1975 rfl (lv_at hl 1 rfl) ?_
  refine lv_iload hx hb dL_law_1976 (lv_at hl 6 rfl) ?_
  refine lv_iconst (v := 2) hx hb dL_law_1978 (by decide) ?_
  refine lv_iadd hx hb dL_law_1979 ?_
  obtain ⟨h1, hw⟩ := hw
  refine va_sld hx hb hX hbl (Nat.not_le.mpr hbl) P.2.2.1 h1 dL_law_1980 ?_
  refine cl_i C P (run_V C P hl.1 (kd := 9) (met_X9_copyHealths (CF_n C) G H.size _ _ S1 u2 (xs ((y5 + 1) : Int32).toNatClampNeg) (xs ((y5 + 2) : Int32).toNatClampNeg) p_u2 hw) p_u2 (by decide) rfl q_1726 q_1727 q_1728 q_10 q_1729 cd_X9_copyHealths ⟨(Nat.le_of_ble_eq_true rfl), (Nat.le_of_ble_eq_true rfl)⟩ rfl rfl (As := [.int (xs ((y5 + 1) : Int32).toNatClampNeg), .int (xs ((y5 + 2) : Int32).toNatClampNeg)]) (rest := []) rfl rfl (Nat.le_of_ble_eq_true rfl) dL_law_1981 ⟨by show cells + 3 + 0 ≤ 600006; omega, by show slots + 18 + 0 ≤ 7302056; omega⟩) kx_no (fun r4 S3 H locs P hE hw => ?_)
  have p_u1 : pI S3 8 u1 := pI_x hE p_u1
  have p_u2 : pI S3 9 u2 := pI_x hE p_u2
  have p_u3 : pI S3 16 u3 := pI_x hE p_u3
  have p_u4 : pI S3 17 u4 := pI_x hE p_u4
  refine lv_istore (lv' := [(7, .int r4), (6, .int r2), (0, .ref b), (1, .ref u1), (2, .ref u2), (3, .ref u3), (4, .ref u4), (5, .int y5)]) hx hb dL_law_1984 hl (by decide) rfl (fun ls hl => ?_)
  refine lv_aload_n hx hb dL_law_1986 rfl (lv_at hl 4 rfl) ?_
  refine cl_i C P (run_V C P hl.1 (kd := 9) (met_X9_thrown (CF_n C) G H.size _ _ S3 u2 p_u2 hw) p_u2 (by decide) rfl q_1375 q_1376 q_1377 q_10 q_1378 cd_X9_thrown ⟨(Nat.le_of_ble_eq_true rfl), (Nat.le_of_ble_eq_true rfl)⟩ rfl rfl (As := []) (rest := []) rfl rfl (Nat.le_of_ble_eq_true rfl) dL_law_1987 ⟨by show cells + 3 + 0 ≤ 600006; omega, by show slots + 18 + 0 ≤ 7302056; omega⟩) kx_no (fun r6 S5 H locs P hE hw => ?_)
  have p_u1 : pI S5 8 u1 := pI_x hE p_u1
  have p_u2 : pI S5 9 u2 := pI_x hE p_u2
  have p_u3 : pI S5 16 u3 := pI_x hE p_u3
  have p_u4 : pI S5 17 u4 := pI_x hE p_u4
  refine lv_iload hx hb dL_law_1990 (lv_at hl 1 rfl) ?_
  refine lv_icmp_eq (tgt := 1997) hx hb dL_law_1992 (by decide) (fun hc => ?_) (fun hc => ?_)
  · have hw := hw.1 hc
    refine lv_iload hx hb dL_law_1997 (lv_at hl 1 rfl) ?_
    refine lv_if_ne (tgt := 2021) hx hb dL_law_1999 (by decide) (fun hc => ?_) (fun hc => ?_)
    · have hw := hw.1 hc
      refine lv_goto (tgt := 2149) hx hb dL_law_2021 (by decide) ?_
      refine lv_iinc (v := (y5 + 4)) (lv' := [(5, .int (y5 + 4)), (7, .int r4), (6, .int r2), (0, .ref b), (1, .ref u1), (2, .ref u2), (3, .ref u3), (4, .ref u4)]) hx hb dL_law_2149 hl (k := 7) rfl (by rfl) (by decide) rfl (fun ls hl => ?_)
      refine lv_goto (tgt := 28) hx hb dL_law_2152 (by decide) ?_
      exact kh28 S5 u1 u2 u3 u4 (y5 + 4) _ _ _ _ _ p_u1 p_u2 p_u3 p_u4 P (lv_sub hl [3, 4, 5, 6, 7, 0] rfl) (by omega) (by omega) hw
    · have hw := hw.2 hc
      refine lv_aload_n hx hb dL_law_2002 rfl (lv_at hl 5 rfl) ?_
      refine lv_iconst (v := 0) hx hb dL_law_2003 (by decide) ?_
      obtain ⟨h1, hw⟩ := hw
      refine ra_j C P p_u3 h1 dL_law_2004 ?_
      refine lv_iload hx hb dL_law_2005 (lv_at hl 0 rfl) ?_
      refine lv_if_eq (tgt := 2014) hx hb dL_law_2007 (by decide) (fun hc => ?_) (fun hc => ?_)
      · have hw := hw.1 hc
        refine lv_lconst (v := 0) hx hb dL_law_2014 (by decide) ?_
        exact tL_law_2015 C hr hX hbl c0 s0 k28 kh28 S5 u1 u2 u3 u4 y5 0 (mJ S5 u3 (0 : Int32).toNatClampNeg) p_u1 p_u2 p_u3 p_u4 P (lv_sub hl [2, 3, 4, 5, 6, 7] rfl) (by omega) (by omega) h0 hs0 hw
      · have hw := hw.2 hc
        refine lv_lconst (v := 1) hx hb dL_law_2010 (by decide) ?_
        refine lv_goto (tgt := 2015) hx hb dL_law_2011 (by decide) ?_
        exact tL_law_2015 C hr hX hbl c0 s0 k28 kh28 S5 u1 u2 u3 u4 y5 1 (mJ S5 u3 (0 : Int32).toNatClampNeg) p_u1 p_u2 p_u3 p_u4 P (lv_sub hl [2, 3, 4, 5, 6, 7] rfl) (by omega) (by omega) h0 hs0 hw
  · have hw := hw.2 hc
    refine lv_iconst (v := 0) hx hb dL_law_1995 (by decide) ?_
    exact hw.elim
def wL_law_2024 (L : Nat) (xs : Nat → Int32) (k28 : MS → Nat → Nat → Nat → Nat → Int32 → Prop) (S : MS) (u1 : Nat) (u2 : Nat) (u3 : Nat) (u4 : Nat) (y5 : Int32) : Prop := (vp_in (y5 + 1) L ∧ (vp_in (y5 + 2) L ∧ wp_L_storedBits (fun r2 S1 => (vp_in (y5 + 1) L ∧ (vp_in (y5 + 2) L ∧ wp_X9_storedBits (fun r4 S3 => wp_X9_thrown (fun r6 S5 => ((r6 = r2 → ((¬ r2 = 0 → k28 S5 u1 u2 u3 u4 (y5 + 4)) ∧ (r2 = 0 → (vp_in 0 (mN S5 u3) ∧ (((lg_cmp (mJ S5 u3 (0 : Int32).toNatClampNeg) ((r4 : Int32).toInt64)) = 0 → k28 S5 u1 u2 u3 u4 (y5 + 4)) ∧ (¬ (lg_cmp (mJ S5 u3 (0 : Int32).toNatClampNeg) ((r4 : Int32).toInt64)) = 0 → False)))))) ∧ (¬ r6 = r2 → False))) (fun _ _ => False) S3 u2) (fun _ _ => False) S1 u2 (xs ((y5 + 1) : Int32).toNatClampNeg) (xs ((y5 + 2) : Int32).toNatClampNeg)))) (fun _ _ => False) S u1 (xs ((y5 + 1) : Int32).toNatClampNeg) (xs ((y5 + 2) : Int32).toNatClampNeg) u3))
set_option maxHeartbeats 8000000 in
set_option maxRecDepth 100000 in
theorem tL_law_2024 {p : Program} {l : Launch} {e : Env} {s : State} {m : MethodId} {below : List Frame} {meth : Method} {c : Code} {H : Heap} {locs : List Loc} {cells slots : Nat} {G : GP} {S0 : MS} {ls : Array Slot} {b L : Nat} {xs : Nat → Int32} (C : CF p l s m #[Value.ref b] meth c "SkirmishGridLaw" code 9 G (fun q => s.heap.size ≤ q)) (hr : meth.sig.returnType = ret) (hX : va_X b L xs s s.heap) (hbl : b < s.heap.size) (c0 s0 : Nat) (k28 : MS → Nat → Nat → Nat → Nat → Int32 → Prop) (kh28 : ∀ (S : MS) (u1 : Nat) (u2 : Nat) (u3 : Nat) (u4 : Nat) (y5 : Int32) (cells slots : Nat) (H : Heap) (locs : List Loc) (ls : Array Slot), pI S 8 u1 → pI S 9 u2 → pI S 16 u3 → pI S 17 u4 → PW G (fun q => s.heap.size ≤ q) s H locs S0 S → lv_has ls 9 [(0, .ref b), (1, .ref u1), (2, .ref u2), (3, .ref u3), (4, .ref u4), (5, .int y5)] → cells ≤ c0 + 5 → slots ≤ s0 + 30 → k28 S u1 u2 u3 u4 y5 → W p l e room_1 s m #[Value.ref b] below meth c H locs cells slots (lw_Z below #[Value.ref b] s) (F0 m 28 ls [])) (S : MS) (u1 : Nat) (u2 : Nat) (u3 : Nat) (u4 : Nat) (y5 : Int32) (p_u1 : pI S 8 u1) (p_u2 : pI S 9 u2) (p_u3 : pI S 16 u3) (p_u4 : pI S 17 u4) (P : PW G (fun q => s.heap.size ≤ q) s H locs S0 S) (hl : lv_has ls 9 [(0, .ref b), (1, .ref u1), (2, .ref u2), (3, .ref u3), (4, .ref u4), (5, .int y5)]) (hcc : cells + 2 ≤ c0 + 5) (hss : slots + 12 ≤ s0 + 30) (h0 : c0 + 5 ≤ 600006) (hs0 : s0 + 30 ≤ 7302056) (hw : wL_law_2024 L xs k28 S u1 u2 u3 u4 y5) : W p l e room_1 s m #[Value.ref b] below meth c H locs cells slots (lw_Z below #[Value.ref b] s) (F0 m 2024 ls []) := by
  have hx := CF_x C
  have hb := CF_b C
  unfold wL_law_2024 at hw
  refine lv_aload_n hx hb dL_law_2024 rfl (lv_at hl 1 rfl) ?_
  refine lv_aload_n hx hb dL_law_2025 rfl (lv_at hl 0 rfl) ?_
  refine lv_iload hx hb dL_law_2026 (lv_at hl 5 rfl) ?_
  refine lv_iconst (v := 1) hx hb dL_law_2028 (by decide) ?_
  refine lv_iadd hx hb dL_law_2029 ?_
  obtain ⟨h1, hw⟩ := hw
  refine va_sld hx hb hX hbl (Nat.not_le.mpr hbl) P.2.2.1 h1 dL_law_2030 ?_
  refine lv_aload_n hx hb dL_law_2031 rfl (lv_at hl 0 rfl) ?_
  refine lv_iload hx hb dL_law_2032 (lv_at hl 5 rfl) ?_
  refine lv_iconst (v := 2) hx hb dL_law_2034 (by decide) ?_
  refine lv_iadd hx hb dL_law_2035 ?_
  obtain ⟨h1, hw⟩ := hw
  refine va_sld hx hb hX hbl (Nat.not_le.mpr hbl) P.2.2.1 h1 dL_law_2036 ?_
  refine lv_aload_n hx hb dL_law_2037 rfl (lv_at hl 3 rfl) ?_
  refine cl_i C P (run_SX C P hl.1 (met_L_storedBits (CF_n C) G H.size _ _ S u1 (xs ((y5 + 1) : Int32).toNatClampNeg) (xs ((y5 + 2) : Int32).toNatClampNeg) u3 p_u1 p_u3 hw) q_1279 q_1280 q_0 q_1281 cd_L_storedBits.2 ⟨(Nat.le_of_ble_eq_true rfl), (Nat.le_of_ble_eq_true rfl)⟩ rfl rfl (As := [.ref u1, .int (xs ((y5 + 1) : Int32).toNatClampNeg), .int (xs ((y5 + 2) : Int32).toNatClampNeg), .ref u3]) (rest := []) rfl rfl (Nat.le_of_ble_eq_true rfl) dL_law_2038 ⟨by show cells + 2 ≤ 600006; omega, by show slots + 12 ≤ 7302056; omega⟩) kx_no (fun r2 S1 H locs P hE hw => ?_)
  have p_u1 : pI S1 8 u1 := pI_x hE p_u1
  have p_u2 : pI S1 9 u2 := pI_x hE p_u2
  have p_u3 : pI S1 16 u3 := pI_x hE p_u3
  have p_u4 : pI S1 17 u4 := pI_x hE p_u4
  refine lv_istore (lv' := [(6, .int r2), (0, .ref b), (1, .ref u1), (2, .ref u2), (3, .ref u3), (4, .ref u4), (5, .int y5)]) hx hb dL_law_2041 hl (by decide) rfl (fun ls hl => ?_)
  refine lv_aload_n hx hb dL_law_2043 rfl (lv_at hl 3 rfl) ?_
  refine lv_aload_n hx hb dL_law_2044 rfl (lv_at hl 1 rfl) ?_
  refine lv_iload hx hb dL_law_2045 (lv_at hl 6 rfl) ?_
  refine lv_iconst (v := 1) hx hb dL_law_2047 (by decide) ?_
  refine lv_iadd hx hb dL_law_2048 ?_
  obtain ⟨h1, hw⟩ := hw
  refine va_sld hx hb hX hbl (Nat.not_le.mpr hbl) P.2.2.1 h1 dL_law_2049 ?_
  refine lv_aload_n hx hb dL_law_2050 rfl (lv_at hl 1 rfl) ?_
  refine lv_iload hx hb dL_law_2051 (lv_at hl 6 rfl) ?_
  refine lv_iconst (v := 2) hx hb dL_law_2053 (by decide) ?_
  refine lv_iadd hx hb dL_law_2054 ?_
  obtain ⟨h1, hw⟩ := hw
  refine va_sld hx hb hX hbl (Nat.not_le.mpr hbl) P.2.2.1 h1 dL_law_2055 ?_
  refine cl_i C P (run_V C P hl.1 (kd := 9) (met_X9_storedBits (CF_n C) G H.size _ _ S1 u2 (xs ((y5 + 1) : Int32).toNatClampNeg) (xs ((y5 + 2) : Int32).toNatClampNeg) p_u2 hw) p_u2 (by decide) rfl q_1730 q_1731 q_1732 q_10 q_1733 cd_X9_storedBits ⟨(Nat.le_of_ble_eq_true rfl), (Nat.le_of_ble_eq_true rfl)⟩ rfl rfl (As := [.int (xs ((y5 + 1) : Int32).toNatClampNeg), .int (xs ((y5 + 2) : Int32).toNatClampNeg)]) (rest := []) rfl rfl (Nat.le_of_ble_eq_true rfl) dL_law_2056 ⟨by show cells + 2 + 0 ≤ 600006; omega, by show slots + 12 + 0 ≤ 7302056; omega⟩) kx_no (fun r4 S3 H locs P hE hw => ?_)
  have p_u1 : pI S3 8 u1 := pI_x hE p_u1
  have p_u2 : pI S3 9 u2 := pI_x hE p_u2
  have p_u3 : pI S3 16 u3 := pI_x hE p_u3
  have p_u4 : pI S3 17 u4 := pI_x hE p_u4
  refine lv_istore (lv' := [(7, .int r4), (6, .int r2), (0, .ref b), (1, .ref u1), (2, .ref u2), (3, .ref u3), (4, .ref u4), (5, .int y5)]) hx hb dL_law_2059 hl (by decide) rfl (fun ls hl => ?_)
  refine lv_aload_n hx hb dL_law_2061 rfl (lv_at hl 4 rfl) ?_
  refine cl_i C P (run_V C P hl.1 (kd := 9) (met_X9_thrown (CF_n C) G H.size _ _ S3 u2 p_u2 hw) p_u2 (by decide) rfl q_1375 q_1376 q_1377 q_10 q_1378 cd_X9_thrown ⟨(Nat.le_of_ble_eq_true rfl), (Nat.le_of_ble_eq_true rfl)⟩ rfl rfl (As := []) (rest := []) rfl rfl (Nat.le_of_ble_eq_true rfl) dL_law_2062 ⟨by show cells + 2 + 0 ≤ 600006; omega, by show slots + 12 + 0 ≤ 7302056; omega⟩) kx_no (fun r6 S5 H locs P hE hw => ?_)
  have p_u1 : pI S5 8 u1 := pI_x hE p_u1
  have p_u2 : pI S5 9 u2 := pI_x hE p_u2
  have p_u3 : pI S5 16 u3 := pI_x hE p_u3
  have p_u4 : pI S5 17 u4 := pI_x hE p_u4
  refine lv_iload hx hb dL_law_2065 (lv_at hl 1 rfl) ?_
  refine lv_icmp_eq (tgt := 2072) hx hb dL_law_2067 (by decide) (fun hc => ?_) (fun hc => ?_)
  · have hw := hw.1 hc
    refine lv_iload hx hb dL_law_2072 (lv_at hl 1 rfl) ?_
    refine lv_if_ne (tgt := 2089) hx hb dL_law_2074 (by decide) (fun hc => ?_) (fun hc => ?_)
    · have hw := hw.1 hc
      refine lv_goto (tgt := 2149) hx hb dL_law_2089 (by decide) ?_
      refine lv_iinc (v := (y5 + 4)) (lv' := [(5, .int (y5 + 4)), (7, .int r4), (6, .int r2), (0, .ref b), (1, .ref u1), (2, .ref u2), (3, .ref u3), (4, .ref u4)]) hx hb dL_law_2149 hl (k := 7) rfl (by rfl) (by decide) rfl (fun ls hl => ?_)
      refine lv_goto (tgt := 28) hx hb dL_law_2152 (by decide) ?_
      exact kh28 S5 u1 u2 u3 u4 (y5 + 4) _ _ _ _ _ p_u1 p_u2 p_u3 p_u4 P (lv_sub hl [3, 4, 5, 6, 7, 0] rfl) (by omega) (by omega) hw
    · have hw := hw.2 hc
      refine lv_aload_n hx hb dL_law_2077 rfl (lv_at hl 5 rfl) ?_
      refine lv_iconst (v := 0) hx hb dL_law_2078 (by decide) ?_
      obtain ⟨h1, hw⟩ := hw
      refine ra_j C P p_u3 h1 dL_law_2079 ?_
      refine lv_iload hx hb dL_law_2080 (lv_at hl 0 rfl) ?_
      refine lv_i2l (v := (r4 : Int32).toInt64) hx hb dL_law_2082 rfl ?_
      refine W.lcmp hx hb dL_law_2083 ?_
      refine lv_if_eq (tgt := 2089) hx hb dL_law_2084 (by decide) (fun hc => ?_) (fun hc => ?_)
      · have hw := hw.1 hc
        refine lv_goto (tgt := 2149) hx hb dL_law_2089 (by decide) ?_
        refine lv_iinc (v := (y5 + 4)) (lv' := [(5, .int (y5 + 4)), (7, .int r4), (6, .int r2), (0, .ref b), (1, .ref u1), (2, .ref u2), (3, .ref u3), (4, .ref u4)]) hx hb dL_law_2149 hl (k := 7) rfl (by rfl) (by decide) rfl (fun ls hl => ?_)
        refine lv_goto (tgt := 28) hx hb dL_law_2152 (by decide) ?_
        exact kh28 S5 u1 u2 u3 u4 (y5 + 4) _ _ _ _ _ p_u1 p_u2 p_u3 p_u4 P (lv_sub hl [3, 4, 5, 6, 7, 0] rfl) (by omega) (by omega) hw
      · have hw := hw.2 hc
        refine lv_iconst (v := 0) hx hb dL_law_2087 (by decide) ?_
        exact hw.elim
  · have hw := hw.2 hc
    refine lv_iconst (v := 0) hx hb dL_law_2070 (by decide) ?_
    exact hw.elim
def wL_law_2092 (L : Nat) (xs : Nat → Int32) (k28 : MS → Nat → Nat → Nat → Nat → Int32 → Prop) (S : MS) (u1 : Nat) (u2 : Nat) (u3 : Nat) (u4 : Nat) (y5 : Int32) : Prop := wp_X8_snapshot (fun r2 S1 => wp_X9_snapshot (fun r4 S3 => ((r2 = r4 → k28 S3 u1 u2 u3 u4 (y5 + 4)) ∧ (¬ r2 = r4 → False))) (fun _ _ => False) S1 u2) (fun _ _ => False) S u1
set_option maxHeartbeats 8000000 in
set_option maxRecDepth 100000 in
theorem tL_law_2092 {p : Program} {l : Launch} {e : Env} {s : State} {m : MethodId} {below : List Frame} {meth : Method} {c : Code} {H : Heap} {locs : List Loc} {cells slots : Nat} {G : GP} {S0 : MS} {ls : Array Slot} {b L : Nat} {xs : Nat → Int32} (C : CF p l s m #[Value.ref b] meth c "SkirmishGridLaw" code 9 G (fun q => s.heap.size ≤ q)) (hr : meth.sig.returnType = ret) (hX : va_X b L xs s s.heap) (hbl : b < s.heap.size) (c0 s0 : Nat) (k28 : MS → Nat → Nat → Nat → Nat → Int32 → Prop) (kh28 : ∀ (S : MS) (u1 : Nat) (u2 : Nat) (u3 : Nat) (u4 : Nat) (y5 : Int32) (cells slots : Nat) (H : Heap) (locs : List Loc) (ls : Array Slot), pI S 8 u1 → pI S 9 u2 → pI S 16 u3 → pI S 17 u4 → PW G (fun q => s.heap.size ≤ q) s H locs S0 S → lv_has ls 9 [(0, .ref b), (1, .ref u1), (2, .ref u2), (3, .ref u3), (4, .ref u4), (5, .int y5)] → cells ≤ c0 + 5 → slots ≤ s0 + 30 → k28 S u1 u2 u3 u4 y5 → W p l e room_1 s m #[Value.ref b] below meth c H locs cells slots (lw_Z below #[Value.ref b] s) (F0 m 28 ls [])) (S : MS) (u1 : Nat) (u2 : Nat) (u3 : Nat) (u4 : Nat) (y5 : Int32) (p_u1 : pI S 8 u1) (p_u2 : pI S 9 u2) (p_u3 : pI S 16 u3) (p_u4 : pI S 17 u4) (P : PW G (fun q => s.heap.size ≤ q) s H locs S0 S) (hl : lv_has ls 9 [(0, .ref b), (1, .ref u1), (2, .ref u2), (3, .ref u3), (4, .ref u4), (5, .int y5)]) (hcc : cells + 0 ≤ c0 + 5) (hss : slots + 0 ≤ s0 + 30) (h0 : c0 + 5 ≤ 600006) (hs0 : s0 + 30 ≤ 7302056) (hw : wL_law_2092 L xs k28 S u1 u2 u3 u4 y5) : W p l e room_1 s m #[Value.ref b] below meth c H locs cells slots (lw_Z below #[Value.ref b] s) (F0 m 2092 ls []) := by
  have hx := CF_x C
  have hb := CF_b C
  unfold wL_law_2092 at hw
  refine lv_aload_n hx hb dL_law_2092 rfl (lv_at hl 1 rfl) ?_
  refine cl_i C P (run_V C P hl.1 (kd := 8) (met_X8_snapshot (CF_n C) G H.size _ _ S u1 p_u1 hw) p_u1 (by decide) rfl q_371 q_372 q_373 q_1 q_374 cd_X8_snapshot ⟨(Nat.le_of_ble_eq_true rfl), (Nat.le_of_ble_eq_true rfl)⟩ rfl rfl (As := []) (rest := []) rfl rfl (Nat.le_of_ble_eq_true rfl) dL_law_2093 ⟨by show cells + 0 ≤ 600006; omega, by show slots + 0 ≤ 7302056; omega⟩) kx_no (fun r2 S1 H locs P hE hw => ?_)
  have p_u1 : pI S1 8 u1 := pI_x hE p_u1
  have p_u2 : pI S1 9 u2 := pI_x hE p_u2
  have p_u3 : pI S1 16 u3 := pI_x hE p_u3
  have p_u4 : pI S1 17 u4 := pI_x hE p_u4
  refine lv_aload_n hx hb dL_law_2096 rfl (lv_at hl 2 rfl) ?_
  refine cl_i C P (run_V C P hl.1 (kd := 9) (met_X9_snapshot (CF_n C) G H.size _ _ S1 u2 p_u2 hw) p_u2 (by decide) rfl q_1744 q_1745 q_1746 q_10 q_1747 cd_X9_snapshot ⟨(Nat.le_of_ble_eq_true rfl), (Nat.le_of_ble_eq_true rfl)⟩ rfl rfl (As := []) (rest := [.int r2]) rfl rfl (Nat.le_of_ble_eq_true rfl) dL_law_2097 ⟨by show cells + 0 ≤ 600006; omega, by show slots + 0 ≤ 7302056; omega⟩) kx_no (fun r4 S3 H locs P hE hw => ?_)
  have p_u1 : pI S3 8 u1 := pI_x hE p_u1
  have p_u2 : pI S3 9 u2 := pI_x hE p_u2
  have p_u3 : pI S3 16 u3 := pI_x hE p_u3
  have p_u4 : pI S3 17 u4 := pI_x hE p_u4
  refine lv_icmp_eq (tgt := 2149) hx hb dL_law_2100 (by decide) (fun hc => ?_) (fun hc => ?_)
  · have hw := hw.1 hc
    refine lv_iinc (v := (y5 + 4)) (lv' := [(5, .int (y5 + 4)), (0, .ref b), (1, .ref u1), (2, .ref u2), (3, .ref u3), (4, .ref u4)]) hx hb dL_law_2149 hl (k := 5) rfl (by rfl) (by decide) rfl (fun ls hl => ?_)
    refine lv_goto (tgt := 28) hx hb dL_law_2152 (by decide) ?_
    exact kh28 S3 u1 u2 u3 u4 (y5 + 4) _ _ _ _ _ p_u1 p_u2 p_u3 p_u4 P (lv_sub hl [1, 2, 3, 4, 5, 0] rfl) (by omega) (by omega) hw
  · have hw := hw.2 hc
    refine lv_iconst (v := 0) hx hb dL_law_2103 (by decide) ?_
    exact hw.elim
def wL_law_2105 (L : Nat) (xs : Nat → Int32) (k28 : MS → Nat → Nat → Nat → Nat → Int32 → Prop) (S : MS) (u1 : Nat) (u2 : Nat) (u3 : Nat) (u4 : Nat) (y5 : Int32) : Prop := wp_L_restore (fun r2 S1 => wp_X9_restore (fun r4 S3 => wp_X9_thrown (fun r6 S5 => ((r6 = r2 → ((¬ r2 = 0 → k28 S5 u1 u2 u3 u4 (y5 + 4)) ∧ (r2 = 0 → (vp_in 0 (mN S5 u3) ∧ (((lg_cmp (mJ S5 u3 (0 : Int32).toNatClampNeg) ((r4 : Int32).toInt64)) = 0 → k28 S5 u1 u2 u3 u4 (y5 + 4)) ∧ (¬ (lg_cmp (mJ S5 u3 (0 : Int32).toNatClampNeg) ((r4 : Int32).toInt64)) = 0 → False)))))) ∧ (¬ r6 = r2 → False))) (fun _ _ => False) S3 u2) (fun _ _ => False) S1 u2) (fun _ _ => False) S u1 u3
set_option maxHeartbeats 8000000 in
set_option maxRecDepth 100000 in
theorem tL_law_2105 {p : Program} {l : Launch} {e : Env} {s : State} {m : MethodId} {below : List Frame} {meth : Method} {c : Code} {H : Heap} {locs : List Loc} {cells slots : Nat} {G : GP} {S0 : MS} {ls : Array Slot} {b L : Nat} {xs : Nat → Int32} (C : CF p l s m #[Value.ref b] meth c "SkirmishGridLaw" code 9 G (fun q => s.heap.size ≤ q)) (hr : meth.sig.returnType = ret) (hX : va_X b L xs s s.heap) (hbl : b < s.heap.size) (c0 s0 : Nat) (k28 : MS → Nat → Nat → Nat → Nat → Int32 → Prop) (kh28 : ∀ (S : MS) (u1 : Nat) (u2 : Nat) (u3 : Nat) (u4 : Nat) (y5 : Int32) (cells slots : Nat) (H : Heap) (locs : List Loc) (ls : Array Slot), pI S 8 u1 → pI S 9 u2 → pI S 16 u3 → pI S 17 u4 → PW G (fun q => s.heap.size ≤ q) s H locs S0 S → lv_has ls 9 [(0, .ref b), (1, .ref u1), (2, .ref u2), (3, .ref u3), (4, .ref u4), (5, .int y5)] → cells ≤ c0 + 5 → slots ≤ s0 + 30 → k28 S u1 u2 u3 u4 y5 → W p l e room_1 s m #[Value.ref b] below meth c H locs cells slots (lw_Z below #[Value.ref b] s) (F0 m 28 ls [])) (S : MS) (u1 : Nat) (u2 : Nat) (u3 : Nat) (u4 : Nat) (y5 : Int32) (p_u1 : pI S 8 u1) (p_u2 : pI S 9 u2) (p_u3 : pI S 16 u3) (p_u4 : pI S 17 u4) (P : PW G (fun q => s.heap.size ≤ q) s H locs S0 S) (hl : lv_has ls 9 [(0, .ref b), (1, .ref u1), (2, .ref u2), (3, .ref u3), (4, .ref u4), (5, .int y5)]) (hcc : cells + 1 ≤ c0 + 5) (hss : slots + 6 ≤ s0 + 30) (h0 : c0 + 5 ≤ 600006) (hs0 : s0 + 30 ≤ 7302056) (hw : wL_law_2105 L xs k28 S u1 u2 u3 u4 y5) : W p l e room_1 s m #[Value.ref b] below meth c H locs cells slots (lw_Z below #[Value.ref b] s) (F0 m 2105 ls []) := by
  have hx := CF_x C
  have hb := CF_b C
  unfold wL_law_2105 at hw
  refine lv_aload_n hx hb dL_law_2105 rfl (lv_at hl 1 rfl) ?_
  refine lv_aload_n hx hb dL_law_2106 rfl (lv_at hl 3 rfl) ?_
  refine cl_i C P (run_SX C P hl.1 (met_L_restore (CF_n C) G H.size _ _ S u1 u3 p_u1 p_u3 hw) q_1291 q_1292 q_0 q_1293 cd_L_restore.2 ⟨(Nat.le_of_ble_eq_true rfl), (Nat.le_of_ble_eq_true rfl)⟩ rfl rfl (As := [.ref u1, .ref u3]) (rest := []) rfl rfl (Nat.le_of_ble_eq_true rfl) dL_law_2107 ⟨by show cells + 1 ≤ 600006; omega, by show slots + 6 ≤ 7302056; omega⟩) kx_no (fun r2 S1 H locs P hE hw => ?_)
  have p_u1 : pI S1 8 u1 := pI_x hE p_u1
  have p_u2 : pI S1 9 u2 := pI_x hE p_u2
  have p_u3 : pI S1 16 u3 := pI_x hE p_u3
  have p_u4 : pI S1 17 u4 := pI_x hE p_u4
  refine lv_istore (lv' := [(6, .int r2), (0, .ref b), (1, .ref u1), (2, .ref u2), (3, .ref u3), (4, .ref u4), (5, .int y5)]) hx hb dL_law_2110 hl (by decide) rfl (fun ls hl => ?_)
  refine lv_aload_n hx hb dL_law_2112 rfl (lv_at hl 3 rfl) ?_
  refine cl_i C P (run_V C P hl.1 (kd := 9) (met_X9_restore (CF_n C) G H.size _ _ S1 u2 p_u2 hw) p_u2 (by decide) rfl q_1748 q_1749 q_1750 q_10 q_1751 cd_X9_restore ⟨(Nat.le_of_ble_eq_true rfl), (Nat.le_of_ble_eq_true rfl)⟩ rfl rfl (As := []) (rest := []) rfl rfl (Nat.le_of_ble_eq_true rfl) dL_law_2113 ⟨by show cells + 1 + 0 ≤ 600006; omega, by show slots + 6 + 0 ≤ 7302056; omega⟩) kx_no (fun r4 S3 H locs P hE hw => ?_)
  have p_u1 : pI S3 8 u1 := pI_x hE p_u1
  have p_u2 : pI S3 9 u2 := pI_x hE p_u2
  have p_u3 : pI S3 16 u3 := pI_x hE p_u3
  have p_u4 : pI S3 17 u4 := pI_x hE p_u4
  refine lv_istore (lv' := [(7, .int r4), (6, .int r2), (0, .ref b), (1, .ref u1), (2, .ref u2), (3, .ref u3), (4, .ref u4), (5, .int y5)]) hx hb dL_law_2116 hl (by decide) rfl (fun ls hl => ?_)
  refine lv_aload_n hx hb dL_law_2118 rfl (lv_at hl 4 rfl) ?_
  refine cl_i C P (run_V C P hl.1 (kd := 9) (met_X9_thrown (CF_n C) G H.size _ _ S3 u2 p_u2 hw) p_u2 (by decide) rfl q_1375 q_1376 q_1377 q_10 q_1378 cd_X9_thrown ⟨(Nat.le_of_ble_eq_true rfl), (Nat.le_of_ble_eq_true rfl)⟩ rfl rfl (As := []) (rest := []) rfl rfl (Nat.le_of_ble_eq_true rfl) dL_law_2119 ⟨by show cells + 1 + 0 ≤ 600006; omega, by show slots + 6 + 0 ≤ 7302056; omega⟩) kx_no (fun r6 S5 H locs P hE hw => ?_)
  have p_u1 : pI S5 8 u1 := pI_x hE p_u1
  have p_u2 : pI S5 9 u2 := pI_x hE p_u2
  have p_u3 : pI S5 16 u3 := pI_x hE p_u3
  have p_u4 : pI S5 17 u4 := pI_x hE p_u4
  refine lv_iload hx hb dL_law_2122 (lv_at hl 1 rfl) ?_
  refine lv_icmp_eq (tgt := 2129) hx hb dL_law_2124 (by decide) (fun hc => ?_) (fun hc => ?_)
  · have hw := hw.1 hc
    refine lv_iload hx hb dL_law_2129 (lv_at hl 1 rfl) ?_
    refine lv_if_ne (tgt := 2146) hx hb dL_law_2131 (by decide) (fun hc => ?_) (fun hc => ?_)
    · have hw := hw.1 hc
      refine lv_goto (tgt := 2149) hx hb dL_law_2146 (by decide) ?_
      refine lv_iinc (v := (y5 + 4)) (lv' := [(5, .int (y5 + 4)), (7, .int r4), (6, .int r2), (0, .ref b), (1, .ref u1), (2, .ref u2), (3, .ref u3), (4, .ref u4)]) hx hb dL_law_2149 hl (k := 7) rfl (by rfl) (by decide) rfl (fun ls hl => ?_)
      refine lv_goto (tgt := 28) hx hb dL_law_2152 (by decide) ?_
      exact kh28 S5 u1 u2 u3 u4 (y5 + 4) _ _ _ _ _ p_u1 p_u2 p_u3 p_u4 P (lv_sub hl [3, 4, 5, 6, 7, 0] rfl) (by omega) (by omega) hw
    · have hw := hw.2 hc
      refine lv_aload_n hx hb dL_law_2134 rfl (lv_at hl 5 rfl) ?_
      refine lv_iconst (v := 0) hx hb dL_law_2135 (by decide) ?_
      obtain ⟨h1, hw⟩ := hw
      refine ra_j C P p_u3 h1 dL_law_2136 ?_
      refine lv_iload hx hb dL_law_2137 (lv_at hl 0 rfl) ?_
      refine lv_i2l (v := (r4 : Int32).toInt64) hx hb dL_law_2139 rfl ?_
      refine W.lcmp hx hb dL_law_2140 ?_
      refine lv_if_eq (tgt := 2146) hx hb dL_law_2141 (by decide) (fun hc => ?_) (fun hc => ?_)
      · have hw := hw.1 hc
        refine lv_goto (tgt := 2149) hx hb dL_law_2146 (by decide) ?_
        refine lv_iinc (v := (y5 + 4)) (lv' := [(5, .int (y5 + 4)), (7, .int r4), (6, .int r2), (0, .ref b), (1, .ref u1), (2, .ref u2), (3, .ref u3), (4, .ref u4)]) hx hb dL_law_2149 hl (k := 7) rfl (by rfl) (by decide) rfl (fun ls hl => ?_)
        refine lv_goto (tgt := 28) hx hb dL_law_2152 (by decide) ?_
        exact kh28 S5 u1 u2 u3 u4 (y5 + 4) _ _ _ _ _ p_u1 p_u2 p_u3 p_u4 P (lv_sub hl [3, 4, 5, 6, 7, 0] rfl) (by omega) (by omega) hw
      · have hw := hw.2 hc
        refine lv_iconst (v := 0) hx hb dL_law_2144 (by decide) ?_
        exact hw.elim
  · have hw := hw.2 hc
    refine lv_iconst (v := 0) hx hb dL_law_2127 (by decide) ?_
    exact hw.elim
def wL_law_28 (L : Nat) (xs : Nat → Int32) (k28 : MS → Nat → Nat → Nat → Nat → Int32 → Prop) (S : MS) (u1 : Nat) (u2 : Nat) (u3 : Nat) (u4 : Nat) (y5 : Int32) : Prop := ((((Int32.ofNat L) - 4) < y5 → True) ∧ (¬ ((Int32.ofNat L) - 4) < y5 → (vp_in y5 L ∧ ((((((xs (y5 : Int32).toNatClampNeg) &&& 63) : Int32).toInt < 0 ∨ 36 < (((xs (y5 : Int32).toNatClampNeg) &&& 63) : Int32).toInt) → k28 S u1 u2 u3 u4 (y5 + 4)) ∧ ((((xs (y5 : Int32).toNatClampNeg) &&& 63) : Int32).toInt = 0 → wL_law_208 L xs k28 S u1 u2 u3 u4 y5) ∧ ((((xs (y5 : Int32).toNatClampNeg) &&& 63) : Int32).toInt = 1 → wL_law_266 L xs k28 S u1 u2 u3 u4 y5) ∧ ((((xs (y5 : Int32).toNatClampNeg) &&& 63) : Int32).toInt = 2 → wL_law_322 L xs k28 S u1 u2 u3 u4 y5) ∧ ((((xs (y5 : Int32).toNatClampNeg) &&& 63) : Int32).toInt = 3 → wL_law_366 L xs k28 S u1 u2 u3 u4 y5) ∧ ((((xs (y5 : Int32).toNatClampNeg) &&& 63) : Int32).toInt = 4 → wL_law_434 L xs k28 S u1 u2 u3 u4 y5) ∧ ((((xs (y5 : Int32).toNatClampNeg) &&& 63) : Int32).toInt = 5 → wL_law_509 L xs k28 S u1 u2 u3 u4 y5) ∧ ((((xs (y5 : Int32).toNatClampNeg) &&& 63) : Int32).toInt = 6 → wL_law_577 L xs k28 S u1 u2 u3 u4 y5) ∧ ((((xs (y5 : Int32).toNatClampNeg) &&& 63) : Int32).toInt = 7 → wL_law_657 L xs k28 S u1 u2 u3 u4 y5) ∧ ((((xs (y5 : Int32).toNatClampNeg) &&& 63) : Int32).toInt = 8 → wL_law_670 L xs k28 S u1 u2 u3 u4 y5) ∧ ((((xs (y5 : Int32).toNatClampNeg) &&& 63) : Int32).toInt = 9 → wL_law_738 L xs k28 S u1 u2 u3 u4 y5) ∧ ((((xs (y5 : Int32).toNatClampNeg) &&& 63) : Int32).toInt = 10 → wL_law_782 L xs k28 S u1 u2 u3 u4 y5) ∧ ((((xs (y5 : Int32).toNatClampNeg) &&& 63) : Int32).toInt = 11 → wL_law_795 L xs k28 S u1 u2 u3 u4 y5) ∧ ((((xs (y5 : Int32).toNatClampNeg) &&& 63) : Int32).toInt = 12 → wL_law_808 L xs k28 S u1 u2 u3 u4 y5) ∧ ((((xs (y5 : Int32).toNatClampNeg) &&& 63) : Int32).toInt = 13 → wL_law_852 L xs k28 S u1 u2 u3 u4 y5) ∧ ((((xs (y5 : Int32).toNatClampNeg) &&& 63) : Int32).toInt = 14 → wL_law_908 L xs k28 S u1 u2 u3 u4 y5) ∧ ((((xs (y5 : Int32).toNatClampNeg) &&& 63) : Int32).toInt = 15 → wL_law_964 L xs k28 S u1 u2 u3 u4 y5) ∧ ((((xs (y5 : Int32).toNatClampNeg) &&& 63) : Int32).toInt = 16 → wL_law_1032 L xs k28 S u1 u2 u3 u4 y5) ∧ ((((xs (y5 : Int32).toNatClampNeg) &&& 63) : Int32).toInt = 17 → wL_law_1121 L xs k28 S u1 u2 u3 u4 y5) ∧ ((((xs (y5 : Int32).toNatClampNeg) &&& 63) : Int32).toInt = 18 → wL_law_1210 L xs k28 S u1 u2 u3 u4 y5) ∧ ((((xs (y5 : Int32).toNatClampNeg) &&& 63) : Int32).toInt = 19 → wL_law_1254 L xs k28 S u1 u2 u3 u4 y5) ∧ ((((xs (y5 : Int32).toNatClampNeg) &&& 63) : Int32).toInt = 20 → wL_law_1310 L xs k28 S u1 u2 u3 u4 y5) ∧ ((((xs (y5 : Int32).toNatClampNeg) &&& 63) : Int32).toInt = 21 → wL_law_1366 L xs k28 S u1 u2 u3 u4 y5) ∧ ((((xs (y5 : Int32).toNatClampNeg) &&& 63) : Int32).toInt = 22 → wL_law_1422 L xs k28 S u1 u2 u3 u4 y5) ∧ ((((xs (y5 : Int32).toNatClampNeg) &&& 63) : Int32).toInt = 23 → wL_law_1466 L xs k28 S u1 u2 u3 u4 y5) ∧ ((((xs (y5 : Int32).toNatClampNeg) &&& 63) : Int32).toInt = 24 → wL_law_1510 L xs k28 S u1 u2 u3 u4 y5) ∧ ((((xs (y5 : Int32).toNatClampNeg) &&& 63) : Int32).toInt = 25 → wL_law_1554 L xs k28 S u1 u2 u3 u4 y5) ∧ ((((xs (y5 : Int32).toNatClampNeg) &&& 63) : Int32).toInt = 26 → wL_law_1598 L xs k28 S u1 u2 u3 u4 y5) ∧ ((((xs (y5 : Int32).toNatClampNeg) &&& 63) : Int32).toInt = 27 → wL_law_1611 L xs k28 S u1 u2 u3 u4 y5) ∧ ((((xs (y5 : Int32).toNatClampNeg) &&& 63) : Int32).toInt = 28 → wL_law_1679 L xs k28 S u1 u2 u3 u4 y5) ∧ ((((xs (y5 : Int32).toNatClampNeg) &&& 63) : Int32).toInt = 29 → wL_law_1692 L xs k28 S u1 u2 u3 u4 y5) ∧ ((((xs (y5 : Int32).toNatClampNeg) &&& 63) : Int32).toInt = 30 → wL_law_1736 L xs k28 S u1 u2 u3 u4 y5) ∧ ((((xs (y5 : Int32).toNatClampNeg) &&& 63) : Int32).toInt = 31 → wL_law_1787 L xs k28 S u1 u2 u3 u4 y5) ∧ ((((xs (y5 : Int32).toNatClampNeg) &&& 63) : Int32).toInt = 32 → wL_law_1865 L xs k28 S u1 u2 u3 u4 y5) ∧ ((((xs (y5 : Int32).toNatClampNeg) &&& 63) : Int32).toInt = 33 → wL_law_1949 L xs k28 S u1 u2 u3 u4 y5) ∧ ((((xs (y5 : Int32).toNatClampNeg) &&& 63) : Int32).toInt = 34 → wL_law_2024 L xs k28 S u1 u2 u3 u4 y5) ∧ ((((xs (y5 : Int32).toNatClampNeg) &&& 63) : Int32).toInt = 35 → wL_law_2092 L xs k28 S u1 u2 u3 u4 y5) ∧ ((((xs (y5 : Int32).toNatClampNeg) &&& 63) : Int32).toInt = 36 → wL_law_2105 L xs k28 S u1 u2 u3 u4 y5)))))
set_option maxHeartbeats 8000000 in
set_option maxRecDepth 100000 in
theorem tL_law_28 {p : Program} {l : Launch} {e : Env} {s : State} {m : MethodId} {below : List Frame} {meth : Method} {c : Code} {H : Heap} {locs : List Loc} {cells slots : Nat} {G : GP} {S0 : MS} {ls : Array Slot} {b L : Nat} {xs : Nat → Int32} (C : CF p l s m #[Value.ref b] meth c "SkirmishGridLaw" code 9 G (fun q => s.heap.size ≤ q)) (hr : meth.sig.returnType = ret) (hX : va_X b L xs s s.heap) (hbl : b < s.heap.size) (c0 s0 : Nat) (k28 : MS → Nat → Nat → Nat → Nat → Int32 → Prop) (kh28 : ∀ (S : MS) (u1 : Nat) (u2 : Nat) (u3 : Nat) (u4 : Nat) (y5 : Int32) (cells slots : Nat) (H : Heap) (locs : List Loc) (ls : Array Slot), pI S 8 u1 → pI S 9 u2 → pI S 16 u3 → pI S 17 u4 → PW G (fun q => s.heap.size ≤ q) s H locs S0 S → lv_has ls 9 [(0, .ref b), (1, .ref u1), (2, .ref u2), (3, .ref u3), (4, .ref u4), (5, .int y5)] → cells ≤ c0 + 5 → slots ≤ s0 + 30 → k28 S u1 u2 u3 u4 y5 → W p l e room_1 s m #[Value.ref b] below meth c H locs cells slots (lw_Z below #[Value.ref b] s) (F0 m 28 ls [])) (S : MS) (u1 : Nat) (u2 : Nat) (u3 : Nat) (u4 : Nat) (y5 : Int32) (p_u1 : pI S 8 u1) (p_u2 : pI S 9 u2) (p_u3 : pI S 16 u3) (p_u4 : pI S 17 u4) (P : PW G (fun q => s.heap.size ≤ q) s H locs S0 S) (hl : lv_has ls 9 [(0, .ref b), (1, .ref u1), (2, .ref u2), (3, .ref u3), (4, .ref u4), (5, .int y5)]) (hcc : cells + 5 ≤ c0 + 5) (hss : slots + 30 ≤ s0 + 30) (h0 : c0 + 5 ≤ 600006) (hs0 : s0 + 30 ≤ 7302056) (hw : wL_law_28 L xs k28 S u1 u2 u3 u4 y5) : W p l e room_1 s m #[Value.ref b] below meth c H locs cells slots (lw_Z below #[Value.ref b] s) (F0 m 28 ls []) := by
  have hx := CF_x C
  have hb := CF_b C
  unfold wL_law_28 at hw
  refine lv_iload hx hb dL_law_28 (lv_at hl 5 rfl) ?_
  refine lv_aload_n hx hb dL_law_30 rfl (lv_at hl 0 rfl) ?_
  refine va_slen hx hb hX hbl (Nat.not_le.mpr hbl) P.2.2.1 dL_law_31 ?_
  refine lv_iconst (v := 4) hx hb dL_law_32 (by decide) ?_
  refine lv_isub hx hb dL_law_33 ?_
  refine lv_icmp_gt (tgt := 2155) hx hb dL_law_34 (by decide) (fun hc => ?_) (fun hc => ?_)
  · have hw := hw.1 hc
    refine lv_iconst (v := 1) hx hb dL_law_2155 (by decide) ?_
    refine va_forget (fun q hq => P.2.2.1.2.2 q hq) ?_
    refine W.widen (k := 600006) (n := 7302056) (by omega) (by omega) ?_
    exact lw_ret (d0 := s.drawn) (Drawn.sameBut.refl s.drawn lw_cs) hx hb hr (CF_k C) dL_law_2156
  · have hw := hw.2 hc
    refine lv_aload_n hx hb dL_law_37 rfl (lv_at hl 0 rfl) ?_
    refine lv_iload hx hb dL_law_38 (lv_at hl 5 rfl) ?_
    obtain ⟨h1, hw⟩ := hw
    refine va_sld hx hb hX hbl (Nat.not_le.mpr hbl) P.2.2.1 h1 dL_law_40 ?_
    refine lv_bipush (v := 63) hx hb dL_law_41 (by decide) ?_
    refine lv_iand hx hb dL_law_43 ?_
    rcases ts_split (lo := 0) (hi := 36) ((xs (y5 : Int32).toNatClampNeg) &&& 63) with hc | ⟨i, hi, hc⟩
    · have hw := hw.1 hc
      refine lv_tableOut (tgt := 2149) hx hb dL_law_44 hc (by decide) ?_
      refine lv_iinc (v := (y5 + 4)) (lv' := [(5, .int (y5 + 4)), (0, .ref b), (1, .ref u1), (2, .ref u2), (3, .ref u3), (4, .ref u4)]) hx hb dL_law_2149 hl (k := 5) rfl (by rfl) (by decide) rfl (fun ls hl => ?_)
      refine lv_goto (tgt := 28) hx hb dL_law_2152 (by decide) ?_
      exact kh28 S u1 u2 u3 u4 (y5 + 4) _ _ _ _ _ p_u1 p_u2 p_u3 p_u4 P (lv_sub hl [1, 2, 3, 4, 5, 0] rfl) (by omega) (by omega) hw
    · rcases (show i = 0 ∨ i = 1 ∨ i = 2 ∨ i = 3 ∨ i = 4 ∨ i = 5 ∨ i = 6 ∨ i = 7 ∨ i = 8 ∨ i = 9 ∨ i = 10 ∨ i = 11 ∨ i = 12 ∨ i = 13 ∨ i = 14 ∨ i = 15 ∨ i = 16 ∨ i = 17 ∨ i = 18 ∨ i = 19 ∨ i = 20 ∨ i = 21 ∨ i = 22 ∨ i = 23 ∨ i = 24 ∨ i = 25 ∨ i = 26 ∨ i = 27 ∨ i = 28 ∨ i = 29 ∨ i = 30 ∨ i = 31 ∨ i = 32 ∨ i = 33 ∨ i = 34 ∨ i = 35 ∨ i = 36 by omega) with rfl | rfl | rfl | rfl | rfl | rfl | rfl | rfl | rfl | rfl | rfl | rfl | rfl | rfl | rfl | rfl | rfl | rfl | rfl | rfl | rfl | rfl | rfl | rfl | rfl | rfl | rfl | rfl | rfl | rfl | rfl | rfl | rfl | rfl | rfl | rfl | rfl
      · have hw := hw.2.1 hc
        refine lv_tableIn (tgt := 208) hx hb dL_law_44 (by omega) (by omega) (by rw [hc]; rfl) (by decide) ?_
        exact tL_law_208 C hr hX hbl c0 s0 k28 kh28 S u1 u2 u3 u4 y5 p_u1 p_u2 p_u3 p_u4 P (lv_sub hl [0, 1, 2, 3, 4, 5] rfl) (by omega) (by omega) h0 hs0 hw
      · have hw := hw.2.2.1 hc
        refine lv_tableIn (tgt := 266) hx hb dL_law_44 (by omega) (by omega) (by rw [hc]; rfl) (by decide) ?_
        exact tL_law_266 C hr hX hbl c0 s0 k28 kh28 S u1 u2 u3 u4 y5 p_u1 p_u2 p_u3 p_u4 P (lv_sub hl [0, 1, 2, 3, 4, 5] rfl) (by omega) (by omega) h0 hs0 hw
      · have hw := hw.2.2.2.1 hc
        refine lv_tableIn (tgt := 322) hx hb dL_law_44 (by omega) (by omega) (by rw [hc]; rfl) (by decide) ?_
        exact tL_law_322 C hr hX hbl c0 s0 k28 kh28 S u1 u2 u3 u4 y5 p_u1 p_u2 p_u3 p_u4 P (lv_sub hl [0, 1, 2, 3, 4, 5] rfl) (by omega) (by omega) h0 hs0 hw
      · have hw := hw.2.2.2.2.1 hc
        refine lv_tableIn (tgt := 366) hx hb dL_law_44 (by omega) (by omega) (by rw [hc]; rfl) (by decide) ?_
        exact tL_law_366 C hr hX hbl c0 s0 k28 kh28 S u1 u2 u3 u4 y5 p_u1 p_u2 p_u3 p_u4 P (lv_sub hl [0, 1, 2, 3, 4, 5] rfl) (by omega) (by omega) h0 hs0 hw
      · have hw := hw.2.2.2.2.2.1 hc
        refine lv_tableIn (tgt := 434) hx hb dL_law_44 (by omega) (by omega) (by rw [hc]; rfl) (by decide) ?_
        exact tL_law_434 C hr hX hbl c0 s0 k28 kh28 S u1 u2 u3 u4 y5 p_u1 p_u2 p_u3 p_u4 P (lv_sub hl [0, 1, 2, 3, 4, 5] rfl) (by omega) (by omega) h0 hs0 hw
      · have hw := hw.2.2.2.2.2.2.1 hc
        refine lv_tableIn (tgt := 509) hx hb dL_law_44 (by omega) (by omega) (by rw [hc]; rfl) (by decide) ?_
        exact tL_law_509 C hr hX hbl c0 s0 k28 kh28 S u1 u2 u3 u4 y5 p_u1 p_u2 p_u3 p_u4 P (lv_sub hl [0, 1, 2, 3, 4, 5] rfl) (by omega) (by omega) h0 hs0 hw
      · have hw := hw.2.2.2.2.2.2.2.1 hc
        refine lv_tableIn (tgt := 577) hx hb dL_law_44 (by omega) (by omega) (by rw [hc]; rfl) (by decide) ?_
        exact tL_law_577 C hr hX hbl c0 s0 k28 kh28 S u1 u2 u3 u4 y5 p_u1 p_u2 p_u3 p_u4 P (lv_sub hl [0, 1, 2, 3, 4, 5] rfl) (by omega) (by omega) h0 hs0 hw
      · have hw := hw.2.2.2.2.2.2.2.2.1 hc
        refine lv_tableIn (tgt := 657) hx hb dL_law_44 (by omega) (by omega) (by rw [hc]; rfl) (by decide) ?_
        exact tL_law_657 C hr hX hbl c0 s0 k28 kh28 S u1 u2 u3 u4 y5 p_u1 p_u2 p_u3 p_u4 P (lv_sub hl [0, 1, 2, 3, 4, 5] rfl) (by omega) (by omega) h0 hs0 hw
      · have hw := hw.2.2.2.2.2.2.2.2.2.1 hc
        refine lv_tableIn (tgt := 670) hx hb dL_law_44 (by omega) (by omega) (by rw [hc]; rfl) (by decide) ?_
        exact tL_law_670 C hr hX hbl c0 s0 k28 kh28 S u1 u2 u3 u4 y5 p_u1 p_u2 p_u3 p_u4 P (lv_sub hl [0, 1, 2, 3, 4, 5] rfl) (by omega) (by omega) h0 hs0 hw
      · have hw := hw.2.2.2.2.2.2.2.2.2.2.1 hc
        refine lv_tableIn (tgt := 738) hx hb dL_law_44 (by omega) (by omega) (by rw [hc]; rfl) (by decide) ?_
        exact tL_law_738 C hr hX hbl c0 s0 k28 kh28 S u1 u2 u3 u4 y5 p_u1 p_u2 p_u3 p_u4 P (lv_sub hl [0, 1, 2, 3, 4, 5] rfl) (by omega) (by omega) h0 hs0 hw
      · have hw := hw.2.2.2.2.2.2.2.2.2.2.2.1 hc
        refine lv_tableIn (tgt := 782) hx hb dL_law_44 (by omega) (by omega) (by rw [hc]; rfl) (by decide) ?_
        exact tL_law_782 C hr hX hbl c0 s0 k28 kh28 S u1 u2 u3 u4 y5 p_u1 p_u2 p_u3 p_u4 P (lv_sub hl [0, 1, 2, 3, 4, 5] rfl) (by omega) (by omega) h0 hs0 hw
      · have hw := hw.2.2.2.2.2.2.2.2.2.2.2.2.1 hc
        refine lv_tableIn (tgt := 795) hx hb dL_law_44 (by omega) (by omega) (by rw [hc]; rfl) (by decide) ?_
        exact tL_law_795 C hr hX hbl c0 s0 k28 kh28 S u1 u2 u3 u4 y5 p_u1 p_u2 p_u3 p_u4 P (lv_sub hl [0, 1, 2, 3, 4, 5] rfl) (by omega) (by omega) h0 hs0 hw
      · have hw := hw.2.2.2.2.2.2.2.2.2.2.2.2.2.1 hc
        refine lv_tableIn (tgt := 808) hx hb dL_law_44 (by omega) (by omega) (by rw [hc]; rfl) (by decide) ?_
        exact tL_law_808 C hr hX hbl c0 s0 k28 kh28 S u1 u2 u3 u4 y5 p_u1 p_u2 p_u3 p_u4 P (lv_sub hl [0, 1, 2, 3, 4, 5] rfl) (by omega) (by omega) h0 hs0 hw
      · have hw := hw.2.2.2.2.2.2.2.2.2.2.2.2.2.2.1 hc
        refine lv_tableIn (tgt := 852) hx hb dL_law_44 (by omega) (by omega) (by rw [hc]; rfl) (by decide) ?_
        exact tL_law_852 C hr hX hbl c0 s0 k28 kh28 S u1 u2 u3 u4 y5 p_u1 p_u2 p_u3 p_u4 P (lv_sub hl [0, 1, 2, 3, 4, 5] rfl) (by omega) (by omega) h0 hs0 hw
      · have hw := hw.2.2.2.2.2.2.2.2.2.2.2.2.2.2.2.1 hc
        refine lv_tableIn (tgt := 908) hx hb dL_law_44 (by omega) (by omega) (by rw [hc]; rfl) (by decide) ?_
        exact tL_law_908 C hr hX hbl c0 s0 k28 kh28 S u1 u2 u3 u4 y5 p_u1 p_u2 p_u3 p_u4 P (lv_sub hl [0, 1, 2, 3, 4, 5] rfl) (by omega) (by omega) h0 hs0 hw
      · have hw := hw.2.2.2.2.2.2.2.2.2.2.2.2.2.2.2.2.1 hc
        refine lv_tableIn (tgt := 964) hx hb dL_law_44 (by omega) (by omega) (by rw [hc]; rfl) (by decide) ?_
        exact tL_law_964 C hr hX hbl c0 s0 k28 kh28 S u1 u2 u3 u4 y5 p_u1 p_u2 p_u3 p_u4 P (lv_sub hl [0, 1, 2, 3, 4, 5] rfl) (by omega) (by omega) h0 hs0 hw
      · have hw := hw.2.2.2.2.2.2.2.2.2.2.2.2.2.2.2.2.2.1 hc
        refine lv_tableIn (tgt := 1032) hx hb dL_law_44 (by omega) (by omega) (by rw [hc]; rfl) (by decide) ?_
        exact tL_law_1032 C hr hX hbl c0 s0 k28 kh28 S u1 u2 u3 u4 y5 p_u1 p_u2 p_u3 p_u4 P (lv_sub hl [0, 1, 2, 3, 4, 5] rfl) (by omega) (by omega) h0 hs0 hw
      · have hw := hw.2.2.2.2.2.2.2.2.2.2.2.2.2.2.2.2.2.2.1 hc
        refine lv_tableIn (tgt := 1121) hx hb dL_law_44 (by omega) (by omega) (by rw [hc]; rfl) (by decide) ?_
        exact tL_law_1121 C hr hX hbl c0 s0 k28 kh28 S u1 u2 u3 u4 y5 p_u1 p_u2 p_u3 p_u4 P (lv_sub hl [0, 1, 2, 3, 4, 5] rfl) (by omega) (by omega) h0 hs0 hw
      · have hw := hw.2.2.2.2.2.2.2.2.2.2.2.2.2.2.2.2.2.2.2.1 hc
        refine lv_tableIn (tgt := 1210) hx hb dL_law_44 (by omega) (by omega) (by rw [hc]; rfl) (by decide) ?_
        exact tL_law_1210 C hr hX hbl c0 s0 k28 kh28 S u1 u2 u3 u4 y5 p_u1 p_u2 p_u3 p_u4 P (lv_sub hl [0, 1, 2, 3, 4, 5] rfl) (by omega) (by omega) h0 hs0 hw
      · have hw := hw.2.2.2.2.2.2.2.2.2.2.2.2.2.2.2.2.2.2.2.2.1 hc
        refine lv_tableIn (tgt := 1254) hx hb dL_law_44 (by omega) (by omega) (by rw [hc]; rfl) (by decide) ?_
        exact tL_law_1254 C hr hX hbl c0 s0 k28 kh28 S u1 u2 u3 u4 y5 p_u1 p_u2 p_u3 p_u4 P (lv_sub hl [0, 1, 2, 3, 4, 5] rfl) (by omega) (by omega) h0 hs0 hw
      · have hw := hw.2.2.2.2.2.2.2.2.2.2.2.2.2.2.2.2.2.2.2.2.2.1 hc
        refine lv_tableIn (tgt := 1310) hx hb dL_law_44 (by omega) (by omega) (by rw [hc]; rfl) (by decide) ?_
        exact tL_law_1310 C hr hX hbl c0 s0 k28 kh28 S u1 u2 u3 u4 y5 p_u1 p_u2 p_u3 p_u4 P (lv_sub hl [0, 1, 2, 3, 4, 5] rfl) (by omega) (by omega) h0 hs0 hw
      · have hw := hw.2.2.2.2.2.2.2.2.2.2.2.2.2.2.2.2.2.2.2.2.2.2.1 hc
        refine lv_tableIn (tgt := 1366) hx hb dL_law_44 (by omega) (by omega) (by rw [hc]; rfl) (by decide) ?_
        exact tL_law_1366 C hr hX hbl c0 s0 k28 kh28 S u1 u2 u3 u4 y5 p_u1 p_u2 p_u3 p_u4 P (lv_sub hl [0, 1, 2, 3, 4, 5] rfl) (by omega) (by omega) h0 hs0 hw
      · have hw := hw.2.2.2.2.2.2.2.2.2.2.2.2.2.2.2.2.2.2.2.2.2.2.2.1 hc
        refine lv_tableIn (tgt := 1422) hx hb dL_law_44 (by omega) (by omega) (by rw [hc]; rfl) (by decide) ?_
        exact tL_law_1422 C hr hX hbl c0 s0 k28 kh28 S u1 u2 u3 u4 y5 p_u1 p_u2 p_u3 p_u4 P (lv_sub hl [0, 1, 2, 3, 4, 5] rfl) (by omega) (by omega) h0 hs0 hw
      · have hw := hw.2.2.2.2.2.2.2.2.2.2.2.2.2.2.2.2.2.2.2.2.2.2.2.2.1 hc
        refine lv_tableIn (tgt := 1466) hx hb dL_law_44 (by omega) (by omega) (by rw [hc]; rfl) (by decide) ?_
        exact tL_law_1466 C hr hX hbl c0 s0 k28 kh28 S u1 u2 u3 u4 y5 p_u1 p_u2 p_u3 p_u4 P (lv_sub hl [0, 1, 2, 3, 4, 5] rfl) (by omega) (by omega) h0 hs0 hw
      · have hw := hw.2.2.2.2.2.2.2.2.2.2.2.2.2.2.2.2.2.2.2.2.2.2.2.2.2.1 hc
        refine lv_tableIn (tgt := 1510) hx hb dL_law_44 (by omega) (by omega) (by rw [hc]; rfl) (by decide) ?_
        exact tL_law_1510 C hr hX hbl c0 s0 k28 kh28 S u1 u2 u3 u4 y5 p_u1 p_u2 p_u3 p_u4 P (lv_sub hl [0, 1, 2, 3, 4, 5] rfl) (by omega) (by omega) h0 hs0 hw
      · have hw := hw.2.2.2.2.2.2.2.2.2.2.2.2.2.2.2.2.2.2.2.2.2.2.2.2.2.2.1 hc
        refine lv_tableIn (tgt := 1554) hx hb dL_law_44 (by omega) (by omega) (by rw [hc]; rfl) (by decide) ?_
        exact tL_law_1554 C hr hX hbl c0 s0 k28 kh28 S u1 u2 u3 u4 y5 p_u1 p_u2 p_u3 p_u4 P (lv_sub hl [0, 1, 2, 3, 4, 5] rfl) (by omega) (by omega) h0 hs0 hw
      · have hw := hw.2.2.2.2.2.2.2.2.2.2.2.2.2.2.2.2.2.2.2.2.2.2.2.2.2.2.2.1 hc
        refine lv_tableIn (tgt := 1598) hx hb dL_law_44 (by omega) (by omega) (by rw [hc]; rfl) (by decide) ?_
        exact tL_law_1598 C hr hX hbl c0 s0 k28 kh28 S u1 u2 u3 u4 y5 p_u1 p_u2 p_u3 p_u4 P (lv_sub hl [0, 1, 2, 3, 4, 5] rfl) (by omega) (by omega) h0 hs0 hw
      · have hw := hw.2.2.2.2.2.2.2.2.2.2.2.2.2.2.2.2.2.2.2.2.2.2.2.2.2.2.2.2.1 hc
        refine lv_tableIn (tgt := 1611) hx hb dL_law_44 (by omega) (by omega) (by rw [hc]; rfl) (by decide) ?_
        exact tL_law_1611 C hr hX hbl c0 s0 k28 kh28 S u1 u2 u3 u4 y5 p_u1 p_u2 p_u3 p_u4 P (lv_sub hl [0, 1, 2, 3, 4, 5] rfl) (by omega) (by omega) h0 hs0 hw
      · have hw := hw.2.2.2.2.2.2.2.2.2.2.2.2.2.2.2.2.2.2.2.2.2.2.2.2.2.2.2.2.2.1 hc
        refine lv_tableIn (tgt := 1679) hx hb dL_law_44 (by omega) (by omega) (by rw [hc]; rfl) (by decide) ?_
        exact tL_law_1679 C hr hX hbl c0 s0 k28 kh28 S u1 u2 u3 u4 y5 p_u1 p_u2 p_u3 p_u4 P (lv_sub hl [0, 1, 2, 3, 4, 5] rfl) (by omega) (by omega) h0 hs0 hw
      · have hw := hw.2.2.2.2.2.2.2.2.2.2.2.2.2.2.2.2.2.2.2.2.2.2.2.2.2.2.2.2.2.2.1 hc
        refine lv_tableIn (tgt := 1692) hx hb dL_law_44 (by omega) (by omega) (by rw [hc]; rfl) (by decide) ?_
        exact tL_law_1692 C hr hX hbl c0 s0 k28 kh28 S u1 u2 u3 u4 y5 p_u1 p_u2 p_u3 p_u4 P (lv_sub hl [0, 1, 2, 3, 4, 5] rfl) (by omega) (by omega) h0 hs0 hw
      · have hw := hw.2.2.2.2.2.2.2.2.2.2.2.2.2.2.2.2.2.2.2.2.2.2.2.2.2.2.2.2.2.2.2.1 hc
        refine lv_tableIn (tgt := 1736) hx hb dL_law_44 (by omega) (by omega) (by rw [hc]; rfl) (by decide) ?_
        exact tL_law_1736 C hr hX hbl c0 s0 k28 kh28 S u1 u2 u3 u4 y5 p_u1 p_u2 p_u3 p_u4 P (lv_sub hl [0, 1, 2, 3, 4, 5] rfl) (by omega) (by omega) h0 hs0 hw
      · have hw := hw.2.2.2.2.2.2.2.2.2.2.2.2.2.2.2.2.2.2.2.2.2.2.2.2.2.2.2.2.2.2.2.2.1 hc
        refine lv_tableIn (tgt := 1787) hx hb dL_law_44 (by omega) (by omega) (by rw [hc]; rfl) (by decide) ?_
        exact tL_law_1787 C hr hX hbl c0 s0 k28 kh28 S u1 u2 u3 u4 y5 p_u1 p_u2 p_u3 p_u4 P (lv_sub hl [0, 1, 2, 3, 4, 5] rfl) (by omega) (by omega) h0 hs0 hw
      · have hw := hw.2.2.2.2.2.2.2.2.2.2.2.2.2.2.2.2.2.2.2.2.2.2.2.2.2.2.2.2.2.2.2.2.2.1 hc
        refine lv_tableIn (tgt := 1865) hx hb dL_law_44 (by omega) (by omega) (by rw [hc]; rfl) (by decide) ?_
        exact tL_law_1865 C hr hX hbl c0 s0 k28 kh28 S u1 u2 u3 u4 y5 p_u1 p_u2 p_u3 p_u4 P (lv_sub hl [0, 1, 2, 3, 4, 5] rfl) (by omega) (by omega) h0 hs0 hw
      · have hw := hw.2.2.2.2.2.2.2.2.2.2.2.2.2.2.2.2.2.2.2.2.2.2.2.2.2.2.2.2.2.2.2.2.2.2.1 hc
        refine lv_tableIn (tgt := 1949) hx hb dL_law_44 (by omega) (by omega) (by rw [hc]; rfl) (by decide) ?_
        exact tL_law_1949 C hr hX hbl c0 s0 k28 kh28 S u1 u2 u3 u4 y5 p_u1 p_u2 p_u3 p_u4 P (lv_sub hl [0, 1, 2, 3, 4, 5] rfl) (by omega) (by omega) h0 hs0 hw
      · have hw := hw.2.2.2.2.2.2.2.2.2.2.2.2.2.2.2.2.2.2.2.2.2.2.2.2.2.2.2.2.2.2.2.2.2.2.2.1 hc
        refine lv_tableIn (tgt := 2024) hx hb dL_law_44 (by omega) (by omega) (by rw [hc]; rfl) (by decide) ?_
        exact tL_law_2024 C hr hX hbl c0 s0 k28 kh28 S u1 u2 u3 u4 y5 p_u1 p_u2 p_u3 p_u4 P (lv_sub hl [0, 1, 2, 3, 4, 5] rfl) (by omega) (by omega) h0 hs0 hw
      · have hw := hw.2.2.2.2.2.2.2.2.2.2.2.2.2.2.2.2.2.2.2.2.2.2.2.2.2.2.2.2.2.2.2.2.2.2.2.2.1 hc
        refine lv_tableIn (tgt := 2092) hx hb dL_law_44 (by omega) (by omega) (by rw [hc]; rfl) (by decide) ?_
        exact tL_law_2092 C hr hX hbl c0 s0 k28 kh28 S u1 u2 u3 u4 y5 p_u1 p_u2 p_u3 p_u4 P (lv_sub hl [0, 1, 2, 3, 4, 5] rfl) (by omega) (by omega) h0 hs0 hw
      · have hw := hw.2.2.2.2.2.2.2.2.2.2.2.2.2.2.2.2.2.2.2.2.2.2.2.2.2.2.2.2.2.2.2.2.2.2.2.2.2 hc
        refine lv_tableIn (tgt := 2105) hx hb dL_law_44 (by omega) (by omega) (by rw [hc]; rfl) (by decide) ?_
        exact tL_law_2105 C hr hX hbl c0 s0 k28 kh28 S u1 u2 u3 u4 y5 p_u1 p_u2 p_u3 p_u4 P (lv_sub hl [0, 1, 2, 3, 4, 5] rfl) (by omega) (by omega) h0 hs0 hw
def lL_law_28 (L : Nat) (xs : Nat → Int32) : Nat → MS → Nat → Nat → Nat → Nat → Int32 → Prop
  | 0 => fun _ _ _ _ _ _ => False
  | n + 1 => fun S u1 u2 u3 u4 y5 => wL_law_28 L xs (lL_law_28 L xs n) S u1 u2 u3 u4 y5
theorem tlL_law_28 {p : Program} {l : Launch} {e : Env} {s : State} {m : MethodId} {below : List Frame} {meth : Method} {c : Code} {G : GP} {S0 : MS} {b L : Nat} {xs : Nat → Int32} (C : CF p l s m #[Value.ref b] meth c "SkirmishGridLaw" code 9 G (fun q => s.heap.size ≤ q)) (hr : meth.sig.returnType = ret) (hX : va_X b L xs s s.heap) (hbl : b < s.heap.size) : ∀ (n : Nat) (S : MS) (u1 : Nat) (u2 : Nat) (u3 : Nat) (u4 : Nat) (y5 : Int32) (cells slots : Nat) (H : Heap) (locs : List Loc) (ls : Array Slot), pI S 8 u1 → pI S 9 u2 → pI S 16 u3 → pI S 17 u4 → PW G (fun q => s.heap.size ≤ q) s H locs S0 S → lv_has ls 9 [(0, .ref b), (1, .ref u1), (2, .ref u2), (3, .ref u3), (4, .ref u4), (5, .int y5)] → cells + n * 5 ≤ 600006 → slots + n * 30 ≤ 7302056 → lL_law_28 L xs n S u1 u2 u3 u4 y5 → W p l e room_1 s m #[Value.ref b] below meth c H locs cells slots (lw_Z below #[Value.ref b] s) (F0 m 28 ls []) := by
  intro n
  induction n with
  | zero => intro S u1 u2 u3 u4 y5 cells slots H locs ls p_u1 p_u2 p_u3 p_u4 P hl hcc hss hw; exact hw.elim
  | succ n ih =>
    intro S u1 u2 u3 u4 y5 cells slots H locs ls p_u1 p_u2 p_u3 p_u4 P hl hcc hss hw
    exact tL_law_28 C hr hX hbl cells slots (lL_law_28 L xs n) (fun S u1 u2 u3 u4 y5 cells2 slots2 H locs ls p_u1 p_u2 p_u3 p_u4 P hl h1 h2 hw => ih S u1 u2 u3 u4 y5 cells2 slots2 H locs ls p_u1 p_u2 p_u3 p_u4 P hl (by omega) (by omega) hw) S u1 u2 u3 u4 y5 p_u1 p_u2 p_u3 p_u4 P hl (by omega) (by omega) (by omega) (by omega) hw
