theorem q_401 : Cond.methodLink "SkirmishGridLaw" 129 yL_append ∈ GW := gw_t 401 (by decide +kernel) (by decide +kernel)
theorem q_402 : Cond.static yL_append ∈ GW := gw_t 402 (by decide +kernel) (by decide +kernel)
theorem q_0 : Cond.initialized "SkirmishGridLaw" ∈ GW := gw_t 0 (by decide +kernel) (by decide +kernel)
theorem q_403 : Cond.codeWith yL_append cL_append 4 (some .int) [(0, 9, 12, 13), (0, 9, 15, 15)] ∈ GW := gw_t 403 (by decide +kernel) (by decide +kernel)
theorem q_1379 : Cond.methodLink "SkirmishGridLaw" 134 yX9_append ∈ GW := gw_t 1379 (by decide +kernel) (by decide +kernel)
theorem q_1380 : Cond.instanceMethod yX9_append ∈ GW := gw_t 1380 (by decide +kernel) (by decide +kernel)
theorem q_1381 : Cond.selects "SkirmishGridModel" yX9_append yX9_append ∈ GW := gw_t 1381 (by decide +kernel) (by decide +kernel)
theorem q_1382 : Cond.code yX9_append cX9_append 2 (some .int) ∈ GW := gw_t 1382 (by decide +kernel) (by decide +kernel)
theorem q_498 : Cond.methodLink "SkirmishGridLaw" 135 yL_load ∈ GW := gw_t 498 (by decide +kernel) (by decide +kernel)
theorem q_499 : Cond.static yL_load ∈ GW := gw_t 499 (by decide +kernel) (by decide +kernel)
theorem q_500 : Cond.codeWith yL_load cL_load 4 (some .int) [(0, 9, 12, 13), (0, 9, 15, 21)] ∈ GW := gw_t 500 (by decide +kernel) (by decide +kernel)
theorem q_1390 : Cond.methodLink "SkirmishGridLaw" 138 yX9_load ∈ GW := gw_t 1390 (by decide +kernel) (by decide +kernel)
theorem q_1391 : Cond.instanceMethod yX9_load ∈ GW := gw_t 1391 (by decide +kernel) (by decide +kernel)
theorem q_1392 : Cond.selects "SkirmishGridModel" yX9_load yX9_load ∈ GW := gw_t 1392 (by decide +kernel) (by decide +kernel)
theorem q_1393 : Cond.code yX9_load cX9_load 6 (some .int) ∈ GW := gw_t 1393 (by decide +kernel) (by decide +kernel)
theorem q_633 : Cond.methodLink "SkirmishGridLaw" 139 yL_errorPosition ∈ GW := gw_t 633 (by decide +kernel) (by decide +kernel)
theorem q_634 : Cond.static yL_errorPosition ∈ GW := gw_t 634 (by decide +kernel) (by decide +kernel)
theorem q_635 : Cond.codeWith yL_errorPosition cL_errorPosition 3 (some .int) [(0, 8, 11, 27)] ∈ GW := gw_t 635 (by decide +kernel) (by decide +kernel)
theorem q_1401 : Cond.methodLink "SkirmishGridLaw" 142 yX9_errorPosition ∈ GW := gw_t 1401 (by decide +kernel) (by decide +kernel)
theorem q_1402 : Cond.instanceMethod yX9_errorPosition ∈ GW := gw_t 1402 (by decide +kernel) (by decide +kernel)
theorem q_1403 : Cond.selects "SkirmishGridModel" yX9_errorPosition yX9_errorPosition ∈ GW := gw_t 1403 (by decide +kernel) (by decide +kernel)
theorem q_1404 : Cond.code yX9_errorPosition cX9_errorPosition 1 (some .int) ∈ GW := gw_t 1404 (by decide +kernel) (by decide +kernel)
theorem q_657 : Cond.methodLink "SkirmishGridLaw" 143 yL_terrain ∈ GW := gw_t 657 (by decide +kernel) (by decide +kernel)
theorem q_658 : Cond.static yL_terrain ∈ GW := gw_t 658 (by decide +kernel) (by decide +kernel)
theorem q_659 : Cond.codeWith yL_terrain cL_terrain 5 (some .int) [(0, 10, 13, 33)] ∈ GW := gw_t 659 (by decide +kernel) (by decide +kernel)
theorem q_1405 : Cond.methodLink "SkirmishGridLaw" 146 yX9_terrain ∈ GW := gw_t 1405 (by decide +kernel) (by decide +kernel)
theorem q_1406 : Cond.instanceMethod yX9_terrain ∈ GW := gw_t 1406 (by decide +kernel) (by decide +kernel)
theorem q_1407 : Cond.selects "SkirmishGridModel" yX9_terrain yX9_terrain ∈ GW := gw_t 1407 (by decide +kernel) (by decide +kernel)
theorem q_1408 : Cond.code yX9_terrain cX9_terrain 4 (some .char) ∈ GW := gw_t 1408 (by decide +kernel) (by decide +kernel)
theorem q_726 : Cond.methodLink "SkirmishGridLaw" 147 yL_isSeen ∈ GW := gw_t 726 (by decide +kernel) (by decide +kernel)
theorem q_727 : Cond.static yL_isSeen ∈ GW := gw_t 727 (by decide +kernel) (by decide +kernel)
theorem q_728 : Cond.codeWith yL_isSeen cL_isSeen 5 (some .int) [(0, 17, 20, 33)] ∈ GW := gw_t 728 (by decide +kernel) (by decide +kernel)
theorem q_1409 : Cond.methodLink "SkirmishGridLaw" 149 yX9_isSeen ∈ GW := gw_t 1409 (by decide +kernel) (by decide +kernel)
theorem q_1410 : Cond.instanceMethod yX9_isSeen ∈ GW := gw_t 1410 (by decide +kernel) (by decide +kernel)
theorem q_1411 : Cond.selects "SkirmishGridModel" yX9_isSeen yX9_isSeen ∈ GW := gw_t 1411 (by decide +kernel) (by decide +kernel)
theorem q_1412 : Cond.code yX9_isSeen cX9_isSeen 3 (some .boolean) ∈ GW := gw_t 1412 (by decide +kernel) (by decide +kernel)
theorem q_761 : Cond.methodLink "SkirmishGridLaw" 150 yL_cover ∈ GW := gw_t 761 (by decide +kernel) (by decide +kernel)
theorem q_762 : Cond.static yL_cover ∈ GW := gw_t 762 (by decide +kernel) (by decide +kernel)
theorem q_763 : Cond.codeWith yL_cover cL_cover 5 (some .int) [(0, 10, 13, 33)] ∈ GW := gw_t 763 (by decide +kernel) (by decide +kernel)
theorem q_1437 : Cond.methodLink "SkirmishGridLaw" 152 yX9_cover ∈ GW := gw_t 1437 (by decide +kernel) (by decide +kernel)
theorem q_1438 : Cond.instanceMethod yX9_cover ∈ GW := gw_t 1438 (by decide +kernel) (by decide +kernel)
theorem q_1439 : Cond.selects "SkirmishGridModel" yX9_cover yX9_cover ∈ GW := gw_t 1439 (by decide +kernel) (by decide +kernel)
theorem q_1440 : Cond.code yX9_cover cX9_cover 3 (some .int) ∈ GW := gw_t 1440 (by decide +kernel) (by decide +kernel)
theorem q_773 : Cond.methodLink "SkirmishGridLaw" 153 yL_addUnit ∈ GW := gw_t 773 (by decide +kernel) (by decide +kernel)
theorem q_774 : Cond.static yL_addUnit ∈ GW := gw_t 774 (by decide +kernel) (by decide +kernel)
theorem q_775 : Cond.codeWith yL_addUnit cL_addUnit 6 (some .int) [(0, 12, 15, 33), (0, 12, 19, 13), (0, 12, 23, 15)] ∈ GW := gw_t 775 (by decide +kernel) (by decide +kernel)
theorem q_1445 : Cond.methodLink "SkirmishGridLaw" 156 yX9_addUnit ∈ GW := gw_t 1445 (by decide +kernel) (by decide +kernel)
theorem q_1446 : Cond.instanceMethod yX9_addUnit ∈ GW := gw_t 1446 (by decide +kernel) (by decide +kernel)
theorem q_1447 : Cond.selects "SkirmishGridModel" yX9_addUnit yX9_addUnit ∈ GW := gw_t 1447 (by decide +kernel) (by decide +kernel)
theorem q_1448 : Cond.code yX9_addUnit cX9_addUnit 6 (some .int) ∈ GW := gw_t 1448 (by decide +kernel) (by decide +kernel)
theorem q_339 : Cond.methodLink "SkirmishGridLaw" 157 yX8_unitCount ∈ GW := gw_t 339 (by decide +kernel) (by decide +kernel)
theorem q_340 : Cond.instanceMethod yX8_unitCount ∈ GW := gw_t 340 (by decide +kernel) (by decide +kernel)
theorem q_341 : Cond.selects "SkirmishGrid" yX8_unitCount yX8_unitCount ∈ GW := gw_t 341 (by decide +kernel) (by decide +kernel)
theorem q_342 : Cond.code yX8_unitCount cX8_unitCount 1 (some .int) ∈ GW := gw_t 342 (by decide +kernel) (by decide +kernel)
theorem q_1472 : Cond.methodLink "SkirmishGridLaw" 160 yX9_unitCount ∈ GW := gw_t 1472 (by decide +kernel) (by decide +kernel)
theorem q_1473 : Cond.instanceMethod yX9_unitCount ∈ GW := gw_t 1473 (by decide +kernel) (by decide +kernel)
theorem q_1474 : Cond.selects "SkirmishGridModel" yX9_unitCount yX9_unitCount ∈ GW := gw_t 1474 (by decide +kernel) (by decide +kernel)
theorem q_1475 : Cond.code yX9_unitCount cX9_unitCount 1 (some .int) ∈ GW := gw_t 1475 (by decide +kernel) (by decide +kernel)
theorem q_805 : Cond.methodLink "SkirmishGridLaw" 161 yL_unit ∈ GW := gw_t 805 (by decide +kernel) (by decide +kernel)
theorem q_806 : Cond.static yL_unit ∈ GW := gw_t 806 (by decide +kernel) (by decide +kernel)
theorem q_807 : Cond.codeWith yL_unit cL_unit 5 (some .int) [(0, 10, 13, 33), (0, 10, 17, 13)] ∈ GW := gw_t 807 (by decide +kernel) (by decide +kernel)
theorem q_1476 : Cond.methodLink "SkirmishGridLaw" 163 yX9_unit ∈ GW := gw_t 1476 (by decide +kernel) (by decide +kernel)
theorem q_1477 : Cond.instanceMethod yX9_unit ∈ GW := gw_t 1477 (by decide +kernel) (by decide +kernel)
theorem q_1478 : Cond.selects "SkirmishGridModel" yX9_unit yX9_unit ∈ GW := gw_t 1478 (by decide +kernel) (by decide +kernel)
theorem q_1479 : Cond.code yX9_unit cX9_unit 3 (some .int) ∈ GW := gw_t 1479 (by decide +kernel) (by decide +kernel)
theorem q_822 : Cond.methodLink "SkirmishGridLaw" 164 yL_begin ∈ GW := gw_t 822 (by decide +kernel) (by decide +kernel)
theorem q_823 : Cond.static yL_begin ∈ GW := gw_t 823 (by decide +kernel) (by decide +kernel)
theorem q_824 : Cond.codeWith yL_begin cL_begin 3 (some .int) [(0, 8, 11, 15)] ∈ GW := gw_t 824 (by decide +kernel) (by decide +kernel)
theorem q_1508 : Cond.methodLink "SkirmishGridLaw" 166 yX9_begin ∈ GW := gw_t 1508 (by decide +kernel) (by decide +kernel)
theorem q_1509 : Cond.instanceMethod yX9_begin ∈ GW := gw_t 1509 (by decide +kernel) (by decide +kernel)
theorem q_1510 : Cond.selects "SkirmishGridModel" yX9_begin yX9_begin ∈ GW := gw_t 1510 (by decide +kernel) (by decide +kernel)
theorem q_1511 : Cond.code yX9_begin cX9_begin 1 (some .int) ∈ GW := gw_t 1511 (by decide +kernel) (by decide +kernel)
theorem q_343 : Cond.methodLink "SkirmishGridLaw" 167 yX8_condition ∈ GW := gw_t 343 (by decide +kernel) (by decide +kernel)
theorem q_344 : Cond.instanceMethod yX8_condition ∈ GW := gw_t 344 (by decide +kernel) (by decide +kernel)
theorem q_345 : Cond.selects "SkirmishGrid" yX8_condition yX8_condition ∈ GW := gw_t 345 (by decide +kernel) (by decide +kernel)
theorem q_346 : Cond.code yX8_condition cX8_condition 3 (some .int) ∈ GW := gw_t 346 (by decide +kernel) (by decide +kernel)
theorem q_1484 : Cond.methodLink "SkirmishGridLaw" 170 yX9_condition ∈ GW := gw_t 1484 (by decide +kernel) (by decide +kernel)
theorem q_1485 : Cond.instanceMethod yX9_condition ∈ GW := gw_t 1485 (by decide +kernel) (by decide +kernel)
theorem q_1486 : Cond.selects "SkirmishGridModel" yX9_condition yX9_condition ∈ GW := gw_t 1486 (by decide +kernel) (by decide +kernel)
theorem q_1487 : Cond.code yX9_condition cX9_condition 1 (some .int) ∈ GW := gw_t 1487 (by decide +kernel) (by decide +kernel)
theorem q_359 : Cond.methodLink "SkirmishGridLaw" 171 yX8_round ∈ GW := gw_t 359 (by decide +kernel) (by decide +kernel)
theorem q_360 : Cond.instanceMethod yX8_round ∈ GW := gw_t 360 (by decide +kernel) (by decide +kernel)
theorem q_361 : Cond.selects "SkirmishGrid" yX8_round yX8_round ∈ GW := gw_t 361 (by decide +kernel) (by decide +kernel)
theorem q_362 : Cond.code yX8_round cX8_round 1 (some .int) ∈ GW := gw_t 362 (by decide +kernel) (by decide +kernel)
theorem q_1496 : Cond.methodLink "SkirmishGridLaw" 174 yX9_round ∈ GW := gw_t 1496 (by decide +kernel) (by decide +kernel)
theorem q_1497 : Cond.instanceMethod yX9_round ∈ GW := gw_t 1497 (by decide +kernel) (by decide +kernel)
theorem q_1498 : Cond.selects "SkirmishGridModel" yX9_round yX9_round ∈ GW := gw_t 1498 (by decide +kernel) (by decide +kernel)
theorem q_1499 : Cond.code yX9_round cX9_round 1 (some .int) ∈ GW := gw_t 1499 (by decide +kernel) (by decide +kernel)
theorem q_871 : Cond.methodLink "SkirmishGridLaw" 175 yL_current ∈ GW := gw_t 871 (by decide +kernel) (by decide +kernel)
theorem q_872 : Cond.static yL_current ∈ GW := gw_t 872 (by decide +kernel) (by decide +kernel)
theorem q_873 : Cond.codeWith yL_current cL_current 3 (some .int) [(0, 8, 11, 27)] ∈ GW := gw_t 873 (by decide +kernel) (by decide +kernel)
theorem q_1500 : Cond.methodLink "SkirmishGridLaw" 177 yX9_current ∈ GW := gw_t 1500 (by decide +kernel) (by decide +kernel)
theorem q_1501 : Cond.instanceMethod yX9_current ∈ GW := gw_t 1501 (by decide +kernel) (by decide +kernel)
theorem q_1502 : Cond.selects "SkirmishGridModel" yX9_current yX9_current ∈ GW := gw_t 1502 (by decide +kernel) (by decide +kernel)
theorem q_1503 : Cond.code yX9_current cX9_current 1 (some .int) ∈ GW := gw_t 1503 (by decide +kernel) (by decide +kernel)
theorem q_883 : Cond.methodLink "SkirmishGridLaw" 178 yL_order ∈ GW := gw_t 883 (by decide +kernel) (by decide +kernel)
theorem q_884 : Cond.static yL_order ∈ GW := gw_t 884 (by decide +kernel) (by decide +kernel)
theorem q_885 : Cond.codeWith yL_order cL_order 4 (some .int) [(0, 9, 12, 27)] ∈ GW := gw_t 885 (by decide +kernel) (by decide +kernel)
theorem q_1504 : Cond.methodLink "SkirmishGridLaw" 180 yX9_order ∈ GW := gw_t 1504 (by decide +kernel) (by decide +kernel)
theorem q_1505 : Cond.instanceMethod yX9_order ∈ GW := gw_t 1505 (by decide +kernel) (by decide +kernel)
theorem q_1506 : Cond.selects "SkirmishGridModel" yX9_order yX9_order ∈ GW := gw_t 1506 (by decide +kernel) (by decide +kernel)
theorem q_1507 : Cond.code yX9_order cX9_order 2 (some .int) ∈ GW := gw_t 1507 (by decide +kernel) (by decide +kernel)
theorem q_891 : Cond.methodLink "SkirmishGridLaw" 181 yL_costs ∈ GW := gw_t 891 (by decide +kernel) (by decide +kernel)
theorem q_892 : Cond.static yL_costs ∈ GW := gw_t 892 (by decide +kernel) (by decide +kernel)
theorem q_893 : Cond.codeWith yL_costs cL_costs 4 (some .int) [(0, 9, 12, 33), (0, 9, 15, 21), (0, 9, 18, 27)] ∈ GW := gw_t 893 (by decide +kernel) (by decide +kernel)
theorem q_1552 : Cond.methodLink "SkirmishGridLaw" 183 yX9_costs ∈ GW := gw_t 1552 (by decide +kernel) (by decide +kernel)
theorem q_1553 : Cond.instanceMethod yX9_costs ∈ GW := gw_t 1553 (by decide +kernel) (by decide +kernel)
theorem q_1554 : Cond.selects "SkirmishGridModel" yX9_costs yX9_costs ∈ GW := gw_t 1554 (by decide +kernel) (by decide +kernel)
theorem q_1555 : Cond.code yX9_costs cX9_costs 3 (some .int) ∈ GW := gw_t 1555 (by decide +kernel) (by decide +kernel)
theorem q_937 : Cond.methodLink "SkirmishGridLaw" 184 yL_pathCell ∈ GW := gw_t 937 (by decide +kernel) (by decide +kernel)
theorem q_938 : Cond.static yL_pathCell ∈ GW := gw_t 938 (by decide +kernel) (by decide +kernel)
theorem q_939 : Cond.codeWith yL_pathCell cL_pathCell 5 (some .int) [(0, 10, 13, 33), (0, 10, 17, 21), (0, 10, 21, 27)] ∈ GW := gw_t 939 (by decide +kernel) (by decide +kernel)
theorem q_1580 : Cond.methodLink "SkirmishGridLaw" 186 yX9_pathCell ∈ GW := gw_t 1580 (by decide +kernel) (by decide +kernel)
theorem q_1581 : Cond.instanceMethod yX9_pathCell ∈ GW := gw_t 1581 (by decide +kernel) (by decide +kernel)
theorem q_1582 : Cond.selects "SkirmishGridModel" yX9_pathCell yX9_pathCell ∈ GW := gw_t 1582 (by decide +kernel) (by decide +kernel)
theorem q_1583 : Cond.code yX9_pathCell cX9_pathCell 5 (some .int) ∈ GW := gw_t 1583 (by decide +kernel) (by decide +kernel)
theorem q_950 : Cond.methodLink "SkirmishGridLaw" 187 yL_chance ∈ GW := gw_t 950 (by decide +kernel) (by decide +kernel)
theorem q_951 : Cond.static yL_chance ∈ GW := gw_t 951 (by decide +kernel) (by decide +kernel)
theorem q_952 : Cond.codeWith yL_chance cL_chance 5 (some .int) [(0, 9, 12, 33), (0, 9, 16, 13)] ∈ GW := gw_t 952 (by decide +kernel) (by decide +kernel)
theorem q_1588 : Cond.methodLink "SkirmishGridLaw" 190 yX9_chance ∈ GW := gw_t 1588 (by decide +kernel) (by decide +kernel)
theorem q_1589 : Cond.instanceMethod yX9_chance ∈ GW := gw_t 1589 (by decide +kernel) (by decide +kernel)
theorem q_1590 : Cond.selects "SkirmishGridModel" yX9_chance yX9_chance ∈ GW := gw_t 1590 (by decide +kernel) (by decide +kernel)
theorem q_1591 : Cond.code yX9_chance cX9_chance 5 (some .double) ∈ GW := gw_t 1591 (by decide +kernel) (by decide +kernel)
theorem q_989 : Cond.methodLink "SkirmishGridLaw" 191 yL_meanDamage ∈ GW := gw_t 989 (by decide +kernel) (by decide +kernel)
theorem q_990 : Cond.static yL_meanDamage ∈ GW := gw_t 990 (by decide +kernel) (by decide +kernel)
theorem q_991 : Cond.codeWith yL_meanDamage cL_meanDamage 5 (some .int) [(0, 9, 12, 33), (0, 9, 16, 13)] ∈ GW := gw_t 991 (by decide +kernel) (by decide +kernel)
theorem q_1609 : Cond.methodLink "SkirmishGridLaw" 193 yX9_meanDamage ∈ GW := gw_t 1609 (by decide +kernel) (by decide +kernel)
theorem q_1610 : Cond.instanceMethod yX9_meanDamage ∈ GW := gw_t 1610 (by decide +kernel) (by decide +kernel)
theorem q_1611 : Cond.selects "SkirmishGridModel" yX9_meanDamage yX9_meanDamage ∈ GW := gw_t 1611 (by decide +kernel) (by decide +kernel)
theorem q_1612 : Cond.code yX9_meanDamage cX9_meanDamage 3 (some .double) ∈ GW := gw_t 1612 (by decide +kernel) (by decide +kernel)
theorem q_1009 : Cond.methodLink "SkirmishGridLaw" 194 yL_bestTarget ∈ GW := gw_t 1009 (by decide +kernel) (by decide +kernel)
theorem q_1010 : Cond.static yL_bestTarget ∈ GW := gw_t 1010 (by decide +kernel) (by decide +kernel)
theorem q_1011 : Cond.codeWith yL_bestTarget cL_bestTarget 3 (some .int) [(0, 8, 11, 21), (0, 8, 14, 27)] ∈ GW := gw_t 1011 (by decide +kernel) (by decide +kernel)
theorem q_1622 : Cond.methodLink "SkirmishGridLaw" 196 yX9_bestTarget ∈ GW := gw_t 1622 (by decide +kernel) (by decide +kernel)
theorem q_1623 : Cond.instanceMethod yX9_bestTarget ∈ GW := gw_t 1623 (by decide +kernel) (by decide +kernel)
theorem q_1624 : Cond.selects "SkirmishGridModel" yX9_bestTarget yX9_bestTarget ∈ GW := gw_t 1624 (by decide +kernel) (by decide +kernel)
theorem q_1625 : Cond.code yX9_bestTarget cX9_bestTarget 5 (some .int) ∈ GW := gw_t 1625 (by decide +kernel) (by decide +kernel)
theorem q_1023 : Cond.methodLink "SkirmishGridLaw" 197 yL_move ∈ GW := gw_t 1023 (by decide +kernel) (by decide +kernel)
theorem q_1024 : Cond.static yL_move ∈ GW := gw_t 1024 (by decide +kernel) (by decide +kernel)
theorem q_1025 : Cond.codeWith yL_move cL_move 4 (some .int) [(0, 9, 12, 33), (0, 9, 15, 21), (0, 9, 18, 15), (0, 9, 21, 13)] ∈ GW := gw_t 1025 (by decide +kernel) (by decide +kernel)
theorem q_1626 : Cond.methodLink "SkirmishGridLaw" 199 yX9_move ∈ GW := gw_t 1626 (by decide +kernel) (by decide +kernel)
theorem q_1627 : Cond.instanceMethod yX9_move ∈ GW := gw_t 1627 (by decide +kernel) (by decide +kernel)
theorem q_1628 : Cond.selects "SkirmishGridModel" yX9_move yX9_move ∈ GW := gw_t 1628 (by decide +kernel) (by decide +kernel)
theorem q_1629 : Cond.code yX9_move cX9_move 3 (some .int) ∈ GW := gw_t 1629 (by decide +kernel) (by decide +kernel)
theorem q_1072 : Cond.methodLink "SkirmishGridLaw" 200 yL_attack ∈ GW := gw_t 1072 (by decide +kernel) (by decide +kernel)
theorem q_1073 : Cond.static yL_attack ∈ GW := gw_t 1073 (by decide +kernel) (by decide +kernel)
theorem q_1074 : Cond.codeWith yL_attack cL_attack 4 (some .int) [(0, 9, 12, 33), (0, 9, 15, 21), (0, 9, 18, 15), (0, 9, 21, 13)] ∈ GW := gw_t 1074 (by decide +kernel) (by decide +kernel)
theorem q_1670 : Cond.methodLink "SkirmishGridLaw" 202 yX9_attack ∈ GW := gw_t 1670 (by decide +kernel) (by decide +kernel)
theorem q_1671 : Cond.instanceMethod yX9_attack ∈ GW := gw_t 1671 (by decide +kernel) (by decide +kernel)
theorem q_1672 : Cond.selects "SkirmishGridModel" yX9_attack yX9_attack ∈ GW := gw_t 1672 (by decide +kernel) (by decide +kernel)
theorem q_1673 : Cond.code yX9_attack cX9_attack 2 (some .int) ∈ GW := gw_t 1673 (by decide +kernel) (by decide +kernel)
theorem q_1088 : Cond.methodLink "SkirmishGridLaw" 203 yL_throwAt ∈ GW := gw_t 1088 (by decide +kernel) (by decide +kernel)
theorem q_1089 : Cond.static yL_throwAt ∈ GW := gw_t 1089 (by decide +kernel) (by decide +kernel)
theorem q_1090 : Cond.codeWith yL_throwAt cL_throwAt 4 (some .int) [(0, 9, 12, 33), (0, 9, 15, 21), (0, 9, 18, 15), (0, 9, 21, 13)] ∈ GW := gw_t 1090 (by decide +kernel) (by decide +kernel)
theorem q_1674 : Cond.methodLink "SkirmishGridLaw" 205 yX9_throwAt ∈ GW := gw_t 1674 (by decide +kernel) (by decide +kernel)
theorem q_1675 : Cond.instanceMethod yX9_throwAt ∈ GW := gw_t 1675 (by decide +kernel) (by decide +kernel)
theorem q_1676 : Cond.selects "SkirmishGridModel" yX9_throwAt yX9_throwAt ∈ GW := gw_t 1676 (by decide +kernel) (by decide +kernel)
theorem q_1677 : Cond.code yX9_throwAt cX9_throwAt 3 (some .int) ∈ GW := gw_t 1677 (by decide +kernel) (by decide +kernel)
theorem q_1109 : Cond.methodLink "SkirmishGridLaw" 206 yL_guard ∈ GW := gw_t 1109 (by decide +kernel) (by decide +kernel)
theorem q_1110 : Cond.static yL_guard ∈ GW := gw_t 1110 (by decide +kernel) (by decide +kernel)
theorem q_1111 : Cond.codeWith yL_guard cL_guard 3 (some .int) [(0, 8, 11, 21), (0, 8, 14, 15)] ∈ GW := gw_t 1111 (by decide +kernel) (by decide +kernel)
theorem q_1678 : Cond.methodLink "SkirmishGridLaw" 208 yX9_guard ∈ GW := gw_t 1678 (by decide +kernel) (by decide +kernel)
theorem q_1679 : Cond.instanceMethod yX9_guard ∈ GW := gw_t 1679 (by decide +kernel) (by decide +kernel)
theorem q_1680 : Cond.selects "SkirmishGridModel" yX9_guard yX9_guard ∈ GW := gw_t 1680 (by decide +kernel) (by decide +kernel)
theorem q_1681 : Cond.code yX9_guard cX9_guard 1 (some .int) ∈ GW := gw_t 1681 (by decide +kernel) (by decide +kernel)
theorem q_1121 : Cond.methodLink "SkirmishGridLaw" 209 yL_watch ∈ GW := gw_t 1121 (by decide +kernel) (by decide +kernel)
theorem q_1122 : Cond.static yL_watch ∈ GW := gw_t 1122 (by decide +kernel) (by decide +kernel)
theorem q_1123 : Cond.codeWith yL_watch cL_watch 3 (some .int) [(0, 8, 11, 21), (0, 8, 14, 15)] ∈ GW := gw_t 1123 (by decide +kernel) (by decide +kernel)
theorem q_1686 : Cond.methodLink "SkirmishGridLaw" 211 yX9_watch ∈ GW := gw_t 1686 (by decide +kernel) (by decide +kernel)
theorem q_1687 : Cond.instanceMethod yX9_watch ∈ GW := gw_t 1687 (by decide +kernel) (by decide +kernel)
theorem q_1688 : Cond.selects "SkirmishGridModel" yX9_watch yX9_watch ∈ GW := gw_t 1688 (by decide +kernel) (by decide +kernel)
theorem q_1689 : Cond.code yX9_watch cX9_watch 1 (some .int) ∈ GW := gw_t 1689 (by decide +kernel) (by decide +kernel)
theorem q_1132 : Cond.methodLink "SkirmishGridLaw" 212 yL_reload ∈ GW := gw_t 1132 (by decide +kernel) (by decide +kernel)
theorem q_1133 : Cond.static yL_reload ∈ GW := gw_t 1133 (by decide +kernel) (by decide +kernel)
theorem q_1134 : Cond.codeWith yL_reload cL_reload 3 (some .int) [(0, 8, 11, 21), (0, 8, 14, 15)] ∈ GW := gw_t 1134 (by decide +kernel) (by decide +kernel)
theorem q_1690 : Cond.methodLink "SkirmishGridLaw" 214 yX9_reload ∈ GW := gw_t 1690 (by decide +kernel) (by decide +kernel)
theorem q_1691 : Cond.instanceMethod yX9_reload ∈ GW := gw_t 1691 (by decide +kernel) (by decide +kernel)
theorem q_1692 : Cond.selects "SkirmishGridModel" yX9_reload yX9_reload ∈ GW := gw_t 1692 (by decide +kernel) (by decide +kernel)
theorem q_1693 : Cond.code yX9_reload cX9_reload 1 (some .int) ∈ GW := gw_t 1693 (by decide +kernel) (by decide +kernel)
theorem q_1144 : Cond.methodLink "SkirmishGridLaw" 215 yL_endTurn ∈ GW := gw_t 1144 (by decide +kernel) (by decide +kernel)
theorem q_1145 : Cond.static yL_endTurn ∈ GW := gw_t 1145 (by decide +kernel) (by decide +kernel)
theorem q_1146 : Cond.codeWith yL_endTurn cL_endTurn 3 (some .int) [(0, 8, 11, 21)] ∈ GW := gw_t 1146 (by decide +kernel) (by decide +kernel)
theorem q_1694 : Cond.methodLink "SkirmishGridLaw" 217 yX9_endTurn ∈ GW := gw_t 1694 (by decide +kernel) (by decide +kernel)
theorem q_1695 : Cond.instanceMethod yX9_endTurn ∈ GW := gw_t 1695 (by decide +kernel) (by decide +kernel)
theorem q_1696 : Cond.selects "SkirmishGridModel" yX9_endTurn yX9_endTurn ∈ GW := gw_t 1696 (by decide +kernel) (by decide +kernel)
theorem q_1697 : Cond.code yX9_endTurn cX9_endTurn 1 (some .int) ∈ GW := gw_t 1697 (by decide +kernel) (by decide +kernel)
theorem q_363 : Cond.methodLink "SkirmishGridLaw" 218 yX8_eventCount ∈ GW := gw_t 363 (by decide +kernel) (by decide +kernel)
theorem q_364 : Cond.instanceMethod yX8_eventCount ∈ GW := gw_t 364 (by decide +kernel) (by decide +kernel)
theorem q_365 : Cond.selects "SkirmishGrid" yX8_eventCount yX8_eventCount ∈ GW := gw_t 365 (by decide +kernel) (by decide +kernel)
theorem q_366 : Cond.code yX8_eventCount cX8_eventCount 1 (some .int) ∈ GW := gw_t 366 (by decide +kernel) (by decide +kernel)
theorem q_1698 : Cond.methodLink "SkirmishGridLaw" 221 yX9_eventCount ∈ GW := gw_t 1698 (by decide +kernel) (by decide +kernel)
theorem q_1699 : Cond.instanceMethod yX9_eventCount ∈ GW := gw_t 1699 (by decide +kernel) (by decide +kernel)
theorem q_1700 : Cond.selects "SkirmishGridModel" yX9_eventCount yX9_eventCount ∈ GW := gw_t 1700 (by decide +kernel) (by decide +kernel)
theorem q_1701 : Cond.code yX9_eventCount cX9_eventCount 1 (some .int) ∈ GW := gw_t 1701 (by decide +kernel) (by decide +kernel)
theorem q_1159 : Cond.methodLink "SkirmishGridLaw" 222 yL_event ∈ GW := gw_t 1159 (by decide +kernel) (by decide +kernel)
theorem q_1160 : Cond.static yL_event ∈ GW := gw_t 1160 (by decide +kernel) (by decide +kernel)
theorem q_1161 : Cond.codeWith yL_event cL_event 5 (some .int) [(0, 10, 13, 33)] ∈ GW := gw_t 1161 (by decide +kernel) (by decide +kernel)
theorem q_1702 : Cond.methodLink "SkirmishGridLaw" 224 yX9_event ∈ GW := gw_t 1702 (by decide +kernel) (by decide +kernel)
theorem q_1703 : Cond.instanceMethod yX9_event ∈ GW := gw_t 1703 (by decide +kernel) (by decide +kernel)
theorem q_1704 : Cond.selects "SkirmishGridModel" yX9_event yX9_event ∈ GW := gw_t 1704 (by decide +kernel) (by decide +kernel)
theorem q_1705 : Cond.code yX9_event cX9_event 3 (some .int) ∈ GW := gw_t 1705 (by decide +kernel) (by decide +kernel)
theorem q_367 : Cond.methodLink "SkirmishGridLaw" 225 yX8_commandCount ∈ GW := gw_t 367 (by decide +kernel) (by decide +kernel)
theorem q_368 : Cond.instanceMethod yX8_commandCount ∈ GW := gw_t 368 (by decide +kernel) (by decide +kernel)
theorem q_369 : Cond.selects "SkirmishGrid" yX8_commandCount yX8_commandCount ∈ GW := gw_t 369 (by decide +kernel) (by decide +kernel)
theorem q_370 : Cond.code yX8_commandCount cX8_commandCount 1 (some .int) ∈ GW := gw_t 370 (by decide +kernel) (by decide +kernel)
theorem q_1706 : Cond.methodLink "SkirmishGridLaw" 228 yX9_commandCount ∈ GW := gw_t 1706 (by decide +kernel) (by decide +kernel)
theorem q_1707 : Cond.instanceMethod yX9_commandCount ∈ GW := gw_t 1707 (by decide +kernel) (by decide +kernel)
theorem q_1708 : Cond.selects "SkirmishGridModel" yX9_commandCount yX9_commandCount ∈ GW := gw_t 1708 (by decide +kernel) (by decide +kernel)
theorem q_1709 : Cond.code yX9_commandCount cX9_commandCount 1 (some .int) ∈ GW := gw_t 1709 (by decide +kernel) (by decide +kernel)
theorem q_1171 : Cond.methodLink "SkirmishGridLaw" 229 yL_undo ∈ GW := gw_t 1171 (by decide +kernel) (by decide +kernel)
theorem q_1172 : Cond.static yL_undo ∈ GW := gw_t 1172 (by decide +kernel) (by decide +kernel)
theorem q_1173 : Cond.codeWith yL_undo cL_undo 3 (some .int) [(0, 8, 11, 15)] ∈ GW := gw_t 1173 (by decide +kernel) (by decide +kernel)
theorem q_1710 : Cond.methodLink "SkirmishGridLaw" 231 yX9_undo ∈ GW := gw_t 1710 (by decide +kernel) (by decide +kernel)
theorem q_1711 : Cond.instanceMethod yX9_undo ∈ GW := gw_t 1711 (by decide +kernel) (by decide +kernel)
theorem q_1712 : Cond.selects "SkirmishGridModel" yX9_undo yX9_undo ∈ GW := gw_t 1712 (by decide +kernel) (by decide +kernel)
theorem q_1713 : Cond.code yX9_undo cX9_undo 2 (some .int) ∈ GW := gw_t 1713 (by decide +kernel) (by decide +kernel)
theorem q_1187 : Cond.methodLink "SkirmishGridLaw" 232 yL_isReplayed ∈ GW := gw_t 1187 (by decide +kernel) (by decide +kernel)
theorem q_1188 : Cond.static yL_isReplayed ∈ GW := gw_t 1188 (by decide +kernel) (by decide +kernel)
theorem q_1189 : Cond.codeWith yL_isReplayed cL_isReplayed 3 (some .int) [(0, 15, 18, 15)] ∈ GW := gw_t 1189 (by decide +kernel) (by decide +kernel)
theorem q_1714 : Cond.methodLink "SkirmishGridLaw" 234 yX9_isReplayed ∈ GW := gw_t 1714 (by decide +kernel) (by decide +kernel)
theorem q_1715 : Cond.instanceMethod yX9_isReplayed ∈ GW := gw_t 1715 (by decide +kernel) (by decide +kernel)
theorem q_1716 : Cond.selects "SkirmishGridModel" yX9_isReplayed yX9_isReplayed ∈ GW := gw_t 1716 (by decide +kernel) (by decide +kernel)
theorem q_1717 : Cond.code yX9_isReplayed cX9_isReplayed 3 (some .boolean) ∈ GW := gw_t 1717 (by decide +kernel) (by decide +kernel)
theorem q_1224 : Cond.methodLink "SkirmishGridLaw" 235 yL_meanHealth ∈ GW := gw_t 1224 (by decide +kernel) (by decide +kernel)
theorem q_1225 : Cond.static yL_meanHealth ∈ GW := gw_t 1225 (by decide +kernel) (by decide +kernel)
theorem q_1226 : Cond.codeWith yL_meanHealth cL_meanHealth 4 (some .int) [(0, 9, 12, 33), (0, 9, 15, 110)] ∈ GW := gw_t 1226 (by decide +kernel) (by decide +kernel)
theorem q_1718 : Cond.methodLink "SkirmishGridLaw" 238 yX9_meanHealth ∈ GW := gw_t 1718 (by decide +kernel) (by decide +kernel)
theorem q_1719 : Cond.instanceMethod yX9_meanHealth ∈ GW := gw_t 1719 (by decide +kernel) (by decide +kernel)
theorem q_1720 : Cond.selects "SkirmishGridModel" yX9_meanHealth yX9_meanHealth ∈ GW := gw_t 1720 (by decide +kernel) (by decide +kernel)
theorem q_1721 : Cond.code yX9_meanHealth cX9_meanHealth 5 (some .float) ∈ GW := gw_t 1721 (by decide +kernel) (by decide +kernel)
theorem q_1722 : Cond.methodLink "SkirmishGridLaw" 242 yX9_storeHealths ∈ GW := gw_t 1722 (by decide +kernel) (by decide +kernel)
theorem q_1723 : Cond.instanceMethod yX9_storeHealths ∈ GW := gw_t 1723 (by decide +kernel) (by decide +kernel)
theorem q_1724 : Cond.selects "SkirmishGridModel" yX9_storeHealths yX9_storeHealths ∈ GW := gw_t 1724 (by decide +kernel) (by decide +kernel)
theorem q_1725 : Cond.code yX9_storeHealths cX9_storeHealths 4 (some .int) ∈ GW := gw_t 1725 (by decide +kernel) (by decide +kernel)
theorem q_1248 : Cond.methodLink "SkirmishGridLaw" 239 yL_storeHealths ∈ GW := gw_t 1248 (by decide +kernel) (by decide +kernel)
theorem q_1249 : Cond.static yL_storeHealths ∈ GW := gw_t 1249 (by decide +kernel) (by decide +kernel)
theorem q_1250 : Cond.codeWith yL_storeHealths cL_storeHealths 5 (some .int) [(0, 10, 13, 33)] ∈ GW := gw_t 1250 (by decide +kernel) (by decide +kernel)
theorem q_1265 : Cond.methodLink "SkirmishGridLaw" 243 yL_copyHealths ∈ GW := gw_t 1265 (by decide +kernel) (by decide +kernel)
theorem q_1266 : Cond.static yL_copyHealths ∈ GW := gw_t 1266 (by decide +kernel) (by decide +kernel)
theorem q_1267 : Cond.codeWith yL_copyHealths cL_copyHealths 5 (some .int) [(0, 17, 20, 33), (0, 17, 24, 27), (0, 17, 28, 21), (0, 17, 32, 13)] ∈ GW := gw_t 1267 (by decide +kernel) (by decide +kernel)
theorem q_1726 : Cond.methodLink "SkirmishGridLaw" 245 yX9_copyHealths ∈ GW := gw_t 1726 (by decide +kernel) (by decide +kernel)
theorem q_1727 : Cond.instanceMethod yX9_copyHealths ∈ GW := gw_t 1727 (by decide +kernel) (by decide +kernel)
theorem q_1728 : Cond.selects "SkirmishGridModel" yX9_copyHealths yX9_copyHealths ∈ GW := gw_t 1728 (by decide +kernel) (by decide +kernel)
theorem q_1729 : Cond.code yX9_copyHealths cX9_copyHealths 7 (some .boolean) ∈ GW := gw_t 1729 (by decide +kernel) (by decide +kernel)
theorem q_1279 : Cond.methodLink "SkirmishGridLaw" 246 yL_storedBits ∈ GW := gw_t 1279 (by decide +kernel) (by decide +kernel)
theorem q_1280 : Cond.static yL_storedBits ∈ GW := gw_t 1280 (by decide +kernel) (by decide +kernel)
theorem q_1281 : Cond.codeWith yL_storedBits cL_storedBits 5 (some .int) [(0, 10, 13, 33), (0, 10, 17, 27)] ∈ GW := gw_t 1281 (by decide +kernel) (by decide +kernel)
theorem q_1730 : Cond.methodLink "SkirmishGridLaw" 248 yX9_storedBits ∈ GW := gw_t 1730 (by decide +kernel) (by decide +kernel)
theorem q_1731 : Cond.instanceMethod yX9_storedBits ∈ GW := gw_t 1731 (by decide +kernel) (by decide +kernel)
theorem q_1732 : Cond.selects "SkirmishGridModel" yX9_storedBits yX9_storedBits ∈ GW := gw_t 1732 (by decide +kernel) (by decide +kernel)
theorem q_1733 : Cond.code yX9_storedBits cX9_storedBits 3 (some .int) ∈ GW := gw_t 1733 (by decide +kernel) (by decide +kernel)
theorem q_371 : Cond.methodLink "SkirmishGridLaw" 249 yX8_snapshot ∈ GW := gw_t 371 (by decide +kernel) (by decide +kernel)
theorem q_372 : Cond.instanceMethod yX8_snapshot ∈ GW := gw_t 372 (by decide +kernel) (by decide +kernel)
theorem q_373 : Cond.selects "SkirmishGrid" yX8_snapshot yX8_snapshot ∈ GW := gw_t 373 (by decide +kernel) (by decide +kernel)
theorem q_374 : Cond.code yX8_snapshot cX8_snapshot 1 (some .int) ∈ GW := gw_t 374 (by decide +kernel) (by decide +kernel)
theorem q_1744 : Cond.methodLink "SkirmishGridLaw" 252 yX9_snapshot ∈ GW := gw_t 1744 (by decide +kernel) (by decide +kernel)
theorem q_1745 : Cond.instanceMethod yX9_snapshot ∈ GW := gw_t 1745 (by decide +kernel) (by decide +kernel)
theorem q_1746 : Cond.selects "SkirmishGridModel" yX9_snapshot yX9_snapshot ∈ GW := gw_t 1746 (by decide +kernel) (by decide +kernel)
theorem q_1747 : Cond.code yX9_snapshot cX9_snapshot 1 (some .int) ∈ GW := gw_t 1747 (by decide +kernel) (by decide +kernel)
theorem q_1291 : Cond.methodLink "SkirmishGridLaw" 253 yL_restore ∈ GW := gw_t 1291 (by decide +kernel) (by decide +kernel)
theorem q_1292 : Cond.static yL_restore ∈ GW := gw_t 1292 (by decide +kernel) (by decide +kernel)
theorem q_1293 : Cond.codeWith yL_restore cL_restore 3 (some .int) [(0, 8, 11, 15)] ∈ GW := gw_t 1293 (by decide +kernel) (by decide +kernel)
theorem q_1748 : Cond.methodLink "SkirmishGridLaw" 255 yX9_restore ∈ GW := gw_t 1748 (by decide +kernel) (by decide +kernel)
theorem q_1749 : Cond.instanceMethod yX9_restore ∈ GW := gw_t 1749 (by decide +kernel) (by decide +kernel)
theorem q_1750 : Cond.selects "SkirmishGridModel" yX9_restore yX9_restore ∈ GW := gw_t 1750 (by decide +kernel) (by decide +kernel)
theorem q_1751 : Cond.code yX9_restore cX9_restore 1 (some .int) ∈ GW := gw_t 1751 (by decide +kernel) (by decide +kernel)
theorem q_1375 : Cond.methodLink "SkirmishGridLaw" 256 yX9_thrown ∈ GW := gw_t 1375 (by decide +kernel) (by decide +kernel)
theorem q_1376 : Cond.instanceMethod yX9_thrown ∈ GW := gw_t 1376 (by decide +kernel) (by decide +kernel)
theorem q_1377 : Cond.selects "SkirmishGridModel" yX9_thrown yX9_thrown ∈ GW := gw_t 1377 (by decide +kernel) (by decide +kernel)
theorem q_1378 : Cond.code yX9_thrown cX9_thrown 1 (some .int) ∈ GW := gw_t 1378 (by decide +kernel) (by decide +kernel)
theorem q_30 : Cond.classLink "SkirmishGridLaw" 8 "SkirmishGrid" ∈ GW := gw_t 30 (by decide +kernel) (by decide +kernel)
theorem q_31 : Cond.instantiable "SkirmishGrid" 13 ∈ GW := gw_t 31 (by decide +kernel) (by decide +kernel)
theorem q_32 : Cond.methodLink "SkirmishGridLaw" 125 yX8_init ∈ GW := gw_t 32 (by decide +kernel) (by decide +kernel)
theorem q_33 : Cond.instanceMethod yX8_init ∈ GW := gw_t 33 (by decide +kernel) (by decide +kernel)
theorem q_34 : Cond.code yX8_init cX8_init 1 none ∈ GW := gw_t 34 (by decide +kernel) (by decide +kernel)
theorem q_1299 : Cond.classLink "SkirmishGridLaw" 126 "SkirmishGridModel" ∈ GW := gw_t 1299 (by decide +kernel) (by decide +kernel)
theorem q_1300 : Cond.instantiable "SkirmishGridModel" 23 ∈ GW := gw_t 1300 (by decide +kernel) (by decide +kernel)
theorem q_1301 : Cond.methodLink "SkirmishGridLaw" 128 yX9_init ∈ GW := gw_t 1301 (by decide +kernel) (by decide +kernel)
theorem q_1302 : Cond.instanceMethod yX9_init ∈ GW := gw_t 1302 (by decide +kernel) (by decide +kernel)
theorem q_1303 : Cond.code yX9_init cX9_init 1 none ∈ GW := gw_t 1303 (by decide +kernel) (by decide +kernel)
theorem q_1752 : Cond.arrayClass .long ∈ GW := gw_t 1752 (by decide +kernel) (by decide +kernel)
theorem q_1753 : Cond.arrayClass .double ∈ GW := gw_t 1753 (by decide +kernel) (by decide +kernel)
theorem dL_law_0 : decode cL_law 0 = .ok (.new 8, 3) := by decide +kernel
theorem dL_law_3 : decode cL_law 3 = .ok (.dup, 1) := by decide +kernel
theorem dL_law_4 : decode cL_law 4 = .ok (.invokespecial 125, 3) := by decide +kernel
theorem dL_law_7 : decode cL_law 7 = .ok (.astore_n 1, 1) := by decide +kernel
theorem dL_law_8 : decode cL_law 8 = .ok (.new 126, 3) := by decide +kernel
theorem dL_law_11 : decode cL_law 11 = .ok (.dup, 1) := by decide +kernel
theorem dL_law_12 : decode cL_law 12 = .ok (.invokespecial 128, 3) := by decide +kernel
theorem dL_law_15 : decode cL_law 15 = .ok (.astore_n 2, 1) := by decide +kernel
theorem dL_law_16 : decode cL_law 16 = .ok (.iconst 1, 1) := by decide +kernel
theorem dL_law_17 : decode cL_law 17 = .ok (.newarray .long, 2) := by decide +kernel
theorem dL_law_19 : decode cL_law 19 = .ok (.astore_n 3, 1) := by decide +kernel
theorem dL_law_20 : decode cL_law 20 = .ok (.iconst 1, 1) := by decide +kernel
theorem dL_law_21 : decode cL_law 21 = .ok (.newarray .double, 2) := by decide +kernel
theorem dL_law_23 : decode cL_law 23 = .ok (.astore 4, 2) := by decide +kernel
theorem dL_law_25 : decode cL_law 25 = .ok (.iconst 0, 1) := by decide +kernel
theorem dL_law_26 : decode cL_law 26 = .ok (.istore 5, 2) := by decide +kernel
theorem dL_law_28 : decode cL_law 28 = .ok (.iload 5, 2) := by decide +kernel
theorem dL_law_30 : decode cL_law 30 = .ok (.aload_n 0, 1) := by decide +kernel
theorem dL_law_31 : decode cL_law 31 = .ok (.arraylength, 1) := by decide +kernel
theorem dL_law_32 : decode cL_law 32 = .ok (.iconst 4, 1) := by decide +kernel
theorem dL_law_33 : decode cL_law 33 = .ok (.isub, 1) := by decide +kernel
theorem dL_law_34 : decode cL_law 34 = .ok (.if_icmp .gt 1199, 3) := by decide +kernel
theorem dL_law_37 : decode cL_law 37 = .ok (.aload_n 0, 1) := by decide +kernel
theorem dL_law_38 : decode cL_law 38 = .ok (.iload 5, 2) := by decide +kernel
theorem dL_law_40 : decode cL_law 40 = .ok (.iaload, 1) := by decide +kernel
theorem dL_law_41 : decode cL_law 41 = .ok (.bipush 63, 2) := by decide +kernel
theorem dL_law_43 : decode cL_law 43 = .ok (.iand, 1) := by decide +kernel
theorem dL_law_44 : decode cL_law 44 = .ok (.tableswitch 1183 0 36 #[164, 194, 222, 238, 278, 318, 358, 410, 423, 463, 479, 492, 505, 521, 549, 577, 617, 658, 699, 715, 743, 771, 799, 815, 831, 847, 863, 876, 916, 929, 945, 961, 990, 1046, 1086, 1126, 1139], 164) := by decide +kernel
theorem dL_law_208 : decode cL_law 208 = .ok (.aload_n 1, 1) := by decide +kernel
theorem dL_law_209 : decode cL_law 209 = .ok (.aload_n 0, 1) := by decide +kernel
theorem dL_law_210 : decode cL_law 210 = .ok (.iload 5, 2) := by decide +kernel
theorem dL_law_212 : decode cL_law 212 = .ok (.iconst 1, 1) := by decide +kernel
theorem dL_law_213 : decode cL_law 213 = .ok (.iadd, 1) := by decide +kernel
theorem dL_law_214 : decode cL_law 214 = .ok (.iaload, 1) := by decide +kernel
theorem dL_law_215 : decode cL_law 215 = .ok (.i2c, 1) := by decide +kernel
theorem dL_law_216 : decode cL_law 216 = .ok (.aload_n 3, 1) := by decide +kernel
theorem dL_law_217 : decode cL_law 217 = .ok (.invokestatic 129, 3) := by decide +kernel
theorem dL_law_220 : decode cL_law 220 = .ok (.istore 6, 2) := by decide +kernel
theorem dL_law_222 : decode cL_law 222 = .ok (.aload_n 2, 1) := by decide +kernel
theorem dL_law_223 : decode cL_law 223 = .ok (.aload_n 0, 1) := by decide +kernel
theorem dL_law_224 : decode cL_law 224 = .ok (.iload 5, 2) := by decide +kernel
theorem dL_law_226 : decode cL_law 226 = .ok (.iconst 1, 1) := by decide +kernel
theorem dL_law_227 : decode cL_law 227 = .ok (.iadd, 1) := by decide +kernel
theorem dL_law_228 : decode cL_law 228 = .ok (.iaload, 1) := by decide +kernel
theorem dL_law_229 : decode cL_law 229 = .ok (.i2c, 1) := by decide +kernel
theorem dL_law_230 : decode cL_law 230 = .ok (.invokevirtual 134, 3) := by decide +kernel
theorem dL_law_233 : decode cL_law 233 = .ok (.istore 7, 2) := by decide +kernel
theorem dL_law_235 : decode cL_law 235 = .ok (.goto 992, 3) := by decide +kernel
theorem dL_law_238 : decode cL_law 238 = .ok (.aload_n 1, 1) := by decide +kernel
theorem dL_law_239 : decode cL_law 239 = .ok (.aload_n 0, 1) := by decide +kernel
theorem dL_law_240 : decode cL_law 240 = .ok (.iload 5, 2) := by decide +kernel
theorem dL_law_242 : decode cL_law 242 = .ok (.iconst 1, 1) := by decide +kernel
theorem dL_law_243 : decode cL_law 243 = .ok (.iadd, 1) := by decide +kernel
theorem dL_law_244 : decode cL_law 244 = .ok (.iaload, 1) := by decide +kernel
theorem dL_law_245 : decode cL_law 245 = .ok (.aload_n 3, 1) := by decide +kernel
theorem dL_law_246 : decode cL_law 246 = .ok (.invokestatic 135, 3) := by decide +kernel
theorem dL_law_249 : decode cL_law 249 = .ok (.istore 6, 2) := by decide +kernel
theorem dL_law_251 : decode cL_law 251 = .ok (.aload_n 2, 1) := by decide +kernel
theorem dL_law_252 : decode cL_law 252 = .ok (.aload_n 0, 1) := by decide +kernel
theorem dL_law_253 : decode cL_law 253 = .ok (.iload 5, 2) := by decide +kernel
theorem dL_law_255 : decode cL_law 255 = .ok (.iconst 1, 1) := by decide +kernel
theorem dL_law_256 : decode cL_law 256 = .ok (.iadd, 1) := by decide +kernel
theorem dL_law_257 : decode cL_law 257 = .ok (.iaload, 1) := by decide +kernel
theorem dL_law_258 : decode cL_law 258 = .ok (.invokevirtual 138, 3) := by decide +kernel
theorem dL_law_261 : decode cL_law 261 = .ok (.istore 7, 2) := by decide +kernel
theorem dL_law_263 : decode cL_law 263 = .ok (.goto 964, 3) := by decide +kernel
theorem dL_law_266 : decode cL_law 266 = .ok (.aload_n 1, 1) := by decide +kernel
theorem dL_law_267 : decode cL_law 267 = .ok (.aload_n 3, 1) := by decide +kernel
theorem dL_law_268 : decode cL_law 268 = .ok (.invokestatic 139, 3) := by decide +kernel
theorem dL_law_271 : decode cL_law 271 = .ok (.istore 6, 2) := by decide +kernel
theorem dL_law_273 : decode cL_law 273 = .ok (.aload_n 2, 1) := by decide +kernel
theorem dL_law_274 : decode cL_law 274 = .ok (.invokevirtual 142, 3) := by decide +kernel
theorem dL_law_277 : decode cL_law 277 = .ok (.istore 7, 2) := by decide +kernel
theorem dL_law_279 : decode cL_law 279 = .ok (.goto 948, 3) := by decide +kernel
theorem dL_law_282 : decode cL_law 282 = .ok (.aload_n 1, 1) := by decide +kernel
theorem dL_law_283 : decode cL_law 283 = .ok (.aload_n 0, 1) := by decide +kernel
theorem dL_law_284 : decode cL_law 284 = .ok (.iload 5, 2) := by decide +kernel
theorem dL_law_286 : decode cL_law 286 = .ok (.iconst 1, 1) := by decide +kernel
theorem dL_law_287 : decode cL_law 287 = .ok (.iadd, 1) := by decide +kernel
theorem dL_law_288 : decode cL_law 288 = .ok (.iaload, 1) := by decide +kernel
theorem dL_law_289 : decode cL_law 289 = .ok (.aload_n 0, 1) := by decide +kernel
theorem dL_law_290 : decode cL_law 290 = .ok (.iload 5, 2) := by decide +kernel
theorem dL_law_292 : decode cL_law 292 = .ok (.iconst 2, 1) := by decide +kernel
theorem dL_law_293 : decode cL_law 293 = .ok (.iadd, 1) := by decide +kernel
theorem dL_law_294 : decode cL_law 294 = .ok (.iaload, 1) := by decide +kernel
theorem dL_law_295 : decode cL_law 295 = .ok (.aload_n 3, 1) := by decide +kernel
theorem dL_law_296 : decode cL_law 296 = .ok (.invokestatic 143, 3) := by decide +kernel
theorem dL_law_299 : decode cL_law 299 = .ok (.istore 6, 2) := by decide +kernel
theorem dL_law_301 : decode cL_law 301 = .ok (.aload_n 2, 1) := by decide +kernel
theorem dL_law_302 : decode cL_law 302 = .ok (.aload_n 0, 1) := by decide +kernel
theorem dL_law_303 : decode cL_law 303 = .ok (.iload 5, 2) := by decide +kernel
theorem dL_law_305 : decode cL_law 305 = .ok (.iconst 1, 1) := by decide +kernel
theorem dL_law_306 : decode cL_law 306 = .ok (.iadd, 1) := by decide +kernel
theorem dL_law_307 : decode cL_law 307 = .ok (.iaload, 1) := by decide +kernel
theorem dL_law_308 : decode cL_law 308 = .ok (.aload_n 0, 1) := by decide +kernel
theorem dL_law_309 : decode cL_law 309 = .ok (.iload 5, 2) := by decide +kernel
theorem dL_law_311 : decode cL_law 311 = .ok (.iconst 2, 1) := by decide +kernel
theorem dL_law_312 : decode cL_law 312 = .ok (.iadd, 1) := by decide +kernel
theorem dL_law_313 : decode cL_law 313 = .ok (.iaload, 1) := by decide +kernel
theorem dL_law_314 : decode cL_law 314 = .ok (.invokevirtual 146, 3) := by decide +kernel
theorem dL_law_317 : decode cL_law 317 = .ok (.istore 7, 2) := by decide +kernel
theorem dL_law_319 : decode cL_law 319 = .ok (.goto 908, 3) := by decide +kernel
theorem dL_law_322 : decode cL_law 322 = .ok (.aload_n 1, 1) := by decide +kernel
theorem dL_law_323 : decode cL_law 323 = .ok (.aload_n 0, 1) := by decide +kernel
theorem dL_law_324 : decode cL_law 324 = .ok (.iload 5, 2) := by decide +kernel
theorem dL_law_326 : decode cL_law 326 = .ok (.iconst 1, 1) := by decide +kernel
theorem dL_law_327 : decode cL_law 327 = .ok (.iadd, 1) := by decide +kernel
theorem dL_law_328 : decode cL_law 328 = .ok (.iaload, 1) := by decide +kernel
theorem dL_law_329 : decode cL_law 329 = .ok (.aload_n 0, 1) := by decide +kernel
theorem dL_law_330 : decode cL_law 330 = .ok (.iload 5, 2) := by decide +kernel
theorem dL_law_332 : decode cL_law 332 = .ok (.iconst 2, 1) := by decide +kernel
theorem dL_law_333 : decode cL_law 333 = .ok (.iadd, 1) := by decide +kernel
theorem dL_law_334 : decode cL_law 334 = .ok (.iaload, 1) := by decide +kernel
theorem dL_law_335 : decode cL_law 335 = .ok (.aload_n 3, 1) := by decide +kernel
theorem dL_law_336 : decode cL_law 336 = .ok (.invokestatic 147, 3) := by decide +kernel
theorem dL_law_339 : decode cL_law 339 = .ok (.istore 6, 2) := by decide +kernel
theorem dL_law_341 : decode cL_law 341 = .ok (.aload_n 2, 1) := by decide +kernel
theorem dL_law_342 : decode cL_law 342 = .ok (.aload_n 0, 1) := by decide +kernel
theorem dL_law_343 : decode cL_law 343 = .ok (.iload 5, 2) := by decide +kernel
theorem dL_law_345 : decode cL_law 345 = .ok (.iconst 1, 1) := by decide +kernel
theorem dL_law_346 : decode cL_law 346 = .ok (.iadd, 1) := by decide +kernel
theorem dL_law_347 : decode cL_law 347 = .ok (.iaload, 1) := by decide +kernel
theorem dL_law_348 : decode cL_law 348 = .ok (.aload_n 0, 1) := by decide +kernel
theorem dL_law_349 : decode cL_law 349 = .ok (.iload 5, 2) := by decide +kernel
theorem dL_law_351 : decode cL_law 351 = .ok (.iconst 2, 1) := by decide +kernel
theorem dL_law_352 : decode cL_law 352 = .ok (.iadd, 1) := by decide +kernel
theorem dL_law_353 : decode cL_law 353 = .ok (.iaload, 1) := by decide +kernel
theorem dL_law_354 : decode cL_law 354 = .ok (.invokevirtual 149, 3) := by decide +kernel
theorem dL_law_357 : decode cL_law 357 = .ok (.istore 7, 2) := by decide +kernel
theorem dL_law_359 : decode cL_law 359 = .ok (.goto 868, 3) := by decide +kernel
theorem dL_law_362 : decode cL_law 362 = .ok (.aload_n 1, 1) := by decide +kernel
theorem dL_law_363 : decode cL_law 363 = .ok (.aload_n 0, 1) := by decide +kernel
theorem dL_law_364 : decode cL_law 364 = .ok (.iload 5, 2) := by decide +kernel
theorem dL_law_366 : decode cL_law 366 = .ok (.iconst 1, 1) := by decide +kernel
theorem dL_law_367 : decode cL_law 367 = .ok (.iadd, 1) := by decide +kernel
theorem dL_law_368 : decode cL_law 368 = .ok (.iaload, 1) := by decide +kernel
theorem dL_law_369 : decode cL_law 369 = .ok (.aload_n 0, 1) := by decide +kernel
theorem dL_law_370 : decode cL_law 370 = .ok (.iload 5, 2) := by decide +kernel
theorem dL_law_372 : decode cL_law 372 = .ok (.iconst 2, 1) := by decide +kernel
theorem dL_law_373 : decode cL_law 373 = .ok (.iadd, 1) := by decide +kernel
theorem dL_law_374 : decode cL_law 374 = .ok (.iaload, 1) := by decide +kernel
theorem dL_law_375 : decode cL_law 375 = .ok (.aload_n 3, 1) := by decide +kernel
theorem dL_law_376 : decode cL_law 376 = .ok (.invokestatic 150, 3) := by decide +kernel
theorem dL_law_379 : decode cL_law 379 = .ok (.istore 6, 2) := by decide +kernel
theorem dL_law_381 : decode cL_law 381 = .ok (.aload_n 2, 1) := by decide +kernel
theorem dL_law_382 : decode cL_law 382 = .ok (.aload_n 0, 1) := by decide +kernel
theorem dL_law_383 : decode cL_law 383 = .ok (.iload 5, 2) := by decide +kernel
theorem dL_law_385 : decode cL_law 385 = .ok (.iconst 1, 1) := by decide +kernel
theorem dL_law_386 : decode cL_law 386 = .ok (.iadd, 1) := by decide +kernel
theorem dL_law_387 : decode cL_law 387 = .ok (.iaload, 1) := by decide +kernel
theorem dL_law_388 : decode cL_law 388 = .ok (.aload_n 0, 1) := by decide +kernel
theorem dL_law_389 : decode cL_law 389 = .ok (.iload 5, 2) := by decide +kernel
theorem dL_law_391 : decode cL_law 391 = .ok (.iconst 2, 1) := by decide +kernel
theorem dL_law_392 : decode cL_law 392 = .ok (.iadd, 1) := by decide +kernel
theorem dL_law_393 : decode cL_law 393 = .ok (.iaload, 1) := by decide +kernel
theorem dL_law_394 : decode cL_law 394 = .ok (.invokevirtual 152, 3) := by decide +kernel
theorem dL_law_397 : decode cL_law 397 = .ok (.istore 7, 2) := by decide +kernel
theorem dL_law_399 : decode cL_law 399 = .ok (.goto 828, 3) := by decide +kernel
theorem dL_law_402 : decode cL_law 402 = .ok (.aload_n 1, 1) := by decide +kernel
theorem dL_law_403 : decode cL_law 403 = .ok (.aload_n 0, 1) := by decide +kernel
theorem dL_law_404 : decode cL_law 404 = .ok (.iload 5, 2) := by decide +kernel
theorem dL_law_406 : decode cL_law 406 = .ok (.iconst 1, 1) := by decide +kernel
theorem dL_law_407 : decode cL_law 407 = .ok (.iadd, 1) := by decide +kernel
theorem dL_law_408 : decode cL_law 408 = .ok (.iaload, 1) := by decide +kernel
theorem dL_law_409 : decode cL_law 409 = .ok (.aload_n 0, 1) := by decide +kernel
theorem dL_law_410 : decode cL_law 410 = .ok (.iload 5, 2) := by decide +kernel
theorem dL_law_412 : decode cL_law 412 = .ok (.iconst 2, 1) := by decide +kernel
theorem dL_law_413 : decode cL_law 413 = .ok (.iadd, 1) := by decide +kernel
theorem dL_law_414 : decode cL_law 414 = .ok (.iaload, 1) := by decide +kernel
theorem dL_law_415 : decode cL_law 415 = .ok (.aload_n 0, 1) := by decide +kernel
theorem dL_law_416 : decode cL_law 416 = .ok (.iload 5, 2) := by decide +kernel
theorem dL_law_418 : decode cL_law 418 = .ok (.iconst 3, 1) := by decide +kernel
theorem dL_law_419 : decode cL_law 419 = .ok (.iadd, 1) := by decide +kernel
theorem dL_law_420 : decode cL_law 420 = .ok (.iaload, 1) := by decide +kernel
theorem dL_law_421 : decode cL_law 421 = .ok (.aload_n 3, 1) := by decide +kernel
theorem dL_law_422 : decode cL_law 422 = .ok (.invokestatic 153, 3) := by decide +kernel
theorem dL_law_425 : decode cL_law 425 = .ok (.istore 6, 2) := by decide +kernel
theorem dL_law_427 : decode cL_law 427 = .ok (.aload_n 2, 1) := by decide +kernel
theorem dL_law_428 : decode cL_law 428 = .ok (.aload_n 0, 1) := by decide +kernel
theorem dL_law_429 : decode cL_law 429 = .ok (.iload 5, 2) := by decide +kernel
theorem dL_law_431 : decode cL_law 431 = .ok (.iconst 1, 1) := by decide +kernel
theorem dL_law_432 : decode cL_law 432 = .ok (.iadd, 1) := by decide +kernel
theorem dL_law_433 : decode cL_law 433 = .ok (.iaload, 1) := by decide +kernel
theorem dL_law_434 : decode cL_law 434 = .ok (.aload_n 0, 1) := by decide +kernel
theorem dL_law_435 : decode cL_law 435 = .ok (.iload 5, 2) := by decide +kernel
theorem dL_law_437 : decode cL_law 437 = .ok (.iconst 2, 1) := by decide +kernel
theorem dL_law_438 : decode cL_law 438 = .ok (.iadd, 1) := by decide +kernel
theorem dL_law_439 : decode cL_law 439 = .ok (.iaload, 1) := by decide +kernel
theorem dL_law_440 : decode cL_law 440 = .ok (.aload_n 0, 1) := by decide +kernel
theorem dL_law_441 : decode cL_law 441 = .ok (.iload 5, 2) := by decide +kernel
theorem dL_law_443 : decode cL_law 443 = .ok (.iconst 3, 1) := by decide +kernel
theorem dL_law_444 : decode cL_law 444 = .ok (.iadd, 1) := by decide +kernel
theorem dL_law_445 : decode cL_law 445 = .ok (.iaload, 1) := by decide +kernel
theorem dL_law_446 : decode cL_law 446 = .ok (.invokevirtual 156, 3) := by decide +kernel
theorem dL_law_449 : decode cL_law 449 = .ok (.istore 7, 2) := by decide +kernel
theorem dL_law_451 : decode cL_law 451 = .ok (.goto 776, 3) := by decide +kernel
theorem dL_law_454 : decode cL_law 454 = .ok (.aload_n 1, 1) := by decide +kernel
theorem dL_law_455 : decode cL_law 455 = .ok (.invokevirtual 157, 3) := by decide +kernel
theorem dL_law_458 : decode cL_law 458 = .ok (.pop, 1) := by decide +kernel
theorem dL_law_459 : decode cL_law 459 = .ok (.aload_n 2, 1) := by decide +kernel
theorem dL_law_460 : decode cL_law 460 = .ok (.invokevirtual 160, 3) := by decide +kernel
theorem dL_law_463 : decode cL_law 463 = .ok (.pop, 1) := by decide +kernel
theorem dL_law_464 : decode cL_law 464 = .ok (.goto 763, 3) := by decide +kernel
theorem dL_law_467 : decode cL_law 467 = .ok (.aload_n 1, 1) := by decide +kernel
theorem dL_law_468 : decode cL_law 468 = .ok (.aload_n 0, 1) := by decide +kernel
theorem dL_law_469 : decode cL_law 469 = .ok (.iload 5, 2) := by decide +kernel
theorem dL_law_471 : decode cL_law 471 = .ok (.iconst 1, 1) := by decide +kernel
theorem dL_law_472 : decode cL_law 472 = .ok (.iadd, 1) := by decide +kernel
theorem dL_law_473 : decode cL_law 473 = .ok (.iaload, 1) := by decide +kernel
theorem dL_law_474 : decode cL_law 474 = .ok (.aload_n 0, 1) := by decide +kernel
theorem dL_law_475 : decode cL_law 475 = .ok (.iload 5, 2) := by decide +kernel
theorem dL_law_477 : decode cL_law 477 = .ok (.iconst 2, 1) := by decide +kernel
theorem dL_law_478 : decode cL_law 478 = .ok (.iadd, 1) := by decide +kernel
theorem dL_law_479 : decode cL_law 479 = .ok (.iaload, 1) := by decide +kernel
theorem dL_law_480 : decode cL_law 480 = .ok (.aload_n 3, 1) := by decide +kernel
theorem dL_law_481 : decode cL_law 481 = .ok (.invokestatic 161, 3) := by decide +kernel
theorem dL_law_484 : decode cL_law 484 = .ok (.istore 6, 2) := by decide +kernel
theorem dL_law_486 : decode cL_law 486 = .ok (.aload_n 2, 1) := by decide +kernel
theorem dL_law_487 : decode cL_law 487 = .ok (.aload_n 0, 1) := by decide +kernel
theorem dL_law_488 : decode cL_law 488 = .ok (.iload 5, 2) := by decide +kernel
theorem dL_law_490 : decode cL_law 490 = .ok (.iconst 1, 1) := by decide +kernel
theorem dL_law_491 : decode cL_law 491 = .ok (.iadd, 1) := by decide +kernel
theorem dL_law_492 : decode cL_law 492 = .ok (.iaload, 1) := by decide +kernel
theorem dL_law_493 : decode cL_law 493 = .ok (.aload_n 0, 1) := by decide +kernel
theorem dL_law_494 : decode cL_law 494 = .ok (.iload 5, 2) := by decide +kernel
theorem dL_law_496 : decode cL_law 496 = .ok (.iconst 2, 1) := by decide +kernel
theorem dL_law_497 : decode cL_law 497 = .ok (.iadd, 1) := by decide +kernel
theorem dL_law_498 : decode cL_law 498 = .ok (.iaload, 1) := by decide +kernel
theorem dL_law_499 : decode cL_law 499 = .ok (.invokevirtual 163, 3) := by decide +kernel
theorem dL_law_502 : decode cL_law 502 = .ok (.istore 7, 2) := by decide +kernel
theorem dL_law_504 : decode cL_law 504 = .ok (.goto 723, 3) := by decide +kernel
theorem dL_law_507 : decode cL_law 507 = .ok (.aload_n 1, 1) := by decide +kernel
theorem dL_law_508 : decode cL_law 508 = .ok (.aload_n 3, 1) := by decide +kernel
theorem dL_law_509 : decode cL_law 509 = .ok (.invokestatic 164, 3) := by decide +kernel
theorem dL_law_512 : decode cL_law 512 = .ok (.istore 6, 2) := by decide +kernel
theorem dL_law_514 : decode cL_law 514 = .ok (.aload_n 2, 1) := by decide +kernel
theorem dL_law_515 : decode cL_law 515 = .ok (.invokevirtual 166, 3) := by decide +kernel
theorem dL_law_518 : decode cL_law 518 = .ok (.istore 7, 2) := by decide +kernel
theorem dL_law_520 : decode cL_law 520 = .ok (.goto 707, 3) := by decide +kernel
theorem dL_law_523 : decode cL_law 523 = .ok (.aload_n 1, 1) := by decide +kernel
theorem dL_law_524 : decode cL_law 524 = .ok (.invokevirtual 167, 3) := by decide +kernel
theorem dL_law_527 : decode cL_law 527 = .ok (.pop, 1) := by decide +kernel
theorem dL_law_528 : decode cL_law 528 = .ok (.aload_n 2, 1) := by decide +kernel
theorem dL_law_529 : decode cL_law 529 = .ok (.invokevirtual 170, 3) := by decide +kernel
theorem dL_law_532 : decode cL_law 532 = .ok (.pop, 1) := by decide +kernel
theorem dL_law_533 : decode cL_law 533 = .ok (.goto 694, 3) := by decide +kernel
theorem dL_law_536 : decode cL_law 536 = .ok (.aload_n 1, 1) := by decide +kernel
theorem dL_law_537 : decode cL_law 537 = .ok (.invokevirtual 171, 3) := by decide +kernel
theorem dL_law_540 : decode cL_law 540 = .ok (.pop, 1) := by decide +kernel
theorem dL_law_541 : decode cL_law 541 = .ok (.aload_n 2, 1) := by decide +kernel
theorem dL_law_542 : decode cL_law 542 = .ok (.invokevirtual 174, 3) := by decide +kernel
theorem dL_law_545 : decode cL_law 545 = .ok (.pop, 1) := by decide +kernel
theorem dL_law_546 : decode cL_law 546 = .ok (.goto 681, 3) := by decide +kernel
theorem dL_law_549 : decode cL_law 549 = .ok (.aload_n 1, 1) := by decide +kernel
theorem dL_law_550 : decode cL_law 550 = .ok (.aload_n 3, 1) := by decide +kernel
theorem dL_law_551 : decode cL_law 551 = .ok (.invokestatic 175, 3) := by decide +kernel
theorem dL_law_554 : decode cL_law 554 = .ok (.istore 6, 2) := by decide +kernel
theorem dL_law_556 : decode cL_law 556 = .ok (.aload_n 2, 1) := by decide +kernel
theorem dL_law_557 : decode cL_law 557 = .ok (.invokevirtual 177, 3) := by decide +kernel
theorem dL_law_560 : decode cL_law 560 = .ok (.istore 7, 2) := by decide +kernel
theorem dL_law_562 : decode cL_law 562 = .ok (.goto 665, 3) := by decide +kernel
theorem dL_law_565 : decode cL_law 565 = .ok (.aload_n 1, 1) := by decide +kernel
theorem dL_law_566 : decode cL_law 566 = .ok (.aload_n 0, 1) := by decide +kernel
theorem dL_law_567 : decode cL_law 567 = .ok (.iload 5, 2) := by decide +kernel
theorem dL_law_569 : decode cL_law 569 = .ok (.iconst 1, 1) := by decide +kernel
theorem dL_law_570 : decode cL_law 570 = .ok (.iadd, 1) := by decide +kernel
theorem dL_law_571 : decode cL_law 571 = .ok (.iaload, 1) := by decide +kernel
theorem dL_law_572 : decode cL_law 572 = .ok (.aload_n 3, 1) := by decide +kernel
theorem dL_law_573 : decode cL_law 573 = .ok (.invokestatic 178, 3) := by decide +kernel
theorem dL_law_576 : decode cL_law 576 = .ok (.istore 6, 2) := by decide +kernel
theorem dL_law_578 : decode cL_law 578 = .ok (.aload_n 2, 1) := by decide +kernel
theorem dL_law_579 : decode cL_law 579 = .ok (.aload_n 0, 1) := by decide +kernel
theorem dL_law_580 : decode cL_law 580 = .ok (.iload 5, 2) := by decide +kernel
theorem dL_law_582 : decode cL_law 582 = .ok (.iconst 1, 1) := by decide +kernel
theorem dL_law_583 : decode cL_law 583 = .ok (.iadd, 1) := by decide +kernel
theorem dL_law_584 : decode cL_law 584 = .ok (.iaload, 1) := by decide +kernel
theorem dL_law_585 : decode cL_law 585 = .ok (.invokevirtual 180, 3) := by decide +kernel
theorem dL_law_588 : decode cL_law 588 = .ok (.istore 7, 2) := by decide +kernel
theorem dL_law_590 : decode cL_law 590 = .ok (.goto 637, 3) := by decide +kernel
theorem dL_law_593 : decode cL_law 593 = .ok (.aload_n 1, 1) := by decide +kernel
theorem dL_law_594 : decode cL_law 594 = .ok (.aload_n 0, 1) := by decide +kernel
theorem dL_law_595 : decode cL_law 595 = .ok (.iload 5, 2) := by decide +kernel
theorem dL_law_597 : decode cL_law 597 = .ok (.iconst 1, 1) := by decide +kernel
theorem dL_law_598 : decode cL_law 598 = .ok (.iadd, 1) := by decide +kernel
theorem dL_law_599 : decode cL_law 599 = .ok (.iaload, 1) := by decide +kernel
theorem dL_law_600 : decode cL_law 600 = .ok (.aload_n 3, 1) := by decide +kernel
theorem dL_law_601 : decode cL_law 601 = .ok (.invokestatic 181, 3) := by decide +kernel
theorem dL_law_604 : decode cL_law 604 = .ok (.istore 6, 2) := by decide +kernel
theorem dL_law_606 : decode cL_law 606 = .ok (.aload_n 2, 1) := by decide +kernel
theorem dL_law_607 : decode cL_law 607 = .ok (.aload_n 0, 1) := by decide +kernel
theorem dL_law_608 : decode cL_law 608 = .ok (.iload 5, 2) := by decide +kernel
theorem dL_law_610 : decode cL_law 610 = .ok (.iconst 1, 1) := by decide +kernel
theorem dL_law_611 : decode cL_law 611 = .ok (.iadd, 1) := by decide +kernel
theorem dL_law_612 : decode cL_law 612 = .ok (.iaload, 1) := by decide +kernel
theorem dL_law_613 : decode cL_law 613 = .ok (.invokevirtual 183, 3) := by decide +kernel
theorem dL_law_616 : decode cL_law 616 = .ok (.istore 7, 2) := by decide +kernel
theorem dL_law_618 : decode cL_law 618 = .ok (.goto 609, 3) := by decide +kernel
theorem dL_law_621 : decode cL_law 621 = .ok (.aload_n 1, 1) := by decide +kernel
theorem dL_law_622 : decode cL_law 622 = .ok (.aload_n 0, 1) := by decide +kernel
theorem dL_law_623 : decode cL_law 623 = .ok (.iload 5, 2) := by decide +kernel
theorem dL_law_625 : decode cL_law 625 = .ok (.iconst 1, 1) := by decide +kernel
theorem dL_law_626 : decode cL_law 626 = .ok (.iadd, 1) := by decide +kernel
theorem dL_law_627 : decode cL_law 627 = .ok (.iaload, 1) := by decide +kernel
theorem dL_law_628 : decode cL_law 628 = .ok (.aload_n 0, 1) := by decide +kernel
theorem dL_law_629 : decode cL_law 629 = .ok (.iload 5, 2) := by decide +kernel
theorem dL_law_631 : decode cL_law 631 = .ok (.iconst 2, 1) := by decide +kernel
theorem dL_law_632 : decode cL_law 632 = .ok (.iadd, 1) := by decide +kernel
theorem dL_law_633 : decode cL_law 633 = .ok (.iaload, 1) := by decide +kernel
theorem dL_law_634 : decode cL_law 634 = .ok (.aload_n 3, 1) := by decide +kernel
theorem dL_law_635 : decode cL_law 635 = .ok (.invokestatic 184, 3) := by decide +kernel
theorem dL_law_638 : decode cL_law 638 = .ok (.istore 6, 2) := by decide +kernel
theorem dL_law_640 : decode cL_law 640 = .ok (.aload_n 2, 1) := by decide +kernel
theorem dL_law_641 : decode cL_law 641 = .ok (.aload_n 0, 1) := by decide +kernel
theorem dL_law_642 : decode cL_law 642 = .ok (.iload 5, 2) := by decide +kernel
theorem dL_law_644 : decode cL_law 644 = .ok (.iconst 1, 1) := by decide +kernel
theorem dL_law_645 : decode cL_law 645 = .ok (.iadd, 1) := by decide +kernel
theorem dL_law_646 : decode cL_law 646 = .ok (.iaload, 1) := by decide +kernel
theorem dL_law_647 : decode cL_law 647 = .ok (.aload_n 0, 1) := by decide +kernel
theorem dL_law_648 : decode cL_law 648 = .ok (.iload 5, 2) := by decide +kernel
theorem dL_law_650 : decode cL_law 650 = .ok (.iconst 2, 1) := by decide +kernel
theorem dL_law_651 : decode cL_law 651 = .ok (.iadd, 1) := by decide +kernel
theorem dL_law_652 : decode cL_law 652 = .ok (.iaload, 1) := by decide +kernel
theorem dL_law_653 : decode cL_law 653 = .ok (.invokevirtual 186, 3) := by decide +kernel
theorem dL_law_656 : decode cL_law 656 = .ok (.istore 7, 2) := by decide +kernel
theorem dL_law_658 : decode cL_law 658 = .ok (.goto 569, 3) := by decide +kernel
theorem dL_law_661 : decode cL_law 661 = .ok (.aload_n 1, 1) := by decide +kernel
theorem dL_law_662 : decode cL_law 662 = .ok (.aload_n 0, 1) := by decide +kernel
theorem dL_law_663 : decode cL_law 663 = .ok (.iload 5, 2) := by decide +kernel
theorem dL_law_665 : decode cL_law 665 = .ok (.iconst 1, 1) := by decide +kernel
theorem dL_law_666 : decode cL_law 666 = .ok (.iadd, 1) := by decide +kernel
theorem dL_law_667 : decode cL_law 667 = .ok (.iaload, 1) := by decide +kernel
theorem dL_law_668 : decode cL_law 668 = .ok (.aload_n 0, 1) := by decide +kernel
theorem dL_law_669 : decode cL_law 669 = .ok (.iload 5, 2) := by decide +kernel
theorem dL_law_671 : decode cL_law 671 = .ok (.iconst 2, 1) := by decide +kernel
theorem dL_law_672 : decode cL_law 672 = .ok (.iadd, 1) := by decide +kernel
theorem dL_law_673 : decode cL_law 673 = .ok (.iaload, 1) := by decide +kernel
theorem dL_law_674 : decode cL_law 674 = .ok (.aload 4, 2) := by decide +kernel
theorem dL_law_676 : decode cL_law 676 = .ok (.invokestatic 187, 3) := by decide +kernel
theorem dL_law_679 : decode cL_law 679 = .ok (.istore 6, 2) := by decide +kernel
theorem dL_law_681 : decode cL_law 681 = .ok (.aload_n 2, 1) := by decide +kernel
theorem dL_law_682 : decode cL_law 682 = .ok (.aload_n 0, 1) := by decide +kernel
theorem dL_law_683 : decode cL_law 683 = .ok (.iload 5, 2) := by decide +kernel
theorem dL_law_685 : decode cL_law 685 = .ok (.iconst 1, 1) := by decide +kernel
theorem dL_law_686 : decode cL_law 686 = .ok (.iadd, 1) := by decide +kernel
theorem dL_law_687 : decode cL_law 687 = .ok (.iaload, 1) := by decide +kernel
theorem dL_law_688 : decode cL_law 688 = .ok (.aload_n 0, 1) := by decide +kernel
theorem dL_law_689 : decode cL_law 689 = .ok (.iload 5, 2) := by decide +kernel
theorem dL_law_691 : decode cL_law 691 = .ok (.iconst 2, 1) := by decide +kernel
theorem dL_law_692 : decode cL_law 692 = .ok (.iadd, 1) := by decide +kernel
theorem dL_law_693 : decode cL_law 693 = .ok (.iaload, 1) := by decide +kernel
theorem dL_law_694 : decode cL_law 694 = .ok (.invokevirtual 190, 3) := by decide +kernel
theorem dL_law_697 : decode cL_law 697 = .ok (.dstore 7, 2) := by decide +kernel
theorem dL_law_699 : decode cL_law 699 = .ok (.goto 528, 3) := by decide +kernel
theorem dL_law_702 : decode cL_law 702 = .ok (.aload_n 1, 1) := by decide +kernel
theorem dL_law_703 : decode cL_law 703 = .ok (.aload_n 0, 1) := by decide +kernel
theorem dL_law_704 : decode cL_law 704 = .ok (.iload 5, 2) := by decide +kernel
theorem dL_law_706 : decode cL_law 706 = .ok (.iconst 1, 1) := by decide +kernel
theorem dL_law_707 : decode cL_law 707 = .ok (.iadd, 1) := by decide +kernel
theorem dL_law_708 : decode cL_law 708 = .ok (.iaload, 1) := by decide +kernel
theorem dL_law_709 : decode cL_law 709 = .ok (.aload_n 0, 1) := by decide +kernel
theorem dL_law_710 : decode cL_law 710 = .ok (.iload 5, 2) := by decide +kernel
theorem dL_law_712 : decode cL_law 712 = .ok (.iconst 2, 1) := by decide +kernel
theorem dL_law_713 : decode cL_law 713 = .ok (.iadd, 1) := by decide +kernel
theorem dL_law_714 : decode cL_law 714 = .ok (.iaload, 1) := by decide +kernel
theorem dL_law_715 : decode cL_law 715 = .ok (.aload 4, 2) := by decide +kernel
theorem dL_law_717 : decode cL_law 717 = .ok (.invokestatic 191, 3) := by decide +kernel
theorem dL_law_720 : decode cL_law 720 = .ok (.istore 6, 2) := by decide +kernel
theorem dL_law_722 : decode cL_law 722 = .ok (.aload_n 2, 1) := by decide +kernel
theorem dL_law_723 : decode cL_law 723 = .ok (.aload_n 0, 1) := by decide +kernel
theorem dL_law_724 : decode cL_law 724 = .ok (.iload 5, 2) := by decide +kernel
theorem dL_law_726 : decode cL_law 726 = .ok (.iconst 1, 1) := by decide +kernel
theorem dL_law_727 : decode cL_law 727 = .ok (.iadd, 1) := by decide +kernel
theorem dL_law_728 : decode cL_law 728 = .ok (.iaload, 1) := by decide +kernel
theorem dL_law_729 : decode cL_law 729 = .ok (.aload_n 0, 1) := by decide +kernel
theorem dL_law_730 : decode cL_law 730 = .ok (.iload 5, 2) := by decide +kernel
theorem dL_law_732 : decode cL_law 732 = .ok (.iconst 2, 1) := by decide +kernel
theorem dL_law_733 : decode cL_law 733 = .ok (.iadd, 1) := by decide +kernel
theorem dL_law_734 : decode cL_law 734 = .ok (.iaload, 1) := by decide +kernel
theorem dL_law_735 : decode cL_law 735 = .ok (.invokevirtual 193, 3) := by decide +kernel
theorem dL_law_738 : decode cL_law 738 = .ok (.dstore 7, 2) := by decide +kernel
theorem dL_law_740 : decode cL_law 740 = .ok (.goto 487, 3) := by decide +kernel
theorem dL_law_743 : decode cL_law 743 = .ok (.aload_n 1, 1) := by decide +kernel
theorem dL_law_744 : decode cL_law 744 = .ok (.aload_n 3, 1) := by decide +kernel
theorem dL_law_745 : decode cL_law 745 = .ok (.invokestatic 194, 3) := by decide +kernel
theorem dL_law_748 : decode cL_law 748 = .ok (.istore 6, 2) := by decide +kernel
theorem dL_law_750 : decode cL_law 750 = .ok (.aload_n 2, 1) := by decide +kernel
theorem dL_law_751 : decode cL_law 751 = .ok (.invokevirtual 196, 3) := by decide +kernel
theorem dL_law_754 : decode cL_law 754 = .ok (.istore 7, 2) := by decide +kernel
theorem dL_law_756 : decode cL_law 756 = .ok (.goto 471, 3) := by decide +kernel
theorem dL_law_759 : decode cL_law 759 = .ok (.aload_n 1, 1) := by decide +kernel
theorem dL_law_760 : decode cL_law 760 = .ok (.aload_n 0, 1) := by decide +kernel
theorem dL_law_761 : decode cL_law 761 = .ok (.iload 5, 2) := by decide +kernel
theorem dL_law_763 : decode cL_law 763 = .ok (.iconst 1, 1) := by decide +kernel
theorem dL_law_764 : decode cL_law 764 = .ok (.iadd, 1) := by decide +kernel
theorem dL_law_765 : decode cL_law 765 = .ok (.iaload, 1) := by decide +kernel
theorem dL_law_766 : decode cL_law 766 = .ok (.aload_n 3, 1) := by decide +kernel
theorem dL_law_767 : decode cL_law 767 = .ok (.invokestatic 197, 3) := by decide +kernel
theorem dL_law_770 : decode cL_law 770 = .ok (.istore 6, 2) := by decide +kernel
theorem dL_law_772 : decode cL_law 772 = .ok (.aload_n 2, 1) := by decide +kernel
theorem dL_law_773 : decode cL_law 773 = .ok (.aload_n 0, 1) := by decide +kernel
theorem dL_law_774 : decode cL_law 774 = .ok (.iload 5, 2) := by decide +kernel
theorem dL_law_776 : decode cL_law 776 = .ok (.iconst 1, 1) := by decide +kernel
theorem dL_law_777 : decode cL_law 777 = .ok (.iadd, 1) := by decide +kernel
theorem dL_law_778 : decode cL_law 778 = .ok (.iaload, 1) := by decide +kernel
theorem dL_law_779 : decode cL_law 779 = .ok (.invokevirtual 199, 3) := by decide +kernel
theorem dL_law_782 : decode cL_law 782 = .ok (.istore 7, 2) := by decide +kernel
theorem dL_law_784 : decode cL_law 784 = .ok (.goto 443, 3) := by decide +kernel
theorem dL_law_787 : decode cL_law 787 = .ok (.aload_n 1, 1) := by decide +kernel
theorem dL_law_788 : decode cL_law 788 = .ok (.aload_n 0, 1) := by decide +kernel
theorem dL_law_789 : decode cL_law 789 = .ok (.iload 5, 2) := by decide +kernel
theorem dL_law_791 : decode cL_law 791 = .ok (.iconst 1, 1) := by decide +kernel
theorem dL_law_792 : decode cL_law 792 = .ok (.iadd, 1) := by decide +kernel
theorem dL_law_793 : decode cL_law 793 = .ok (.iaload, 1) := by decide +kernel
theorem dL_law_794 : decode cL_law 794 = .ok (.aload_n 3, 1) := by decide +kernel
theorem dL_law_795 : decode cL_law 795 = .ok (.invokestatic 200, 3) := by decide +kernel
theorem dL_law_798 : decode cL_law 798 = .ok (.istore 6, 2) := by decide +kernel
theorem dL_law_800 : decode cL_law 800 = .ok (.aload_n 2, 1) := by decide +kernel
theorem dL_law_801 : decode cL_law 801 = .ok (.aload_n 0, 1) := by decide +kernel
theorem dL_law_802 : decode cL_law 802 = .ok (.iload 5, 2) := by decide +kernel
theorem dL_law_804 : decode cL_law 804 = .ok (.iconst 1, 1) := by decide +kernel
theorem dL_law_805 : decode cL_law 805 = .ok (.iadd, 1) := by decide +kernel
theorem dL_law_806 : decode cL_law 806 = .ok (.iaload, 1) := by decide +kernel
theorem dL_law_807 : decode cL_law 807 = .ok (.invokevirtual 202, 3) := by decide +kernel
theorem dL_law_810 : decode cL_law 810 = .ok (.istore 7, 2) := by decide +kernel
theorem dL_law_812 : decode cL_law 812 = .ok (.goto 415, 3) := by decide +kernel
theorem dL_law_815 : decode cL_law 815 = .ok (.aload_n 1, 1) := by decide +kernel
theorem dL_law_816 : decode cL_law 816 = .ok (.aload_n 0, 1) := by decide +kernel
theorem dL_law_817 : decode cL_law 817 = .ok (.iload 5, 2) := by decide +kernel
theorem dL_law_819 : decode cL_law 819 = .ok (.iconst 1, 1) := by decide +kernel
theorem dL_law_820 : decode cL_law 820 = .ok (.iadd, 1) := by decide +kernel
theorem dL_law_821 : decode cL_law 821 = .ok (.iaload, 1) := by decide +kernel
theorem dL_law_822 : decode cL_law 822 = .ok (.aload_n 3, 1) := by decide +kernel
theorem dL_law_823 : decode cL_law 823 = .ok (.invokestatic 203, 3) := by decide +kernel
theorem dL_law_826 : decode cL_law 826 = .ok (.istore 6, 2) := by decide +kernel
theorem dL_law_828 : decode cL_law 828 = .ok (.aload_n 2, 1) := by decide +kernel
theorem dL_law_829 : decode cL_law 829 = .ok (.aload_n 0, 1) := by decide +kernel
theorem dL_law_830 : decode cL_law 830 = .ok (.iload 5, 2) := by decide +kernel
theorem dL_law_832 : decode cL_law 832 = .ok (.iconst 1, 1) := by decide +kernel
theorem dL_law_833 : decode cL_law 833 = .ok (.iadd, 1) := by decide +kernel
theorem dL_law_834 : decode cL_law 834 = .ok (.iaload, 1) := by decide +kernel
theorem dL_law_835 : decode cL_law 835 = .ok (.invokevirtual 205, 3) := by decide +kernel
theorem dL_law_838 : decode cL_law 838 = .ok (.istore 7, 2) := by decide +kernel
theorem dL_law_840 : decode cL_law 840 = .ok (.goto 387, 3) := by decide +kernel
theorem dL_law_843 : decode cL_law 843 = .ok (.aload_n 1, 1) := by decide +kernel
theorem dL_law_844 : decode cL_law 844 = .ok (.aload_n 3, 1) := by decide +kernel
theorem dL_law_845 : decode cL_law 845 = .ok (.invokestatic 206, 3) := by decide +kernel
theorem dL_law_848 : decode cL_law 848 = .ok (.istore 6, 2) := by decide +kernel
theorem dL_law_850 : decode cL_law 850 = .ok (.aload_n 2, 1) := by decide +kernel
theorem dL_law_851 : decode cL_law 851 = .ok (.invokevirtual 208, 3) := by decide +kernel
theorem dL_law_854 : decode cL_law 854 = .ok (.istore 7, 2) := by decide +kernel
theorem dL_law_856 : decode cL_law 856 = .ok (.goto 371, 3) := by decide +kernel
theorem dL_law_859 : decode cL_law 859 = .ok (.aload_n 1, 1) := by decide +kernel
theorem dL_law_860 : decode cL_law 860 = .ok (.aload_n 3, 1) := by decide +kernel
theorem dL_law_861 : decode cL_law 861 = .ok (.invokestatic 209, 3) := by decide +kernel
theorem dL_law_864 : decode cL_law 864 = .ok (.istore 6, 2) := by decide +kernel
theorem dL_law_866 : decode cL_law 866 = .ok (.aload_n 2, 1) := by decide +kernel
theorem dL_law_867 : decode cL_law 867 = .ok (.invokevirtual 211, 3) := by decide +kernel
theorem dL_law_870 : decode cL_law 870 = .ok (.istore 7, 2) := by decide +kernel
theorem dL_law_872 : decode cL_law 872 = .ok (.goto 355, 3) := by decide +kernel
theorem dL_law_875 : decode cL_law 875 = .ok (.aload_n 1, 1) := by decide +kernel
theorem dL_law_876 : decode cL_law 876 = .ok (.aload_n 3, 1) := by decide +kernel
theorem dL_law_877 : decode cL_law 877 = .ok (.invokestatic 212, 3) := by decide +kernel
theorem dL_law_880 : decode cL_law 880 = .ok (.istore 6, 2) := by decide +kernel
theorem dL_law_882 : decode cL_law 882 = .ok (.aload_n 2, 1) := by decide +kernel
theorem dL_law_883 : decode cL_law 883 = .ok (.invokevirtual 214, 3) := by decide +kernel
theorem dL_law_886 : decode cL_law 886 = .ok (.istore 7, 2) := by decide +kernel
theorem dL_law_888 : decode cL_law 888 = .ok (.goto 339, 3) := by decide +kernel
theorem dL_law_891 : decode cL_law 891 = .ok (.aload_n 1, 1) := by decide +kernel
theorem dL_law_892 : decode cL_law 892 = .ok (.aload_n 3, 1) := by decide +kernel
theorem dL_law_893 : decode cL_law 893 = .ok (.invokestatic 215, 3) := by decide +kernel
theorem dL_law_896 : decode cL_law 896 = .ok (.istore 6, 2) := by decide +kernel
theorem dL_law_898 : decode cL_law 898 = .ok (.aload_n 2, 1) := by decide +kernel
theorem dL_law_899 : decode cL_law 899 = .ok (.invokevirtual 217, 3) := by decide +kernel
theorem dL_law_902 : decode cL_law 902 = .ok (.istore 7, 2) := by decide +kernel
theorem dL_law_904 : decode cL_law 904 = .ok (.goto 323, 3) := by decide +kernel
theorem dL_law_907 : decode cL_law 907 = .ok (.aload_n 1, 1) := by decide +kernel
theorem dL_law_908 : decode cL_law 908 = .ok (.invokevirtual 218, 3) := by decide +kernel
theorem dL_law_911 : decode cL_law 911 = .ok (.pop, 1) := by decide +kernel
theorem dL_law_912 : decode cL_law 912 = .ok (.aload_n 2, 1) := by decide +kernel
theorem dL_law_913 : decode cL_law 913 = .ok (.invokevirtual 221, 3) := by decide +kernel
theorem dL_law_916 : decode cL_law 916 = .ok (.pop, 1) := by decide +kernel
theorem dL_law_917 : decode cL_law 917 = .ok (.goto 310, 3) := by decide +kernel
theorem dL_law_920 : decode cL_law 920 = .ok (.aload_n 1, 1) := by decide +kernel
theorem dL_law_921 : decode cL_law 921 = .ok (.aload_n 0, 1) := by decide +kernel
theorem dL_law_922 : decode cL_law 922 = .ok (.iload 5, 2) := by decide +kernel
theorem dL_law_924 : decode cL_law 924 = .ok (.iconst 1, 1) := by decide +kernel
theorem dL_law_925 : decode cL_law 925 = .ok (.iadd, 1) := by decide +kernel
theorem dL_law_926 : decode cL_law 926 = .ok (.iaload, 1) := by decide +kernel
theorem dL_law_927 : decode cL_law 927 = .ok (.aload_n 0, 1) := by decide +kernel
theorem dL_law_928 : decode cL_law 928 = .ok (.iload 5, 2) := by decide +kernel
theorem dL_law_930 : decode cL_law 930 = .ok (.iconst 2, 1) := by decide +kernel
theorem dL_law_931 : decode cL_law 931 = .ok (.iadd, 1) := by decide +kernel
theorem dL_law_932 : decode cL_law 932 = .ok (.iaload, 1) := by decide +kernel
theorem dL_law_933 : decode cL_law 933 = .ok (.aload_n 3, 1) := by decide +kernel
theorem dL_law_934 : decode cL_law 934 = .ok (.invokestatic 222, 3) := by decide +kernel
theorem dL_law_937 : decode cL_law 937 = .ok (.istore 6, 2) := by decide +kernel
theorem dL_law_939 : decode cL_law 939 = .ok (.aload_n 2, 1) := by decide +kernel
theorem dL_law_940 : decode cL_law 940 = .ok (.aload_n 0, 1) := by decide +kernel
theorem dL_law_941 : decode cL_law 941 = .ok (.iload 5, 2) := by decide +kernel
theorem dL_law_943 : decode cL_law 943 = .ok (.iconst 1, 1) := by decide +kernel
theorem dL_law_944 : decode cL_law 944 = .ok (.iadd, 1) := by decide +kernel
theorem dL_law_945 : decode cL_law 945 = .ok (.iaload, 1) := by decide +kernel
theorem dL_law_946 : decode cL_law 946 = .ok (.aload_n 0, 1) := by decide +kernel
theorem dL_law_947 : decode cL_law 947 = .ok (.iload 5, 2) := by decide +kernel
theorem dL_law_949 : decode cL_law 949 = .ok (.iconst 2, 1) := by decide +kernel
theorem dL_law_950 : decode cL_law 950 = .ok (.iadd, 1) := by decide +kernel
theorem dL_law_951 : decode cL_law 951 = .ok (.iaload, 1) := by decide +kernel
theorem dL_law_952 : decode cL_law 952 = .ok (.invokevirtual 224, 3) := by decide +kernel
theorem dL_law_955 : decode cL_law 955 = .ok (.istore 7, 2) := by decide +kernel
theorem dL_law_957 : decode cL_law 957 = .ok (.goto 270, 3) := by decide +kernel
theorem dL_law_960 : decode cL_law 960 = .ok (.aload_n 1, 1) := by decide +kernel
theorem dL_law_961 : decode cL_law 961 = .ok (.invokevirtual 225, 3) := by decide +kernel
theorem dL_law_964 : decode cL_law 964 = .ok (.pop, 1) := by decide +kernel
theorem dL_law_965 : decode cL_law 965 = .ok (.aload_n 2, 1) := by decide +kernel
theorem dL_law_966 : decode cL_law 966 = .ok (.invokevirtual 228, 3) := by decide +kernel
theorem dL_law_969 : decode cL_law 969 = .ok (.pop, 1) := by decide +kernel
theorem dL_law_970 : decode cL_law 970 = .ok (.goto 257, 3) := by decide +kernel
theorem dL_law_973 : decode cL_law 973 = .ok (.aload_n 1, 1) := by decide +kernel
theorem dL_law_974 : decode cL_law 974 = .ok (.aload_n 3, 1) := by decide +kernel
theorem dL_law_975 : decode cL_law 975 = .ok (.invokestatic 229, 3) := by decide +kernel
theorem dL_law_978 : decode cL_law 978 = .ok (.istore 6, 2) := by decide +kernel
theorem dL_law_980 : decode cL_law 980 = .ok (.aload_n 2, 1) := by decide +kernel
theorem dL_law_981 : decode cL_law 981 = .ok (.invokevirtual 231, 3) := by decide +kernel
theorem dL_law_984 : decode cL_law 984 = .ok (.istore 7, 2) := by decide +kernel
theorem dL_law_986 : decode cL_law 986 = .ok (.goto 241, 3) := by decide +kernel
theorem dL_law_989 : decode cL_law 989 = .ok (.aload_n 1, 1) := by decide +kernel
theorem dL_law_990 : decode cL_law 990 = .ok (.aload_n 3, 1) := by decide +kernel
theorem dL_law_991 : decode cL_law 991 = .ok (.invokestatic 232, 3) := by decide +kernel
theorem dL_law_994 : decode cL_law 994 = .ok (.istore 6, 2) := by decide +kernel
theorem dL_law_996 : decode cL_law 996 = .ok (.aload_n 2, 1) := by decide +kernel
theorem dL_law_997 : decode cL_law 997 = .ok (.invokevirtual 234, 3) := by decide +kernel
theorem dL_law_1000 : decode cL_law 1000 = .ok (.istore 7, 2) := by decide +kernel
theorem dL_law_1002 : decode cL_law 1002 = .ok (.goto 225, 3) := by decide +kernel
theorem dL_law_1005 : decode cL_law 1005 = .ok (.aload_n 1, 1) := by decide +kernel
theorem dL_law_1006 : decode cL_law 1006 = .ok (.aload_n 0, 1) := by decide +kernel
theorem dL_law_1007 : decode cL_law 1007 = .ok (.iload 5, 2) := by decide +kernel
theorem dL_law_1009 : decode cL_law 1009 = .ok (.iconst 1, 1) := by decide +kernel
theorem dL_law_1010 : decode cL_law 1010 = .ok (.iadd, 1) := by decide +kernel
theorem dL_law_1011 : decode cL_law 1011 = .ok (.iaload, 1) := by decide +kernel
theorem dL_law_1012 : decode cL_law 1012 = .ok (.aload 4, 2) := by decide +kernel
theorem dL_law_1014 : decode cL_law 1014 = .ok (.invokestatic 235, 3) := by decide +kernel
theorem dL_law_1017 : decode cL_law 1017 = .ok (.istore 6, 2) := by decide +kernel
theorem dL_law_1019 : decode cL_law 1019 = .ok (.aload_n 2, 1) := by decide +kernel
theorem dL_law_1020 : decode cL_law 1020 = .ok (.aload_n 0, 1) := by decide +kernel
theorem dL_law_1021 : decode cL_law 1021 = .ok (.iload 5, 2) := by decide +kernel
theorem dL_law_1023 : decode cL_law 1023 = .ok (.iconst 1, 1) := by decide +kernel
theorem dL_law_1024 : decode cL_law 1024 = .ok (.iadd, 1) := by decide +kernel
theorem dL_law_1025 : decode cL_law 1025 = .ok (.iaload, 1) := by decide +kernel
theorem dL_law_1026 : decode cL_law 1026 = .ok (.invokevirtual 238, 3) := by decide +kernel
theorem dL_law_1029 : decode cL_law 1029 = .ok (.fstore 7, 2) := by decide +kernel
theorem dL_law_1031 : decode cL_law 1031 = .ok (.goto 196, 3) := by decide +kernel
theorem dL_law_1034 : decode cL_law 1034 = .ok (.aload_n 1, 1) := by decide +kernel
theorem dL_law_1035 : decode cL_law 1035 = .ok (.aload_n 0, 1) := by decide +kernel
theorem dL_law_1036 : decode cL_law 1036 = .ok (.iload 5, 2) := by decide +kernel
theorem dL_law_1038 : decode cL_law 1038 = .ok (.iconst 1, 1) := by decide +kernel
theorem dL_law_1039 : decode cL_law 1039 = .ok (.iadd, 1) := by decide +kernel
theorem dL_law_1040 : decode cL_law 1040 = .ok (.iaload, 1) := by decide +kernel
theorem dL_law_1041 : decode cL_law 1041 = .ok (.aload_n 0, 1) := by decide +kernel
theorem dL_law_1042 : decode cL_law 1042 = .ok (.iload 5, 2) := by decide +kernel
theorem dL_law_1044 : decode cL_law 1044 = .ok (.iconst 2, 1) := by decide +kernel
theorem dL_law_1045 : decode cL_law 1045 = .ok (.iadd, 1) := by decide +kernel
theorem dL_law_1046 : decode cL_law 1046 = .ok (.iaload, 1) := by decide +kernel
theorem dL_law_1047 : decode cL_law 1047 = .ok (.ifCond .eq 7, 3) := by decide +kernel
theorem dL_law_1050 : decode cL_law 1050 = .ok (.iconst 1, 1) := by decide +kernel
theorem dL_law_1051 : decode cL_law 1051 = .ok (.goto 4, 3) := by decide +kernel
theorem dL_law_1054 : decode cL_law 1054 = .ok (.iconst 0, 1) := by decide +kernel
theorem dL_law_1055 : decode cL_law 1055 = .ok (.aload_n 3, 1) := by decide +kernel
theorem dL_law_1056 : decode cL_law 1056 = .ok (.invokestatic 239, 3) := by decide +kernel
theorem dL_law_1059 : decode cL_law 1059 = .ok (.istore 6, 2) := by decide +kernel
theorem dL_law_1061 : decode cL_law 1061 = .ok (.aload_n 2, 1) := by decide +kernel
theorem dL_law_1062 : decode cL_law 1062 = .ok (.aload_n 0, 1) := by decide +kernel
theorem dL_law_1063 : decode cL_law 1063 = .ok (.iload 5, 2) := by decide +kernel
theorem dL_law_1065 : decode cL_law 1065 = .ok (.iconst 1, 1) := by decide +kernel
theorem dL_law_1066 : decode cL_law 1066 = .ok (.iadd, 1) := by decide +kernel
theorem dL_law_1067 : decode cL_law 1067 = .ok (.iaload, 1) := by decide +kernel
theorem dL_law_1068 : decode cL_law 1068 = .ok (.aload_n 0, 1) := by decide +kernel
theorem dL_law_1069 : decode cL_law 1069 = .ok (.iload 5, 2) := by decide +kernel
theorem dL_law_1071 : decode cL_law 1071 = .ok (.iconst 2, 1) := by decide +kernel
theorem dL_law_1072 : decode cL_law 1072 = .ok (.iadd, 1) := by decide +kernel
theorem dL_law_1073 : decode cL_law 1073 = .ok (.iaload, 1) := by decide +kernel
theorem dL_law_1074 : decode cL_law 1074 = .ok (.ifCond .eq 7, 3) := by decide +kernel
theorem dL_law_1077 : decode cL_law 1077 = .ok (.iconst 1, 1) := by decide +kernel
theorem dL_law_1078 : decode cL_law 1078 = .ok (.goto 4, 3) := by decide +kernel
theorem dL_law_1081 : decode cL_law 1081 = .ok (.iconst 0, 1) := by decide +kernel
theorem dL_law_1082 : decode cL_law 1082 = .ok (.invokevirtual 242, 3) := by decide +kernel
theorem dL_law_1085 : decode cL_law 1085 = .ok (.istore 7, 2) := by decide +kernel
theorem dL_law_1087 : decode cL_law 1087 = .ok (.goto 140, 3) := by decide +kernel
theorem dL_law_1090 : decode cL_law 1090 = .ok (.aload_n 1, 1) := by decide +kernel
theorem dL_law_1091 : decode cL_law 1091 = .ok (.aload_n 0, 1) := by decide +kernel
theorem dL_law_1092 : decode cL_law 1092 = .ok (.iload 5, 2) := by decide +kernel
theorem dL_law_1094 : decode cL_law 1094 = .ok (.iconst 1, 1) := by decide +kernel
theorem dL_law_1095 : decode cL_law 1095 = .ok (.iadd, 1) := by decide +kernel
theorem dL_law_1096 : decode cL_law 1096 = .ok (.iaload, 1) := by decide +kernel
theorem dL_law_1097 : decode cL_law 1097 = .ok (.aload_n 0, 1) := by decide +kernel
theorem dL_law_1098 : decode cL_law 1098 = .ok (.iload 5, 2) := by decide +kernel
theorem dL_law_1100 : decode cL_law 1100 = .ok (.iconst 2, 1) := by decide +kernel
theorem dL_law_1101 : decode cL_law 1101 = .ok (.iadd, 1) := by decide +kernel
theorem dL_law_1102 : decode cL_law 1102 = .ok (.iaload, 1) := by decide +kernel
theorem dL_law_1103 : decode cL_law 1103 = .ok (.aload_n 3, 1) := by decide +kernel
theorem dL_law_1104 : decode cL_law 1104 = .ok (.invokestatic 243, 3) := by decide +kernel
theorem dL_law_1107 : decode cL_law 1107 = .ok (.istore 6, 2) := by decide +kernel
theorem dL_law_1109 : decode cL_law 1109 = .ok (.aload_n 2, 1) := by decide +kernel
theorem dL_law_1110 : decode cL_law 1110 = .ok (.aload_n 0, 1) := by decide +kernel
theorem dL_law_1111 : decode cL_law 1111 = .ok (.iload 5, 2) := by decide +kernel
theorem dL_law_1113 : decode cL_law 1113 = .ok (.iconst 1, 1) := by decide +kernel
theorem dL_law_1114 : decode cL_law 1114 = .ok (.iadd, 1) := by decide +kernel
theorem dL_law_1115 : decode cL_law 1115 = .ok (.iaload, 1) := by decide +kernel
theorem dL_law_1116 : decode cL_law 1116 = .ok (.aload_n 0, 1) := by decide +kernel
theorem dL_law_1117 : decode cL_law 1117 = .ok (.iload 5, 2) := by decide +kernel
theorem dL_law_1119 : decode cL_law 1119 = .ok (.iconst 2, 1) := by decide +kernel
theorem dL_law_1120 : decode cL_law 1120 = .ok (.iadd, 1) := by decide +kernel
theorem dL_law_1121 : decode cL_law 1121 = .ok (.iaload, 1) := by decide +kernel
theorem dL_law_1122 : decode cL_law 1122 = .ok (.invokevirtual 245, 3) := by decide +kernel
theorem dL_law_1125 : decode cL_law 1125 = .ok (.istore 7, 2) := by decide +kernel
theorem dL_law_1127 : decode cL_law 1127 = .ok (.goto 100, 3) := by decide +kernel
theorem dL_law_1130 : decode cL_law 1130 = .ok (.aload_n 1, 1) := by decide +kernel
theorem dL_law_1131 : decode cL_law 1131 = .ok (.aload_n 0, 1) := by decide +kernel
theorem dL_law_1132 : decode cL_law 1132 = .ok (.iload 5, 2) := by decide +kernel
theorem dL_law_1134 : decode cL_law 1134 = .ok (.iconst 1, 1) := by decide +kernel
theorem dL_law_1135 : decode cL_law 1135 = .ok (.iadd, 1) := by decide +kernel
theorem dL_law_1136 : decode cL_law 1136 = .ok (.iaload, 1) := by decide +kernel
theorem dL_law_1137 : decode cL_law 1137 = .ok (.aload_n 0, 1) := by decide +kernel
theorem dL_law_1138 : decode cL_law 1138 = .ok (.iload 5, 2) := by decide +kernel
theorem dL_law_1140 : decode cL_law 1140 = .ok (.iconst 2, 1) := by decide +kernel
theorem dL_law_1141 : decode cL_law 1141 = .ok (.iadd, 1) := by decide +kernel
theorem dL_law_1142 : decode cL_law 1142 = .ok (.iaload, 1) := by decide +kernel
theorem dL_law_1143 : decode cL_law 1143 = .ok (.aload_n 3, 1) := by decide +kernel
theorem dL_law_1144 : decode cL_law 1144 = .ok (.invokestatic 246, 3) := by decide +kernel
theorem dL_law_1147 : decode cL_law 1147 = .ok (.istore 6, 2) := by decide +kernel
theorem dL_law_1149 : decode cL_law 1149 = .ok (.aload_n 2, 1) := by decide +kernel
theorem dL_law_1150 : decode cL_law 1150 = .ok (.aload_n 0, 1) := by decide +kernel
theorem dL_law_1151 : decode cL_law 1151 = .ok (.iload 5, 2) := by decide +kernel
theorem dL_law_1153 : decode cL_law 1153 = .ok (.iconst 1, 1) := by decide +kernel
theorem dL_law_1154 : decode cL_law 1154 = .ok (.iadd, 1) := by decide +kernel
theorem dL_law_1155 : decode cL_law 1155 = .ok (.iaload, 1) := by decide +kernel
theorem dL_law_1156 : decode cL_law 1156 = .ok (.aload_n 0, 1) := by decide +kernel
theorem dL_law_1157 : decode cL_law 1157 = .ok (.iload 5, 2) := by decide +kernel
theorem dL_law_1159 : decode cL_law 1159 = .ok (.iconst 2, 1) := by decide +kernel
theorem dL_law_1160 : decode cL_law 1160 = .ok (.iadd, 1) := by decide +kernel
theorem dL_law_1161 : decode cL_law 1161 = .ok (.iaload, 1) := by decide +kernel
theorem dL_law_1162 : decode cL_law 1162 = .ok (.invokevirtual 248, 3) := by decide +kernel
theorem dL_law_1165 : decode cL_law 1165 = .ok (.istore 7, 2) := by decide +kernel
theorem dL_law_1167 : decode cL_law 1167 = .ok (.goto 60, 3) := by decide +kernel
theorem dL_law_1170 : decode cL_law 1170 = .ok (.aload_n 1, 1) := by decide +kernel
theorem dL_law_1171 : decode cL_law 1171 = .ok (.invokevirtual 249, 3) := by decide +kernel
theorem dL_law_1174 : decode cL_law 1174 = .ok (.pop, 1) := by decide +kernel
theorem dL_law_1175 : decode cL_law 1175 = .ok (.aload_n 2, 1) := by decide +kernel
theorem dL_law_1176 : decode cL_law 1176 = .ok (.invokevirtual 252, 3) := by decide +kernel
theorem dL_law_1179 : decode cL_law 1179 = .ok (.pop, 1) := by decide +kernel
theorem dL_law_1180 : decode cL_law 1180 = .ok (.goto 47, 3) := by decide +kernel
theorem dL_law_1183 : decode cL_law 1183 = .ok (.aload_n 1, 1) := by decide +kernel
theorem dL_law_1184 : decode cL_law 1184 = .ok (.aload_n 3, 1) := by decide +kernel
theorem dL_law_1185 : decode cL_law 1185 = .ok (.invokestatic 253, 3) := by decide +kernel
theorem dL_law_1188 : decode cL_law 1188 = .ok (.istore 6, 2) := by decide +kernel
theorem dL_law_1190 : decode cL_law 1190 = .ok (.aload_n 2, 1) := by decide +kernel
theorem dL_law_1191 : decode cL_law 1191 = .ok (.invokevirtual 255, 3) := by decide +kernel
theorem dL_law_1194 : decode cL_law 1194 = .ok (.istore 7, 2) := by decide +kernel
theorem dL_law_1196 : decode cL_law 1196 = .ok (.aload_n 2, 1) := by decide +kernel
theorem dL_law_1197 : decode cL_law 1197 = .ok (.invokevirtual 256, 3) := by decide +kernel
theorem dL_law_1200 : decode cL_law 1200 = .ok (.iload 6, 2) := by decide +kernel
theorem dL_law_1202 : decode cL_law 1202 = .ok (.if_icmp .eq 5, 3) := by decide +kernel
theorem dL_law_1205 : decode cL_law 1205 = .ok (.iconst 0, 1) := by decide +kernel
theorem dL_law_1206 : decode cL_law 1206 = .ok (.ireturn, 1) := by decide +kernel
theorem dL_law_1207 : decode cL_law 1207 = .ok (.iload 6, 2) := by decide +kernel
theorem dL_law_1209 : decode cL_law 1209 = .ok (.ifCond .ne 15, 3) := by decide +kernel
theorem dL_law_1212 : decode cL_law 1212 = .ok (.aload_n 3, 1) := by decide +kernel
theorem dL_law_1213 : decode cL_law 1213 = .ok (.iconst 0, 1) := by decide +kernel
theorem dL_law_1214 : decode cL_law 1214 = .ok (.laload, 1) := by decide +kernel
theorem dL_law_1215 : decode cL_law 1215 = .ok (.iload 7, 2) := by decide +kernel
theorem dL_law_1217 : decode cL_law 1217 = .ok (.i2l, 1) := by decide +kernel
theorem dL_law_1218 : decode cL_law 1218 = .ok (.lcmp, 1) := by decide +kernel
theorem dL_law_1219 : decode cL_law 1219 = .ok (.ifCond .eq 5, 3) := by decide +kernel
theorem dL_law_1222 : decode cL_law 1222 = .ok (.iconst 0, 1) := by decide +kernel
theorem dL_law_1223 : decode cL_law 1223 = .ok (.ireturn, 1) := by decide +kernel
theorem dL_law_1224 : decode cL_law 1224 = .ok (.goto 3, 3) := by decide +kernel
theorem dL_law_1227 : decode cL_law 1227 = .ok (.iinc 5 4, 3) := by decide +kernel
theorem dL_law_1230 : decode cL_law 1230 = .ok (.goto (-1202), 3) := by decide +kernel
theorem dL_law_1233 : decode cL_law 1233 = .ok (.iconst 1, 1) := by decide +kernel
theorem dL_law_1234 : decode cL_law 1234 = .ok (.ireturn, 1) := by decide +kernel
def wL_law_1227 (L : Nat) (xs : Nat → Int32) (k28 : MS → Nat → Nat → Nat → Nat → Int32 → Prop) (S : MS) (u1 : Nat) (u2 : Nat) (u3 : Nat) (u4 : Nat) (y5 : Int32) : Prop := k28 S u1 u2 u3 u4 (y5 + 4)
set_option maxHeartbeats 8000000 in
set_option maxRecDepth 100000 in
theorem tL_law_1227 {p : Program} {l : Launch} {e : Env} {s : State} {m : MethodId} {below : List Frame} {meth : Method} {c : Code} {H : Heap} {locs : List Loc} {cells slots : Nat} {G : GP} {S0 : MS} {ls : Array Slot} {b L : Nat} {xs : Nat → Int32} (C : CF p l s m #[Value.ref b] meth c "SkirmishGridLaw" code 9 G (fun q => s.heap.size ≤ q)) (hr : meth.sig.returnType = ret) (hX : va_X b L xs s s.heap) (hbl : b < s.heap.size) (c0 s0 : Nat) (k28 : MS → Nat → Nat → Nat → Nat → Int32 → Prop) (kh28 : ∀ (S : MS) (u1 : Nat) (u2 : Nat) (u3 : Nat) (u4 : Nat) (y5 : Int32) (cells slots : Nat) (H : Heap) (locs : List Loc) (ls : Array Slot), pI S 8 u1 → pI S 9 u2 → pI S 16 u3 → pI S 17 u4 → PW G (fun q => s.heap.size ≤ q) s H locs S0 S → lv_has ls 9 [(0, .ref b), (1, .ref u1), (2, .ref u2), (3, .ref u3), (4, .ref u4), (5, .int y5)] → cells ≤ c0 + 5 → slots ≤ s0 + 30 → k28 S u1 u2 u3 u4 y5 → W p l e room_1 s m #[Value.ref b] below meth c H locs cells slots (lw_Z below #[Value.ref b] s) (F0 m 28 ls [])) (S : MS) (u1 : Nat) (u2 : Nat) (u3 : Nat) (u4 : Nat) (y5 : Int32) (p_u1 : pI S 8 u1) (p_u2 : pI S 9 u2) (p_u3 : pI S 16 u3) (p_u4 : pI S 17 u4) (P : PW G (fun q => s.heap.size ≤ q) s H locs S0 S) (hl : lv_has ls 9 [(0, .ref b), (1, .ref u1), (2, .ref u2), (3, .ref u3), (4, .ref u4), (5, .int y5)]) (hcc : cells + 0 ≤ c0 + 5) (hss : slots + 0 ≤ s0 + 30) (h0 : c0 + 5 ≤ 603072) (hs0 : s0 + 30 ≤ 7202922) (hw : wL_law_1227 L xs k28 S u1 u2 u3 u4 y5) : W p l e room_1 s m #[Value.ref b] below meth c H locs cells slots (lw_Z below #[Value.ref b] s) (F0 m 1227 ls []) := by
  have hx := CF_x C
  have hb := CF_b C
  unfold wL_law_1227 at hw
  refine lv_iinc (v := (y5 + 4)) (lv' := [(5, .int (y5 + 4)), (0, .ref b), (1, .ref u1), (2, .ref u2), (3, .ref u3), (4, .ref u4)]) hx hb dL_law_1227 hl (k := 5) rfl (by rfl) (by decide) rfl (fun ls hl => ?_)
  refine lv_goto (tgt := 28) hx hb dL_law_1230 (by decide) ?_
  exact kh28 S u1 u2 u3 u4 (y5 + 4) _ _ _ _ _ p_u1 p_u2 p_u3 p_u4 P (lv_sub hl [1, 2, 3, 4, 5, 0] rfl) (by omega) (by omega) hw
def wL_law_208 (L : Nat) (xs : Nat → Int32) (k28 : MS → Nat → Nat → Nat → Nat → Int32 → Prop) (S : MS) (u1 : Nat) (u2 : Nat) (u3 : Nat) (u4 : Nat) (y5 : Int32) : Prop := (vp_in (y5 + 1) L ∧ wp_L_append (fun r2 S1 => (vp_in (y5 + 1) L ∧ wp_X9_append (fun r4 S3 => wL_law_1227 L xs k28 S3 u1 u2 u3 u4 y5) (fun _ _ => False) S1 u2 ((((xs ((y5 + 1) : Int32).toNatClampNeg) : Int32).toUInt32 % 65536).toInt32))) (fun _ _ => False) S u1 ((((xs ((y5 + 1) : Int32).toNatClampNeg) : Int32).toUInt32 % 65536).toInt32) u3)
set_option maxHeartbeats 8000000 in
set_option maxRecDepth 100000 in
theorem tL_law_208 {p : Program} {l : Launch} {e : Env} {s : State} {m : MethodId} {below : List Frame} {meth : Method} {c : Code} {H : Heap} {locs : List Loc} {cells slots : Nat} {G : GP} {S0 : MS} {ls : Array Slot} {b L : Nat} {xs : Nat → Int32} (C : CF p l s m #[Value.ref b] meth c "SkirmishGridLaw" code 9 G (fun q => s.heap.size ≤ q)) (hr : meth.sig.returnType = ret) (hX : va_X b L xs s s.heap) (hbl : b < s.heap.size) (c0 s0 : Nat) (k28 : MS → Nat → Nat → Nat → Nat → Int32 → Prop) (kh28 : ∀ (S : MS) (u1 : Nat) (u2 : Nat) (u3 : Nat) (u4 : Nat) (y5 : Int32) (cells slots : Nat) (H : Heap) (locs : List Loc) (ls : Array Slot), pI S 8 u1 → pI S 9 u2 → pI S 16 u3 → pI S 17 u4 → PW G (fun q => s.heap.size ≤ q) s H locs S0 S → lv_has ls 9 [(0, .ref b), (1, .ref u1), (2, .ref u2), (3, .ref u3), (4, .ref u4), (5, .int y5)] → cells ≤ c0 + 5 → slots ≤ s0 + 30 → k28 S u1 u2 u3 u4 y5 → W p l e room_1 s m #[Value.ref b] below meth c H locs cells slots (lw_Z below #[Value.ref b] s) (F0 m 28 ls [])) (S : MS) (u1 : Nat) (u2 : Nat) (u3 : Nat) (u4 : Nat) (y5 : Int32) (p_u1 : pI S 8 u1) (p_u2 : pI S 9 u2) (p_u3 : pI S 16 u3) (p_u4 : pI S 17 u4) (P : PW G (fun q => s.heap.size ≤ q) s H locs S0 S) (hl : lv_has ls 9 [(0, .ref b), (1, .ref u1), (2, .ref u2), (3, .ref u3), (4, .ref u4), (5, .int y5)]) (hcc : cells + 1 ≤ c0 + 5) (hss : slots + 6 ≤ s0 + 30) (h0 : c0 + 5 ≤ 603072) (hs0 : s0 + 30 ≤ 7202922) (hw : wL_law_208 L xs k28 S u1 u2 u3 u4 y5) : W p l e room_1 s m #[Value.ref b] below meth c H locs cells slots (lw_Z below #[Value.ref b] s) (F0 m 208 ls []) := by
  have hx := CF_x C
  have hb := CF_b C
  unfold wL_law_208 at hw
  refine lv_aload_n hx hb dL_law_208 rfl (lv_at hl 1 rfl) ?_
  refine lv_aload_n hx hb dL_law_209 rfl (lv_at hl 0 rfl) ?_
  refine lv_iload hx hb dL_law_210 (lv_at hl 5 rfl) ?_
  refine lv_iconst (v := 1) hx hb dL_law_212 (by decide) ?_
  refine lv_iadd hx hb dL_law_213 ?_
  obtain ⟨h1, hw⟩ := hw
  refine va_sld hx hb hX hbl (Nat.not_le.mpr hbl) P.2.2.1 h1 dL_law_214 ?_
  refine lv_i2c (v := (((xs ((y5 + 1) : Int32).toNatClampNeg) : Int32).toUInt32 % 65536).toInt32) hx hb dL_law_215 rfl ?_
  refine lv_aload_n hx hb dL_law_216 rfl (lv_at hl 3 rfl) ?_
  refine cl_i C P (run_SX C P hl.1 (met_L_append (CF_n C) G H.size _ _ S u1 ((((xs ((y5 + 1) : Int32).toNatClampNeg) : Int32).toUInt32 % 65536).toInt32) u3 p_u1 p_u3 hw) q_401 q_402 q_0 q_403 cd_L_append.2 ⟨(Nat.le_of_ble_eq_true rfl), (Nat.le_of_ble_eq_true rfl)⟩ rfl rfl (As := [.ref u1, .int ((((xs ((y5 + 1) : Int32).toNatClampNeg) : Int32).toUInt32 % 65536).toInt32), .ref u3]) (rest := []) rfl rfl (Nat.le_of_ble_eq_true rfl) dL_law_217 ⟨by show cells + 1 ≤ 603072; omega, by show slots + 6 ≤ 7202922; omega⟩) kx_no (fun r2 S1 H locs P hE hw => ?_)
  have p_u1 : pI S1 8 u1 := pI_x hE p_u1
  have p_u2 : pI S1 9 u2 := pI_x hE p_u2
  have p_u3 : pI S1 16 u3 := pI_x hE p_u3
  have p_u4 : pI S1 17 u4 := pI_x hE p_u4
  refine lv_istore (lv' := [(6, .int r2), (0, .ref b), (1, .ref u1), (2, .ref u2), (3, .ref u3), (4, .ref u4), (5, .int y5)]) hx hb dL_law_220 hl (by decide) rfl (fun ls hl => ?_)
  refine lv_aload_n hx hb dL_law_222 rfl (lv_at hl 3 rfl) ?_
  refine lv_aload_n hx hb dL_law_223 rfl (lv_at hl 1 rfl) ?_
  refine lv_iload hx hb dL_law_224 (lv_at hl 6 rfl) ?_
  refine lv_iconst (v := 1) hx hb dL_law_226 (by decide) ?_
  refine lv_iadd hx hb dL_law_227 ?_
  obtain ⟨h1, hw⟩ := hw
  refine va_sld hx hb hX hbl (Nat.not_le.mpr hbl) P.2.2.1 h1 dL_law_228 ?_
  refine lv_i2c (v := (((xs ((y5 + 1) : Int32).toNatClampNeg) : Int32).toUInt32 % 65536).toInt32) hx hb dL_law_229 rfl ?_
  refine cl_i C P (run_V C P hl.1 (kd := 9) (met_X9_append (CF_n C) G H.size _ _ S1 u2 ((((xs ((y5 + 1) : Int32).toNatClampNeg) : Int32).toUInt32 % 65536).toInt32) p_u2 hw) p_u2 (by decide) rfl q_1379 q_1380 q_1381 q_10 q_1382 cd_X9_append ⟨(Nat.le_of_ble_eq_true rfl), (Nat.le_of_ble_eq_true rfl)⟩ rfl rfl (As := [.int ((((xs ((y5 + 1) : Int32).toNatClampNeg) : Int32).toUInt32 % 65536).toInt32)]) (rest := []) rfl rfl (Nat.le_of_ble_eq_true rfl) dL_law_230 ⟨by show cells + 1 + 0 ≤ 603072; omega, by show slots + 6 + 0 ≤ 7202922; omega⟩) kx_no (fun r4 S3 H locs P hE hw => ?_)
  have p_u1 : pI S3 8 u1 := pI_x hE p_u1
  have p_u2 : pI S3 9 u2 := pI_x hE p_u2
  have p_u3 : pI S3 16 u3 := pI_x hE p_u3
  have p_u4 : pI S3 17 u4 := pI_x hE p_u4
  refine lv_istore (lv' := [(7, .int r4), (6, .int r2), (0, .ref b), (1, .ref u1), (2, .ref u2), (3, .ref u3), (4, .ref u4), (5, .int y5)]) hx hb dL_law_233 hl (by decide) rfl (fun ls hl => ?_)
  refine lv_goto (tgt := 1227) hx hb dL_law_235 (by decide) ?_
  exact tL_law_1227 C hr hX hbl c0 s0 k28 kh28 S3 u1 u2 u3 u4 y5 p_u1 p_u2 p_u3 p_u4 P (lv_sub hl [2, 3, 4, 5, 6, 7] rfl) (by omega) (by omega) h0 hs0 hw
def wL_law_238 (L : Nat) (xs : Nat → Int32) (k28 : MS → Nat → Nat → Nat → Nat → Int32 → Prop) (S : MS) (u1 : Nat) (u2 : Nat) (u3 : Nat) (u4 : Nat) (y5 : Int32) : Prop := (vp_in (y5 + 1) L ∧ wp_L_load (fun r2 S1 => (vp_in (y5 + 1) L ∧ wp_X9_load (fun r4 S3 => wL_law_1227 L xs k28 S3 u1 u2 u3 u4 y5) (fun _ _ => False) S1 u2 (xs ((y5 + 1) : Int32).toNatClampNeg))) (fun _ _ => False) S u1 (xs ((y5 + 1) : Int32).toNatClampNeg) u3)
set_option maxHeartbeats 8000000 in
set_option maxRecDepth 100000 in
theorem tL_law_238 {p : Program} {l : Launch} {e : Env} {s : State} {m : MethodId} {below : List Frame} {meth : Method} {c : Code} {H : Heap} {locs : List Loc} {cells slots : Nat} {G : GP} {S0 : MS} {ls : Array Slot} {b L : Nat} {xs : Nat → Int32} (C : CF p l s m #[Value.ref b] meth c "SkirmishGridLaw" code 9 G (fun q => s.heap.size ≤ q)) (hr : meth.sig.returnType = ret) (hX : va_X b L xs s s.heap) (hbl : b < s.heap.size) (c0 s0 : Nat) (k28 : MS → Nat → Nat → Nat → Nat → Int32 → Prop) (kh28 : ∀ (S : MS) (u1 : Nat) (u2 : Nat) (u3 : Nat) (u4 : Nat) (y5 : Int32) (cells slots : Nat) (H : Heap) (locs : List Loc) (ls : Array Slot), pI S 8 u1 → pI S 9 u2 → pI S 16 u3 → pI S 17 u4 → PW G (fun q => s.heap.size ≤ q) s H locs S0 S → lv_has ls 9 [(0, .ref b), (1, .ref u1), (2, .ref u2), (3, .ref u3), (4, .ref u4), (5, .int y5)] → cells ≤ c0 + 5 → slots ≤ s0 + 30 → k28 S u1 u2 u3 u4 y5 → W p l e room_1 s m #[Value.ref b] below meth c H locs cells slots (lw_Z below #[Value.ref b] s) (F0 m 28 ls [])) (S : MS) (u1 : Nat) (u2 : Nat) (u3 : Nat) (u4 : Nat) (y5 : Int32) (p_u1 : pI S 8 u1) (p_u2 : pI S 9 u2) (p_u3 : pI S 16 u3) (p_u4 : pI S 17 u4) (P : PW G (fun q => s.heap.size ≤ q) s H locs S0 S) (hl : lv_has ls 9 [(0, .ref b), (1, .ref u1), (2, .ref u2), (3, .ref u3), (4, .ref u4), (5, .int y5)]) (hcc : cells + 1 ≤ c0 + 5) (hss : slots + 6 ≤ s0 + 30) (h0 : c0 + 5 ≤ 603072) (hs0 : s0 + 30 ≤ 7202922) (hw : wL_law_238 L xs k28 S u1 u2 u3 u4 y5) : W p l e room_1 s m #[Value.ref b] below meth c H locs cells slots (lw_Z below #[Value.ref b] s) (F0 m 238 ls []) := by
  have hx := CF_x C
  have hb := CF_b C
  unfold wL_law_238 at hw
  refine lv_aload_n hx hb dL_law_238 rfl (lv_at hl 1 rfl) ?_
  refine lv_aload_n hx hb dL_law_239 rfl (lv_at hl 0 rfl) ?_
  refine lv_iload hx hb dL_law_240 (lv_at hl 5 rfl) ?_
  refine lv_iconst (v := 1) hx hb dL_law_242 (by decide) ?_
  refine lv_iadd hx hb dL_law_243 ?_
  obtain ⟨h1, hw⟩ := hw
  refine va_sld hx hb hX hbl (Nat.not_le.mpr hbl) P.2.2.1 h1 dL_law_244 ?_
  refine lv_aload_n hx hb dL_law_245 rfl (lv_at hl 3 rfl) ?_
  refine cl_i C P (run_SX C P hl.1 (met_L_load (CF_n C) G H.size _ _ S u1 (xs ((y5 + 1) : Int32).toNatClampNeg) u3 p_u1 p_u3 hw) q_498 q_499 q_0 q_500 cd_L_load.2 ⟨(Nat.le_of_ble_eq_true rfl), (Nat.le_of_ble_eq_true rfl)⟩ rfl rfl (As := [.ref u1, .int (xs ((y5 + 1) : Int32).toNatClampNeg), .ref u3]) (rest := []) rfl rfl (Nat.le_of_ble_eq_true rfl) dL_law_246 ⟨by show cells + 1 ≤ 603072; omega, by show slots + 6 ≤ 7202922; omega⟩) kx_no (fun r2 S1 H locs P hE hw => ?_)
  have p_u1 : pI S1 8 u1 := pI_x hE p_u1
  have p_u2 : pI S1 9 u2 := pI_x hE p_u2
  have p_u3 : pI S1 16 u3 := pI_x hE p_u3
  have p_u4 : pI S1 17 u4 := pI_x hE p_u4
  refine lv_istore (lv' := [(6, .int r2), (0, .ref b), (1, .ref u1), (2, .ref u2), (3, .ref u3), (4, .ref u4), (5, .int y5)]) hx hb dL_law_249 hl (by decide) rfl (fun ls hl => ?_)
  refine lv_aload_n hx hb dL_law_251 rfl (lv_at hl 3 rfl) ?_
  refine lv_aload_n hx hb dL_law_252 rfl (lv_at hl 1 rfl) ?_
  refine lv_iload hx hb dL_law_253 (lv_at hl 6 rfl) ?_
  refine lv_iconst (v := 1) hx hb dL_law_255 (by decide) ?_
  refine lv_iadd hx hb dL_law_256 ?_
  obtain ⟨h1, hw⟩ := hw
  refine va_sld hx hb hX hbl (Nat.not_le.mpr hbl) P.2.2.1 h1 dL_law_257 ?_
  refine cl_i C P (run_V C P hl.1 (kd := 9) (met_X9_load (CF_n C) G H.size _ _ S1 u2 (xs ((y5 + 1) : Int32).toNatClampNeg) p_u2 hw) p_u2 (by decide) rfl q_1390 q_1391 q_1392 q_10 q_1393 cd_X9_load ⟨(Nat.le_of_ble_eq_true rfl), (Nat.le_of_ble_eq_true rfl)⟩ rfl rfl (As := [.int (xs ((y5 + 1) : Int32).toNatClampNeg)]) (rest := []) rfl rfl (Nat.le_of_ble_eq_true rfl) dL_law_258 ⟨by show cells + 1 + 0 ≤ 603072; omega, by show slots + 6 + 0 ≤ 7202922; omega⟩) kx_no (fun r4 S3 H locs P hE hw => ?_)
  have p_u1 : pI S3 8 u1 := pI_x hE p_u1
  have p_u2 : pI S3 9 u2 := pI_x hE p_u2
  have p_u3 : pI S3 16 u3 := pI_x hE p_u3
  have p_u4 : pI S3 17 u4 := pI_x hE p_u4
  refine lv_istore (lv' := [(7, .int r4), (6, .int r2), (0, .ref b), (1, .ref u1), (2, .ref u2), (3, .ref u3), (4, .ref u4), (5, .int y5)]) hx hb dL_law_261 hl (by decide) rfl (fun ls hl => ?_)
  refine lv_goto (tgt := 1227) hx hb dL_law_263 (by decide) ?_
  exact tL_law_1227 C hr hX hbl c0 s0 k28 kh28 S3 u1 u2 u3 u4 y5 p_u1 p_u2 p_u3 p_u4 P (lv_sub hl [2, 3, 4, 5, 6, 7] rfl) (by omega) (by omega) h0 hs0 hw
def wL_law_266 (L : Nat) (xs : Nat → Int32) (k28 : MS → Nat → Nat → Nat → Nat → Int32 → Prop) (S : MS) (u1 : Nat) (u2 : Nat) (u3 : Nat) (u4 : Nat) (y5 : Int32) : Prop := wp_L_errorPosition (fun r2 S1 => wp_X9_errorPosition (fun r4 S3 => wL_law_1227 L xs k28 S3 u1 u2 u3 u4 y5) (fun _ _ => False) S1 u2) (fun _ _ => False) S u1 u3
set_option maxHeartbeats 8000000 in
set_option maxRecDepth 100000 in
theorem tL_law_266 {p : Program} {l : Launch} {e : Env} {s : State} {m : MethodId} {below : List Frame} {meth : Method} {c : Code} {H : Heap} {locs : List Loc} {cells slots : Nat} {G : GP} {S0 : MS} {ls : Array Slot} {b L : Nat} {xs : Nat → Int32} (C : CF p l s m #[Value.ref b] meth c "SkirmishGridLaw" code 9 G (fun q => s.heap.size ≤ q)) (hr : meth.sig.returnType = ret) (hX : va_X b L xs s s.heap) (hbl : b < s.heap.size) (c0 s0 : Nat) (k28 : MS → Nat → Nat → Nat → Nat → Int32 → Prop) (kh28 : ∀ (S : MS) (u1 : Nat) (u2 : Nat) (u3 : Nat) (u4 : Nat) (y5 : Int32) (cells slots : Nat) (H : Heap) (locs : List Loc) (ls : Array Slot), pI S 8 u1 → pI S 9 u2 → pI S 16 u3 → pI S 17 u4 → PW G (fun q => s.heap.size ≤ q) s H locs S0 S → lv_has ls 9 [(0, .ref b), (1, .ref u1), (2, .ref u2), (3, .ref u3), (4, .ref u4), (5, .int y5)] → cells ≤ c0 + 5 → slots ≤ s0 + 30 → k28 S u1 u2 u3 u4 y5 → W p l e room_1 s m #[Value.ref b] below meth c H locs cells slots (lw_Z below #[Value.ref b] s) (F0 m 28 ls [])) (S : MS) (u1 : Nat) (u2 : Nat) (u3 : Nat) (u4 : Nat) (y5 : Int32) (p_u1 : pI S 8 u1) (p_u2 : pI S 9 u2) (p_u3 : pI S 16 u3) (p_u4 : pI S 17 u4) (P : PW G (fun q => s.heap.size ≤ q) s H locs S0 S) (hl : lv_has ls 9 [(0, .ref b), (1, .ref u1), (2, .ref u2), (3, .ref u3), (4, .ref u4), (5, .int y5)]) (hcc : cells + 1 ≤ c0 + 5) (hss : slots + 6 ≤ s0 + 30) (h0 : c0 + 5 ≤ 603072) (hs0 : s0 + 30 ≤ 7202922) (hw : wL_law_266 L xs k28 S u1 u2 u3 u4 y5) : W p l e room_1 s m #[Value.ref b] below meth c H locs cells slots (lw_Z below #[Value.ref b] s) (F0 m 266 ls []) := by
  have hx := CF_x C
  have hb := CF_b C
  unfold wL_law_266 at hw
  refine lv_aload_n hx hb dL_law_266 rfl (lv_at hl 1 rfl) ?_
  refine lv_aload_n hx hb dL_law_267 rfl (lv_at hl 3 rfl) ?_
  refine cl_i C P (run_SX C P hl.1 (met_L_errorPosition (CF_n C) G H.size _ _ S u1 u3 p_u1 p_u3 hw) q_633 q_634 q_0 q_635 cd_L_errorPosition.2 ⟨(Nat.le_of_ble_eq_true rfl), (Nat.le_of_ble_eq_true rfl)⟩ rfl rfl (As := [.ref u1, .ref u3]) (rest := []) rfl rfl (Nat.le_of_ble_eq_true rfl) dL_law_268 ⟨by show cells + 1 ≤ 603072; omega, by show slots + 6 ≤ 7202922; omega⟩) kx_no (fun r2 S1 H locs P hE hw => ?_)
  have p_u1 : pI S1 8 u1 := pI_x hE p_u1
  have p_u2 : pI S1 9 u2 := pI_x hE p_u2
  have p_u3 : pI S1 16 u3 := pI_x hE p_u3
  have p_u4 : pI S1 17 u4 := pI_x hE p_u4
  refine lv_istore (lv' := [(6, .int r2), (0, .ref b), (1, .ref u1), (2, .ref u2), (3, .ref u3), (4, .ref u4), (5, .int y5)]) hx hb dL_law_271 hl (by decide) rfl (fun ls hl => ?_)
  refine lv_aload_n hx hb dL_law_273 rfl (lv_at hl 3 rfl) ?_
  refine cl_i C P (run_V C P hl.1 (kd := 9) (met_X9_errorPosition (CF_n C) G H.size _ _ S1 u2 p_u2 hw) p_u2 (by decide) rfl q_1401 q_1402 q_1403 q_10 q_1404 cd_X9_errorPosition ⟨(Nat.le_of_ble_eq_true rfl), (Nat.le_of_ble_eq_true rfl)⟩ rfl rfl (As := []) (rest := []) rfl rfl (Nat.le_of_ble_eq_true rfl) dL_law_274 ⟨by show cells + 1 + 0 ≤ 603072; omega, by show slots + 6 + 0 ≤ 7202922; omega⟩) kx_no (fun r4 S3 H locs P hE hw => ?_)
  have p_u1 : pI S3 8 u1 := pI_x hE p_u1
  have p_u2 : pI S3 9 u2 := pI_x hE p_u2
  have p_u3 : pI S3 16 u3 := pI_x hE p_u3
  have p_u4 : pI S3 17 u4 := pI_x hE p_u4
  refine lv_istore (lv' := [(7, .int r4), (6, .int r2), (0, .ref b), (1, .ref u1), (2, .ref u2), (3, .ref u3), (4, .ref u4), (5, .int y5)]) hx hb dL_law_277 hl (by decide) rfl (fun ls hl => ?_)
  refine lv_goto (tgt := 1227) hx hb dL_law_279 (by decide) ?_
  exact tL_law_1227 C hr hX hbl c0 s0 k28 kh28 S3 u1 u2 u3 u4 y5 p_u1 p_u2 p_u3 p_u4 P (lv_sub hl [2, 3, 4, 5, 6, 7] rfl) (by omega) (by omega) h0 hs0 hw
def wL_law_282 (L : Nat) (xs : Nat → Int32) (k28 : MS → Nat → Nat → Nat → Nat → Int32 → Prop) (S : MS) (u1 : Nat) (u2 : Nat) (u3 : Nat) (u4 : Nat) (y5 : Int32) : Prop := (vp_in (y5 + 1) L ∧ (vp_in (y5 + 2) L ∧ wp_L_terrain (fun r2 S1 => (vp_in (y5 + 1) L ∧ (vp_in (y5 + 2) L ∧ wp_X9_terrain (fun r4 S3 => wL_law_1227 L xs k28 S3 u1 u2 u3 u4 y5) (fun _ _ => False) S1 u2 (xs ((y5 + 1) : Int32).toNatClampNeg) (xs ((y5 + 2) : Int32).toNatClampNeg)))) (fun _ _ => False) S u1 (xs ((y5 + 1) : Int32).toNatClampNeg) (xs ((y5 + 2) : Int32).toNatClampNeg) u3))
set_option maxHeartbeats 8000000 in
set_option maxRecDepth 100000 in
theorem tL_law_282 {p : Program} {l : Launch} {e : Env} {s : State} {m : MethodId} {below : List Frame} {meth : Method} {c : Code} {H : Heap} {locs : List Loc} {cells slots : Nat} {G : GP} {S0 : MS} {ls : Array Slot} {b L : Nat} {xs : Nat → Int32} (C : CF p l s m #[Value.ref b] meth c "SkirmishGridLaw" code 9 G (fun q => s.heap.size ≤ q)) (hr : meth.sig.returnType = ret) (hX : va_X b L xs s s.heap) (hbl : b < s.heap.size) (c0 s0 : Nat) (k28 : MS → Nat → Nat → Nat → Nat → Int32 → Prop) (kh28 : ∀ (S : MS) (u1 : Nat) (u2 : Nat) (u3 : Nat) (u4 : Nat) (y5 : Int32) (cells slots : Nat) (H : Heap) (locs : List Loc) (ls : Array Slot), pI S 8 u1 → pI S 9 u2 → pI S 16 u3 → pI S 17 u4 → PW G (fun q => s.heap.size ≤ q) s H locs S0 S → lv_has ls 9 [(0, .ref b), (1, .ref u1), (2, .ref u2), (3, .ref u3), (4, .ref u4), (5, .int y5)] → cells ≤ c0 + 5 → slots ≤ s0 + 30 → k28 S u1 u2 u3 u4 y5 → W p l e room_1 s m #[Value.ref b] below meth c H locs cells slots (lw_Z below #[Value.ref b] s) (F0 m 28 ls [])) (S : MS) (u1 : Nat) (u2 : Nat) (u3 : Nat) (u4 : Nat) (y5 : Int32) (p_u1 : pI S 8 u1) (p_u2 : pI S 9 u2) (p_u3 : pI S 16 u3) (p_u4 : pI S 17 u4) (P : PW G (fun q => s.heap.size ≤ q) s H locs S0 S) (hl : lv_has ls 9 [(0, .ref b), (1, .ref u1), (2, .ref u2), (3, .ref u3), (4, .ref u4), (5, .int y5)]) (hcc : cells + 1 ≤ c0 + 5) (hss : slots + 6 ≤ s0 + 30) (h0 : c0 + 5 ≤ 603072) (hs0 : s0 + 30 ≤ 7202922) (hw : wL_law_282 L xs k28 S u1 u2 u3 u4 y5) : W p l e room_1 s m #[Value.ref b] below meth c H locs cells slots (lw_Z below #[Value.ref b] s) (F0 m 282 ls []) := by
  have hx := CF_x C
  have hb := CF_b C
  unfold wL_law_282 at hw
  refine lv_aload_n hx hb dL_law_282 rfl (lv_at hl 1 rfl) ?_
  refine lv_aload_n hx hb dL_law_283 rfl (lv_at hl 0 rfl) ?_
  refine lv_iload hx hb dL_law_284 (lv_at hl 5 rfl) ?_
  refine lv_iconst (v := 1) hx hb dL_law_286 (by decide) ?_
  refine lv_iadd hx hb dL_law_287 ?_
  obtain ⟨h1, hw⟩ := hw
  refine va_sld hx hb hX hbl (Nat.not_le.mpr hbl) P.2.2.1 h1 dL_law_288 ?_
  refine lv_aload_n hx hb dL_law_289 rfl (lv_at hl 0 rfl) ?_
  refine lv_iload hx hb dL_law_290 (lv_at hl 5 rfl) ?_
  refine lv_iconst (v := 2) hx hb dL_law_292 (by decide) ?_
  refine lv_iadd hx hb dL_law_293 ?_
  obtain ⟨h1, hw⟩ := hw
  refine va_sld hx hb hX hbl (Nat.not_le.mpr hbl) P.2.2.1 h1 dL_law_294 ?_
  refine lv_aload_n hx hb dL_law_295 rfl (lv_at hl 3 rfl) ?_
  refine cl_i C P (run_SX C P hl.1 (met_L_terrain (CF_n C) G H.size _ _ S u1 (xs ((y5 + 1) : Int32).toNatClampNeg) (xs ((y5 + 2) : Int32).toNatClampNeg) u3 p_u1 p_u3 hw) q_657 q_658 q_0 q_659 cd_L_terrain.2 ⟨(Nat.le_of_ble_eq_true rfl), (Nat.le_of_ble_eq_true rfl)⟩ rfl rfl (As := [.ref u1, .int (xs ((y5 + 1) : Int32).toNatClampNeg), .int (xs ((y5 + 2) : Int32).toNatClampNeg), .ref u3]) (rest := []) rfl rfl (Nat.le_of_ble_eq_true rfl) dL_law_296 ⟨by show cells + 1 ≤ 603072; omega, by show slots + 6 ≤ 7202922; omega⟩) kx_no (fun r2 S1 H locs P hE hw => ?_)
  have p_u1 : pI S1 8 u1 := pI_x hE p_u1
  have p_u2 : pI S1 9 u2 := pI_x hE p_u2
  have p_u3 : pI S1 16 u3 := pI_x hE p_u3
  have p_u4 : pI S1 17 u4 := pI_x hE p_u4
  refine lv_istore (lv' := [(6, .int r2), (0, .ref b), (1, .ref u1), (2, .ref u2), (3, .ref u3), (4, .ref u4), (5, .int y5)]) hx hb dL_law_299 hl (by decide) rfl (fun ls hl => ?_)
  refine lv_aload_n hx hb dL_law_301 rfl (lv_at hl 3 rfl) ?_
  refine lv_aload_n hx hb dL_law_302 rfl (lv_at hl 1 rfl) ?_
  refine lv_iload hx hb dL_law_303 (lv_at hl 6 rfl) ?_
  refine lv_iconst (v := 1) hx hb dL_law_305 (by decide) ?_
  refine lv_iadd hx hb dL_law_306 ?_
  obtain ⟨h1, hw⟩ := hw
  refine va_sld hx hb hX hbl (Nat.not_le.mpr hbl) P.2.2.1 h1 dL_law_307 ?_
  refine lv_aload_n hx hb dL_law_308 rfl (lv_at hl 1 rfl) ?_
  refine lv_iload hx hb dL_law_309 (lv_at hl 6 rfl) ?_
  refine lv_iconst (v := 2) hx hb dL_law_311 (by decide) ?_
  refine lv_iadd hx hb dL_law_312 ?_
  obtain ⟨h1, hw⟩ := hw
  refine va_sld hx hb hX hbl (Nat.not_le.mpr hbl) P.2.2.1 h1 dL_law_313 ?_
  refine cl_i C P (run_V C P hl.1 (kd := 9) (met_X9_terrain (CF_n C) G H.size _ _ S1 u2 (xs ((y5 + 1) : Int32).toNatClampNeg) (xs ((y5 + 2) : Int32).toNatClampNeg) p_u2 hw) p_u2 (by decide) rfl q_1405 q_1406 q_1407 q_10 q_1408 cd_X9_terrain ⟨(Nat.le_of_ble_eq_true rfl), (Nat.le_of_ble_eq_true rfl)⟩ rfl rfl (As := [.int (xs ((y5 + 1) : Int32).toNatClampNeg), .int (xs ((y5 + 2) : Int32).toNatClampNeg)]) (rest := []) rfl rfl (Nat.le_of_ble_eq_true rfl) dL_law_314 ⟨by show cells + 1 + 0 ≤ 603072; omega, by show slots + 6 + 0 ≤ 7202922; omega⟩) kx_no (fun r4 S3 H locs P hE hw => ?_)
  have p_u1 : pI S3 8 u1 := pI_x hE p_u1
  have p_u2 : pI S3 9 u2 := pI_x hE p_u2
  have p_u3 : pI S3 16 u3 := pI_x hE p_u3
  have p_u4 : pI S3 17 u4 := pI_x hE p_u4
  refine lv_istore (lv' := [(7, .int r4), (6, .int r2), (0, .ref b), (1, .ref u1), (2, .ref u2), (3, .ref u3), (4, .ref u4), (5, .int y5)]) hx hb dL_law_317 hl (by decide) rfl (fun ls hl => ?_)
  refine lv_goto (tgt := 1227) hx hb dL_law_319 (by decide) ?_
  exact tL_law_1227 C hr hX hbl c0 s0 k28 kh28 S3 u1 u2 u3 u4 y5 p_u1 p_u2 p_u3 p_u4 P (lv_sub hl [2, 3, 4, 5, 6, 7] rfl) (by omega) (by omega) h0 hs0 hw
def wL_law_322 (L : Nat) (xs : Nat → Int32) (k28 : MS → Nat → Nat → Nat → Nat → Int32 → Prop) (S : MS) (u1 : Nat) (u2 : Nat) (u3 : Nat) (u4 : Nat) (y5 : Int32) : Prop := (vp_in (y5 + 1) L ∧ (vp_in (y5 + 2) L ∧ wp_L_isSeen (fun r2 S1 => (vp_in (y5 + 1) L ∧ (vp_in (y5 + 2) L ∧ wp_X9_isSeen (fun r4 S3 => wL_law_1227 L xs k28 S3 u1 u2 u3 u4 y5) (fun _ _ => False) S1 u2 (xs ((y5 + 1) : Int32).toNatClampNeg) (xs ((y5 + 2) : Int32).toNatClampNeg)))) (fun _ _ => False) S u1 (xs ((y5 + 1) : Int32).toNatClampNeg) (xs ((y5 + 2) : Int32).toNatClampNeg) u3))
set_option maxHeartbeats 8000000 in
set_option maxRecDepth 100000 in
theorem tL_law_322 {p : Program} {l : Launch} {e : Env} {s : State} {m : MethodId} {below : List Frame} {meth : Method} {c : Code} {H : Heap} {locs : List Loc} {cells slots : Nat} {G : GP} {S0 : MS} {ls : Array Slot} {b L : Nat} {xs : Nat → Int32} (C : CF p l s m #[Value.ref b] meth c "SkirmishGridLaw" code 9 G (fun q => s.heap.size ≤ q)) (hr : meth.sig.returnType = ret) (hX : va_X b L xs s s.heap) (hbl : b < s.heap.size) (c0 s0 : Nat) (k28 : MS → Nat → Nat → Nat → Nat → Int32 → Prop) (kh28 : ∀ (S : MS) (u1 : Nat) (u2 : Nat) (u3 : Nat) (u4 : Nat) (y5 : Int32) (cells slots : Nat) (H : Heap) (locs : List Loc) (ls : Array Slot), pI S 8 u1 → pI S 9 u2 → pI S 16 u3 → pI S 17 u4 → PW G (fun q => s.heap.size ≤ q) s H locs S0 S → lv_has ls 9 [(0, .ref b), (1, .ref u1), (2, .ref u2), (3, .ref u3), (4, .ref u4), (5, .int y5)] → cells ≤ c0 + 5 → slots ≤ s0 + 30 → k28 S u1 u2 u3 u4 y5 → W p l e room_1 s m #[Value.ref b] below meth c H locs cells slots (lw_Z below #[Value.ref b] s) (F0 m 28 ls [])) (S : MS) (u1 : Nat) (u2 : Nat) (u3 : Nat) (u4 : Nat) (y5 : Int32) (p_u1 : pI S 8 u1) (p_u2 : pI S 9 u2) (p_u3 : pI S 16 u3) (p_u4 : pI S 17 u4) (P : PW G (fun q => s.heap.size ≤ q) s H locs S0 S) (hl : lv_has ls 9 [(0, .ref b), (1, .ref u1), (2, .ref u2), (3, .ref u3), (4, .ref u4), (5, .int y5)]) (hcc : cells + 2 ≤ c0 + 5) (hss : slots + 12 ≤ s0 + 30) (h0 : c0 + 5 ≤ 603072) (hs0 : s0 + 30 ≤ 7202922) (hw : wL_law_322 L xs k28 S u1 u2 u3 u4 y5) : W p l e room_1 s m #[Value.ref b] below meth c H locs cells slots (lw_Z below #[Value.ref b] s) (F0 m 322 ls []) := by
  have hx := CF_x C
  have hb := CF_b C
  unfold wL_law_322 at hw
  refine lv_aload_n hx hb dL_law_322 rfl (lv_at hl 1 rfl) ?_
  refine lv_aload_n hx hb dL_law_323 rfl (lv_at hl 0 rfl) ?_
  refine lv_iload hx hb dL_law_324 (lv_at hl 5 rfl) ?_
  refine lv_iconst (v := 1) hx hb dL_law_326 (by decide) ?_
  refine lv_iadd hx hb dL_law_327 ?_
  obtain ⟨h1, hw⟩ := hw
  refine va_sld hx hb hX hbl (Nat.not_le.mpr hbl) P.2.2.1 h1 dL_law_328 ?_
  refine lv_aload_n hx hb dL_law_329 rfl (lv_at hl 0 rfl) ?_
  refine lv_iload hx hb dL_law_330 (lv_at hl 5 rfl) ?_
  refine lv_iconst (v := 2) hx hb dL_law_332 (by decide) ?_
  refine lv_iadd hx hb dL_law_333 ?_
  obtain ⟨h1, hw⟩ := hw
  refine va_sld hx hb hX hbl (Nat.not_le.mpr hbl) P.2.2.1 h1 dL_law_334 ?_
  refine lv_aload_n hx hb dL_law_335 rfl (lv_at hl 3 rfl) ?_
  refine cl_i C P (run_SX C P hl.1 (met_L_isSeen (CF_n C) G H.size _ _ S u1 (xs ((y5 + 1) : Int32).toNatClampNeg) (xs ((y5 + 2) : Int32).toNatClampNeg) u3 p_u1 p_u3 hw) q_726 q_727 q_0 q_728 cd_L_isSeen.2 ⟨(Nat.le_of_ble_eq_true rfl), (Nat.le_of_ble_eq_true rfl)⟩ rfl rfl (As := [.ref u1, .int (xs ((y5 + 1) : Int32).toNatClampNeg), .int (xs ((y5 + 2) : Int32).toNatClampNeg), .ref u3]) (rest := []) rfl rfl (Nat.le_of_ble_eq_true rfl) dL_law_336 ⟨by show cells + 2 ≤ 603072; omega, by show slots + 12 ≤ 7202922; omega⟩) kx_no (fun r2 S1 H locs P hE hw => ?_)
  have p_u1 : pI S1 8 u1 := pI_x hE p_u1
  have p_u2 : pI S1 9 u2 := pI_x hE p_u2
  have p_u3 : pI S1 16 u3 := pI_x hE p_u3
  have p_u4 : pI S1 17 u4 := pI_x hE p_u4
  refine lv_istore (lv' := [(6, .int r2), (0, .ref b), (1, .ref u1), (2, .ref u2), (3, .ref u3), (4, .ref u4), (5, .int y5)]) hx hb dL_law_339 hl (by decide) rfl (fun ls hl => ?_)
  refine lv_aload_n hx hb dL_law_341 rfl (lv_at hl 3 rfl) ?_
  refine lv_aload_n hx hb dL_law_342 rfl (lv_at hl 1 rfl) ?_
  refine lv_iload hx hb dL_law_343 (lv_at hl 6 rfl) ?_
  refine lv_iconst (v := 1) hx hb dL_law_345 (by decide) ?_
  refine lv_iadd hx hb dL_law_346 ?_
  obtain ⟨h1, hw⟩ := hw
  refine va_sld hx hb hX hbl (Nat.not_le.mpr hbl) P.2.2.1 h1 dL_law_347 ?_
  refine lv_aload_n hx hb dL_law_348 rfl (lv_at hl 1 rfl) ?_
  refine lv_iload hx hb dL_law_349 (lv_at hl 6 rfl) ?_
  refine lv_iconst (v := 2) hx hb dL_law_351 (by decide) ?_
  refine lv_iadd hx hb dL_law_352 ?_
  obtain ⟨h1, hw⟩ := hw
  refine va_sld hx hb hX hbl (Nat.not_le.mpr hbl) P.2.2.1 h1 dL_law_353 ?_
  refine cl_i C P (run_V C P hl.1 (kd := 9) (met_X9_isSeen (CF_n C) G H.size _ _ S1 u2 (xs ((y5 + 1) : Int32).toNatClampNeg) (xs ((y5 + 2) : Int32).toNatClampNeg) p_u2 hw) p_u2 (by decide) rfl q_1409 q_1410 q_1411 q_10 q_1412 cd_X9_isSeen ⟨(Nat.le_of_ble_eq_true rfl), (Nat.le_of_ble_eq_true rfl)⟩ rfl rfl (As := [.int (xs ((y5 + 1) : Int32).toNatClampNeg), .int (xs ((y5 + 2) : Int32).toNatClampNeg)]) (rest := []) rfl rfl (Nat.le_of_ble_eq_true rfl) dL_law_354 ⟨by show cells + 2 + 0 ≤ 603072; omega, by show slots + 12 + 0 ≤ 7202922; omega⟩) kx_no (fun r4 S3 H locs P hE hw => ?_)
  have p_u1 : pI S3 8 u1 := pI_x hE p_u1
  have p_u2 : pI S3 9 u2 := pI_x hE p_u2
  have p_u3 : pI S3 16 u3 := pI_x hE p_u3
  have p_u4 : pI S3 17 u4 := pI_x hE p_u4
  refine lv_istore (lv' := [(7, .int r4), (6, .int r2), (0, .ref b), (1, .ref u1), (2, .ref u2), (3, .ref u3), (4, .ref u4), (5, .int y5)]) hx hb dL_law_357 hl (by decide) rfl (fun ls hl => ?_)
  refine lv_goto (tgt := 1227) hx hb dL_law_359 (by decide) ?_
  exact tL_law_1227 C hr hX hbl c0 s0 k28 kh28 S3 u1 u2 u3 u4 y5 p_u1 p_u2 p_u3 p_u4 P (lv_sub hl [2, 3, 4, 5, 6, 7] rfl) (by omega) (by omega) h0 hs0 hw
def wL_law_362 (L : Nat) (xs : Nat → Int32) (k28 : MS → Nat → Nat → Nat → Nat → Int32 → Prop) (S : MS) (u1 : Nat) (u2 : Nat) (u3 : Nat) (u4 : Nat) (y5 : Int32) : Prop := (vp_in (y5 + 1) L ∧ (vp_in (y5 + 2) L ∧ wp_L_cover (fun r2 S1 => (vp_in (y5 + 1) L ∧ (vp_in (y5 + 2) L ∧ wp_X9_cover (fun r4 S3 => wL_law_1227 L xs k28 S3 u1 u2 u3 u4 y5) (fun _ _ => False) S1 u2 (xs ((y5 + 1) : Int32).toNatClampNeg) (xs ((y5 + 2) : Int32).toNatClampNeg)))) (fun _ _ => False) S u1 (xs ((y5 + 1) : Int32).toNatClampNeg) (xs ((y5 + 2) : Int32).toNatClampNeg) u3))
set_option maxHeartbeats 8000000 in
set_option maxRecDepth 100000 in
theorem tL_law_362 {p : Program} {l : Launch} {e : Env} {s : State} {m : MethodId} {below : List Frame} {meth : Method} {c : Code} {H : Heap} {locs : List Loc} {cells slots : Nat} {G : GP} {S0 : MS} {ls : Array Slot} {b L : Nat} {xs : Nat → Int32} (C : CF p l s m #[Value.ref b] meth c "SkirmishGridLaw" code 9 G (fun q => s.heap.size ≤ q)) (hr : meth.sig.returnType = ret) (hX : va_X b L xs s s.heap) (hbl : b < s.heap.size) (c0 s0 : Nat) (k28 : MS → Nat → Nat → Nat → Nat → Int32 → Prop) (kh28 : ∀ (S : MS) (u1 : Nat) (u2 : Nat) (u3 : Nat) (u4 : Nat) (y5 : Int32) (cells slots : Nat) (H : Heap) (locs : List Loc) (ls : Array Slot), pI S 8 u1 → pI S 9 u2 → pI S 16 u3 → pI S 17 u4 → PW G (fun q => s.heap.size ≤ q) s H locs S0 S → lv_has ls 9 [(0, .ref b), (1, .ref u1), (2, .ref u2), (3, .ref u3), (4, .ref u4), (5, .int y5)] → cells ≤ c0 + 5 → slots ≤ s0 + 30 → k28 S u1 u2 u3 u4 y5 → W p l e room_1 s m #[Value.ref b] below meth c H locs cells slots (lw_Z below #[Value.ref b] s) (F0 m 28 ls [])) (S : MS) (u1 : Nat) (u2 : Nat) (u3 : Nat) (u4 : Nat) (y5 : Int32) (p_u1 : pI S 8 u1) (p_u2 : pI S 9 u2) (p_u3 : pI S 16 u3) (p_u4 : pI S 17 u4) (P : PW G (fun q => s.heap.size ≤ q) s H locs S0 S) (hl : lv_has ls 9 [(0, .ref b), (1, .ref u1), (2, .ref u2), (3, .ref u3), (4, .ref u4), (5, .int y5)]) (hcc : cells + 2 ≤ c0 + 5) (hss : slots + 12 ≤ s0 + 30) (h0 : c0 + 5 ≤ 603072) (hs0 : s0 + 30 ≤ 7202922) (hw : wL_law_362 L xs k28 S u1 u2 u3 u4 y5) : W p l e room_1 s m #[Value.ref b] below meth c H locs cells slots (lw_Z below #[Value.ref b] s) (F0 m 362 ls []) := by
  have hx := CF_x C
  have hb := CF_b C
  unfold wL_law_362 at hw
  refine lv_aload_n hx hb dL_law_362 rfl (lv_at hl 1 rfl) ?_
  refine lv_aload_n hx hb dL_law_363 rfl (lv_at hl 0 rfl) ?_
  refine lv_iload hx hb dL_law_364 (lv_at hl 5 rfl) ?_
  refine lv_iconst (v := 1) hx hb dL_law_366 (by decide) ?_
  refine lv_iadd hx hb dL_law_367 ?_
  obtain ⟨h1, hw⟩ := hw
  refine va_sld hx hb hX hbl (Nat.not_le.mpr hbl) P.2.2.1 h1 dL_law_368 ?_
  refine lv_aload_n hx hb dL_law_369 rfl (lv_at hl 0 rfl) ?_
  refine lv_iload hx hb dL_law_370 (lv_at hl 5 rfl) ?_
  refine lv_iconst (v := 2) hx hb dL_law_372 (by decide) ?_
  refine lv_iadd hx hb dL_law_373 ?_
  obtain ⟨h1, hw⟩ := hw
  refine va_sld hx hb hX hbl (Nat.not_le.mpr hbl) P.2.2.1 h1 dL_law_374 ?_
  refine lv_aload_n hx hb dL_law_375 rfl (lv_at hl 3 rfl) ?_
  refine cl_i C P (run_SX C P hl.1 (met_L_cover (CF_n C) G H.size _ _ S u1 (xs ((y5 + 1) : Int32).toNatClampNeg) (xs ((y5 + 2) : Int32).toNatClampNeg) u3 p_u1 p_u3 hw) q_761 q_762 q_0 q_763 cd_L_cover.2 ⟨(Nat.le_of_ble_eq_true rfl), (Nat.le_of_ble_eq_true rfl)⟩ rfl rfl (As := [.ref u1, .int (xs ((y5 + 1) : Int32).toNatClampNeg), .int (xs ((y5 + 2) : Int32).toNatClampNeg), .ref u3]) (rest := []) rfl rfl (Nat.le_of_ble_eq_true rfl) dL_law_376 ⟨by show cells + 2 ≤ 603072; omega, by show slots + 12 ≤ 7202922; omega⟩) kx_no (fun r2 S1 H locs P hE hw => ?_)
  have p_u1 : pI S1 8 u1 := pI_x hE p_u1
  have p_u2 : pI S1 9 u2 := pI_x hE p_u2
  have p_u3 : pI S1 16 u3 := pI_x hE p_u3
  have p_u4 : pI S1 17 u4 := pI_x hE p_u4
  refine lv_istore (lv' := [(6, .int r2), (0, .ref b), (1, .ref u1), (2, .ref u2), (3, .ref u3), (4, .ref u4), (5, .int y5)]) hx hb dL_law_379 hl (by decide) rfl (fun ls hl => ?_)
  refine lv_aload_n hx hb dL_law_381 rfl (lv_at hl 3 rfl) ?_
  refine lv_aload_n hx hb dL_law_382 rfl (lv_at hl 1 rfl) ?_
  refine lv_iload hx hb dL_law_383 (lv_at hl 6 rfl) ?_
  refine lv_iconst (v := 1) hx hb dL_law_385 (by decide) ?_
  refine lv_iadd hx hb dL_law_386 ?_
  obtain ⟨h1, hw⟩ := hw
  refine va_sld hx hb hX hbl (Nat.not_le.mpr hbl) P.2.2.1 h1 dL_law_387 ?_
  refine lv_aload_n hx hb dL_law_388 rfl (lv_at hl 1 rfl) ?_
  refine lv_iload hx hb dL_law_389 (lv_at hl 6 rfl) ?_
  refine lv_iconst (v := 2) hx hb dL_law_391 (by decide) ?_
  refine lv_iadd hx hb dL_law_392 ?_
  obtain ⟨h1, hw⟩ := hw
  refine va_sld hx hb hX hbl (Nat.not_le.mpr hbl) P.2.2.1 h1 dL_law_393 ?_
  refine cl_i C P (run_V C P hl.1 (kd := 9) (met_X9_cover (CF_n C) G H.size _ _ S1 u2 (xs ((y5 + 1) : Int32).toNatClampNeg) (xs ((y5 + 2) : Int32).toNatClampNeg) p_u2 hw) p_u2 (by decide) rfl q_1437 q_1438 q_1439 q_10 q_1440 cd_X9_cover ⟨(Nat.le_of_ble_eq_true rfl), (Nat.le_of_ble_eq_true rfl)⟩ rfl rfl (As := [.int (xs ((y5 + 1) : Int32).toNatClampNeg), .int (xs ((y5 + 2) : Int32).toNatClampNeg)]) (rest := []) rfl rfl (Nat.le_of_ble_eq_true rfl) dL_law_394 ⟨by show cells + 2 + 0 ≤ 603072; omega, by show slots + 12 + 0 ≤ 7202922; omega⟩) kx_no (fun r4 S3 H locs P hE hw => ?_)
  have p_u1 : pI S3 8 u1 := pI_x hE p_u1
  have p_u2 : pI S3 9 u2 := pI_x hE p_u2
  have p_u3 : pI S3 16 u3 := pI_x hE p_u3
  have p_u4 : pI S3 17 u4 := pI_x hE p_u4
  refine lv_istore (lv' := [(7, .int r4), (6, .int r2), (0, .ref b), (1, .ref u1), (2, .ref u2), (3, .ref u3), (4, .ref u4), (5, .int y5)]) hx hb dL_law_397 hl (by decide) rfl (fun ls hl => ?_)
  refine lv_goto (tgt := 1227) hx hb dL_law_399 (by decide) ?_
  exact tL_law_1227 C hr hX hbl c0 s0 k28 kh28 S3 u1 u2 u3 u4 y5 p_u1 p_u2 p_u3 p_u4 P (lv_sub hl [2, 3, 4, 5, 6, 7] rfl) (by omega) (by omega) h0 hs0 hw
def wL_law_402 (L : Nat) (xs : Nat → Int32) (k28 : MS → Nat → Nat → Nat → Nat → Int32 → Prop) (S : MS) (u1 : Nat) (u2 : Nat) (u3 : Nat) (u4 : Nat) (y5 : Int32) : Prop := (vp_in (y5 + 1) L ∧ (vp_in (y5 + 2) L ∧ (vp_in (y5 + 3) L ∧ wp_L_addUnit (fun r2 S1 => (vp_in (y5 + 1) L ∧ (vp_in (y5 + 2) L ∧ (vp_in (y5 + 3) L ∧ wp_X9_addUnit (fun r4 S3 => wL_law_1227 L xs k28 S3 u1 u2 u3 u4 y5) (fun _ _ => False) S1 u2 (xs ((y5 + 1) : Int32).toNatClampNeg) (xs ((y5 + 2) : Int32).toNatClampNeg) (xs ((y5 + 3) : Int32).toNatClampNeg))))) (fun _ _ => False) S u1 (xs ((y5 + 1) : Int32).toNatClampNeg) (xs ((y5 + 2) : Int32).toNatClampNeg) (xs ((y5 + 3) : Int32).toNatClampNeg) u3)))
set_option maxHeartbeats 8000000 in
set_option maxRecDepth 100000 in
theorem tL_law_402 {p : Program} {l : Launch} {e : Env} {s : State} {m : MethodId} {below : List Frame} {meth : Method} {c : Code} {H : Heap} {locs : List Loc} {cells slots : Nat} {G : GP} {S0 : MS} {ls : Array Slot} {b L : Nat} {xs : Nat → Int32} (C : CF p l s m #[Value.ref b] meth c "SkirmishGridLaw" code 9 G (fun q => s.heap.size ≤ q)) (hr : meth.sig.returnType = ret) (hX : va_X b L xs s s.heap) (hbl : b < s.heap.size) (c0 s0 : Nat) (k28 : MS → Nat → Nat → Nat → Nat → Int32 → Prop) (kh28 : ∀ (S : MS) (u1 : Nat) (u2 : Nat) (u3 : Nat) (u4 : Nat) (y5 : Int32) (cells slots : Nat) (H : Heap) (locs : List Loc) (ls : Array Slot), pI S 8 u1 → pI S 9 u2 → pI S 16 u3 → pI S 17 u4 → PW G (fun q => s.heap.size ≤ q) s H locs S0 S → lv_has ls 9 [(0, .ref b), (1, .ref u1), (2, .ref u2), (3, .ref u3), (4, .ref u4), (5, .int y5)] → cells ≤ c0 + 5 → slots ≤ s0 + 30 → k28 S u1 u2 u3 u4 y5 → W p l e room_1 s m #[Value.ref b] below meth c H locs cells slots (lw_Z below #[Value.ref b] s) (F0 m 28 ls [])) (S : MS) (u1 : Nat) (u2 : Nat) (u3 : Nat) (u4 : Nat) (y5 : Int32) (p_u1 : pI S 8 u1) (p_u2 : pI S 9 u2) (p_u3 : pI S 16 u3) (p_u4 : pI S 17 u4) (P : PW G (fun q => s.heap.size ≤ q) s H locs S0 S) (hl : lv_has ls 9 [(0, .ref b), (1, .ref u1), (2, .ref u2), (3, .ref u3), (4, .ref u4), (5, .int y5)]) (hcc : cells + 3 ≤ c0 + 5) (hss : slots + 18 ≤ s0 + 30) (h0 : c0 + 5 ≤ 603072) (hs0 : s0 + 30 ≤ 7202922) (hw : wL_law_402 L xs k28 S u1 u2 u3 u4 y5) : W p l e room_1 s m #[Value.ref b] below meth c H locs cells slots (lw_Z below #[Value.ref b] s) (F0 m 402 ls []) := by
  have hx := CF_x C
  have hb := CF_b C
  unfold wL_law_402 at hw
  refine lv_aload_n hx hb dL_law_402 rfl (lv_at hl 1 rfl) ?_
  refine lv_aload_n hx hb dL_law_403 rfl (lv_at hl 0 rfl) ?_
  refine lv_iload hx hb dL_law_404 (lv_at hl 5 rfl) ?_
  refine lv_iconst (v := 1) hx hb dL_law_406 (by decide) ?_
  refine lv_iadd hx hb dL_law_407 ?_
  obtain ⟨h1, hw⟩ := hw
  refine va_sld hx hb hX hbl (Nat.not_le.mpr hbl) P.2.2.1 h1 dL_law_408 ?_
  refine lv_aload_n hx hb dL_law_409 rfl (lv_at hl 0 rfl) ?_
  refine lv_iload hx hb dL_law_410 (lv_at hl 5 rfl) ?_
  refine lv_iconst (v := 2) hx hb dL_law_412 (by decide) ?_
  refine lv_iadd hx hb dL_law_413 ?_
  obtain ⟨h1, hw⟩ := hw
  refine va_sld hx hb hX hbl (Nat.not_le.mpr hbl) P.2.2.1 h1 dL_law_414 ?_
  refine lv_aload_n hx hb dL_law_415 rfl (lv_at hl 0 rfl) ?_
  refine lv_iload hx hb dL_law_416 (lv_at hl 5 rfl) ?_
  refine lv_iconst (v := 3) hx hb dL_law_418 (by decide) ?_
  refine lv_iadd hx hb dL_law_419 ?_
  obtain ⟨h1, hw⟩ := hw
  refine va_sld hx hb hX hbl (Nat.not_le.mpr hbl) P.2.2.1 h1 dL_law_420 ?_
  refine lv_aload_n hx hb dL_law_421 rfl (lv_at hl 3 rfl) ?_
  refine cl_i C P (run_SX C P hl.1 (met_L_addUnit (CF_n C) G H.size _ _ S u1 (xs ((y5 + 1) : Int32).toNatClampNeg) (xs ((y5 + 2) : Int32).toNatClampNeg) (xs ((y5 + 3) : Int32).toNatClampNeg) u3 p_u1 p_u3 hw) q_773 q_774 q_0 q_775 cd_L_addUnit.2 ⟨(Nat.le_of_ble_eq_true rfl), (Nat.le_of_ble_eq_true rfl)⟩ rfl rfl (As := [.ref u1, .int (xs ((y5 + 1) : Int32).toNatClampNeg), .int (xs ((y5 + 2) : Int32).toNatClampNeg), .int (xs ((y5 + 3) : Int32).toNatClampNeg), .ref u3]) (rest := []) rfl rfl (Nat.le_of_ble_eq_true rfl) dL_law_422 ⟨by show cells + 3 ≤ 603072; omega, by show slots + 18 ≤ 7202922; omega⟩) kx_no (fun r2 S1 H locs P hE hw => ?_)
  have p_u1 : pI S1 8 u1 := pI_x hE p_u1
  have p_u2 : pI S1 9 u2 := pI_x hE p_u2
  have p_u3 : pI S1 16 u3 := pI_x hE p_u3
  have p_u4 : pI S1 17 u4 := pI_x hE p_u4
  refine lv_istore (lv' := [(6, .int r2), (0, .ref b), (1, .ref u1), (2, .ref u2), (3, .ref u3), (4, .ref u4), (5, .int y5)]) hx hb dL_law_425 hl (by decide) rfl (fun ls hl => ?_)
  refine lv_aload_n hx hb dL_law_427 rfl (lv_at hl 3 rfl) ?_
  refine lv_aload_n hx hb dL_law_428 rfl (lv_at hl 1 rfl) ?_
  refine lv_iload hx hb dL_law_429 (lv_at hl 6 rfl) ?_
  refine lv_iconst (v := 1) hx hb dL_law_431 (by decide) ?_
  refine lv_iadd hx hb dL_law_432 ?_
  obtain ⟨h1, hw⟩ := hw
  refine va_sld hx hb hX hbl (Nat.not_le.mpr hbl) P.2.2.1 h1 dL_law_433 ?_
  refine lv_aload_n hx hb dL_law_434 rfl (lv_at hl 1 rfl) ?_
  refine lv_iload hx hb dL_law_435 (lv_at hl 6 rfl) ?_
  refine lv_iconst (v := 2) hx hb dL_law_437 (by decide) ?_
  refine lv_iadd hx hb dL_law_438 ?_
  obtain ⟨h1, hw⟩ := hw
  refine va_sld hx hb hX hbl (Nat.not_le.mpr hbl) P.2.2.1 h1 dL_law_439 ?_
  refine lv_aload_n hx hb dL_law_440 rfl (lv_at hl 1 rfl) ?_
  refine lv_iload hx hb dL_law_441 (lv_at hl 6 rfl) ?_
  refine lv_iconst (v := 3) hx hb dL_law_443 (by decide) ?_
  refine lv_iadd hx hb dL_law_444 ?_
  obtain ⟨h1, hw⟩ := hw
  refine va_sld hx hb hX hbl (Nat.not_le.mpr hbl) P.2.2.1 h1 dL_law_445 ?_
  refine cl_i C P (run_V C P hl.1 (kd := 9) (met_X9_addUnit (CF_n C) G H.size _ _ S1 u2 (xs ((y5 + 1) : Int32).toNatClampNeg) (xs ((y5 + 2) : Int32).toNatClampNeg) (xs ((y5 + 3) : Int32).toNatClampNeg) p_u2 hw) p_u2 (by decide) rfl q_1445 q_1446 q_1447 q_10 q_1448 cd_X9_addUnit ⟨(Nat.le_of_ble_eq_true rfl), (Nat.le_of_ble_eq_true rfl)⟩ rfl rfl (As := [.int (xs ((y5 + 1) : Int32).toNatClampNeg), .int (xs ((y5 + 2) : Int32).toNatClampNeg), .int (xs ((y5 + 3) : Int32).toNatClampNeg)]) (rest := []) rfl rfl (Nat.le_of_ble_eq_true rfl) dL_law_446 ⟨by show cells + 3 + 0 ≤ 603072; omega, by show slots + 18 + 0 ≤ 7202922; omega⟩) kx_no (fun r4 S3 H locs P hE hw => ?_)
  have p_u1 : pI S3 8 u1 := pI_x hE p_u1
  have p_u2 : pI S3 9 u2 := pI_x hE p_u2
  have p_u3 : pI S3 16 u3 := pI_x hE p_u3
  have p_u4 : pI S3 17 u4 := pI_x hE p_u4
  refine lv_istore (lv' := [(7, .int r4), (6, .int r2), (0, .ref b), (1, .ref u1), (2, .ref u2), (3, .ref u3), (4, .ref u4), (5, .int y5)]) hx hb dL_law_449 hl (by decide) rfl (fun ls hl => ?_)
  refine lv_goto (tgt := 1227) hx hb dL_law_451 (by decide) ?_
  exact tL_law_1227 C hr hX hbl c0 s0 k28 kh28 S3 u1 u2 u3 u4 y5 p_u1 p_u2 p_u3 p_u4 P (lv_sub hl [2, 3, 4, 5, 6, 7] rfl) (by omega) (by omega) h0 hs0 hw
def wL_law_454 (L : Nat) (xs : Nat → Int32) (k28 : MS → Nat → Nat → Nat → Nat → Int32 → Prop) (S : MS) (u1 : Nat) (u2 : Nat) (u3 : Nat) (u4 : Nat) (y5 : Int32) : Prop := wp_X8_unitCount (fun r2 S1 => wp_X9_unitCount (fun r4 S3 => wL_law_1227 L xs k28 S3 u1 u2 u3 u4 y5) (fun _ _ => False) S1 u2) (fun _ _ => False) S u1
set_option maxHeartbeats 8000000 in
set_option maxRecDepth 100000 in
theorem tL_law_454 {p : Program} {l : Launch} {e : Env} {s : State} {m : MethodId} {below : List Frame} {meth : Method} {c : Code} {H : Heap} {locs : List Loc} {cells slots : Nat} {G : GP} {S0 : MS} {ls : Array Slot} {b L : Nat} {xs : Nat → Int32} (C : CF p l s m #[Value.ref b] meth c "SkirmishGridLaw" code 9 G (fun q => s.heap.size ≤ q)) (hr : meth.sig.returnType = ret) (hX : va_X b L xs s s.heap) (hbl : b < s.heap.size) (c0 s0 : Nat) (k28 : MS → Nat → Nat → Nat → Nat → Int32 → Prop) (kh28 : ∀ (S : MS) (u1 : Nat) (u2 : Nat) (u3 : Nat) (u4 : Nat) (y5 : Int32) (cells slots : Nat) (H : Heap) (locs : List Loc) (ls : Array Slot), pI S 8 u1 → pI S 9 u2 → pI S 16 u3 → pI S 17 u4 → PW G (fun q => s.heap.size ≤ q) s H locs S0 S → lv_has ls 9 [(0, .ref b), (1, .ref u1), (2, .ref u2), (3, .ref u3), (4, .ref u4), (5, .int y5)] → cells ≤ c0 + 5 → slots ≤ s0 + 30 → k28 S u1 u2 u3 u4 y5 → W p l e room_1 s m #[Value.ref b] below meth c H locs cells slots (lw_Z below #[Value.ref b] s) (F0 m 28 ls [])) (S : MS) (u1 : Nat) (u2 : Nat) (u3 : Nat) (u4 : Nat) (y5 : Int32) (p_u1 : pI S 8 u1) (p_u2 : pI S 9 u2) (p_u3 : pI S 16 u3) (p_u4 : pI S 17 u4) (P : PW G (fun q => s.heap.size ≤ q) s H locs S0 S) (hl : lv_has ls 9 [(0, .ref b), (1, .ref u1), (2, .ref u2), (3, .ref u3), (4, .ref u4), (5, .int y5)]) (hcc : cells + 0 ≤ c0 + 5) (hss : slots + 0 ≤ s0 + 30) (h0 : c0 + 5 ≤ 603072) (hs0 : s0 + 30 ≤ 7202922) (hw : wL_law_454 L xs k28 S u1 u2 u3 u4 y5) : W p l e room_1 s m #[Value.ref b] below meth c H locs cells slots (lw_Z below #[Value.ref b] s) (F0 m 454 ls []) := by
  have hx := CF_x C
  have hb := CF_b C
  unfold wL_law_454 at hw
  refine lv_aload_n hx hb dL_law_454 rfl (lv_at hl 1 rfl) ?_
  refine cl_i C P (run_V C P hl.1 (kd := 8) (met_X8_unitCount (CF_n C) G H.size _ _ S u1 p_u1 hw) p_u1 (by decide) rfl q_339 q_340 q_341 q_1 q_342 cd_X8_unitCount ⟨(Nat.le_of_ble_eq_true rfl), (Nat.le_of_ble_eq_true rfl)⟩ rfl rfl (As := []) (rest := []) rfl rfl (Nat.le_of_ble_eq_true rfl) dL_law_455 ⟨by show cells + 0 ≤ 603072; omega, by show slots + 0 ≤ 7202922; omega⟩) kx_no (fun r2 S1 H locs P hE hw => ?_)
  have p_u1 : pI S1 8 u1 := pI_x hE p_u1
  have p_u2 : pI S1 9 u2 := pI_x hE p_u2
  have p_u3 : pI S1 16 u3 := pI_x hE p_u3
  have p_u4 : pI S1 17 u4 := pI_x hE p_u4
  refine lv_pop hx hb dL_law_458 rfl ?_
  refine lv_aload_n hx hb dL_law_459 rfl (lv_at hl 2 rfl) ?_
  refine cl_i C P (run_V C P hl.1 (kd := 9) (met_X9_unitCount (CF_n C) G H.size _ _ S1 u2 p_u2 hw) p_u2 (by decide) rfl q_1472 q_1473 q_1474 q_10 q_1475 cd_X9_unitCount ⟨(Nat.le_of_ble_eq_true rfl), (Nat.le_of_ble_eq_true rfl)⟩ rfl rfl (As := []) (rest := []) rfl rfl (Nat.le_of_ble_eq_true rfl) dL_law_460 ⟨by show cells + 0 ≤ 603072; omega, by show slots + 0 ≤ 7202922; omega⟩) kx_no (fun r4 S3 H locs P hE hw => ?_)
  have p_u1 : pI S3 8 u1 := pI_x hE p_u1
  have p_u2 : pI S3 9 u2 := pI_x hE p_u2
  have p_u3 : pI S3 16 u3 := pI_x hE p_u3
  have p_u4 : pI S3 17 u4 := pI_x hE p_u4
  refine lv_pop hx hb dL_law_463 rfl ?_
  refine lv_goto (tgt := 1227) hx hb dL_law_464 (by decide) ?_
  exact tL_law_1227 C hr hX hbl c0 s0 k28 kh28 S3 u1 u2 u3 u4 y5 p_u1 p_u2 p_u3 p_u4 P (lv_sub hl [0, 1, 2, 3, 4, 5] rfl) (by omega) (by omega) h0 hs0 hw
def wL_law_467 (L : Nat) (xs : Nat → Int32) (k28 : MS → Nat → Nat → Nat → Nat → Int32 → Prop) (S : MS) (u1 : Nat) (u2 : Nat) (u3 : Nat) (u4 : Nat) (y5 : Int32) : Prop := (vp_in (y5 + 1) L ∧ (vp_in (y5 + 2) L ∧ wp_L_unit (fun r2 S1 => (vp_in (y5 + 1) L ∧ (vp_in (y5 + 2) L ∧ wp_X9_unit (fun r4 S3 => wL_law_1227 L xs k28 S3 u1 u2 u3 u4 y5) (fun _ _ => False) S1 u2 (xs ((y5 + 1) : Int32).toNatClampNeg) (xs ((y5 + 2) : Int32).toNatClampNeg)))) (fun _ _ => False) S u1 (xs ((y5 + 1) : Int32).toNatClampNeg) (xs ((y5 + 2) : Int32).toNatClampNeg) u3))
set_option maxHeartbeats 8000000 in
set_option maxRecDepth 100000 in
theorem tL_law_467 {p : Program} {l : Launch} {e : Env} {s : State} {m : MethodId} {below : List Frame} {meth : Method} {c : Code} {H : Heap} {locs : List Loc} {cells slots : Nat} {G : GP} {S0 : MS} {ls : Array Slot} {b L : Nat} {xs : Nat → Int32} (C : CF p l s m #[Value.ref b] meth c "SkirmishGridLaw" code 9 G (fun q => s.heap.size ≤ q)) (hr : meth.sig.returnType = ret) (hX : va_X b L xs s s.heap) (hbl : b < s.heap.size) (c0 s0 : Nat) (k28 : MS → Nat → Nat → Nat → Nat → Int32 → Prop) (kh28 : ∀ (S : MS) (u1 : Nat) (u2 : Nat) (u3 : Nat) (u4 : Nat) (y5 : Int32) (cells slots : Nat) (H : Heap) (locs : List Loc) (ls : Array Slot), pI S 8 u1 → pI S 9 u2 → pI S 16 u3 → pI S 17 u4 → PW G (fun q => s.heap.size ≤ q) s H locs S0 S → lv_has ls 9 [(0, .ref b), (1, .ref u1), (2, .ref u2), (3, .ref u3), (4, .ref u4), (5, .int y5)] → cells ≤ c0 + 5 → slots ≤ s0 + 30 → k28 S u1 u2 u3 u4 y5 → W p l e room_1 s m #[Value.ref b] below meth c H locs cells slots (lw_Z below #[Value.ref b] s) (F0 m 28 ls [])) (S : MS) (u1 : Nat) (u2 : Nat) (u3 : Nat) (u4 : Nat) (y5 : Int32) (p_u1 : pI S 8 u1) (p_u2 : pI S 9 u2) (p_u3 : pI S 16 u3) (p_u4 : pI S 17 u4) (P : PW G (fun q => s.heap.size ≤ q) s H locs S0 S) (hl : lv_has ls 9 [(0, .ref b), (1, .ref u1), (2, .ref u2), (3, .ref u3), (4, .ref u4), (5, .int y5)]) (hcc : cells + 2 ≤ c0 + 5) (hss : slots + 12 ≤ s0 + 30) (h0 : c0 + 5 ≤ 603072) (hs0 : s0 + 30 ≤ 7202922) (hw : wL_law_467 L xs k28 S u1 u2 u3 u4 y5) : W p l e room_1 s m #[Value.ref b] below meth c H locs cells slots (lw_Z below #[Value.ref b] s) (F0 m 467 ls []) := by
  have hx := CF_x C
  have hb := CF_b C
  unfold wL_law_467 at hw
  refine lv_aload_n hx hb dL_law_467 rfl (lv_at hl 1 rfl) ?_
  refine lv_aload_n hx hb dL_law_468 rfl (lv_at hl 0 rfl) ?_
  refine lv_iload hx hb dL_law_469 (lv_at hl 5 rfl) ?_
  refine lv_iconst (v := 1) hx hb dL_law_471 (by decide) ?_
  refine lv_iadd hx hb dL_law_472 ?_
  obtain ⟨h1, hw⟩ := hw
  refine va_sld hx hb hX hbl (Nat.not_le.mpr hbl) P.2.2.1 h1 dL_law_473 ?_
  refine lv_aload_n hx hb dL_law_474 rfl (lv_at hl 0 rfl) ?_
  refine lv_iload hx hb dL_law_475 (lv_at hl 5 rfl) ?_
  refine lv_iconst (v := 2) hx hb dL_law_477 (by decide) ?_
  refine lv_iadd hx hb dL_law_478 ?_
  obtain ⟨h1, hw⟩ := hw
  refine va_sld hx hb hX hbl (Nat.not_le.mpr hbl) P.2.2.1 h1 dL_law_479 ?_
  refine lv_aload_n hx hb dL_law_480 rfl (lv_at hl 3 rfl) ?_
  refine cl_i C P (run_SX C P hl.1 (met_L_unit (CF_n C) G H.size _ _ S u1 (xs ((y5 + 1) : Int32).toNatClampNeg) (xs ((y5 + 2) : Int32).toNatClampNeg) u3 p_u1 p_u3 hw) q_805 q_806 q_0 q_807 cd_L_unit.2 ⟨(Nat.le_of_ble_eq_true rfl), (Nat.le_of_ble_eq_true rfl)⟩ rfl rfl (As := [.ref u1, .int (xs ((y5 + 1) : Int32).toNatClampNeg), .int (xs ((y5 + 2) : Int32).toNatClampNeg), .ref u3]) (rest := []) rfl rfl (Nat.le_of_ble_eq_true rfl) dL_law_481 ⟨by show cells + 2 ≤ 603072; omega, by show slots + 12 ≤ 7202922; omega⟩) kx_no (fun r2 S1 H locs P hE hw => ?_)
  have p_u1 : pI S1 8 u1 := pI_x hE p_u1
  have p_u2 : pI S1 9 u2 := pI_x hE p_u2
  have p_u3 : pI S1 16 u3 := pI_x hE p_u3
  have p_u4 : pI S1 17 u4 := pI_x hE p_u4
  refine lv_istore (lv' := [(6, .int r2), (0, .ref b), (1, .ref u1), (2, .ref u2), (3, .ref u3), (4, .ref u4), (5, .int y5)]) hx hb dL_law_484 hl (by decide) rfl (fun ls hl => ?_)
  refine lv_aload_n hx hb dL_law_486 rfl (lv_at hl 3 rfl) ?_
  refine lv_aload_n hx hb dL_law_487 rfl (lv_at hl 1 rfl) ?_
  refine lv_iload hx hb dL_law_488 (lv_at hl 6 rfl) ?_
  refine lv_iconst (v := 1) hx hb dL_law_490 (by decide) ?_
  refine lv_iadd hx hb dL_law_491 ?_
  obtain ⟨h1, hw⟩ := hw
  refine va_sld hx hb hX hbl (Nat.not_le.mpr hbl) P.2.2.1 h1 dL_law_492 ?_
  refine lv_aload_n hx hb dL_law_493 rfl (lv_at hl 1 rfl) ?_
  refine lv_iload hx hb dL_law_494 (lv_at hl 6 rfl) ?_
  refine lv_iconst (v := 2) hx hb dL_law_496 (by decide) ?_
  refine lv_iadd hx hb dL_law_497 ?_
  obtain ⟨h1, hw⟩ := hw
  refine va_sld hx hb hX hbl (Nat.not_le.mpr hbl) P.2.2.1 h1 dL_law_498 ?_
  refine cl_i C P (run_V C P hl.1 (kd := 9) (met_X9_unit (CF_n C) G H.size _ _ S1 u2 (xs ((y5 + 1) : Int32).toNatClampNeg) (xs ((y5 + 2) : Int32).toNatClampNeg) p_u2 hw) p_u2 (by decide) rfl q_1476 q_1477 q_1478 q_10 q_1479 cd_X9_unit ⟨(Nat.le_of_ble_eq_true rfl), (Nat.le_of_ble_eq_true rfl)⟩ rfl rfl (As := [.int (xs ((y5 + 1) : Int32).toNatClampNeg), .int (xs ((y5 + 2) : Int32).toNatClampNeg)]) (rest := []) rfl rfl (Nat.le_of_ble_eq_true rfl) dL_law_499 ⟨by show cells + 2 + 0 ≤ 603072; omega, by show slots + 12 + 0 ≤ 7202922; omega⟩) kx_no (fun r4 S3 H locs P hE hw => ?_)
  have p_u1 : pI S3 8 u1 := pI_x hE p_u1
  have p_u2 : pI S3 9 u2 := pI_x hE p_u2
  have p_u3 : pI S3 16 u3 := pI_x hE p_u3
  have p_u4 : pI S3 17 u4 := pI_x hE p_u4
  refine lv_istore (lv' := [(7, .int r4), (6, .int r2), (0, .ref b), (1, .ref u1), (2, .ref u2), (3, .ref u3), (4, .ref u4), (5, .int y5)]) hx hb dL_law_502 hl (by decide) rfl (fun ls hl => ?_)
  refine lv_goto (tgt := 1227) hx hb dL_law_504 (by decide) ?_
  exact tL_law_1227 C hr hX hbl c0 s0 k28 kh28 S3 u1 u2 u3 u4 y5 p_u1 p_u2 p_u3 p_u4 P (lv_sub hl [2, 3, 4, 5, 6, 7] rfl) (by omega) (by omega) h0 hs0 hw
def wL_law_507 (L : Nat) (xs : Nat → Int32) (k28 : MS → Nat → Nat → Nat → Nat → Int32 → Prop) (S : MS) (u1 : Nat) (u2 : Nat) (u3 : Nat) (u4 : Nat) (y5 : Int32) : Prop := wp_L_begin (fun r2 S1 => wp_X9_begin (fun r4 S3 => wL_law_1227 L xs k28 S3 u1 u2 u3 u4 y5) (fun _ _ => False) S1 u2) (fun _ _ => False) S u1 u3
set_option maxHeartbeats 8000000 in
set_option maxRecDepth 100000 in
theorem tL_law_507 {p : Program} {l : Launch} {e : Env} {s : State} {m : MethodId} {below : List Frame} {meth : Method} {c : Code} {H : Heap} {locs : List Loc} {cells slots : Nat} {G : GP} {S0 : MS} {ls : Array Slot} {b L : Nat} {xs : Nat → Int32} (C : CF p l s m #[Value.ref b] meth c "SkirmishGridLaw" code 9 G (fun q => s.heap.size ≤ q)) (hr : meth.sig.returnType = ret) (hX : va_X b L xs s s.heap) (hbl : b < s.heap.size) (c0 s0 : Nat) (k28 : MS → Nat → Nat → Nat → Nat → Int32 → Prop) (kh28 : ∀ (S : MS) (u1 : Nat) (u2 : Nat) (u3 : Nat) (u4 : Nat) (y5 : Int32) (cells slots : Nat) (H : Heap) (locs : List Loc) (ls : Array Slot), pI S 8 u1 → pI S 9 u2 → pI S 16 u3 → pI S 17 u4 → PW G (fun q => s.heap.size ≤ q) s H locs S0 S → lv_has ls 9 [(0, .ref b), (1, .ref u1), (2, .ref u2), (3, .ref u3), (4, .ref u4), (5, .int y5)] → cells ≤ c0 + 5 → slots ≤ s0 + 30 → k28 S u1 u2 u3 u4 y5 → W p l e room_1 s m #[Value.ref b] below meth c H locs cells slots (lw_Z below #[Value.ref b] s) (F0 m 28 ls [])) (S : MS) (u1 : Nat) (u2 : Nat) (u3 : Nat) (u4 : Nat) (y5 : Int32) (p_u1 : pI S 8 u1) (p_u2 : pI S 9 u2) (p_u3 : pI S 16 u3) (p_u4 : pI S 17 u4) (P : PW G (fun q => s.heap.size ≤ q) s H locs S0 S) (hl : lv_has ls 9 [(0, .ref b), (1, .ref u1), (2, .ref u2), (3, .ref u3), (4, .ref u4), (5, .int y5)]) (hcc : cells + 1 ≤ c0 + 5) (hss : slots + 6 ≤ s0 + 30) (h0 : c0 + 5 ≤ 603072) (hs0 : s0 + 30 ≤ 7202922) (hw : wL_law_507 L xs k28 S u1 u2 u3 u4 y5) : W p l e room_1 s m #[Value.ref b] below meth c H locs cells slots (lw_Z below #[Value.ref b] s) (F0 m 507 ls []) := by
  have hx := CF_x C
  have hb := CF_b C
  unfold wL_law_507 at hw
  refine lv_aload_n hx hb dL_law_507 rfl (lv_at hl 1 rfl) ?_
  refine lv_aload_n hx hb dL_law_508 rfl (lv_at hl 3 rfl) ?_
  refine cl_i C P (run_SX C P hl.1 (met_L_begin (CF_n C) G H.size _ _ S u1 u3 p_u1 p_u3 hw) q_822 q_823 q_0 q_824 cd_L_begin.2 ⟨(Nat.le_of_ble_eq_true rfl), (Nat.le_of_ble_eq_true rfl)⟩ rfl rfl (As := [.ref u1, .ref u3]) (rest := []) rfl rfl (Nat.le_of_ble_eq_true rfl) dL_law_509 ⟨by show cells + 1 ≤ 603072; omega, by show slots + 6 ≤ 7202922; omega⟩) kx_no (fun r2 S1 H locs P hE hw => ?_)
  have p_u1 : pI S1 8 u1 := pI_x hE p_u1
  have p_u2 : pI S1 9 u2 := pI_x hE p_u2
  have p_u3 : pI S1 16 u3 := pI_x hE p_u3
  have p_u4 : pI S1 17 u4 := pI_x hE p_u4
  refine lv_istore (lv' := [(6, .int r2), (0, .ref b), (1, .ref u1), (2, .ref u2), (3, .ref u3), (4, .ref u4), (5, .int y5)]) hx hb dL_law_512 hl (by decide) rfl (fun ls hl => ?_)
  refine lv_aload_n hx hb dL_law_514 rfl (lv_at hl 3 rfl) ?_
  refine cl_i C P (run_V C P hl.1 (kd := 9) (met_X9_begin (CF_n C) G H.size _ _ S1 u2 p_u2 hw) p_u2 (by decide) rfl q_1508 q_1509 q_1510 q_10 q_1511 cd_X9_begin ⟨(Nat.le_of_ble_eq_true rfl), (Nat.le_of_ble_eq_true rfl)⟩ rfl rfl (As := []) (rest := []) rfl rfl (Nat.le_of_ble_eq_true rfl) dL_law_515 ⟨by show cells + 1 + 0 ≤ 603072; omega, by show slots + 6 + 0 ≤ 7202922; omega⟩) kx_no (fun r4 S3 H locs P hE hw => ?_)
  have p_u1 : pI S3 8 u1 := pI_x hE p_u1
  have p_u2 : pI S3 9 u2 := pI_x hE p_u2
  have p_u3 : pI S3 16 u3 := pI_x hE p_u3
  have p_u4 : pI S3 17 u4 := pI_x hE p_u4
  refine lv_istore (lv' := [(7, .int r4), (6, .int r2), (0, .ref b), (1, .ref u1), (2, .ref u2), (3, .ref u3), (4, .ref u4), (5, .int y5)]) hx hb dL_law_518 hl (by decide) rfl (fun ls hl => ?_)
  refine lv_goto (tgt := 1227) hx hb dL_law_520 (by decide) ?_
  exact tL_law_1227 C hr hX hbl c0 s0 k28 kh28 S3 u1 u2 u3 u4 y5 p_u1 p_u2 p_u3 p_u4 P (lv_sub hl [2, 3, 4, 5, 6, 7] rfl) (by omega) (by omega) h0 hs0 hw
def wL_law_523 (L : Nat) (xs : Nat → Int32) (k28 : MS → Nat → Nat → Nat → Nat → Int32 → Prop) (S : MS) (u1 : Nat) (u2 : Nat) (u3 : Nat) (u4 : Nat) (y5 : Int32) : Prop := wp_X8_condition (fun r2 S1 => wp_X9_condition (fun r4 S3 => wL_law_1227 L xs k28 S3 u1 u2 u3 u4 y5) (fun _ _ => False) S1 u2) (fun _ _ => False) S u1
set_option maxHeartbeats 8000000 in
set_option maxRecDepth 100000 in
theorem tL_law_523 {p : Program} {l : Launch} {e : Env} {s : State} {m : MethodId} {below : List Frame} {meth : Method} {c : Code} {H : Heap} {locs : List Loc} {cells slots : Nat} {G : GP} {S0 : MS} {ls : Array Slot} {b L : Nat} {xs : Nat → Int32} (C : CF p l s m #[Value.ref b] meth c "SkirmishGridLaw" code 9 G (fun q => s.heap.size ≤ q)) (hr : meth.sig.returnType = ret) (hX : va_X b L xs s s.heap) (hbl : b < s.heap.size) (c0 s0 : Nat) (k28 : MS → Nat → Nat → Nat → Nat → Int32 → Prop) (kh28 : ∀ (S : MS) (u1 : Nat) (u2 : Nat) (u3 : Nat) (u4 : Nat) (y5 : Int32) (cells slots : Nat) (H : Heap) (locs : List Loc) (ls : Array Slot), pI S 8 u1 → pI S 9 u2 → pI S 16 u3 → pI S 17 u4 → PW G (fun q => s.heap.size ≤ q) s H locs S0 S → lv_has ls 9 [(0, .ref b), (1, .ref u1), (2, .ref u2), (3, .ref u3), (4, .ref u4), (5, .int y5)] → cells ≤ c0 + 5 → slots ≤ s0 + 30 → k28 S u1 u2 u3 u4 y5 → W p l e room_1 s m #[Value.ref b] below meth c H locs cells slots (lw_Z below #[Value.ref b] s) (F0 m 28 ls [])) (S : MS) (u1 : Nat) (u2 : Nat) (u3 : Nat) (u4 : Nat) (y5 : Int32) (p_u1 : pI S 8 u1) (p_u2 : pI S 9 u2) (p_u3 : pI S 16 u3) (p_u4 : pI S 17 u4) (P : PW G (fun q => s.heap.size ≤ q) s H locs S0 S) (hl : lv_has ls 9 [(0, .ref b), (1, .ref u1), (2, .ref u2), (3, .ref u3), (4, .ref u4), (5, .int y5)]) (hcc : cells + 0 ≤ c0 + 5) (hss : slots + 0 ≤ s0 + 30) (h0 : c0 + 5 ≤ 603072) (hs0 : s0 + 30 ≤ 7202922) (hw : wL_law_523 L xs k28 S u1 u2 u3 u4 y5) : W p l e room_1 s m #[Value.ref b] below meth c H locs cells slots (lw_Z below #[Value.ref b] s) (F0 m 523 ls []) := by
  have hx := CF_x C
  have hb := CF_b C
  unfold wL_law_523 at hw
  refine lv_aload_n hx hb dL_law_523 rfl (lv_at hl 1 rfl) ?_
  refine cl_i C P (run_V C P hl.1 (kd := 8) (met_X8_condition (CF_n C) G H.size _ _ S u1 p_u1 hw) p_u1 (by decide) rfl q_343 q_344 q_345 q_1 q_346 cd_X8_condition ⟨(Nat.le_of_ble_eq_true rfl), (Nat.le_of_ble_eq_true rfl)⟩ rfl rfl (As := []) (rest := []) rfl rfl (Nat.le_of_ble_eq_true rfl) dL_law_524 ⟨by show cells + 0 ≤ 603072; omega, by show slots + 0 ≤ 7202922; omega⟩) kx_no (fun r2 S1 H locs P hE hw => ?_)
  have p_u1 : pI S1 8 u1 := pI_x hE p_u1
  have p_u2 : pI S1 9 u2 := pI_x hE p_u2
  have p_u3 : pI S1 16 u3 := pI_x hE p_u3
  have p_u4 : pI S1 17 u4 := pI_x hE p_u4
  refine lv_pop hx hb dL_law_527 rfl ?_
  refine lv_aload_n hx hb dL_law_528 rfl (lv_at hl 2 rfl) ?_
  refine cl_i C P (run_V C P hl.1 (kd := 9) (met_X9_condition (CF_n C) G H.size _ _ S1 u2 p_u2 hw) p_u2 (by decide) rfl q_1484 q_1485 q_1486 q_10 q_1487 cd_X9_condition ⟨(Nat.le_of_ble_eq_true rfl), (Nat.le_of_ble_eq_true rfl)⟩ rfl rfl (As := []) (rest := []) rfl rfl (Nat.le_of_ble_eq_true rfl) dL_law_529 ⟨by show cells + 0 ≤ 603072; omega, by show slots + 0 ≤ 7202922; omega⟩) kx_no (fun r4 S3 H locs P hE hw => ?_)
  have p_u1 : pI S3 8 u1 := pI_x hE p_u1
  have p_u2 : pI S3 9 u2 := pI_x hE p_u2
  have p_u3 : pI S3 16 u3 := pI_x hE p_u3
  have p_u4 : pI S3 17 u4 := pI_x hE p_u4
  refine lv_pop hx hb dL_law_532 rfl ?_
  refine lv_goto (tgt := 1227) hx hb dL_law_533 (by decide) ?_
  exact tL_law_1227 C hr hX hbl c0 s0 k28 kh28 S3 u1 u2 u3 u4 y5 p_u1 p_u2 p_u3 p_u4 P (lv_sub hl [0, 1, 2, 3, 4, 5] rfl) (by omega) (by omega) h0 hs0 hw
def wL_law_536 (L : Nat) (xs : Nat → Int32) (k28 : MS → Nat → Nat → Nat → Nat → Int32 → Prop) (S : MS) (u1 : Nat) (u2 : Nat) (u3 : Nat) (u4 : Nat) (y5 : Int32) : Prop := wp_X8_round (fun r2 S1 => wp_X9_round (fun r4 S3 => wL_law_1227 L xs k28 S3 u1 u2 u3 u4 y5) (fun _ _ => False) S1 u2) (fun _ _ => False) S u1
set_option maxHeartbeats 8000000 in
set_option maxRecDepth 100000 in
theorem tL_law_536 {p : Program} {l : Launch} {e : Env} {s : State} {m : MethodId} {below : List Frame} {meth : Method} {c : Code} {H : Heap} {locs : List Loc} {cells slots : Nat} {G : GP} {S0 : MS} {ls : Array Slot} {b L : Nat} {xs : Nat → Int32} (C : CF p l s m #[Value.ref b] meth c "SkirmishGridLaw" code 9 G (fun q => s.heap.size ≤ q)) (hr : meth.sig.returnType = ret) (hX : va_X b L xs s s.heap) (hbl : b < s.heap.size) (c0 s0 : Nat) (k28 : MS → Nat → Nat → Nat → Nat → Int32 → Prop) (kh28 : ∀ (S : MS) (u1 : Nat) (u2 : Nat) (u3 : Nat) (u4 : Nat) (y5 : Int32) (cells slots : Nat) (H : Heap) (locs : List Loc) (ls : Array Slot), pI S 8 u1 → pI S 9 u2 → pI S 16 u3 → pI S 17 u4 → PW G (fun q => s.heap.size ≤ q) s H locs S0 S → lv_has ls 9 [(0, .ref b), (1, .ref u1), (2, .ref u2), (3, .ref u3), (4, .ref u4), (5, .int y5)] → cells ≤ c0 + 5 → slots ≤ s0 + 30 → k28 S u1 u2 u3 u4 y5 → W p l e room_1 s m #[Value.ref b] below meth c H locs cells slots (lw_Z below #[Value.ref b] s) (F0 m 28 ls [])) (S : MS) (u1 : Nat) (u2 : Nat) (u3 : Nat) (u4 : Nat) (y5 : Int32) (p_u1 : pI S 8 u1) (p_u2 : pI S 9 u2) (p_u3 : pI S 16 u3) (p_u4 : pI S 17 u4) (P : PW G (fun q => s.heap.size ≤ q) s H locs S0 S) (hl : lv_has ls 9 [(0, .ref b), (1, .ref u1), (2, .ref u2), (3, .ref u3), (4, .ref u4), (5, .int y5)]) (hcc : cells + 0 ≤ c0 + 5) (hss : slots + 0 ≤ s0 + 30) (h0 : c0 + 5 ≤ 603072) (hs0 : s0 + 30 ≤ 7202922) (hw : wL_law_536 L xs k28 S u1 u2 u3 u4 y5) : W p l e room_1 s m #[Value.ref b] below meth c H locs cells slots (lw_Z below #[Value.ref b] s) (F0 m 536 ls []) := by
  have hx := CF_x C
  have hb := CF_b C
  unfold wL_law_536 at hw
  refine lv_aload_n hx hb dL_law_536 rfl (lv_at hl 1 rfl) ?_
  refine cl_i C P (run_V C P hl.1 (kd := 8) (met_X8_round (CF_n C) G H.size _ _ S u1 p_u1 hw) p_u1 (by decide) rfl q_359 q_360 q_361 q_1 q_362 cd_X8_round ⟨(Nat.le_of_ble_eq_true rfl), (Nat.le_of_ble_eq_true rfl)⟩ rfl rfl (As := []) (rest := []) rfl rfl (Nat.le_of_ble_eq_true rfl) dL_law_537 ⟨by show cells + 0 ≤ 603072; omega, by show slots + 0 ≤ 7202922; omega⟩) kx_no (fun r2 S1 H locs P hE hw => ?_)
  have p_u1 : pI S1 8 u1 := pI_x hE p_u1
  have p_u2 : pI S1 9 u2 := pI_x hE p_u2
  have p_u3 : pI S1 16 u3 := pI_x hE p_u3
  have p_u4 : pI S1 17 u4 := pI_x hE p_u4
  refine lv_pop hx hb dL_law_540 rfl ?_
  refine lv_aload_n hx hb dL_law_541 rfl (lv_at hl 2 rfl) ?_
  refine cl_i C P (run_V C P hl.1 (kd := 9) (met_X9_round (CF_n C) G H.size _ _ S1 u2 p_u2 hw) p_u2 (by decide) rfl q_1496 q_1497 q_1498 q_10 q_1499 cd_X9_round ⟨(Nat.le_of_ble_eq_true rfl), (Nat.le_of_ble_eq_true rfl)⟩ rfl rfl (As := []) (rest := []) rfl rfl (Nat.le_of_ble_eq_true rfl) dL_law_542 ⟨by show cells + 0 ≤ 603072; omega, by show slots + 0 ≤ 7202922; omega⟩) kx_no (fun r4 S3 H locs P hE hw => ?_)
  have p_u1 : pI S3 8 u1 := pI_x hE p_u1
  have p_u2 : pI S3 9 u2 := pI_x hE p_u2
  have p_u3 : pI S3 16 u3 := pI_x hE p_u3
  have p_u4 : pI S3 17 u4 := pI_x hE p_u4
  refine lv_pop hx hb dL_law_545 rfl ?_
  refine lv_goto (tgt := 1227) hx hb dL_law_546 (by decide) ?_
  exact tL_law_1227 C hr hX hbl c0 s0 k28 kh28 S3 u1 u2 u3 u4 y5 p_u1 p_u2 p_u3 p_u4 P (lv_sub hl [0, 1, 2, 3, 4, 5] rfl) (by omega) (by omega) h0 hs0 hw
def wL_law_549 (L : Nat) (xs : Nat → Int32) (k28 : MS → Nat → Nat → Nat → Nat → Int32 → Prop) (S : MS) (u1 : Nat) (u2 : Nat) (u3 : Nat) (u4 : Nat) (y5 : Int32) : Prop := wp_L_current (fun r2 S1 => wp_X9_current (fun r4 S3 => wL_law_1227 L xs k28 S3 u1 u2 u3 u4 y5) (fun _ _ => False) S1 u2) (fun _ _ => False) S u1 u3
set_option maxHeartbeats 8000000 in
set_option maxRecDepth 100000 in
theorem tL_law_549 {p : Program} {l : Launch} {e : Env} {s : State} {m : MethodId} {below : List Frame} {meth : Method} {c : Code} {H : Heap} {locs : List Loc} {cells slots : Nat} {G : GP} {S0 : MS} {ls : Array Slot} {b L : Nat} {xs : Nat → Int32} (C : CF p l s m #[Value.ref b] meth c "SkirmishGridLaw" code 9 G (fun q => s.heap.size ≤ q)) (hr : meth.sig.returnType = ret) (hX : va_X b L xs s s.heap) (hbl : b < s.heap.size) (c0 s0 : Nat) (k28 : MS → Nat → Nat → Nat → Nat → Int32 → Prop) (kh28 : ∀ (S : MS) (u1 : Nat) (u2 : Nat) (u3 : Nat) (u4 : Nat) (y5 : Int32) (cells slots : Nat) (H : Heap) (locs : List Loc) (ls : Array Slot), pI S 8 u1 → pI S 9 u2 → pI S 16 u3 → pI S 17 u4 → PW G (fun q => s.heap.size ≤ q) s H locs S0 S → lv_has ls 9 [(0, .ref b), (1, .ref u1), (2, .ref u2), (3, .ref u3), (4, .ref u4), (5, .int y5)] → cells ≤ c0 + 5 → slots ≤ s0 + 30 → k28 S u1 u2 u3 u4 y5 → W p l e room_1 s m #[Value.ref b] below meth c H locs cells slots (lw_Z below #[Value.ref b] s) (F0 m 28 ls [])) (S : MS) (u1 : Nat) (u2 : Nat) (u3 : Nat) (u4 : Nat) (y5 : Int32) (p_u1 : pI S 8 u1) (p_u2 : pI S 9 u2) (p_u3 : pI S 16 u3) (p_u4 : pI S 17 u4) (P : PW G (fun q => s.heap.size ≤ q) s H locs S0 S) (hl : lv_has ls 9 [(0, .ref b), (1, .ref u1), (2, .ref u2), (3, .ref u3), (4, .ref u4), (5, .int y5)]) (hcc : cells + 1 ≤ c0 + 5) (hss : slots + 6 ≤ s0 + 30) (h0 : c0 + 5 ≤ 603072) (hs0 : s0 + 30 ≤ 7202922) (hw : wL_law_549 L xs k28 S u1 u2 u3 u4 y5) : W p l e room_1 s m #[Value.ref b] below meth c H locs cells slots (lw_Z below #[Value.ref b] s) (F0 m 549 ls []) := by
  have hx := CF_x C
  have hb := CF_b C
  unfold wL_law_549 at hw
  refine lv_aload_n hx hb dL_law_549 rfl (lv_at hl 1 rfl) ?_
  refine lv_aload_n hx hb dL_law_550 rfl (lv_at hl 3 rfl) ?_
  refine cl_i C P (run_SX C P hl.1 (met_L_current (CF_n C) G H.size _ _ S u1 u3 p_u1 p_u3 hw) q_871 q_872 q_0 q_873 cd_L_current.2 ⟨(Nat.le_of_ble_eq_true rfl), (Nat.le_of_ble_eq_true rfl)⟩ rfl rfl (As := [.ref u1, .ref u3]) (rest := []) rfl rfl (Nat.le_of_ble_eq_true rfl) dL_law_551 ⟨by show cells + 1 ≤ 603072; omega, by show slots + 6 ≤ 7202922; omega⟩) kx_no (fun r2 S1 H locs P hE hw => ?_)
  have p_u1 : pI S1 8 u1 := pI_x hE p_u1
  have p_u2 : pI S1 9 u2 := pI_x hE p_u2
  have p_u3 : pI S1 16 u3 := pI_x hE p_u3
  have p_u4 : pI S1 17 u4 := pI_x hE p_u4
  refine lv_istore (lv' := [(6, .int r2), (0, .ref b), (1, .ref u1), (2, .ref u2), (3, .ref u3), (4, .ref u4), (5, .int y5)]) hx hb dL_law_554 hl (by decide) rfl (fun ls hl => ?_)
  refine lv_aload_n hx hb dL_law_556 rfl (lv_at hl 3 rfl) ?_
  refine cl_i C P (run_V C P hl.1 (kd := 9) (met_X9_current (CF_n C) G H.size _ _ S1 u2 p_u2 hw) p_u2 (by decide) rfl q_1500 q_1501 q_1502 q_10 q_1503 cd_X9_current ⟨(Nat.le_of_ble_eq_true rfl), (Nat.le_of_ble_eq_true rfl)⟩ rfl rfl (As := []) (rest := []) rfl rfl (Nat.le_of_ble_eq_true rfl) dL_law_557 ⟨by show cells + 1 + 0 ≤ 603072; omega, by show slots + 6 + 0 ≤ 7202922; omega⟩) kx_no (fun r4 S3 H locs P hE hw => ?_)
  have p_u1 : pI S3 8 u1 := pI_x hE p_u1
  have p_u2 : pI S3 9 u2 := pI_x hE p_u2
  have p_u3 : pI S3 16 u3 := pI_x hE p_u3
  have p_u4 : pI S3 17 u4 := pI_x hE p_u4
  refine lv_istore (lv' := [(7, .int r4), (6, .int r2), (0, .ref b), (1, .ref u1), (2, .ref u2), (3, .ref u3), (4, .ref u4), (5, .int y5)]) hx hb dL_law_560 hl (by decide) rfl (fun ls hl => ?_)
  refine lv_goto (tgt := 1227) hx hb dL_law_562 (by decide) ?_
  exact tL_law_1227 C hr hX hbl c0 s0 k28 kh28 S3 u1 u2 u3 u4 y5 p_u1 p_u2 p_u3 p_u4 P (lv_sub hl [2, 3, 4, 5, 6, 7] rfl) (by omega) (by omega) h0 hs0 hw
def wL_law_565 (L : Nat) (xs : Nat → Int32) (k28 : MS → Nat → Nat → Nat → Nat → Int32 → Prop) (S : MS) (u1 : Nat) (u2 : Nat) (u3 : Nat) (u4 : Nat) (y5 : Int32) : Prop := (vp_in (y5 + 1) L ∧ wp_L_order (fun r2 S1 => (vp_in (y5 + 1) L ∧ wp_X9_order (fun r4 S3 => wL_law_1227 L xs k28 S3 u1 u2 u3 u4 y5) (fun _ _ => False) S1 u2 (xs ((y5 + 1) : Int32).toNatClampNeg))) (fun _ _ => False) S u1 (xs ((y5 + 1) : Int32).toNatClampNeg) u3)
set_option maxHeartbeats 8000000 in
set_option maxRecDepth 100000 in
theorem tL_law_565 {p : Program} {l : Launch} {e : Env} {s : State} {m : MethodId} {below : List Frame} {meth : Method} {c : Code} {H : Heap} {locs : List Loc} {cells slots : Nat} {G : GP} {S0 : MS} {ls : Array Slot} {b L : Nat} {xs : Nat → Int32} (C : CF p l s m #[Value.ref b] meth c "SkirmishGridLaw" code 9 G (fun q => s.heap.size ≤ q)) (hr : meth.sig.returnType = ret) (hX : va_X b L xs s s.heap) (hbl : b < s.heap.size) (c0 s0 : Nat) (k28 : MS → Nat → Nat → Nat → Nat → Int32 → Prop) (kh28 : ∀ (S : MS) (u1 : Nat) (u2 : Nat) (u3 : Nat) (u4 : Nat) (y5 : Int32) (cells slots : Nat) (H : Heap) (locs : List Loc) (ls : Array Slot), pI S 8 u1 → pI S 9 u2 → pI S 16 u3 → pI S 17 u4 → PW G (fun q => s.heap.size ≤ q) s H locs S0 S → lv_has ls 9 [(0, .ref b), (1, .ref u1), (2, .ref u2), (3, .ref u3), (4, .ref u4), (5, .int y5)] → cells ≤ c0 + 5 → slots ≤ s0 + 30 → k28 S u1 u2 u3 u4 y5 → W p l e room_1 s m #[Value.ref b] below meth c H locs cells slots (lw_Z below #[Value.ref b] s) (F0 m 28 ls [])) (S : MS) (u1 : Nat) (u2 : Nat) (u3 : Nat) (u4 : Nat) (y5 : Int32) (p_u1 : pI S 8 u1) (p_u2 : pI S 9 u2) (p_u3 : pI S 16 u3) (p_u4 : pI S 17 u4) (P : PW G (fun q => s.heap.size ≤ q) s H locs S0 S) (hl : lv_has ls 9 [(0, .ref b), (1, .ref u1), (2, .ref u2), (3, .ref u3), (4, .ref u4), (5, .int y5)]) (hcc : cells + 1 ≤ c0 + 5) (hss : slots + 6 ≤ s0 + 30) (h0 : c0 + 5 ≤ 603072) (hs0 : s0 + 30 ≤ 7202922) (hw : wL_law_565 L xs k28 S u1 u2 u3 u4 y5) : W p l e room_1 s m #[Value.ref b] below meth c H locs cells slots (lw_Z below #[Value.ref b] s) (F0 m 565 ls []) := by
  have hx := CF_x C
  have hb := CF_b C
  unfold wL_law_565 at hw
  refine lv_aload_n hx hb dL_law_565 rfl (lv_at hl 1 rfl) ?_
  refine lv_aload_n hx hb dL_law_566 rfl (lv_at hl 0 rfl) ?_
  refine lv_iload hx hb dL_law_567 (lv_at hl 5 rfl) ?_
  refine lv_iconst (v := 1) hx hb dL_law_569 (by decide) ?_
  refine lv_iadd hx hb dL_law_570 ?_
  obtain ⟨h1, hw⟩ := hw
  refine va_sld hx hb hX hbl (Nat.not_le.mpr hbl) P.2.2.1 h1 dL_law_571 ?_
  refine lv_aload_n hx hb dL_law_572 rfl (lv_at hl 3 rfl) ?_
  refine cl_i C P (run_SX C P hl.1 (met_L_order (CF_n C) G H.size _ _ S u1 (xs ((y5 + 1) : Int32).toNatClampNeg) u3 p_u1 p_u3 hw) q_883 q_884 q_0 q_885 cd_L_order.2 ⟨(Nat.le_of_ble_eq_true rfl), (Nat.le_of_ble_eq_true rfl)⟩ rfl rfl (As := [.ref u1, .int (xs ((y5 + 1) : Int32).toNatClampNeg), .ref u3]) (rest := []) rfl rfl (Nat.le_of_ble_eq_true rfl) dL_law_573 ⟨by show cells + 1 ≤ 603072; omega, by show slots + 6 ≤ 7202922; omega⟩) kx_no (fun r2 S1 H locs P hE hw => ?_)
  have p_u1 : pI S1 8 u1 := pI_x hE p_u1
  have p_u2 : pI S1 9 u2 := pI_x hE p_u2
  have p_u3 : pI S1 16 u3 := pI_x hE p_u3
  have p_u4 : pI S1 17 u4 := pI_x hE p_u4
  refine lv_istore (lv' := [(6, .int r2), (0, .ref b), (1, .ref u1), (2, .ref u2), (3, .ref u3), (4, .ref u4), (5, .int y5)]) hx hb dL_law_576 hl (by decide) rfl (fun ls hl => ?_)
  refine lv_aload_n hx hb dL_law_578 rfl (lv_at hl 3 rfl) ?_
  refine lv_aload_n hx hb dL_law_579 rfl (lv_at hl 1 rfl) ?_
  refine lv_iload hx hb dL_law_580 (lv_at hl 6 rfl) ?_
  refine lv_iconst (v := 1) hx hb dL_law_582 (by decide) ?_
  refine lv_iadd hx hb dL_law_583 ?_
  obtain ⟨h1, hw⟩ := hw
  refine va_sld hx hb hX hbl (Nat.not_le.mpr hbl) P.2.2.1 h1 dL_law_584 ?_
  refine cl_i C P (run_V C P hl.1 (kd := 9) (met_X9_order (CF_n C) G H.size _ _ S1 u2 (xs ((y5 + 1) : Int32).toNatClampNeg) p_u2 hw) p_u2 (by decide) rfl q_1504 q_1505 q_1506 q_10 q_1507 cd_X9_order ⟨(Nat.le_of_ble_eq_true rfl), (Nat.le_of_ble_eq_true rfl)⟩ rfl rfl (As := [.int (xs ((y5 + 1) : Int32).toNatClampNeg)]) (rest := []) rfl rfl (Nat.le_of_ble_eq_true rfl) dL_law_585 ⟨by show cells + 1 + 0 ≤ 603072; omega, by show slots + 6 + 0 ≤ 7202922; omega⟩) kx_no (fun r4 S3 H locs P hE hw => ?_)
  have p_u1 : pI S3 8 u1 := pI_x hE p_u1
  have p_u2 : pI S3 9 u2 := pI_x hE p_u2
  have p_u3 : pI S3 16 u3 := pI_x hE p_u3
  have p_u4 : pI S3 17 u4 := pI_x hE p_u4
  refine lv_istore (lv' := [(7, .int r4), (6, .int r2), (0, .ref b), (1, .ref u1), (2, .ref u2), (3, .ref u3), (4, .ref u4), (5, .int y5)]) hx hb dL_law_588 hl (by decide) rfl (fun ls hl => ?_)
  refine lv_goto (tgt := 1227) hx hb dL_law_590 (by decide) ?_
  exact tL_law_1227 C hr hX hbl c0 s0 k28 kh28 S3 u1 u2 u3 u4 y5 p_u1 p_u2 p_u3 p_u4 P (lv_sub hl [2, 3, 4, 5, 6, 7] rfl) (by omega) (by omega) h0 hs0 hw
def wL_law_593 (L : Nat) (xs : Nat → Int32) (k28 : MS → Nat → Nat → Nat → Nat → Int32 → Prop) (S : MS) (u1 : Nat) (u2 : Nat) (u3 : Nat) (u4 : Nat) (y5 : Int32) : Prop := (vp_in (y5 + 1) L ∧ wp_L_costs (fun r2 S1 => (vp_in (y5 + 1) L ∧ wp_X9_costs (fun r4 S3 => wL_law_1227 L xs k28 S3 u1 u2 u3 u4 y5) (fun _ _ => False) S1 u2 (xs ((y5 + 1) : Int32).toNatClampNeg))) (fun _ _ => False) S u1 (xs ((y5 + 1) : Int32).toNatClampNeg) u3)
set_option maxHeartbeats 8000000 in
set_option maxRecDepth 100000 in
theorem tL_law_593 {p : Program} {l : Launch} {e : Env} {s : State} {m : MethodId} {below : List Frame} {meth : Method} {c : Code} {H : Heap} {locs : List Loc} {cells slots : Nat} {G : GP} {S0 : MS} {ls : Array Slot} {b L : Nat} {xs : Nat → Int32} (C : CF p l s m #[Value.ref b] meth c "SkirmishGridLaw" code 9 G (fun q => s.heap.size ≤ q)) (hr : meth.sig.returnType = ret) (hX : va_X b L xs s s.heap) (hbl : b < s.heap.size) (c0 s0 : Nat) (k28 : MS → Nat → Nat → Nat → Nat → Int32 → Prop) (kh28 : ∀ (S : MS) (u1 : Nat) (u2 : Nat) (u3 : Nat) (u4 : Nat) (y5 : Int32) (cells slots : Nat) (H : Heap) (locs : List Loc) (ls : Array Slot), pI S 8 u1 → pI S 9 u2 → pI S 16 u3 → pI S 17 u4 → PW G (fun q => s.heap.size ≤ q) s H locs S0 S → lv_has ls 9 [(0, .ref b), (1, .ref u1), (2, .ref u2), (3, .ref u3), (4, .ref u4), (5, .int y5)] → cells ≤ c0 + 5 → slots ≤ s0 + 30 → k28 S u1 u2 u3 u4 y5 → W p l e room_1 s m #[Value.ref b] below meth c H locs cells slots (lw_Z below #[Value.ref b] s) (F0 m 28 ls [])) (S : MS) (u1 : Nat) (u2 : Nat) (u3 : Nat) (u4 : Nat) (y5 : Int32) (p_u1 : pI S 8 u1) (p_u2 : pI S 9 u2) (p_u3 : pI S 16 u3) (p_u4 : pI S 17 u4) (P : PW G (fun q => s.heap.size ≤ q) s H locs S0 S) (hl : lv_has ls 9 [(0, .ref b), (1, .ref u1), (2, .ref u2), (3, .ref u3), (4, .ref u4), (5, .int y5)]) (hcc : cells + 3 ≤ c0 + 5) (hss : slots + 18 ≤ s0 + 30) (h0 : c0 + 5 ≤ 603072) (hs0 : s0 + 30 ≤ 7202922) (hw : wL_law_593 L xs k28 S u1 u2 u3 u4 y5) : W p l e room_1 s m #[Value.ref b] below meth c H locs cells slots (lw_Z below #[Value.ref b] s) (F0 m 593 ls []) := by
  have hx := CF_x C
  have hb := CF_b C
  unfold wL_law_593 at hw
  refine lv_aload_n hx hb dL_law_593 rfl (lv_at hl 1 rfl) ?_
  refine lv_aload_n hx hb dL_law_594 rfl (lv_at hl 0 rfl) ?_
  refine lv_iload hx hb dL_law_595 (lv_at hl 5 rfl) ?_
  refine lv_iconst (v := 1) hx hb dL_law_597 (by decide) ?_
  refine lv_iadd hx hb dL_law_598 ?_
  obtain ⟨h1, hw⟩ := hw
  refine va_sld hx hb hX hbl (Nat.not_le.mpr hbl) P.2.2.1 h1 dL_law_599 ?_
  refine lv_aload_n hx hb dL_law_600 rfl (lv_at hl 3 rfl) ?_
  refine cl_i C P (run_SX C P hl.1 (met_L_costs (CF_n C) G H.size _ _ S u1 (xs ((y5 + 1) : Int32).toNatClampNeg) u3 p_u1 p_u3 hw) q_891 q_892 q_0 q_893 cd_L_costs.2 ⟨(Nat.le_of_ble_eq_true rfl), (Nat.le_of_ble_eq_true rfl)⟩ rfl rfl (As := [.ref u1, .int (xs ((y5 + 1) : Int32).toNatClampNeg), .ref u3]) (rest := []) rfl rfl (Nat.le_of_ble_eq_true rfl) dL_law_601 ⟨by show cells + 3 ≤ 603072; omega, by show slots + 18 ≤ 7202922; omega⟩) kx_no (fun r2 S1 H locs P hE hw => ?_)
  have p_u1 : pI S1 8 u1 := pI_x hE p_u1
  have p_u2 : pI S1 9 u2 := pI_x hE p_u2
  have p_u3 : pI S1 16 u3 := pI_x hE p_u3
  have p_u4 : pI S1 17 u4 := pI_x hE p_u4
  refine lv_istore (lv' := [(6, .int r2), (0, .ref b), (1, .ref u1), (2, .ref u2), (3, .ref u3), (4, .ref u4), (5, .int y5)]) hx hb dL_law_604 hl (by decide) rfl (fun ls hl => ?_)
  refine lv_aload_n hx hb dL_law_606 rfl (lv_at hl 3 rfl) ?_
  refine lv_aload_n hx hb dL_law_607 rfl (lv_at hl 1 rfl) ?_
  refine lv_iload hx hb dL_law_608 (lv_at hl 6 rfl) ?_
  refine lv_iconst (v := 1) hx hb dL_law_610 (by decide) ?_
  refine lv_iadd hx hb dL_law_611 ?_
  obtain ⟨h1, hw⟩ := hw
  refine va_sld hx hb hX hbl (Nat.not_le.mpr hbl) P.2.2.1 h1 dL_law_612 ?_
  refine cl_i C P (run_V C P hl.1 (kd := 9) (met_X9_costs (CF_n C) G H.size _ _ S1 u2 (xs ((y5 + 1) : Int32).toNatClampNeg) p_u2 hw) p_u2 (by decide) rfl q_1552 q_1553 q_1554 q_10 q_1555 cd_X9_costs ⟨(Nat.le_of_ble_eq_true rfl), (Nat.le_of_ble_eq_true rfl)⟩ rfl rfl (As := [.int (xs ((y5 + 1) : Int32).toNatClampNeg)]) (rest := []) rfl rfl (Nat.le_of_ble_eq_true rfl) dL_law_613 ⟨by show cells + 3 + 0 ≤ 603072; omega, by show slots + 18 + 0 ≤ 7202922; omega⟩) kx_no (fun r4 S3 H locs P hE hw => ?_)
  have p_u1 : pI S3 8 u1 := pI_x hE p_u1
  have p_u2 : pI S3 9 u2 := pI_x hE p_u2
  have p_u3 : pI S3 16 u3 := pI_x hE p_u3
  have p_u4 : pI S3 17 u4 := pI_x hE p_u4
  refine lv_istore (lv' := [(7, .int r4), (6, .int r2), (0, .ref b), (1, .ref u1), (2, .ref u2), (3, .ref u3), (4, .ref u4), (5, .int y5)]) hx hb dL_law_616 hl (by decide) rfl (fun ls hl => ?_)
  refine lv_goto (tgt := 1227) hx hb dL_law_618 (by decide) ?_
  exact tL_law_1227 C hr hX hbl c0 s0 k28 kh28 S3 u1 u2 u3 u4 y5 p_u1 p_u2 p_u3 p_u4 P (lv_sub hl [2, 3, 4, 5, 6, 7] rfl) (by omega) (by omega) h0 hs0 hw
def wL_law_621 (L : Nat) (xs : Nat → Int32) (k28 : MS → Nat → Nat → Nat → Nat → Int32 → Prop) (S : MS) (u1 : Nat) (u2 : Nat) (u3 : Nat) (u4 : Nat) (y5 : Int32) : Prop := (vp_in (y5 + 1) L ∧ (vp_in (y5 + 2) L ∧ wp_L_pathCell (fun r2 S1 => (vp_in (y5 + 1) L ∧ (vp_in (y5 + 2) L ∧ wp_X9_pathCell (fun r4 S3 => wL_law_1227 L xs k28 S3 u1 u2 u3 u4 y5) (fun _ _ => False) S1 u2 (xs ((y5 + 1) : Int32).toNatClampNeg) (xs ((y5 + 2) : Int32).toNatClampNeg)))) (fun _ _ => False) S u1 (xs ((y5 + 1) : Int32).toNatClampNeg) (xs ((y5 + 2) : Int32).toNatClampNeg) u3))
set_option maxHeartbeats 8000000 in
set_option maxRecDepth 100000 in
theorem tL_law_621 {p : Program} {l : Launch} {e : Env} {s : State} {m : MethodId} {below : List Frame} {meth : Method} {c : Code} {H : Heap} {locs : List Loc} {cells slots : Nat} {G : GP} {S0 : MS} {ls : Array Slot} {b L : Nat} {xs : Nat → Int32} (C : CF p l s m #[Value.ref b] meth c "SkirmishGridLaw" code 9 G (fun q => s.heap.size ≤ q)) (hr : meth.sig.returnType = ret) (hX : va_X b L xs s s.heap) (hbl : b < s.heap.size) (c0 s0 : Nat) (k28 : MS → Nat → Nat → Nat → Nat → Int32 → Prop) (kh28 : ∀ (S : MS) (u1 : Nat) (u2 : Nat) (u3 : Nat) (u4 : Nat) (y5 : Int32) (cells slots : Nat) (H : Heap) (locs : List Loc) (ls : Array Slot), pI S 8 u1 → pI S 9 u2 → pI S 16 u3 → pI S 17 u4 → PW G (fun q => s.heap.size ≤ q) s H locs S0 S → lv_has ls 9 [(0, .ref b), (1, .ref u1), (2, .ref u2), (3, .ref u3), (4, .ref u4), (5, .int y5)] → cells ≤ c0 + 5 → slots ≤ s0 + 30 → k28 S u1 u2 u3 u4 y5 → W p l e room_1 s m #[Value.ref b] below meth c H locs cells slots (lw_Z below #[Value.ref b] s) (F0 m 28 ls [])) (S : MS) (u1 : Nat) (u2 : Nat) (u3 : Nat) (u4 : Nat) (y5 : Int32) (p_u1 : pI S 8 u1) (p_u2 : pI S 9 u2) (p_u3 : pI S 16 u3) (p_u4 : pI S 17 u4) (P : PW G (fun q => s.heap.size ≤ q) s H locs S0 S) (hl : lv_has ls 9 [(0, .ref b), (1, .ref u1), (2, .ref u2), (3, .ref u3), (4, .ref u4), (5, .int y5)]) (hcc : cells + 4 ≤ c0 + 5) (hss : slots + 24 ≤ s0 + 30) (h0 : c0 + 5 ≤ 603072) (hs0 : s0 + 30 ≤ 7202922) (hw : wL_law_621 L xs k28 S u1 u2 u3 u4 y5) : W p l e room_1 s m #[Value.ref b] below meth c H locs cells slots (lw_Z below #[Value.ref b] s) (F0 m 621 ls []) := by
  have hx := CF_x C
  have hb := CF_b C
  unfold wL_law_621 at hw
  refine lv_aload_n hx hb dL_law_621 rfl (lv_at hl 1 rfl) ?_
  refine lv_aload_n hx hb dL_law_622 rfl (lv_at hl 0 rfl) ?_
  refine lv_iload hx hb dL_law_623 (lv_at hl 5 rfl) ?_
  refine lv_iconst (v := 1) hx hb dL_law_625 (by decide) ?_
  refine lv_iadd hx hb dL_law_626 ?_
  obtain ⟨h1, hw⟩ := hw
  refine va_sld hx hb hX hbl (Nat.not_le.mpr hbl) P.2.2.1 h1 dL_law_627 ?_
  refine lv_aload_n hx hb dL_law_628 rfl (lv_at hl 0 rfl) ?_
  refine lv_iload hx hb dL_law_629 (lv_at hl 5 rfl) ?_
  refine lv_iconst (v := 2) hx hb dL_law_631 (by decide) ?_
  refine lv_iadd hx hb dL_law_632 ?_
  obtain ⟨h1, hw⟩ := hw
  refine va_sld hx hb hX hbl (Nat.not_le.mpr hbl) P.2.2.1 h1 dL_law_633 ?_
  refine lv_aload_n hx hb dL_law_634 rfl (lv_at hl 3 rfl) ?_
  refine cl_i C P (run_SX C P hl.1 (met_L_pathCell (CF_n C) G H.size _ _ S u1 (xs ((y5 + 1) : Int32).toNatClampNeg) (xs ((y5 + 2) : Int32).toNatClampNeg) u3 p_u1 p_u3 hw) q_937 q_938 q_0 q_939 cd_L_pathCell.2 ⟨(Nat.le_of_ble_eq_true rfl), (Nat.le_of_ble_eq_true rfl)⟩ rfl rfl (As := [.ref u1, .int (xs ((y5 + 1) : Int32).toNatClampNeg), .int (xs ((y5 + 2) : Int32).toNatClampNeg), .ref u3]) (rest := []) rfl rfl (Nat.le_of_ble_eq_true rfl) dL_law_635 ⟨by show cells + 4 ≤ 603072; omega, by show slots + 24 ≤ 7202922; omega⟩) kx_no (fun r2 S1 H locs P hE hw => ?_)
  have p_u1 : pI S1 8 u1 := pI_x hE p_u1
  have p_u2 : pI S1 9 u2 := pI_x hE p_u2
  have p_u3 : pI S1 16 u3 := pI_x hE p_u3
  have p_u4 : pI S1 17 u4 := pI_x hE p_u4
  refine lv_istore (lv' := [(6, .int r2), (0, .ref b), (1, .ref u1), (2, .ref u2), (3, .ref u3), (4, .ref u4), (5, .int y5)]) hx hb dL_law_638 hl (by decide) rfl (fun ls hl => ?_)
  refine lv_aload_n hx hb dL_law_640 rfl (lv_at hl 3 rfl) ?_
  refine lv_aload_n hx hb dL_law_641 rfl (lv_at hl 1 rfl) ?_
  refine lv_iload hx hb dL_law_642 (lv_at hl 6 rfl) ?_
  refine lv_iconst (v := 1) hx hb dL_law_644 (by decide) ?_
  refine lv_iadd hx hb dL_law_645 ?_
  obtain ⟨h1, hw⟩ := hw
  refine va_sld hx hb hX hbl (Nat.not_le.mpr hbl) P.2.2.1 h1 dL_law_646 ?_
  refine lv_aload_n hx hb dL_law_647 rfl (lv_at hl 1 rfl) ?_
  refine lv_iload hx hb dL_law_648 (lv_at hl 6 rfl) ?_
  refine lv_iconst (v := 2) hx hb dL_law_650 (by decide) ?_
  refine lv_iadd hx hb dL_law_651 ?_
  obtain ⟨h1, hw⟩ := hw
  refine va_sld hx hb hX hbl (Nat.not_le.mpr hbl) P.2.2.1 h1 dL_law_652 ?_
  refine cl_i C P (run_V C P hl.1 (kd := 9) (met_X9_pathCell (CF_n C) G H.size _ _ S1 u2 (xs ((y5 + 1) : Int32).toNatClampNeg) (xs ((y5 + 2) : Int32).toNatClampNeg) p_u2 hw) p_u2 (by decide) rfl q_1580 q_1581 q_1582 q_10 q_1583 cd_X9_pathCell ⟨(Nat.le_of_ble_eq_true rfl), (Nat.le_of_ble_eq_true rfl)⟩ rfl rfl (As := [.int (xs ((y5 + 1) : Int32).toNatClampNeg), .int (xs ((y5 + 2) : Int32).toNatClampNeg)]) (rest := []) rfl rfl (Nat.le_of_ble_eq_true rfl) dL_law_653 ⟨by show cells + 4 + 0 ≤ 603072; omega, by show slots + 24 + 0 ≤ 7202922; omega⟩) kx_no (fun r4 S3 H locs P hE hw => ?_)
  have p_u1 : pI S3 8 u1 := pI_x hE p_u1
  have p_u2 : pI S3 9 u2 := pI_x hE p_u2
  have p_u3 : pI S3 16 u3 := pI_x hE p_u3
  have p_u4 : pI S3 17 u4 := pI_x hE p_u4
  refine lv_istore (lv' := [(7, .int r4), (6, .int r2), (0, .ref b), (1, .ref u1), (2, .ref u2), (3, .ref u3), (4, .ref u4), (5, .int y5)]) hx hb dL_law_656 hl (by decide) rfl (fun ls hl => ?_)
  refine lv_goto (tgt := 1227) hx hb dL_law_658 (by decide) ?_
  exact tL_law_1227 C hr hX hbl c0 s0 k28 kh28 S3 u1 u2 u3 u4 y5 p_u1 p_u2 p_u3 p_u4 P (lv_sub hl [2, 3, 4, 5, 6, 7] rfl) (by omega) (by omega) h0 hs0 hw
def wL_law_661 (L : Nat) (xs : Nat → Int32) (k28 : MS → Nat → Nat → Nat → Nat → Int32 → Prop) (S : MS) (u1 : Nat) (u2 : Nat) (u3 : Nat) (u4 : Nat) (y5 : Int32) : Prop := (vp_in (y5 + 1) L ∧ (vp_in (y5 + 2) L ∧ wp_L_chance (fun r2 S1 => (vp_in (y5 + 1) L ∧ (vp_in (y5 + 2) L ∧ wp_X9_chance (fun r4 S3 => wL_law_1227 L xs k28 S3 u1 u2 u3 u4 y5) (fun _ _ => False) S1 u2 (xs ((y5 + 1) : Int32).toNatClampNeg) (xs ((y5 + 2) : Int32).toNatClampNeg)))) (fun _ _ => False) S u1 (xs ((y5 + 1) : Int32).toNatClampNeg) (xs ((y5 + 2) : Int32).toNatClampNeg) u4))
set_option maxHeartbeats 8000000 in
set_option maxRecDepth 100000 in
theorem tL_law_661 {p : Program} {l : Launch} {e : Env} {s : State} {m : MethodId} {below : List Frame} {meth : Method} {c : Code} {H : Heap} {locs : List Loc} {cells slots : Nat} {G : GP} {S0 : MS} {ls : Array Slot} {b L : Nat} {xs : Nat → Int32} (C : CF p l s m #[Value.ref b] meth c "SkirmishGridLaw" code 9 G (fun q => s.heap.size ≤ q)) (hr : meth.sig.returnType = ret) (hX : va_X b L xs s s.heap) (hbl : b < s.heap.size) (c0 s0 : Nat) (k28 : MS → Nat → Nat → Nat → Nat → Int32 → Prop) (kh28 : ∀ (S : MS) (u1 : Nat) (u2 : Nat) (u3 : Nat) (u4 : Nat) (y5 : Int32) (cells slots : Nat) (H : Heap) (locs : List Loc) (ls : Array Slot), pI S 8 u1 → pI S 9 u2 → pI S 16 u3 → pI S 17 u4 → PW G (fun q => s.heap.size ≤ q) s H locs S0 S → lv_has ls 9 [(0, .ref b), (1, .ref u1), (2, .ref u2), (3, .ref u3), (4, .ref u4), (5, .int y5)] → cells ≤ c0 + 5 → slots ≤ s0 + 30 → k28 S u1 u2 u3 u4 y5 → W p l e room_1 s m #[Value.ref b] below meth c H locs cells slots (lw_Z below #[Value.ref b] s) (F0 m 28 ls [])) (S : MS) (u1 : Nat) (u2 : Nat) (u3 : Nat) (u4 : Nat) (y5 : Int32) (p_u1 : pI S 8 u1) (p_u2 : pI S 9 u2) (p_u3 : pI S 16 u3) (p_u4 : pI S 17 u4) (P : PW G (fun q => s.heap.size ≤ q) s H locs S0 S) (hl : lv_has ls 9 [(0, .ref b), (1, .ref u1), (2, .ref u2), (3, .ref u3), (4, .ref u4), (5, .int y5)]) (hcc : cells + 3 ≤ c0 + 5) (hss : slots + 18 ≤ s0 + 30) (h0 : c0 + 5 ≤ 603072) (hs0 : s0 + 30 ≤ 7202922) (hw : wL_law_661 L xs k28 S u1 u2 u3 u4 y5) : W p l e room_1 s m #[Value.ref b] below meth c H locs cells slots (lw_Z below #[Value.ref b] s) (F0 m 661 ls []) := by
  have hx := CF_x C
  have hb := CF_b C
  unfold wL_law_661 at hw
  refine lv_aload_n hx hb dL_law_661 rfl (lv_at hl 1 rfl) ?_
  refine lv_aload_n hx hb dL_law_662 rfl (lv_at hl 0 rfl) ?_
  refine lv_iload hx hb dL_law_663 (lv_at hl 5 rfl) ?_
  refine lv_iconst (v := 1) hx hb dL_law_665 (by decide) ?_
  refine lv_iadd hx hb dL_law_666 ?_
  obtain ⟨h1, hw⟩ := hw
  refine va_sld hx hb hX hbl (Nat.not_le.mpr hbl) P.2.2.1 h1 dL_law_667 ?_
  refine lv_aload_n hx hb dL_law_668 rfl (lv_at hl 0 rfl) ?_
  refine lv_iload hx hb dL_law_669 (lv_at hl 5 rfl) ?_
  refine lv_iconst (v := 2) hx hb dL_law_671 (by decide) ?_
  refine lv_iadd hx hb dL_law_672 ?_
  obtain ⟨h1, hw⟩ := hw
  refine va_sld hx hb hX hbl (Nat.not_le.mpr hbl) P.2.2.1 h1 dL_law_673 ?_
  refine lv_aload hx hb dL_law_674 (lv_at hl 4 rfl) ?_
  refine cl_i C P (run_SX C P hl.1 (met_L_chance (CF_n C) G H.size _ _ S u1 (xs ((y5 + 1) : Int32).toNatClampNeg) (xs ((y5 + 2) : Int32).toNatClampNeg) u4 p_u1 p_u4 hw) q_950 q_951 q_0 q_952 cd_L_chance.2 ⟨(Nat.le_of_ble_eq_true rfl), (Nat.le_of_ble_eq_true rfl)⟩ rfl rfl (As := [.ref u1, .int (xs ((y5 + 1) : Int32).toNatClampNeg), .int (xs ((y5 + 2) : Int32).toNatClampNeg), .ref u4]) (rest := []) rfl rfl (Nat.le_of_ble_eq_true rfl) dL_law_676 ⟨by show cells + 3 ≤ 603072; omega, by show slots + 18 ≤ 7202922; omega⟩) kx_no (fun r2 S1 H locs P hE hw => ?_)
  have p_u1 : pI S1 8 u1 := pI_x hE p_u1
  have p_u2 : pI S1 9 u2 := pI_x hE p_u2
  have p_u3 : pI S1 16 u3 := pI_x hE p_u3
  have p_u4 : pI S1 17 u4 := pI_x hE p_u4
  refine lv_istore (lv' := [(6, .int r2), (0, .ref b), (1, .ref u1), (2, .ref u2), (3, .ref u3), (4, .ref u4), (5, .int y5)]) hx hb dL_law_679 hl (by decide) rfl (fun ls hl => ?_)
  refine lv_aload_n hx hb dL_law_681 rfl (lv_at hl 3 rfl) ?_
  refine lv_aload_n hx hb dL_law_682 rfl (lv_at hl 1 rfl) ?_
  refine lv_iload hx hb dL_law_683 (lv_at hl 6 rfl) ?_
  refine lv_iconst (v := 1) hx hb dL_law_685 (by decide) ?_
  refine lv_iadd hx hb dL_law_686 ?_
  obtain ⟨h1, hw⟩ := hw
  refine va_sld hx hb hX hbl (Nat.not_le.mpr hbl) P.2.2.1 h1 dL_law_687 ?_
  refine lv_aload_n hx hb dL_law_688 rfl (lv_at hl 1 rfl) ?_
  refine lv_iload hx hb dL_law_689 (lv_at hl 6 rfl) ?_
  refine lv_iconst (v := 2) hx hb dL_law_691 (by decide) ?_
  refine lv_iadd hx hb dL_law_692 ?_
  obtain ⟨h1, hw⟩ := hw
  refine va_sld hx hb hX hbl (Nat.not_le.mpr hbl) P.2.2.1 h1 dL_law_693 ?_
  refine cl_d C P (run_V C P hl.1 (kd := 9) (met_X9_chance (CF_n C) G H.size _ _ S1 u2 (xs ((y5 + 1) : Int32).toNatClampNeg) (xs ((y5 + 2) : Int32).toNatClampNeg) p_u2 hw) p_u2 (by decide) rfl q_1588 q_1589 q_1590 q_10 q_1591 cd_X9_chance ⟨(Nat.le_of_ble_eq_true rfl), (Nat.le_of_ble_eq_true rfl)⟩ rfl rfl (As := [.int (xs ((y5 + 1) : Int32).toNatClampNeg), .int (xs ((y5 + 2) : Int32).toNatClampNeg)]) (rest := []) rfl rfl (Nat.le_of_ble_eq_true rfl) dL_law_694 ⟨by show cells + 3 + 0 ≤ 603072; omega, by show slots + 18 + 0 ≤ 7202922; omega⟩) kx_no (fun r4 S3 H locs P hE hw => ?_)
  have p_u1 : pI S3 8 u1 := pI_x hE p_u1
  have p_u2 : pI S3 9 u2 := pI_x hE p_u2
  have p_u3 : pI S3 16 u3 := pI_x hE p_u3
  have p_u4 : pI S3 17 u4 := pI_x hE p_u4
  refine lv_dstore (lv' := [(7, .double r4), (6, .int r2), (0, .ref b), (1, .ref u1), (2, .ref u2), (3, .ref u3), (4, .ref u4), (5, .int y5)]) hx hb dL_law_697 hl (by decide) rfl (fun ls hl => ?_)
  refine lv_goto (tgt := 1227) hx hb dL_law_699 (by decide) ?_
  exact tL_law_1227 C hr hX hbl c0 s0 k28 kh28 S3 u1 u2 u3 u4 y5 p_u1 p_u2 p_u3 p_u4 P (lv_sub hl [2, 3, 4, 5, 6, 7] rfl) (by omega) (by omega) h0 hs0 hw
def wL_law_702 (L : Nat) (xs : Nat → Int32) (k28 : MS → Nat → Nat → Nat → Nat → Int32 → Prop) (S : MS) (u1 : Nat) (u2 : Nat) (u3 : Nat) (u4 : Nat) (y5 : Int32) : Prop := (vp_in (y5 + 1) L ∧ (vp_in (y5 + 2) L ∧ wp_L_meanDamage (fun r2 S1 => (vp_in (y5 + 1) L ∧ (vp_in (y5 + 2) L ∧ wp_X9_meanDamage (fun r4 S3 => wL_law_1227 L xs k28 S3 u1 u2 u3 u4 y5) (fun _ _ => False) S1 u2 (xs ((y5 + 1) : Int32).toNatClampNeg) (xs ((y5 + 2) : Int32).toNatClampNeg)))) (fun _ _ => False) S u1 (xs ((y5 + 1) : Int32).toNatClampNeg) (xs ((y5 + 2) : Int32).toNatClampNeg) u4))
set_option maxHeartbeats 8000000 in
set_option maxRecDepth 100000 in
theorem tL_law_702 {p : Program} {l : Launch} {e : Env} {s : State} {m : MethodId} {below : List Frame} {meth : Method} {c : Code} {H : Heap} {locs : List Loc} {cells slots : Nat} {G : GP} {S0 : MS} {ls : Array Slot} {b L : Nat} {xs : Nat → Int32} (C : CF p l s m #[Value.ref b] meth c "SkirmishGridLaw" code 9 G (fun q => s.heap.size ≤ q)) (hr : meth.sig.returnType = ret) (hX : va_X b L xs s s.heap) (hbl : b < s.heap.size) (c0 s0 : Nat) (k28 : MS → Nat → Nat → Nat → Nat → Int32 → Prop) (kh28 : ∀ (S : MS) (u1 : Nat) (u2 : Nat) (u3 : Nat) (u4 : Nat) (y5 : Int32) (cells slots : Nat) (H : Heap) (locs : List Loc) (ls : Array Slot), pI S 8 u1 → pI S 9 u2 → pI S 16 u3 → pI S 17 u4 → PW G (fun q => s.heap.size ≤ q) s H locs S0 S → lv_has ls 9 [(0, .ref b), (1, .ref u1), (2, .ref u2), (3, .ref u3), (4, .ref u4), (5, .int y5)] → cells ≤ c0 + 5 → slots ≤ s0 + 30 → k28 S u1 u2 u3 u4 y5 → W p l e room_1 s m #[Value.ref b] below meth c H locs cells slots (lw_Z below #[Value.ref b] s) (F0 m 28 ls [])) (S : MS) (u1 : Nat) (u2 : Nat) (u3 : Nat) (u4 : Nat) (y5 : Int32) (p_u1 : pI S 8 u1) (p_u2 : pI S 9 u2) (p_u3 : pI S 16 u3) (p_u4 : pI S 17 u4) (P : PW G (fun q => s.heap.size ≤ q) s H locs S0 S) (hl : lv_has ls 9 [(0, .ref b), (1, .ref u1), (2, .ref u2), (3, .ref u3), (4, .ref u4), (5, .int y5)]) (hcc : cells + 3 ≤ c0 + 5) (hss : slots + 18 ≤ s0 + 30) (h0 : c0 + 5 ≤ 603072) (hs0 : s0 + 30 ≤ 7202922) (hw : wL_law_702 L xs k28 S u1 u2 u3 u4 y5) : W p l e room_1 s m #[Value.ref b] below meth c H locs cells slots (lw_Z below #[Value.ref b] s) (F0 m 702 ls []) := by
  have hx := CF_x C
  have hb := CF_b C
  unfold wL_law_702 at hw
  refine lv_aload_n hx hb dL_law_702 rfl (lv_at hl 1 rfl) ?_
  refine lv_aload_n hx hb dL_law_703 rfl (lv_at hl 0 rfl) ?_
  refine lv_iload hx hb dL_law_704 (lv_at hl 5 rfl) ?_
  refine lv_iconst (v := 1) hx hb dL_law_706 (by decide) ?_
  refine lv_iadd hx hb dL_law_707 ?_
  obtain ⟨h1, hw⟩ := hw
  refine va_sld hx hb hX hbl (Nat.not_le.mpr hbl) P.2.2.1 h1 dL_law_708 ?_
  refine lv_aload_n hx hb dL_law_709 rfl (lv_at hl 0 rfl) ?_
  refine lv_iload hx hb dL_law_710 (lv_at hl 5 rfl) ?_
  refine lv_iconst (v := 2) hx hb dL_law_712 (by decide) ?_
  refine lv_iadd hx hb dL_law_713 ?_
  obtain ⟨h1, hw⟩ := hw
  refine va_sld hx hb hX hbl (Nat.not_le.mpr hbl) P.2.2.1 h1 dL_law_714 ?_
  refine lv_aload hx hb dL_law_715 (lv_at hl 4 rfl) ?_
  refine cl_i C P (run_SX C P hl.1 (met_L_meanDamage (CF_n C) G H.size _ _ S u1 (xs ((y5 + 1) : Int32).toNatClampNeg) (xs ((y5 + 2) : Int32).toNatClampNeg) u4 p_u1 p_u4 hw) q_989 q_990 q_0 q_991 cd_L_meanDamage.2 ⟨(Nat.le_of_ble_eq_true rfl), (Nat.le_of_ble_eq_true rfl)⟩ rfl rfl (As := [.ref u1, .int (xs ((y5 + 1) : Int32).toNatClampNeg), .int (xs ((y5 + 2) : Int32).toNatClampNeg), .ref u4]) (rest := []) rfl rfl (Nat.le_of_ble_eq_true rfl) dL_law_717 ⟨by show cells + 3 ≤ 603072; omega, by show slots + 18 ≤ 7202922; omega⟩) kx_no (fun r2 S1 H locs P hE hw => ?_)
  have p_u1 : pI S1 8 u1 := pI_x hE p_u1
  have p_u2 : pI S1 9 u2 := pI_x hE p_u2
  have p_u3 : pI S1 16 u3 := pI_x hE p_u3
  have p_u4 : pI S1 17 u4 := pI_x hE p_u4
  refine lv_istore (lv' := [(6, .int r2), (0, .ref b), (1, .ref u1), (2, .ref u2), (3, .ref u3), (4, .ref u4), (5, .int y5)]) hx hb dL_law_720 hl (by decide) rfl (fun ls hl => ?_)
  refine lv_aload_n hx hb dL_law_722 rfl (lv_at hl 3 rfl) ?_
  refine lv_aload_n hx hb dL_law_723 rfl (lv_at hl 1 rfl) ?_
  refine lv_iload hx hb dL_law_724 (lv_at hl 6 rfl) ?_
  refine lv_iconst (v := 1) hx hb dL_law_726 (by decide) ?_
  refine lv_iadd hx hb dL_law_727 ?_
  obtain ⟨h1, hw⟩ := hw
  refine va_sld hx hb hX hbl (Nat.not_le.mpr hbl) P.2.2.1 h1 dL_law_728 ?_
  refine lv_aload_n hx hb dL_law_729 rfl (lv_at hl 1 rfl) ?_
  refine lv_iload hx hb dL_law_730 (lv_at hl 6 rfl) ?_
  refine lv_iconst (v := 2) hx hb dL_law_732 (by decide) ?_
  refine lv_iadd hx hb dL_law_733 ?_
  obtain ⟨h1, hw⟩ := hw
  refine va_sld hx hb hX hbl (Nat.not_le.mpr hbl) P.2.2.1 h1 dL_law_734 ?_
  refine cl_d C P (run_V C P hl.1 (kd := 9) (met_X9_meanDamage (CF_n C) G H.size _ _ S1 u2 (xs ((y5 + 1) : Int32).toNatClampNeg) (xs ((y5 + 2) : Int32).toNatClampNeg) p_u2 hw) p_u2 (by decide) rfl q_1609 q_1610 q_1611 q_10 q_1612 cd_X9_meanDamage ⟨(Nat.le_of_ble_eq_true rfl), (Nat.le_of_ble_eq_true rfl)⟩ rfl rfl (As := [.int (xs ((y5 + 1) : Int32).toNatClampNeg), .int (xs ((y5 + 2) : Int32).toNatClampNeg)]) (rest := []) rfl rfl (Nat.le_of_ble_eq_true rfl) dL_law_735 ⟨by show cells + 3 + 0 ≤ 603072; omega, by show slots + 18 + 0 ≤ 7202922; omega⟩) kx_no (fun r4 S3 H locs P hE hw => ?_)
  have p_u1 : pI S3 8 u1 := pI_x hE p_u1
  have p_u2 : pI S3 9 u2 := pI_x hE p_u2
  have p_u3 : pI S3 16 u3 := pI_x hE p_u3
  have p_u4 : pI S3 17 u4 := pI_x hE p_u4
  refine lv_dstore (lv' := [(7, .double r4), (6, .int r2), (0, .ref b), (1, .ref u1), (2, .ref u2), (3, .ref u3), (4, .ref u4), (5, .int y5)]) hx hb dL_law_738 hl (by decide) rfl (fun ls hl => ?_)
  refine lv_goto (tgt := 1227) hx hb dL_law_740 (by decide) ?_
  exact tL_law_1227 C hr hX hbl c0 s0 k28 kh28 S3 u1 u2 u3 u4 y5 p_u1 p_u2 p_u3 p_u4 P (lv_sub hl [2, 3, 4, 5, 6, 7] rfl) (by omega) (by omega) h0 hs0 hw
def wL_law_743 (L : Nat) (xs : Nat → Int32) (k28 : MS → Nat → Nat → Nat → Nat → Int32 → Prop) (S : MS) (u1 : Nat) (u2 : Nat) (u3 : Nat) (u4 : Nat) (y5 : Int32) : Prop := wp_L_bestTarget (fun r2 S1 => wp_X9_bestTarget (fun r4 S3 => wL_law_1227 L xs k28 S3 u1 u2 u3 u4 y5) (fun _ _ => False) S1 u2) (fun _ _ => False) S u1 u3
set_option maxHeartbeats 8000000 in
set_option maxRecDepth 100000 in
theorem tL_law_743 {p : Program} {l : Launch} {e : Env} {s : State} {m : MethodId} {below : List Frame} {meth : Method} {c : Code} {H : Heap} {locs : List Loc} {cells slots : Nat} {G : GP} {S0 : MS} {ls : Array Slot} {b L : Nat} {xs : Nat → Int32} (C : CF p l s m #[Value.ref b] meth c "SkirmishGridLaw" code 9 G (fun q => s.heap.size ≤ q)) (hr : meth.sig.returnType = ret) (hX : va_X b L xs s s.heap) (hbl : b < s.heap.size) (c0 s0 : Nat) (k28 : MS → Nat → Nat → Nat → Nat → Int32 → Prop) (kh28 : ∀ (S : MS) (u1 : Nat) (u2 : Nat) (u3 : Nat) (u4 : Nat) (y5 : Int32) (cells slots : Nat) (H : Heap) (locs : List Loc) (ls : Array Slot), pI S 8 u1 → pI S 9 u2 → pI S 16 u3 → pI S 17 u4 → PW G (fun q => s.heap.size ≤ q) s H locs S0 S → lv_has ls 9 [(0, .ref b), (1, .ref u1), (2, .ref u2), (3, .ref u3), (4, .ref u4), (5, .int y5)] → cells ≤ c0 + 5 → slots ≤ s0 + 30 → k28 S u1 u2 u3 u4 y5 → W p l e room_1 s m #[Value.ref b] below meth c H locs cells slots (lw_Z below #[Value.ref b] s) (F0 m 28 ls [])) (S : MS) (u1 : Nat) (u2 : Nat) (u3 : Nat) (u4 : Nat) (y5 : Int32) (p_u1 : pI S 8 u1) (p_u2 : pI S 9 u2) (p_u3 : pI S 16 u3) (p_u4 : pI S 17 u4) (P : PW G (fun q => s.heap.size ≤ q) s H locs S0 S) (hl : lv_has ls 9 [(0, .ref b), (1, .ref u1), (2, .ref u2), (3, .ref u3), (4, .ref u4), (5, .int y5)]) (hcc : cells + 2 ≤ c0 + 5) (hss : slots + 12 ≤ s0 + 30) (h0 : c0 + 5 ≤ 603072) (hs0 : s0 + 30 ≤ 7202922) (hw : wL_law_743 L xs k28 S u1 u2 u3 u4 y5) : W p l e room_1 s m #[Value.ref b] below meth c H locs cells slots (lw_Z below #[Value.ref b] s) (F0 m 743 ls []) := by
  have hx := CF_x C
  have hb := CF_b C
  unfold wL_law_743 at hw
  refine lv_aload_n hx hb dL_law_743 rfl (lv_at hl 1 rfl) ?_
  refine lv_aload_n hx hb dL_law_744 rfl (lv_at hl 3 rfl) ?_
  refine cl_i C P (run_SX C P hl.1 (met_L_bestTarget (CF_n C) G H.size _ _ S u1 u3 p_u1 p_u3 hw) q_1009 q_1010 q_0 q_1011 cd_L_bestTarget.2 ⟨(Nat.le_of_ble_eq_true rfl), (Nat.le_of_ble_eq_true rfl)⟩ rfl rfl (As := [.ref u1, .ref u3]) (rest := []) rfl rfl (Nat.le_of_ble_eq_true rfl) dL_law_745 ⟨by show cells + 2 ≤ 603072; omega, by show slots + 12 ≤ 7202922; omega⟩) kx_no (fun r2 S1 H locs P hE hw => ?_)
  have p_u1 : pI S1 8 u1 := pI_x hE p_u1
  have p_u2 : pI S1 9 u2 := pI_x hE p_u2
  have p_u3 : pI S1 16 u3 := pI_x hE p_u3
  have p_u4 : pI S1 17 u4 := pI_x hE p_u4
  refine lv_istore (lv' := [(6, .int r2), (0, .ref b), (1, .ref u1), (2, .ref u2), (3, .ref u3), (4, .ref u4), (5, .int y5)]) hx hb dL_law_748 hl (by decide) rfl (fun ls hl => ?_)
  refine lv_aload_n hx hb dL_law_750 rfl (lv_at hl 3 rfl) ?_
  refine cl_i C P (run_V C P hl.1 (kd := 9) (met_X9_bestTarget (CF_n C) G H.size _ _ S1 u2 p_u2 hw) p_u2 (by decide) rfl q_1622 q_1623 q_1624 q_10 q_1625 cd_X9_bestTarget ⟨(Nat.le_of_ble_eq_true rfl), (Nat.le_of_ble_eq_true rfl)⟩ rfl rfl (As := []) (rest := []) rfl rfl (Nat.le_of_ble_eq_true rfl) dL_law_751 ⟨by show cells + 2 + 0 ≤ 603072; omega, by show slots + 12 + 0 ≤ 7202922; omega⟩) kx_no (fun r4 S3 H locs P hE hw => ?_)
  have p_u1 : pI S3 8 u1 := pI_x hE p_u1
  have p_u2 : pI S3 9 u2 := pI_x hE p_u2
  have p_u3 : pI S3 16 u3 := pI_x hE p_u3
  have p_u4 : pI S3 17 u4 := pI_x hE p_u4
  refine lv_istore (lv' := [(7, .int r4), (6, .int r2), (0, .ref b), (1, .ref u1), (2, .ref u2), (3, .ref u3), (4, .ref u4), (5, .int y5)]) hx hb dL_law_754 hl (by decide) rfl (fun ls hl => ?_)
  refine lv_goto (tgt := 1227) hx hb dL_law_756 (by decide) ?_
  exact tL_law_1227 C hr hX hbl c0 s0 k28 kh28 S3 u1 u2 u3 u4 y5 p_u1 p_u2 p_u3 p_u4 P (lv_sub hl [2, 3, 4, 5, 6, 7] rfl) (by omega) (by omega) h0 hs0 hw
def wL_law_759 (L : Nat) (xs : Nat → Int32) (k28 : MS → Nat → Nat → Nat → Nat → Int32 → Prop) (S : MS) (u1 : Nat) (u2 : Nat) (u3 : Nat) (u4 : Nat) (y5 : Int32) : Prop := (vp_in (y5 + 1) L ∧ wp_L_move (fun r2 S1 => (vp_in (y5 + 1) L ∧ wp_X9_move (fun r4 S3 => wL_law_1227 L xs k28 S3 u1 u2 u3 u4 y5) (fun _ _ => False) S1 u2 (xs ((y5 + 1) : Int32).toNatClampNeg))) (fun _ _ => False) S u1 (xs ((y5 + 1) : Int32).toNatClampNeg) u3)
set_option maxHeartbeats 8000000 in
set_option maxRecDepth 100000 in
theorem tL_law_759 {p : Program} {l : Launch} {e : Env} {s : State} {m : MethodId} {below : List Frame} {meth : Method} {c : Code} {H : Heap} {locs : List Loc} {cells slots : Nat} {G : GP} {S0 : MS} {ls : Array Slot} {b L : Nat} {xs : Nat → Int32} (C : CF p l s m #[Value.ref b] meth c "SkirmishGridLaw" code 9 G (fun q => s.heap.size ≤ q)) (hr : meth.sig.returnType = ret) (hX : va_X b L xs s s.heap) (hbl : b < s.heap.size) (c0 s0 : Nat) (k28 : MS → Nat → Nat → Nat → Nat → Int32 → Prop) (kh28 : ∀ (S : MS) (u1 : Nat) (u2 : Nat) (u3 : Nat) (u4 : Nat) (y5 : Int32) (cells slots : Nat) (H : Heap) (locs : List Loc) (ls : Array Slot), pI S 8 u1 → pI S 9 u2 → pI S 16 u3 → pI S 17 u4 → PW G (fun q => s.heap.size ≤ q) s H locs S0 S → lv_has ls 9 [(0, .ref b), (1, .ref u1), (2, .ref u2), (3, .ref u3), (4, .ref u4), (5, .int y5)] → cells ≤ c0 + 5 → slots ≤ s0 + 30 → k28 S u1 u2 u3 u4 y5 → W p l e room_1 s m #[Value.ref b] below meth c H locs cells slots (lw_Z below #[Value.ref b] s) (F0 m 28 ls [])) (S : MS) (u1 : Nat) (u2 : Nat) (u3 : Nat) (u4 : Nat) (y5 : Int32) (p_u1 : pI S 8 u1) (p_u2 : pI S 9 u2) (p_u3 : pI S 16 u3) (p_u4 : pI S 17 u4) (P : PW G (fun q => s.heap.size ≤ q) s H locs S0 S) (hl : lv_has ls 9 [(0, .ref b), (1, .ref u1), (2, .ref u2), (3, .ref u3), (4, .ref u4), (5, .int y5)]) (hcc : cells + 4 ≤ c0 + 5) (hss : slots + 24 ≤ s0 + 30) (h0 : c0 + 5 ≤ 603072) (hs0 : s0 + 30 ≤ 7202922) (hw : wL_law_759 L xs k28 S u1 u2 u3 u4 y5) : W p l e room_1 s m #[Value.ref b] below meth c H locs cells slots (lw_Z below #[Value.ref b] s) (F0 m 759 ls []) := by
  have hx := CF_x C
  have hb := CF_b C
  unfold wL_law_759 at hw
  refine lv_aload_n hx hb dL_law_759 rfl (lv_at hl 1 rfl) ?_
  refine lv_aload_n hx hb dL_law_760 rfl (lv_at hl 0 rfl) ?_
  refine lv_iload hx hb dL_law_761 (lv_at hl 5 rfl) ?_
  refine lv_iconst (v := 1) hx hb dL_law_763 (by decide) ?_
  refine lv_iadd hx hb dL_law_764 ?_
  obtain ⟨h1, hw⟩ := hw
  refine va_sld hx hb hX hbl (Nat.not_le.mpr hbl) P.2.2.1 h1 dL_law_765 ?_
  refine lv_aload_n hx hb dL_law_766 rfl (lv_at hl 3 rfl) ?_
  refine cl_i C P (run_SX C P hl.1 (met_L_move (CF_n C) G H.size _ _ S u1 (xs ((y5 + 1) : Int32).toNatClampNeg) u3 p_u1 p_u3 hw) q_1023 q_1024 q_0 q_1025 cd_L_move.2 ⟨(Nat.le_of_ble_eq_true rfl), (Nat.le_of_ble_eq_true rfl)⟩ rfl rfl (As := [.ref u1, .int (xs ((y5 + 1) : Int32).toNatClampNeg), .ref u3]) (rest := []) rfl rfl (Nat.le_of_ble_eq_true rfl) dL_law_767 ⟨by show cells + 4 ≤ 603072; omega, by show slots + 24 ≤ 7202922; omega⟩) kx_no (fun r2 S1 H locs P hE hw => ?_)
  have p_u1 : pI S1 8 u1 := pI_x hE p_u1
  have p_u2 : pI S1 9 u2 := pI_x hE p_u2
  have p_u3 : pI S1 16 u3 := pI_x hE p_u3
  have p_u4 : pI S1 17 u4 := pI_x hE p_u4
  refine lv_istore (lv' := [(6, .int r2), (0, .ref b), (1, .ref u1), (2, .ref u2), (3, .ref u3), (4, .ref u4), (5, .int y5)]) hx hb dL_law_770 hl (by decide) rfl (fun ls hl => ?_)
  refine lv_aload_n hx hb dL_law_772 rfl (lv_at hl 3 rfl) ?_
  refine lv_aload_n hx hb dL_law_773 rfl (lv_at hl 1 rfl) ?_
  refine lv_iload hx hb dL_law_774 (lv_at hl 6 rfl) ?_
  refine lv_iconst (v := 1) hx hb dL_law_776 (by decide) ?_
  refine lv_iadd hx hb dL_law_777 ?_
  obtain ⟨h1, hw⟩ := hw
  refine va_sld hx hb hX hbl (Nat.not_le.mpr hbl) P.2.2.1 h1 dL_law_778 ?_
  refine cl_i C P (run_V C P hl.1 (kd := 9) (met_X9_move (CF_n C) G H.size _ _ S1 u2 (xs ((y5 + 1) : Int32).toNatClampNeg) p_u2 hw) p_u2 (by decide) rfl q_1626 q_1627 q_1628 q_10 q_1629 cd_X9_move ⟨(Nat.le_of_ble_eq_true rfl), (Nat.le_of_ble_eq_true rfl)⟩ rfl rfl (As := [.int (xs ((y5 + 1) : Int32).toNatClampNeg)]) (rest := []) rfl rfl (Nat.le_of_ble_eq_true rfl) dL_law_779 ⟨by show cells + 4 + 0 ≤ 603072; omega, by show slots + 24 + 0 ≤ 7202922; omega⟩) kx_no (fun r4 S3 H locs P hE hw => ?_)
  have p_u1 : pI S3 8 u1 := pI_x hE p_u1
  have p_u2 : pI S3 9 u2 := pI_x hE p_u2
  have p_u3 : pI S3 16 u3 := pI_x hE p_u3
  have p_u4 : pI S3 17 u4 := pI_x hE p_u4
  refine lv_istore (lv' := [(7, .int r4), (6, .int r2), (0, .ref b), (1, .ref u1), (2, .ref u2), (3, .ref u3), (4, .ref u4), (5, .int y5)]) hx hb dL_law_782 hl (by decide) rfl (fun ls hl => ?_)
  refine lv_goto (tgt := 1227) hx hb dL_law_784 (by decide) ?_
  exact tL_law_1227 C hr hX hbl c0 s0 k28 kh28 S3 u1 u2 u3 u4 y5 p_u1 p_u2 p_u3 p_u4 P (lv_sub hl [2, 3, 4, 5, 6, 7] rfl) (by omega) (by omega) h0 hs0 hw
def wL_law_787 (L : Nat) (xs : Nat → Int32) (k28 : MS → Nat → Nat → Nat → Nat → Int32 → Prop) (S : MS) (u1 : Nat) (u2 : Nat) (u3 : Nat) (u4 : Nat) (y5 : Int32) : Prop := (vp_in (y5 + 1) L ∧ wp_L_attack (fun r2 S1 => (vp_in (y5 + 1) L ∧ wp_X9_attack (fun r4 S3 => wL_law_1227 L xs k28 S3 u1 u2 u3 u4 y5) (fun _ _ => False) S1 u2 (xs ((y5 + 1) : Int32).toNatClampNeg))) (fun _ _ => False) S u1 (xs ((y5 + 1) : Int32).toNatClampNeg) u3)
set_option maxHeartbeats 8000000 in
set_option maxRecDepth 100000 in
theorem tL_law_787 {p : Program} {l : Launch} {e : Env} {s : State} {m : MethodId} {below : List Frame} {meth : Method} {c : Code} {H : Heap} {locs : List Loc} {cells slots : Nat} {G : GP} {S0 : MS} {ls : Array Slot} {b L : Nat} {xs : Nat → Int32} (C : CF p l s m #[Value.ref b] meth c "SkirmishGridLaw" code 9 G (fun q => s.heap.size ≤ q)) (hr : meth.sig.returnType = ret) (hX : va_X b L xs s s.heap) (hbl : b < s.heap.size) (c0 s0 : Nat) (k28 : MS → Nat → Nat → Nat → Nat → Int32 → Prop) (kh28 : ∀ (S : MS) (u1 : Nat) (u2 : Nat) (u3 : Nat) (u4 : Nat) (y5 : Int32) (cells slots : Nat) (H : Heap) (locs : List Loc) (ls : Array Slot), pI S 8 u1 → pI S 9 u2 → pI S 16 u3 → pI S 17 u4 → PW G (fun q => s.heap.size ≤ q) s H locs S0 S → lv_has ls 9 [(0, .ref b), (1, .ref u1), (2, .ref u2), (3, .ref u3), (4, .ref u4), (5, .int y5)] → cells ≤ c0 + 5 → slots ≤ s0 + 30 → k28 S u1 u2 u3 u4 y5 → W p l e room_1 s m #[Value.ref b] below meth c H locs cells slots (lw_Z below #[Value.ref b] s) (F0 m 28 ls [])) (S : MS) (u1 : Nat) (u2 : Nat) (u3 : Nat) (u4 : Nat) (y5 : Int32) (p_u1 : pI S 8 u1) (p_u2 : pI S 9 u2) (p_u3 : pI S 16 u3) (p_u4 : pI S 17 u4) (P : PW G (fun q => s.heap.size ≤ q) s H locs S0 S) (hl : lv_has ls 9 [(0, .ref b), (1, .ref u1), (2, .ref u2), (3, .ref u3), (4, .ref u4), (5, .int y5)]) (hcc : cells + 5 ≤ c0 + 5) (hss : slots + 30 ≤ s0 + 30) (h0 : c0 + 5 ≤ 603072) (hs0 : s0 + 30 ≤ 7202922) (hw : wL_law_787 L xs k28 S u1 u2 u3 u4 y5) : W p l e room_1 s m #[Value.ref b] below meth c H locs cells slots (lw_Z below #[Value.ref b] s) (F0 m 787 ls []) := by
  have hx := CF_x C
  have hb := CF_b C
  unfold wL_law_787 at hw
  refine lv_aload_n hx hb dL_law_787 rfl (lv_at hl 1 rfl) ?_
  refine lv_aload_n hx hb dL_law_788 rfl (lv_at hl 0 rfl) ?_
  refine lv_iload hx hb dL_law_789 (lv_at hl 5 rfl) ?_
  refine lv_iconst (v := 1) hx hb dL_law_791 (by decide) ?_
  refine lv_iadd hx hb dL_law_792 ?_
  obtain ⟨h1, hw⟩ := hw
  refine va_sld hx hb hX hbl (Nat.not_le.mpr hbl) P.2.2.1 h1 dL_law_793 ?_
  refine lv_aload_n hx hb dL_law_794 rfl (lv_at hl 3 rfl) ?_
  refine cl_i C P (run_SX C P hl.1 (met_L_attack (CF_n C) G H.size _ _ S u1 (xs ((y5 + 1) : Int32).toNatClampNeg) u3 p_u1 p_u3 hw) q_1072 q_1073 q_0 q_1074 cd_L_attack.2 ⟨(Nat.le_of_ble_eq_true rfl), (Nat.le_of_ble_eq_true rfl)⟩ rfl rfl (As := [.ref u1, .int (xs ((y5 + 1) : Int32).toNatClampNeg), .ref u3]) (rest := []) rfl rfl (Nat.le_of_ble_eq_true rfl) dL_law_795 ⟨by show cells + 5 ≤ 603072; omega, by show slots + 30 ≤ 7202922; omega⟩) kx_no (fun r2 S1 H locs P hE hw => ?_)
  have p_u1 : pI S1 8 u1 := pI_x hE p_u1
  have p_u2 : pI S1 9 u2 := pI_x hE p_u2
  have p_u3 : pI S1 16 u3 := pI_x hE p_u3
  have p_u4 : pI S1 17 u4 := pI_x hE p_u4
  refine lv_istore (lv' := [(6, .int r2), (0, .ref b), (1, .ref u1), (2, .ref u2), (3, .ref u3), (4, .ref u4), (5, .int y5)]) hx hb dL_law_798 hl (by decide) rfl (fun ls hl => ?_)
  refine lv_aload_n hx hb dL_law_800 rfl (lv_at hl 3 rfl) ?_
  refine lv_aload_n hx hb dL_law_801 rfl (lv_at hl 1 rfl) ?_
  refine lv_iload hx hb dL_law_802 (lv_at hl 6 rfl) ?_
  refine lv_iconst (v := 1) hx hb dL_law_804 (by decide) ?_
  refine lv_iadd hx hb dL_law_805 ?_
  obtain ⟨h1, hw⟩ := hw
  refine va_sld hx hb hX hbl (Nat.not_le.mpr hbl) P.2.2.1 h1 dL_law_806 ?_
  refine cl_i C P (run_V C P hl.1 (kd := 9) (met_X9_attack (CF_n C) G H.size _ _ S1 u2 (xs ((y5 + 1) : Int32).toNatClampNeg) p_u2 hw) p_u2 (by decide) rfl q_1670 q_1671 q_1672 q_10 q_1673 cd_X9_attack ⟨(Nat.le_of_ble_eq_true rfl), (Nat.le_of_ble_eq_true rfl)⟩ rfl rfl (As := [.int (xs ((y5 + 1) : Int32).toNatClampNeg)]) (rest := []) rfl rfl (Nat.le_of_ble_eq_true rfl) dL_law_807 ⟨by show cells + 5 + 0 ≤ 603072; omega, by show slots + 30 + 0 ≤ 7202922; omega⟩) kx_no (fun r4 S3 H locs P hE hw => ?_)
  have p_u1 : pI S3 8 u1 := pI_x hE p_u1
  have p_u2 : pI S3 9 u2 := pI_x hE p_u2
  have p_u3 : pI S3 16 u3 := pI_x hE p_u3
  have p_u4 : pI S3 17 u4 := pI_x hE p_u4
  refine lv_istore (lv' := [(7, .int r4), (6, .int r2), (0, .ref b), (1, .ref u1), (2, .ref u2), (3, .ref u3), (4, .ref u4), (5, .int y5)]) hx hb dL_law_810 hl (by decide) rfl (fun ls hl => ?_)
  refine lv_goto (tgt := 1227) hx hb dL_law_812 (by decide) ?_
  exact tL_law_1227 C hr hX hbl c0 s0 k28 kh28 S3 u1 u2 u3 u4 y5 p_u1 p_u2 p_u3 p_u4 P (lv_sub hl [2, 3, 4, 5, 6, 7] rfl) (by omega) (by omega) h0 hs0 hw
def wL_law_815 (L : Nat) (xs : Nat → Int32) (k28 : MS → Nat → Nat → Nat → Nat → Int32 → Prop) (S : MS) (u1 : Nat) (u2 : Nat) (u3 : Nat) (u4 : Nat) (y5 : Int32) : Prop := (vp_in (y5 + 1) L ∧ wp_L_throwAt (fun r2 S1 => (vp_in (y5 + 1) L ∧ wp_X9_throwAt (fun r4 S3 => wL_law_1227 L xs k28 S3 u1 u2 u3 u4 y5) (fun _ _ => False) S1 u2 (xs ((y5 + 1) : Int32).toNatClampNeg))) (fun _ _ => False) S u1 (xs ((y5 + 1) : Int32).toNatClampNeg) u3)
set_option maxHeartbeats 8000000 in
set_option maxRecDepth 100000 in
theorem tL_law_815 {p : Program} {l : Launch} {e : Env} {s : State} {m : MethodId} {below : List Frame} {meth : Method} {c : Code} {H : Heap} {locs : List Loc} {cells slots : Nat} {G : GP} {S0 : MS} {ls : Array Slot} {b L : Nat} {xs : Nat → Int32} (C : CF p l s m #[Value.ref b] meth c "SkirmishGridLaw" code 9 G (fun q => s.heap.size ≤ q)) (hr : meth.sig.returnType = ret) (hX : va_X b L xs s s.heap) (hbl : b < s.heap.size) (c0 s0 : Nat) (k28 : MS → Nat → Nat → Nat → Nat → Int32 → Prop) (kh28 : ∀ (S : MS) (u1 : Nat) (u2 : Nat) (u3 : Nat) (u4 : Nat) (y5 : Int32) (cells slots : Nat) (H : Heap) (locs : List Loc) (ls : Array Slot), pI S 8 u1 → pI S 9 u2 → pI S 16 u3 → pI S 17 u4 → PW G (fun q => s.heap.size ≤ q) s H locs S0 S → lv_has ls 9 [(0, .ref b), (1, .ref u1), (2, .ref u2), (3, .ref u3), (4, .ref u4), (5, .int y5)] → cells ≤ c0 + 5 → slots ≤ s0 + 30 → k28 S u1 u2 u3 u4 y5 → W p l e room_1 s m #[Value.ref b] below meth c H locs cells slots (lw_Z below #[Value.ref b] s) (F0 m 28 ls [])) (S : MS) (u1 : Nat) (u2 : Nat) (u3 : Nat) (u4 : Nat) (y5 : Int32) (p_u1 : pI S 8 u1) (p_u2 : pI S 9 u2) (p_u3 : pI S 16 u3) (p_u4 : pI S 17 u4) (P : PW G (fun q => s.heap.size ≤ q) s H locs S0 S) (hl : lv_has ls 9 [(0, .ref b), (1, .ref u1), (2, .ref u2), (3, .ref u3), (4, .ref u4), (5, .int y5)]) (hcc : cells + 4 ≤ c0 + 5) (hss : slots + 24 ≤ s0 + 30) (h0 : c0 + 5 ≤ 603072) (hs0 : s0 + 30 ≤ 7202922) (hw : wL_law_815 L xs k28 S u1 u2 u3 u4 y5) : W p l e room_1 s m #[Value.ref b] below meth c H locs cells slots (lw_Z below #[Value.ref b] s) (F0 m 815 ls []) := by
  have hx := CF_x C
  have hb := CF_b C
  unfold wL_law_815 at hw
  refine lv_aload_n hx hb dL_law_815 rfl (lv_at hl 1 rfl) ?_
  refine lv_aload_n hx hb dL_law_816 rfl (lv_at hl 0 rfl) ?_
  refine lv_iload hx hb dL_law_817 (lv_at hl 5 rfl) ?_
  refine lv_iconst (v := 1) hx hb dL_law_819 (by decide) ?_
  refine lv_iadd hx hb dL_law_820 ?_
  obtain ⟨h1, hw⟩ := hw
  refine va_sld hx hb hX hbl (Nat.not_le.mpr hbl) P.2.2.1 h1 dL_law_821 ?_
  refine lv_aload_n hx hb dL_law_822 rfl (lv_at hl 3 rfl) ?_
  refine cl_i C P (run_SX C P hl.1 (met_L_throwAt (CF_n C) G H.size _ _ S u1 (xs ((y5 + 1) : Int32).toNatClampNeg) u3 p_u1 p_u3 hw) q_1088 q_1089 q_0 q_1090 cd_L_throwAt.2 ⟨(Nat.le_of_ble_eq_true rfl), (Nat.le_of_ble_eq_true rfl)⟩ rfl rfl (As := [.ref u1, .int (xs ((y5 + 1) : Int32).toNatClampNeg), .ref u3]) (rest := []) rfl rfl (Nat.le_of_ble_eq_true rfl) dL_law_823 ⟨by show cells + 4 ≤ 603072; omega, by show slots + 24 ≤ 7202922; omega⟩) kx_no (fun r2 S1 H locs P hE hw => ?_)
  have p_u1 : pI S1 8 u1 := pI_x hE p_u1
  have p_u2 : pI S1 9 u2 := pI_x hE p_u2
  have p_u3 : pI S1 16 u3 := pI_x hE p_u3
  have p_u4 : pI S1 17 u4 := pI_x hE p_u4
  refine lv_istore (lv' := [(6, .int r2), (0, .ref b), (1, .ref u1), (2, .ref u2), (3, .ref u3), (4, .ref u4), (5, .int y5)]) hx hb dL_law_826 hl (by decide) rfl (fun ls hl => ?_)
  refine lv_aload_n hx hb dL_law_828 rfl (lv_at hl 3 rfl) ?_
  refine lv_aload_n hx hb dL_law_829 rfl (lv_at hl 1 rfl) ?_
  refine lv_iload hx hb dL_law_830 (lv_at hl 6 rfl) ?_
  refine lv_iconst (v := 1) hx hb dL_law_832 (by decide) ?_
  refine lv_iadd hx hb dL_law_833 ?_
  obtain ⟨h1, hw⟩ := hw
  refine va_sld hx hb hX hbl (Nat.not_le.mpr hbl) P.2.2.1 h1 dL_law_834 ?_
  refine cl_i C P (run_V C P hl.1 (kd := 9) (met_X9_throwAt (CF_n C) G H.size _ _ S1 u2 (xs ((y5 + 1) : Int32).toNatClampNeg) p_u2 hw) p_u2 (by decide) rfl q_1674 q_1675 q_1676 q_10 q_1677 cd_X9_throwAt ⟨(Nat.le_of_ble_eq_true rfl), (Nat.le_of_ble_eq_true rfl)⟩ rfl rfl (As := [.int (xs ((y5 + 1) : Int32).toNatClampNeg)]) (rest := []) rfl rfl (Nat.le_of_ble_eq_true rfl) dL_law_835 ⟨by show cells + 4 + 0 ≤ 603072; omega, by show slots + 24 + 0 ≤ 7202922; omega⟩) kx_no (fun r4 S3 H locs P hE hw => ?_)
  have p_u1 : pI S3 8 u1 := pI_x hE p_u1
  have p_u2 : pI S3 9 u2 := pI_x hE p_u2
  have p_u3 : pI S3 16 u3 := pI_x hE p_u3
  have p_u4 : pI S3 17 u4 := pI_x hE p_u4
  refine lv_istore (lv' := [(7, .int r4), (6, .int r2), (0, .ref b), (1, .ref u1), (2, .ref u2), (3, .ref u3), (4, .ref u4), (5, .int y5)]) hx hb dL_law_838 hl (by decide) rfl (fun ls hl => ?_)
  refine lv_goto (tgt := 1227) hx hb dL_law_840 (by decide) ?_
  exact tL_law_1227 C hr hX hbl c0 s0 k28 kh28 S3 u1 u2 u3 u4 y5 p_u1 p_u2 p_u3 p_u4 P (lv_sub hl [2, 3, 4, 5, 6, 7] rfl) (by omega) (by omega) h0 hs0 hw
def wL_law_843 (L : Nat) (xs : Nat → Int32) (k28 : MS → Nat → Nat → Nat → Nat → Int32 → Prop) (S : MS) (u1 : Nat) (u2 : Nat) (u3 : Nat) (u4 : Nat) (y5 : Int32) : Prop := wp_L_guard (fun r2 S1 => wp_X9_guard (fun r4 S3 => wL_law_1227 L xs k28 S3 u1 u2 u3 u4 y5) (fun _ _ => False) S1 u2) (fun _ _ => False) S u1 u3
set_option maxHeartbeats 8000000 in
set_option maxRecDepth 100000 in
theorem tL_law_843 {p : Program} {l : Launch} {e : Env} {s : State} {m : MethodId} {below : List Frame} {meth : Method} {c : Code} {H : Heap} {locs : List Loc} {cells slots : Nat} {G : GP} {S0 : MS} {ls : Array Slot} {b L : Nat} {xs : Nat → Int32} (C : CF p l s m #[Value.ref b] meth c "SkirmishGridLaw" code 9 G (fun q => s.heap.size ≤ q)) (hr : meth.sig.returnType = ret) (hX : va_X b L xs s s.heap) (hbl : b < s.heap.size) (c0 s0 : Nat) (k28 : MS → Nat → Nat → Nat → Nat → Int32 → Prop) (kh28 : ∀ (S : MS) (u1 : Nat) (u2 : Nat) (u3 : Nat) (u4 : Nat) (y5 : Int32) (cells slots : Nat) (H : Heap) (locs : List Loc) (ls : Array Slot), pI S 8 u1 → pI S 9 u2 → pI S 16 u3 → pI S 17 u4 → PW G (fun q => s.heap.size ≤ q) s H locs S0 S → lv_has ls 9 [(0, .ref b), (1, .ref u1), (2, .ref u2), (3, .ref u3), (4, .ref u4), (5, .int y5)] → cells ≤ c0 + 5 → slots ≤ s0 + 30 → k28 S u1 u2 u3 u4 y5 → W p l e room_1 s m #[Value.ref b] below meth c H locs cells slots (lw_Z below #[Value.ref b] s) (F0 m 28 ls [])) (S : MS) (u1 : Nat) (u2 : Nat) (u3 : Nat) (u4 : Nat) (y5 : Int32) (p_u1 : pI S 8 u1) (p_u2 : pI S 9 u2) (p_u3 : pI S 16 u3) (p_u4 : pI S 17 u4) (P : PW G (fun q => s.heap.size ≤ q) s H locs S0 S) (hl : lv_has ls 9 [(0, .ref b), (1, .ref u1), (2, .ref u2), (3, .ref u3), (4, .ref u4), (5, .int y5)]) (hcc : cells + 3 ≤ c0 + 5) (hss : slots + 18 ≤ s0 + 30) (h0 : c0 + 5 ≤ 603072) (hs0 : s0 + 30 ≤ 7202922) (hw : wL_law_843 L xs k28 S u1 u2 u3 u4 y5) : W p l e room_1 s m #[Value.ref b] below meth c H locs cells slots (lw_Z below #[Value.ref b] s) (F0 m 843 ls []) := by
  have hx := CF_x C
  have hb := CF_b C
  unfold wL_law_843 at hw
  refine lv_aload_n hx hb dL_law_843 rfl (lv_at hl 1 rfl) ?_
  refine lv_aload_n hx hb dL_law_844 rfl (lv_at hl 3 rfl) ?_
  refine cl_i C P (run_SX C P hl.1 (met_L_guard (CF_n C) G H.size _ _ S u1 u3 p_u1 p_u3 hw) q_1109 q_1110 q_0 q_1111 cd_L_guard.2 ⟨(Nat.le_of_ble_eq_true rfl), (Nat.le_of_ble_eq_true rfl)⟩ rfl rfl (As := [.ref u1, .ref u3]) (rest := []) rfl rfl (Nat.le_of_ble_eq_true rfl) dL_law_845 ⟨by show cells + 3 ≤ 603072; omega, by show slots + 18 ≤ 7202922; omega⟩) kx_no (fun r2 S1 H locs P hE hw => ?_)
  have p_u1 : pI S1 8 u1 := pI_x hE p_u1
  have p_u2 : pI S1 9 u2 := pI_x hE p_u2
  have p_u3 : pI S1 16 u3 := pI_x hE p_u3
  have p_u4 : pI S1 17 u4 := pI_x hE p_u4
  refine lv_istore (lv' := [(6, .int r2), (0, .ref b), (1, .ref u1), (2, .ref u2), (3, .ref u3), (4, .ref u4), (5, .int y5)]) hx hb dL_law_848 hl (by decide) rfl (fun ls hl => ?_)
  refine lv_aload_n hx hb dL_law_850 rfl (lv_at hl 3 rfl) ?_
  refine cl_i C P (run_V C P hl.1 (kd := 9) (met_X9_guard (CF_n C) G H.size _ _ S1 u2 p_u2 hw) p_u2 (by decide) rfl q_1678 q_1679 q_1680 q_10 q_1681 cd_X9_guard ⟨(Nat.le_of_ble_eq_true rfl), (Nat.le_of_ble_eq_true rfl)⟩ rfl rfl (As := []) (rest := []) rfl rfl (Nat.le_of_ble_eq_true rfl) dL_law_851 ⟨by show cells + 3 + 0 ≤ 603072; omega, by show slots + 18 + 0 ≤ 7202922; omega⟩) kx_no (fun r4 S3 H locs P hE hw => ?_)
  have p_u1 : pI S3 8 u1 := pI_x hE p_u1
  have p_u2 : pI S3 9 u2 := pI_x hE p_u2
  have p_u3 : pI S3 16 u3 := pI_x hE p_u3
  have p_u4 : pI S3 17 u4 := pI_x hE p_u4
  refine lv_istore (lv' := [(7, .int r4), (6, .int r2), (0, .ref b), (1, .ref u1), (2, .ref u2), (3, .ref u3), (4, .ref u4), (5, .int y5)]) hx hb dL_law_854 hl (by decide) rfl (fun ls hl => ?_)
  refine lv_goto (tgt := 1227) hx hb dL_law_856 (by decide) ?_
  exact tL_law_1227 C hr hX hbl c0 s0 k28 kh28 S3 u1 u2 u3 u4 y5 p_u1 p_u2 p_u3 p_u4 P (lv_sub hl [2, 3, 4, 5, 6, 7] rfl) (by omega) (by omega) h0 hs0 hw
def wL_law_859 (L : Nat) (xs : Nat → Int32) (k28 : MS → Nat → Nat → Nat → Nat → Int32 → Prop) (S : MS) (u1 : Nat) (u2 : Nat) (u3 : Nat) (u4 : Nat) (y5 : Int32) : Prop := wp_L_watch (fun r2 S1 => wp_X9_watch (fun r4 S3 => wL_law_1227 L xs k28 S3 u1 u2 u3 u4 y5) (fun _ _ => False) S1 u2) (fun _ _ => False) S u1 u3
set_option maxHeartbeats 8000000 in
set_option maxRecDepth 100000 in
theorem tL_law_859 {p : Program} {l : Launch} {e : Env} {s : State} {m : MethodId} {below : List Frame} {meth : Method} {c : Code} {H : Heap} {locs : List Loc} {cells slots : Nat} {G : GP} {S0 : MS} {ls : Array Slot} {b L : Nat} {xs : Nat → Int32} (C : CF p l s m #[Value.ref b] meth c "SkirmishGridLaw" code 9 G (fun q => s.heap.size ≤ q)) (hr : meth.sig.returnType = ret) (hX : va_X b L xs s s.heap) (hbl : b < s.heap.size) (c0 s0 : Nat) (k28 : MS → Nat → Nat → Nat → Nat → Int32 → Prop) (kh28 : ∀ (S : MS) (u1 : Nat) (u2 : Nat) (u3 : Nat) (u4 : Nat) (y5 : Int32) (cells slots : Nat) (H : Heap) (locs : List Loc) (ls : Array Slot), pI S 8 u1 → pI S 9 u2 → pI S 16 u3 → pI S 17 u4 → PW G (fun q => s.heap.size ≤ q) s H locs S0 S → lv_has ls 9 [(0, .ref b), (1, .ref u1), (2, .ref u2), (3, .ref u3), (4, .ref u4), (5, .int y5)] → cells ≤ c0 + 5 → slots ≤ s0 + 30 → k28 S u1 u2 u3 u4 y5 → W p l e room_1 s m #[Value.ref b] below meth c H locs cells slots (lw_Z below #[Value.ref b] s) (F0 m 28 ls [])) (S : MS) (u1 : Nat) (u2 : Nat) (u3 : Nat) (u4 : Nat) (y5 : Int32) (p_u1 : pI S 8 u1) (p_u2 : pI S 9 u2) (p_u3 : pI S 16 u3) (p_u4 : pI S 17 u4) (P : PW G (fun q => s.heap.size ≤ q) s H locs S0 S) (hl : lv_has ls 9 [(0, .ref b), (1, .ref u1), (2, .ref u2), (3, .ref u3), (4, .ref u4), (5, .int y5)]) (hcc : cells + 3 ≤ c0 + 5) (hss : slots + 18 ≤ s0 + 30) (h0 : c0 + 5 ≤ 603072) (hs0 : s0 + 30 ≤ 7202922) (hw : wL_law_859 L xs k28 S u1 u2 u3 u4 y5) : W p l e room_1 s m #[Value.ref b] below meth c H locs cells slots (lw_Z below #[Value.ref b] s) (F0 m 859 ls []) := by
  have hx := CF_x C
  have hb := CF_b C
  unfold wL_law_859 at hw
  refine lv_aload_n hx hb dL_law_859 rfl (lv_at hl 1 rfl) ?_
  refine lv_aload_n hx hb dL_law_860 rfl (lv_at hl 3 rfl) ?_
  refine cl_i C P (run_SX C P hl.1 (met_L_watch (CF_n C) G H.size _ _ S u1 u3 p_u1 p_u3 hw) q_1121 q_1122 q_0 q_1123 cd_L_watch.2 ⟨(Nat.le_of_ble_eq_true rfl), (Nat.le_of_ble_eq_true rfl)⟩ rfl rfl (As := [.ref u1, .ref u3]) (rest := []) rfl rfl (Nat.le_of_ble_eq_true rfl) dL_law_861 ⟨by show cells + 3 ≤ 603072; omega, by show slots + 18 ≤ 7202922; omega⟩) kx_no (fun r2 S1 H locs P hE hw => ?_)
  have p_u1 : pI S1 8 u1 := pI_x hE p_u1
  have p_u2 : pI S1 9 u2 := pI_x hE p_u2
  have p_u3 : pI S1 16 u3 := pI_x hE p_u3
  have p_u4 : pI S1 17 u4 := pI_x hE p_u4
  refine lv_istore (lv' := [(6, .int r2), (0, .ref b), (1, .ref u1), (2, .ref u2), (3, .ref u3), (4, .ref u4), (5, .int y5)]) hx hb dL_law_864 hl (by decide) rfl (fun ls hl => ?_)
  refine lv_aload_n hx hb dL_law_866 rfl (lv_at hl 3 rfl) ?_
  refine cl_i C P (run_V C P hl.1 (kd := 9) (met_X9_watch (CF_n C) G H.size _ _ S1 u2 p_u2 hw) p_u2 (by decide) rfl q_1686 q_1687 q_1688 q_10 q_1689 cd_X9_watch ⟨(Nat.le_of_ble_eq_true rfl), (Nat.le_of_ble_eq_true rfl)⟩ rfl rfl (As := []) (rest := []) rfl rfl (Nat.le_of_ble_eq_true rfl) dL_law_867 ⟨by show cells + 3 + 0 ≤ 603072; omega, by show slots + 18 + 0 ≤ 7202922; omega⟩) kx_no (fun r4 S3 H locs P hE hw => ?_)
  have p_u1 : pI S3 8 u1 := pI_x hE p_u1
  have p_u2 : pI S3 9 u2 := pI_x hE p_u2
  have p_u3 : pI S3 16 u3 := pI_x hE p_u3
  have p_u4 : pI S3 17 u4 := pI_x hE p_u4
  refine lv_istore (lv' := [(7, .int r4), (6, .int r2), (0, .ref b), (1, .ref u1), (2, .ref u2), (3, .ref u3), (4, .ref u4), (5, .int y5)]) hx hb dL_law_870 hl (by decide) rfl (fun ls hl => ?_)
  refine lv_goto (tgt := 1227) hx hb dL_law_872 (by decide) ?_
  exact tL_law_1227 C hr hX hbl c0 s0 k28 kh28 S3 u1 u2 u3 u4 y5 p_u1 p_u2 p_u3 p_u4 P (lv_sub hl [2, 3, 4, 5, 6, 7] rfl) (by omega) (by omega) h0 hs0 hw
def wL_law_875 (L : Nat) (xs : Nat → Int32) (k28 : MS → Nat → Nat → Nat → Nat → Int32 → Prop) (S : MS) (u1 : Nat) (u2 : Nat) (u3 : Nat) (u4 : Nat) (y5 : Int32) : Prop := wp_L_reload (fun r2 S1 => wp_X9_reload (fun r4 S3 => wL_law_1227 L xs k28 S3 u1 u2 u3 u4 y5) (fun _ _ => False) S1 u2) (fun _ _ => False) S u1 u3
set_option maxHeartbeats 8000000 in
set_option maxRecDepth 100000 in
theorem tL_law_875 {p : Program} {l : Launch} {e : Env} {s : State} {m : MethodId} {below : List Frame} {meth : Method} {c : Code} {H : Heap} {locs : List Loc} {cells slots : Nat} {G : GP} {S0 : MS} {ls : Array Slot} {b L : Nat} {xs : Nat → Int32} (C : CF p l s m #[Value.ref b] meth c "SkirmishGridLaw" code 9 G (fun q => s.heap.size ≤ q)) (hr : meth.sig.returnType = ret) (hX : va_X b L xs s s.heap) (hbl : b < s.heap.size) (c0 s0 : Nat) (k28 : MS → Nat → Nat → Nat → Nat → Int32 → Prop) (kh28 : ∀ (S : MS) (u1 : Nat) (u2 : Nat) (u3 : Nat) (u4 : Nat) (y5 : Int32) (cells slots : Nat) (H : Heap) (locs : List Loc) (ls : Array Slot), pI S 8 u1 → pI S 9 u2 → pI S 16 u3 → pI S 17 u4 → PW G (fun q => s.heap.size ≤ q) s H locs S0 S → lv_has ls 9 [(0, .ref b), (1, .ref u1), (2, .ref u2), (3, .ref u3), (4, .ref u4), (5, .int y5)] → cells ≤ c0 + 5 → slots ≤ s0 + 30 → k28 S u1 u2 u3 u4 y5 → W p l e room_1 s m #[Value.ref b] below meth c H locs cells slots (lw_Z below #[Value.ref b] s) (F0 m 28 ls [])) (S : MS) (u1 : Nat) (u2 : Nat) (u3 : Nat) (u4 : Nat) (y5 : Int32) (p_u1 : pI S 8 u1) (p_u2 : pI S 9 u2) (p_u3 : pI S 16 u3) (p_u4 : pI S 17 u4) (P : PW G (fun q => s.heap.size ≤ q) s H locs S0 S) (hl : lv_has ls 9 [(0, .ref b), (1, .ref u1), (2, .ref u2), (3, .ref u3), (4, .ref u4), (5, .int y5)]) (hcc : cells + 2 ≤ c0 + 5) (hss : slots + 12 ≤ s0 + 30) (h0 : c0 + 5 ≤ 603072) (hs0 : s0 + 30 ≤ 7202922) (hw : wL_law_875 L xs k28 S u1 u2 u3 u4 y5) : W p l e room_1 s m #[Value.ref b] below meth c H locs cells slots (lw_Z below #[Value.ref b] s) (F0 m 875 ls []) := by
  have hx := CF_x C
  have hb := CF_b C
  unfold wL_law_875 at hw
  refine lv_aload_n hx hb dL_law_875 rfl (lv_at hl 1 rfl) ?_
  refine lv_aload_n hx hb dL_law_876 rfl (lv_at hl 3 rfl) ?_
  refine cl_i C P (run_SX C P hl.1 (met_L_reload (CF_n C) G H.size _ _ S u1 u3 p_u1 p_u3 hw) q_1132 q_1133 q_0 q_1134 cd_L_reload.2 ⟨(Nat.le_of_ble_eq_true rfl), (Nat.le_of_ble_eq_true rfl)⟩ rfl rfl (As := [.ref u1, .ref u3]) (rest := []) rfl rfl (Nat.le_of_ble_eq_true rfl) dL_law_877 ⟨by show cells + 2 ≤ 603072; omega, by show slots + 12 ≤ 7202922; omega⟩) kx_no (fun r2 S1 H locs P hE hw => ?_)
  have p_u1 : pI S1 8 u1 := pI_x hE p_u1
  have p_u2 : pI S1 9 u2 := pI_x hE p_u2
  have p_u3 : pI S1 16 u3 := pI_x hE p_u3
  have p_u4 : pI S1 17 u4 := pI_x hE p_u4
  refine lv_istore (lv' := [(6, .int r2), (0, .ref b), (1, .ref u1), (2, .ref u2), (3, .ref u3), (4, .ref u4), (5, .int y5)]) hx hb dL_law_880 hl (by decide) rfl (fun ls hl => ?_)
  refine lv_aload_n hx hb dL_law_882 rfl (lv_at hl 3 rfl) ?_
  refine cl_i C P (run_V C P hl.1 (kd := 9) (met_X9_reload (CF_n C) G H.size _ _ S1 u2 p_u2 hw) p_u2 (by decide) rfl q_1690 q_1691 q_1692 q_10 q_1693 cd_X9_reload ⟨(Nat.le_of_ble_eq_true rfl), (Nat.le_of_ble_eq_true rfl)⟩ rfl rfl (As := []) (rest := []) rfl rfl (Nat.le_of_ble_eq_true rfl) dL_law_883 ⟨by show cells + 2 + 0 ≤ 603072; omega, by show slots + 12 + 0 ≤ 7202922; omega⟩) kx_no (fun r4 S3 H locs P hE hw => ?_)
  have p_u1 : pI S3 8 u1 := pI_x hE p_u1
  have p_u2 : pI S3 9 u2 := pI_x hE p_u2
  have p_u3 : pI S3 16 u3 := pI_x hE p_u3
  have p_u4 : pI S3 17 u4 := pI_x hE p_u4
  refine lv_istore (lv' := [(7, .int r4), (6, .int r2), (0, .ref b), (1, .ref u1), (2, .ref u2), (3, .ref u3), (4, .ref u4), (5, .int y5)]) hx hb dL_law_886 hl (by decide) rfl (fun ls hl => ?_)
  refine lv_goto (tgt := 1227) hx hb dL_law_888 (by decide) ?_
  exact tL_law_1227 C hr hX hbl c0 s0 k28 kh28 S3 u1 u2 u3 u4 y5 p_u1 p_u2 p_u3 p_u4 P (lv_sub hl [2, 3, 4, 5, 6, 7] rfl) (by omega) (by omega) h0 hs0 hw
def wL_law_891 (L : Nat) (xs : Nat → Int32) (k28 : MS → Nat → Nat → Nat → Nat → Int32 → Prop) (S : MS) (u1 : Nat) (u2 : Nat) (u3 : Nat) (u4 : Nat) (y5 : Int32) : Prop := wp_L_endTurn (fun r2 S1 => wp_X9_endTurn (fun r4 S3 => wL_law_1227 L xs k28 S3 u1 u2 u3 u4 y5) (fun _ _ => False) S1 u2) (fun _ _ => False) S u1 u3
set_option maxHeartbeats 8000000 in
set_option maxRecDepth 100000 in
theorem tL_law_891 {p : Program} {l : Launch} {e : Env} {s : State} {m : MethodId} {below : List Frame} {meth : Method} {c : Code} {H : Heap} {locs : List Loc} {cells slots : Nat} {G : GP} {S0 : MS} {ls : Array Slot} {b L : Nat} {xs : Nat → Int32} (C : CF p l s m #[Value.ref b] meth c "SkirmishGridLaw" code 9 G (fun q => s.heap.size ≤ q)) (hr : meth.sig.returnType = ret) (hX : va_X b L xs s s.heap) (hbl : b < s.heap.size) (c0 s0 : Nat) (k28 : MS → Nat → Nat → Nat → Nat → Int32 → Prop) (kh28 : ∀ (S : MS) (u1 : Nat) (u2 : Nat) (u3 : Nat) (u4 : Nat) (y5 : Int32) (cells slots : Nat) (H : Heap) (locs : List Loc) (ls : Array Slot), pI S 8 u1 → pI S 9 u2 → pI S 16 u3 → pI S 17 u4 → PW G (fun q => s.heap.size ≤ q) s H locs S0 S → lv_has ls 9 [(0, .ref b), (1, .ref u1), (2, .ref u2), (3, .ref u3), (4, .ref u4), (5, .int y5)] → cells ≤ c0 + 5 → slots ≤ s0 + 30 → k28 S u1 u2 u3 u4 y5 → W p l e room_1 s m #[Value.ref b] below meth c H locs cells slots (lw_Z below #[Value.ref b] s) (F0 m 28 ls [])) (S : MS) (u1 : Nat) (u2 : Nat) (u3 : Nat) (u4 : Nat) (y5 : Int32) (p_u1 : pI S 8 u1) (p_u2 : pI S 9 u2) (p_u3 : pI S 16 u3) (p_u4 : pI S 17 u4) (P : PW G (fun q => s.heap.size ≤ q) s H locs S0 S) (hl : lv_has ls 9 [(0, .ref b), (1, .ref u1), (2, .ref u2), (3, .ref u3), (4, .ref u4), (5, .int y5)]) (hcc : cells + 1 ≤ c0 + 5) (hss : slots + 6 ≤ s0 + 30) (h0 : c0 + 5 ≤ 603072) (hs0 : s0 + 30 ≤ 7202922) (hw : wL_law_891 L xs k28 S u1 u2 u3 u4 y5) : W p l e room_1 s m #[Value.ref b] below meth c H locs cells slots (lw_Z below #[Value.ref b] s) (F0 m 891 ls []) := by
  have hx := CF_x C
  have hb := CF_b C
  unfold wL_law_891 at hw
  refine lv_aload_n hx hb dL_law_891 rfl (lv_at hl 1 rfl) ?_
  refine lv_aload_n hx hb dL_law_892 rfl (lv_at hl 3 rfl) ?_
  refine cl_i C P (run_SX C P hl.1 (met_L_endTurn (CF_n C) G H.size _ _ S u1 u3 p_u1 p_u3 hw) q_1144 q_1145 q_0 q_1146 cd_L_endTurn.2 ⟨(Nat.le_of_ble_eq_true rfl), (Nat.le_of_ble_eq_true rfl)⟩ rfl rfl (As := [.ref u1, .ref u3]) (rest := []) rfl rfl (Nat.le_of_ble_eq_true rfl) dL_law_893 ⟨by show cells + 1 ≤ 603072; omega, by show slots + 6 ≤ 7202922; omega⟩) kx_no (fun r2 S1 H locs P hE hw => ?_)
  have p_u1 : pI S1 8 u1 := pI_x hE p_u1
  have p_u2 : pI S1 9 u2 := pI_x hE p_u2
  have p_u3 : pI S1 16 u3 := pI_x hE p_u3
  have p_u4 : pI S1 17 u4 := pI_x hE p_u4
  refine lv_istore (lv' := [(6, .int r2), (0, .ref b), (1, .ref u1), (2, .ref u2), (3, .ref u3), (4, .ref u4), (5, .int y5)]) hx hb dL_law_896 hl (by decide) rfl (fun ls hl => ?_)
  refine lv_aload_n hx hb dL_law_898 rfl (lv_at hl 3 rfl) ?_
  refine cl_i C P (run_V C P hl.1 (kd := 9) (met_X9_endTurn (CF_n C) G H.size _ _ S1 u2 p_u2 hw) p_u2 (by decide) rfl q_1694 q_1695 q_1696 q_10 q_1697 cd_X9_endTurn ⟨(Nat.le_of_ble_eq_true rfl), (Nat.le_of_ble_eq_true rfl)⟩ rfl rfl (As := []) (rest := []) rfl rfl (Nat.le_of_ble_eq_true rfl) dL_law_899 ⟨by show cells + 1 + 0 ≤ 603072; omega, by show slots + 6 + 0 ≤ 7202922; omega⟩) kx_no (fun r4 S3 H locs P hE hw => ?_)
  have p_u1 : pI S3 8 u1 := pI_x hE p_u1
  have p_u2 : pI S3 9 u2 := pI_x hE p_u2
  have p_u3 : pI S3 16 u3 := pI_x hE p_u3
  have p_u4 : pI S3 17 u4 := pI_x hE p_u4
  refine lv_istore (lv' := [(7, .int r4), (6, .int r2), (0, .ref b), (1, .ref u1), (2, .ref u2), (3, .ref u3), (4, .ref u4), (5, .int y5)]) hx hb dL_law_902 hl (by decide) rfl (fun ls hl => ?_)
  refine lv_goto (tgt := 1227) hx hb dL_law_904 (by decide) ?_
  exact tL_law_1227 C hr hX hbl c0 s0 k28 kh28 S3 u1 u2 u3 u4 y5 p_u1 p_u2 p_u3 p_u4 P (lv_sub hl [2, 3, 4, 5, 6, 7] rfl) (by omega) (by omega) h0 hs0 hw
def wL_law_907 (L : Nat) (xs : Nat → Int32) (k28 : MS → Nat → Nat → Nat → Nat → Int32 → Prop) (S : MS) (u1 : Nat) (u2 : Nat) (u3 : Nat) (u4 : Nat) (y5 : Int32) : Prop := wp_X8_eventCount (fun r2 S1 => wp_X9_eventCount (fun r4 S3 => wL_law_1227 L xs k28 S3 u1 u2 u3 u4 y5) (fun _ _ => False) S1 u2) (fun _ _ => False) S u1
set_option maxHeartbeats 8000000 in
set_option maxRecDepth 100000 in
theorem tL_law_907 {p : Program} {l : Launch} {e : Env} {s : State} {m : MethodId} {below : List Frame} {meth : Method} {c : Code} {H : Heap} {locs : List Loc} {cells slots : Nat} {G : GP} {S0 : MS} {ls : Array Slot} {b L : Nat} {xs : Nat → Int32} (C : CF p l s m #[Value.ref b] meth c "SkirmishGridLaw" code 9 G (fun q => s.heap.size ≤ q)) (hr : meth.sig.returnType = ret) (hX : va_X b L xs s s.heap) (hbl : b < s.heap.size) (c0 s0 : Nat) (k28 : MS → Nat → Nat → Nat → Nat → Int32 → Prop) (kh28 : ∀ (S : MS) (u1 : Nat) (u2 : Nat) (u3 : Nat) (u4 : Nat) (y5 : Int32) (cells slots : Nat) (H : Heap) (locs : List Loc) (ls : Array Slot), pI S 8 u1 → pI S 9 u2 → pI S 16 u3 → pI S 17 u4 → PW G (fun q => s.heap.size ≤ q) s H locs S0 S → lv_has ls 9 [(0, .ref b), (1, .ref u1), (2, .ref u2), (3, .ref u3), (4, .ref u4), (5, .int y5)] → cells ≤ c0 + 5 → slots ≤ s0 + 30 → k28 S u1 u2 u3 u4 y5 → W p l e room_1 s m #[Value.ref b] below meth c H locs cells slots (lw_Z below #[Value.ref b] s) (F0 m 28 ls [])) (S : MS) (u1 : Nat) (u2 : Nat) (u3 : Nat) (u4 : Nat) (y5 : Int32) (p_u1 : pI S 8 u1) (p_u2 : pI S 9 u2) (p_u3 : pI S 16 u3) (p_u4 : pI S 17 u4) (P : PW G (fun q => s.heap.size ≤ q) s H locs S0 S) (hl : lv_has ls 9 [(0, .ref b), (1, .ref u1), (2, .ref u2), (3, .ref u3), (4, .ref u4), (5, .int y5)]) (hcc : cells + 0 ≤ c0 + 5) (hss : slots + 0 ≤ s0 + 30) (h0 : c0 + 5 ≤ 603072) (hs0 : s0 + 30 ≤ 7202922) (hw : wL_law_907 L xs k28 S u1 u2 u3 u4 y5) : W p l e room_1 s m #[Value.ref b] below meth c H locs cells slots (lw_Z below #[Value.ref b] s) (F0 m 907 ls []) := by
  have hx := CF_x C
  have hb := CF_b C
  unfold wL_law_907 at hw
  refine lv_aload_n hx hb dL_law_907 rfl (lv_at hl 1 rfl) ?_
  refine cl_i C P (run_V C P hl.1 (kd := 8) (met_X8_eventCount (CF_n C) G H.size _ _ S u1 p_u1 hw) p_u1 (by decide) rfl q_363 q_364 q_365 q_1 q_366 cd_X8_eventCount ⟨(Nat.le_of_ble_eq_true rfl), (Nat.le_of_ble_eq_true rfl)⟩ rfl rfl (As := []) (rest := []) rfl rfl (Nat.le_of_ble_eq_true rfl) dL_law_908 ⟨by show cells + 0 ≤ 603072; omega, by show slots + 0 ≤ 7202922; omega⟩) kx_no (fun r2 S1 H locs P hE hw => ?_)
  have p_u1 : pI S1 8 u1 := pI_x hE p_u1
  have p_u2 : pI S1 9 u2 := pI_x hE p_u2
  have p_u3 : pI S1 16 u3 := pI_x hE p_u3
  have p_u4 : pI S1 17 u4 := pI_x hE p_u4
  refine lv_pop hx hb dL_law_911 rfl ?_
  refine lv_aload_n hx hb dL_law_912 rfl (lv_at hl 2 rfl) ?_
  refine cl_i C P (run_V C P hl.1 (kd := 9) (met_X9_eventCount (CF_n C) G H.size _ _ S1 u2 p_u2 hw) p_u2 (by decide) rfl q_1698 q_1699 q_1700 q_10 q_1701 cd_X9_eventCount ⟨(Nat.le_of_ble_eq_true rfl), (Nat.le_of_ble_eq_true rfl)⟩ rfl rfl (As := []) (rest := []) rfl rfl (Nat.le_of_ble_eq_true rfl) dL_law_913 ⟨by show cells + 0 ≤ 603072; omega, by show slots + 0 ≤ 7202922; omega⟩) kx_no (fun r4 S3 H locs P hE hw => ?_)
  have p_u1 : pI S3 8 u1 := pI_x hE p_u1
  have p_u2 : pI S3 9 u2 := pI_x hE p_u2
  have p_u3 : pI S3 16 u3 := pI_x hE p_u3
  have p_u4 : pI S3 17 u4 := pI_x hE p_u4
  refine lv_pop hx hb dL_law_916 rfl ?_
  refine lv_goto (tgt := 1227) hx hb dL_law_917 (by decide) ?_
  exact tL_law_1227 C hr hX hbl c0 s0 k28 kh28 S3 u1 u2 u3 u4 y5 p_u1 p_u2 p_u3 p_u4 P (lv_sub hl [0, 1, 2, 3, 4, 5] rfl) (by omega) (by omega) h0 hs0 hw
def wL_law_920 (L : Nat) (xs : Nat → Int32) (k28 : MS → Nat → Nat → Nat → Nat → Int32 → Prop) (S : MS) (u1 : Nat) (u2 : Nat) (u3 : Nat) (u4 : Nat) (y5 : Int32) : Prop := (vp_in (y5 + 1) L ∧ (vp_in (y5 + 2) L ∧ wp_L_event (fun r2 S1 => (vp_in (y5 + 1) L ∧ (vp_in (y5 + 2) L ∧ wp_X9_event (fun r4 S3 => wL_law_1227 L xs k28 S3 u1 u2 u3 u4 y5) (fun _ _ => False) S1 u2 (xs ((y5 + 1) : Int32).toNatClampNeg) (xs ((y5 + 2) : Int32).toNatClampNeg)))) (fun _ _ => False) S u1 (xs ((y5 + 1) : Int32).toNatClampNeg) (xs ((y5 + 2) : Int32).toNatClampNeg) u3))
set_option maxHeartbeats 8000000 in
set_option maxRecDepth 100000 in
theorem tL_law_920 {p : Program} {l : Launch} {e : Env} {s : State} {m : MethodId} {below : List Frame} {meth : Method} {c : Code} {H : Heap} {locs : List Loc} {cells slots : Nat} {G : GP} {S0 : MS} {ls : Array Slot} {b L : Nat} {xs : Nat → Int32} (C : CF p l s m #[Value.ref b] meth c "SkirmishGridLaw" code 9 G (fun q => s.heap.size ≤ q)) (hr : meth.sig.returnType = ret) (hX : va_X b L xs s s.heap) (hbl : b < s.heap.size) (c0 s0 : Nat) (k28 : MS → Nat → Nat → Nat → Nat → Int32 → Prop) (kh28 : ∀ (S : MS) (u1 : Nat) (u2 : Nat) (u3 : Nat) (u4 : Nat) (y5 : Int32) (cells slots : Nat) (H : Heap) (locs : List Loc) (ls : Array Slot), pI S 8 u1 → pI S 9 u2 → pI S 16 u3 → pI S 17 u4 → PW G (fun q => s.heap.size ≤ q) s H locs S0 S → lv_has ls 9 [(0, .ref b), (1, .ref u1), (2, .ref u2), (3, .ref u3), (4, .ref u4), (5, .int y5)] → cells ≤ c0 + 5 → slots ≤ s0 + 30 → k28 S u1 u2 u3 u4 y5 → W p l e room_1 s m #[Value.ref b] below meth c H locs cells slots (lw_Z below #[Value.ref b] s) (F0 m 28 ls [])) (S : MS) (u1 : Nat) (u2 : Nat) (u3 : Nat) (u4 : Nat) (y5 : Int32) (p_u1 : pI S 8 u1) (p_u2 : pI S 9 u2) (p_u3 : pI S 16 u3) (p_u4 : pI S 17 u4) (P : PW G (fun q => s.heap.size ≤ q) s H locs S0 S) (hl : lv_has ls 9 [(0, .ref b), (1, .ref u1), (2, .ref u2), (3, .ref u3), (4, .ref u4), (5, .int y5)]) (hcc : cells + 1 ≤ c0 + 5) (hss : slots + 6 ≤ s0 + 30) (h0 : c0 + 5 ≤ 603072) (hs0 : s0 + 30 ≤ 7202922) (hw : wL_law_920 L xs k28 S u1 u2 u3 u4 y5) : W p l e room_1 s m #[Value.ref b] below meth c H locs cells slots (lw_Z below #[Value.ref b] s) (F0 m 920 ls []) := by
  have hx := CF_x C
  have hb := CF_b C
  unfold wL_law_920 at hw
  refine lv_aload_n hx hb dL_law_920 rfl (lv_at hl 1 rfl) ?_
  refine lv_aload_n hx hb dL_law_921 rfl (lv_at hl 0 rfl) ?_
  refine lv_iload hx hb dL_law_922 (lv_at hl 5 rfl) ?_
  refine lv_iconst (v := 1) hx hb dL_law_924 (by decide) ?_
  refine lv_iadd hx hb dL_law_925 ?_
  obtain ⟨h1, hw⟩ := hw
  refine va_sld hx hb hX hbl (Nat.not_le.mpr hbl) P.2.2.1 h1 dL_law_926 ?_
  refine lv_aload_n hx hb dL_law_927 rfl (lv_at hl 0 rfl) ?_
  refine lv_iload hx hb dL_law_928 (lv_at hl 5 rfl) ?_
  refine lv_iconst (v := 2) hx hb dL_law_930 (by decide) ?_
  refine lv_iadd hx hb dL_law_931 ?_
  obtain ⟨h1, hw⟩ := hw
  refine va_sld hx hb hX hbl (Nat.not_le.mpr hbl) P.2.2.1 h1 dL_law_932 ?_
  refine lv_aload_n hx hb dL_law_933 rfl (lv_at hl 3 rfl) ?_
  refine cl_i C P (run_SX C P hl.1 (met_L_event (CF_n C) G H.size _ _ S u1 (xs ((y5 + 1) : Int32).toNatClampNeg) (xs ((y5 + 2) : Int32).toNatClampNeg) u3 p_u1 p_u3 hw) q_1159 q_1160 q_0 q_1161 cd_L_event.2 ⟨(Nat.le_of_ble_eq_true rfl), (Nat.le_of_ble_eq_true rfl)⟩ rfl rfl (As := [.ref u1, .int (xs ((y5 + 1) : Int32).toNatClampNeg), .int (xs ((y5 + 2) : Int32).toNatClampNeg), .ref u3]) (rest := []) rfl rfl (Nat.le_of_ble_eq_true rfl) dL_law_934 ⟨by show cells + 1 ≤ 603072; omega, by show slots + 6 ≤ 7202922; omega⟩) kx_no (fun r2 S1 H locs P hE hw => ?_)
  have p_u1 : pI S1 8 u1 := pI_x hE p_u1
  have p_u2 : pI S1 9 u2 := pI_x hE p_u2
  have p_u3 : pI S1 16 u3 := pI_x hE p_u3
  have p_u4 : pI S1 17 u4 := pI_x hE p_u4
  refine lv_istore (lv' := [(6, .int r2), (0, .ref b), (1, .ref u1), (2, .ref u2), (3, .ref u3), (4, .ref u4), (5, .int y5)]) hx hb dL_law_937 hl (by decide) rfl (fun ls hl => ?_)
  refine lv_aload_n hx hb dL_law_939 rfl (lv_at hl 3 rfl) ?_
  refine lv_aload_n hx hb dL_law_940 rfl (lv_at hl 1 rfl) ?_
  refine lv_iload hx hb dL_law_941 (lv_at hl 6 rfl) ?_
  refine lv_iconst (v := 1) hx hb dL_law_943 (by decide) ?_
  refine lv_iadd hx hb dL_law_944 ?_
  obtain ⟨h1, hw⟩ := hw
  refine va_sld hx hb hX hbl (Nat.not_le.mpr hbl) P.2.2.1 h1 dL_law_945 ?_
  refine lv_aload_n hx hb dL_law_946 rfl (lv_at hl 1 rfl) ?_
  refine lv_iload hx hb dL_law_947 (lv_at hl 6 rfl) ?_
  refine lv_iconst (v := 2) hx hb dL_law_949 (by decide) ?_
  refine lv_iadd hx hb dL_law_950 ?_
  obtain ⟨h1, hw⟩ := hw
  refine va_sld hx hb hX hbl (Nat.not_le.mpr hbl) P.2.2.1 h1 dL_law_951 ?_
  refine cl_i C P (run_V C P hl.1 (kd := 9) (met_X9_event (CF_n C) G H.size _ _ S1 u2 (xs ((y5 + 1) : Int32).toNatClampNeg) (xs ((y5 + 2) : Int32).toNatClampNeg) p_u2 hw) p_u2 (by decide) rfl q_1702 q_1703 q_1704 q_10 q_1705 cd_X9_event ⟨(Nat.le_of_ble_eq_true rfl), (Nat.le_of_ble_eq_true rfl)⟩ rfl rfl (As := [.int (xs ((y5 + 1) : Int32).toNatClampNeg), .int (xs ((y5 + 2) : Int32).toNatClampNeg)]) (rest := []) rfl rfl (Nat.le_of_ble_eq_true rfl) dL_law_952 ⟨by show cells + 1 + 0 ≤ 603072; omega, by show slots + 6 + 0 ≤ 7202922; omega⟩) kx_no (fun r4 S3 H locs P hE hw => ?_)
  have p_u1 : pI S3 8 u1 := pI_x hE p_u1
  have p_u2 : pI S3 9 u2 := pI_x hE p_u2
  have p_u3 : pI S3 16 u3 := pI_x hE p_u3
  have p_u4 : pI S3 17 u4 := pI_x hE p_u4
  refine lv_istore (lv' := [(7, .int r4), (6, .int r2), (0, .ref b), (1, .ref u1), (2, .ref u2), (3, .ref u3), (4, .ref u4), (5, .int y5)]) hx hb dL_law_955 hl (by decide) rfl (fun ls hl => ?_)
  refine lv_goto (tgt := 1227) hx hb dL_law_957 (by decide) ?_
  exact tL_law_1227 C hr hX hbl c0 s0 k28 kh28 S3 u1 u2 u3 u4 y5 p_u1 p_u2 p_u3 p_u4 P (lv_sub hl [2, 3, 4, 5, 6, 7] rfl) (by omega) (by omega) h0 hs0 hw
def wL_law_960 (L : Nat) (xs : Nat → Int32) (k28 : MS → Nat → Nat → Nat → Nat → Int32 → Prop) (S : MS) (u1 : Nat) (u2 : Nat) (u3 : Nat) (u4 : Nat) (y5 : Int32) : Prop := wp_X8_commandCount (fun r2 S1 => wp_X9_commandCount (fun r4 S3 => wL_law_1227 L xs k28 S3 u1 u2 u3 u4 y5) (fun _ _ => False) S1 u2) (fun _ _ => False) S u1
set_option maxHeartbeats 8000000 in
set_option maxRecDepth 100000 in
theorem tL_law_960 {p : Program} {l : Launch} {e : Env} {s : State} {m : MethodId} {below : List Frame} {meth : Method} {c : Code} {H : Heap} {locs : List Loc} {cells slots : Nat} {G : GP} {S0 : MS} {ls : Array Slot} {b L : Nat} {xs : Nat → Int32} (C : CF p l s m #[Value.ref b] meth c "SkirmishGridLaw" code 9 G (fun q => s.heap.size ≤ q)) (hr : meth.sig.returnType = ret) (hX : va_X b L xs s s.heap) (hbl : b < s.heap.size) (c0 s0 : Nat) (k28 : MS → Nat → Nat → Nat → Nat → Int32 → Prop) (kh28 : ∀ (S : MS) (u1 : Nat) (u2 : Nat) (u3 : Nat) (u4 : Nat) (y5 : Int32) (cells slots : Nat) (H : Heap) (locs : List Loc) (ls : Array Slot), pI S 8 u1 → pI S 9 u2 → pI S 16 u3 → pI S 17 u4 → PW G (fun q => s.heap.size ≤ q) s H locs S0 S → lv_has ls 9 [(0, .ref b), (1, .ref u1), (2, .ref u2), (3, .ref u3), (4, .ref u4), (5, .int y5)] → cells ≤ c0 + 5 → slots ≤ s0 + 30 → k28 S u1 u2 u3 u4 y5 → W p l e room_1 s m #[Value.ref b] below meth c H locs cells slots (lw_Z below #[Value.ref b] s) (F0 m 28 ls [])) (S : MS) (u1 : Nat) (u2 : Nat) (u3 : Nat) (u4 : Nat) (y5 : Int32) (p_u1 : pI S 8 u1) (p_u2 : pI S 9 u2) (p_u3 : pI S 16 u3) (p_u4 : pI S 17 u4) (P : PW G (fun q => s.heap.size ≤ q) s H locs S0 S) (hl : lv_has ls 9 [(0, .ref b), (1, .ref u1), (2, .ref u2), (3, .ref u3), (4, .ref u4), (5, .int y5)]) (hcc : cells + 0 ≤ c0 + 5) (hss : slots + 0 ≤ s0 + 30) (h0 : c0 + 5 ≤ 603072) (hs0 : s0 + 30 ≤ 7202922) (hw : wL_law_960 L xs k28 S u1 u2 u3 u4 y5) : W p l e room_1 s m #[Value.ref b] below meth c H locs cells slots (lw_Z below #[Value.ref b] s) (F0 m 960 ls []) := by
  have hx := CF_x C
  have hb := CF_b C
  unfold wL_law_960 at hw
  refine lv_aload_n hx hb dL_law_960 rfl (lv_at hl 1 rfl) ?_
  refine cl_i C P (run_V C P hl.1 (kd := 8) (met_X8_commandCount (CF_n C) G H.size _ _ S u1 p_u1 hw) p_u1 (by decide) rfl q_367 q_368 q_369 q_1 q_370 cd_X8_commandCount ⟨(Nat.le_of_ble_eq_true rfl), (Nat.le_of_ble_eq_true rfl)⟩ rfl rfl (As := []) (rest := []) rfl rfl (Nat.le_of_ble_eq_true rfl) dL_law_961 ⟨by show cells + 0 ≤ 603072; omega, by show slots + 0 ≤ 7202922; omega⟩) kx_no (fun r2 S1 H locs P hE hw => ?_)
  have p_u1 : pI S1 8 u1 := pI_x hE p_u1
  have p_u2 : pI S1 9 u2 := pI_x hE p_u2
  have p_u3 : pI S1 16 u3 := pI_x hE p_u3
  have p_u4 : pI S1 17 u4 := pI_x hE p_u4
  refine lv_pop hx hb dL_law_964 rfl ?_
  refine lv_aload_n hx hb dL_law_965 rfl (lv_at hl 2 rfl) ?_
  refine cl_i C P (run_V C P hl.1 (kd := 9) (met_X9_commandCount (CF_n C) G H.size _ _ S1 u2 p_u2 hw) p_u2 (by decide) rfl q_1706 q_1707 q_1708 q_10 q_1709 cd_X9_commandCount ⟨(Nat.le_of_ble_eq_true rfl), (Nat.le_of_ble_eq_true rfl)⟩ rfl rfl (As := []) (rest := []) rfl rfl (Nat.le_of_ble_eq_true rfl) dL_law_966 ⟨by show cells + 0 ≤ 603072; omega, by show slots + 0 ≤ 7202922; omega⟩) kx_no (fun r4 S3 H locs P hE hw => ?_)
  have p_u1 : pI S3 8 u1 := pI_x hE p_u1
  have p_u2 : pI S3 9 u2 := pI_x hE p_u2
  have p_u3 : pI S3 16 u3 := pI_x hE p_u3
  have p_u4 : pI S3 17 u4 := pI_x hE p_u4
  refine lv_pop hx hb dL_law_969 rfl ?_
  refine lv_goto (tgt := 1227) hx hb dL_law_970 (by decide) ?_
  exact tL_law_1227 C hr hX hbl c0 s0 k28 kh28 S3 u1 u2 u3 u4 y5 p_u1 p_u2 p_u3 p_u4 P (lv_sub hl [0, 1, 2, 3, 4, 5] rfl) (by omega) (by omega) h0 hs0 hw
def wL_law_973 (L : Nat) (xs : Nat → Int32) (k28 : MS → Nat → Nat → Nat → Nat → Int32 → Prop) (S : MS) (u1 : Nat) (u2 : Nat) (u3 : Nat) (u4 : Nat) (y5 : Int32) : Prop := wp_L_undo (fun r2 S1 => wp_X9_undo (fun r4 S3 => wL_law_1227 L xs k28 S3 u1 u2 u3 u4 y5) (fun _ _ => False) S1 u2) (fun _ _ => False) S u1 u3
set_option maxHeartbeats 8000000 in
set_option maxRecDepth 100000 in
theorem tL_law_973 {p : Program} {l : Launch} {e : Env} {s : State} {m : MethodId} {below : List Frame} {meth : Method} {c : Code} {H : Heap} {locs : List Loc} {cells slots : Nat} {G : GP} {S0 : MS} {ls : Array Slot} {b L : Nat} {xs : Nat → Int32} (C : CF p l s m #[Value.ref b] meth c "SkirmishGridLaw" code 9 G (fun q => s.heap.size ≤ q)) (hr : meth.sig.returnType = ret) (hX : va_X b L xs s s.heap) (hbl : b < s.heap.size) (c0 s0 : Nat) (k28 : MS → Nat → Nat → Nat → Nat → Int32 → Prop) (kh28 : ∀ (S : MS) (u1 : Nat) (u2 : Nat) (u3 : Nat) (u4 : Nat) (y5 : Int32) (cells slots : Nat) (H : Heap) (locs : List Loc) (ls : Array Slot), pI S 8 u1 → pI S 9 u2 → pI S 16 u3 → pI S 17 u4 → PW G (fun q => s.heap.size ≤ q) s H locs S0 S → lv_has ls 9 [(0, .ref b), (1, .ref u1), (2, .ref u2), (3, .ref u3), (4, .ref u4), (5, .int y5)] → cells ≤ c0 + 5 → slots ≤ s0 + 30 → k28 S u1 u2 u3 u4 y5 → W p l e room_1 s m #[Value.ref b] below meth c H locs cells slots (lw_Z below #[Value.ref b] s) (F0 m 28 ls [])) (S : MS) (u1 : Nat) (u2 : Nat) (u3 : Nat) (u4 : Nat) (y5 : Int32) (p_u1 : pI S 8 u1) (p_u2 : pI S 9 u2) (p_u3 : pI S 16 u3) (p_u4 : pI S 17 u4) (P : PW G (fun q => s.heap.size ≤ q) s H locs S0 S) (hl : lv_has ls 9 [(0, .ref b), (1, .ref u1), (2, .ref u2), (3, .ref u3), (4, .ref u4), (5, .int y5)]) (hcc : cells + 1 ≤ c0 + 5) (hss : slots + 6 ≤ s0 + 30) (h0 : c0 + 5 ≤ 603072) (hs0 : s0 + 30 ≤ 7202922) (hw : wL_law_973 L xs k28 S u1 u2 u3 u4 y5) : W p l e room_1 s m #[Value.ref b] below meth c H locs cells slots (lw_Z below #[Value.ref b] s) (F0 m 973 ls []) := by
  have hx := CF_x C
  have hb := CF_b C
  unfold wL_law_973 at hw
  refine lv_aload_n hx hb dL_law_973 rfl (lv_at hl 1 rfl) ?_
  refine lv_aload_n hx hb dL_law_974 rfl (lv_at hl 3 rfl) ?_
  refine cl_i C P (run_SX C P hl.1 (met_L_undo (CF_n C) G H.size _ _ S u1 u3 p_u1 p_u3 hw) q_1171 q_1172 q_0 q_1173 cd_L_undo.2 ⟨(Nat.le_of_ble_eq_true rfl), (Nat.le_of_ble_eq_true rfl)⟩ rfl rfl (As := [.ref u1, .ref u3]) (rest := []) rfl rfl (Nat.le_of_ble_eq_true rfl) dL_law_975 ⟨by show cells + 1 ≤ 603072; omega, by show slots + 6 ≤ 7202922; omega⟩) kx_no (fun r2 S1 H locs P hE hw => ?_)
  have p_u1 : pI S1 8 u1 := pI_x hE p_u1
  have p_u2 : pI S1 9 u2 := pI_x hE p_u2
  have p_u3 : pI S1 16 u3 := pI_x hE p_u3
  have p_u4 : pI S1 17 u4 := pI_x hE p_u4
  refine lv_istore (lv' := [(6, .int r2), (0, .ref b), (1, .ref u1), (2, .ref u2), (3, .ref u3), (4, .ref u4), (5, .int y5)]) hx hb dL_law_978 hl (by decide) rfl (fun ls hl => ?_)
  refine lv_aload_n hx hb dL_law_980 rfl (lv_at hl 3 rfl) ?_
  refine cl_i C P (run_V C P hl.1 (kd := 9) (met_X9_undo (CF_n C) G H.size _ _ S1 u2 p_u2 hw) p_u2 (by decide) rfl q_1710 q_1711 q_1712 q_10 q_1713 cd_X9_undo ⟨(Nat.le_of_ble_eq_true rfl), (Nat.le_of_ble_eq_true rfl)⟩ rfl rfl (As := []) (rest := []) rfl rfl (Nat.le_of_ble_eq_true rfl) dL_law_981 ⟨by show cells + 1 + 0 ≤ 603072; omega, by show slots + 6 + 0 ≤ 7202922; omega⟩) kx_no (fun r4 S3 H locs P hE hw => ?_)
  have p_u1 : pI S3 8 u1 := pI_x hE p_u1
  have p_u2 : pI S3 9 u2 := pI_x hE p_u2
  have p_u3 : pI S3 16 u3 := pI_x hE p_u3
  have p_u4 : pI S3 17 u4 := pI_x hE p_u4
  refine lv_istore (lv' := [(7, .int r4), (6, .int r2), (0, .ref b), (1, .ref u1), (2, .ref u2), (3, .ref u3), (4, .ref u4), (5, .int y5)]) hx hb dL_law_984 hl (by decide) rfl (fun ls hl => ?_)
  refine lv_goto (tgt := 1227) hx hb dL_law_986 (by decide) ?_
  exact tL_law_1227 C hr hX hbl c0 s0 k28 kh28 S3 u1 u2 u3 u4 y5 p_u1 p_u2 p_u3 p_u4 P (lv_sub hl [2, 3, 4, 5, 6, 7] rfl) (by omega) (by omega) h0 hs0 hw
def wL_law_989 (L : Nat) (xs : Nat → Int32) (k28 : MS → Nat → Nat → Nat → Nat → Int32 → Prop) (S : MS) (u1 : Nat) (u2 : Nat) (u3 : Nat) (u4 : Nat) (y5 : Int32) : Prop := wp_L_isReplayed (fun r2 S1 => wp_X9_isReplayed (fun r4 S3 => wL_law_1227 L xs k28 S3 u1 u2 u3 u4 y5) (fun _ _ => False) S1 u2) (fun _ _ => False) S u1 u3
set_option maxHeartbeats 8000000 in
set_option maxRecDepth 100000 in
theorem tL_law_989 {p : Program} {l : Launch} {e : Env} {s : State} {m : MethodId} {below : List Frame} {meth : Method} {c : Code} {H : Heap} {locs : List Loc} {cells slots : Nat} {G : GP} {S0 : MS} {ls : Array Slot} {b L : Nat} {xs : Nat → Int32} (C : CF p l s m #[Value.ref b] meth c "SkirmishGridLaw" code 9 G (fun q => s.heap.size ≤ q)) (hr : meth.sig.returnType = ret) (hX : va_X b L xs s s.heap) (hbl : b < s.heap.size) (c0 s0 : Nat) (k28 : MS → Nat → Nat → Nat → Nat → Int32 → Prop) (kh28 : ∀ (S : MS) (u1 : Nat) (u2 : Nat) (u3 : Nat) (u4 : Nat) (y5 : Int32) (cells slots : Nat) (H : Heap) (locs : List Loc) (ls : Array Slot), pI S 8 u1 → pI S 9 u2 → pI S 16 u3 → pI S 17 u4 → PW G (fun q => s.heap.size ≤ q) s H locs S0 S → lv_has ls 9 [(0, .ref b), (1, .ref u1), (2, .ref u2), (3, .ref u3), (4, .ref u4), (5, .int y5)] → cells ≤ c0 + 5 → slots ≤ s0 + 30 → k28 S u1 u2 u3 u4 y5 → W p l e room_1 s m #[Value.ref b] below meth c H locs cells slots (lw_Z below #[Value.ref b] s) (F0 m 28 ls [])) (S : MS) (u1 : Nat) (u2 : Nat) (u3 : Nat) (u4 : Nat) (y5 : Int32) (p_u1 : pI S 8 u1) (p_u2 : pI S 9 u2) (p_u3 : pI S 16 u3) (p_u4 : pI S 17 u4) (P : PW G (fun q => s.heap.size ≤ q) s H locs S0 S) (hl : lv_has ls 9 [(0, .ref b), (1, .ref u1), (2, .ref u2), (3, .ref u3), (4, .ref u4), (5, .int y5)]) (hcc : cells + 1 ≤ c0 + 5) (hss : slots + 6 ≤ s0 + 30) (h0 : c0 + 5 ≤ 603072) (hs0 : s0 + 30 ≤ 7202922) (hw : wL_law_989 L xs k28 S u1 u2 u3 u4 y5) : W p l e room_1 s m #[Value.ref b] below meth c H locs cells slots (lw_Z below #[Value.ref b] s) (F0 m 989 ls []) := by
  have hx := CF_x C
  have hb := CF_b C
  unfold wL_law_989 at hw
  refine lv_aload_n hx hb dL_law_989 rfl (lv_at hl 1 rfl) ?_
  refine lv_aload_n hx hb dL_law_990 rfl (lv_at hl 3 rfl) ?_
  refine cl_i C P (run_SX C P hl.1 (met_L_isReplayed (CF_n C) G H.size _ _ S u1 u3 p_u1 p_u3 hw) q_1187 q_1188 q_0 q_1189 cd_L_isReplayed.2 ⟨(Nat.le_of_ble_eq_true rfl), (Nat.le_of_ble_eq_true rfl)⟩ rfl rfl (As := [.ref u1, .ref u3]) (rest := []) rfl rfl (Nat.le_of_ble_eq_true rfl) dL_law_991 ⟨by show cells + 1 ≤ 603072; omega, by show slots + 6 ≤ 7202922; omega⟩) kx_no (fun r2 S1 H locs P hE hw => ?_)
  have p_u1 : pI S1 8 u1 := pI_x hE p_u1
  have p_u2 : pI S1 9 u2 := pI_x hE p_u2
  have p_u3 : pI S1 16 u3 := pI_x hE p_u3
  have p_u4 : pI S1 17 u4 := pI_x hE p_u4
  refine lv_istore (lv' := [(6, .int r2), (0, .ref b), (1, .ref u1), (2, .ref u2), (3, .ref u3), (4, .ref u4), (5, .int y5)]) hx hb dL_law_994 hl (by decide) rfl (fun ls hl => ?_)
  refine lv_aload_n hx hb dL_law_996 rfl (lv_at hl 3 rfl) ?_
  refine cl_i C P (run_V C P hl.1 (kd := 9) (met_X9_isReplayed (CF_n C) G H.size _ _ S1 u2 p_u2 hw) p_u2 (by decide) rfl q_1714 q_1715 q_1716 q_10 q_1717 cd_X9_isReplayed ⟨(Nat.le_of_ble_eq_true rfl), (Nat.le_of_ble_eq_true rfl)⟩ rfl rfl (As := []) (rest := []) rfl rfl (Nat.le_of_ble_eq_true rfl) dL_law_997 ⟨by show cells + 1 + 0 ≤ 603072; omega, by show slots + 6 + 0 ≤ 7202922; omega⟩) kx_no (fun r4 S3 H locs P hE hw => ?_)
  have p_u1 : pI S3 8 u1 := pI_x hE p_u1
  have p_u2 : pI S3 9 u2 := pI_x hE p_u2
  have p_u3 : pI S3 16 u3 := pI_x hE p_u3
  have p_u4 : pI S3 17 u4 := pI_x hE p_u4
  refine lv_istore (lv' := [(7, .int r4), (6, .int r2), (0, .ref b), (1, .ref u1), (2, .ref u2), (3, .ref u3), (4, .ref u4), (5, .int y5)]) hx hb dL_law_1000 hl (by decide) rfl (fun ls hl => ?_)
  refine lv_goto (tgt := 1227) hx hb dL_law_1002 (by decide) ?_
  exact tL_law_1227 C hr hX hbl c0 s0 k28 kh28 S3 u1 u2 u3 u4 y5 p_u1 p_u2 p_u3 p_u4 P (lv_sub hl [2, 3, 4, 5, 6, 7] rfl) (by omega) (by omega) h0 hs0 hw
def wL_law_1005 (L : Nat) (xs : Nat → Int32) (k28 : MS → Nat → Nat → Nat → Nat → Int32 → Prop) (S : MS) (u1 : Nat) (u2 : Nat) (u3 : Nat) (u4 : Nat) (y5 : Int32) : Prop := (vp_in (y5 + 1) L ∧ wp_L_meanHealth (fun r2 S1 => (vp_in (y5 + 1) L ∧ wp_X9_meanHealth (fun r4 S3 => wL_law_1227 L xs k28 S3 u1 u2 u3 u4 y5) (fun _ _ => False) S1 u2 (xs ((y5 + 1) : Int32).toNatClampNeg))) (fun _ _ => False) S u1 (xs ((y5 + 1) : Int32).toNatClampNeg) u4)
set_option maxHeartbeats 8000000 in
set_option maxRecDepth 100000 in
theorem tL_law_1005 {p : Program} {l : Launch} {e : Env} {s : State} {m : MethodId} {below : List Frame} {meth : Method} {c : Code} {H : Heap} {locs : List Loc} {cells slots : Nat} {G : GP} {S0 : MS} {ls : Array Slot} {b L : Nat} {xs : Nat → Int32} (C : CF p l s m #[Value.ref b] meth c "SkirmishGridLaw" code 9 G (fun q => s.heap.size ≤ q)) (hr : meth.sig.returnType = ret) (hX : va_X b L xs s s.heap) (hbl : b < s.heap.size) (c0 s0 : Nat) (k28 : MS → Nat → Nat → Nat → Nat → Int32 → Prop) (kh28 : ∀ (S : MS) (u1 : Nat) (u2 : Nat) (u3 : Nat) (u4 : Nat) (y5 : Int32) (cells slots : Nat) (H : Heap) (locs : List Loc) (ls : Array Slot), pI S 8 u1 → pI S 9 u2 → pI S 16 u3 → pI S 17 u4 → PW G (fun q => s.heap.size ≤ q) s H locs S0 S → lv_has ls 9 [(0, .ref b), (1, .ref u1), (2, .ref u2), (3, .ref u3), (4, .ref u4), (5, .int y5)] → cells ≤ c0 + 5 → slots ≤ s0 + 30 → k28 S u1 u2 u3 u4 y5 → W p l e room_1 s m #[Value.ref b] below meth c H locs cells slots (lw_Z below #[Value.ref b] s) (F0 m 28 ls [])) (S : MS) (u1 : Nat) (u2 : Nat) (u3 : Nat) (u4 : Nat) (y5 : Int32) (p_u1 : pI S 8 u1) (p_u2 : pI S 9 u2) (p_u3 : pI S 16 u3) (p_u4 : pI S 17 u4) (P : PW G (fun q => s.heap.size ≤ q) s H locs S0 S) (hl : lv_has ls 9 [(0, .ref b), (1, .ref u1), (2, .ref u2), (3, .ref u3), (4, .ref u4), (5, .int y5)]) (hcc : cells + 2 ≤ c0 + 5) (hss : slots + 12 ≤ s0 + 30) (h0 : c0 + 5 ≤ 603072) (hs0 : s0 + 30 ≤ 7202922) (hw : wL_law_1005 L xs k28 S u1 u2 u3 u4 y5) : W p l e room_1 s m #[Value.ref b] below meth c H locs cells slots (lw_Z below #[Value.ref b] s) (F0 m 1005 ls []) := by
  have hx := CF_x C
  have hb := CF_b C
  unfold wL_law_1005 at hw
  refine lv_aload_n hx hb dL_law_1005 rfl (lv_at hl 1 rfl) ?_
  refine lv_aload_n hx hb dL_law_1006 rfl (lv_at hl 0 rfl) ?_
  refine lv_iload hx hb dL_law_1007 (lv_at hl 5 rfl) ?_
  refine lv_iconst (v := 1) hx hb dL_law_1009 (by decide) ?_
  refine lv_iadd hx hb dL_law_1010 ?_
  obtain ⟨h1, hw⟩ := hw
  refine va_sld hx hb hX hbl (Nat.not_le.mpr hbl) P.2.2.1 h1 dL_law_1011 ?_
  refine lv_aload hx hb dL_law_1012 (lv_at hl 4 rfl) ?_
  refine cl_i C P (run_SX C P hl.1 (met_L_meanHealth (CF_n C) G H.size _ _ S u1 (xs ((y5 + 1) : Int32).toNatClampNeg) u4 p_u1 p_u4 hw) q_1224 q_1225 q_0 q_1226 cd_L_meanHealth.2 ⟨(Nat.le_of_ble_eq_true rfl), (Nat.le_of_ble_eq_true rfl)⟩ rfl rfl (As := [.ref u1, .int (xs ((y5 + 1) : Int32).toNatClampNeg), .ref u4]) (rest := []) rfl rfl (Nat.le_of_ble_eq_true rfl) dL_law_1014 ⟨by show cells + 2 ≤ 603072; omega, by show slots + 12 ≤ 7202922; omega⟩) kx_no (fun r2 S1 H locs P hE hw => ?_)
  have p_u1 : pI S1 8 u1 := pI_x hE p_u1
  have p_u2 : pI S1 9 u2 := pI_x hE p_u2
  have p_u3 : pI S1 16 u3 := pI_x hE p_u3
  have p_u4 : pI S1 17 u4 := pI_x hE p_u4
  refine lv_istore (lv' := [(6, .int r2), (0, .ref b), (1, .ref u1), (2, .ref u2), (3, .ref u3), (4, .ref u4), (5, .int y5)]) hx hb dL_law_1017 hl (by decide) rfl (fun ls hl => ?_)
  refine lv_aload_n hx hb dL_law_1019 rfl (lv_at hl 3 rfl) ?_
  refine lv_aload_n hx hb dL_law_1020 rfl (lv_at hl 1 rfl) ?_
  refine lv_iload hx hb dL_law_1021 (lv_at hl 6 rfl) ?_
  refine lv_iconst (v := 1) hx hb dL_law_1023 (by decide) ?_
  refine lv_iadd hx hb dL_law_1024 ?_
  obtain ⟨h1, hw⟩ := hw
  refine va_sld hx hb hX hbl (Nat.not_le.mpr hbl) P.2.2.1 h1 dL_law_1025 ?_
  refine cl_f C P (run_V C P hl.1 (kd := 9) (met_X9_meanHealth (CF_n C) G H.size _ _ S1 u2 (xs ((y5 + 1) : Int32).toNatClampNeg) p_u2 hw) p_u2 (by decide) rfl q_1718 q_1719 q_1720 q_10 q_1721 cd_X9_meanHealth ⟨(Nat.le_of_ble_eq_true rfl), (Nat.le_of_ble_eq_true rfl)⟩ rfl rfl (As := [.int (xs ((y5 + 1) : Int32).toNatClampNeg)]) (rest := []) rfl rfl (Nat.le_of_ble_eq_true rfl) dL_law_1026 ⟨by show cells + 2 + 0 ≤ 603072; omega, by show slots + 12 + 0 ≤ 7202922; omega⟩) kx_no (fun r4 S3 H locs P hE hw => ?_)
  have p_u1 : pI S3 8 u1 := pI_x hE p_u1
  have p_u2 : pI S3 9 u2 := pI_x hE p_u2
  have p_u3 : pI S3 16 u3 := pI_x hE p_u3
  have p_u4 : pI S3 17 u4 := pI_x hE p_u4
  refine lv_fstore (lv' := [(7, .float r4), (6, .int r2), (0, .ref b), (1, .ref u1), (2, .ref u2), (3, .ref u3), (4, .ref u4), (5, .int y5)]) hx hb dL_law_1029 hl (by decide) rfl (fun ls hl => ?_)
  refine lv_goto (tgt := 1227) hx hb dL_law_1031 (by decide) ?_
  exact tL_law_1227 C hr hX hbl c0 s0 k28 kh28 S3 u1 u2 u3 u4 y5 p_u1 p_u2 p_u3 p_u4 P (lv_sub hl [2, 3, 4, 5, 6, 7] rfl) (by omega) (by omega) h0 hs0 hw
def wL_law_1082 (L : Nat) (xs : Nat → Int32) (k28 : MS → Nat → Nat → Nat → Nat → Int32 → Prop) (S : MS) (u1 : Nat) (u2 : Nat) (u3 : Nat) (u4 : Nat) (y5 : Int32) (z0 : Int32) (z1 : Int32) (w2 : Nat) : Prop := wp_X9_storeHealths (fun r2 S1 => wL_law_1227 L xs k28 S1 u1 u2 u3 u4 y5) (fun _ _ => False) S w2 z1 z0
set_option maxHeartbeats 8000000 in
set_option maxRecDepth 100000 in
theorem tL_law_1082 {p : Program} {l : Launch} {e : Env} {s : State} {m : MethodId} {below : List Frame} {meth : Method} {c : Code} {H : Heap} {locs : List Loc} {cells slots : Nat} {G : GP} {S0 : MS} {ls : Array Slot} {b L : Nat} {xs : Nat → Int32} (C : CF p l s m #[Value.ref b] meth c "SkirmishGridLaw" code 9 G (fun q => s.heap.size ≤ q)) (hr : meth.sig.returnType = ret) (hX : va_X b L xs s s.heap) (hbl : b < s.heap.size) (c0 s0 : Nat) (k28 : MS → Nat → Nat → Nat → Nat → Int32 → Prop) (kh28 : ∀ (S : MS) (u1 : Nat) (u2 : Nat) (u3 : Nat) (u4 : Nat) (y5 : Int32) (cells slots : Nat) (H : Heap) (locs : List Loc) (ls : Array Slot), pI S 8 u1 → pI S 9 u2 → pI S 16 u3 → pI S 17 u4 → PW G (fun q => s.heap.size ≤ q) s H locs S0 S → lv_has ls 9 [(0, .ref b), (1, .ref u1), (2, .ref u2), (3, .ref u3), (4, .ref u4), (5, .int y5)] → cells ≤ c0 + 5 → slots ≤ s0 + 30 → k28 S u1 u2 u3 u4 y5 → W p l e room_1 s m #[Value.ref b] below meth c H locs cells slots (lw_Z below #[Value.ref b] s) (F0 m 28 ls [])) (S : MS) (u1 : Nat) (u2 : Nat) (u3 : Nat) (u4 : Nat) (y5 : Int32) (z0 : Int32) (z1 : Int32) (w2 : Nat) (p_u1 : pI S 8 u1) (p_u2 : pI S 9 u2) (p_u3 : pI S 16 u3) (p_u4 : pI S 17 u4) (p_w2 : pI S 9 w2) (P : PW G (fun q => s.heap.size ≤ q) s H locs S0 S) (hl : lv_has ls 9 [(0, .ref b), (1, .ref u1), (2, .ref u2), (3, .ref u3), (4, .ref u4), (5, .int y5)]) (hcc : cells + 0 ≤ c0 + 5) (hss : slots + 0 ≤ s0 + 30) (h0 : c0 + 5 ≤ 603072) (hs0 : s0 + 30 ≤ 7202922) (hw : wL_law_1082 L xs k28 S u1 u2 u3 u4 y5 z0 z1 w2) : W p l e room_1 s m #[Value.ref b] below meth c H locs cells slots (lw_Z below #[Value.ref b] s) (F0 m 1082 ls [.int z0, .int z1, .ref w2]) := by
  have hx := CF_x C
  have hb := CF_b C
  unfold wL_law_1082 at hw
  refine cl_i C P (run_V C P hl.1 (kd := 9) (met_X9_storeHealths (CF_n C) G H.size _ _ S w2 z1 z0 p_w2 hw) p_w2 (by decide) rfl q_1722 q_1723 q_1724 q_10 q_1725 cd_X9_storeHealths ⟨(Nat.le_of_ble_eq_true rfl), (Nat.le_of_ble_eq_true rfl)⟩ rfl rfl (As := [.int z1, .int z0]) (rest := []) rfl rfl (Nat.le_of_ble_eq_true rfl) dL_law_1082 ⟨by show cells + 0 ≤ 603072; omega, by show slots + 0 ≤ 7202922; omega⟩) kx_no (fun r2 S1 H locs P hE hw => ?_)
  have p_u1 : pI S1 8 u1 := pI_x hE p_u1
  have p_u2 : pI S1 9 u2 := pI_x hE p_u2
  have p_u3 : pI S1 16 u3 := pI_x hE p_u3
  have p_u4 : pI S1 17 u4 := pI_x hE p_u4
  have p_w2 : pI S1 9 w2 := pI_x hE p_w2
  refine lv_istore (lv' := [(7, .int r2), (0, .ref b), (1, .ref u1), (2, .ref u2), (3, .ref u3), (4, .ref u4), (5, .int y5)]) hx hb dL_law_1085 hl (by decide) rfl (fun ls hl => ?_)
  refine lv_goto (tgt := 1227) hx hb dL_law_1087 (by decide) ?_
  exact tL_law_1227 C hr hX hbl c0 s0 k28 kh28 S1 u1 u2 u3 u4 y5 p_u1 p_u2 p_u3 p_u4 P (lv_sub hl [1, 2, 3, 4, 5, 6] rfl) (by omega) (by omega) h0 hs0 hw
def wL_law_1055 (L : Nat) (xs : Nat → Int32) (k28 : MS → Nat → Nat → Nat → Nat → Int32 → Prop) (S : MS) (u1 : Nat) (u2 : Nat) (u3 : Nat) (u4 : Nat) (y5 : Int32) (z0 : Int32) (z1 : Int32) (w2 : Nat) : Prop := wp_L_storeHealths (fun r2 S1 => (vp_in (y5 + 1) L ∧ (vp_in (y5 + 2) L ∧ (((xs ((y5 + 2) : Int32).toNatClampNeg) = 0 → wL_law_1082 L xs k28 S1 u1 u2 u3 u4 y5 0 (xs ((y5 + 1) : Int32).toNatClampNeg) u2) ∧ (¬ (xs ((y5 + 2) : Int32).toNatClampNeg) = 0 → wL_law_1082 L xs k28 S1 u1 u2 u3 u4 y5 1 (xs ((y5 + 1) : Int32).toNatClampNeg) u2))))) (fun _ _ => False) S w2 z1 z0 u3
set_option maxHeartbeats 8000000 in
set_option maxRecDepth 100000 in
theorem tL_law_1055 {p : Program} {l : Launch} {e : Env} {s : State} {m : MethodId} {below : List Frame} {meth : Method} {c : Code} {H : Heap} {locs : List Loc} {cells slots : Nat} {G : GP} {S0 : MS} {ls : Array Slot} {b L : Nat} {xs : Nat → Int32} (C : CF p l s m #[Value.ref b] meth c "SkirmishGridLaw" code 9 G (fun q => s.heap.size ≤ q)) (hr : meth.sig.returnType = ret) (hX : va_X b L xs s s.heap) (hbl : b < s.heap.size) (c0 s0 : Nat) (k28 : MS → Nat → Nat → Nat → Nat → Int32 → Prop) (kh28 : ∀ (S : MS) (u1 : Nat) (u2 : Nat) (u3 : Nat) (u4 : Nat) (y5 : Int32) (cells slots : Nat) (H : Heap) (locs : List Loc) (ls : Array Slot), pI S 8 u1 → pI S 9 u2 → pI S 16 u3 → pI S 17 u4 → PW G (fun q => s.heap.size ≤ q) s H locs S0 S → lv_has ls 9 [(0, .ref b), (1, .ref u1), (2, .ref u2), (3, .ref u3), (4, .ref u4), (5, .int y5)] → cells ≤ c0 + 5 → slots ≤ s0 + 30 → k28 S u1 u2 u3 u4 y5 → W p l e room_1 s m #[Value.ref b] below meth c H locs cells slots (lw_Z below #[Value.ref b] s) (F0 m 28 ls [])) (S : MS) (u1 : Nat) (u2 : Nat) (u3 : Nat) (u4 : Nat) (y5 : Int32) (z0 : Int32) (z1 : Int32) (w2 : Nat) (p_u1 : pI S 8 u1) (p_u2 : pI S 9 u2) (p_u3 : pI S 16 u3) (p_u4 : pI S 17 u4) (p_w2 : pI S 8 w2) (P : PW G (fun q => s.heap.size ≤ q) s H locs S0 S) (hl : lv_has ls 9 [(0, .ref b), (1, .ref u1), (2, .ref u2), (3, .ref u3), (4, .ref u4), (5, .int y5)]) (hcc : cells + 1 ≤ c0 + 5) (hss : slots + 6 ≤ s0 + 30) (h0 : c0 + 5 ≤ 603072) (hs0 : s0 + 30 ≤ 7202922) (hw : wL_law_1055 L xs k28 S u1 u2 u3 u4 y5 z0 z1 w2) : W p l e room_1 s m #[Value.ref b] below meth c H locs cells slots (lw_Z below #[Value.ref b] s) (F0 m 1055 ls [.int z0, .int z1, .ref w2]) := by
  have hx := CF_x C
  have hb := CF_b C
  unfold wL_law_1055 at hw
  refine lv_aload_n hx hb dL_law_1055 rfl (lv_at hl 3 rfl) ?_
  refine cl_i C P (run_SX C P hl.1 (met_L_storeHealths (CF_n C) G H.size _ _ S w2 z1 z0 u3 p_w2 p_u3 hw) q_1248 q_1249 q_0 q_1250 cd_L_storeHealths.2 ⟨(Nat.le_of_ble_eq_true rfl), (Nat.le_of_ble_eq_true rfl)⟩ rfl rfl (As := [.ref w2, .int z1, .int z0, .ref u3]) (rest := []) rfl rfl (Nat.le_of_ble_eq_true rfl) dL_law_1056 ⟨by show cells + 1 ≤ 603072; omega, by show slots + 6 ≤ 7202922; omega⟩) kx_no (fun r2 S1 H locs P hE hw => ?_)
  have p_u1 : pI S1 8 u1 := pI_x hE p_u1
  have p_u2 : pI S1 9 u2 := pI_x hE p_u2
  have p_u3 : pI S1 16 u3 := pI_x hE p_u3
  have p_u4 : pI S1 17 u4 := pI_x hE p_u4
  have p_w2 : pI S1 8 w2 := pI_x hE p_w2
  refine lv_istore (lv' := [(6, .int r2), (0, .ref b), (1, .ref u1), (2, .ref u2), (3, .ref u3), (4, .ref u4), (5, .int y5)]) hx hb dL_law_1059 hl (by decide) rfl (fun ls hl => ?_)
  refine lv_aload_n hx hb dL_law_1061 rfl (lv_at hl 3 rfl) ?_
  refine lv_aload_n hx hb dL_law_1062 rfl (lv_at hl 1 rfl) ?_
  refine lv_iload hx hb dL_law_1063 (lv_at hl 6 rfl) ?_
  refine lv_iconst (v := 1) hx hb dL_law_1065 (by decide) ?_
  refine lv_iadd hx hb dL_law_1066 ?_
  obtain ⟨h1, hw⟩ := hw
  refine va_sld hx hb hX hbl (Nat.not_le.mpr hbl) P.2.2.1 h1 dL_law_1067 ?_
  refine lv_aload_n hx hb dL_law_1068 rfl (lv_at hl 1 rfl) ?_
  refine lv_iload hx hb dL_law_1069 (lv_at hl 6 rfl) ?_
  refine lv_iconst (v := 2) hx hb dL_law_1071 (by decide) ?_
  refine lv_iadd hx hb dL_law_1072 ?_
  obtain ⟨h1, hw⟩ := hw
  refine va_sld hx hb hX hbl (Nat.not_le.mpr hbl) P.2.2.1 h1 dL_law_1073 ?_
  refine lv_if_eq (tgt := 1081) hx hb dL_law_1074 (by decide) (fun hc => ?_) (fun hc => ?_)
  · have hw := hw.1 hc
    refine lv_iconst (v := 0) hx hb dL_law_1081 (by decide) ?_
    exact tL_law_1082 C hr hX hbl c0 s0 k28 kh28 S1 u1 u2 u3 u4 y5 0 (xs ((y5 + 1) : Int32).toNatClampNeg) u2 p_u1 p_u2 p_u3 p_u4 p_u2 P (lv_sub hl [1, 2, 3, 4, 5, 6] rfl) (by omega) (by omega) h0 hs0 hw
  · have hw := hw.2 hc
    refine lv_iconst (v := 1) hx hb dL_law_1077 (by decide) ?_
    refine lv_goto (tgt := 1082) hx hb dL_law_1078 (by decide) ?_
    exact tL_law_1082 C hr hX hbl c0 s0 k28 kh28 S1 u1 u2 u3 u4 y5 1 (xs ((y5 + 1) : Int32).toNatClampNeg) u2 p_u1 p_u2 p_u3 p_u4 p_u2 P (lv_sub hl [1, 2, 3, 4, 5, 6] rfl) (by omega) (by omega) h0 hs0 hw
def wL_law_1034 (L : Nat) (xs : Nat → Int32) (k28 : MS → Nat → Nat → Nat → Nat → Int32 → Prop) (S : MS) (u1 : Nat) (u2 : Nat) (u3 : Nat) (u4 : Nat) (y5 : Int32) : Prop := (vp_in (y5 + 1) L ∧ (vp_in (y5 + 2) L ∧ (((xs ((y5 + 2) : Int32).toNatClampNeg) = 0 → wL_law_1055 L xs k28 S u1 u2 u3 u4 y5 0 (xs ((y5 + 1) : Int32).toNatClampNeg) u1) ∧ (¬ (xs ((y5 + 2) : Int32).toNatClampNeg) = 0 → wL_law_1055 L xs k28 S u1 u2 u3 u4 y5 1 (xs ((y5 + 1) : Int32).toNatClampNeg) u1))))
set_option maxHeartbeats 8000000 in
set_option maxRecDepth 100000 in
theorem tL_law_1034 {p : Program} {l : Launch} {e : Env} {s : State} {m : MethodId} {below : List Frame} {meth : Method} {c : Code} {H : Heap} {locs : List Loc} {cells slots : Nat} {G : GP} {S0 : MS} {ls : Array Slot} {b L : Nat} {xs : Nat → Int32} (C : CF p l s m #[Value.ref b] meth c "SkirmishGridLaw" code 9 G (fun q => s.heap.size ≤ q)) (hr : meth.sig.returnType = ret) (hX : va_X b L xs s s.heap) (hbl : b < s.heap.size) (c0 s0 : Nat) (k28 : MS → Nat → Nat → Nat → Nat → Int32 → Prop) (kh28 : ∀ (S : MS) (u1 : Nat) (u2 : Nat) (u3 : Nat) (u4 : Nat) (y5 : Int32) (cells slots : Nat) (H : Heap) (locs : List Loc) (ls : Array Slot), pI S 8 u1 → pI S 9 u2 → pI S 16 u3 → pI S 17 u4 → PW G (fun q => s.heap.size ≤ q) s H locs S0 S → lv_has ls 9 [(0, .ref b), (1, .ref u1), (2, .ref u2), (3, .ref u3), (4, .ref u4), (5, .int y5)] → cells ≤ c0 + 5 → slots ≤ s0 + 30 → k28 S u1 u2 u3 u4 y5 → W p l e room_1 s m #[Value.ref b] below meth c H locs cells slots (lw_Z below #[Value.ref b] s) (F0 m 28 ls [])) (S : MS) (u1 : Nat) (u2 : Nat) (u3 : Nat) (u4 : Nat) (y5 : Int32) (p_u1 : pI S 8 u1) (p_u2 : pI S 9 u2) (p_u3 : pI S 16 u3) (p_u4 : pI S 17 u4) (P : PW G (fun q => s.heap.size ≤ q) s H locs S0 S) (hl : lv_has ls 9 [(0, .ref b), (1, .ref u1), (2, .ref u2), (3, .ref u3), (4, .ref u4), (5, .int y5)]) (hcc : cells + 1 ≤ c0 + 5) (hss : slots + 6 ≤ s0 + 30) (h0 : c0 + 5 ≤ 603072) (hs0 : s0 + 30 ≤ 7202922) (hw : wL_law_1034 L xs k28 S u1 u2 u3 u4 y5) : W p l e room_1 s m #[Value.ref b] below meth c H locs cells slots (lw_Z below #[Value.ref b] s) (F0 m 1034 ls []) := by
  have hx := CF_x C
  have hb := CF_b C
  unfold wL_law_1034 at hw
  refine lv_aload_n hx hb dL_law_1034 rfl (lv_at hl 1 rfl) ?_
  refine lv_aload_n hx hb dL_law_1035 rfl (lv_at hl 0 rfl) ?_
  refine lv_iload hx hb dL_law_1036 (lv_at hl 5 rfl) ?_
  refine lv_iconst (v := 1) hx hb dL_law_1038 (by decide) ?_
  refine lv_iadd hx hb dL_law_1039 ?_
  obtain ⟨h1, hw⟩ := hw
  refine va_sld hx hb hX hbl (Nat.not_le.mpr hbl) P.2.2.1 h1 dL_law_1040 ?_
  refine lv_aload_n hx hb dL_law_1041 rfl (lv_at hl 0 rfl) ?_
  refine lv_iload hx hb dL_law_1042 (lv_at hl 5 rfl) ?_
  refine lv_iconst (v := 2) hx hb dL_law_1044 (by decide) ?_
  refine lv_iadd hx hb dL_law_1045 ?_
  obtain ⟨h1, hw⟩ := hw
  refine va_sld hx hb hX hbl (Nat.not_le.mpr hbl) P.2.2.1 h1 dL_law_1046 ?_
  refine lv_if_eq (tgt := 1054) hx hb dL_law_1047 (by decide) (fun hc => ?_) (fun hc => ?_)
  · have hw := hw.1 hc
    refine lv_iconst (v := 0) hx hb dL_law_1054 (by decide) ?_
    exact tL_law_1055 C hr hX hbl c0 s0 k28 kh28 S u1 u2 u3 u4 y5 0 (xs ((y5 + 1) : Int32).toNatClampNeg) u1 p_u1 p_u2 p_u3 p_u4 p_u1 P (lv_sub hl [0, 1, 2, 3, 4, 5] rfl) (by omega) (by omega) h0 hs0 hw
  · have hw := hw.2 hc
    refine lv_iconst (v := 1) hx hb dL_law_1050 (by decide) ?_
    refine lv_goto (tgt := 1055) hx hb dL_law_1051 (by decide) ?_
    exact tL_law_1055 C hr hX hbl c0 s0 k28 kh28 S u1 u2 u3 u4 y5 1 (xs ((y5 + 1) : Int32).toNatClampNeg) u1 p_u1 p_u2 p_u3 p_u4 p_u1 P (lv_sub hl [0, 1, 2, 3, 4, 5] rfl) (by omega) (by omega) h0 hs0 hw
def wL_law_1090 (L : Nat) (xs : Nat → Int32) (k28 : MS → Nat → Nat → Nat → Nat → Int32 → Prop) (S : MS) (u1 : Nat) (u2 : Nat) (u3 : Nat) (u4 : Nat) (y5 : Int32) : Prop := (vp_in (y5 + 1) L ∧ (vp_in (y5 + 2) L ∧ wp_L_copyHealths (fun r2 S1 => (vp_in (y5 + 1) L ∧ (vp_in (y5 + 2) L ∧ wp_X9_copyHealths (fun r4 S3 => wL_law_1227 L xs k28 S3 u1 u2 u3 u4 y5) (fun _ _ => False) S1 u2 (xs ((y5 + 1) : Int32).toNatClampNeg) (xs ((y5 + 2) : Int32).toNatClampNeg)))) (fun _ _ => False) S u1 (xs ((y5 + 1) : Int32).toNatClampNeg) (xs ((y5 + 2) : Int32).toNatClampNeg) u3))
set_option maxHeartbeats 8000000 in
set_option maxRecDepth 100000 in
theorem tL_law_1090 {p : Program} {l : Launch} {e : Env} {s : State} {m : MethodId} {below : List Frame} {meth : Method} {c : Code} {H : Heap} {locs : List Loc} {cells slots : Nat} {G : GP} {S0 : MS} {ls : Array Slot} {b L : Nat} {xs : Nat → Int32} (C : CF p l s m #[Value.ref b] meth c "SkirmishGridLaw" code 9 G (fun q => s.heap.size ≤ q)) (hr : meth.sig.returnType = ret) (hX : va_X b L xs s s.heap) (hbl : b < s.heap.size) (c0 s0 : Nat) (k28 : MS → Nat → Nat → Nat → Nat → Int32 → Prop) (kh28 : ∀ (S : MS) (u1 : Nat) (u2 : Nat) (u3 : Nat) (u4 : Nat) (y5 : Int32) (cells slots : Nat) (H : Heap) (locs : List Loc) (ls : Array Slot), pI S 8 u1 → pI S 9 u2 → pI S 16 u3 → pI S 17 u4 → PW G (fun q => s.heap.size ≤ q) s H locs S0 S → lv_has ls 9 [(0, .ref b), (1, .ref u1), (2, .ref u2), (3, .ref u3), (4, .ref u4), (5, .int y5)] → cells ≤ c0 + 5 → slots ≤ s0 + 30 → k28 S u1 u2 u3 u4 y5 → W p l e room_1 s m #[Value.ref b] below meth c H locs cells slots (lw_Z below #[Value.ref b] s) (F0 m 28 ls [])) (S : MS) (u1 : Nat) (u2 : Nat) (u3 : Nat) (u4 : Nat) (y5 : Int32) (p_u1 : pI S 8 u1) (p_u2 : pI S 9 u2) (p_u3 : pI S 16 u3) (p_u4 : pI S 17 u4) (P : PW G (fun q => s.heap.size ≤ q) s H locs S0 S) (hl : lv_has ls 9 [(0, .ref b), (1, .ref u1), (2, .ref u2), (3, .ref u3), (4, .ref u4), (5, .int y5)]) (hcc : cells + 3 ≤ c0 + 5) (hss : slots + 18 ≤ s0 + 30) (h0 : c0 + 5 ≤ 603072) (hs0 : s0 + 30 ≤ 7202922) (hw : wL_law_1090 L xs k28 S u1 u2 u3 u4 y5) : W p l e room_1 s m #[Value.ref b] below meth c H locs cells slots (lw_Z below #[Value.ref b] s) (F0 m 1090 ls []) := by
  have hx := CF_x C
  have hb := CF_b C
  unfold wL_law_1090 at hw
  refine lv_aload_n hx hb dL_law_1090 rfl (lv_at hl 1 rfl) ?_
  refine lv_aload_n hx hb dL_law_1091 rfl (lv_at hl 0 rfl) ?_
  refine lv_iload hx hb dL_law_1092 (lv_at hl 5 rfl) ?_
  refine lv_iconst (v := 1) hx hb dL_law_1094 (by decide) ?_
  refine lv_iadd hx hb dL_law_1095 ?_
  obtain ⟨h1, hw⟩ := hw
  refine va_sld hx hb hX hbl (Nat.not_le.mpr hbl) P.2.2.1 h1 dL_law_1096 ?_
  refine lv_aload_n hx hb dL_law_1097 rfl (lv_at hl 0 rfl) ?_
  refine lv_iload hx hb dL_law_1098 (lv_at hl 5 rfl) ?_
  refine lv_iconst (v := 2) hx hb dL_law_1100 (by decide) ?_
  refine lv_iadd hx hb dL_law_1101 ?_
  obtain ⟨h1, hw⟩ := hw
  refine va_sld hx hb hX hbl (Nat.not_le.mpr hbl) P.2.2.1 h1 dL_law_1102 ?_
  refine lv_aload_n hx hb dL_law_1103 rfl (lv_at hl 3 rfl) ?_
  refine cl_i C P (run_SX C P hl.1 (met_L_copyHealths (CF_n C) G H.size _ _ S u1 (xs ((y5 + 1) : Int32).toNatClampNeg) (xs ((y5 + 2) : Int32).toNatClampNeg) u3 p_u1 p_u3 hw) q_1265 q_1266 q_0 q_1267 cd_L_copyHealths.2 ⟨(Nat.le_of_ble_eq_true rfl), (Nat.le_of_ble_eq_true rfl)⟩ rfl rfl (As := [.ref u1, .int (xs ((y5 + 1) : Int32).toNatClampNeg), .int (xs ((y5 + 2) : Int32).toNatClampNeg), .ref u3]) (rest := []) rfl rfl (Nat.le_of_ble_eq_true rfl) dL_law_1104 ⟨by show cells + 3 ≤ 603072; omega, by show slots + 18 ≤ 7202922; omega⟩) kx_no (fun r2 S1 H locs P hE hw => ?_)
  have p_u1 : pI S1 8 u1 := pI_x hE p_u1
  have p_u2 : pI S1 9 u2 := pI_x hE p_u2
  have p_u3 : pI S1 16 u3 := pI_x hE p_u3
  have p_u4 : pI S1 17 u4 := pI_x hE p_u4
  refine lv_istore (lv' := [(6, .int r2), (0, .ref b), (1, .ref u1), (2, .ref u2), (3, .ref u3), (4, .ref u4), (5, .int y5)]) hx hb dL_law_1107 hl (by decide) rfl (fun ls hl => ?_)
  refine lv_aload_n hx hb dL_law_1109 rfl (lv_at hl 3 rfl) ?_
  refine lv_aload_n hx hb dL_law_1110 rfl (lv_at hl 1 rfl) ?_
  refine lv_iload hx hb dL_law_1111 (lv_at hl 6 rfl) ?_
  refine lv_iconst (v := 1) hx hb dL_law_1113 (by decide) ?_
  refine lv_iadd hx hb dL_law_1114 ?_
  obtain ⟨h1, hw⟩ := hw
  refine va_sld hx hb hX hbl (Nat.not_le.mpr hbl) P.2.2.1 h1 dL_law_1115 ?_
  refine lv_aload_n hx hb dL_law_1116 rfl (lv_at hl 1 rfl) ?_
  refine lv_iload hx hb dL_law_1117 (lv_at hl 6 rfl) ?_
  refine lv_iconst (v := 2) hx hb dL_law_1119 (by decide) ?_
  refine lv_iadd hx hb dL_law_1120 ?_
  obtain ⟨h1, hw⟩ := hw
  refine va_sld hx hb hX hbl (Nat.not_le.mpr hbl) P.2.2.1 h1 dL_law_1121 ?_
  refine cl_i C P (run_V C P hl.1 (kd := 9) (met_X9_copyHealths (CF_n C) G H.size _ _ S1 u2 (xs ((y5 + 1) : Int32).toNatClampNeg) (xs ((y5 + 2) : Int32).toNatClampNeg) p_u2 hw) p_u2 (by decide) rfl q_1726 q_1727 q_1728 q_10 q_1729 cd_X9_copyHealths ⟨(Nat.le_of_ble_eq_true rfl), (Nat.le_of_ble_eq_true rfl)⟩ rfl rfl (As := [.int (xs ((y5 + 1) : Int32).toNatClampNeg), .int (xs ((y5 + 2) : Int32).toNatClampNeg)]) (rest := []) rfl rfl (Nat.le_of_ble_eq_true rfl) dL_law_1122 ⟨by show cells + 3 + 0 ≤ 603072; omega, by show slots + 18 + 0 ≤ 7202922; omega⟩) kx_no (fun r4 S3 H locs P hE hw => ?_)
  have p_u1 : pI S3 8 u1 := pI_x hE p_u1
  have p_u2 : pI S3 9 u2 := pI_x hE p_u2
  have p_u3 : pI S3 16 u3 := pI_x hE p_u3
  have p_u4 : pI S3 17 u4 := pI_x hE p_u4
  refine lv_istore (lv' := [(7, .int r4), (6, .int r2), (0, .ref b), (1, .ref u1), (2, .ref u2), (3, .ref u3), (4, .ref u4), (5, .int y5)]) hx hb dL_law_1125 hl (by decide) rfl (fun ls hl => ?_)
  refine lv_goto (tgt := 1227) hx hb dL_law_1127 (by decide) ?_
  exact tL_law_1227 C hr hX hbl c0 s0 k28 kh28 S3 u1 u2 u3 u4 y5 p_u1 p_u2 p_u3 p_u4 P (lv_sub hl [2, 3, 4, 5, 6, 7] rfl) (by omega) (by omega) h0 hs0 hw
def wL_law_1130 (L : Nat) (xs : Nat → Int32) (k28 : MS → Nat → Nat → Nat → Nat → Int32 → Prop) (S : MS) (u1 : Nat) (u2 : Nat) (u3 : Nat) (u4 : Nat) (y5 : Int32) : Prop := (vp_in (y5 + 1) L ∧ (vp_in (y5 + 2) L ∧ wp_L_storedBits (fun r2 S1 => (vp_in (y5 + 1) L ∧ (vp_in (y5 + 2) L ∧ wp_X9_storedBits (fun r4 S3 => wL_law_1227 L xs k28 S3 u1 u2 u3 u4 y5) (fun _ _ => False) S1 u2 (xs ((y5 + 1) : Int32).toNatClampNeg) (xs ((y5 + 2) : Int32).toNatClampNeg)))) (fun _ _ => False) S u1 (xs ((y5 + 1) : Int32).toNatClampNeg) (xs ((y5 + 2) : Int32).toNatClampNeg) u3))
set_option maxHeartbeats 8000000 in
set_option maxRecDepth 100000 in
theorem tL_law_1130 {p : Program} {l : Launch} {e : Env} {s : State} {m : MethodId} {below : List Frame} {meth : Method} {c : Code} {H : Heap} {locs : List Loc} {cells slots : Nat} {G : GP} {S0 : MS} {ls : Array Slot} {b L : Nat} {xs : Nat → Int32} (C : CF p l s m #[Value.ref b] meth c "SkirmishGridLaw" code 9 G (fun q => s.heap.size ≤ q)) (hr : meth.sig.returnType = ret) (hX : va_X b L xs s s.heap) (hbl : b < s.heap.size) (c0 s0 : Nat) (k28 : MS → Nat → Nat → Nat → Nat → Int32 → Prop) (kh28 : ∀ (S : MS) (u1 : Nat) (u2 : Nat) (u3 : Nat) (u4 : Nat) (y5 : Int32) (cells slots : Nat) (H : Heap) (locs : List Loc) (ls : Array Slot), pI S 8 u1 → pI S 9 u2 → pI S 16 u3 → pI S 17 u4 → PW G (fun q => s.heap.size ≤ q) s H locs S0 S → lv_has ls 9 [(0, .ref b), (1, .ref u1), (2, .ref u2), (3, .ref u3), (4, .ref u4), (5, .int y5)] → cells ≤ c0 + 5 → slots ≤ s0 + 30 → k28 S u1 u2 u3 u4 y5 → W p l e room_1 s m #[Value.ref b] below meth c H locs cells slots (lw_Z below #[Value.ref b] s) (F0 m 28 ls [])) (S : MS) (u1 : Nat) (u2 : Nat) (u3 : Nat) (u4 : Nat) (y5 : Int32) (p_u1 : pI S 8 u1) (p_u2 : pI S 9 u2) (p_u3 : pI S 16 u3) (p_u4 : pI S 17 u4) (P : PW G (fun q => s.heap.size ≤ q) s H locs S0 S) (hl : lv_has ls 9 [(0, .ref b), (1, .ref u1), (2, .ref u2), (3, .ref u3), (4, .ref u4), (5, .int y5)]) (hcc : cells + 2 ≤ c0 + 5) (hss : slots + 12 ≤ s0 + 30) (h0 : c0 + 5 ≤ 603072) (hs0 : s0 + 30 ≤ 7202922) (hw : wL_law_1130 L xs k28 S u1 u2 u3 u4 y5) : W p l e room_1 s m #[Value.ref b] below meth c H locs cells slots (lw_Z below #[Value.ref b] s) (F0 m 1130 ls []) := by
  have hx := CF_x C
  have hb := CF_b C
  unfold wL_law_1130 at hw
  refine lv_aload_n hx hb dL_law_1130 rfl (lv_at hl 1 rfl) ?_
  refine lv_aload_n hx hb dL_law_1131 rfl (lv_at hl 0 rfl) ?_
  refine lv_iload hx hb dL_law_1132 (lv_at hl 5 rfl) ?_
  refine lv_iconst (v := 1) hx hb dL_law_1134 (by decide) ?_
  refine lv_iadd hx hb dL_law_1135 ?_
  obtain ⟨h1, hw⟩ := hw
  refine va_sld hx hb hX hbl (Nat.not_le.mpr hbl) P.2.2.1 h1 dL_law_1136 ?_
  refine lv_aload_n hx hb dL_law_1137 rfl (lv_at hl 0 rfl) ?_
  refine lv_iload hx hb dL_law_1138 (lv_at hl 5 rfl) ?_
  refine lv_iconst (v := 2) hx hb dL_law_1140 (by decide) ?_
  refine lv_iadd hx hb dL_law_1141 ?_
  obtain ⟨h1, hw⟩ := hw
  refine va_sld hx hb hX hbl (Nat.not_le.mpr hbl) P.2.2.1 h1 dL_law_1142 ?_
  refine lv_aload_n hx hb dL_law_1143 rfl (lv_at hl 3 rfl) ?_
  refine cl_i C P (run_SX C P hl.1 (met_L_storedBits (CF_n C) G H.size _ _ S u1 (xs ((y5 + 1) : Int32).toNatClampNeg) (xs ((y5 + 2) : Int32).toNatClampNeg) u3 p_u1 p_u3 hw) q_1279 q_1280 q_0 q_1281 cd_L_storedBits.2 ⟨(Nat.le_of_ble_eq_true rfl), (Nat.le_of_ble_eq_true rfl)⟩ rfl rfl (As := [.ref u1, .int (xs ((y5 + 1) : Int32).toNatClampNeg), .int (xs ((y5 + 2) : Int32).toNatClampNeg), .ref u3]) (rest := []) rfl rfl (Nat.le_of_ble_eq_true rfl) dL_law_1144 ⟨by show cells + 2 ≤ 603072; omega, by show slots + 12 ≤ 7202922; omega⟩) kx_no (fun r2 S1 H locs P hE hw => ?_)
  have p_u1 : pI S1 8 u1 := pI_x hE p_u1
  have p_u2 : pI S1 9 u2 := pI_x hE p_u2
  have p_u3 : pI S1 16 u3 := pI_x hE p_u3
  have p_u4 : pI S1 17 u4 := pI_x hE p_u4
  refine lv_istore (lv' := [(6, .int r2), (0, .ref b), (1, .ref u1), (2, .ref u2), (3, .ref u3), (4, .ref u4), (5, .int y5)]) hx hb dL_law_1147 hl (by decide) rfl (fun ls hl => ?_)
  refine lv_aload_n hx hb dL_law_1149 rfl (lv_at hl 3 rfl) ?_
  refine lv_aload_n hx hb dL_law_1150 rfl (lv_at hl 1 rfl) ?_
  refine lv_iload hx hb dL_law_1151 (lv_at hl 6 rfl) ?_
  refine lv_iconst (v := 1) hx hb dL_law_1153 (by decide) ?_
  refine lv_iadd hx hb dL_law_1154 ?_
  obtain ⟨h1, hw⟩ := hw
  refine va_sld hx hb hX hbl (Nat.not_le.mpr hbl) P.2.2.1 h1 dL_law_1155 ?_
  refine lv_aload_n hx hb dL_law_1156 rfl (lv_at hl 1 rfl) ?_
  refine lv_iload hx hb dL_law_1157 (lv_at hl 6 rfl) ?_
  refine lv_iconst (v := 2) hx hb dL_law_1159 (by decide) ?_
  refine lv_iadd hx hb dL_law_1160 ?_
  obtain ⟨h1, hw⟩ := hw
  refine va_sld hx hb hX hbl (Nat.not_le.mpr hbl) P.2.2.1 h1 dL_law_1161 ?_
  refine cl_i C P (run_V C P hl.1 (kd := 9) (met_X9_storedBits (CF_n C) G H.size _ _ S1 u2 (xs ((y5 + 1) : Int32).toNatClampNeg) (xs ((y5 + 2) : Int32).toNatClampNeg) p_u2 hw) p_u2 (by decide) rfl q_1730 q_1731 q_1732 q_10 q_1733 cd_X9_storedBits ⟨(Nat.le_of_ble_eq_true rfl), (Nat.le_of_ble_eq_true rfl)⟩ rfl rfl (As := [.int (xs ((y5 + 1) : Int32).toNatClampNeg), .int (xs ((y5 + 2) : Int32).toNatClampNeg)]) (rest := []) rfl rfl (Nat.le_of_ble_eq_true rfl) dL_law_1162 ⟨by show cells + 2 + 0 ≤ 603072; omega, by show slots + 12 + 0 ≤ 7202922; omega⟩) kx_no (fun r4 S3 H locs P hE hw => ?_)
  have p_u1 : pI S3 8 u1 := pI_x hE p_u1
  have p_u2 : pI S3 9 u2 := pI_x hE p_u2
  have p_u3 : pI S3 16 u3 := pI_x hE p_u3
  have p_u4 : pI S3 17 u4 := pI_x hE p_u4
  refine lv_istore (lv' := [(7, .int r4), (6, .int r2), (0, .ref b), (1, .ref u1), (2, .ref u2), (3, .ref u3), (4, .ref u4), (5, .int y5)]) hx hb dL_law_1165 hl (by decide) rfl (fun ls hl => ?_)
  refine lv_goto (tgt := 1227) hx hb dL_law_1167 (by decide) ?_
  exact tL_law_1227 C hr hX hbl c0 s0 k28 kh28 S3 u1 u2 u3 u4 y5 p_u1 p_u2 p_u3 p_u4 P (lv_sub hl [2, 3, 4, 5, 6, 7] rfl) (by omega) (by omega) h0 hs0 hw
def wL_law_1170 (L : Nat) (xs : Nat → Int32) (k28 : MS → Nat → Nat → Nat → Nat → Int32 → Prop) (S : MS) (u1 : Nat) (u2 : Nat) (u3 : Nat) (u4 : Nat) (y5 : Int32) : Prop := wp_X8_snapshot (fun r2 S1 => wp_X9_snapshot (fun r4 S3 => wL_law_1227 L xs k28 S3 u1 u2 u3 u4 y5) (fun _ _ => False) S1 u2) (fun _ _ => False) S u1
set_option maxHeartbeats 8000000 in
set_option maxRecDepth 100000 in
theorem tL_law_1170 {p : Program} {l : Launch} {e : Env} {s : State} {m : MethodId} {below : List Frame} {meth : Method} {c : Code} {H : Heap} {locs : List Loc} {cells slots : Nat} {G : GP} {S0 : MS} {ls : Array Slot} {b L : Nat} {xs : Nat → Int32} (C : CF p l s m #[Value.ref b] meth c "SkirmishGridLaw" code 9 G (fun q => s.heap.size ≤ q)) (hr : meth.sig.returnType = ret) (hX : va_X b L xs s s.heap) (hbl : b < s.heap.size) (c0 s0 : Nat) (k28 : MS → Nat → Nat → Nat → Nat → Int32 → Prop) (kh28 : ∀ (S : MS) (u1 : Nat) (u2 : Nat) (u3 : Nat) (u4 : Nat) (y5 : Int32) (cells slots : Nat) (H : Heap) (locs : List Loc) (ls : Array Slot), pI S 8 u1 → pI S 9 u2 → pI S 16 u3 → pI S 17 u4 → PW G (fun q => s.heap.size ≤ q) s H locs S0 S → lv_has ls 9 [(0, .ref b), (1, .ref u1), (2, .ref u2), (3, .ref u3), (4, .ref u4), (5, .int y5)] → cells ≤ c0 + 5 → slots ≤ s0 + 30 → k28 S u1 u2 u3 u4 y5 → W p l e room_1 s m #[Value.ref b] below meth c H locs cells slots (lw_Z below #[Value.ref b] s) (F0 m 28 ls [])) (S : MS) (u1 : Nat) (u2 : Nat) (u3 : Nat) (u4 : Nat) (y5 : Int32) (p_u1 : pI S 8 u1) (p_u2 : pI S 9 u2) (p_u3 : pI S 16 u3) (p_u4 : pI S 17 u4) (P : PW G (fun q => s.heap.size ≤ q) s H locs S0 S) (hl : lv_has ls 9 [(0, .ref b), (1, .ref u1), (2, .ref u2), (3, .ref u3), (4, .ref u4), (5, .int y5)]) (hcc : cells + 0 ≤ c0 + 5) (hss : slots + 0 ≤ s0 + 30) (h0 : c0 + 5 ≤ 603072) (hs0 : s0 + 30 ≤ 7202922) (hw : wL_law_1170 L xs k28 S u1 u2 u3 u4 y5) : W p l e room_1 s m #[Value.ref b] below meth c H locs cells slots (lw_Z below #[Value.ref b] s) (F0 m 1170 ls []) := by
  have hx := CF_x C
  have hb := CF_b C
  unfold wL_law_1170 at hw
  refine lv_aload_n hx hb dL_law_1170 rfl (lv_at hl 1 rfl) ?_
  refine cl_i C P (run_V C P hl.1 (kd := 8) (met_X8_snapshot (CF_n C) G H.size _ _ S u1 p_u1 hw) p_u1 (by decide) rfl q_371 q_372 q_373 q_1 q_374 cd_X8_snapshot ⟨(Nat.le_of_ble_eq_true rfl), (Nat.le_of_ble_eq_true rfl)⟩ rfl rfl (As := []) (rest := []) rfl rfl (Nat.le_of_ble_eq_true rfl) dL_law_1171 ⟨by show cells + 0 ≤ 603072; omega, by show slots + 0 ≤ 7202922; omega⟩) kx_no (fun r2 S1 H locs P hE hw => ?_)
  have p_u1 : pI S1 8 u1 := pI_x hE p_u1
  have p_u2 : pI S1 9 u2 := pI_x hE p_u2
  have p_u3 : pI S1 16 u3 := pI_x hE p_u3
  have p_u4 : pI S1 17 u4 := pI_x hE p_u4
  refine lv_pop hx hb dL_law_1174 rfl ?_
  refine lv_aload_n hx hb dL_law_1175 rfl (lv_at hl 2 rfl) ?_
  refine cl_i C P (run_V C P hl.1 (kd := 9) (met_X9_snapshot (CF_n C) G H.size _ _ S1 u2 p_u2 hw) p_u2 (by decide) rfl q_1744 q_1745 q_1746 q_10 q_1747 cd_X9_snapshot ⟨(Nat.le_of_ble_eq_true rfl), (Nat.le_of_ble_eq_true rfl)⟩ rfl rfl (As := []) (rest := []) rfl rfl (Nat.le_of_ble_eq_true rfl) dL_law_1176 ⟨by show cells + 0 ≤ 603072; omega, by show slots + 0 ≤ 7202922; omega⟩) kx_no (fun r4 S3 H locs P hE hw => ?_)
  have p_u1 : pI S3 8 u1 := pI_x hE p_u1
  have p_u2 : pI S3 9 u2 := pI_x hE p_u2
  have p_u3 : pI S3 16 u3 := pI_x hE p_u3
  have p_u4 : pI S3 17 u4 := pI_x hE p_u4
  refine lv_pop hx hb dL_law_1179 rfl ?_
  refine lv_goto (tgt := 1227) hx hb dL_law_1180 (by decide) ?_
  exact tL_law_1227 C hr hX hbl c0 s0 k28 kh28 S3 u1 u2 u3 u4 y5 p_u1 p_u2 p_u3 p_u4 P (lv_sub hl [0, 1, 2, 3, 4, 5] rfl) (by omega) (by omega) h0 hs0 hw
def wL_law_1183 (L : Nat) (xs : Nat → Int32) (k28 : MS → Nat → Nat → Nat → Nat → Int32 → Prop) (S : MS) (u1 : Nat) (u2 : Nat) (u3 : Nat) (u4 : Nat) (y5 : Int32) : Prop := wp_L_restore (fun r2 S1 => wp_X9_restore (fun r4 S3 => wp_X9_thrown (fun r6 S5 => ((r6 = r2 → ((¬ r2 = 0 → wL_law_1227 L xs k28 S5 u1 u2 u3 u4 y5) ∧ (r2 = 0 → (vp_in 0 (mN S5 u3) ∧ (((lg_cmp (mJ S5 u3 (0 : Int32).toNatClampNeg) ((r4 : Int32).toInt64)) = 0 → wL_law_1227 L xs k28 S5 u1 u2 u3 u4 y5) ∧ (¬ (lg_cmp (mJ S5 u3 (0 : Int32).toNatClampNeg) ((r4 : Int32).toInt64)) = 0 → False)))))) ∧ (¬ r6 = r2 → False))) (fun _ _ => False) S3 u2) (fun _ _ => False) S1 u2) (fun _ _ => False) S u1 u3
set_option maxHeartbeats 8000000 in
set_option maxRecDepth 100000 in
theorem tL_law_1183 {p : Program} {l : Launch} {e : Env} {s : State} {m : MethodId} {below : List Frame} {meth : Method} {c : Code} {H : Heap} {locs : List Loc} {cells slots : Nat} {G : GP} {S0 : MS} {ls : Array Slot} {b L : Nat} {xs : Nat → Int32} (C : CF p l s m #[Value.ref b] meth c "SkirmishGridLaw" code 9 G (fun q => s.heap.size ≤ q)) (hr : meth.sig.returnType = ret) (hX : va_X b L xs s s.heap) (hbl : b < s.heap.size) (c0 s0 : Nat) (k28 : MS → Nat → Nat → Nat → Nat → Int32 → Prop) (kh28 : ∀ (S : MS) (u1 : Nat) (u2 : Nat) (u3 : Nat) (u4 : Nat) (y5 : Int32) (cells slots : Nat) (H : Heap) (locs : List Loc) (ls : Array Slot), pI S 8 u1 → pI S 9 u2 → pI S 16 u3 → pI S 17 u4 → PW G (fun q => s.heap.size ≤ q) s H locs S0 S → lv_has ls 9 [(0, .ref b), (1, .ref u1), (2, .ref u2), (3, .ref u3), (4, .ref u4), (5, .int y5)] → cells ≤ c0 + 5 → slots ≤ s0 + 30 → k28 S u1 u2 u3 u4 y5 → W p l e room_1 s m #[Value.ref b] below meth c H locs cells slots (lw_Z below #[Value.ref b] s) (F0 m 28 ls [])) (S : MS) (u1 : Nat) (u2 : Nat) (u3 : Nat) (u4 : Nat) (y5 : Int32) (p_u1 : pI S 8 u1) (p_u2 : pI S 9 u2) (p_u3 : pI S 16 u3) (p_u4 : pI S 17 u4) (P : PW G (fun q => s.heap.size ≤ q) s H locs S0 S) (hl : lv_has ls 9 [(0, .ref b), (1, .ref u1), (2, .ref u2), (3, .ref u3), (4, .ref u4), (5, .int y5)]) (hcc : cells + 1 ≤ c0 + 5) (hss : slots + 6 ≤ s0 + 30) (h0 : c0 + 5 ≤ 603072) (hs0 : s0 + 30 ≤ 7202922) (hw : wL_law_1183 L xs k28 S u1 u2 u3 u4 y5) : W p l e room_1 s m #[Value.ref b] below meth c H locs cells slots (lw_Z below #[Value.ref b] s) (F0 m 1183 ls []) := by
  have hx := CF_x C
  have hb := CF_b C
  unfold wL_law_1183 at hw
  refine lv_aload_n hx hb dL_law_1183 rfl (lv_at hl 1 rfl) ?_
  refine lv_aload_n hx hb dL_law_1184 rfl (lv_at hl 3 rfl) ?_
  refine cl_i C P (run_SX C P hl.1 (met_L_restore (CF_n C) G H.size _ _ S u1 u3 p_u1 p_u3 hw) q_1291 q_1292 q_0 q_1293 cd_L_restore.2 ⟨(Nat.le_of_ble_eq_true rfl), (Nat.le_of_ble_eq_true rfl)⟩ rfl rfl (As := [.ref u1, .ref u3]) (rest := []) rfl rfl (Nat.le_of_ble_eq_true rfl) dL_law_1185 ⟨by show cells + 1 ≤ 603072; omega, by show slots + 6 ≤ 7202922; omega⟩) kx_no (fun r2 S1 H locs P hE hw => ?_)
  have p_u1 : pI S1 8 u1 := pI_x hE p_u1
  have p_u2 : pI S1 9 u2 := pI_x hE p_u2
  have p_u3 : pI S1 16 u3 := pI_x hE p_u3
  have p_u4 : pI S1 17 u4 := pI_x hE p_u4
  refine lv_istore (lv' := [(6, .int r2), (0, .ref b), (1, .ref u1), (2, .ref u2), (3, .ref u3), (4, .ref u4), (5, .int y5)]) hx hb dL_law_1188 hl (by decide) rfl (fun ls hl => ?_)
  refine lv_aload_n hx hb dL_law_1190 rfl (lv_at hl 3 rfl) ?_
  refine cl_i C P (run_V C P hl.1 (kd := 9) (met_X9_restore (CF_n C) G H.size _ _ S1 u2 p_u2 hw) p_u2 (by decide) rfl q_1748 q_1749 q_1750 q_10 q_1751 cd_X9_restore ⟨(Nat.le_of_ble_eq_true rfl), (Nat.le_of_ble_eq_true rfl)⟩ rfl rfl (As := []) (rest := []) rfl rfl (Nat.le_of_ble_eq_true rfl) dL_law_1191 ⟨by show cells + 1 + 0 ≤ 603072; omega, by show slots + 6 + 0 ≤ 7202922; omega⟩) kx_no (fun r4 S3 H locs P hE hw => ?_)
  have p_u1 : pI S3 8 u1 := pI_x hE p_u1
  have p_u2 : pI S3 9 u2 := pI_x hE p_u2
  have p_u3 : pI S3 16 u3 := pI_x hE p_u3
  have p_u4 : pI S3 17 u4 := pI_x hE p_u4
  refine lv_istore (lv' := [(7, .int r4), (6, .int r2), (0, .ref b), (1, .ref u1), (2, .ref u2), (3, .ref u3), (4, .ref u4), (5, .int y5)]) hx hb dL_law_1194 hl (by decide) rfl (fun ls hl => ?_)
  refine lv_aload_n hx hb dL_law_1196 rfl (lv_at hl 4 rfl) ?_
  refine cl_i C P (run_V C P hl.1 (kd := 9) (met_X9_thrown (CF_n C) G H.size _ _ S3 u2 p_u2 hw) p_u2 (by decide) rfl q_1375 q_1376 q_1377 q_10 q_1378 cd_X9_thrown ⟨(Nat.le_of_ble_eq_true rfl), (Nat.le_of_ble_eq_true rfl)⟩ rfl rfl (As := []) (rest := []) rfl rfl (Nat.le_of_ble_eq_true rfl) dL_law_1197 ⟨by show cells + 1 + 0 ≤ 603072; omega, by show slots + 6 + 0 ≤ 7202922; omega⟩) kx_no (fun r6 S5 H locs P hE hw => ?_)
  have p_u1 : pI S5 8 u1 := pI_x hE p_u1
  have p_u2 : pI S5 9 u2 := pI_x hE p_u2
  have p_u3 : pI S5 16 u3 := pI_x hE p_u3
  have p_u4 : pI S5 17 u4 := pI_x hE p_u4
  refine lv_iload hx hb dL_law_1200 (lv_at hl 1 rfl) ?_
  refine lv_icmp_eq (tgt := 1207) hx hb dL_law_1202 (by decide) (fun hc => ?_) (fun hc => ?_)
  · have hw := hw.1 hc
    refine lv_iload hx hb dL_law_1207 (lv_at hl 1 rfl) ?_
    refine lv_if_ne (tgt := 1224) hx hb dL_law_1209 (by decide) (fun hc => ?_) (fun hc => ?_)
    · have hw := hw.1 hc
      refine lv_goto (tgt := 1227) hx hb dL_law_1224 (by decide) ?_
      exact tL_law_1227 C hr hX hbl c0 s0 k28 kh28 S5 u1 u2 u3 u4 y5 p_u1 p_u2 p_u3 p_u4 P (lv_sub hl [2, 3, 4, 5, 6, 7] rfl) (by omega) (by omega) h0 hs0 hw
    · have hw := hw.2 hc
      refine lv_aload_n hx hb dL_law_1212 rfl (lv_at hl 5 rfl) ?_
      refine lv_iconst (v := 0) hx hb dL_law_1213 (by decide) ?_
      obtain ⟨h1, hw⟩ := hw
      refine ra_j C P p_u3 h1 dL_law_1214 ?_
      refine lv_iload hx hb dL_law_1215 (lv_at hl 0 rfl) ?_
      refine lv_i2l (v := (r4 : Int32).toInt64) hx hb dL_law_1217 rfl ?_
      refine W.lcmp hx hb dL_law_1218 ?_
      refine lv_if_eq (tgt := 1224) hx hb dL_law_1219 (by decide) (fun hc => ?_) (fun hc => ?_)
      · have hw := hw.1 hc
        refine lv_goto (tgt := 1227) hx hb dL_law_1224 (by decide) ?_
        exact tL_law_1227 C hr hX hbl c0 s0 k28 kh28 S5 u1 u2 u3 u4 y5 p_u1 p_u2 p_u3 p_u4 P (lv_sub hl [2, 3, 4, 5, 6, 7] rfl) (by omega) (by omega) h0 hs0 hw
      · have hw := hw.2 hc
        refine lv_iconst (v := 0) hx hb dL_law_1222 (by decide) ?_
        exact hw.elim
  · have hw := hw.2 hc
    refine lv_iconst (v := 0) hx hb dL_law_1205 (by decide) ?_
    exact hw.elim
def wL_law_28 (L : Nat) (xs : Nat → Int32) (k28 : MS → Nat → Nat → Nat → Nat → Int32 → Prop) (S : MS) (u1 : Nat) (u2 : Nat) (u3 : Nat) (u4 : Nat) (y5 : Int32) : Prop := ((((Int32.ofNat L) - 4) < y5 → True) ∧ (¬ ((Int32.ofNat L) - 4) < y5 → (vp_in y5 L ∧ ((((((xs (y5 : Int32).toNatClampNeg) &&& 63) : Int32).toInt < 0 ∨ 36 < (((xs (y5 : Int32).toNatClampNeg) &&& 63) : Int32).toInt) → wL_law_1227 L xs k28 S u1 u2 u3 u4 y5) ∧ ((((xs (y5 : Int32).toNatClampNeg) &&& 63) : Int32).toInt = 0 → wL_law_208 L xs k28 S u1 u2 u3 u4 y5) ∧ ((((xs (y5 : Int32).toNatClampNeg) &&& 63) : Int32).toInt = 1 → wL_law_238 L xs k28 S u1 u2 u3 u4 y5) ∧ ((((xs (y5 : Int32).toNatClampNeg) &&& 63) : Int32).toInt = 2 → wL_law_266 L xs k28 S u1 u2 u3 u4 y5) ∧ ((((xs (y5 : Int32).toNatClampNeg) &&& 63) : Int32).toInt = 3 → wL_law_282 L xs k28 S u1 u2 u3 u4 y5) ∧ ((((xs (y5 : Int32).toNatClampNeg) &&& 63) : Int32).toInt = 4 → wL_law_322 L xs k28 S u1 u2 u3 u4 y5) ∧ ((((xs (y5 : Int32).toNatClampNeg) &&& 63) : Int32).toInt = 5 → wL_law_362 L xs k28 S u1 u2 u3 u4 y5) ∧ ((((xs (y5 : Int32).toNatClampNeg) &&& 63) : Int32).toInt = 6 → wL_law_402 L xs k28 S u1 u2 u3 u4 y5) ∧ ((((xs (y5 : Int32).toNatClampNeg) &&& 63) : Int32).toInt = 7 → wL_law_454 L xs k28 S u1 u2 u3 u4 y5) ∧ ((((xs (y5 : Int32).toNatClampNeg) &&& 63) : Int32).toInt = 8 → wL_law_467 L xs k28 S u1 u2 u3 u4 y5) ∧ ((((xs (y5 : Int32).toNatClampNeg) &&& 63) : Int32).toInt = 9 → wL_law_507 L xs k28 S u1 u2 u3 u4 y5) ∧ ((((xs (y5 : Int32).toNatClampNeg) &&& 63) : Int32).toInt = 10 → wL_law_523 L xs k28 S u1 u2 u3 u4 y5) ∧ ((((xs (y5 : Int32).toNatClampNeg) &&& 63) : Int32).toInt = 11 → wL_law_536 L xs k28 S u1 u2 u3 u4 y5) ∧ ((((xs (y5 : Int32).toNatClampNeg) &&& 63) : Int32).toInt = 12 → wL_law_549 L xs k28 S u1 u2 u3 u4 y5) ∧ ((((xs (y5 : Int32).toNatClampNeg) &&& 63) : Int32).toInt = 13 → wL_law_565 L xs k28 S u1 u2 u3 u4 y5) ∧ ((((xs (y5 : Int32).toNatClampNeg) &&& 63) : Int32).toInt = 14 → wL_law_593 L xs k28 S u1 u2 u3 u4 y5) ∧ ((((xs (y5 : Int32).toNatClampNeg) &&& 63) : Int32).toInt = 15 → wL_law_621 L xs k28 S u1 u2 u3 u4 y5) ∧ ((((xs (y5 : Int32).toNatClampNeg) &&& 63) : Int32).toInt = 16 → wL_law_661 L xs k28 S u1 u2 u3 u4 y5) ∧ ((((xs (y5 : Int32).toNatClampNeg) &&& 63) : Int32).toInt = 17 → wL_law_702 L xs k28 S u1 u2 u3 u4 y5) ∧ ((((xs (y5 : Int32).toNatClampNeg) &&& 63) : Int32).toInt = 18 → wL_law_743 L xs k28 S u1 u2 u3 u4 y5) ∧ ((((xs (y5 : Int32).toNatClampNeg) &&& 63) : Int32).toInt = 19 → wL_law_759 L xs k28 S u1 u2 u3 u4 y5) ∧ ((((xs (y5 : Int32).toNatClampNeg) &&& 63) : Int32).toInt = 20 → wL_law_787 L xs k28 S u1 u2 u3 u4 y5) ∧ ((((xs (y5 : Int32).toNatClampNeg) &&& 63) : Int32).toInt = 21 → wL_law_815 L xs k28 S u1 u2 u3 u4 y5) ∧ ((((xs (y5 : Int32).toNatClampNeg) &&& 63) : Int32).toInt = 22 → wL_law_843 L xs k28 S u1 u2 u3 u4 y5) ∧ ((((xs (y5 : Int32).toNatClampNeg) &&& 63) : Int32).toInt = 23 → wL_law_859 L xs k28 S u1 u2 u3 u4 y5) ∧ ((((xs (y5 : Int32).toNatClampNeg) &&& 63) : Int32).toInt = 24 → wL_law_875 L xs k28 S u1 u2 u3 u4 y5) ∧ ((((xs (y5 : Int32).toNatClampNeg) &&& 63) : Int32).toInt = 25 → wL_law_891 L xs k28 S u1 u2 u3 u4 y5) ∧ ((((xs (y5 : Int32).toNatClampNeg) &&& 63) : Int32).toInt = 26 → wL_law_907 L xs k28 S u1 u2 u3 u4 y5) ∧ ((((xs (y5 : Int32).toNatClampNeg) &&& 63) : Int32).toInt = 27 → wL_law_920 L xs k28 S u1 u2 u3 u4 y5) ∧ ((((xs (y5 : Int32).toNatClampNeg) &&& 63) : Int32).toInt = 28 → wL_law_960 L xs k28 S u1 u2 u3 u4 y5) ∧ ((((xs (y5 : Int32).toNatClampNeg) &&& 63) : Int32).toInt = 29 → wL_law_973 L xs k28 S u1 u2 u3 u4 y5) ∧ ((((xs (y5 : Int32).toNatClampNeg) &&& 63) : Int32).toInt = 30 → wL_law_989 L xs k28 S u1 u2 u3 u4 y5) ∧ ((((xs (y5 : Int32).toNatClampNeg) &&& 63) : Int32).toInt = 31 → wL_law_1005 L xs k28 S u1 u2 u3 u4 y5) ∧ ((((xs (y5 : Int32).toNatClampNeg) &&& 63) : Int32).toInt = 32 → wL_law_1034 L xs k28 S u1 u2 u3 u4 y5) ∧ ((((xs (y5 : Int32).toNatClampNeg) &&& 63) : Int32).toInt = 33 → wL_law_1090 L xs k28 S u1 u2 u3 u4 y5) ∧ ((((xs (y5 : Int32).toNatClampNeg) &&& 63) : Int32).toInt = 34 → wL_law_1130 L xs k28 S u1 u2 u3 u4 y5) ∧ ((((xs (y5 : Int32).toNatClampNeg) &&& 63) : Int32).toInt = 35 → wL_law_1170 L xs k28 S u1 u2 u3 u4 y5) ∧ ((((xs (y5 : Int32).toNatClampNeg) &&& 63) : Int32).toInt = 36 → wL_law_1183 L xs k28 S u1 u2 u3 u4 y5)))))
set_option maxHeartbeats 8000000 in
set_option maxRecDepth 100000 in
theorem tL_law_28 {p : Program} {l : Launch} {e : Env} {s : State} {m : MethodId} {below : List Frame} {meth : Method} {c : Code} {H : Heap} {locs : List Loc} {cells slots : Nat} {G : GP} {S0 : MS} {ls : Array Slot} {b L : Nat} {xs : Nat → Int32} (C : CF p l s m #[Value.ref b] meth c "SkirmishGridLaw" code 9 G (fun q => s.heap.size ≤ q)) (hr : meth.sig.returnType = ret) (hX : va_X b L xs s s.heap) (hbl : b < s.heap.size) (c0 s0 : Nat) (k28 : MS → Nat → Nat → Nat → Nat → Int32 → Prop) (kh28 : ∀ (S : MS) (u1 : Nat) (u2 : Nat) (u3 : Nat) (u4 : Nat) (y5 : Int32) (cells slots : Nat) (H : Heap) (locs : List Loc) (ls : Array Slot), pI S 8 u1 → pI S 9 u2 → pI S 16 u3 → pI S 17 u4 → PW G (fun q => s.heap.size ≤ q) s H locs S0 S → lv_has ls 9 [(0, .ref b), (1, .ref u1), (2, .ref u2), (3, .ref u3), (4, .ref u4), (5, .int y5)] → cells ≤ c0 + 5 → slots ≤ s0 + 30 → k28 S u1 u2 u3 u4 y5 → W p l e room_1 s m #[Value.ref b] below meth c H locs cells slots (lw_Z below #[Value.ref b] s) (F0 m 28 ls [])) (S : MS) (u1 : Nat) (u2 : Nat) (u3 : Nat) (u4 : Nat) (y5 : Int32) (p_u1 : pI S 8 u1) (p_u2 : pI S 9 u2) (p_u3 : pI S 16 u3) (p_u4 : pI S 17 u4) (P : PW G (fun q => s.heap.size ≤ q) s H locs S0 S) (hl : lv_has ls 9 [(0, .ref b), (1, .ref u1), (2, .ref u2), (3, .ref u3), (4, .ref u4), (5, .int y5)]) (hcc : cells + 5 ≤ c0 + 5) (hss : slots + 30 ≤ s0 + 30) (h0 : c0 + 5 ≤ 603072) (hs0 : s0 + 30 ≤ 7202922) (hw : wL_law_28 L xs k28 S u1 u2 u3 u4 y5) : W p l e room_1 s m #[Value.ref b] below meth c H locs cells slots (lw_Z below #[Value.ref b] s) (F0 m 28 ls []) := by
  have hx := CF_x C
  have hb := CF_b C
  unfold wL_law_28 at hw
  refine lv_iload hx hb dL_law_28 (lv_at hl 5 rfl) ?_
  refine lv_aload_n hx hb dL_law_30 rfl (lv_at hl 0 rfl) ?_
  refine va_slen hx hb hX hbl (Nat.not_le.mpr hbl) P.2.2.1 dL_law_31 ?_
  refine lv_iconst (v := 4) hx hb dL_law_32 (by decide) ?_
  refine lv_isub hx hb dL_law_33 ?_
  refine lv_icmp_gt (tgt := 1233) hx hb dL_law_34 (by decide) (fun hc => ?_) (fun hc => ?_)
  · have hw := hw.1 hc
    refine lv_iconst (v := 1) hx hb dL_law_1233 (by decide) ?_
    refine va_forget (fun q hq => P.2.2.1.2.2 q hq) ?_
    refine W.widen (k := 603072) (n := 7202922) (by omega) (by omega) ?_
    exact lw_ret (d0 := s.drawn) (Drawn.sameBut.refl s.drawn lw_cs) hx hb hr (CF_k C) dL_law_1234
  · have hw := hw.2 hc
    refine lv_aload_n hx hb dL_law_37 rfl (lv_at hl 0 rfl) ?_
    refine lv_iload hx hb dL_law_38 (lv_at hl 5 rfl) ?_
    obtain ⟨h1, hw⟩ := hw
    refine va_sld hx hb hX hbl (Nat.not_le.mpr hbl) P.2.2.1 h1 dL_law_40 ?_
    refine lv_bipush (v := 63) hx hb dL_law_41 (by decide) ?_
    refine lv_iand hx hb dL_law_43 ?_
    rcases ts_split (lo := 0) (hi := 36) ((xs (y5 : Int32).toNatClampNeg) &&& 63) with hc | ⟨i, hi, hc⟩
    · have hw := hw.1 hc
      refine lv_tableOut (tgt := 1227) hx hb dL_law_44 hc (by decide) ?_
      exact tL_law_1227 C hr hX hbl c0 s0 k28 kh28 S u1 u2 u3 u4 y5 p_u1 p_u2 p_u3 p_u4 P (lv_sub hl [0, 1, 2, 3, 4, 5] rfl) (by omega) (by omega) h0 hs0 hw
    · rcases (show i = 0 ∨ i = 1 ∨ i = 2 ∨ i = 3 ∨ i = 4 ∨ i = 5 ∨ i = 6 ∨ i = 7 ∨ i = 8 ∨ i = 9 ∨ i = 10 ∨ i = 11 ∨ i = 12 ∨ i = 13 ∨ i = 14 ∨ i = 15 ∨ i = 16 ∨ i = 17 ∨ i = 18 ∨ i = 19 ∨ i = 20 ∨ i = 21 ∨ i = 22 ∨ i = 23 ∨ i = 24 ∨ i = 25 ∨ i = 26 ∨ i = 27 ∨ i = 28 ∨ i = 29 ∨ i = 30 ∨ i = 31 ∨ i = 32 ∨ i = 33 ∨ i = 34 ∨ i = 35 ∨ i = 36 by omega) with rfl | rfl | rfl | rfl | rfl | rfl | rfl | rfl | rfl | rfl | rfl | rfl | rfl | rfl | rfl | rfl | rfl | rfl | rfl | rfl | rfl | rfl | rfl | rfl | rfl | rfl | rfl | rfl | rfl | rfl | rfl | rfl | rfl | rfl | rfl | rfl | rfl
      · have hw := hw.2.1 hc
        refine lv_tableIn (tgt := 208) hx hb dL_law_44 (by omega) (by omega) (by rw [hc]; rfl) (by decide) ?_
        exact tL_law_208 C hr hX hbl c0 s0 k28 kh28 S u1 u2 u3 u4 y5 p_u1 p_u2 p_u3 p_u4 P (lv_sub hl [0, 1, 2, 3, 4, 5] rfl) (by omega) (by omega) h0 hs0 hw
      · have hw := hw.2.2.1 hc
        refine lv_tableIn (tgt := 238) hx hb dL_law_44 (by omega) (by omega) (by rw [hc]; rfl) (by decide) ?_
        exact tL_law_238 C hr hX hbl c0 s0 k28 kh28 S u1 u2 u3 u4 y5 p_u1 p_u2 p_u3 p_u4 P (lv_sub hl [0, 1, 2, 3, 4, 5] rfl) (by omega) (by omega) h0 hs0 hw
      · have hw := hw.2.2.2.1 hc
        refine lv_tableIn (tgt := 266) hx hb dL_law_44 (by omega) (by omega) (by rw [hc]; rfl) (by decide) ?_
        exact tL_law_266 C hr hX hbl c0 s0 k28 kh28 S u1 u2 u3 u4 y5 p_u1 p_u2 p_u3 p_u4 P (lv_sub hl [0, 1, 2, 3, 4, 5] rfl) (by omega) (by omega) h0 hs0 hw
      · have hw := hw.2.2.2.2.1 hc
        refine lv_tableIn (tgt := 282) hx hb dL_law_44 (by omega) (by omega) (by rw [hc]; rfl) (by decide) ?_
        exact tL_law_282 C hr hX hbl c0 s0 k28 kh28 S u1 u2 u3 u4 y5 p_u1 p_u2 p_u3 p_u4 P (lv_sub hl [0, 1, 2, 3, 4, 5] rfl) (by omega) (by omega) h0 hs0 hw
      · have hw := hw.2.2.2.2.2.1 hc
        refine lv_tableIn (tgt := 322) hx hb dL_law_44 (by omega) (by omega) (by rw [hc]; rfl) (by decide) ?_
        exact tL_law_322 C hr hX hbl c0 s0 k28 kh28 S u1 u2 u3 u4 y5 p_u1 p_u2 p_u3 p_u4 P (lv_sub hl [0, 1, 2, 3, 4, 5] rfl) (by omega) (by omega) h0 hs0 hw
      · have hw := hw.2.2.2.2.2.2.1 hc
        refine lv_tableIn (tgt := 362) hx hb dL_law_44 (by omega) (by omega) (by rw [hc]; rfl) (by decide) ?_
        exact tL_law_362 C hr hX hbl c0 s0 k28 kh28 S u1 u2 u3 u4 y5 p_u1 p_u2 p_u3 p_u4 P (lv_sub hl [0, 1, 2, 3, 4, 5] rfl) (by omega) (by omega) h0 hs0 hw
      · have hw := hw.2.2.2.2.2.2.2.1 hc
        refine lv_tableIn (tgt := 402) hx hb dL_law_44 (by omega) (by omega) (by rw [hc]; rfl) (by decide) ?_
        exact tL_law_402 C hr hX hbl c0 s0 k28 kh28 S u1 u2 u3 u4 y5 p_u1 p_u2 p_u3 p_u4 P (lv_sub hl [0, 1, 2, 3, 4, 5] rfl) (by omega) (by omega) h0 hs0 hw
      · have hw := hw.2.2.2.2.2.2.2.2.1 hc
        refine lv_tableIn (tgt := 454) hx hb dL_law_44 (by omega) (by omega) (by rw [hc]; rfl) (by decide) ?_
        exact tL_law_454 C hr hX hbl c0 s0 k28 kh28 S u1 u2 u3 u4 y5 p_u1 p_u2 p_u3 p_u4 P (lv_sub hl [0, 1, 2, 3, 4, 5] rfl) (by omega) (by omega) h0 hs0 hw
      · have hw := hw.2.2.2.2.2.2.2.2.2.1 hc
        refine lv_tableIn (tgt := 467) hx hb dL_law_44 (by omega) (by omega) (by rw [hc]; rfl) (by decide) ?_
        exact tL_law_467 C hr hX hbl c0 s0 k28 kh28 S u1 u2 u3 u4 y5 p_u1 p_u2 p_u3 p_u4 P (lv_sub hl [0, 1, 2, 3, 4, 5] rfl) (by omega) (by omega) h0 hs0 hw
      · have hw := hw.2.2.2.2.2.2.2.2.2.2.1 hc
        refine lv_tableIn (tgt := 507) hx hb dL_law_44 (by omega) (by omega) (by rw [hc]; rfl) (by decide) ?_
        exact tL_law_507 C hr hX hbl c0 s0 k28 kh28 S u1 u2 u3 u4 y5 p_u1 p_u2 p_u3 p_u4 P (lv_sub hl [0, 1, 2, 3, 4, 5] rfl) (by omega) (by omega) h0 hs0 hw
      · have hw := hw.2.2.2.2.2.2.2.2.2.2.2.1 hc
        refine lv_tableIn (tgt := 523) hx hb dL_law_44 (by omega) (by omega) (by rw [hc]; rfl) (by decide) ?_
        exact tL_law_523 C hr hX hbl c0 s0 k28 kh28 S u1 u2 u3 u4 y5 p_u1 p_u2 p_u3 p_u4 P (lv_sub hl [0, 1, 2, 3, 4, 5] rfl) (by omega) (by omega) h0 hs0 hw
      · have hw := hw.2.2.2.2.2.2.2.2.2.2.2.2.1 hc
        refine lv_tableIn (tgt := 536) hx hb dL_law_44 (by omega) (by omega) (by rw [hc]; rfl) (by decide) ?_
        exact tL_law_536 C hr hX hbl c0 s0 k28 kh28 S u1 u2 u3 u4 y5 p_u1 p_u2 p_u3 p_u4 P (lv_sub hl [0, 1, 2, 3, 4, 5] rfl) (by omega) (by omega) h0 hs0 hw
      · have hw := hw.2.2.2.2.2.2.2.2.2.2.2.2.2.1 hc
        refine lv_tableIn (tgt := 549) hx hb dL_law_44 (by omega) (by omega) (by rw [hc]; rfl) (by decide) ?_
        exact tL_law_549 C hr hX hbl c0 s0 k28 kh28 S u1 u2 u3 u4 y5 p_u1 p_u2 p_u3 p_u4 P (lv_sub hl [0, 1, 2, 3, 4, 5] rfl) (by omega) (by omega) h0 hs0 hw
      · have hw := hw.2.2.2.2.2.2.2.2.2.2.2.2.2.2.1 hc
        refine lv_tableIn (tgt := 565) hx hb dL_law_44 (by omega) (by omega) (by rw [hc]; rfl) (by decide) ?_
        exact tL_law_565 C hr hX hbl c0 s0 k28 kh28 S u1 u2 u3 u4 y5 p_u1 p_u2 p_u3 p_u4 P (lv_sub hl [0, 1, 2, 3, 4, 5] rfl) (by omega) (by omega) h0 hs0 hw
      · have hw := hw.2.2.2.2.2.2.2.2.2.2.2.2.2.2.2.1 hc
        refine lv_tableIn (tgt := 593) hx hb dL_law_44 (by omega) (by omega) (by rw [hc]; rfl) (by decide) ?_
        exact tL_law_593 C hr hX hbl c0 s0 k28 kh28 S u1 u2 u3 u4 y5 p_u1 p_u2 p_u3 p_u4 P (lv_sub hl [0, 1, 2, 3, 4, 5] rfl) (by omega) (by omega) h0 hs0 hw
      · have hw := hw.2.2.2.2.2.2.2.2.2.2.2.2.2.2.2.2.1 hc
        refine lv_tableIn (tgt := 621) hx hb dL_law_44 (by omega) (by omega) (by rw [hc]; rfl) (by decide) ?_
        exact tL_law_621 C hr hX hbl c0 s0 k28 kh28 S u1 u2 u3 u4 y5 p_u1 p_u2 p_u3 p_u4 P (lv_sub hl [0, 1, 2, 3, 4, 5] rfl) (by omega) (by omega) h0 hs0 hw
      · have hw := hw.2.2.2.2.2.2.2.2.2.2.2.2.2.2.2.2.2.1 hc
        refine lv_tableIn (tgt := 661) hx hb dL_law_44 (by omega) (by omega) (by rw [hc]; rfl) (by decide) ?_
        exact tL_law_661 C hr hX hbl c0 s0 k28 kh28 S u1 u2 u3 u4 y5 p_u1 p_u2 p_u3 p_u4 P (lv_sub hl [0, 1, 2, 3, 4, 5] rfl) (by omega) (by omega) h0 hs0 hw
      · have hw := hw.2.2.2.2.2.2.2.2.2.2.2.2.2.2.2.2.2.2.1 hc
        refine lv_tableIn (tgt := 702) hx hb dL_law_44 (by omega) (by omega) (by rw [hc]; rfl) (by decide) ?_
        exact tL_law_702 C hr hX hbl c0 s0 k28 kh28 S u1 u2 u3 u4 y5 p_u1 p_u2 p_u3 p_u4 P (lv_sub hl [0, 1, 2, 3, 4, 5] rfl) (by omega) (by omega) h0 hs0 hw
      · have hw := hw.2.2.2.2.2.2.2.2.2.2.2.2.2.2.2.2.2.2.2.1 hc
        refine lv_tableIn (tgt := 743) hx hb dL_law_44 (by omega) (by omega) (by rw [hc]; rfl) (by decide) ?_
        exact tL_law_743 C hr hX hbl c0 s0 k28 kh28 S u1 u2 u3 u4 y5 p_u1 p_u2 p_u3 p_u4 P (lv_sub hl [0, 1, 2, 3, 4, 5] rfl) (by omega) (by omega) h0 hs0 hw
      · have hw := hw.2.2.2.2.2.2.2.2.2.2.2.2.2.2.2.2.2.2.2.2.1 hc
        refine lv_tableIn (tgt := 759) hx hb dL_law_44 (by omega) (by omega) (by rw [hc]; rfl) (by decide) ?_
        exact tL_law_759 C hr hX hbl c0 s0 k28 kh28 S u1 u2 u3 u4 y5 p_u1 p_u2 p_u3 p_u4 P (lv_sub hl [0, 1, 2, 3, 4, 5] rfl) (by omega) (by omega) h0 hs0 hw
      · have hw := hw.2.2.2.2.2.2.2.2.2.2.2.2.2.2.2.2.2.2.2.2.2.1 hc
        refine lv_tableIn (tgt := 787) hx hb dL_law_44 (by omega) (by omega) (by rw [hc]; rfl) (by decide) ?_
        exact tL_law_787 C hr hX hbl c0 s0 k28 kh28 S u1 u2 u3 u4 y5 p_u1 p_u2 p_u3 p_u4 P (lv_sub hl [0, 1, 2, 3, 4, 5] rfl) (by omega) (by omega) h0 hs0 hw
      · have hw := hw.2.2.2.2.2.2.2.2.2.2.2.2.2.2.2.2.2.2.2.2.2.2.1 hc
        refine lv_tableIn (tgt := 815) hx hb dL_law_44 (by omega) (by omega) (by rw [hc]; rfl) (by decide) ?_
        exact tL_law_815 C hr hX hbl c0 s0 k28 kh28 S u1 u2 u3 u4 y5 p_u1 p_u2 p_u3 p_u4 P (lv_sub hl [0, 1, 2, 3, 4, 5] rfl) (by omega) (by omega) h0 hs0 hw
      · have hw := hw.2.2.2.2.2.2.2.2.2.2.2.2.2.2.2.2.2.2.2.2.2.2.2.1 hc
        refine lv_tableIn (tgt := 843) hx hb dL_law_44 (by omega) (by omega) (by rw [hc]; rfl) (by decide) ?_
        exact tL_law_843 C hr hX hbl c0 s0 k28 kh28 S u1 u2 u3 u4 y5 p_u1 p_u2 p_u3 p_u4 P (lv_sub hl [0, 1, 2, 3, 4, 5] rfl) (by omega) (by omega) h0 hs0 hw
      · have hw := hw.2.2.2.2.2.2.2.2.2.2.2.2.2.2.2.2.2.2.2.2.2.2.2.2.1 hc
        refine lv_tableIn (tgt := 859) hx hb dL_law_44 (by omega) (by omega) (by rw [hc]; rfl) (by decide) ?_
        exact tL_law_859 C hr hX hbl c0 s0 k28 kh28 S u1 u2 u3 u4 y5 p_u1 p_u2 p_u3 p_u4 P (lv_sub hl [0, 1, 2, 3, 4, 5] rfl) (by omega) (by omega) h0 hs0 hw
      · have hw := hw.2.2.2.2.2.2.2.2.2.2.2.2.2.2.2.2.2.2.2.2.2.2.2.2.2.1 hc
        refine lv_tableIn (tgt := 875) hx hb dL_law_44 (by omega) (by omega) (by rw [hc]; rfl) (by decide) ?_
        exact tL_law_875 C hr hX hbl c0 s0 k28 kh28 S u1 u2 u3 u4 y5 p_u1 p_u2 p_u3 p_u4 P (lv_sub hl [0, 1, 2, 3, 4, 5] rfl) (by omega) (by omega) h0 hs0 hw
      · have hw := hw.2.2.2.2.2.2.2.2.2.2.2.2.2.2.2.2.2.2.2.2.2.2.2.2.2.2.1 hc
        refine lv_tableIn (tgt := 891) hx hb dL_law_44 (by omega) (by omega) (by rw [hc]; rfl) (by decide) ?_
        exact tL_law_891 C hr hX hbl c0 s0 k28 kh28 S u1 u2 u3 u4 y5 p_u1 p_u2 p_u3 p_u4 P (lv_sub hl [0, 1, 2, 3, 4, 5] rfl) (by omega) (by omega) h0 hs0 hw
      · have hw := hw.2.2.2.2.2.2.2.2.2.2.2.2.2.2.2.2.2.2.2.2.2.2.2.2.2.2.2.1 hc
        refine lv_tableIn (tgt := 907) hx hb dL_law_44 (by omega) (by omega) (by rw [hc]; rfl) (by decide) ?_
        exact tL_law_907 C hr hX hbl c0 s0 k28 kh28 S u1 u2 u3 u4 y5 p_u1 p_u2 p_u3 p_u4 P (lv_sub hl [0, 1, 2, 3, 4, 5] rfl) (by omega) (by omega) h0 hs0 hw
      · have hw := hw.2.2.2.2.2.2.2.2.2.2.2.2.2.2.2.2.2.2.2.2.2.2.2.2.2.2.2.2.1 hc
        refine lv_tableIn (tgt := 920) hx hb dL_law_44 (by omega) (by omega) (by rw [hc]; rfl) (by decide) ?_
        exact tL_law_920 C hr hX hbl c0 s0 k28 kh28 S u1 u2 u3 u4 y5 p_u1 p_u2 p_u3 p_u4 P (lv_sub hl [0, 1, 2, 3, 4, 5] rfl) (by omega) (by omega) h0 hs0 hw
      · have hw := hw.2.2.2.2.2.2.2.2.2.2.2.2.2.2.2.2.2.2.2.2.2.2.2.2.2.2.2.2.2.1 hc
        refine lv_tableIn (tgt := 960) hx hb dL_law_44 (by omega) (by omega) (by rw [hc]; rfl) (by decide) ?_
        exact tL_law_960 C hr hX hbl c0 s0 k28 kh28 S u1 u2 u3 u4 y5 p_u1 p_u2 p_u3 p_u4 P (lv_sub hl [0, 1, 2, 3, 4, 5] rfl) (by omega) (by omega) h0 hs0 hw
      · have hw := hw.2.2.2.2.2.2.2.2.2.2.2.2.2.2.2.2.2.2.2.2.2.2.2.2.2.2.2.2.2.2.1 hc
        refine lv_tableIn (tgt := 973) hx hb dL_law_44 (by omega) (by omega) (by rw [hc]; rfl) (by decide) ?_
        exact tL_law_973 C hr hX hbl c0 s0 k28 kh28 S u1 u2 u3 u4 y5 p_u1 p_u2 p_u3 p_u4 P (lv_sub hl [0, 1, 2, 3, 4, 5] rfl) (by omega) (by omega) h0 hs0 hw
      · have hw := hw.2.2.2.2.2.2.2.2.2.2.2.2.2.2.2.2.2.2.2.2.2.2.2.2.2.2.2.2.2.2.2.1 hc
        refine lv_tableIn (tgt := 989) hx hb dL_law_44 (by omega) (by omega) (by rw [hc]; rfl) (by decide) ?_
        exact tL_law_989 C hr hX hbl c0 s0 k28 kh28 S u1 u2 u3 u4 y5 p_u1 p_u2 p_u3 p_u4 P (lv_sub hl [0, 1, 2, 3, 4, 5] rfl) (by omega) (by omega) h0 hs0 hw
      · have hw := hw.2.2.2.2.2.2.2.2.2.2.2.2.2.2.2.2.2.2.2.2.2.2.2.2.2.2.2.2.2.2.2.2.1 hc
        refine lv_tableIn (tgt := 1005) hx hb dL_law_44 (by omega) (by omega) (by rw [hc]; rfl) (by decide) ?_
        exact tL_law_1005 C hr hX hbl c0 s0 k28 kh28 S u1 u2 u3 u4 y5 p_u1 p_u2 p_u3 p_u4 P (lv_sub hl [0, 1, 2, 3, 4, 5] rfl) (by omega) (by omega) h0 hs0 hw
      · have hw := hw.2.2.2.2.2.2.2.2.2.2.2.2.2.2.2.2.2.2.2.2.2.2.2.2.2.2.2.2.2.2.2.2.2.1 hc
        refine lv_tableIn (tgt := 1034) hx hb dL_law_44 (by omega) (by omega) (by rw [hc]; rfl) (by decide) ?_
        exact tL_law_1034 C hr hX hbl c0 s0 k28 kh28 S u1 u2 u3 u4 y5 p_u1 p_u2 p_u3 p_u4 P (lv_sub hl [0, 1, 2, 3, 4, 5] rfl) (by omega) (by omega) h0 hs0 hw
      · have hw := hw.2.2.2.2.2.2.2.2.2.2.2.2.2.2.2.2.2.2.2.2.2.2.2.2.2.2.2.2.2.2.2.2.2.2.1 hc
        refine lv_tableIn (tgt := 1090) hx hb dL_law_44 (by omega) (by omega) (by rw [hc]; rfl) (by decide) ?_
        exact tL_law_1090 C hr hX hbl c0 s0 k28 kh28 S u1 u2 u3 u4 y5 p_u1 p_u2 p_u3 p_u4 P (lv_sub hl [0, 1, 2, 3, 4, 5] rfl) (by omega) (by omega) h0 hs0 hw
      · have hw := hw.2.2.2.2.2.2.2.2.2.2.2.2.2.2.2.2.2.2.2.2.2.2.2.2.2.2.2.2.2.2.2.2.2.2.2.1 hc
        refine lv_tableIn (tgt := 1130) hx hb dL_law_44 (by omega) (by omega) (by rw [hc]; rfl) (by decide) ?_
        exact tL_law_1130 C hr hX hbl c0 s0 k28 kh28 S u1 u2 u3 u4 y5 p_u1 p_u2 p_u3 p_u4 P (lv_sub hl [0, 1, 2, 3, 4, 5] rfl) (by omega) (by omega) h0 hs0 hw
      · have hw := hw.2.2.2.2.2.2.2.2.2.2.2.2.2.2.2.2.2.2.2.2.2.2.2.2.2.2.2.2.2.2.2.2.2.2.2.2.1 hc
        refine lv_tableIn (tgt := 1170) hx hb dL_law_44 (by omega) (by omega) (by rw [hc]; rfl) (by decide) ?_
        exact tL_law_1170 C hr hX hbl c0 s0 k28 kh28 S u1 u2 u3 u4 y5 p_u1 p_u2 p_u3 p_u4 P (lv_sub hl [0, 1, 2, 3, 4, 5] rfl) (by omega) (by omega) h0 hs0 hw
      · have hw := hw.2.2.2.2.2.2.2.2.2.2.2.2.2.2.2.2.2.2.2.2.2.2.2.2.2.2.2.2.2.2.2.2.2.2.2.2.2 hc
        refine lv_tableIn (tgt := 1183) hx hb dL_law_44 (by omega) (by omega) (by rw [hc]; rfl) (by decide) ?_
        exact tL_law_1183 C hr hX hbl c0 s0 k28 kh28 S u1 u2 u3 u4 y5 p_u1 p_u2 p_u3 p_u4 P (lv_sub hl [0, 1, 2, 3, 4, 5] rfl) (by omega) (by omega) h0 hs0 hw
def lL_law_28 (L : Nat) (xs : Nat → Int32) : Nat → MS → Nat → Nat → Nat → Nat → Int32 → Prop
  | 0 => fun _ _ _ _ _ _ => False
  | n + 1 => fun S u1 u2 u3 u4 y5 => wL_law_28 L xs (lL_law_28 L xs n) S u1 u2 u3 u4 y5
theorem tlL_law_28 {p : Program} {l : Launch} {e : Env} {s : State} {m : MethodId} {below : List Frame} {meth : Method} {c : Code} {G : GP} {S0 : MS} {b L : Nat} {xs : Nat → Int32} (C : CF p l s m #[Value.ref b] meth c "SkirmishGridLaw" code 9 G (fun q => s.heap.size ≤ q)) (hr : meth.sig.returnType = ret) (hX : va_X b L xs s s.heap) (hbl : b < s.heap.size) : ∀ (n : Nat) (S : MS) (u1 : Nat) (u2 : Nat) (u3 : Nat) (u4 : Nat) (y5 : Int32) (cells slots : Nat) (H : Heap) (locs : List Loc) (ls : Array Slot), pI S 8 u1 → pI S 9 u2 → pI S 16 u3 → pI S 17 u4 → PW G (fun q => s.heap.size ≤ q) s H locs S0 S → lv_has ls 9 [(0, .ref b), (1, .ref u1), (2, .ref u2), (3, .ref u3), (4, .ref u4), (5, .int y5)] → cells + n * 5 ≤ 603072 → slots + n * 30 ≤ 7202922 → lL_law_28 L xs n S u1 u2 u3 u4 y5 → W p l e room_1 s m #[Value.ref b] below meth c H locs cells slots (lw_Z below #[Value.ref b] s) (F0 m 28 ls []) := by
  intro n
  induction n with
  | zero => intro S u1 u2 u3 u4 y5 cells slots H locs ls p_u1 p_u2 p_u3 p_u4 P hl hcc hss hw; exact hw.elim
  | succ n ih =>
    intro S u1 u2 u3 u4 y5 cells slots H locs ls p_u1 p_u2 p_u3 p_u4 P hl hcc hss hw
    exact tL_law_28 C hr hX hbl cells slots (lL_law_28 L xs n) (fun S u1 u2 u3 u4 y5 cells2 slots2 H locs ls p_u1 p_u2 p_u3 p_u4 P hl h1 h2 hw => ih S u1 u2 u3 u4 y5 cells2 slots2 H locs ls p_u1 p_u2 p_u3 p_u4 P hl (by omega) (by omega) hw) S u1 u2 u3 u4 y5 p_u1 p_u2 p_u3 p_u4 P hl (by omega) (by omega) (by omega) (by omega) hw
