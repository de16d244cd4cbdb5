theorem q_35 : Cond.methodLink "SkirmishGrid" 1 objectInit ∈ GW := gw_t 35 (by decide +kernel) (by decide +kernel)
theorem q_64 : Cond.arrayClass .char ∈ GW := gw_t 64 (by decide +kernel) (by decide +kernel)
theorem q_299 : Cond.fieldLink "SkirmishGrid" 9 "SkirmishGrid" "text" "[C" ∈ GW := gw_t 299 (by decide +kernel) (by decide +kernel)
theorem q_301 : Cond.fieldLink "SkirmishGrid" 13 "SkirmishGrid" "errorIndex" "I" ∈ GW := gw_t 301 (by decide +kernel) (by decide +kernel)
theorem q_38 : Cond.classLink "SkirmishGrid" 17 "SkirmishGrid$Fight" ∈ GW := gw_t 38 (by decide +kernel) (by decide +kernel)
theorem q_40 : Cond.methodLink "SkirmishGrid" 19 yX2_init ∈ GW := gw_t 40 (by decide +kernel) (by decide +kernel)
theorem q_302 : Cond.fieldLink "SkirmishGrid" 20 "SkirmishGrid" "fight" "LSkirmishGrid$Fight;" ∈ GW := gw_t 302 (by decide +kernel) (by decide +kernel)
theorem q_212 : Cond.classLink "SkirmishGrid" 24 "SkirmishGrid$Commands" ∈ GW := gw_t 212 (by decide +kernel) (by decide +kernel)
theorem q_213 : Cond.instantiable "SkirmishGrid$Commands" 3 ∈ GW := gw_t 213 (by decide +kernel) (by decide +kernel)
theorem q_6 : Cond.initialized "SkirmishGrid$Commands" ∈ GW := gw_t 6 (by decide +kernel) (by decide +kernel)
theorem q_215 : Cond.instanceMethod yX0_init ∈ GW := gw_t 215 (by decide +kernel) (by decide +kernel)
theorem q_216 : Cond.code yX0_init cX0_init 1 none ∈ GW := gw_t 216 (by decide +kernel) (by decide +kernel)
theorem q_303 : Cond.fieldLink "SkirmishGrid" 27 "SkirmishGrid" "commands" "LSkirmishGrid$Commands;" ∈ GW := gw_t 303 (by decide +kernel) (by decide +kernel)
theorem q_231 : Cond.classLink "SkirmishGrid" 31 "SkirmishGrid$History" ∈ GW := gw_t 231 (by decide +kernel) (by decide +kernel)
theorem q_232 : Cond.instantiable "SkirmishGrid$History" 3 ∈ GW := gw_t 232 (by decide +kernel) (by decide +kernel)
theorem q_7 : Cond.initialized "SkirmishGrid$History" ∈ GW := gw_t 7 (by decide +kernel) (by decide +kernel)
theorem q_233 : Cond.methodLink "SkirmishGrid" 33 yX4_init ∈ GW := gw_t 233 (by decide +kernel) (by decide +kernel)
theorem q_234 : Cond.instanceMethod yX4_init ∈ GW := gw_t 234 (by decide +kernel) (by decide +kernel)
theorem q_235 : Cond.code yX4_init cX4_init 2 none ∈ GW := gw_t 235 (by decide +kernel) (by decide +kernel)
theorem q_304 : Cond.fieldLink "SkirmishGrid" 34 "SkirmishGrid" "history" "LSkirmishGrid$History;" ∈ GW := gw_t 304 (by decide +kernel) (by decide +kernel)
theorem q_305 : Cond.fieldLink "SkirmishGrid" 38 "SkirmishGrid" "keptFight" "LSkirmishGrid$Fight;" ∈ GW := gw_t 305 (by decide +kernel) (by decide +kernel)
theorem q_306 : Cond.fieldLink "SkirmishGrid" 41 "SkirmishGrid" "keptCommands" "LSkirmishGrid$Commands;" ∈ GW := gw_t 306 (by decide +kernel) (by decide +kernel)
theorem q_308 : Cond.fieldLink "SkirmishGrid" 44 "SkirmishGrid" "replay" "LSkirmishGrid$Fight;" ∈ GW := gw_t 308 (by decide +kernel) (by decide +kernel)
theorem q_251 : Cond.classLink "SkirmishGrid" 47 "SkirmishGrid$Paths" ∈ GW := gw_t 251 (by decide +kernel) (by decide +kernel)
theorem q_252 : Cond.instantiable "SkirmishGrid$Paths" 4 ∈ GW := gw_t 252 (by decide +kernel) (by decide +kernel)
theorem q_254 : Cond.instanceMethod yX5_init ∈ GW := gw_t 254 (by decide +kernel) (by decide +kernel)
theorem q_255 : Cond.code yX5_init cX5_init 1 none ∈ GW := gw_t 255 (by decide +kernel) (by decide +kernel)
theorem q_309 : Cond.fieldLink "SkirmishGrid" 50 "SkirmishGrid" "paths" "LSkirmishGrid$Paths;" ∈ GW := gw_t 309 (by decide +kernel) (by decide +kernel)
theorem q_271 : Cond.classLink "SkirmishGrid" 54 "SkirmishGrid$Row" ∈ GW := gw_t 271 (by decide +kernel) (by decide +kernel)
theorem q_272 : Cond.instantiable "SkirmishGrid$Row" 5 ∈ GW := gw_t 272 (by decide +kernel) (by decide +kernel)
theorem q_9 : Cond.initialized "SkirmishGrid$Row" ∈ GW := gw_t 9 (by decide +kernel) (by decide +kernel)
theorem q_274 : Cond.instanceMethod yX6_init ∈ GW := gw_t 274 (by decide +kernel) (by decide +kernel)
theorem q_275 : Cond.code yX6_init cX6_init 1 none ∈ GW := gw_t 275 (by decide +kernel) (by decide +kernel)
theorem q_310 : Cond.fieldLink "SkirmishGrid" 57 "SkirmishGrid" "firstRow" "LSkirmishGrid$Row;" ∈ GW := gw_t 310 (by decide +kernel) (by decide +kernel)
theorem q_311 : Cond.fieldLink "SkirmishGrid" 61 "SkirmishGrid" "secondRow" "LSkirmishGrid$Row;" ∈ GW := gw_t 311 (by decide +kernel) (by decide +kernel)
theorem q_410 : Cond.classLink "SkirmishGrid" 64 "java/lang/IllegalArgumentException" ∈ GW := gw_t 410 (by decide +kernel) (by decide +kernel)
theorem q_14 : Cond.initialized "java/lang/IllegalArgumentException" ∈ GW := gw_t 14 (by decide +kernel) (by decide +kernel)
theorem q_300 : Cond.fieldLink "SkirmishGrid" 71 "SkirmishGrid" "textLength" "I" ∈ GW := gw_t 300 (by decide +kernel) (by decide +kernel)
theorem q_482 : Cond.classLink "SkirmishGrid" 74 "java/lang/IllegalStateException" ∈ GW := gw_t 482 (by decide +kernel) (by decide +kernel)
theorem q_15 : Cond.initialized "java/lang/IllegalStateException" ∈ GW := gw_t 15 (by decide +kernel) (by decide +kernel)
theorem q_510 : Cond.methodLink "SkirmishGrid" 480 yJ0_indexOf_0f7a4 ∈ GW := gw_t 510 (by decide +kernel) (by decide +kernel)
theorem q_603 : Cond.classLink "SkirmishGrid" 92 "java/lang/UnsupportedOperationException" ∈ GW := gw_t 603 (by decide +kernel) (by decide +kernel)
theorem q_22 : Cond.initialized "java/lang/UnsupportedOperationException" ∈ GW := gw_t 22 (by decide +kernel) (by decide +kernel)
theorem q_506 : Cond.methodLink "SkirmishGrid" 79 yX8_findError ∈ GW := gw_t 506 (by decide +kernel) (by decide +kernel)
theorem q_507 : Cond.static yX8_findError ∈ GW := gw_t 507 (by decide +kernel) (by decide +kernel)
theorem q_1 : Cond.initialized "SkirmishGrid" ∈ GW := gw_t 1 (by decide +kernel) (by decide +kernel)
theorem q_508 : Cond.code yX8_findError cX8_findError 5 (some .int) ∈ GW := gw_t 508 (by decide +kernel) (by decide +kernel)
theorem q_597 : Cond.methodLink "SkirmishGrid" 85 yX8_countColumns ∈ GW := gw_t 597 (by decide +kernel) (by decide +kernel)
theorem q_598 : Cond.static yX8_countColumns ∈ GW := gw_t 598 (by decide +kernel) (by decide +kernel)
theorem q_599 : Cond.code yX8_countColumns cX8_countColumns 3 (some .int) ∈ GW := gw_t 599 (by decide +kernel) (by decide +kernel)
theorem q_600 : Cond.methodLink "SkirmishGrid" 88 yX8_isSide ∈ GW := gw_t 600 (by decide +kernel) (by decide +kernel)
theorem q_601 : Cond.static yX8_isSide ∈ GW := gw_t 601 (by decide +kernel) (by decide +kernel)
theorem q_602 : Cond.code yX8_isSide cX8_isSide 1 (some .boolean) ∈ GW := gw_t 602 (by decide +kernel) (by decide +kernel)
theorem q_619 : Cond.methodLink "SkirmishGrid" 97 yX2_reset ∈ GW := gw_t 619 (by decide +kernel) (by decide +kernel)
theorem q_163 : Cond.fieldLink "SkirmishGrid" 101 "SkirmishGrid$Fight" "grid" "LSkirmishGrid$Grid;" ∈ GW := gw_t 163 (by decide +kernel) (by decide +kernel)
theorem q_623 : Cond.methodLink "SkirmishGrid" 105 yX3_read ∈ GW := gw_t 623 (by decide +kernel) (by decide +kernel)
theorem q_624 : Cond.instanceMethod yX3_read ∈ GW := gw_t 624 (by decide +kernel) (by decide +kernel)
theorem q_625 : Cond.selects "SkirmishGrid$Grid" yX3_read yX3_read ∈ GW := gw_t 625 (by decide +kernel) (by decide +kernel)
theorem q_626 : Cond.code yX3_read cX3_read 8 none ∈ GW := gw_t 626 (by decide +kernel) (by decide +kernel)
theorem q_223 : Cond.fieldLink "SkirmishGrid" 111 "SkirmishGrid$Commands" "count" "I" ∈ GW := gw_t 223 (by decide +kernel) (by decide +kernel)
theorem q_629 : Cond.methodLink "SkirmishGrid" 114 yX4_clear ∈ GW := gw_t 629 (by decide +kernel) (by decide +kernel)
theorem q_630 : Cond.instanceMethod yX4_clear ∈ GW := gw_t 630 (by decide +kernel) (by decide +kernel)
theorem q_631 : Cond.selects "SkirmishGrid$History" yX4_clear yX4_clear ∈ GW := gw_t 631 (by decide +kernel) (by decide +kernel)
theorem q_632 : Cond.code yX4_clear cX4_clear 1 none ∈ GW := gw_t 632 (by decide +kernel) (by decide +kernel)
theorem q_641 : Cond.classLink "SkirmishGrid" 117 "java/util/NoSuchElementException" ∈ GW := gw_t 641 (by decide +kernel) (by decide +kernel)
theorem q_23 : Cond.initialized "java/util/NoSuchElementException" ∈ GW := gw_t 23 (by decide +kernel) (by decide +kernel)
theorem q_688 : Cond.classLink "SkirmishGrid" 128 "java/lang/IndexOutOfBoundsException" ∈ GW := gw_t 688 (by decide +kernel) (by decide +kernel)
theorem q_24 : Cond.initialized "java/lang/IndexOutOfBoundsException" ∈ GW := gw_t 24 (by decide +kernel) (by decide +kernel)
theorem q_53 : Cond.fieldLink "SkirmishGrid" 122 "SkirmishGrid$Grid" "rows" "I" ∈ GW := gw_t 53 (by decide +kernel) (by decide +kernel)
theorem q_56 : Cond.fieldLink "SkirmishGrid" 125 "SkirmishGrid$Grid" "columns" "I" ∈ GW := gw_t 56 (by decide +kernel) (by decide +kernel)
theorem q_701 : Cond.methodLink "SkirmishGrid" 133 yX3_ground ∈ GW := gw_t 701 (by decide +kernel) (by decide +kernel)
theorem q_705 : Cond.methodLink "SkirmishGrid" 139 yJ0_length_8abf5 ∈ GW := gw_t 705 (by decide +kernel) (by decide +kernel)
theorem q_706 : Cond.methodLink "SkirmishGrid" 145 yJ0_charAt_5068e ∈ GW := gw_t 706 (by decide +kernel) (by decide +kernel)
theorem q_707 : Cond.instanceMethod yJ0_charAt_5068e ∈ GW := gw_t 707 (by decide +kernel) (by decide +kernel)
theorem q_708 : Cond.selects "java/lang/String" yJ0_charAt_5068e yJ0_charAt_5068e ∈ GW := gw_t 708 (by decide +kernel) (by decide +kernel)
theorem q_709 : Cond.code yJ0_charAt_5068e cJ0_charAt_5068e 2 (some .char) ∈ GW := gw_t 709 (by decide +kernel) (by decide +kernel)
theorem q_737 : Cond.methodLink "SkirmishGrid" 449 yX3_hasCell ∈ GW := gw_t 737 (by decide +kernel) (by decide +kernel)
theorem q_738 : Cond.instanceMethod yX3_hasCell ∈ GW := gw_t 738 (by decide +kernel) (by decide +kernel)
theorem q_739 : Cond.selects "SkirmishGrid$Grid" yX3_hasCell yX3_hasCell ∈ GW := gw_t 739 (by decide +kernel) (by decide +kernel)
theorem q_740 : Cond.code yX3_hasCell cX3_hasCell 2 (some .boolean) ∈ GW := gw_t 740 (by decide +kernel) (by decide +kernel)
theorem q_733 : Cond.methodLink "SkirmishGrid" 149 yX8_requireCell ∈ GW := gw_t 733 (by decide +kernel) (by decide +kernel)
theorem q_735 : Cond.instanceMethod yX8_requireCell ∈ GW := gw_t 735 (by decide +kernel) (by decide +kernel)
theorem q_p1 : Cond.selects "SkirmishGrid" yX8_requireCell yX8_requireCell ∈ GW := gw_p 1 (by decide +kernel) (by decide +kernel)
theorem q_736 : Cond.code yX8_requireCell cX8_requireCell 2 none ∈ GW := gw_t 736 (by decide +kernel) (by decide +kernel)
theorem q_741 : Cond.methodLink "SkirmishGrid" 152 yX3_isClear ∈ GW := gw_t 741 (by decide +kernel) (by decide +kernel)
theorem q_768 : Cond.methodLink "SkirmishGrid" 156 yX3_coverOf ∈ GW := gw_t 768 (by decide +kernel) (by decide +kernel)
theorem q_780 : Cond.methodLink "SkirmishGrid" 160 yX8_requireTeam ∈ GW := gw_t 780 (by decide +kernel) (by decide +kernel)
theorem q_781 : Cond.static yX8_requireTeam ∈ GW := gw_t 781 (by decide +kernel) (by decide +kernel)
theorem q_782 : Cond.code yX8_requireTeam cX8_requireTeam 1 none ∈ GW := gw_t 782 (by decide +kernel) (by decide +kernel)
theorem q_785 : Cond.methodLink "SkirmishGrid" 165 yX2_hasUnitOn ∈ GW := gw_t 785 (by decide +kernel) (by decide +kernel)
theorem q_786 : Cond.instanceMethod yX2_hasUnitOn ∈ GW := gw_t 786 (by decide +kernel) (by decide +kernel)
theorem q_787 : Cond.selects "SkirmishGrid$Fight" yX2_hasUnitOn yX2_hasUnitOn ∈ GW := gw_t 787 (by decide +kernel) (by decide +kernel)
theorem q_788 : Cond.code yX2_hasUnitOn cX2_hasUnitOn 3 (some .boolean) ∈ GW := gw_t 788 (by decide +kernel) (by decide +kernel)
theorem q_347 : Cond.methodLink "SkirmishGrid" 170 yX2_hasBegun ∈ GW := gw_t 347 (by decide +kernel) (by decide +kernel)
theorem q_348 : Cond.instanceMethod yX2_hasBegun ∈ GW := gw_t 348 (by decide +kernel) (by decide +kernel)
theorem q_349 : Cond.selects "SkirmishGrid$Fight" yX2_hasBegun yX2_hasBegun ∈ GW := gw_t 349 (by decide +kernel) (by decide +kernel)
theorem q_350 : Cond.code yX2_hasBegun cX2_hasBegun 1 (some .boolean) ∈ GW := gw_t 350 (by decide +kernel) (by decide +kernel)
theorem q_171 : Cond.fieldLink "SkirmishGrid" 174 "SkirmishGrid$Fight" "unitCount" "I" ∈ GW := gw_t 171 (by decide +kernel) (by decide +kernel)
theorem q_791 : Cond.methodLink "SkirmishGrid" 179 yX2_enlist ∈ GW := gw_t 791 (by decide +kernel) (by decide +kernel)
theorem q_816 : Cond.methodLink "SkirmishGrid" 454 yX2_find ∈ GW := gw_t 816 (by decide +kernel) (by decide +kernel)
theorem q_812 : Cond.methodLink "SkirmishGrid" 183 yX8_requireUnit ∈ GW := gw_t 812 (by decide +kernel) (by decide +kernel)
theorem q_814 : Cond.instanceMethod yX8_requireUnit ∈ GW := gw_t 814 (by decide +kernel) (by decide +kernel)
theorem q_p3 : Cond.selects "SkirmishGrid" yX8_requireUnit yX8_requireUnit ∈ GW := gw_p 3 (by decide +kernel) (by decide +kernel)
theorem q_815 : Cond.code yX8_requireUnit cX8_requireUnit 3 (some (.object "SkirmishGrid$Unit")) ∈ GW := gw_t 815 (by decide +kernel) (by decide +kernel)
theorem q_98 : Cond.fieldLink "SkirmishGrid" 187 "SkirmishGrid$Unit" "team" "I" ∈ GW := gw_t 98 (by decide +kernel) (by decide +kernel)
theorem q_102 : Cond.fieldLink "SkirmishGrid" 192 "SkirmishGrid$Unit" "kind" "I" ∈ GW := gw_t 102 (by decide +kernel) (by decide +kernel)
theorem q_108 : Cond.fieldLink "SkirmishGrid" 195 "SkirmishGrid$Unit" "cell" "I" ∈ GW := gw_t 108 (by decide +kernel) (by decide +kernel)
theorem q_111 : Cond.fieldLink "SkirmishGrid" 198 "SkirmishGrid$Unit" "health" "I" ∈ GW := gw_t 111 (by decide +kernel) (by decide +kernel)
theorem q_114 : Cond.fieldLink "SkirmishGrid" 201 "SkirmishGrid$Unit" "ammunition" "I" ∈ GW := gw_t 114 (by decide +kernel) (by decide +kernel)
theorem q_117 : Cond.fieldLink "SkirmishGrid" 204 "SkirmishGrid$Unit" "grenades" "I" ∈ GW := gw_t 117 (by decide +kernel) (by decide +kernel)
theorem q_178 : Cond.fieldLink "SkirmishGrid" 207 "SkirmishGrid$Fight" "current" "I" ∈ GW := gw_t 178 (by decide +kernel) (by decide +kernel)
theorem q_180 : Cond.fieldLink "SkirmishGrid" 210 "SkirmishGrid$Fight" "actions" "I" ∈ GW := gw_t 180 (by decide +kernel) (by decide +kernel)
theorem q_120 : Cond.fieldLink "SkirmishGrid" 213 "SkirmishGrid$Unit" "roll" "I" ∈ GW := gw_t 120 (by decide +kernel) (by decide +kernel)
theorem q_123 : Cond.fieldLink "SkirmishGrid" 216 "SkirmishGrid$Unit" "stunned" "I" ∈ GW := gw_t 123 (by decide +kernel) (by decide +kernel)
theorem q_126 : Cond.fieldLink "SkirmishGrid" 219 "SkirmishGrid$Unit" "burning" "I" ∈ GW := gw_t 126 (by decide +kernel) (by decide +kernel)
theorem q_129 : Cond.fieldLink "SkirmishGrid" 222 "SkirmishGrid$Unit" "isGuarding" "Z" ∈ GW := gw_t 129 (by decide +kernel) (by decide +kernel)
theorem q_132 : Cond.fieldLink "SkirmishGrid" 226 "SkirmishGrid$Unit" "isWatching" "Z" ∈ GW := gw_t 132 (by decide +kernel) (by decide +kernel)
theorem q_829 : Cond.methodLink "SkirmishGrid" 231 yX2_goesOn ∈ GW := gw_t 829 (by decide +kernel) (by decide +kernel)
theorem q_835 : Cond.methodLink "SkirmishGrid" 236 yX2_startRounds ∈ GW := gw_t 835 (by decide +kernel) (by decide +kernel)
theorem q_836 : Cond.instanceMethod yX2_startRounds ∈ GW := gw_t 836 (by decide +kernel) (by decide +kernel)
theorem q_837 : Cond.selects "SkirmishGrid$Fight" yX2_startRounds yX2_startRounds ∈ GW := gw_t 837 (by decide +kernel) (by decide +kernel)
theorem q_838 : Cond.code yX2_startRounds cX2_startRounds 1 none ∈ GW := gw_t 838 (by decide +kernel) (by decide +kernel)
theorem q_351 : Cond.methodLink "SkirmishGrid" 239 yX2_hasLiving ∈ GW := gw_t 351 (by decide +kernel) (by decide +kernel)
theorem q_182 : Cond.fieldLink "SkirmishGrid" 242 "SkirmishGrid$Fight" "round" "I" ∈ GW := gw_t 182 (by decide +kernel) (by decide +kernel)
theorem q_878 : Cond.methodLink "SkirmishGrid" 245 yX2_onTurn ∈ GW := gw_t 878 (by decide +kernel) (by decide +kernel)
theorem q_175 : Cond.fieldLink "SkirmishGrid" 251 "SkirmishGrid$Fight" "orderLength" "I" ∈ GW := gw_t 175 (by decide +kernel) (by decide +kernel)
theorem q_173 : Cond.fieldLink "SkirmishGrid" 256 "SkirmishGrid$Fight" "order" "[I" ∈ GW := gw_t 173 (by decide +kernel) (by decide +kernel)
theorem q_906 : Cond.methodLink "SkirmishGrid" 297 yX5_measure ∈ GW := gw_t 906 (by decide +kernel) (by decide +kernel)
theorem q_931 : Cond.methodLink "SkirmishGrid" 301 yX5_costsFrom ∈ GW := gw_t 931 (by decide +kernel) (by decide +kernel)
theorem q_935 : Cond.constant "SkirmishGrid" 469 1000000 ∈ GW := gw_t 935 (by decide +kernel) (by decide +kernel)
theorem q_898 : Cond.methodLink "SkirmishGrid" 260 yX8_requireTurn ∈ GW := gw_t 898 (by decide +kernel) (by decide +kernel)
theorem q_900 : Cond.instanceMethod yX8_requireTurn ∈ GW := gw_t 900 (by decide +kernel) (by decide +kernel)
theorem q_p9 : Cond.selects "SkirmishGrid" yX8_requireTurn yX8_requireTurn ∈ GW := gw_p 9 (by decide +kernel) (by decide +kernel)
theorem q_901 : Cond.code yX8_requireTurn cX8_requireTurn 2 (some (.object "SkirmishGrid$Unit")) ∈ GW := gw_t 901 (by decide +kernel) (by decide +kernel)
theorem q_902 : Cond.methodLink "SkirmishGrid" 263 yX8_requirePath ∈ GW := gw_t 902 (by decide +kernel) (by decide +kernel)
theorem q_904 : Cond.instanceMethod yX8_requirePath ∈ GW := gw_t 904 (by decide +kernel) (by decide +kernel)
theorem q_p10 : Cond.selects "SkirmishGrid" yX8_requirePath yX8_requirePath ∈ GW := gw_p 10 (by decide +kernel) (by decide +kernel)
theorem q_905 : Cond.code yX8_requirePath cX8_requirePath 4 (some .int) ∈ GW := gw_t 905 (by decide +kernel) (by decide +kernel)
theorem q_944 : Cond.methodLink "SkirmishGrid" 267 yX5_next ∈ GW := gw_t 944 (by decide +kernel) (by decide +kernel)
theorem dX8_init_0 : decode cX8_init 0 = .ok (.aload_n 0, 1) := by decide +kernel
theorem dX8_init_1 : decode cX8_init 1 = .ok (.invokespecial 1, 3) := by decide +kernel
theorem dX8_init_4 : decode cX8_init 4 = .ok (.aload_n 0, 1) := by decide +kernel
theorem dX8_init_5 : decode cX8_init 5 = .ok (.bipush 71, 2) := by decide +kernel
theorem dX8_init_7 : decode cX8_init 7 = .ok (.newarray .char, 2) := by decide +kernel
theorem dX8_init_9 : decode cX8_init 9 = .ok (.putfield 9, 3) := by decide +kernel
theorem dX8_init_12 : decode cX8_init 12 = .ok (.aload_n 0, 1) := by decide +kernel
theorem dX8_init_13 : decode cX8_init 13 = .ok (.iconst (-1), 1) := by decide +kernel
theorem dX8_init_14 : decode cX8_init 14 = .ok (.putfield 13, 3) := by decide +kernel
theorem dX8_init_17 : decode cX8_init 17 = .ok (.aload_n 0, 1) := by decide +kernel
theorem dX8_init_18 : decode cX8_init 18 = .ok (.new 17, 3) := by decide +kernel
theorem dX8_init_21 : decode cX8_init 21 = .ok (.dup, 1) := by decide +kernel
theorem dX8_init_22 : decode cX8_init 22 = .ok (.invokespecial 19, 3) := by decide +kernel
theorem dX8_init_25 : decode cX8_init 25 = .ok (.putfield 20, 3) := by decide +kernel
theorem dX8_init_28 : decode cX8_init 28 = .ok (.aload_n 0, 1) := by decide +kernel
theorem dX8_init_29 : decode cX8_init 29 = .ok (.new 24, 3) := by decide +kernel
theorem dX8_init_32 : decode cX8_init 32 = .ok (.dup, 1) := by decide +kernel
theorem dX8_init_33 : decode cX8_init 33 = .ok (.invokespecial 26, 3) := by decide +kernel
theorem dX8_init_36 : decode cX8_init 36 = .ok (.putfield 27, 3) := by decide +kernel
theorem dX8_init_39 : decode cX8_init 39 = .ok (.aload_n 0, 1) := by decide +kernel
theorem dX8_init_40 : decode cX8_init 40 = .ok (.new 31, 3) := by decide +kernel
theorem dX8_init_43 : decode cX8_init 43 = .ok (.dup, 1) := by decide +kernel
theorem dX8_init_44 : decode cX8_init 44 = .ok (.invokespecial 33, 3) := by decide +kernel
theorem dX8_init_47 : decode cX8_init 47 = .ok (.putfield 34, 3) := by decide +kernel
theorem dX8_init_50 : decode cX8_init 50 = .ok (.aload_n 0, 1) := by decide +kernel
theorem dX8_init_51 : decode cX8_init 51 = .ok (.new 17, 3) := by decide +kernel
theorem dX8_init_54 : decode cX8_init 54 = .ok (.dup, 1) := by decide +kernel
theorem dX8_init_55 : decode cX8_init 55 = .ok (.invokespecial 19, 3) := by decide +kernel
theorem dX8_init_58 : decode cX8_init 58 = .ok (.putfield 38, 3) := by decide +kernel
theorem dX8_init_61 : decode cX8_init 61 = .ok (.aload_n 0, 1) := by decide +kernel
theorem dX8_init_62 : decode cX8_init 62 = .ok (.new 24, 3) := by decide +kernel
theorem dX8_init_65 : decode cX8_init 65 = .ok (.dup, 1) := by decide +kernel
theorem dX8_init_66 : decode cX8_init 66 = .ok (.invokespecial 26, 3) := by decide +kernel
theorem dX8_init_69 : decode cX8_init 69 = .ok (.putfield 41, 3) := by decide +kernel
theorem dX8_init_72 : decode cX8_init 72 = .ok (.aload_n 0, 1) := by decide +kernel
theorem dX8_init_73 : decode cX8_init 73 = .ok (.new 17, 3) := by decide +kernel
theorem dX8_init_76 : decode cX8_init 76 = .ok (.dup, 1) := by decide +kernel
theorem dX8_init_77 : decode cX8_init 77 = .ok (.invokespecial 19, 3) := by decide +kernel
theorem dX8_init_80 : decode cX8_init 80 = .ok (.putfield 44, 3) := by decide +kernel
theorem dX8_init_83 : decode cX8_init 83 = .ok (.aload_n 0, 1) := by decide +kernel
theorem dX8_init_84 : decode cX8_init 84 = .ok (.new 47, 3) := by decide +kernel
theorem dX8_init_87 : decode cX8_init 87 = .ok (.dup, 1) := by decide +kernel
theorem dX8_init_88 : decode cX8_init 88 = .ok (.invokespecial 49, 3) := by decide +kernel
theorem dX8_init_91 : decode cX8_init 91 = .ok (.putfield 50, 3) := by decide +kernel
theorem dX8_init_94 : decode cX8_init 94 = .ok (.aload_n 0, 1) := by decide +kernel
theorem dX8_init_95 : decode cX8_init 95 = .ok (.new 54, 3) := by decide +kernel
theorem dX8_init_98 : decode cX8_init 98 = .ok (.dup, 1) := by decide +kernel
theorem dX8_init_99 : decode cX8_init 99 = .ok (.invokespecial 56, 3) := by decide +kernel
theorem dX8_init_102 : decode cX8_init 102 = .ok (.putfield 57, 3) := by decide +kernel
theorem dX8_init_105 : decode cX8_init 105 = .ok (.aload_n 0, 1) := by decide +kernel
theorem dX8_init_106 : decode cX8_init 106 = .ok (.new 54, 3) := by decide +kernel
theorem dX8_init_109 : decode cX8_init 109 = .ok (.dup, 1) := by decide +kernel
theorem dX8_init_110 : decode cX8_init 110 = .ok (.invokespecial 56, 3) := by decide +kernel
theorem dX8_init_113 : decode cX8_init 113 = .ok (.putfield 61, 3) := by decide +kernel
theorem dX8_init_116 : decode cX8_init 116 = .ok (.return_, 1) := by decide +kernel
theorem dX8_append_0 : decode cX8_append 0 = .ok (.iload_n 1, 1) := by decide +kernel
theorem dX8_append_1 : decode cX8_append 1 = .ok (.bipush 32, 2) := by decide +kernel
theorem dX8_append_3 : decode cX8_append 3 = .ok (.if_icmp .lt 9, 3) := by decide +kernel
theorem dX8_append_6 : decode cX8_append 6 = .ok (.iload_n 1, 1) := by decide +kernel
theorem dX8_append_7 : decode cX8_append 7 = .ok (.bipush 126, 2) := by decide +kernel
theorem dX8_append_9 : decode cX8_append 9 = .ok (.if_icmp .le 13, 3) := by decide +kernel
theorem dX8_append_12 : decode cX8_append 12 = .ok (.new 64, 3) := by decide +kernel
theorem dX8_append_15 : decode cX8_append 15 = .ok (.dup, 1) := by decide +kernel
theorem dX8_append_16 : decode cX8_append 16 = .ok (.ldc 66, 2) := by decide +kernel
theorem dX8_append_18 : decode cX8_append 18 = .ok (.invokespecial 68, 3) := by decide +kernel
theorem dX8_append_21 : decode cX8_append 21 = .ok (.athrow, 1) := by decide +kernel
theorem dX8_append_22 : decode cX8_append 22 = .ok (.aload_n 0, 1) := by decide +kernel
theorem dX8_append_23 : decode cX8_append 23 = .ok (.getfield 71, 3) := by decide +kernel
theorem dX8_append_26 : decode cX8_append 26 = .ok (.aload_n 0, 1) := by decide +kernel
theorem dX8_append_27 : decode cX8_append 27 = .ok (.getfield 9, 3) := by decide +kernel
theorem dX8_append_30 : decode cX8_append 30 = .ok (.arraylength, 1) := by decide +kernel
theorem dX8_append_31 : decode cX8_append 31 = .ok (.if_icmp .lt 13, 3) := by decide +kernel
theorem dX8_append_34 : decode cX8_append 34 = .ok (.new 74, 3) := by decide +kernel
theorem dX8_append_37 : decode cX8_append 37 = .ok (.dup, 1) := by decide +kernel
theorem dX8_append_38 : decode cX8_append 38 = .ok (.ldc 76, 2) := by decide +kernel
theorem dX8_append_40 : decode cX8_append 40 = .ok (.invokespecial 78, 3) := by decide +kernel
theorem dX8_append_43 : decode cX8_append 43 = .ok (.athrow, 1) := by decide +kernel
theorem dX8_append_44 : decode cX8_append 44 = .ok (.aload_n 0, 1) := by decide +kernel
theorem dX8_append_45 : decode cX8_append 45 = .ok (.getfield 9, 3) := by decide +kernel
theorem dX8_append_48 : decode cX8_append 48 = .ok (.aload_n 0, 1) := by decide +kernel
theorem dX8_append_49 : decode cX8_append 49 = .ok (.getfield 71, 3) := by decide +kernel
theorem dX8_append_52 : decode cX8_append 52 = .ok (.iload_n 1, 1) := by decide +kernel
theorem dX8_append_53 : decode cX8_append 53 = .ok (.castore, 1) := by decide +kernel
theorem dX8_append_54 : decode cX8_append 54 = .ok (.aload_n 0, 1) := by decide +kernel
theorem dX8_append_55 : decode cX8_append 55 = .ok (.dup, 1) := by decide +kernel
theorem dX8_append_56 : decode cX8_append 56 = .ok (.getfield 71, 3) := by decide +kernel
theorem dX8_append_59 : decode cX8_append 59 = .ok (.iconst 1, 1) := by decide +kernel
theorem dX8_append_60 : decode cX8_append 60 = .ok (.iadd, 1) := by decide +kernel
theorem dX8_append_61 : decode cX8_append 61 = .ok (.putfield 71, 3) := by decide +kernel
theorem dX8_append_64 : decode cX8_append 64 = .ok (.aload_n 0, 1) := by decide +kernel
theorem dX8_append_65 : decode cX8_append 65 = .ok (.getfield 71, 3) := by decide +kernel
theorem dX8_append_68 : decode cX8_append 68 = .ok (.ireturn, 1) := by decide +kernel
theorem dX8_countColumns_0 : decode cX8_countColumns 0 = .ok (.iconst 0, 1) := by decide +kernel
theorem dX8_countColumns_1 : decode cX8_countColumns 1 = .ok (.istore_n 2, 1) := by decide +kernel
theorem dX8_countColumns_2 : decode cX8_countColumns 2 = .ok (.iload_n 2, 1) := by decide +kernel
theorem dX8_countColumns_3 : decode cX8_countColumns 3 = .ok (.iload_n 1, 1) := by decide +kernel
theorem dX8_countColumns_4 : decode cX8_countColumns 4 = .ok (.if_icmp .ge 23, 3) := by decide +kernel
theorem dX8_countColumns_7 : decode cX8_countColumns 7 = .ok (.iload_n 2, 1) := by decide +kernel
theorem dX8_countColumns_8 : decode cX8_countColumns 8 = .ok (.aload_n 0, 1) := by decide +kernel
theorem dX8_countColumns_9 : decode cX8_countColumns 9 = .ok (.arraylength, 1) := by decide +kernel
theorem dX8_countColumns_10 : decode cX8_countColumns 10 = .ok (.if_icmp .ge 17, 3) := by decide +kernel
theorem dX8_countColumns_13 : decode cX8_countColumns 13 = .ok (.aload_n 0, 1) := by decide +kernel
theorem dX8_countColumns_14 : decode cX8_countColumns 14 = .ok (.iload_n 2, 1) := by decide +kernel
theorem dX8_countColumns_15 : decode cX8_countColumns 15 = .ok (.caload, 1) := by decide +kernel
theorem dX8_countColumns_16 : decode cX8_countColumns 16 = .ok (.bipush 47, 2) := by decide +kernel
theorem dX8_countColumns_18 : decode cX8_countColumns 18 = .ok (.if_icmp .eq 9, 3) := by decide +kernel
theorem dX8_countColumns_21 : decode cX8_countColumns 21 = .ok (.iinc 2 1, 3) := by decide +kernel
theorem dX8_countColumns_24 : decode cX8_countColumns 24 = .ok (.goto (-22), 3) := by decide +kernel
theorem dX8_countColumns_27 : decode cX8_countColumns 27 = .ok (.iload_n 2, 1) := by decide +kernel
theorem dX8_countColumns_28 : decode cX8_countColumns 28 = .ok (.ireturn, 1) := by decide +kernel
theorem dX8_findError_0 : decode cX8_findError 0 = .ok (.iconst (-1), 1) := by decide +kernel
theorem dX8_findError_1 : decode cX8_findError 1 = .ok (.istore_n 2, 1) := by decide +kernel
theorem dX8_findError_2 : decode cX8_findError 2 = .ok (.iconst 0, 1) := by decide +kernel
theorem dX8_findError_3 : decode cX8_findError 3 = .ok (.istore_n 3, 1) := by decide +kernel
theorem dX8_findError_4 : decode cX8_findError 4 = .ok (.iconst 0, 1) := by decide +kernel
theorem dX8_findError_5 : decode cX8_findError 5 = .ok (.istore 4, 2) := by decide +kernel
theorem dX8_findError_7 : decode cX8_findError 7 = .ok (.iload 4, 2) := by decide +kernel
theorem dX8_findError_9 : decode cX8_findError 9 = .ok (.iload_n 1, 1) := by decide +kernel
theorem dX8_findError_10 : decode cX8_findError 10 = .ok (.if_icmp .ge 71, 3) := by decide +kernel
theorem dX8_findError_13 : decode cX8_findError 13 = .ok (.iload 4, 2) := by decide +kernel
theorem dX8_findError_15 : decode cX8_findError 15 = .ok (.aload_n 0, 1) := by decide +kernel
theorem dX8_findError_16 : decode cX8_findError 16 = .ok (.arraylength, 1) := by decide +kernel
theorem dX8_findError_17 : decode cX8_findError 17 = .ok (.if_icmp .ge 64, 3) := by decide +kernel
theorem dX8_findError_20 : decode cX8_findError 20 = .ok (.aload_n 0, 1) := by decide +kernel
theorem dX8_findError_21 : decode cX8_findError 21 = .ok (.iload 4, 2) := by decide +kernel
theorem dX8_findError_23 : decode cX8_findError 23 = .ok (.caload, 1) := by decide +kernel
theorem dX8_findError_24 : decode cX8_findError 24 = .ok (.bipush 47, 2) := by decide +kernel
theorem dX8_findError_26 : decode cX8_findError 26 = .ok (.if_icmp .ne 26, 3) := by decide +kernel
theorem dX8_findError_29 : decode cX8_findError 29 = .ok (.iload_n 3, 1) := by decide +kernel
theorem dX8_findError_30 : decode cX8_findError 30 = .ok (.ifCond .eq 12, 3) := by decide +kernel
theorem dX8_findError_33 : decode cX8_findError 33 = .ok (.iload_n 2, 1) := by decide +kernel
theorem dX8_findError_34 : decode cX8_findError 34 = .ok (.ifCond .lt 11, 3) := by decide +kernel
theorem dX8_findError_37 : decode cX8_findError 37 = .ok (.iload_n 3, 1) := by decide +kernel
theorem dX8_findError_38 : decode cX8_findError 38 = .ok (.iload_n 2, 1) := by decide +kernel
theorem dX8_findError_39 : decode cX8_findError 39 = .ok (.if_icmp .eq 6, 3) := by decide +kernel
theorem dX8_findError_42 : decode cX8_findError 42 = .ok (.iload 4, 2) := by decide +kernel
theorem dX8_findError_44 : decode cX8_findError 44 = .ok (.ireturn, 1) := by decide +kernel
theorem dX8_findError_45 : decode cX8_findError 45 = .ok (.iload_n 3, 1) := by decide +kernel
theorem dX8_findError_46 : decode cX8_findError 46 = .ok (.istore_n 2, 1) := by decide +kernel
theorem dX8_findError_47 : decode cX8_findError 47 = .ok (.iconst 0, 1) := by decide +kernel
theorem dX8_findError_48 : decode cX8_findError 48 = .ok (.istore_n 3, 1) := by decide +kernel
theorem dX8_findError_49 : decode cX8_findError 49 = .ok (.goto 26, 3) := by decide +kernel
theorem dX8_findError_52 : decode cX8_findError 52 = .ok (.ldc 137, 2) := by decide +kernel
theorem dX8_findError_54 : decode cX8_findError 54 = .ok (.aload_n 0, 1) := by decide +kernel
theorem dX8_findError_55 : decode cX8_findError 55 = .ok (.iload 4, 2) := by decide +kernel
theorem dX8_findError_57 : decode cX8_findError 57 = .ok (.caload, 1) := by decide +kernel
theorem dX8_findError_58 : decode cX8_findError 58 = .ok (.invokevirtual 480, 3) := by decide +kernel
theorem dX8_findError_61 : decode cX8_findError 61 = .ok (.ifCond .lt 8, 3) := by decide +kernel
theorem dX8_findError_64 : decode cX8_findError 64 = .ok (.iload_n 3, 1) := by decide +kernel
theorem dX8_findError_65 : decode cX8_findError 65 = .ok (.iload_n 2, 1) := by decide +kernel
theorem dX8_findError_66 : decode cX8_findError 66 = .ok (.if_icmp .ne 6, 3) := by decide +kernel
theorem dX8_findError_69 : decode cX8_findError 69 = .ok (.iload 4, 2) := by decide +kernel
theorem dX8_findError_71 : decode cX8_findError 71 = .ok (.ireturn, 1) := by decide +kernel
theorem dX8_findError_72 : decode cX8_findError 72 = .ok (.iinc 3 1, 3) := by decide +kernel
theorem dX8_findError_75 : decode cX8_findError 75 = .ok (.iinc 4 1, 3) := by decide +kernel
theorem dX8_findError_78 : decode cX8_findError 78 = .ok (.goto (-71), 3) := by decide +kernel
theorem dX8_findError_81 : decode cX8_findError 81 = .ok (.iload_n 3, 1) := by decide +kernel
theorem dX8_findError_82 : decode cX8_findError 82 = .ok (.ifCond .eq 12, 3) := by decide +kernel
theorem dX8_findError_85 : decode cX8_findError 85 = .ok (.iload_n 2, 1) := by decide +kernel
theorem dX8_findError_86 : decode cX8_findError 86 = .ok (.ifCond .lt 12, 3) := by decide +kernel
theorem dX8_findError_89 : decode cX8_findError 89 = .ok (.iload_n 3, 1) := by decide +kernel
theorem dX8_findError_90 : decode cX8_findError 90 = .ok (.iload_n 2, 1) := by decide +kernel
theorem dX8_findError_91 : decode cX8_findError 91 = .ok (.if_icmp .eq 7, 3) := by decide +kernel
theorem dX8_findError_94 : decode cX8_findError 94 = .ok (.iload_n 1, 1) := by decide +kernel
theorem dX8_findError_95 : decode cX8_findError 95 = .ok (.goto 4, 3) := by decide +kernel
theorem dX8_findError_98 : decode cX8_findError 98 = .ok (.iconst (-1), 1) := by decide +kernel
theorem dX8_findError_99 : decode cX8_findError 99 = .ok (.ireturn, 1) := by decide +kernel
theorem dX8_isSide_0 : decode cX8_isSide 0 = .ok (.iload_n 0, 1) := by decide +kernel
theorem dX8_isSide_1 : decode cX8_isSide 1 = .ok (.iconst 3, 1) := by decide +kernel
theorem dX8_isSide_2 : decode cX8_isSide 2 = .ok (.if_icmp .lt 13, 3) := by decide +kernel
theorem dX8_isSide_5 : decode cX8_isSide 5 = .ok (.iload_n 0, 1) := by decide +kernel
theorem dX8_isSide_6 : decode cX8_isSide 6 = .ok (.bipush 8, 2) := by decide +kernel
theorem dX8_isSide_8 : decode cX8_isSide 8 = .ok (.if_icmp .gt 7, 3) := by decide +kernel
theorem dX8_isSide_11 : decode cX8_isSide 11 = .ok (.iconst 1, 1) := by decide +kernel
theorem dX8_isSide_12 : decode cX8_isSide 12 = .ok (.goto 4, 3) := by decide +kernel
theorem dX8_isSide_15 : decode cX8_isSide 15 = .ok (.iconst 0, 1) := by decide +kernel
theorem dX8_isSide_16 : decode cX8_isSide 16 = .ok (.ireturn, 1) := by decide +kernel
theorem dX8_load_0 : decode cX8_load 0 = .ok (.aload_n 0, 1) := by decide +kernel
theorem dX8_load_1 : decode cX8_load 1 = .ok (.getfield 71, 3) := by decide +kernel
theorem dX8_load_4 : decode cX8_load 4 = .ok (.istore_n 2, 1) := by decide +kernel
theorem dX8_load_5 : decode cX8_load 5 = .ok (.aload_n 0, 1) := by decide +kernel
theorem dX8_load_6 : decode cX8_load 6 = .ok (.iconst 0, 1) := by decide +kernel
theorem dX8_load_7 : decode cX8_load 7 = .ok (.putfield 71, 3) := by decide +kernel
theorem dX8_load_10 : decode cX8_load 10 = .ok (.aload_n 0, 1) := by decide +kernel
theorem dX8_load_11 : decode cX8_load 11 = .ok (.getfield 9, 3) := by decide +kernel
theorem dX8_load_14 : decode cX8_load 14 = .ok (.iload_n 2, 1) := by decide +kernel
theorem dX8_load_15 : decode cX8_load 15 = .ok (.invokestatic 79, 3) := by decide +kernel
theorem dX8_load_18 : decode cX8_load 18 = .ok (.istore_n 3, 1) := by decide +kernel
theorem dX8_load_19 : decode cX8_load 19 = .ok (.iload_n 3, 1) := by decide +kernel
theorem dX8_load_20 : decode cX8_load 20 = .ok (.ifCond .lt 18, 3) := by decide +kernel
theorem dX8_load_23 : decode cX8_load 23 = .ok (.aload_n 0, 1) := by decide +kernel
theorem dX8_load_24 : decode cX8_load 24 = .ok (.iload_n 3, 1) := by decide +kernel
theorem dX8_load_25 : decode cX8_load 25 = .ok (.putfield 13, 3) := by decide +kernel
theorem dX8_load_28 : decode cX8_load 28 = .ok (.new 64, 3) := by decide +kernel
theorem dX8_load_31 : decode cX8_load 31 = .ok (.dup, 1) := by decide +kernel
theorem dX8_load_32 : decode cX8_load 32 = .ok (.ldc 83, 2) := by decide +kernel
theorem dX8_load_34 : decode cX8_load 34 = .ok (.invokespecial 68, 3) := by decide +kernel
theorem dX8_load_37 : decode cX8_load 37 = .ok (.athrow, 1) := by decide +kernel
theorem dX8_load_38 : decode cX8_load 38 = .ok (.aload_n 0, 1) := by decide +kernel
theorem dX8_load_39 : decode cX8_load 39 = .ok (.getfield 9, 3) := by decide +kernel
theorem dX8_load_42 : decode cX8_load 42 = .ok (.iload_n 2, 1) := by decide +kernel
theorem dX8_load_43 : decode cX8_load 43 = .ok (.invokestatic 85, 3) := by decide +kernel
theorem dX8_load_46 : decode cX8_load 46 = .ok (.istore 4, 2) := by decide +kernel
theorem dX8_load_48 : decode cX8_load 48 = .ok (.iload_n 2, 1) := by decide +kernel
theorem dX8_load_49 : decode cX8_load 49 = .ok (.iconst 1, 1) := by decide +kernel
theorem dX8_load_50 : decode cX8_load 50 = .ok (.iadd, 1) := by decide +kernel
theorem dX8_load_51 : decode cX8_load 51 = .ok (.iload 4, 2) := by decide +kernel
theorem dX8_load_53 : decode cX8_load 53 = .ok (.iconst 1, 1) := by decide +kernel
theorem dX8_load_54 : decode cX8_load 54 = .ok (.iadd, 1) := by decide +kernel
theorem dX8_load_55 : decode cX8_load 55 = .ok (.idiv, 1) := by decide +kernel
theorem dX8_load_56 : decode cX8_load 56 = .ok (.istore 5, 2) := by decide +kernel
theorem dX8_load_58 : decode cX8_load 58 = .ok (.iload 5, 2) := by decide +kernel
theorem dX8_load_60 : decode cX8_load 60 = .ok (.invokestatic 88, 3) := by decide +kernel
theorem dX8_load_63 : decode cX8_load 63 = .ok (.ifCond .eq 11, 3) := by decide +kernel
theorem dX8_load_66 : decode cX8_load 66 = .ok (.iload 4, 2) := by decide +kernel
theorem dX8_load_68 : decode cX8_load 68 = .ok (.invokestatic 88, 3) := by decide +kernel
theorem dX8_load_71 : decode cX8_load 71 = .ok (.ifCond .ne 13, 3) := by decide +kernel
theorem dX8_load_74 : decode cX8_load 74 = .ok (.new 92, 3) := by decide +kernel
theorem dX8_load_77 : decode cX8_load 77 = .ok (.dup, 1) := by decide +kernel
theorem dX8_load_78 : decode cX8_load 78 = .ok (.ldc 94, 2) := by decide +kernel
theorem dX8_load_80 : decode cX8_load 80 = .ok (.invokespecial 96, 3) := by decide +kernel
theorem dX8_load_83 : decode cX8_load 83 = .ok (.athrow, 1) := by decide +kernel
theorem dX8_load_84 : decode cX8_load 84 = .ok (.aload_n 0, 1) := by decide +kernel
theorem dX8_load_85 : decode cX8_load 85 = .ok (.getfield 20, 3) := by decide +kernel
theorem dX8_load_88 : decode cX8_load 88 = .ok (.iload_n 1, 1) := by decide +kernel
theorem dX8_load_89 : decode cX8_load 89 = .ok (.invokevirtual 97, 3) := by decide +kernel
theorem dX8_load_92 : decode cX8_load 92 = .ok (.aload_n 0, 1) := by decide +kernel
theorem dX8_load_93 : decode cX8_load 93 = .ok (.getfield 20, 3) := by decide +kernel
theorem dX8_load_96 : decode cX8_load 96 = .ok (.getfield 101, 3) := by decide +kernel
theorem dX8_load_99 : decode cX8_load 99 = .ok (.aload_n 0, 1) := by decide +kernel
theorem dX8_load_100 : decode cX8_load 100 = .ok (.getfield 9, 3) := by decide +kernel
theorem dX8_load_103 : decode cX8_load 103 = .ok (.iload_n 2, 1) := by decide +kernel
theorem dX8_load_104 : decode cX8_load 104 = .ok (.iload 5, 2) := by decide +kernel
theorem dX8_load_106 : decode cX8_load 106 = .ok (.iload 4, 2) := by decide +kernel
theorem dX8_load_108 : decode cX8_load 108 = .ok (.invokevirtual 105, 3) := by decide +kernel
theorem dX8_load_111 : decode cX8_load 111 = .ok (.aload_n 0, 1) := by decide +kernel
theorem dX8_load_112 : decode cX8_load 112 = .ok (.getfield 27, 3) := by decide +kernel
theorem dX8_load_115 : decode cX8_load 115 = .ok (.iconst 0, 1) := by decide +kernel
theorem dX8_load_116 : decode cX8_load 116 = .ok (.putfield 111, 3) := by decide +kernel
theorem dX8_load_119 : decode cX8_load 119 = .ok (.aload_n 0, 1) := by decide +kernel
theorem dX8_load_120 : decode cX8_load 120 = .ok (.getfield 34, 3) := by decide +kernel
theorem dX8_load_123 : decode cX8_load 123 = .ok (.invokevirtual 114, 3) := by decide +kernel
theorem dX8_load_126 : decode cX8_load 126 = .ok (.bipush 10, 2) := by decide +kernel
theorem dX8_load_128 : decode cX8_load 128 = .ok (.iload 5, 2) := by decide +kernel
theorem dX8_load_130 : decode cX8_load 130 = .ok (.imul, 1) := by decide +kernel
theorem dX8_load_131 : decode cX8_load 131 = .ok (.iload 4, 2) := by decide +kernel
theorem dX8_load_133 : decode cX8_load 133 = .ok (.iadd, 1) := by decide +kernel
theorem dX8_load_134 : decode cX8_load 134 = .ok (.ireturn, 1) := by decide +kernel
theorem dX8_errorPosition_0 : decode cX8_errorPosition 0 = .ok (.aload_n 0, 1) := by decide +kernel
theorem dX8_errorPosition_1 : decode cX8_errorPosition 1 = .ok (.getfield 13, 3) := by decide +kernel
theorem dX8_errorPosition_4 : decode cX8_errorPosition 4 = .ok (.ifCond .ge 13, 3) := by decide +kernel
theorem dX8_errorPosition_7 : decode cX8_errorPosition 7 = .ok (.new 117, 3) := by decide +kernel
theorem dX8_errorPosition_10 : decode cX8_errorPosition 10 = .ok (.dup, 1) := by decide +kernel
theorem dX8_errorPosition_11 : decode cX8_errorPosition 11 = .ok (.ldc 119, 2) := by decide +kernel
theorem dX8_errorPosition_13 : decode cX8_errorPosition 13 = .ok (.invokespecial 121, 3) := by decide +kernel
theorem dX8_errorPosition_16 : decode cX8_errorPosition 16 = .ok (.athrow, 1) := by decide +kernel
theorem dX8_errorPosition_17 : decode cX8_errorPosition 17 = .ok (.aload_n 0, 1) := by decide +kernel
theorem dX8_errorPosition_18 : decode cX8_errorPosition 18 = .ok (.getfield 13, 3) := by decide +kernel
theorem dX8_errorPosition_21 : decode cX8_errorPosition 21 = .ok (.ireturn, 1) := by decide +kernel
theorem dX8_terrain_0 : decode cX8_terrain 0 = .ok (.aload_n 0, 1) := by decide +kernel
theorem dX8_terrain_1 : decode cX8_terrain 1 = .ok (.getfield 20, 3) := by decide +kernel
theorem dX8_terrain_4 : decode cX8_terrain 4 = .ok (.getfield 101, 3) := by decide +kernel
theorem dX8_terrain_7 : decode cX8_terrain 7 = .ok (.astore_n 3, 1) := by decide +kernel
theorem dX8_terrain_8 : decode cX8_terrain 8 = .ok (.iload_n 1, 1) := by decide +kernel
theorem dX8_terrain_9 : decode cX8_terrain 9 = .ok (.ifCond .lt 23, 3) := by decide +kernel
theorem dX8_terrain_12 : decode cX8_terrain 12 = .ok (.iload_n 1, 1) := by decide +kernel
theorem dX8_terrain_13 : decode cX8_terrain 13 = .ok (.aload_n 3, 1) := by decide +kernel
theorem dX8_terrain_14 : decode cX8_terrain 14 = .ok (.getfield 122, 3) := by decide +kernel
theorem dX8_terrain_17 : decode cX8_terrain 17 = .ok (.if_icmp .ge 15, 3) := by decide +kernel
theorem dX8_terrain_20 : decode cX8_terrain 20 = .ok (.iload_n 2, 1) := by decide +kernel
theorem dX8_terrain_21 : decode cX8_terrain 21 = .ok (.ifCond .lt 11, 3) := by decide +kernel
theorem dX8_terrain_24 : decode cX8_terrain 24 = .ok (.iload_n 2, 1) := by decide +kernel
theorem dX8_terrain_25 : decode cX8_terrain 25 = .ok (.aload_n 3, 1) := by decide +kernel
theorem dX8_terrain_26 : decode cX8_terrain 26 = .ok (.getfield 125, 3) := by decide +kernel
theorem dX8_terrain_29 : decode cX8_terrain 29 = .ok (.if_icmp .lt 13, 3) := by decide +kernel
theorem dX8_terrain_32 : decode cX8_terrain 32 = .ok (.new 128, 3) := by decide +kernel
theorem dX8_terrain_35 : decode cX8_terrain 35 = .ok (.dup, 1) := by decide +kernel
theorem dX8_terrain_36 : decode cX8_terrain 36 = .ok (.ldc 130, 2) := by decide +kernel
theorem dX8_terrain_38 : decode cX8_terrain 38 = .ok (.invokespecial 132, 3) := by decide +kernel
theorem dX8_terrain_41 : decode cX8_terrain 41 = .ok (.athrow, 1) := by decide +kernel
theorem dX8_terrain_42 : decode cX8_terrain 42 = .ok (.aload_n 3, 1) := by decide +kernel
theorem dX8_terrain_43 : decode cX8_terrain 43 = .ok (.iload_n 1, 1) := by decide +kernel
theorem dX8_terrain_44 : decode cX8_terrain 44 = .ok (.aload_n 3, 1) := by decide +kernel
theorem dX8_terrain_45 : decode cX8_terrain 45 = .ok (.getfield 125, 3) := by decide +kernel
theorem dX8_terrain_48 : decode cX8_terrain 48 = .ok (.imul, 1) := by decide +kernel
theorem dX8_terrain_49 : decode cX8_terrain 49 = .ok (.iload_n 2, 1) := by decide +kernel
theorem dX8_terrain_50 : decode cX8_terrain 50 = .ok (.iadd, 1) := by decide +kernel
theorem dX8_terrain_51 : decode cX8_terrain 51 = .ok (.invokevirtual 133, 3) := by decide +kernel
theorem dX8_terrain_54 : decode cX8_terrain 54 = .ok (.istore 4, 2) := by decide +kernel
theorem dX8_terrain_56 : decode cX8_terrain 56 = .ok (.iload 4, 2) := by decide +kernel
theorem dX8_terrain_58 : decode cX8_terrain 58 = .ok (.ifCond .lt 23, 3) := by decide +kernel
theorem dX8_terrain_61 : decode cX8_terrain 61 = .ok (.iload 4, 2) := by decide +kernel
theorem dX8_terrain_63 : decode cX8_terrain 63 = .ok (.ldc 137, 2) := by decide +kernel
theorem dX8_terrain_65 : decode cX8_terrain 65 = .ok (.invokevirtual 139, 3) := by decide +kernel
theorem dX8_terrain_68 : decode cX8_terrain 68 = .ok (.if_icmp .ge 13, 3) := by decide +kernel
theorem dX8_terrain_71 : decode cX8_terrain 71 = .ok (.ldc 137, 2) := by decide +kernel
theorem dX8_terrain_73 : decode cX8_terrain 73 = .ok (.iload 4, 2) := by decide +kernel
theorem dX8_terrain_75 : decode cX8_terrain 75 = .ok (.invokevirtual 145, 3) := by decide +kernel
theorem dX8_terrain_78 : decode cX8_terrain 78 = .ok (.goto 5, 3) := by decide +kernel
theorem dX8_terrain_81 : decode cX8_terrain 81 = .ok (.bipush 46, 2) := by decide +kernel
theorem dX8_terrain_83 : decode cX8_terrain 83 = .ok (.ireturn, 1) := by decide +kernel
theorem dX8_requireCell_0 : decode cX8_requireCell 0 = .ok (.aload_n 0, 1) := by decide +kernel
theorem dX8_requireCell_1 : decode cX8_requireCell 1 = .ok (.getfield 20, 3) := by decide +kernel
theorem dX8_requireCell_4 : decode cX8_requireCell 4 = .ok (.getfield 101, 3) := by decide +kernel
theorem dX8_requireCell_7 : decode cX8_requireCell 7 = .ok (.iload_n 1, 1) := by decide +kernel
theorem dX8_requireCell_8 : decode cX8_requireCell 8 = .ok (.invokevirtual 449, 3) := by decide +kernel
theorem dX8_requireCell_11 : decode cX8_requireCell 11 = .ok (.ifCond .ne 13, 3) := by decide +kernel
theorem dX8_requireCell_14 : decode cX8_requireCell 14 = .ok (.new 128, 3) := by decide +kernel
theorem dX8_requireCell_17 : decode cX8_requireCell 17 = .ok (.dup, 1) := by decide +kernel
theorem dX8_requireCell_18 : decode cX8_requireCell 18 = .ok (.ldc 130, 2) := by decide +kernel
theorem dX8_requireCell_20 : decode cX8_requireCell 20 = .ok (.invokespecial 132, 3) := by decide +kernel
theorem dX8_requireCell_23 : decode cX8_requireCell 23 = .ok (.athrow, 1) := by decide +kernel
theorem dX8_requireCell_24 : decode cX8_requireCell 24 = .ok (.return_, 1) := by decide +kernel
theorem dX8_isSeen_0 : decode cX8_isSeen 0 = .ok (.aload_n 0, 1) := by decide +kernel
theorem dX8_isSeen_1 : decode cX8_isSeen 1 = .ok (.iload_n 1, 1) := by decide +kernel
theorem dX8_isSeen_2 : decode cX8_isSeen 2 = .ok (.invokevirtual 149, 3) := by decide +kernel
theorem dX8_isSeen_5 : decode cX8_isSeen 5 = .ok (.aload_n 0, 1) := by decide +kernel
theorem dX8_isSeen_6 : decode cX8_isSeen 6 = .ok (.iload_n 2, 1) := by decide +kernel
theorem dX8_isSeen_7 : decode cX8_isSeen 7 = .ok (.invokevirtual 149, 3) := by decide +kernel
theorem dX8_isSeen_10 : decode cX8_isSeen 10 = .ok (.aload_n 0, 1) := by decide +kernel
theorem dX8_isSeen_11 : decode cX8_isSeen 11 = .ok (.getfield 20, 3) := by decide +kernel
theorem dX8_isSeen_14 : decode cX8_isSeen 14 = .ok (.getfield 101, 3) := by decide +kernel
theorem dX8_isSeen_17 : decode cX8_isSeen 17 = .ok (.iload_n 1, 1) := by decide +kernel
theorem dX8_isSeen_18 : decode cX8_isSeen 18 = .ok (.iload_n 2, 1) := by decide +kernel
theorem dX8_isSeen_19 : decode cX8_isSeen 19 = .ok (.invokevirtual 152, 3) := by decide +kernel
theorem dX8_isSeen_22 : decode cX8_isSeen 22 = .ok (.ireturn, 1) := by decide +kernel
theorem dX8_cover_0 : decode cX8_cover 0 = .ok (.aload_n 0, 1) := by decide +kernel
theorem dX8_cover_1 : decode cX8_cover 1 = .ok (.iload_n 1, 1) := by decide +kernel
theorem dX8_cover_2 : decode cX8_cover 2 = .ok (.invokevirtual 149, 3) := by decide +kernel
theorem dX8_cover_5 : decode cX8_cover 5 = .ok (.aload_n 0, 1) := by decide +kernel
theorem dX8_cover_6 : decode cX8_cover 6 = .ok (.iload_n 2, 1) := by decide +kernel
theorem dX8_cover_7 : decode cX8_cover 7 = .ok (.invokevirtual 149, 3) := by decide +kernel
theorem dX8_cover_10 : decode cX8_cover 10 = .ok (.aload_n 0, 1) := by decide +kernel
theorem dX8_cover_11 : decode cX8_cover 11 = .ok (.getfield 20, 3) := by decide +kernel
theorem dX8_cover_14 : decode cX8_cover 14 = .ok (.getfield 101, 3) := by decide +kernel
theorem dX8_cover_17 : decode cX8_cover 17 = .ok (.iload_n 1, 1) := by decide +kernel
theorem dX8_cover_18 : decode cX8_cover 18 = .ok (.iload_n 2, 1) := by decide +kernel
theorem dX8_cover_19 : decode cX8_cover 19 = .ok (.invokevirtual 156, 3) := by decide +kernel
theorem dX8_cover_22 : decode cX8_cover 22 = .ok (.ireturn, 1) := by decide +kernel
theorem dX8_requireTeam_0 : decode cX8_requireTeam 0 = .ok (.iload_n 0, 1) := by decide +kernel
theorem dX8_requireTeam_1 : decode cX8_requireTeam 1 = .ok (.ifCond .eq 19, 3) := by decide +kernel
theorem dX8_requireTeam_4 : decode cX8_requireTeam 4 = .ok (.iload_n 0, 1) := by decide +kernel
theorem dX8_requireTeam_5 : decode cX8_requireTeam 5 = .ok (.iconst 1, 1) := by decide +kernel
theorem dX8_requireTeam_6 : decode cX8_requireTeam 6 = .ok (.if_icmp .eq 14, 3) := by decide +kernel
theorem dX8_requireTeam_9 : decode cX8_requireTeam 9 = .ok (.new 128, 3) := by decide +kernel
theorem dX8_requireTeam_12 : decode cX8_requireTeam 12 = .ok (.dup, 1) := by decide +kernel
theorem dX8_requireTeam_13 : decode cX8_requireTeam 13 = .ok (.ldc_w 452, 3) := by decide +kernel
theorem dX8_requireTeam_16 : decode cX8_requireTeam 16 = .ok (.invokespecial 132, 3) := by decide +kernel
theorem dX8_requireTeam_19 : decode cX8_requireTeam 19 = .ok (.athrow, 1) := by decide +kernel
theorem dX8_requireTeam_20 : decode cX8_requireTeam 20 = .ok (.return_, 1) := by decide +kernel
theorem dX8_addUnit_0 : decode cX8_addUnit 0 = .ok (.iload_n 1, 1) := by decide +kernel
theorem dX8_addUnit_1 : decode cX8_addUnit 1 = .ok (.invokestatic 160, 3) := by decide +kernel
theorem dX8_addUnit_4 : decode cX8_addUnit 4 = .ok (.iload_n 2, 1) := by decide +kernel
theorem dX8_addUnit_5 : decode cX8_addUnit 5 = .ok (.ifCond .lt 8, 3) := by decide +kernel
theorem dX8_addUnit_8 : decode cX8_addUnit 8 = .ok (.iload_n 2, 1) := by decide +kernel
theorem dX8_addUnit_9 : decode cX8_addUnit 9 = .ok (.iconst 4, 1) := by decide +kernel
theorem dX8_addUnit_10 : decode cX8_addUnit 10 = .ok (.if_icmp .lt 13, 3) := by decide +kernel
theorem dX8_addUnit_13 : decode cX8_addUnit 13 = .ok (.new 128, 3) := by decide +kernel
theorem dX8_addUnit_16 : decode cX8_addUnit 16 = .ok (.dup, 1) := by decide +kernel
theorem dX8_addUnit_17 : decode cX8_addUnit 17 = .ok (.ldc 163, 2) := by decide +kernel
theorem dX8_addUnit_19 : decode cX8_addUnit 19 = .ok (.invokespecial 132, 3) := by decide +kernel
theorem dX8_addUnit_22 : decode cX8_addUnit 22 = .ok (.athrow, 1) := by decide +kernel
theorem dX8_addUnit_23 : decode cX8_addUnit 23 = .ok (.aload_n 0, 1) := by decide +kernel
theorem dX8_addUnit_24 : decode cX8_addUnit 24 = .ok (.iload_n 3, 1) := by decide +kernel
theorem dX8_addUnit_25 : decode cX8_addUnit 25 = .ok (.invokevirtual 149, 3) := by decide +kernel
theorem dX8_addUnit_28 : decode cX8_addUnit 28 = .ok (.aload_n 0, 1) := by decide +kernel
theorem dX8_addUnit_29 : decode cX8_addUnit 29 = .ok (.getfield 20, 3) := by decide +kernel
theorem dX8_addUnit_32 : decode cX8_addUnit 32 = .ok (.getfield 101, 3) := by decide +kernel
theorem dX8_addUnit_35 : decode cX8_addUnit 35 = .ok (.iload_n 3, 1) := by decide +kernel
theorem dX8_addUnit_36 : decode cX8_addUnit 36 = .ok (.invokevirtual 133, 3) := by decide +kernel
theorem dX8_addUnit_39 : decode cX8_addUnit 39 = .ok (.iconst 1, 1) := by decide +kernel
theorem dX8_addUnit_40 : decode cX8_addUnit 40 = .ok (.if_icmp .eq 14, 3) := by decide +kernel
theorem dX8_addUnit_43 : decode cX8_addUnit 43 = .ok (.aload_n 0, 1) := by decide +kernel
theorem dX8_addUnit_44 : decode cX8_addUnit 44 = .ok (.getfield 20, 3) := by decide +kernel
theorem dX8_addUnit_47 : decode cX8_addUnit 47 = .ok (.iload_n 3, 1) := by decide +kernel
theorem dX8_addUnit_48 : decode cX8_addUnit 48 = .ok (.invokevirtual 165, 3) := by decide +kernel
theorem dX8_addUnit_51 : decode cX8_addUnit 51 = .ok (.ifCond .eq 13, 3) := by decide +kernel
theorem dX8_addUnit_54 : decode cX8_addUnit 54 = .ok (.new 64, 3) := by decide +kernel
theorem dX8_addUnit_57 : decode cX8_addUnit 57 = .ok (.dup, 1) := by decide +kernel
theorem dX8_addUnit_58 : decode cX8_addUnit 58 = .ok (.ldc 168, 2) := by decide +kernel
theorem dX8_addUnit_60 : decode cX8_addUnit 60 = .ok (.invokespecial 68, 3) := by decide +kernel
theorem dX8_addUnit_63 : decode cX8_addUnit 63 = .ok (.athrow, 1) := by decide +kernel
theorem dX8_addUnit_64 : decode cX8_addUnit 64 = .ok (.aload_n 0, 1) := by decide +kernel
theorem dX8_addUnit_65 : decode cX8_addUnit 65 = .ok (.getfield 20, 3) := by decide +kernel
theorem dX8_addUnit_68 : decode cX8_addUnit 68 = .ok (.invokevirtual 170, 3) := by decide +kernel
theorem dX8_addUnit_71 : decode cX8_addUnit 71 = .ok (.ifCond .ne 15, 3) := by decide +kernel
theorem dX8_addUnit_74 : decode cX8_addUnit 74 = .ok (.aload_n 0, 1) := by decide +kernel
theorem dX8_addUnit_75 : decode cX8_addUnit 75 = .ok (.getfield 20, 3) := by decide +kernel
theorem dX8_addUnit_78 : decode cX8_addUnit 78 = .ok (.getfield 174, 3) := by decide +kernel
theorem dX8_addUnit_81 : decode cX8_addUnit 81 = .ok (.bipush 8, 2) := by decide +kernel
theorem dX8_addUnit_83 : decode cX8_addUnit 83 = .ok (.if_icmp .lt 13, 3) := by decide +kernel
theorem dX8_addUnit_86 : decode cX8_addUnit 86 = .ok (.new 74, 3) := by decide +kernel
theorem dX8_addUnit_89 : decode cX8_addUnit 89 = .ok (.dup, 1) := by decide +kernel
theorem dX8_addUnit_90 : decode cX8_addUnit 90 = .ok (.ldc 177, 2) := by decide +kernel
theorem dX8_addUnit_92 : decode cX8_addUnit 92 = .ok (.invokespecial 78, 3) := by decide +kernel
theorem dX8_addUnit_95 : decode cX8_addUnit 95 = .ok (.athrow, 1) := by decide +kernel
theorem dX8_addUnit_96 : decode cX8_addUnit 96 = .ok (.aload_n 0, 1) := by decide +kernel
theorem dX8_addUnit_97 : decode cX8_addUnit 97 = .ok (.getfield 20, 3) := by decide +kernel
theorem dX8_addUnit_100 : decode cX8_addUnit 100 = .ok (.iload_n 1, 1) := by decide +kernel
theorem dX8_addUnit_101 : decode cX8_addUnit 101 = .ok (.iload_n 2, 1) := by decide +kernel
theorem dX8_addUnit_102 : decode cX8_addUnit 102 = .ok (.iload_n 3, 1) := by decide +kernel
theorem dX8_addUnit_103 : decode cX8_addUnit 103 = .ok (.invokevirtual 179, 3) := by decide +kernel
theorem dX8_addUnit_106 : decode cX8_addUnit 106 = .ok (.ireturn, 1) := by decide +kernel
theorem dX8_unitCount_0 : decode cX8_unitCount 0 = .ok (.aload_n 0, 1) := by decide +kernel
theorem dX8_unitCount_1 : decode cX8_unitCount 1 = .ok (.getfield 20, 3) := by decide +kernel
theorem dX8_unitCount_4 : decode cX8_unitCount 4 = .ok (.getfield 174, 3) := by decide +kernel
theorem dX8_unitCount_7 : decode cX8_unitCount 7 = .ok (.ireturn, 1) := by decide +kernel
theorem dX8_requireUnit_0 : decode cX8_requireUnit 0 = .ok (.aload_n 0, 1) := by decide +kernel
theorem dX8_requireUnit_1 : decode cX8_requireUnit 1 = .ok (.getfield 20, 3) := by decide +kernel
theorem dX8_requireUnit_4 : decode cX8_requireUnit 4 = .ok (.iload_n 1, 1) := by decide +kernel
theorem dX8_requireUnit_5 : decode cX8_requireUnit 5 = .ok (.invokevirtual 454, 3) := by decide +kernel
theorem dX8_requireUnit_8 : decode cX8_requireUnit 8 = .ok (.astore_n 2, 1) := by decide +kernel
theorem dX8_requireUnit_9 : decode cX8_requireUnit 9 = .ok (.aload_n 2, 1) := by decide +kernel
theorem dX8_requireUnit_10 : decode cX8_requireUnit 10 = .ok (.ifnonnull 14, 3) := by decide +kernel
theorem dX8_requireUnit_13 : decode cX8_requireUnit 13 = .ok (.new 128, 3) := by decide +kernel
theorem dX8_requireUnit_16 : decode cX8_requireUnit 16 = .ok (.dup, 1) := by decide +kernel
theorem dX8_requireUnit_17 : decode cX8_requireUnit 17 = .ok (.ldc_w 457, 3) := by decide +kernel
theorem dX8_requireUnit_20 : decode cX8_requireUnit 20 = .ok (.invokespecial 132, 3) := by decide +kernel
theorem dX8_requireUnit_23 : decode cX8_requireUnit 23 = .ok (.athrow, 1) := by decide +kernel
theorem dX8_requireUnit_24 : decode cX8_requireUnit 24 = .ok (.aload_n 2, 1) := by decide +kernel
theorem dX8_requireUnit_25 : decode cX8_requireUnit 25 = .ok (.areturn, 1) := by decide +kernel
theorem dX8_unit_0 : decode cX8_unit 0 = .ok (.aload_n 0, 1) := by decide +kernel
theorem dX8_unit_1 : decode cX8_unit 1 = .ok (.iload_n 1, 1) := by decide +kernel
theorem dX8_unit_2 : decode cX8_unit 2 = .ok (.invokevirtual 183, 3) := by decide +kernel
theorem dX8_unit_5 : decode cX8_unit 5 = .ok (.astore_n 3, 1) := by decide +kernel
theorem dX8_unit_6 : decode cX8_unit 6 = .ok (.iload_n 2, 1) := by decide +kernel
theorem dX8_unit_7 : decode cX8_unit 7 = .ok (.tableswitch 155 0 11 #[61, 66, 71, 76, 81, 86, 91, 114, 119, 124, 129, 142], 61) := by decide +kernel
theorem dX8_unit_68 : decode cX8_unit 68 = .ok (.aload_n 3, 1) := by decide +kernel
theorem dX8_unit_69 : decode cX8_unit 69 = .ok (.getfield 187, 3) := by decide +kernel
theorem dX8_unit_72 : decode cX8_unit 72 = .ok (.ireturn, 1) := by decide +kernel
theorem dX8_unit_73 : decode cX8_unit 73 = .ok (.aload_n 3, 1) := by decide +kernel
theorem dX8_unit_74 : decode cX8_unit 74 = .ok (.getfield 192, 3) := by decide +kernel
theorem dX8_unit_77 : decode cX8_unit 77 = .ok (.ireturn, 1) := by decide +kernel
theorem dX8_unit_78 : decode cX8_unit 78 = .ok (.aload_n 3, 1) := by decide +kernel
theorem dX8_unit_79 : decode cX8_unit 79 = .ok (.getfield 195, 3) := by decide +kernel
theorem dX8_unit_82 : decode cX8_unit 82 = .ok (.ireturn, 1) := by decide +kernel
theorem dX8_unit_83 : decode cX8_unit 83 = .ok (.aload_n 3, 1) := by decide +kernel
theorem dX8_unit_84 : decode cX8_unit 84 = .ok (.getfield 198, 3) := by decide +kernel
theorem dX8_unit_87 : decode cX8_unit 87 = .ok (.ireturn, 1) := by decide +kernel
theorem dX8_unit_88 : decode cX8_unit 88 = .ok (.aload_n 3, 1) := by decide +kernel
theorem dX8_unit_89 : decode cX8_unit 89 = .ok (.getfield 201, 3) := by decide +kernel
theorem dX8_unit_92 : decode cX8_unit 92 = .ok (.ireturn, 1) := by decide +kernel
theorem dX8_unit_93 : decode cX8_unit 93 = .ok (.aload_n 3, 1) := by decide +kernel
theorem dX8_unit_94 : decode cX8_unit 94 = .ok (.getfield 204, 3) := by decide +kernel
theorem dX8_unit_97 : decode cX8_unit 97 = .ok (.ireturn, 1) := by decide +kernel
theorem dX8_unit_98 : decode cX8_unit 98 = .ok (.iload_n 1, 1) := by decide +kernel
theorem dX8_unit_99 : decode cX8_unit 99 = .ok (.aload_n 0, 1) := by decide +kernel
theorem dX8_unit_100 : decode cX8_unit 100 = .ok (.getfield 20, 3) := by decide +kernel
theorem dX8_unit_103 : decode cX8_unit 103 = .ok (.getfield 207, 3) := by decide +kernel
theorem dX8_unit_106 : decode cX8_unit 106 = .ok (.if_icmp .ne 13, 3) := by decide +kernel
theorem dX8_unit_109 : decode cX8_unit 109 = .ok (.aload_n 0, 1) := by decide +kernel
theorem dX8_unit_110 : decode cX8_unit 110 = .ok (.getfield 20, 3) := by decide +kernel
theorem dX8_unit_113 : decode cX8_unit 113 = .ok (.getfield 210, 3) := by decide +kernel
theorem dX8_unit_116 : decode cX8_unit 116 = .ok (.goto 4, 3) := by decide +kernel
theorem dX8_unit_119 : decode cX8_unit 119 = .ok (.iconst 0, 1) := by decide +kernel
theorem dX8_unit_120 : decode cX8_unit 120 = .ok (.ireturn, 1) := by decide +kernel
theorem dX8_unit_121 : decode cX8_unit 121 = .ok (.aload_n 3, 1) := by decide +kernel
theorem dX8_unit_122 : decode cX8_unit 122 = .ok (.getfield 213, 3) := by decide +kernel
theorem dX8_unit_125 : decode cX8_unit 125 = .ok (.ireturn, 1) := by decide +kernel
theorem dX8_unit_126 : decode cX8_unit 126 = .ok (.aload_n 3, 1) := by decide +kernel
theorem dX8_unit_127 : decode cX8_unit 127 = .ok (.getfield 216, 3) := by decide +kernel
theorem dX8_unit_130 : decode cX8_unit 130 = .ok (.ireturn, 1) := by decide +kernel
theorem dX8_unit_131 : decode cX8_unit 131 = .ok (.aload_n 3, 1) := by decide +kernel
theorem dX8_unit_132 : decode cX8_unit 132 = .ok (.getfield 219, 3) := by decide +kernel
theorem dX8_unit_135 : decode cX8_unit 135 = .ok (.ireturn, 1) := by decide +kernel
theorem dX8_unit_136 : decode cX8_unit 136 = .ok (.aload_n 3, 1) := by decide +kernel
theorem dX8_unit_137 : decode cX8_unit 137 = .ok (.getfield 222, 3) := by decide +kernel
theorem dX8_unit_140 : decode cX8_unit 140 = .ok (.ifCond .eq 7, 3) := by decide +kernel
theorem dX8_unit_143 : decode cX8_unit 143 = .ok (.iconst 1, 1) := by decide +kernel
theorem dX8_unit_144 : decode cX8_unit 144 = .ok (.goto 4, 3) := by decide +kernel
theorem dX8_unit_147 : decode cX8_unit 147 = .ok (.iconst 0, 1) := by decide +kernel
theorem dX8_unit_148 : decode cX8_unit 148 = .ok (.ireturn, 1) := by decide +kernel
theorem dX8_unit_149 : decode cX8_unit 149 = .ok (.aload_n 3, 1) := by decide +kernel
theorem dX8_unit_150 : decode cX8_unit 150 = .ok (.getfield 226, 3) := by decide +kernel
theorem dX8_unit_153 : decode cX8_unit 153 = .ok (.ifCond .eq 7, 3) := by decide +kernel
theorem dX8_unit_156 : decode cX8_unit 156 = .ok (.iconst 1, 1) := by decide +kernel
theorem dX8_unit_157 : decode cX8_unit 157 = .ok (.goto 4, 3) := by decide +kernel
theorem dX8_unit_160 : decode cX8_unit 160 = .ok (.iconst 0, 1) := by decide +kernel
theorem dX8_unit_161 : decode cX8_unit 161 = .ok (.ireturn, 1) := by decide +kernel
theorem dX8_unit_162 : decode cX8_unit 162 = .ok (.new 64, 3) := by decide +kernel
theorem dX8_unit_165 : decode cX8_unit 165 = .ok (.dup, 1) := by decide +kernel
theorem dX8_unit_166 : decode cX8_unit 166 = .ok (.ldc 229, 2) := by decide +kernel
theorem dX8_unit_168 : decode cX8_unit 168 = .ok (.invokespecial 68, 3) := by decide +kernel
theorem dX8_unit_171 : decode cX8_unit 171 = .ok (.athrow, 1) := by decide +kernel
theorem dX8_begin_0 : decode cX8_begin 0 = .ok (.aload_n 0, 1) := by decide +kernel
theorem dX8_begin_1 : decode cX8_begin 1 = .ok (.getfield 20, 3) := by decide +kernel
theorem dX8_begin_4 : decode cX8_begin 4 = .ok (.invokevirtual 170, 3) := by decide +kernel
theorem dX8_begin_7 : decode cX8_begin 7 = .ok (.ifCond .ne 13, 3) := by decide +kernel
theorem dX8_begin_10 : decode cX8_begin 10 = .ok (.aload_n 0, 1) := by decide +kernel
theorem dX8_begin_11 : decode cX8_begin 11 = .ok (.getfield 20, 3) := by decide +kernel
theorem dX8_begin_14 : decode cX8_begin 14 = .ok (.invokevirtual 231, 3) := by decide +kernel
theorem dX8_begin_17 : decode cX8_begin 17 = .ok (.ifCond .ne 13, 3) := by decide +kernel
theorem dX8_begin_20 : decode cX8_begin 20 = .ok (.new 74, 3) := by decide +kernel
theorem dX8_begin_23 : decode cX8_begin 23 = .ok (.dup, 1) := by decide +kernel
theorem dX8_begin_24 : decode cX8_begin 24 = .ok (.ldc 234, 2) := by decide +kernel
theorem dX8_begin_26 : decode cX8_begin 26 = .ok (.invokespecial 78, 3) := by decide +kernel
theorem dX8_begin_29 : decode cX8_begin 29 = .ok (.athrow, 1) := by decide +kernel
theorem dX8_begin_30 : decode cX8_begin 30 = .ok (.aload_n 0, 1) := by decide +kernel
theorem dX8_begin_31 : decode cX8_begin 31 = .ok (.getfield 20, 3) := by decide +kernel
theorem dX8_begin_34 : decode cX8_begin 34 = .ok (.invokevirtual 236, 3) := by decide +kernel
theorem dX8_begin_37 : decode cX8_begin 37 = .ok (.aload_n 0, 1) := by decide +kernel
theorem dX8_begin_38 : decode cX8_begin 38 = .ok (.getfield 20, 3) := by decide +kernel
theorem dX8_begin_41 : decode cX8_begin 41 = .ok (.getfield 207, 3) := by decide +kernel
theorem dX8_begin_44 : decode cX8_begin 44 = .ok (.ireturn, 1) := by decide +kernel
theorem dX8_condition_0 : decode cX8_condition 0 = .ok (.aload_n 0, 1) := by decide +kernel
theorem dX8_condition_1 : decode cX8_condition 1 = .ok (.getfield 20, 3) := by decide +kernel
theorem dX8_condition_4 : decode cX8_condition 4 = .ok (.invokevirtual 170, 3) := by decide +kernel
theorem dX8_condition_7 : decode cX8_condition 7 = .ok (.ifCond .ne 5, 3) := by decide +kernel
theorem dX8_condition_10 : decode cX8_condition 10 = .ok (.iconst 0, 1) := by decide +kernel
theorem dX8_condition_11 : decode cX8_condition 11 = .ok (.ireturn, 1) := by decide +kernel
theorem dX8_condition_12 : decode cX8_condition 12 = .ok (.aload_n 0, 1) := by decide +kernel
theorem dX8_condition_13 : decode cX8_condition 13 = .ok (.getfield 20, 3) := by decide +kernel
theorem dX8_condition_16 : decode cX8_condition 16 = .ok (.iconst 0, 1) := by decide +kernel
theorem dX8_condition_17 : decode cX8_condition 17 = .ok (.invokevirtual 239, 3) := by decide +kernel
theorem dX8_condition_20 : decode cX8_condition 20 = .ok (.istore_n 1, 1) := by decide +kernel
theorem dX8_condition_21 : decode cX8_condition 21 = .ok (.aload_n 0, 1) := by decide +kernel
theorem dX8_condition_22 : decode cX8_condition 22 = .ok (.getfield 20, 3) := by decide +kernel
theorem dX8_condition_25 : decode cX8_condition 25 = .ok (.iconst 1, 1) := by decide +kernel
theorem dX8_condition_26 : decode cX8_condition 26 = .ok (.invokevirtual 239, 3) := by decide +kernel
theorem dX8_condition_29 : decode cX8_condition 29 = .ok (.istore_n 2, 1) := by decide +kernel
theorem dX8_condition_30 : decode cX8_condition 30 = .ok (.iload_n 1, 1) := by decide +kernel
theorem dX8_condition_31 : decode cX8_condition 31 = .ok (.ifCond .eq 9, 3) := by decide +kernel
theorem dX8_condition_34 : decode cX8_condition 34 = .ok (.iload_n 2, 1) := by decide +kernel
theorem dX8_condition_35 : decode cX8_condition 35 = .ok (.ifCond .eq 5, 3) := by decide +kernel
theorem dX8_condition_38 : decode cX8_condition 38 = .ok (.iconst 1, 1) := by decide +kernel
theorem dX8_condition_39 : decode cX8_condition 39 = .ok (.ireturn, 1) := by decide +kernel
theorem dX8_condition_40 : decode cX8_condition 40 = .ok (.iload_n 1, 1) := by decide +kernel
theorem dX8_condition_41 : decode cX8_condition 41 = .ok (.ifCond .eq 5, 3) := by decide +kernel
theorem dX8_condition_44 : decode cX8_condition 44 = .ok (.iconst 2, 1) := by decide +kernel
theorem dX8_condition_45 : decode cX8_condition 45 = .ok (.ireturn, 1) := by decide +kernel
theorem dX8_condition_46 : decode cX8_condition 46 = .ok (.iload_n 2, 1) := by decide +kernel
theorem dX8_condition_47 : decode cX8_condition 47 = .ok (.ifCond .eq 7, 3) := by decide +kernel
theorem dX8_condition_50 : decode cX8_condition 50 = .ok (.iconst 3, 1) := by decide +kernel
theorem dX8_condition_51 : decode cX8_condition 51 = .ok (.goto 4, 3) := by decide +kernel
theorem dX8_condition_54 : decode cX8_condition 54 = .ok (.iconst 4, 1) := by decide +kernel
theorem dX8_condition_55 : decode cX8_condition 55 = .ok (.ireturn, 1) := by decide +kernel
theorem dX8_round_0 : decode cX8_round 0 = .ok (.aload_n 0, 1) := by decide +kernel
theorem dX8_round_1 : decode cX8_round 1 = .ok (.getfield 20, 3) := by decide +kernel
theorem dX8_round_4 : decode cX8_round 4 = .ok (.getfield 242, 3) := by decide +kernel
theorem dX8_round_7 : decode cX8_round 7 = .ok (.ireturn, 1) := by decide +kernel
theorem dX8_current_0 : decode cX8_current 0 = .ok (.aload_n 0, 1) := by decide +kernel
theorem dX8_current_1 : decode cX8_current 1 = .ok (.getfield 20, 3) := by decide +kernel
theorem dX8_current_4 : decode cX8_current 4 = .ok (.invokevirtual 245, 3) := by decide +kernel
theorem dX8_current_7 : decode cX8_current 7 = .ok (.ifnonnull 13, 3) := by decide +kernel
theorem dX8_current_10 : decode cX8_current 10 = .ok (.new 117, 3) := by decide +kernel
theorem dX8_current_13 : decode cX8_current 13 = .ok (.dup, 1) := by decide +kernel
theorem dX8_current_14 : decode cX8_current 14 = .ok (.ldc 249, 2) := by decide +kernel
theorem dX8_current_16 : decode cX8_current 16 = .ok (.invokespecial 121, 3) := by decide +kernel
theorem dX8_current_19 : decode cX8_current 19 = .ok (.athrow, 1) := by decide +kernel
theorem dX8_current_20 : decode cX8_current 20 = .ok (.aload_n 0, 1) := by decide +kernel
theorem dX8_current_21 : decode cX8_current 21 = .ok (.getfield 20, 3) := by decide +kernel
theorem dX8_current_24 : decode cX8_current 24 = .ok (.getfield 207, 3) := by decide +kernel
theorem dX8_current_27 : decode cX8_current 27 = .ok (.ireturn, 1) := by decide +kernel
theorem dX8_order_0 : decode cX8_order 0 = .ok (.aload_n 0, 1) := by decide +kernel
theorem dX8_order_1 : decode cX8_order 1 = .ok (.getfield 20, 3) := by decide +kernel
theorem dX8_order_4 : decode cX8_order 4 = .ok (.invokevirtual 170, 3) := by decide +kernel
theorem dX8_order_7 : decode cX8_order 7 = .ok (.ifCond .eq 18, 3) := by decide +kernel
theorem dX8_order_10 : decode cX8_order 10 = .ok (.iload_n 1, 1) := by decide +kernel
theorem dX8_order_11 : decode cX8_order 11 = .ok (.ifCond .lt 14, 3) := by decide +kernel
theorem dX8_order_14 : decode cX8_order 14 = .ok (.iload_n 1, 1) := by decide +kernel
theorem dX8_order_15 : decode cX8_order 15 = .ok (.aload_n 0, 1) := by decide +kernel
theorem dX8_order_16 : decode cX8_order 16 = .ok (.getfield 20, 3) := by decide +kernel
theorem dX8_order_19 : decode cX8_order 19 = .ok (.getfield 251, 3) := by decide +kernel
theorem dX8_order_22 : decode cX8_order 22 = .ok (.if_icmp .lt 13, 3) := by decide +kernel
theorem dX8_order_25 : decode cX8_order 25 = .ok (.new 117, 3) := by decide +kernel
theorem dX8_order_28 : decode cX8_order 28 = .ok (.dup, 1) := by decide +kernel
theorem dX8_order_29 : decode cX8_order 29 = .ok (.ldc 254, 2) := by decide +kernel
theorem dX8_order_31 : decode cX8_order 31 = .ok (.invokespecial 121, 3) := by decide +kernel
theorem dX8_order_34 : decode cX8_order 34 = .ok (.athrow, 1) := by decide +kernel
theorem dX8_order_35 : decode cX8_order 35 = .ok (.aload_n 0, 1) := by decide +kernel
theorem dX8_order_36 : decode cX8_order 36 = .ok (.getfield 20, 3) := by decide +kernel
theorem dX8_order_39 : decode cX8_order 39 = .ok (.getfield 256, 3) := by decide +kernel
theorem dX8_order_42 : decode cX8_order 42 = .ok (.iload_n 1, 1) := by decide +kernel
theorem dX8_order_43 : decode cX8_order 43 = .ok (.iaload, 1) := by decide +kernel
theorem dX8_order_44 : decode cX8_order 44 = .ok (.ireturn, 1) := by decide +kernel
theorem dX8_requireTurn_0 : decode cX8_requireTurn 0 = .ok (.aload_n 0, 1) := by decide +kernel
theorem dX8_requireTurn_1 : decode cX8_requireTurn 1 = .ok (.getfield 20, 3) := by decide +kernel
theorem dX8_requireTurn_4 : decode cX8_requireTurn 4 = .ok (.invokevirtual 245, 3) := by decide +kernel
theorem dX8_requireTurn_7 : decode cX8_requireTurn 7 = .ok (.astore_n 1, 1) := by decide +kernel
theorem dX8_requireTurn_8 : decode cX8_requireTurn 8 = .ok (.aload_n 1, 1) := by decide +kernel
theorem dX8_requireTurn_9 : decode cX8_requireTurn 9 = .ok (.ifnonnull 13, 3) := by decide +kernel
theorem dX8_requireTurn_12 : decode cX8_requireTurn 12 = .ok (.new 92, 3) := by decide +kernel
theorem dX8_requireTurn_15 : decode cX8_requireTurn 15 = .ok (.dup, 1) := by decide +kernel
theorem dX8_requireTurn_16 : decode cX8_requireTurn 16 = .ok (.ldc 249, 2) := by decide +kernel
theorem dX8_requireTurn_18 : decode cX8_requireTurn 18 = .ok (.invokespecial 96, 3) := by decide +kernel
theorem dX8_requireTurn_21 : decode cX8_requireTurn 21 = .ok (.athrow, 1) := by decide +kernel
theorem dX8_requireTurn_22 : decode cX8_requireTurn 22 = .ok (.aload_n 1, 1) := by decide +kernel
theorem dX8_requireTurn_23 : decode cX8_requireTurn 23 = .ok (.areturn, 1) := by decide +kernel
theorem dX8_requirePath_0 : decode cX8_requirePath 0 = .ok (.aload_n 0, 1) := by decide +kernel
theorem dX8_requirePath_1 : decode cX8_requirePath 1 = .ok (.getfield 50, 3) := by decide +kernel
theorem dX8_requirePath_4 : decode cX8_requirePath 4 = .ok (.aload_n 0, 1) := by decide +kernel
theorem dX8_requirePath_5 : decode cX8_requirePath 5 = .ok (.getfield 20, 3) := by decide +kernel
theorem dX8_requirePath_8 : decode cX8_requirePath 8 = .ok (.iload_n 2, 1) := by decide +kernel
theorem dX8_requirePath_9 : decode cX8_requirePath 9 = .ok (.invokevirtual 297, 3) := by decide +kernel
theorem dX8_requirePath_12 : decode cX8_requirePath 12 = .ok (.aload_n 0, 1) := by decide +kernel
theorem dX8_requirePath_13 : decode cX8_requirePath 13 = .ok (.getfield 50, 3) := by decide +kernel
theorem dX8_requirePath_16 : decode cX8_requirePath 16 = .ok (.aload_n 1, 1) := by decide +kernel
theorem dX8_requirePath_17 : decode cX8_requirePath 17 = .ok (.getfield 195, 3) := by decide +kernel
theorem dX8_requirePath_20 : decode cX8_requirePath 20 = .ok (.invokevirtual 301, 3) := by decide +kernel
theorem dX8_requirePath_23 : decode cX8_requirePath 23 = .ok (.istore_n 3, 1) := by decide +kernel
theorem dX8_requirePath_24 : decode cX8_requirePath 24 = .ok (.iload_n 3, 1) := by decide +kernel
theorem dX8_requirePath_25 : decode cX8_requirePath 25 = .ok (.ldc_w 469, 3) := by decide +kernel
theorem dX8_requirePath_28 : decode cX8_requirePath 28 = .ok (.if_icmp .lt 14, 3) := by decide +kernel
theorem dX8_requirePath_31 : decode cX8_requirePath 31 = .ok (.new 117, 3) := by decide +kernel
theorem dX8_requirePath_34 : decode cX8_requirePath 34 = .ok (.dup, 1) := by decide +kernel
theorem dX8_requirePath_35 : decode cX8_requirePath 35 = .ok (.ldc_w 470, 3) := by decide +kernel
theorem dX8_requirePath_38 : decode cX8_requirePath 38 = .ok (.invokespecial 121, 3) := by decide +kernel
theorem dX8_requirePath_41 : decode cX8_requirePath 41 = .ok (.athrow, 1) := by decide +kernel
theorem dX8_requirePath_42 : decode cX8_requirePath 42 = .ok (.iload_n 3, 1) := by decide +kernel
theorem dX8_requirePath_43 : decode cX8_requirePath 43 = .ok (.ireturn, 1) := by decide +kernel
theorem dX8_costs_0 : decode cX8_costs 0 = .ok (.aload_n 0, 1) := by decide +kernel
theorem dX8_costs_1 : decode cX8_costs 1 = .ok (.iload_n 1, 1) := by decide +kernel
theorem dX8_costs_2 : decode cX8_costs 2 = .ok (.invokevirtual 149, 3) := by decide +kernel
theorem dX8_costs_5 : decode cX8_costs 5 = .ok (.aload_n 0, 1) := by decide +kernel
theorem dX8_costs_6 : decode cX8_costs 6 = .ok (.aload_n 0, 1) := by decide +kernel
theorem dX8_costs_7 : decode cX8_costs 7 = .ok (.invokevirtual 260, 3) := by decide +kernel
theorem dX8_costs_10 : decode cX8_costs 10 = .ok (.iload_n 1, 1) := by decide +kernel
theorem dX8_costs_11 : decode cX8_costs 11 = .ok (.invokevirtual 263, 3) := by decide +kernel
theorem dX8_costs_14 : decode cX8_costs 14 = .ok (.ireturn, 1) := by decide +kernel
theorem dX8_pathCell_0 : decode cX8_pathCell 0 = .ok (.aload_n 0, 1) := by decide +kernel
theorem dX8_pathCell_1 : decode cX8_pathCell 1 = .ok (.iload_n 1, 1) := by decide +kernel
theorem dX8_pathCell_2 : decode cX8_pathCell 2 = .ok (.invokevirtual 149, 3) := by decide +kernel
theorem dX8_pathCell_5 : decode cX8_pathCell 5 = .ok (.aload_n 0, 1) := by decide +kernel
theorem dX8_pathCell_6 : decode cX8_pathCell 6 = .ok (.invokevirtual 260, 3) := by decide +kernel
theorem dX8_pathCell_9 : decode cX8_pathCell 9 = .ok (.astore_n 3, 1) := by decide +kernel
theorem dX8_pathCell_10 : decode cX8_pathCell 10 = .ok (.aload_n 0, 1) := by decide +kernel
theorem dX8_pathCell_11 : decode cX8_pathCell 11 = .ok (.aload_n 3, 1) := by decide +kernel
theorem dX8_pathCell_12 : decode cX8_pathCell 12 = .ok (.iload_n 1, 1) := by decide +kernel
theorem dX8_pathCell_13 : decode cX8_pathCell 13 = .ok (.invokevirtual 263, 3) := by decide +kernel
theorem dX8_pathCell_16 : decode cX8_pathCell 16 = .ok (.pop, 1) := by decide +kernel
theorem dX8_pathCell_17 : decode cX8_pathCell 17 = .ok (.iload_n 2, 1) := by decide +kernel
theorem dX8_pathCell_18 : decode cX8_pathCell 18 = .ok (.ifCond .ge 7, 3) := by decide +kernel
theorem dX8_pathCell_21 : decode cX8_pathCell 21 = .ok (.iconst (-1), 1) := by decide +kernel
theorem dX8_pathCell_22 : decode cX8_pathCell 22 = .ok (.goto 7, 3) := by decide +kernel
theorem dX8_pathCell_25 : decode cX8_pathCell 25 = .ok (.aload_n 3, 1) := by decide +kernel
theorem dX8_pathCell_26 : decode cX8_pathCell 26 = .ok (.getfield 195, 3) := by decide +kernel
theorem dX8_pathCell_29 : decode cX8_pathCell 29 = .ok (.istore 4, 2) := by decide +kernel
theorem dX8_pathCell_31 : decode cX8_pathCell 31 = .ok (.iconst 0, 1) := by decide +kernel
theorem dX8_pathCell_32 : decode cX8_pathCell 32 = .ok (.istore 5, 2) := by decide +kernel
theorem dX8_pathCell_34 : decode cX8_pathCell 34 = .ok (.iload 5, 2) := by decide +kernel
theorem dX8_pathCell_36 : decode cX8_pathCell 36 = .ok (.iload_n 2, 1) := by decide +kernel
theorem dX8_pathCell_37 : decode cX8_pathCell 37 = .ok (.if_icmp .gt 39, 3) := by decide +kernel
theorem dX8_pathCell_40 : decode cX8_pathCell 40 = .ok (.iload 5, 2) := by decide +kernel
theorem dX8_pathCell_42 : decode cX8_pathCell 42 = .ok (.bipush 64, 2) := by decide +kernel
theorem dX8_pathCell_44 : decode cX8_pathCell 44 = .ok (.if_icmp .ge 32, 3) := by decide +kernel
theorem dX8_pathCell_47 : decode cX8_pathCell 47 = .ok (.iload 4, 2) := by decide +kernel
theorem dX8_pathCell_49 : decode cX8_pathCell 49 = .ok (.ifCond .lt 27, 3) := by decide +kernel
theorem dX8_pathCell_52 : decode cX8_pathCell 52 = .ok (.aload_n 0, 1) := by decide +kernel
theorem dX8_pathCell_53 : decode cX8_pathCell 53 = .ok (.getfield 50, 3) := by decide +kernel
theorem dX8_pathCell_56 : decode cX8_pathCell 56 = .ok (.aload_n 0, 1) := by decide +kernel
theorem dX8_pathCell_57 : decode cX8_pathCell 57 = .ok (.getfield 20, 3) := by decide +kernel
theorem dX8_pathCell_60 : decode cX8_pathCell 60 = .ok (.getfield 101, 3) := by decide +kernel
theorem dX8_pathCell_63 : decode cX8_pathCell 63 = .ok (.iload 4, 2) := by decide +kernel
theorem dX8_pathCell_65 : decode cX8_pathCell 65 = .ok (.invokevirtual 267, 3) := by decide +kernel
theorem dX8_pathCell_68 : decode cX8_pathCell 68 = .ok (.istore 4, 2) := by decide +kernel
theorem dX8_pathCell_70 : decode cX8_pathCell 70 = .ok (.iinc 5 1, 3) := by decide +kernel
theorem dX8_pathCell_73 : decode cX8_pathCell 73 = .ok (.goto (-39), 3) := by decide +kernel
theorem dX8_pathCell_76 : decode cX8_pathCell 76 = .ok (.iload 4, 2) := by decide +kernel
theorem dX8_pathCell_78 : decode cX8_pathCell 78 = .ok (.ifCond .lt 9, 3) := by decide +kernel
theorem dX8_pathCell_81 : decode cX8_pathCell 81 = .ok (.iload_n 2, 1) := by decide +kernel
theorem dX8_pathCell_82 : decode cX8_pathCell 82 = .ok (.bipush 64, 2) := by decide +kernel
theorem dX8_pathCell_84 : decode cX8_pathCell 84 = .ok (.if_icmp .lt 14, 3) := by decide +kernel
theorem dX8_pathCell_87 : decode cX8_pathCell 87 = .ok (.new 117, 3) := by decide +kernel
theorem dX8_pathCell_90 : decode cX8_pathCell 90 = .ok (.dup, 1) := by decide +kernel
theorem dX8_pathCell_91 : decode cX8_pathCell 91 = .ok (.ldc_w 271, 3) := by decide +kernel
theorem dX8_pathCell_94 : decode cX8_pathCell 94 = .ok (.invokespecial 121, 3) := by decide +kernel
theorem dX8_pathCell_97 : decode cX8_pathCell 97 = .ok (.athrow, 1) := by decide +kernel
theorem dX8_pathCell_98 : decode cX8_pathCell 98 = .ok (.iload 4, 2) := by decide +kernel
theorem dX8_pathCell_100 : decode cX8_pathCell 100 = .ok (.ireturn, 1) := by decide +kernel
abbrev rmX8_init : Room := { frames := 4, cells := 206, slots := 5927, locals := 103 }
def wX8_init_0 (Q : MS → Prop) (QX : String → MS → Prop) (S : MS) (a0 : Nat) : Prop := (∀ a1, a1 ∉ mL S → (∀ S2, S2 = (nw S a1 10 71) → (∀ S3, S3 = (sR S2 a0 0 (some a1)) → (∀ S4, S4 = (sI S3 a0 2 (-1)) → (∀ a5, a5 ∉ mL S4 → (∀ S6, S6 = (nw S4 a5 2 0) → wp_X2_init (fun S7 => (∀ S8, S8 = (sR S7 a0 3 (some a5)) → (∀ a9, a9 ∉ mL S8 → (∀ S10, S10 = (nw S8 a9 0 0) → wp_X0_init (fun S11 => (∀ S12, S12 = (sR S11 a0 4 (some a9)) → (∀ a13, a13 ∉ mL S12 → (∀ S14, S14 = (nw S12 a13 4 0) → wp_X4_init (fun S15 => (∀ S16, S16 = (sR S15 a0 5 (some a13)) → (∀ a17, a17 ∉ mL S16 → (∀ S18, S18 = (nw S16 a17 2 0) → wp_X2_init (fun S19 => (∀ S20, S20 = (sR S19 a0 6 (some a17)) → (∀ a21, a21 ∉ mL S20 → (∀ S22, S22 = (nw S20 a21 0 0) → wp_X0_init (fun S23 => (∀ S24, S24 = (sR S23 a0 7 (some a21)) → (∀ a25, a25 ∉ mL S24 → (∀ S26, S26 = (nw S24 a25 2 0) → wp_X2_init (fun S27 => (∀ S28, S28 = (sR S27 a0 9 (some a25)) → (∀ a29, a29 ∉ mL S28 → (∀ S30, S30 = (nw S28 a29 5 0) → wp_X5_init (fun S31 => (∀ S32, S32 = (sR S31 a0 10 (some a29)) → (∀ a33, a33 ∉ mL S32 → (∀ S34, S34 = (nw S32 a33 6 0) → wp_X6_init (fun S35 => (∀ S36, S36 = (sR S35 a0 11 (some a33)) → (∀ a37, a37 ∉ mL S36 → (∀ S38, S38 = (nw S36 a37 6 0) → wp_X6_init (fun S39 => (∀ S40, S40 = (sR S39 a0 12 (some a37)) → Q S40)) QX S38 a37)))) QX S34 a33)))) QX S30 a29)))) QX S26 a25)))) QX S22 a21)))) QX S18 a17)))) QX S14 a13)))) QX S10 a9)))) QX S6 a5))))))
set_option maxHeartbeats 4000000 in
set_option maxRecDepth 100000 in
theorem tX8_init_0 {p : Program} {l : Launch} {e : Env} {s : State} {m : MethodId} {args : Array Value} {below : List Frame} {meth : Method} {c : Code} {H : Heap} {locs : List Loc} {cells slots : Nat} {G : GP} {A : Nat → Prop} {S0 : MS} {ls : Array Slot} (C : CF p l s m args meth c "SkirmishGrid" cX8_init 1 G A) (hr : meth.sig.returnType = none) (hin2 : meth.name = "<init>") (hex : ∀ x ∈ c.exceptionTable.toList, False) (Q : MS → Prop) (QX : String → MS → Prop) (S : MS) (a0 : Nat) (p_a0 : pI S 8 a0) (P : PW G A s H locs S0 S) (hl : lv_has ls 1 [(0, .ref a0)]) (hcc : cells + 206 ≤ 206) (hss : slots + 5927 ≤ 5927) (hw : wX8_init_0 Q QX S a0) : W p l e rmX8_init s m args below meth c H locs cells slots (vx_MQ below (QV G S0 A Q) (XX G S0 A QX) args s 206 5927 A) (F0 m 0 ls []) := by
  have hx := CF_x C
  have hb := CF_b C
  unfold wX8_init_0 at hw
  refine lv_aload_n hx hb dX8_init_0 rfl (lv_at hl 0 rfl) ?_
  refine W.objInit hx hb (CF_o C) (CF_t C _ q_35) (CF_t C _ q_36) (CF_t C _ q_37) rfl (hl.1.trans (CF_m C).symm) rfl dX8_init_1 (Nat.le_of_ble_eq_true rfl) (Nat.le_of_ble_eq_true rfl) ?_
  refine W.eq (g2 := F0 m 4 ls []) rfl ?_
  refine lv_aload_n hx hb dX8_init_4 rfl (lv_at hl 0 rfl) ?_
  refine lv_bipush (v := 71) hx hb dX8_init_5 (by decide) ?_
  refine rn_a (atype := .char) C P 0 (N' := 71) (71, .inl (fun _ => 0)) rfl (fun _ h => by cases h) q_64 rfl (fun _ => rfl) (fun S q => aE_nw (d := 0)) (by decide) (by decide) (by decide) (by show cells + 1 ≤ 206; omega) (by show slots + 71 ≤ 5927; omega) dX8_init_7 (fun a1 H hq P => ?_)
  have hw := hw a1 hq
  obtain ⟨S2, hS⟩ : ∃ z, z = (nw S a1 10 71) := ⟨_, rfl⟩
  have P : PW G A s H locs S0 S2 := by rw [hS]; exact P
  have p_a0 : pI S2 8 a0 := by rw [hS]; exact pI_x (ext_nw hq) p_a0
  have hw := hw S2 hS
  have p_a1 : pI S2 10 a1 := by rw [hS]; exact pI_nw
  refine pf_8_0 C hin2 P p_a0 p_a1 q_299 dX8_init_9 (fun H locs P => ?_)
  obtain ⟨S3, hS⟩ : ∃ z, z = (sR S2 a0 0 (some a1)) := ⟨_, rfl⟩
  have P : PW G A s H locs S0 S3 := by rw [hS]; exact P
  have p_a0 : pI S3 8 a0 := by rw [hS]; exact pI_x ext_sR p_a0
  have p_a1 : pI S3 10 a1 := by rw [hS]; exact pI_x ext_sR p_a1
  have hw := hw S3 hS
  refine lv_aload_n hx hb dX8_init_12 rfl (lv_at hl 0 rfl) ?_
  refine lv_iconst (v := (-1)) hx hb dX8_init_13 (by decide) ?_
  refine pf_8_2 C P p_a0 q_301 dX8_init_14 (fun H locs P => ?_)
  obtain ⟨S4, hS⟩ : ∃ z, z = (sI S3 a0 2 (-1)) := ⟨_, rfl⟩
  have P : PW G A s H locs S0 S4 := by rw [hS]; exact P
  have p_a0 : pI S4 8 a0 := by rw [hS]; exact pI_x ext_sI p_a0
  have hw := hw S4 hS
  refine lv_aload_n hx hb dX8_init_17 rfl (lv_at hl 0 rfl) ?_
  refine no_2 C P q_38 q_39 q_2 (by show cells + 1 + 1 ≤ 206; omega) (by show slots + 71 + 12 ≤ 5927; omega) dX8_init_18 (fun a5 H hq P => ?_)
  have hw := hw a5 hq
  obtain ⟨S6, hS⟩ : ∃ z, z = (nw S4 a5 2 0) := ⟨_, rfl⟩
  have P : PW G A s H locs S0 S6 := by rw [hS]; exact P
  have p_a0 : pI S6 8 a0 := by rw [hS]; exact pI_x (ext_nw hq) p_a0
  have hw := hw S6 hS
  have p_a5 : pI S6 2 a5 := by rw [hS]; exact pI_nw
  refine lv_dup hx hb dX8_init_21 rfl ?_
  refine cl_v C P (run_I C P hl.1 (met_X2_init (CF_n C) G H.size _ _ S6 a5 p_a5 hw) q_40 q_41 q_2 q_42 rfl cd_X2_init.2 ⟨(Nat.le_of_ble_eq_true rfl), (Nat.le_of_ble_eq_true rfl)⟩ rfl rfl (As := []) (rest := [.ref a5, .ref a0]) rfl rfl (Nat.le_of_ble_eq_true rfl) dX8_init_22 ⟨by show cells + 1 + 1 + 16 ≤ 206; omega, by show slots + 71 + 12 + 311 ≤ 5927; omega⟩) (kx_out C hex (fun _ _ _ h => h) (by omega) (by omega)) (fun S7 H locs P hE hw => ?_)
  have p_a0 : pI S7 8 a0 := pI_x hE p_a0
  have p_a5 : pI S7 2 a5 := pI_x hE p_a5
  refine pf_8_3 C hin2 P p_a0 p_a5 q_302 dX8_init_25 (fun H locs P => ?_)
  obtain ⟨S8, hS⟩ : ∃ z, z = (sR S7 a0 3 (some a5)) := ⟨_, rfl⟩
  have P : PW G A s H locs S0 S8 := by rw [hS]; exact P
  have p_a0 : pI S8 8 a0 := by rw [hS]; exact pI_x ext_sR p_a0
  have p_a5 : pI S8 2 a5 := by rw [hS]; exact pI_x ext_sR p_a5
  have hw := hw S8 hS
  refine lv_aload_n hx hb dX8_init_28 rfl (lv_at hl 0 rfl) ?_
  refine no_0 C P q_212 q_213 q_6 (by show cells + 1 + 1 + 16 + 1 ≤ 206; omega) (by show slots + 71 + 12 + 311 + 3 ≤ 5927; omega) dX8_init_29 (fun a9 H hq P => ?_)
  have hw := hw a9 hq
  obtain ⟨S10, hS⟩ : ∃ z, z = (nw S8 a9 0 0) := ⟨_, rfl⟩
  have P : PW G A s H locs S0 S10 := by rw [hS]; exact P
  have p_a0 : pI S10 8 a0 := by rw [hS]; exact pI_x (ext_nw hq) p_a0
  have hw := hw S10 hS
  have p_a9 : pI S10 0 a9 := by rw [hS]; exact pI_nw
  refine lv_dup hx hb dX8_init_32 rfl ?_
  refine cl_v C P (run_IN C P hl.1 (met_X0_init (CF_n C) G H.size _ _ S10 a9 p_a9 hw) (List.mem_of_getElem? (i := 2) rfl) q_215 q_6 q_216 rfl cd_X0_init.2 ⟨(Nat.le_of_ble_eq_true rfl), (Nat.le_of_ble_eq_true rfl)⟩ rfl rfl (As := []) (rest := [.ref a9, .ref a0]) rfl rfl (Nat.le_of_ble_eq_true rfl) dX8_init_33 ⟨by show cells + 1 + 1 + 16 + 1 + 2 ≤ 206; omega, by show slots + 71 + 12 + 311 + 3 + 1024 ≤ 5927; omega⟩) (kx_out C hex (fun _ _ _ h => h) (by omega) (by omega)) (fun S11 H locs P hE hw => ?_)
  have p_a0 : pI S11 8 a0 := pI_x hE p_a0
  have p_a9 : pI S11 0 a9 := pI_x hE p_a9
  refine pf_8_4 C hin2 P p_a0 p_a9 q_303 dX8_init_36 (fun H locs P => ?_)
  obtain ⟨S12, hS⟩ : ∃ z, z = (sR S11 a0 4 (some a9)) := ⟨_, rfl⟩
  have P : PW G A s H locs S0 S12 := by rw [hS]; exact P
  have p_a0 : pI S12 8 a0 := by rw [hS]; exact pI_x ext_sR p_a0
  have p_a9 : pI S12 0 a9 := by rw [hS]; exact pI_x ext_sR p_a9
  have hw := hw S12 hS
  refine lv_aload_n hx hb dX8_init_39 rfl (lv_at hl 0 rfl) ?_
  refine no_4 C P q_231 q_232 q_7 (by show cells + 1 + 1 + 16 + 1 + 2 + 1 ≤ 206; omega) (by show slots + 71 + 12 + 311 + 3 + 1024 + 3 ≤ 5927; omega) dX8_init_40 (fun a13 H hq P => ?_)
  have hw := hw a13 hq
  obtain ⟨S14, hS⟩ : ∃ z, z = (nw S12 a13 4 0) := ⟨_, rfl⟩
  have P : PW G A s H locs S0 S14 := by rw [hS]; exact P
  have p_a0 : pI S14 8 a0 := by rw [hS]; exact pI_x (ext_nw hq) p_a0
  have hw := hw S14 hS
  have p_a13 : pI S14 4 a13 := by rw [hS]; exact pI_nw
  refine lv_dup hx hb dX8_init_43 rfl ?_
  refine cl_v C P (run_I C P hl.1 (met_X4_init (CF_n C) G H.size _ _ S14 a13 p_a13 hw) q_233 q_234 q_7 q_235 rfl cd_X4_init.2 ⟨(Nat.le_of_ble_eq_true rfl), (Nat.le_of_ble_eq_true rfl)⟩ rfl rfl (As := []) (rest := [.ref a13, .ref a0]) rfl rfl (Nat.le_of_ble_eq_true rfl) dX8_init_44 ⟨by show cells + 1 + 1 + 16 + 1 + 2 + 1 + 137 ≤ 206; omega, by show slots + 71 + 12 + 311 + 3 + 1024 + 3 + 2592 ≤ 5927; omega⟩) (kx_out C hex (fun _ _ _ h => h) (by omega) (by omega)) (fun S15 H locs P hE hw => ?_)
  have p_a0 : pI S15 8 a0 := pI_x hE p_a0
  have p_a13 : pI S15 4 a13 := pI_x hE p_a13
  refine pf_8_5 C hin2 P p_a0 p_a13 q_304 dX8_init_47 (fun H locs P => ?_)
  obtain ⟨S16, hS⟩ : ∃ z, z = (sR S15 a0 5 (some a13)) := ⟨_, rfl⟩
  have P : PW G A s H locs S0 S16 := by rw [hS]; exact P
  have p_a0 : pI S16 8 a0 := by rw [hS]; exact pI_x ext_sR p_a0
  have p_a13 : pI S16 4 a13 := by rw [hS]; exact pI_x ext_sR p_a13
  have hw := hw S16 hS
  refine lv_aload_n hx hb dX8_init_50 rfl (lv_at hl 0 rfl) ?_
  refine no_2 C P q_38 q_39 q_2 (by show cells + 1 + 1 + 16 + 1 + 2 + 1 + 137 + 1 ≤ 206; omega) (by show slots + 71 + 12 + 311 + 3 + 1024 + 3 + 2592 + 12 ≤ 5927; omega) dX8_init_51 (fun a17 H hq P => ?_)
  have hw := hw a17 hq
  obtain ⟨S18, hS⟩ : ∃ z, z = (nw S16 a17 2 0) := ⟨_, rfl⟩
  have P : PW G A s H locs S0 S18 := by rw [hS]; exact P
  have p_a0 : pI S18 8 a0 := by rw [hS]; exact pI_x (ext_nw hq) p_a0
  have hw := hw S18 hS
  have p_a17 : pI S18 2 a17 := by rw [hS]; exact pI_nw
  refine lv_dup hx hb dX8_init_54 rfl ?_
  refine cl_v C P (run_I C P hl.1 (met_X2_init (CF_n C) G H.size _ _ S18 a17 p_a17 hw) q_40 q_41 q_2 q_42 rfl cd_X2_init.2 ⟨(Nat.le_of_ble_eq_true rfl), (Nat.le_of_ble_eq_true rfl)⟩ rfl rfl (As := []) (rest := [.ref a17, .ref a0]) rfl rfl (Nat.le_of_ble_eq_true rfl) dX8_init_55 ⟨by show cells + 1 + 1 + 16 + 1 + 2 + 1 + 137 + 1 + 16 ≤ 206; omega, by show slots + 71 + 12 + 311 + 3 + 1024 + 3 + 2592 + 12 + 311 ≤ 5927; omega⟩) (kx_out C hex (fun _ _ _ h => h) (by omega) (by omega)) (fun S19 H locs P hE hw => ?_)
  have p_a0 : pI S19 8 a0 := pI_x hE p_a0
  have p_a17 : pI S19 2 a17 := pI_x hE p_a17
  refine pf_8_6 C hin2 P p_a0 p_a17 q_305 dX8_init_58 (fun H locs P => ?_)
  obtain ⟨S20, hS⟩ : ∃ z, z = (sR S19 a0 6 (some a17)) := ⟨_, rfl⟩
  have P : PW G A s H locs S0 S20 := by rw [hS]; exact P
  have p_a0 : pI S20 8 a0 := by rw [hS]; exact pI_x ext_sR p_a0
  have p_a17 : pI S20 2 a17 := by rw [hS]; exact pI_x ext_sR p_a17
  have hw := hw S20 hS
  refine lv_aload_n hx hb dX8_init_61 rfl (lv_at hl 0 rfl) ?_
  refine no_0 C P q_212 q_213 q_6 (by show cells + 1 + 1 + 16 + 1 + 2 + 1 + 137 + 1 + 16 + 1 ≤ 206; omega) (by show slots + 71 + 12 + 311 + 3 + 1024 + 3 + 2592 + 12 + 311 + 3 ≤ 5927; omega) dX8_init_62 (fun a21 H hq P => ?_)
  have hw := hw a21 hq
  obtain ⟨S22, hS⟩ : ∃ z, z = (nw S20 a21 0 0) := ⟨_, rfl⟩
  have P : PW G A s H locs S0 S22 := by rw [hS]; exact P
  have p_a0 : pI S22 8 a0 := by rw [hS]; exact pI_x (ext_nw hq) p_a0
  have hw := hw S22 hS
  have p_a21 : pI S22 0 a21 := by rw [hS]; exact pI_nw
  refine lv_dup hx hb dX8_init_65 rfl ?_
  refine cl_v C P (run_IN C P hl.1 (met_X0_init (CF_n C) G H.size _ _ S22 a21 p_a21 hw) (List.mem_of_getElem? (i := 2) rfl) q_215 q_6 q_216 rfl cd_X0_init.2 ⟨(Nat.le_of_ble_eq_true rfl), (Nat.le_of_ble_eq_true rfl)⟩ rfl rfl (As := []) (rest := [.ref a21, .ref a0]) rfl rfl (Nat.le_of_ble_eq_true rfl) dX8_init_66 ⟨by show cells + 1 + 1 + 16 + 1 + 2 + 1 + 137 + 1 + 16 + 1 + 2 ≤ 206; omega, by show slots + 71 + 12 + 311 + 3 + 1024 + 3 + 2592 + 12 + 311 + 3 + 1024 ≤ 5927; omega⟩) (kx_out C hex (fun _ _ _ h => h) (by omega) (by omega)) (fun S23 H locs P hE hw => ?_)
  have p_a0 : pI S23 8 a0 := pI_x hE p_a0
  have p_a21 : pI S23 0 a21 := pI_x hE p_a21
  refine pf_8_7 C hin2 P p_a0 p_a21 q_306 dX8_init_69 (fun H locs P => ?_)
  obtain ⟨S24, hS⟩ : ∃ z, z = (sR S23 a0 7 (some a21)) := ⟨_, rfl⟩
  have P : PW G A s H locs S0 S24 := by rw [hS]; exact P
  have p_a0 : pI S24 8 a0 := by rw [hS]; exact pI_x ext_sR p_a0
  have p_a21 : pI S24 0 a21 := by rw [hS]; exact pI_x ext_sR p_a21
  have hw := hw S24 hS
  refine lv_aload_n hx hb dX8_init_72 rfl (lv_at hl 0 rfl) ?_
  refine no_2 C P q_38 q_39 q_2 (by show cells + 1 + 1 + 16 + 1 + 2 + 1 + 137 + 1 + 16 + 1 + 2 + 1 ≤ 206; omega) (by show slots + 71 + 12 + 311 + 3 + 1024 + 3 + 2592 + 12 + 311 + 3 + 1024 + 12 ≤ 5927; omega) dX8_init_73 (fun a25 H hq P => ?_)
  have hw := hw a25 hq
  obtain ⟨S26, hS⟩ : ∃ z, z = (nw S24 a25 2 0) := ⟨_, rfl⟩
  have P : PW G A s H locs S0 S26 := by rw [hS]; exact P
  have p_a0 : pI S26 8 a0 := by rw [hS]; exact pI_x (ext_nw hq) p_a0
  have hw := hw S26 hS
  have p_a25 : pI S26 2 a25 := by rw [hS]; exact pI_nw
  refine lv_dup hx hb dX8_init_76 rfl ?_
  refine cl_v C P (run_I C P hl.1 (met_X2_init (CF_n C) G H.size _ _ S26 a25 p_a25 hw) q_40 q_41 q_2 q_42 rfl cd_X2_init.2 ⟨(Nat.le_of_ble_eq_true rfl), (Nat.le_of_ble_eq_true rfl)⟩ rfl rfl (As := []) (rest := [.ref a25, .ref a0]) rfl rfl (Nat.le_of_ble_eq_true rfl) dX8_init_77 ⟨by show cells + 1 + 1 + 16 + 1 + 2 + 1 + 137 + 1 + 16 + 1 + 2 + 1 + 16 ≤ 206; omega, by show slots + 71 + 12 + 311 + 3 + 1024 + 3 + 2592 + 12 + 311 + 3 + 1024 + 12 + 311 ≤ 5927; omega⟩) (kx_out C hex (fun _ _ _ h => h) (by omega) (by omega)) (fun S27 H locs P hE hw => ?_)
  have p_a0 : pI S27 8 a0 := pI_x hE p_a0
  have p_a25 : pI S27 2 a25 := pI_x hE p_a25
  refine pf_8_9 C hin2 P p_a0 p_a25 q_308 dX8_init_80 (fun H locs P => ?_)
  obtain ⟨S28, hS⟩ : ∃ z, z = (sR S27 a0 9 (some a25)) := ⟨_, rfl⟩
  have P : PW G A s H locs S0 S28 := by rw [hS]; exact P
  have p_a0 : pI S28 8 a0 := by rw [hS]; exact pI_x ext_sR p_a0
  have p_a25 : pI S28 2 a25 := by rw [hS]; exact pI_x ext_sR p_a25
  have hw := hw S28 hS
  refine lv_aload_n hx hb dX8_init_83 rfl (lv_at hl 0 rfl) ?_
  refine no_5 C P q_251 q_252 q_8 (by show cells + 1 + 1 + 16 + 1 + 2 + 1 + 137 + 1 + 16 + 1 + 2 + 1 + 16 + 1 ≤ 206; omega) (by show slots + 71 + 12 + 311 + 3 + 1024 + 3 + 2592 + 12 + 311 + 3 + 1024 + 12 + 311 + 4 ≤ 5927; omega) dX8_init_84 (fun a29 H hq P => ?_)
  have hw := hw a29 hq
  obtain ⟨S30, hS⟩ : ∃ z, z = (nw S28 a29 5 0) := ⟨_, rfl⟩
  have P : PW G A s H locs S0 S30 := by rw [hS]; exact P
  have p_a0 : pI S30 8 a0 := by rw [hS]; exact pI_x (ext_nw hq) p_a0
  have hw := hw S30 hS
  have p_a29 : pI S30 5 a29 := by rw [hS]; exact pI_nw
  refine lv_dup hx hb dX8_init_87 rfl ?_
  refine cl_v C P (run_IN C P hl.1 (met_X5_init (CF_n C) G H.size _ _ S30 a29 p_a29 hw) (List.mem_of_getElem? (i := 3) rfl) q_254 q_8 q_255 rfl cd_X5_init.2 ⟨(Nat.le_of_ble_eq_true rfl), (Nat.le_of_ble_eq_true rfl)⟩ rfl rfl (As := []) (rest := [.ref a29, .ref a0]) rfl rfl (Nat.le_of_ble_eq_true rfl) dX8_init_88 ⟨by show cells + 1 + 1 + 16 + 1 + 2 + 1 + 137 + 1 + 16 + 1 + 2 + 1 + 16 + 1 + 3 ≤ 206; omega, by show slots + 71 + 12 + 311 + 3 + 1024 + 3 + 2592 + 12 + 311 + 3 + 1024 + 12 + 311 + 4 + 192 ≤ 5927; omega⟩) (kx_out C hex (fun _ _ _ h => h) (by omega) (by omega)) (fun S31 H locs P hE hw => ?_)
  have p_a0 : pI S31 8 a0 := pI_x hE p_a0
  have p_a29 : pI S31 5 a29 := pI_x hE p_a29
  refine pf_8_10 C hin2 P p_a0 p_a29 q_309 dX8_init_91 (fun H locs P => ?_)
  obtain ⟨S32, hS⟩ : ∃ z, z = (sR S31 a0 10 (some a29)) := ⟨_, rfl⟩
  have P : PW G A s H locs S0 S32 := by rw [hS]; exact P
  have p_a0 : pI S32 8 a0 := by rw [hS]; exact pI_x ext_sR p_a0
  have p_a29 : pI S32 5 a29 := by rw [hS]; exact pI_x ext_sR p_a29
  have hw := hw S32 hS
  refine lv_aload_n hx hb dX8_init_94 rfl (lv_at hl 0 rfl) ?_
  refine no_6 C P q_271 q_272 q_9 (by show cells + 1 + 1 + 16 + 1 + 2 + 1 + 137 + 1 + 16 + 1 + 2 + 1 + 16 + 1 + 3 + 1 ≤ 206; omega) (by show slots + 71 + 12 + 311 + 3 + 1024 + 3 + 2592 + 12 + 311 + 3 + 1024 + 12 + 311 + 4 + 192 + 5 ≤ 5927; omega) dX8_init_95 (fun a33 H hq P => ?_)
  have hw := hw a33 hq
  obtain ⟨S34, hS⟩ : ∃ z, z = (nw S32 a33 6 0) := ⟨_, rfl⟩
  have P : PW G A s H locs S0 S34 := by rw [hS]; exact P
  have p_a0 : pI S34 8 a0 := by rw [hS]; exact pI_x (ext_nw hq) p_a0
  have hw := hw S34 hS
  have p_a33 : pI S34 6 a33 := by rw [hS]; exact pI_nw
  refine lv_dup hx hb dX8_init_98 rfl ?_
  refine cl_v C P (run_IN C P hl.1 (met_X6_init (CF_n C) G H.size _ _ S34 a33 p_a33 hw) (List.mem_of_getElem? (i := 4) rfl) q_274 q_9 q_275 rfl cd_X6_init.2 ⟨(Nat.le_of_ble_eq_true rfl), (Nat.le_of_ble_eq_true rfl)⟩ rfl rfl (As := []) (rest := [.ref a33, .ref a0]) rfl rfl (Nat.le_of_ble_eq_true rfl) dX8_init_99 ⟨by show cells + 1 + 1 + 16 + 1 + 2 + 1 + 137 + 1 + 16 + 1 + 2 + 1 + 16 + 1 + 3 + 1 + 2 ≤ 206; omega, by show slots + 71 + 12 + 311 + 3 + 1024 + 3 + 2592 + 12 + 311 + 3 + 1024 + 12 + 311 + 4 + 192 + 5 + 16 ≤ 5927; omega⟩) (kx_out C hex (fun _ _ _ h => h) (by omega) (by omega)) (fun S35 H locs P hE hw => ?_)
  have p_a0 : pI S35 8 a0 := pI_x hE p_a0
  have p_a33 : pI S35 6 a33 := pI_x hE p_a33
  refine pf_8_11 C hin2 P p_a0 p_a33 q_310 dX8_init_102 (fun H locs P => ?_)
  obtain ⟨S36, hS⟩ : ∃ z, z = (sR S35 a0 11 (some a33)) := ⟨_, rfl⟩
  have P : PW G A s H locs S0 S36 := by rw [hS]; exact P
  have p_a0 : pI S36 8 a0 := by rw [hS]; exact pI_x ext_sR p_a0
  have p_a33 : pI S36 6 a33 := by rw [hS]; exact pI_x ext_sR p_a33
  have hw := hw S36 hS
  refine lv_aload_n hx hb dX8_init_105 rfl (lv_at hl 0 rfl) ?_
  refine no_6 C P q_271 q_272 q_9 (by show cells + 1 + 1 + 16 + 1 + 2 + 1 + 137 + 1 + 16 + 1 + 2 + 1 + 16 + 1 + 3 + 1 + 2 + 1 ≤ 206; omega) (by show slots + 71 + 12 + 311 + 3 + 1024 + 3 + 2592 + 12 + 311 + 3 + 1024 + 12 + 311 + 4 + 192 + 5 + 16 + 5 ≤ 5927; omega) dX8_init_106 (fun a37 H hq P => ?_)
  have hw := hw a37 hq
  obtain ⟨S38, hS⟩ : ∃ z, z = (nw S36 a37 6 0) := ⟨_, rfl⟩
  have P : PW G A s H locs S0 S38 := by rw [hS]; exact P
  have p_a0 : pI S38 8 a0 := by rw [hS]; exact pI_x (ext_nw hq) p_a0
  have hw := hw S38 hS
  have p_a37 : pI S38 6 a37 := by rw [hS]; exact pI_nw
  refine lv_dup hx hb dX8_init_109 rfl ?_
  refine cl_v C P (run_IN C P hl.1 (met_X6_init (CF_n C) G H.size _ _ S38 a37 p_a37 hw) (List.mem_of_getElem? (i := 4) rfl) q_274 q_9 q_275 rfl cd_X6_init.2 ⟨(Nat.le_of_ble_eq_true rfl), (Nat.le_of_ble_eq_true rfl)⟩ rfl rfl (As := []) (rest := [.ref a37, .ref a0]) rfl rfl (Nat.le_of_ble_eq_true rfl) dX8_init_110 ⟨by show cells + 1 + 1 + 16 + 1 + 2 + 1 + 137 + 1 + 16 + 1 + 2 + 1 + 16 + 1 + 3 + 1 + 2 + 1 + 2 ≤ 206; omega, by show slots + 71 + 12 + 311 + 3 + 1024 + 3 + 2592 + 12 + 311 + 3 + 1024 + 12 + 311 + 4 + 192 + 5 + 16 + 5 + 16 ≤ 5927; omega⟩) (kx_out C hex (fun _ _ _ h => h) (by omega) (by omega)) (fun S39 H locs P hE hw => ?_)
  have p_a0 : pI S39 8 a0 := pI_x hE p_a0
  have p_a37 : pI S39 6 a37 := pI_x hE p_a37
  refine pf_8_12 C hin2 P p_a0 p_a37 q_311 dX8_init_113 (fun H locs P => ?_)
  obtain ⟨S40, hS⟩ : ∃ z, z = (sR S39 a0 12 (some a37)) := ⟨_, rfl⟩
  have P : PW G A s H locs S0 S40 := by rw [hS]; exact P
  have p_a0 : pI S40 8 a0 := by rw [hS]; exact pI_x ext_sR p_a0
  have p_a37 : pI S40 6 a37 := by rw [hS]; exact pI_x ext_sR p_a37
  have hw := hw S40 hS
  exact e_v C hr P hw (by omega) (by omega) dX8_init_116
def wp_X8_init (Q : MS → Prop) (QX : String → MS → Prop) (S : MS) (a0 : Nat) : Prop := wX8_init_0 Q QX S a0
set_option maxHeartbeats 4000000 in
set_option maxRecDepth 100000 in
theorem met_X8_init {l : Launch} (hst : l.stackTraces = false) (G : GP) (sz : Nat) (Q : MS → Prop) (QX : String → MS → Prop) (S : MS) (a0 : Nat) (p_a0 : pI S 8 a0) (hw : wp_X8_init Q QX S a0) : vx_Met l yX8_init (.code yX8_init cX8_init 1 none :: GW) rmX8_init (va_Pc [.ref a0] (PR G S sz)) (QV G S (FA G S sz) Q) (XX G S (FA G S sz) QX) 206 5927 (FA G S sz) := by
  refine st_m (by decide +kernel) hst (fun p e s m below meth c C hr hnm hex P => ?_)
  refine en_m (Nat.le_of_ble_eq_true rfl) (lv := [(0, .ref a0)]) rfl (fun ls hl => ?_)
  have C : CF p l s m _ meth c "SkirmishGrid" cX8_init 1 G (FA G S sz) := C
  exact tX8_init_0 C hr hnm hex Q QX S a0 p_a0 P hl (by omega) (by omega) hw
theorem cd_X8_init : yX8_init.cls = RX8 ∧ yX8_init.cls ≠ "java/lang/invoke/MethodHandle" ∧ yX8_init.cls ≠ "java/lang/invoke/VarHandle" ∧ (parseMethodDescriptor yX8_init.desc).map (fun d => d.parameters.length) = some 0 := by decide +kernel
abbrev rmX8_append : Room := { frames := 6, cells := 1, slots := 6, locals := 110 }
def wX8_append_12 (Q : Int32 → MS → Prop) (QX : String → MS → Prop) (S : MS) : Prop := QX "java/lang/IllegalArgumentException" S
set_option maxHeartbeats 4000000 in
set_option maxRecDepth 100000 in
theorem tX8_append_12 {p : Program} {l : Launch} {e : Env} {s : State} {m : MethodId} {args : Array Value} {below : List Frame} {meth : Method} {c : Code} {H : Heap} {locs : List Loc} {cells slots : Nat} {G : GP} {A : Nat → Prop} {S0 : MS} {ls : Array Slot} (C : CF p l s m args meth c "SkirmishGrid" cX8_append 2 G A) (hr : meth.sig.returnType = (some .int)) (hex : ∀ x ∈ c.exceptionTable.toList, False) (Q : Int32 → MS → Prop) (QX : String → MS → Prop) (S : MS) (P : PW G A s H locs S0 S) (hl : lv_has ls 2 []) (hcc : cells + 1 ≤ 1) (hss : slots + 6 ≤ 6) (hw : wX8_append_12 Q QX S) : W p l e rmX8_append s m args below meth c H locs cells slots (vx_MQ below (QI G S0 A Q) (XX G S0 A QX) args s 1 6 A) (F0 m 12 ls []) := by
  have hx := CF_x C
  have hb := CF_b C
  unfold wX8_append_12 at hw
  exact th_S C hex P hl.1 (E := "java/lang/IllegalArgumentException") (text := "no printable character") (by decide +kernel) (by decide +kernel) (by decide +kernel) q_410 q_14 xw_IAE xb_IAE xg_IAE dX8_append_12 dX8_append_15 dX8_append_16 dX8_append_18 dX8_append_21 (Nat.le_of_ble_eq_true rfl) (Nat.le_of_ble_eq_true rfl) (by show cells + 1 ≤ 1; omega) (by show slots + 6 ≤ 6; omega) hw (by omega) (by omega)
def wX8_append_0 (Q : Int32 → MS → Prop) (QX : String → MS → Prop) (S : MS) (a0 : Nat) (x1 : Int32) : Prop := ((x1 < 32 → wX8_append_12 Q QX S) ∧ (¬ x1 < 32 → ((x1 ≤ 126 → (∃ a1, mR S a0 0 = some a1 ∧ (((mI S a0 1) < (Int32.ofNat (mN S a1)) → (∃ a2, mR S a0 0 = some a2 ∧ (vp_in (mI S a0 1) (mN S a2) ∧ (vp_nar .char x1 = x1 ∧ (∀ S3, S3 = (sI S a2 ((mI S a0 1) : Int32).toNatClampNeg x1) → (∀ S4, S4 = (sI S3 a0 1 ((mI S3 a0 1) + 1)) → Q (mI S4 a0 1) S4)))))) ∧ (¬ (mI S a0 1) < (Int32.ofNat (mN S a1)) → QX "java/lang/IllegalStateException" S)))) ∧ (¬ x1 ≤ 126 → wX8_append_12 Q QX S))))
set_option maxHeartbeats 4000000 in
set_option maxRecDepth 100000 in
theorem tX8_append_0 {p : Program} {l : Launch} {e : Env} {s : State} {m : MethodId} {args : Array Value} {below : List Frame} {meth : Method} {c : Code} {H : Heap} {locs : List Loc} {cells slots : Nat} {G : GP} {A : Nat → Prop} {S0 : MS} {ls : Array Slot} (C : CF p l s m args meth c "SkirmishGrid" cX8_append 2 G A) (hr : meth.sig.returnType = (some .int)) (hex : ∀ x ∈ c.exceptionTable.toList, False) (Q : Int32 → MS → Prop) (QX : String → MS → Prop) (S : MS) (a0 : Nat) (x1 : Int32) (p_a0 : pI S 8 a0) (P : PW G A s H locs S0 S) (hl : lv_has ls 2 [(0, .ref a0), (1, .int x1)]) (hcc : cells + 1 ≤ 1) (hss : slots + 6 ≤ 6) (hw : wX8_append_0 Q QX S a0 x1) : W p l e rmX8_append s m args below meth c H locs cells slots (vx_MQ below (QI G S0 A Q) (XX G S0 A QX) args s 1 6 A) (F0 m 0 ls []) := by
  have hx := CF_x C
  have hb := CF_b C
  unfold wX8_append_0 at hw
  refine lv_iload_n hx hb dX8_append_0 rfl (lv_at hl 1 rfl) ?_
  refine lv_bipush (v := 32) hx hb dX8_append_1 (by decide) ?_
  refine lv_icmp_lt (tgt := 12) hx hb dX8_append_3 (by decide) (fun hc => ?_) (fun hc => ?_)
  · have hw := hw.1 hc
    exact tX8_append_12 C hr hex Q QX S P (lv_sub hl [] rfl) (by omega) (by omega) hw
  · have hw := hw.2 hc
    refine lv_iload_n hx hb dX8_append_6 rfl (lv_at hl 1 rfl) ?_
    refine lv_bipush (v := 126) hx hb dX8_append_7 (by decide) ?_
    refine lv_icmp_le (tgt := 22) hx hb dX8_append_9 (by decide) (fun hc => ?_) (fun hc => ?_)
    · have hw := hw.1 hc
      refine lv_aload_n hx hb dX8_append_22 rfl (lv_at hl 0 rfl) ?_
      refine gf_8_1 C P p_a0 q_300 dX8_append_23 ?_
      refine lv_aload_n hx hb dX8_append_26 rfl (lv_at hl 0 rfl) ?_
      obtain ⟨a1, e1, hw⟩ := hw
      have p_a1 : pI S 10 a1 := wf_r P.2.2.2.1 p_a0 e1
      refine gf_8_0 C P p_a0 e1 q_299 dX8_append_27 ?_
      refine ra_n (d := 0) C P p_a1 (by decide) dX8_append_30 ?_
      refine lv_icmp_lt (tgt := 44) hx hb dX8_append_31 (by decide) (fun hc => ?_) (fun hc => ?_)
      · have hw := hw.1 hc
        refine lv_aload_n hx hb dX8_append_44 rfl (lv_at hl 0 rfl) ?_
        obtain ⟨a2, e1, hw⟩ := hw
        have p_a2 : pI S 10 a2 := wf_r P.2.2.2.1 p_a0 e1
        refine gf_8_0 C P p_a0 e1 q_299 dX8_append_45 ?_
        refine lv_aload_n hx hb dX8_append_48 rfl (lv_at hl 0 rfl) ?_
        refine gf_8_1 C P p_a0 q_300 dX8_append_49 ?_
        refine lv_iload_n hx hb dX8_append_52 rfl (lv_at hl 1 rfl) ?_
        obtain ⟨h1, hw⟩ := hw
        obtain ⟨h2, hw⟩ := hw
        refine rs_c C P p_a2 h1 h2 dX8_append_53 (fun H locs P => ?_)
        obtain ⟨S3, hS⟩ : ∃ z, z = (sI S a2 ((mI S a0 1) : Int32).toNatClampNeg x1) := ⟨_, rfl⟩
        have P : PW G A s H locs S0 S3 := by rw [hS]; exact P
        have p_a0 : pI S3 8 a0 := by rw [hS]; exact pI_x ext_sI p_a0
        have p_a2 : pI S3 10 a2 := by rw [hS]; exact pI_x ext_sI p_a2
        have hw := hw S3 hS
        refine lv_aload_n hx hb dX8_append_54 rfl (lv_at hl 0 rfl) ?_
        refine lv_dup hx hb dX8_append_55 rfl ?_
        refine gf_8_1 C P p_a0 q_300 dX8_append_56 ?_
        refine lv_iconst (v := 1) hx hb dX8_append_59 (by decide) ?_
        refine lv_iadd hx hb dX8_append_60 ?_
        refine pf_8_1 C P p_a0 q_300 dX8_append_61 (fun H locs P => ?_)
        obtain ⟨S4, hS⟩ : ∃ z, z = (sI S3 a0 1 ((mI S3 a0 1) + 1)) := ⟨_, rfl⟩
        have P : PW G A s H locs S0 S4 := by rw [hS]; exact P
        have p_a0 : pI S4 8 a0 := by rw [hS]; exact pI_x ext_sI p_a0
        have hw := hw S4 hS
        refine lv_aload_n hx hb dX8_append_64 rfl (lv_at hl 0 rfl) ?_
        refine gf_8_1 C P p_a0 q_300 dX8_append_65 ?_
        exact e_i C hr rfl P hw (by omega) (by omega) dX8_append_68
      · have hw := hw.2 hc
        exact th_S C hex P hl.1 (E := "java/lang/IllegalStateException") (text := "the buffer is full") (by decide +kernel) (by decide +kernel) (by decide +kernel) q_482 q_15 xw_ISE xb_ISE xg_ISE dX8_append_34 dX8_append_37 dX8_append_38 dX8_append_40 dX8_append_43 (Nat.le_of_ble_eq_true rfl) (Nat.le_of_ble_eq_true rfl) (by show cells + 1 ≤ 1; omega) (by show slots + 6 ≤ 6; omega) hw (by omega) (by omega)
    · have hw := hw.2 hc
      exact tX8_append_12 C hr hex Q QX S P (lv_sub hl [] rfl) (by omega) (by omega) hw
def wp_X8_append (Q : Int32 → MS → Prop) (QX : String → MS → Prop) (S : MS) (a0 : Nat) (x1 : Int32) : Prop := wX8_append_0 Q QX S a0 x1
set_option maxHeartbeats 4000000 in
set_option maxRecDepth 100000 in
theorem met_X8_append {l : Launch} (hst : l.stackTraces = false) (G : GP) (sz : Nat) (Q : Int32 → MS → Prop) (QX : String → MS → Prop) (S : MS) (a0 : Nat) (x1 : Int32) (p_a0 : pI S 8 a0) (hw : wp_X8_append Q QX S a0 x1) : vx_Met l yX8_append (.code yX8_append cX8_append 2 (some .int) :: GW) rmX8_append (va_Pc [.ref a0, .int x1] (PR G S sz)) (QI G S (FA G S sz) Q) (XX G S (FA G S sz) QX) 1 6 (FA G S sz) := by
  refine st_m (by decide +kernel) hst (fun p e s m below meth c C hr hnm hex P => ?_)
  refine en_m (Nat.le_of_ble_eq_true rfl) (lv := [(0, .ref a0), (1, .int x1)]) rfl (fun ls hl => ?_)
  have C : CF p l s m _ meth c "SkirmishGrid" cX8_append 2 G (FA G S sz) := C
  exact tX8_append_0 C hr hex Q QX S a0 x1 p_a0 P hl (by omega) (by omega) hw
theorem cd_X8_append : yX8_append.cls = RX8 ∧ yX8_append.cls ≠ "java/lang/invoke/MethodHandle" ∧ yX8_append.cls ≠ "java/lang/invoke/VarHandle" ∧ (parseMethodDescriptor yX8_append.desc).map (fun d => d.parameters.length) = some 1 := by decide +kernel
abbrev rmX8_countColumns : Room := { frames := 0, cells := 0, slots := 0, locals := 0 }
def wX8_countColumns_2 (Q : Int32 → MS → Prop) (QX : String → MS → Prop) (k2 : MS → Nat → Int32 → Int32 → Prop) (S : MS) (u0 : Nat) (y1 : Int32) (y2 : Int32) : Prop := ((y1 ≤ y2 → Q y2 S) ∧ (¬ y1 ≤ y2 → (((Int32.ofNat (mN S u0)) ≤ y2 → Q y2 S) ∧ (¬ (Int32.ofNat (mN S u0)) ≤ y2 → (vp_in y2 (mN S u0) ∧ (((mI S u0 (y2 : Int32).toNatClampNeg) = 47 → Q y2 S) ∧ (¬ (mI S u0 (y2 : Int32).toNatClampNeg) = 47 → k2 S u0 y1 (y2 + 1))))))))
set_option maxHeartbeats 4000000 in
set_option maxRecDepth 100000 in
theorem tX8_countColumns_2 {p : Program} {l : Launch} {e : Env} {s : State} {m : MethodId} {args : Array Value} {below : List Frame} {meth : Method} {c : Code} {H : Heap} {locs : List Loc} {cells slots : Nat} {G : GP} {A : Nat → Prop} {S0 : MS} {ls : Array Slot} (C : CF p l s m args meth c "SkirmishGrid" cX8_countColumns 3 G A) (hr : meth.sig.returnType = (some .int)) (hex : ∀ x ∈ c.exceptionTable.toList, False) (Q : Int32 → MS → Prop) (QX : String → MS → Prop) (k2 : MS → Nat → Int32 → Int32 → Prop) (kh2 : ∀ (S : MS) (u0 : Nat) (y1 : Int32) (y2 : Int32) (cells slots : Nat) (H : Heap) (locs : List Loc) (ls : Array Slot), pI S 10 u0 → PW G A s H locs S0 S → lv_has ls 3 [(0, .ref u0), (1, .int y1), (2, .int y2)] → cells + 0 ≤ 0 → slots + 0 ≤ 0 → k2 S u0 y1 y2 → W p l e rmX8_countColumns s m args below meth c H locs cells slots (vx_MQ below (QI G S0 A Q) (XX G S0 A QX) args s 0 0 A) (F0 m 2 ls [])) (S : MS) (u0 : Nat) (y1 : Int32) (y2 : Int32) (p_u0 : pI S 10 u0) (P : PW G A s H locs S0 S) (hl : lv_has ls 3 [(0, .ref u0), (1, .int y1), (2, .int y2)]) (hcc : cells + 0 ≤ 0) (hss : slots + 0 ≤ 0) (hw : wX8_countColumns_2 Q QX k2 S u0 y1 y2) : W p l e rmX8_countColumns s m args below meth c H locs cells slots (vx_MQ below (QI G S0 A Q) (XX G S0 A QX) args s 0 0 A) (F0 m 2 ls []) := by
  have hx := CF_x C
  have hb := CF_b C
  unfold wX8_countColumns_2 at hw
  refine lv_iload_n hx hb dX8_countColumns_2 rfl (lv_at hl 2 rfl) ?_
  refine lv_iload_n hx hb dX8_countColumns_3 rfl (lv_at hl 1 rfl) ?_
  refine lv_icmp_ge (tgt := 27) hx hb dX8_countColumns_4 (by decide) (fun hc => ?_) (fun hc => ?_)
  · have hw := hw.1 hc
    refine lv_iload_n hx hb dX8_countColumns_27 rfl (lv_at hl 2 rfl) ?_
    exact e_i C hr rfl P hw (by omega) (by omega) dX8_countColumns_28
  · have hw := hw.2 hc
    refine lv_iload_n hx hb dX8_countColumns_7 rfl (lv_at hl 2 rfl) ?_
    refine lv_aload_n hx hb dX8_countColumns_8 rfl (lv_at hl 0 rfl) ?_
    refine ra_n (d := 0) C P p_u0 (by decide) dX8_countColumns_9 ?_
    refine lv_icmp_ge (tgt := 27) hx hb dX8_countColumns_10 (by decide) (fun hc => ?_) (fun hc => ?_)
    · have hw := hw.1 hc
      refine lv_iload_n hx hb dX8_countColumns_27 rfl (lv_at hl 2 rfl) ?_
      exact e_i C hr rfl P hw (by omega) (by omega) dX8_countColumns_28
    · have hw := hw.2 hc
      refine lv_aload_n hx hb dX8_countColumns_13 rfl (lv_at hl 0 rfl) ?_
      refine lv_iload_n hx hb dX8_countColumns_14 rfl (lv_at hl 2 rfl) ?_
      obtain ⟨h1, hw⟩ := hw
      refine ra_c C P p_u0 h1 dX8_countColumns_15 ?_
      refine lv_bipush (v := 47) hx hb dX8_countColumns_16 (by decide) ?_
      refine lv_icmp_eq (tgt := 27) hx hb dX8_countColumns_18 (by decide) (fun hc => ?_) (fun hc => ?_)
      · have hw := hw.1 hc
        refine lv_iload_n hx hb dX8_countColumns_27 rfl (lv_at hl 2 rfl) ?_
        exact e_i C hr rfl P hw (by omega) (by omega) dX8_countColumns_28
      · have hw := hw.2 hc
        refine lv_iinc (v := (y2 + 1)) (lv' := [(2, .int (y2 + 1)), (0, .ref u0), (1, .int y1)]) hx hb dX8_countColumns_21 hl (k := 2) rfl (by rfl) (by decide) rfl (fun ls hl => ?_)
        refine lv_goto (tgt := 2) hx hb dX8_countColumns_24 (by decide) ?_
        exact kh2 S u0 y1 (y2 + 1) _ _ _ _ _ p_u0 P (lv_sub hl [1, 2, 0] rfl) (by omega) (by omega) hw
def lX8_countColumns_2 (Q : Int32 → MS → Prop) (QX : String → MS → Prop) : Nat → MS → Nat → Int32 → Int32 → Prop
  | 0 => fun _ _ _ _ => False
  | n + 1 => fun S u0 y1 y2 => wX8_countColumns_2 Q QX (lX8_countColumns_2 Q QX n) S u0 y1 y2
theorem tlX8_countColumns_2 {p : Program} {l : Launch} {e : Env} {s : State} {m : MethodId} {args : Array Value} {below : List Frame} {meth : Method} {c : Code} {G : GP} {A : Nat → Prop} {S0 : MS} (C : CF p l s m args meth c "SkirmishGrid" cX8_countColumns 3 G A) (hr : meth.sig.returnType = (some .int)) (hex : ∀ x ∈ c.exceptionTable.toList, False) (Q : Int32 → MS → Prop) (QX : String → MS → Prop) : ∀ (n : Nat), ∀ (S : MS) (u0 : Nat) (y1 : Int32) (y2 : Int32) (cells slots : Nat) (H : Heap) (locs : List Loc) (ls : Array Slot), pI S 10 u0 → PW G A s H locs S0 S → lv_has ls 3 [(0, .ref u0), (1, .int y1), (2, .int y2)] → cells + 0 ≤ 0 → slots + 0 ≤ 0 → lX8_countColumns_2 Q QX n S u0 y1 y2 → W p l e rmX8_countColumns s m args below meth c H locs cells slots (vx_MQ below (QI G S0 A Q) (XX G S0 A QX) args s 0 0 A) (F0 m 2 ls []) := by
  intro n
  induction n with
  | zero => intro S u0 y1 y2 cells slots H locs ls p_u0 P hl hcc hss hw; exact hw.elim
  | succ n ih => intro S u0 y1 y2 cells slots H locs ls p_u0 P hl hcc hss hw; exact tX8_countColumns_2 C hr hex Q QX (lX8_countColumns_2 Q QX n) ih S u0 y1 y2 p_u0 P hl hcc hss hw
def wX8_countColumns_0 (Q : Int32 → MS → Prop) (QX : String → MS → Prop) (S : MS) (b1 : Nat) (x2 : Int32) : Prop := (∃ n, lX8_countColumns_2 Q QX n S b1 x2 0)
set_option maxHeartbeats 4000000 in
set_option maxRecDepth 100000 in
theorem tX8_countColumns_0 {p : Program} {l : Launch} {e : Env} {s : State} {m : MethodId} {args : Array Value} {below : List Frame} {meth : Method} {c : Code} {H : Heap} {locs : List Loc} {cells slots : Nat} {G : GP} {A : Nat → Prop} {S0 : MS} {ls : Array Slot} (C : CF p l s m args meth c "SkirmishGrid" cX8_countColumns 3 G A) (hr : meth.sig.returnType = (some .int)) (hex : ∀ x ∈ c.exceptionTable.toList, False) (Q : Int32 → MS → Prop) (QX : String → MS → Prop) (S : MS) (b1 : Nat) (x2 : Int32) (p_b1 : pI S 10 b1) (P : PW G A s H locs S0 S) (hl : lv_has ls 3 [(0, .ref b1), (1, .int x2)]) (hcc : cells + 0 ≤ 0) (hss : slots + 0 ≤ 0) (hw : wX8_countColumns_0 Q QX S b1 x2) : W p l e rmX8_countColumns s m args below meth c H locs cells slots (vx_MQ below (QI G S0 A Q) (XX G S0 A QX) args s 0 0 A) (F0 m 0 ls []) := by
  have hx := CF_x C
  have hb := CF_b C
  unfold wX8_countColumns_0 at hw
  refine lv_iconst (v := 0) hx hb dX8_countColumns_0 (by decide) ?_
  refine lv_istore_n (lv' := [(2, .int 0), (0, .ref b1), (1, .int x2)]) hx hb dX8_countColumns_1 rfl hl (by decide) rfl (fun ls hl => ?_)
  obtain ⟨n, hw⟩ := hw
  exact tlX8_countColumns_2 C hr hex Q QX n S b1 x2 0 _ _ _ _ _ p_b1 P (lv_sub hl [1, 2, 0] rfl) (by omega) (by omega) hw
def wp_X8_countColumns (Q : Int32 → MS → Prop) (QX : String → MS → Prop) (S : MS) (b1 : Nat) (x2 : Int32) : Prop := wX8_countColumns_0 Q QX S b1 x2
set_option maxHeartbeats 4000000 in
set_option maxRecDepth 100000 in
theorem met_X8_countColumns {l : Launch} (hst : l.stackTraces = false) (G : GP) (sz : Nat) (Q : Int32 → MS → Prop) (QX : String → MS → Prop) (S : MS) (b1 : Nat) (x2 : Int32) (p_b1 : pI S 10 b1) (hw : wp_X8_countColumns Q QX S b1 x2) : vx_Met l yX8_countColumns (.code yX8_countColumns cX8_countColumns 3 (some .int) :: GW) rmX8_countColumns (va_Pc [.ref b1, .int x2] (PR G S sz)) (QI G S (FA G S sz) Q) (XX G S (FA G S sz) QX) 0 0 (FA G S sz) := by
  refine st_m (by decide +kernel) hst (fun p e s m below meth c C hr hnm hex P => ?_)
  refine en_m (Nat.le_of_ble_eq_true rfl) (lv := [(0, .ref b1), (1, .int x2)]) rfl (fun ls hl => ?_)
  have C : CF p l s m _ meth c "SkirmishGrid" cX8_countColumns 3 G (FA G S sz) := C
  exact tX8_countColumns_0 C hr hex Q QX S b1 x2 p_b1 P hl (by omega) (by omega) hw
theorem cd_X8_countColumns : yX8_countColumns.cls = RX8 ∧ yX8_countColumns.cls ≠ "java/lang/invoke/MethodHandle" ∧ yX8_countColumns.cls ≠ "java/lang/invoke/VarHandle" ∧ (parseMethodDescriptor yX8_countColumns.desc).map (fun d => d.parameters.length) = some 2 := by decide +kernel
abbrev rmX8_findError : Room := { frames := 4, cells := 0, slots := 0, locals := 126 }
def wX8_findError_45 (Q : Int32 → MS → Prop) (QX : String → MS → Prop) (k7 : MS → Nat → Int32 → Int32 → Int32 → Int32 → Prop) (S : MS) (u0 : Nat) (y1 : Int32) (y3 : Int32) (y4 : Int32) : Prop := k7 S u0 y1 y3 0 (y4 + 1)
set_option maxHeartbeats 4000000 in
set_option maxRecDepth 100000 in
theorem tX8_findError_45 {p : Program} {l : Launch} {e : Env} {s : State} {m : MethodId} {args : Array Value} {below : List Frame} {meth : Method} {c : Code} {H : Heap} {locs : List Loc} {cells slots : Nat} {G : GP} {A : Nat → Prop} {S0 : MS} {ls : Array Slot} (C : CF p l s m args meth c "SkirmishGrid" cX8_findError 5 G A) (hr : meth.sig.returnType = (some .int)) (hex : ∀ x ∈ c.exceptionTable.toList, False) (Q : Int32 → MS → Prop) (QX : String → MS → Prop) (k7 : MS → Nat → Int32 → Int32 → Int32 → Int32 → Prop) (kh7 : ∀ (S : MS) (u0 : Nat) (y1 : Int32) (y2 : Int32) (y3 : Int32) (y4 : Int32) (cells slots : Nat) (H : Heap) (locs : List Loc) (ls : Array Slot), pI S 10 u0 → PW G A s H locs S0 S → lv_has ls 5 [(0, .ref u0), (1, .int y1), (2, .int y2), (3, .int y3), (4, .int y4)] → cells + 0 ≤ 0 → slots + 0 ≤ 0 → k7 S u0 y1 y2 y3 y4 → W p l e rmX8_findError s m args below meth c H locs cells slots (vx_MQ below (QI G S0 A Q) (XX G S0 A QX) args s 0 0 A) (F0 m 7 ls [])) (S : MS) (u0 : Nat) (y1 : Int32) (y3 : Int32) (y4 : Int32) (p_u0 : pI S 10 u0) (P : PW G A s H locs S0 S) (hl : lv_has ls 5 [(0, .ref u0), (1, .int y1), (3, .int y3), (4, .int y4)]) (hcc : cells + 0 ≤ 0) (hss : slots + 0 ≤ 0) (hw : wX8_findError_45 Q QX k7 S u0 y1 y3 y4) : W p l e rmX8_findError s m args below meth c H locs cells slots (vx_MQ below (QI G S0 A Q) (XX G S0 A QX) args s 0 0 A) (F0 m 45 ls []) := by
  have hx := CF_x C
  have hb := CF_b C
  unfold wX8_findError_45 at hw
  refine lv_iload_n hx hb dX8_findError_45 rfl (lv_at hl 2 rfl) ?_
  refine lv_istore_n (lv' := [(2, .int y3), (0, .ref u0), (1, .int y1), (3, .int y3), (4, .int y4)]) hx hb dX8_findError_46 rfl hl (by decide) rfl (fun ls hl => ?_)
  refine lv_iconst (v := 0) hx hb dX8_findError_47 (by decide) ?_
  refine lv_istore_n (lv' := [(3, .int 0), (2, .int y3), (0, .ref u0), (1, .int y1), (4, .int y4)]) hx hb dX8_findError_48 rfl hl (by decide) rfl (fun ls hl => ?_)
  refine lv_goto (tgt := 75) hx hb dX8_findError_49 (by decide) ?_
  refine lv_iinc (v := (y4 + 1)) (lv' := [(4, .int (y4 + 1)), (3, .int 0), (2, .int y3), (0, .ref u0), (1, .int y1)]) hx hb dX8_findError_75 hl (k := 4) rfl (by rfl) (by decide) rfl (fun ls hl => ?_)
  refine lv_goto (tgt := 7) hx hb dX8_findError_78 (by decide) ?_
  exact kh7 S u0 y1 y3 0 (y4 + 1) _ _ _ _ _ p_u0 P (lv_sub hl [3, 4, 2, 1, 0] rfl) (by omega) (by omega) hw
def wX8_findError_81 (Q : Int32 → MS → Prop) (QX : String → MS → Prop) (S : MS) (y1 : Int32) (y2 : Int32) (y3 : Int32) : Prop := ((y3 = 0 → Q y1 S) ∧ (¬ y3 = 0 → ((y2 < 0 → Q (-1) S) ∧ (¬ y2 < 0 → ((y3 = y2 → Q (-1) S) ∧ (¬ y3 = y2 → Q y1 S))))))
set_option maxHeartbeats 4000000 in
set_option maxRecDepth 100000 in
theorem tX8_findError_81 {p : Program} {l : Launch} {e : Env} {s : State} {m : MethodId} {args : Array Value} {below : List Frame} {meth : Method} {c : Code} {H : Heap} {locs : List Loc} {cells slots : Nat} {G : GP} {A : Nat → Prop} {S0 : MS} {ls : Array Slot} (C : CF p l s m args meth c "SkirmishGrid" cX8_findError 5 G A) (hr : meth.sig.returnType = (some .int)) (hex : ∀ x ∈ c.exceptionTable.toList, False) (Q : Int32 → MS → Prop) (QX : String → MS → Prop) (S : MS) (y1 : Int32) (y2 : Int32) (y3 : Int32) (P : PW G A s H locs S0 S) (hl : lv_has ls 5 [(1, .int y1), (2, .int y2), (3, .int y3)]) (hcc : cells + 0 ≤ 0) (hss : slots + 0 ≤ 0) (hw : wX8_findError_81 Q QX S y1 y2 y3) : W p l e rmX8_findError s m args below meth c H locs cells slots (vx_MQ below (QI G S0 A Q) (XX G S0 A QX) args s 0 0 A) (F0 m 81 ls []) := by
  have hx := CF_x C
  have hb := CF_b C
  unfold wX8_findError_81 at hw
  refine lv_iload_n hx hb dX8_findError_81 rfl (lv_at hl 2 rfl) ?_
  refine lv_if_eq (tgt := 94) hx hb dX8_findError_82 (by decide) (fun hc => ?_) (fun hc => ?_)
  · have hw := hw.1 hc
    refine lv_iload_n hx hb dX8_findError_94 rfl (lv_at hl 0 rfl) ?_
    refine lv_goto (tgt := 99) hx hb dX8_findError_95 (by decide) ?_
    exact e_i C hr rfl P hw (by omega) (by omega) dX8_findError_99
  · have hw := hw.2 hc
    refine lv_iload_n hx hb dX8_findError_85 rfl (lv_at hl 1 rfl) ?_
    refine lv_if_lt (tgt := 98) hx hb dX8_findError_86 (by decide) (fun hc => ?_) (fun hc => ?_)
    · have hw := hw.1 hc
      refine lv_iconst (v := (-1)) hx hb dX8_findError_98 (by decide) ?_
      exact e_i C hr rfl P hw (by omega) (by omega) dX8_findError_99
    · have hw := hw.2 hc
      refine lv_iload_n hx hb dX8_findError_89 rfl (lv_at hl 2 rfl) ?_
      refine lv_iload_n hx hb dX8_findError_90 rfl (lv_at hl 1 rfl) ?_
      refine lv_icmp_eq (tgt := 98) hx hb dX8_findError_91 (by decide) (fun hc => ?_) (fun hc => ?_)
      · have hw := hw.1 hc
        refine lv_iconst (v := (-1)) hx hb dX8_findError_98 (by decide) ?_
        exact e_i C hr rfl P hw (by omega) (by omega) dX8_findError_99
      · have hw := hw.2 hc
        refine lv_iload_n hx hb dX8_findError_94 rfl (lv_at hl 0 rfl) ?_
        refine lv_goto (tgt := 99) hx hb dX8_findError_95 (by decide) ?_
        exact e_i C hr rfl P hw (by omega) (by omega) dX8_findError_99
def wX8_findError_7 (Q : Int32 → MS → Prop) (QX : String → MS → Prop) (k7 : MS → Nat → Int32 → Int32 → Int32 → Int32 → Prop) (S : MS) (u0 : Nat) (y1 : Int32) (y2 : Int32) (y3 : Int32) (y4 : Int32) : Prop := ((y1 ≤ y4 → wX8_findError_81 Q QX S y1 y2 y3) ∧ (¬ y1 ≤ y4 → (((Int32.ofNat (mN S u0)) ≤ y4 → wX8_findError_81 Q QX S y1 y2 y3) ∧ (¬ (Int32.ofNat (mN S u0)) ≤ y4 → (vp_in y4 (mN S u0) ∧ ((¬ (mI S u0 (y4 : Int32).toNatClampNeg) = 47 → (vp_in y4 (mN S u0) ∧ wp_J0_indexOf_0f7a4 (fun r3 S2 => ((r3 < 0 → Q y4 S2) ∧ (¬ r3 < 0 → ((¬ y3 = y2 → k7 S2 u0 y1 y2 (y3 + 1) (y4 + 1)) ∧ (y3 = y2 → Q y4 S2))))) QX S (mI S u0 (y4 : Int32).toNatClampNeg))) ∧ ((mI S u0 (y4 : Int32).toNatClampNeg) = 47 → ((y3 = 0 → Q y4 S) ∧ (¬ y3 = 0 → ((y2 < 0 → wX8_findError_45 Q QX k7 S u0 y1 y3 y4) ∧ (¬ y2 < 0 → ((y3 = y2 → wX8_findError_45 Q QX k7 S u0 y1 y3 y4) ∧ (¬ y3 = y2 → Q y4 S)))))))))))))
set_option maxHeartbeats 4000000 in
set_option maxRecDepth 100000 in
theorem tX8_findError_7 {p : Program} {l : Launch} {e : Env} {s : State} {m : MethodId} {args : Array Value} {below : List Frame} {meth : Method} {c : Code} {H : Heap} {locs : List Loc} {cells slots : Nat} {G : GP} {A : Nat → Prop} {S0 : MS} {ls : Array Slot} (C : CF p l s m args meth c "SkirmishGrid" cX8_findError 5 G A) (hr : meth.sig.returnType = (some .int)) (hex : ∀ x ∈ c.exceptionTable.toList, False) (Q : Int32 → MS → Prop) (QX : String → MS → Prop) (k7 : MS → Nat → Int32 → Int32 → Int32 → Int32 → Prop) (kh7 : ∀ (S : MS) (u0 : Nat) (y1 : Int32) (y2 : Int32) (y3 : Int32) (y4 : Int32) (cells slots : Nat) (H : Heap) (locs : List Loc) (ls : Array Slot), pI S 10 u0 → PW G A s H locs S0 S → lv_has ls 5 [(0, .ref u0), (1, .int y1), (2, .int y2), (3, .int y3), (4, .int y4)] → cells + 0 ≤ 0 → slots + 0 ≤ 0 → k7 S u0 y1 y2 y3 y4 → W p l e rmX8_findError s m args below meth c H locs cells slots (vx_MQ below (QI G S0 A Q) (XX G S0 A QX) args s 0 0 A) (F0 m 7 ls [])) (S : MS) (u0 : Nat) (y1 : Int32) (y2 : Int32) (y3 : Int32) (y4 : Int32) (p_u0 : pI S 10 u0) (P : PW G A s H locs S0 S) (hl : lv_has ls 5 [(0, .ref u0), (1, .int y1), (2, .int y2), (3, .int y3), (4, .int y4)]) (hcc : cells + 0 ≤ 0) (hss : slots + 0 ≤ 0) (hw : wX8_findError_7 Q QX k7 S u0 y1 y2 y3 y4) : W p l e rmX8_findError s m args below meth c H locs cells slots (vx_MQ below (QI G S0 A Q) (XX G S0 A QX) args s 0 0 A) (F0 m 7 ls []) := by
  have hx := CF_x C
  have hb := CF_b C
  unfold wX8_findError_7 at hw
  refine lv_iload hx hb dX8_findError_7 (lv_at hl 4 rfl) ?_
  refine lv_iload_n hx hb dX8_findError_9 rfl (lv_at hl 1 rfl) ?_
  refine lv_icmp_ge (tgt := 81) hx hb dX8_findError_10 (by decide) (fun hc => ?_) (fun hc => ?_)
  · have hw := hw.1 hc
    exact tX8_findError_81 C hr hex Q QX S y1 y2 y3 P (lv_sub hl [1, 2, 3] rfl) (by omega) (by omega) hw
  · have hw := hw.2 hc
    refine lv_iload hx hb dX8_findError_13 (lv_at hl 4 rfl) ?_
    refine lv_aload_n hx hb dX8_findError_15 rfl (lv_at hl 0 rfl) ?_
    refine ra_n (d := 0) C P p_u0 (by decide) dX8_findError_16 ?_
    refine lv_icmp_ge (tgt := 81) hx hb dX8_findError_17 (by decide) (fun hc => ?_) (fun hc => ?_)
    · have hw := hw.1 hc
      exact tX8_findError_81 C hr hex Q QX S y1 y2 y3 P (lv_sub hl [1, 2, 3] rfl) (by omega) (by omega) hw
    · have hw := hw.2 hc
      refine lv_aload_n hx hb dX8_findError_20 rfl (lv_at hl 0 rfl) ?_
      refine lv_iload hx hb dX8_findError_21 (lv_at hl 4 rfl) ?_
      obtain ⟨h1, hw⟩ := hw
      refine ra_c C P p_u0 h1 dX8_findError_23 ?_
      refine lv_bipush (v := 47) hx hb dX8_findError_24 (by decide) ?_
      refine lv_icmp_ne (tgt := 52) hx hb dX8_findError_26 (by decide) (fun hc => ?_) (fun hc => ?_)
      · have hw := hw.1 hc
        obtain ⟨sa1, sa1v, g1, g2, g3, g4, g5, g6, g7, g8⟩ := (CF_S C).2.2.2.2.2.1
        have hs : SL sa1 sa1v A s s.heap := ⟨g3, g4, g5, g6⟩
        refine va_ldcS hx hb (CF_o C) g1 dX8_findError_52 ?_
        refine lv_aload_n hx hb dX8_findError_54 rfl (lv_at hl 0 rfl) ?_
        refine lv_iload hx hb dX8_findError_55 (lv_at hl 4 rfl) ?_
        obtain ⟨h1, hw⟩ := hw
        refine ra_c C P p_u0 h1 dX8_findError_57 ?_
        refine cl_i C P (run_VJ C P hl.1 hs (met_J0_indexOf_0f7a4 (CF_n C) G H.size _ _ S (mI S u0 (y4 : Int32).toNatClampNeg) hw) q_510 q_511 q_512 q_16 q_513 cd_J0_indexOf_0f7a4 ⟨(Nat.le_of_ble_eq_true rfl), (Nat.le_of_ble_eq_true rfl)⟩ rfl rfl (As := [.int (mI S u0 (y4 : Int32).toNatClampNeg)]) (rest := []) rfl rfl (Nat.le_of_ble_eq_true rfl) dX8_findError_58 ⟨by show cells + 0 ≤ 0; omega, by show slots + 0 ≤ 0; omega⟩) (kx_out C hex (fun _ _ _ h => h) (by omega) (by omega)) (fun r3 S2 H locs P hE hw => ?_)
        have p_u0 : pI S2 10 u0 := pI_x hE p_u0
        refine lv_if_lt (tgt := 69) hx hb dX8_findError_61 (by decide) (fun hc => ?_) (fun hc => ?_)
        · have hw := hw.1 hc
          refine lv_iload hx hb dX8_findError_69 (lv_at hl 4 rfl) ?_
          exact e_i C hr rfl P hw (by omega) (by omega) dX8_findError_71
        · have hw := hw.2 hc
          refine lv_iload_n hx hb dX8_findError_64 rfl (lv_at hl 3 rfl) ?_
          refine lv_iload_n hx hb dX8_findError_65 rfl (lv_at hl 2 rfl) ?_
          refine lv_icmp_ne (tgt := 72) hx hb dX8_findError_66 (by decide) (fun hc => ?_) (fun hc => ?_)
          · have hw := hw.1 hc
            refine lv_iinc (v := (y3 + 1)) (lv' := [(3, .int (y3 + 1)), (0, .ref u0), (1, .int y1), (2, .int y2), (4, .int y4)]) hx hb dX8_findError_72 hl (k := 3) rfl (by rfl) (by decide) rfl (fun ls hl => ?_)
            refine lv_iinc (v := (y4 + 1)) (lv' := [(4, .int (y4 + 1)), (3, .int (y3 + 1)), (0, .ref u0), (1, .int y1), (2, .int y2)]) hx hb dX8_findError_75 hl (k := 4) rfl (by rfl) (by decide) rfl (fun ls hl => ?_)
            refine lv_goto (tgt := 7) hx hb dX8_findError_78 (by decide) ?_
            exact kh7 S2 u0 y1 y2 (y3 + 1) (y4 + 1) _ _ _ _ _ p_u0 P (lv_sub hl [2, 3, 4, 1, 0] rfl) (by omega) (by omega) hw
          · have hw := hw.2 hc
            refine lv_iload hx hb dX8_findError_69 (lv_at hl 4 rfl) ?_
            exact e_i C hr rfl P hw (by omega) (by omega) dX8_findError_71
      · have hw := hw.2 hc
        refine lv_iload_n hx hb dX8_findError_29 rfl (lv_at hl 3 rfl) ?_
        refine lv_if_eq (tgt := 42) hx hb dX8_findError_30 (by decide) (fun hc => ?_) (fun hc => ?_)
        · have hw := hw.1 hc
          refine lv_iload hx hb dX8_findError_42 (lv_at hl 4 rfl) ?_
          exact e_i C hr rfl P hw (by omega) (by omega) dX8_findError_44
        · have hw := hw.2 hc
          refine lv_iload_n hx hb dX8_findError_33 rfl (lv_at hl 2 rfl) ?_
          refine lv_if_lt (tgt := 45) hx hb dX8_findError_34 (by decide) (fun hc => ?_) (fun hc => ?_)
          · have hw := hw.1 hc
            exact tX8_findError_45 C hr hex Q QX k7 kh7 S u0 y1 y3 y4 p_u0 P (lv_sub hl [0, 1, 3, 4] rfl) (by omega) (by omega) hw
          · have hw := hw.2 hc
            refine lv_iload_n hx hb dX8_findError_37 rfl (lv_at hl 3 rfl) ?_
            refine lv_iload_n hx hb dX8_findError_38 rfl (lv_at hl 2 rfl) ?_
            refine lv_icmp_eq (tgt := 45) hx hb dX8_findError_39 (by decide) (fun hc => ?_) (fun hc => ?_)
            · have hw := hw.1 hc
              exact tX8_findError_45 C hr hex Q QX k7 kh7 S u0 y1 y3 y4 p_u0 P (lv_sub hl [0, 1, 3, 4] rfl) (by omega) (by omega) hw
            · have hw := hw.2 hc
              refine lv_iload hx hb dX8_findError_42 (lv_at hl 4 rfl) ?_
              exact e_i C hr rfl P hw (by omega) (by omega) dX8_findError_44
def lX8_findError_7 (Q : Int32 → MS → Prop) (QX : String → MS → Prop) : Nat → MS → Nat → Int32 → Int32 → Int32 → Int32 → Prop
  | 0 => fun _ _ _ _ _ _ => False
  | n + 1 => fun S u0 y1 y2 y3 y4 => wX8_findError_7 Q QX (lX8_findError_7 Q QX n) S u0 y1 y2 y3 y4
theorem tlX8_findError_7 {p : Program} {l : Launch} {e : Env} {s : State} {m : MethodId} {args : Array Value} {below : List Frame} {meth : Method} {c : Code} {G : GP} {A : Nat → Prop} {S0 : MS} (C : CF p l s m args meth c "SkirmishGrid" cX8_findError 5 G A) (hr : meth.sig.returnType = (some .int)) (hex : ∀ x ∈ c.exceptionTable.toList, False) (Q : Int32 → MS → Prop) (QX : String → MS → Prop) : ∀ (n : Nat), ∀ (S : MS) (u0 : Nat) (y1 : Int32) (y2 : Int32) (y3 : Int32) (y4 : Int32) (cells slots : Nat) (H : Heap) (locs : List Loc) (ls : Array Slot), pI S 10 u0 → PW G A s H locs S0 S → lv_has ls 5 [(0, .ref u0), (1, .int y1), (2, .int y2), (3, .int y3), (4, .int y4)] → cells + 0 ≤ 0 → slots + 0 ≤ 0 → lX8_findError_7 Q QX n S u0 y1 y2 y3 y4 → W p l e rmX8_findError s m args below meth c H locs cells slots (vx_MQ below (QI G S0 A Q) (XX G S0 A QX) args s 0 0 A) (F0 m 7 ls []) := by
  intro n
  induction n with
  | zero => intro S u0 y1 y2 y3 y4 cells slots H locs ls p_u0 P hl hcc hss hw; exact hw.elim
  | succ n ih => intro S u0 y1 y2 y3 y4 cells slots H locs ls p_u0 P hl hcc hss hw; exact tX8_findError_7 C hr hex Q QX (lX8_findError_7 Q QX n) ih S u0 y1 y2 y3 y4 p_u0 P hl hcc hss hw
def wX8_findError_0 (Q : Int32 → MS → Prop) (QX : String → MS → Prop) (S : MS) (b1 : Nat) (x2 : Int32) : Prop := (∃ n, lX8_findError_7 Q QX n S b1 x2 (-1) 0 0)
set_option maxHeartbeats 4000000 in
set_option maxRecDepth 100000 in
theorem tX8_findError_0 {p : Program} {l : Launch} {e : Env} {s : State} {m : MethodId} {args : Array Value} {below : List Frame} {meth : Method} {c : Code} {H : Heap} {locs : List Loc} {cells slots : Nat} {G : GP} {A : Nat → Prop} {S0 : MS} {ls : Array Slot} (C : CF p l s m args meth c "SkirmishGrid" cX8_findError 5 G A) (hr : meth.sig.returnType = (some .int)) (hex : ∀ x ∈ c.exceptionTable.toList, False) (Q : Int32 → MS → Prop) (QX : String → MS → Prop) (S : MS) (b1 : Nat) (x2 : Int32) (p_b1 : pI S 10 b1) (P : PW G A s H locs S0 S) (hl : lv_has ls 5 [(0, .ref b1), (1, .int x2)]) (hcc : cells + 0 ≤ 0) (hss : slots + 0 ≤ 0) (hw : wX8_findError_0 Q QX S b1 x2) : W p l e rmX8_findError s m args below meth c H locs cells slots (vx_MQ below (QI G S0 A Q) (XX G S0 A QX) args s 0 0 A) (F0 m 0 ls []) := by
  have hx := CF_x C
  have hb := CF_b C
  unfold wX8_findError_0 at hw
  refine lv_iconst (v := (-1)) hx hb dX8_findError_0 (by decide) ?_
  refine lv_istore_n (lv' := [(2, .int (-1)), (0, .ref b1), (1, .int x2)]) hx hb dX8_findError_1 rfl hl (by decide) rfl (fun ls hl => ?_)
  refine lv_iconst (v := 0) hx hb dX8_findError_2 (by decide) ?_
  refine lv_istore_n (lv' := [(3, .int 0), (2, .int (-1)), (0, .ref b1), (1, .int x2)]) hx hb dX8_findError_3 rfl hl (by decide) rfl (fun ls hl => ?_)
  refine lv_iconst (v := 0) hx hb dX8_findError_4 (by decide) ?_
  refine lv_istore (lv' := [(4, .int 0), (3, .int 0), (2, .int (-1)), (0, .ref b1), (1, .int x2)]) hx hb dX8_findError_5 hl (by decide) rfl (fun ls hl => ?_)
  obtain ⟨n, hw⟩ := hw
  exact tlX8_findError_7 C hr hex Q QX n S b1 x2 (-1) 0 0 _ _ _ _ _ p_b1 P (lv_sub hl [3, 4, 2, 1, 0] rfl) (by omega) (by omega) hw
def wp_X8_findError (Q : Int32 → MS → Prop) (QX : String → MS → Prop) (S : MS) (b1 : Nat) (x2 : Int32) : Prop := wX8_findError_0 Q QX S b1 x2
set_option maxHeartbeats 4000000 in
set_option maxRecDepth 100000 in
theorem met_X8_findError {l : Launch} (hst : l.stackTraces = false) (G : GP) (sz : Nat) (Q : Int32 → MS → Prop) (QX : String → MS → Prop) (S : MS) (b1 : Nat) (x2 : Int32) (p_b1 : pI S 10 b1) (hw : wp_X8_findError Q QX S b1 x2) : vx_Met l yX8_findError (.code yX8_findError cX8_findError 5 (some .int) :: GW) rmX8_findError (va_Pc [.ref b1, .int x2] (PR G S sz)) (QI G S (FA G S sz) Q) (XX G S (FA G S sz) QX) 0 0 (FA G S sz) := by
  refine st_m (by decide +kernel) hst (fun p e s m below meth c C hr hnm hex P => ?_)
  refine en_m (Nat.le_of_ble_eq_true rfl) (lv := [(0, .ref b1), (1, .int x2)]) rfl (fun ls hl => ?_)
  have C : CF p l s m _ meth c "SkirmishGrid" cX8_findError 5 G (FA G S sz) := C
  exact tX8_findError_0 C hr hex Q QX S b1 x2 p_b1 P hl (by omega) (by omega) hw
theorem cd_X8_findError : yX8_findError.cls = RX8 ∧ yX8_findError.cls ≠ "java/lang/invoke/MethodHandle" ∧ yX8_findError.cls ≠ "java/lang/invoke/VarHandle" ∧ (parseMethodDescriptor yX8_findError.desc).map (fun d => d.parameters.length) = some 2 := by decide +kernel
abbrev rmX8_isSide : Room := { frames := 0, cells := 0, slots := 0, locals := 0 }
def wX8_isSide_0 (Q : Int32 → MS → Prop) (QX : String → MS → Prop) (S : MS) (x1 : Int32) : Prop := ((x1 < 3 → Q 0 S) ∧ (¬ x1 < 3 → ((8 < x1 → Q 0 S) ∧ (¬ 8 < x1 → Q 1 S))))
set_option maxHeartbeats 4000000 in
set_option maxRecDepth 100000 in
theorem tX8_isSide_0 {p : Program} {l : Launch} {e : Env} {s : State} {m : MethodId} {args : Array Value} {below : List Frame} {meth : Method} {c : Code} {H : Heap} {locs : List Loc} {cells slots : Nat} {G : GP} {A : Nat → Prop} {S0 : MS} {ls : Array Slot} (C : CF p l s m args meth c "SkirmishGrid" cX8_isSide 1 G A) (hr : meth.sig.returnType = (some .boolean)) (hex : ∀ x ∈ c.exceptionTable.toList, False) (Q : Int32 → MS → Prop) (QX : String → MS → Prop) (S : MS) (x1 : Int32) (P : PW G A s H locs S0 S) (hl : lv_has ls 1 [(0, .int x1)]) (hcc : cells + 0 ≤ 0) (hss : slots + 0 ≤ 0) (hw : wX8_isSide_0 Q QX S x1) : W p l e rmX8_isSide s m args below meth c H locs cells slots (vx_MQ below (QI G S0 A Q) (XX G S0 A QX) args s 0 0 A) (F0 m 0 ls []) := by
  have hx := CF_x C
  have hb := CF_b C
  unfold wX8_isSide_0 at hw
  refine lv_iload_n hx hb dX8_isSide_0 rfl (lv_at hl 0 rfl) ?_
  refine lv_iconst (v := 3) hx hb dX8_isSide_1 (by decide) ?_
  refine lv_icmp_lt (tgt := 15) hx hb dX8_isSide_2 (by decide) (fun hc => ?_) (fun hc => ?_)
  · have hw := hw.1 hc
    refine lv_iconst (v := 0) hx hb dX8_isSide_15 (by decide) ?_
    exact e_i C hr (by decide +kernel) P hw (by omega) (by omega) dX8_isSide_16
  · have hw := hw.2 hc
    refine lv_iload_n hx hb dX8_isSide_5 rfl (lv_at hl 0 rfl) ?_
    refine lv_bipush (v := 8) hx hb dX8_isSide_6 (by decide) ?_
    refine lv_icmp_gt (tgt := 15) hx hb dX8_isSide_8 (by decide) (fun hc => ?_) (fun hc => ?_)
    · have hw := hw.1 hc
      refine lv_iconst (v := 0) hx hb dX8_isSide_15 (by decide) ?_
      exact e_i C hr (by decide +kernel) P hw (by omega) (by omega) dX8_isSide_16
    · have hw := hw.2 hc
      refine lv_iconst (v := 1) hx hb dX8_isSide_11 (by decide) ?_
      refine lv_goto (tgt := 16) hx hb dX8_isSide_12 (by decide) ?_
      exact e_i C hr (by decide +kernel) P hw (by omega) (by omega) dX8_isSide_16
def wp_X8_isSide (Q : Int32 → MS → Prop) (QX : String → MS → Prop) (S : MS) (x1 : Int32) : Prop := wX8_isSide_0 Q QX S x1
set_option maxHeartbeats 4000000 in
set_option maxRecDepth 100000 in
theorem met_X8_isSide {l : Launch} (hst : l.stackTraces = false) (G : GP) (sz : Nat) (Q : Int32 → MS → Prop) (QX : String → MS → Prop) (S : MS) (x1 : Int32) (hw : wp_X8_isSide Q QX S x1) : vx_Met l yX8_isSide (.code yX8_isSide cX8_isSide 1 (some .boolean) :: GW) rmX8_isSide (va_Pc [.int x1] (PR G S sz)) (QI G S (FA G S sz) Q) (XX G S (FA G S sz) QX) 0 0 (FA G S sz) := by
  refine st_m (by decide +kernel) hst (fun p e s m below meth c C hr hnm hex P => ?_)
  refine en_m (Nat.le_of_ble_eq_true rfl) (lv := [(0, .int x1)]) rfl (fun ls hl => ?_)
  have C : CF p l s m _ meth c "SkirmishGrid" cX8_isSide 1 G (FA G S sz) := C
  exact tX8_isSide_0 C hr hex Q QX S x1 P hl (by omega) (by omega) hw
theorem cd_X8_isSide : yX8_isSide.cls = RX8 ∧ yX8_isSide.cls ≠ "java/lang/invoke/MethodHandle" ∧ yX8_isSide.cls ≠ "java/lang/invoke/VarHandle" ∧ (parseMethodDescriptor yX8_isSide.desc).map (fun d => d.parameters.length) = some 1 := by decide +kernel
abbrev rmX8_load : Room := { frames := 6, cells := 1, slots := 6, locals := 153 }
def wX8_load_74 (Q : Int32 → MS → Prop) (QX : String → MS → Prop) (S : MS) : Prop := QX "java/lang/UnsupportedOperationException" S
set_option maxHeartbeats 4000000 in
set_option maxRecDepth 100000 in
theorem tX8_load_74 {p : Program} {l : Launch} {e : Env} {s : State} {m : MethodId} {args : Array Value} {below : List Frame} {meth : Method} {c : Code} {H : Heap} {locs : List Loc} {cells slots : Nat} {G : GP} {A : Nat → Prop} {S0 : MS} {ls : Array Slot} (C : CF p l s m args meth c "SkirmishGrid" cX8_load 6 G A) (hr : meth.sig.returnType = (some .int)) (hex : ∀ x ∈ c.exceptionTable.toList, False) (Q : Int32 → MS → Prop) (QX : String → MS → Prop) (S : MS) (P : PW G A s H locs S0 S) (hl : lv_has ls 6 []) (hcc : cells + 1 ≤ 1) (hss : slots + 6 ≤ 6) (hw : wX8_load_74 Q QX S) : W p l e rmX8_load s m args below meth c H locs cells slots (vx_MQ below (QI G S0 A Q) (XX G S0 A QX) args s 1 6 A) (F0 m 74 ls []) := by
  have hx := CF_x C
  have hb := CF_b C
  unfold wX8_load_74 at hw
  exact th_S C hex P hl.1 (E := "java/lang/UnsupportedOperationException") (text := "too few or too many rows or columns") (by decide +kernel) (by decide +kernel) (by decide +kernel) q_603 q_22 xw_UOE xb_UOE xg_UOE dX8_load_74 dX8_load_77 dX8_load_78 dX8_load_80 dX8_load_83 (Nat.le_of_ble_eq_true rfl) (Nat.le_of_ble_eq_true rfl) (by show cells + 1 ≤ 1; omega) (by show slots + 6 ≤ 6; omega) hw (by omega) (by omega)
def wX8_load_0 (Q : Int32 → MS → Prop) (QX : String → MS → Prop) (S : MS) (a0 : Nat) (x1 : Int32) : Prop := (∀ S1, S1 = (sI S a0 1 0) → (∃ a2, mR S1 a0 0 = some a2 ∧ wp_X8_findError (fun r4 S3 => ((r4 < 0 → (∃ a5, mR S3 a0 0 = some a5 ∧ wp_X8_countColumns (fun r7 S6 => (¬ (r7 + 1) = 0 ∧ wp_X8_isSide (fun r9 S8 => ((r9 = 0 → wX8_load_74 Q QX S8) ∧ (¬ r9 = 0 → wp_X8_isSide (fun r11 S10 => ((¬ r11 = 0 → (∃ a12, mR S10 a0 3 = some a12 ∧ wp_X2_reset (fun S13 => (∃ a14, mR S13 a0 3 = some a14 ∧ (∃ a15, mR S13 a14 0 = some a15 ∧ (∃ a16, mR S13 a0 0 = some a16 ∧ wp_X3_read (fun S17 => (∃ a18, mR S17 a0 4 = some a18 ∧ (∀ S19, S19 = (sI S17 a18 2 0) → (∃ a20, mR S19 a0 5 = some a20 ∧ wp_X4_clear (fun S21 => Q ((10 * (((mI S a0 1) + 1) / (r7 + 1))) + r7) S21) QX S19 a20)))) QX S13 a15 a16 (mI S a0 1) (((mI S a0 1) + 1) / (r7 + 1)) r7)))) QX S10 a12 x1)) ∧ (r11 = 0 → wX8_load_74 Q QX S10))) QX S8 r7))) QX S6 (((mI S a0 1) + 1) / (r7 + 1)))) QX S3 a5 (mI S a0 1))) ∧ (¬ r4 < 0 → (∀ S22, S22 = (sI S3 a0 2 r4) → QX "java/lang/IllegalArgumentException" S22)))) QX S1 a2 (mI S a0 1)))
set_option maxHeartbeats 4000000 in
set_option maxRecDepth 100000 in
theorem tX8_load_0 {p : Program} {l : Launch} {e : Env} {s : State} {m : MethodId} {args : Array Value} {below : List Frame} {meth : Method} {c : Code} {H : Heap} {locs : List Loc} {cells slots : Nat} {G : GP} {A : Nat → Prop} {S0 : MS} {ls : Array Slot} (C : CF p l s m args meth c "SkirmishGrid" cX8_load 6 G A) (hr : meth.sig.returnType = (some .int)) (hex : ∀ x ∈ c.exceptionTable.toList, False) (Q : Int32 → MS → Prop) (QX : String → MS → Prop) (S : MS) (a0 : Nat) (x1 : Int32) (p_a0 : pI S 8 a0) (P : PW G A s H locs S0 S) (hl : lv_has ls 6 [(0, .ref a0), (1, .int x1)]) (hcc : cells + 1 ≤ 1) (hss : slots + 6 ≤ 6) (hw : wX8_load_0 Q QX S a0 x1) : W p l e rmX8_load s m args below meth c H locs cells slots (vx_MQ below (QI G S0 A Q) (XX G S0 A QX) args s 1 6 A) (F0 m 0 ls []) := by
  have hx := CF_x C
  have hb := CF_b C
  unfold wX8_load_0 at hw
  refine lv_aload_n hx hb dX8_load_0 rfl (lv_at hl 0 rfl) ?_
  refine gf_8_1 C P p_a0 q_300 dX8_load_1 ?_
  refine lv_istore_n (lv' := [(2, .int (mI S a0 1)), (0, .ref a0), (1, .int x1)]) hx hb dX8_load_4 rfl hl (by decide) rfl (fun ls hl => ?_)
  refine lv_aload_n hx hb dX8_load_5 rfl (lv_at hl 1 rfl) ?_
  refine lv_iconst (v := 0) hx hb dX8_load_6 (by decide) ?_
  refine pf_8_1 C P p_a0 q_300 dX8_load_7 (fun H locs P => ?_)
  obtain ⟨S1, hS⟩ : ∃ z, z = (sI S a0 1 0) := ⟨_, rfl⟩
  have P : PW G A s H locs S0 S1 := by rw [hS]; exact P
  have p_a0 : pI S1 8 a0 := by rw [hS]; exact pI_x ext_sI p_a0
  have hw := hw S1 hS
  refine lv_aload_n hx hb dX8_load_10 rfl (lv_at hl 1 rfl) ?_
  obtain ⟨a2, e1, hw⟩ := hw
  have p_a2 : pI S1 10 a2 := wf_r P.2.2.2.1 p_a0 e1
  refine gf_8_0 C P p_a0 e1 q_299 dX8_load_11 ?_
  refine lv_iload_n hx hb dX8_load_14 rfl (lv_at hl 0 rfl) ?_
  refine cl_i C P (run_S C P hl.1 (met_X8_findError (CF_n C) G H.size _ _ S1 a2 (mI S a0 1) p_a2 hw) q_506 q_507 q_1 q_508 cd_X8_findError.2 ⟨(Nat.le_of_ble_eq_true rfl), (Nat.le_of_ble_eq_true rfl)⟩ rfl rfl (As := [.ref a2, .int (mI S a0 1)]) (rest := []) rfl rfl (Nat.le_of_ble_eq_true rfl) dX8_load_15 ⟨by show cells + 0 ≤ 1; omega, by show slots + 0 ≤ 6; omega⟩) (kx_out C hex (fun _ _ _ h => h) (by omega) (by omega)) (fun r4 S3 H locs P hE hw => ?_)
  have p_a0 : pI S3 8 a0 := pI_x hE p_a0
  have p_a2 : pI S3 10 a2 := pI_x hE p_a2
  refine lv_istore_n (lv' := [(3, .int r4), (2, .int (mI S a0 1)), (0, .ref a0), (1, .int x1)]) hx hb dX8_load_18 rfl hl (by decide) rfl (fun ls hl => ?_)
  refine lv_iload_n hx hb dX8_load_19 rfl (lv_at hl 0 rfl) ?_
  refine lv_if_lt (tgt := 38) hx hb dX8_load_20 (by decide) (fun hc => ?_) (fun hc => ?_)
  · have hw := hw.1 hc
    refine lv_aload_n hx hb dX8_load_38 rfl (lv_at hl 2 rfl) ?_
    obtain ⟨a5, e1, hw⟩ := hw
    have p_a5 : pI S3 10 a5 := wf_r P.2.2.2.1 p_a0 e1
    refine gf_8_0 C P p_a0 e1 q_299 dX8_load_39 ?_
    refine lv_iload_n hx hb dX8_load_42 rfl (lv_at hl 1 rfl) ?_
    refine cl_i C P (run_S C P hl.1 (met_X8_countColumns (CF_n C) G H.size _ _ S3 a5 (mI S a0 1) p_a5 hw) q_597 q_598 q_1 q_599 cd_X8_countColumns.2 ⟨(Nat.le_of_ble_eq_true rfl), (Nat.le_of_ble_eq_true rfl)⟩ rfl rfl (As := [.ref a5, .int (mI S a0 1)]) (rest := []) rfl rfl (Nat.le_of_ble_eq_true rfl) dX8_load_43 ⟨by show cells + 0 ≤ 1; omega, by show slots + 0 ≤ 6; omega⟩) (kx_out C hex (fun _ _ _ h => h) (by omega) (by omega)) (fun r7 S6 H locs P hE hw => ?_)
    have p_a0 : pI S6 8 a0 := pI_x hE p_a0
    have p_a5 : pI S6 10 a5 := pI_x hE p_a5
    refine lv_istore (lv' := [(4, .int r7), (3, .int r4), (2, .int (mI S a0 1)), (0, .ref a0), (1, .int x1)]) hx hb dX8_load_46 hl (by decide) rfl (fun ls hl => ?_)
    refine lv_iload_n hx hb dX8_load_48 rfl (lv_at hl 2 rfl) ?_
    refine lv_iconst (v := 1) hx hb dX8_load_49 (by decide) ?_
    refine lv_iadd hx hb dX8_load_50 ?_
    refine lv_iload hx hb dX8_load_51 (lv_at hl 0 rfl) ?_
    refine lv_iconst (v := 1) hx hb dX8_load_53 (by decide) ?_
    refine lv_iadd hx hb dX8_load_54 ?_
    obtain ⟨h1, hw⟩ := hw
    refine lv_idiv hx hb dX8_load_55 h1 ?_
    refine lv_istore (lv' := [(5, .int (((mI S a0 1) + 1) / (r7 + 1))), (4, .int r7), (3, .int r4), (2, .int (mI S a0 1)), (0, .ref a0), (1, .int x1)]) hx hb dX8_load_56 hl (by decide) rfl (fun ls hl => ?_)
    refine lv_iload hx hb dX8_load_58 (lv_at hl 0 rfl) ?_
    refine cl_i C P (run_S C P hl.1 (met_X8_isSide (CF_n C) G H.size _ _ S6 (((mI S a0 1) + 1) / (r7 + 1)) hw) q_600 q_601 q_1 q_602 cd_X8_isSide.2 ⟨(Nat.le_of_ble_eq_true rfl), (Nat.le_of_ble_eq_true rfl)⟩ rfl rfl (As := [.int (((mI S a0 1) + 1) / (r7 + 1))]) (rest := []) rfl rfl (Nat.le_of_ble_eq_true rfl) dX8_load_60 ⟨by show cells + 0 ≤ 1; omega, by show slots + 0 ≤ 6; omega⟩) (kx_out C hex (fun _ _ _ h => h) (by omega) (by omega)) (fun r9 S8 H locs P hE hw => ?_)
    have p_a0 : pI S8 8 a0 := pI_x hE p_a0
    refine lv_if_eq (tgt := 74) hx hb dX8_load_63 (by decide) (fun hc => ?_) (fun hc => ?_)
    · have hw := hw.1 hc
      exact tX8_load_74 C hr hex Q QX S8 P (lv_sub hl [] rfl) (by omega) (by omega) hw
    · have hw := hw.2 hc
      refine lv_iload hx hb dX8_load_66 (lv_at hl 1 rfl) ?_
      refine cl_i C P (run_S C P hl.1 (met_X8_isSide (CF_n C) G H.size _ _ S8 r7 hw) q_600 q_601 q_1 q_602 cd_X8_isSide.2 ⟨(Nat.le_of_ble_eq_true rfl), (Nat.le_of_ble_eq_true rfl)⟩ rfl rfl (As := [.int r7]) (rest := []) rfl rfl (Nat.le_of_ble_eq_true rfl) dX8_load_68 ⟨by show cells + 0 ≤ 1; omega, by show slots + 0 ≤ 6; omega⟩) (kx_out C hex (fun _ _ _ h => h) (by omega) (by omega)) (fun r11 S10 H locs P hE hw => ?_)
      have p_a0 : pI S10 8 a0 := pI_x hE p_a0
      refine lv_if_ne (tgt := 84) hx hb dX8_load_71 (by decide) (fun hc => ?_) (fun hc => ?_)
      · have hw := hw.1 hc
        refine lv_aload_n hx hb dX8_load_84 rfl (lv_at hl 4 rfl) ?_
        obtain ⟨a12, e1, hw⟩ := hw
        have p_a12 : pI S10 2 a12 := wf_r P.2.2.2.1 p_a0 e1
        refine gf_8_3 C P p_a0 e1 q_302 dX8_load_85 ?_
        refine lv_iload_n hx hb dX8_load_88 rfl (lv_at hl 5 rfl) ?_
        refine cl_v C P (run_V C P hl.1 (kd := 2) (met_X2_reset (CF_n C) G H.size _ _ S10 a12 x1 p_a12 hw) p_a12 (by decide) rfl q_619 q_620 q_621 q_2 q_622 cd_X2_reset ⟨(Nat.le_of_ble_eq_true rfl), (Nat.le_of_ble_eq_true rfl)⟩ rfl rfl (As := [.int x1]) (rest := []) rfl rfl (Nat.le_of_ble_eq_true rfl) dX8_load_89 ⟨by show cells + 0 ≤ 1; omega, by show slots + 0 ≤ 6; omega⟩) (kx_out C hex (fun _ _ _ h => h) (by omega) (by omega)) (fun S13 H locs P hE hw => ?_)
        have p_a0 : pI S13 8 a0 := pI_x hE p_a0
        have p_a12 : pI S13 2 a12 := pI_x hE p_a12
        refine lv_aload_n hx hb dX8_load_92 rfl (lv_at hl 4 rfl) ?_
        obtain ⟨a14, e1, hw⟩ := hw
        have p_a14 : pI S13 2 a14 := wf_r P.2.2.2.1 p_a0 e1
        refine gf_8_3 C P p_a0 e1 q_302 dX8_load_93 ?_
        obtain ⟨a15, e1, hw⟩ := hw
        have p_a15 : pI S13 3 a15 := wf_r P.2.2.2.1 p_a14 e1
        refine gf_2_0 C P p_a14 e1 q_163 dX8_load_96 ?_
        refine lv_aload_n hx hb dX8_load_99 rfl (lv_at hl 4 rfl) ?_
        obtain ⟨a16, e1, hw⟩ := hw
        have p_a16 : pI S13 10 a16 := wf_r P.2.2.2.1 p_a0 e1
        refine gf_8_0 C P p_a0 e1 q_299 dX8_load_100 ?_
        refine lv_iload_n hx hb dX8_load_103 rfl (lv_at hl 3 rfl) ?_
        refine lv_iload hx hb dX8_load_104 (lv_at hl 0 rfl) ?_
        refine lv_iload hx hb dX8_load_106 (lv_at hl 1 rfl) ?_
        refine cl_v C P (run_V C P hl.1 (kd := 3) (met_X3_read (CF_n C) G H.size _ _ S13 a15 a16 (mI S a0 1) (((mI S a0 1) + 1) / (r7 + 1)) r7 p_a15 p_a16 hw) p_a15 (by decide) rfl q_623 q_624 q_625 q_3 q_626 cd_X3_read ⟨(Nat.le_of_ble_eq_true rfl), (Nat.le_of_ble_eq_true rfl)⟩ rfl rfl (As := [.ref a16, .int (mI S a0 1), .int (((mI S a0 1) + 1) / (r7 + 1)), .int r7]) (rest := []) rfl rfl (Nat.le_of_ble_eq_true rfl) dX8_load_108 ⟨by show cells + 0 ≤ 1; omega, by show slots + 0 ≤ 6; omega⟩) (kx_out C hex (fun _ _ _ h => h) (by omega) (by omega)) (fun S17 H locs P hE hw => ?_)
        have p_a0 : pI S17 8 a0 := pI_x hE p_a0
        have p_a15 : pI S17 3 a15 := pI_x hE p_a15
        have p_a16 : pI S17 10 a16 := pI_x hE p_a16
        refine lv_aload_n hx hb dX8_load_111 rfl (lv_at hl 4 rfl) ?_
        obtain ⟨a18, e1, hw⟩ := hw
        have p_a18 : pI S17 0 a18 := wf_r P.2.2.2.1 p_a0 e1
        refine gf_8_4 C P p_a0 e1 q_303 dX8_load_112 ?_
        refine lv_iconst (v := 0) hx hb dX8_load_115 (by decide) ?_
        refine pf_0_2 C P p_a18 q_223 dX8_load_116 (fun H locs P => ?_)
        obtain ⟨S19, hS⟩ : ∃ z, z = (sI S17 a18 2 0) := ⟨_, rfl⟩
        have P : PW G A s H locs S0 S19 := by rw [hS]; exact P
        have p_a0 : pI S19 8 a0 := by rw [hS]; exact pI_x ext_sI p_a0
        have p_a18 : pI S19 0 a18 := by rw [hS]; exact pI_x ext_sI p_a18
        have hw := hw S19 hS
        refine lv_aload_n hx hb dX8_load_119 rfl (lv_at hl 4 rfl) ?_
        obtain ⟨a20, e1, hw⟩ := hw
        have p_a20 : pI S19 4 a20 := wf_r P.2.2.2.1 p_a0 e1
        refine gf_8_5 C P p_a0 e1 q_304 dX8_load_120 ?_
        refine cl_v C P (run_V C P hl.1 (kd := 4) (met_X4_clear (CF_n C) G H.size _ _ S19 a20 p_a20 hw) p_a20 (by decide) rfl q_629 q_630 q_631 q_7 q_632 cd_X4_clear ⟨(Nat.le_of_ble_eq_true rfl), (Nat.le_of_ble_eq_true rfl)⟩ rfl rfl (As := []) (rest := []) rfl rfl (Nat.le_of_ble_eq_true rfl) dX8_load_123 ⟨by show cells + 0 ≤ 1; omega, by show slots + 0 ≤ 6; omega⟩) (kx_out C hex (fun _ _ _ h => h) (by omega) (by omega)) (fun S21 H locs P hE hw => ?_)
        have p_a20 : pI S21 4 a20 := pI_x hE p_a20
        refine lv_bipush (v := 10) hx hb dX8_load_126 (by decide) ?_
        refine lv_iload hx hb dX8_load_128 (lv_at hl 0 rfl) ?_
        refine lv_imul hx hb dX8_load_130 ?_
        refine lv_iload hx hb dX8_load_131 (lv_at hl 1 rfl) ?_
        refine lv_iadd hx hb dX8_load_133 ?_
        exact e_i C hr rfl P hw (by omega) (by omega) dX8_load_134
      · have hw := hw.2 hc
        exact tX8_load_74 C hr hex Q QX S10 P (lv_sub hl [] rfl) (by omega) (by omega) hw
  · have hw := hw.2 hc
    refine lv_aload_n hx hb dX8_load_23 rfl (lv_at hl 2 rfl) ?_
    refine lv_iload_n hx hb dX8_load_24 rfl (lv_at hl 0 rfl) ?_
    refine pf_8_2 C P p_a0 q_301 dX8_load_25 (fun H locs P => ?_)
    obtain ⟨S22, hS⟩ : ∃ z, z = (sI S3 a0 2 r4) := ⟨_, rfl⟩
    have P : PW G A s H locs S0 S22 := by rw [hS]; exact P
    have p_a0 : pI S22 8 a0 := by rw [hS]; exact pI_x ext_sI p_a0
    have hw := hw S22 hS
    exact th_S C hex P hl.1 (E := "java/lang/IllegalArgumentException") (text := "malformed grid") (by decide +kernel) (by decide +kernel) (by decide +kernel) q_410 q_14 xw_IAE xb_IAE xg_IAE dX8_load_28 dX8_load_31 dX8_load_32 dX8_load_34 dX8_load_37 (Nat.le_of_ble_eq_true rfl) (Nat.le_of_ble_eq_true rfl) (by show cells + 1 ≤ 1; omega) (by show slots + 6 ≤ 6; omega) hw (by omega) (by omega)
def wp_X8_load (Q : Int32 → MS → Prop) (QX : String → MS → Prop) (S : MS) (a0 : Nat) (x1 : Int32) : Prop := wX8_load_0 Q QX S a0 x1
set_option maxHeartbeats 4000000 in
set_option maxRecDepth 100000 in
theorem met_X8_load {l : Launch} (hst : l.stackTraces = false) (G : GP) (sz : Nat) (Q : Int32 → MS → Prop) (QX : String → MS → Prop) (S : MS) (a0 : Nat) (x1 : Int32) (p_a0 : pI S 8 a0) (hw : wp_X8_load Q QX S a0 x1) : vx_Met l yX8_load (.code yX8_load cX8_load 6 (some .int) :: GW) rmX8_load (va_Pc [.ref a0, .int x1] (PR G S sz)) (QI G S (FA G S sz) Q) (XX G S (FA G S sz) QX) 1 6 (FA G S sz) := by
  refine st_m (by decide +kernel) hst (fun p e s m below meth c C hr hnm hex P => ?_)
  refine en_m (Nat.le_of_ble_eq_true rfl) (lv := [(0, .ref a0), (1, .int x1)]) rfl (fun ls hl => ?_)
  have C : CF p l s m _ meth c "SkirmishGrid" cX8_load 6 G (FA G S sz) := C
  exact tX8_load_0 C hr hex Q QX S a0 x1 p_a0 P hl (by omega) (by omega) hw
theorem cd_X8_load : yX8_load.cls = RX8 ∧ yX8_load.cls ≠ "java/lang/invoke/MethodHandle" ∧ yX8_load.cls ≠ "java/lang/invoke/VarHandle" ∧ (parseMethodDescriptor yX8_load.desc).map (fun d => d.parameters.length) = some 1 := by decide +kernel
abbrev rmX8_errorPosition : Room := { frames := 6, cells := 1, slots := 6, locals := 110 }
def wX8_errorPosition_0 (Q : Int32 → MS → Prop) (QX : String → MS → Prop) (S : MS) (a0 : Nat) : Prop := ((0 ≤ (mI S a0 2) → Q (mI S a0 2) S) ∧ (¬ 0 ≤ (mI S a0 2) → QX "java/util/NoSuchElementException" S))
set_option maxHeartbeats 4000000 in
set_option maxRecDepth 100000 in
theorem tX8_errorPosition_0 {p : Program} {l : Launch} {e : Env} {s : State} {m : MethodId} {args : Array Value} {below : List Frame} {meth : Method} {c : Code} {H : Heap} {locs : List Loc} {cells slots : Nat} {G : GP} {A : Nat → Prop} {S0 : MS} {ls : Array Slot} (C : CF p l s m args meth c "SkirmishGrid" cX8_errorPosition 1 G A) (hr : meth.sig.returnType = (some .int)) (hex : ∀ x ∈ c.exceptionTable.toList, False) (Q : Int32 → MS → Prop) (QX : String → MS → Prop) (S : MS) (a0 : Nat) (p_a0 : pI S 8 a0) (P : PW G A s H locs S0 S) (hl : lv_has ls 1 [(0, .ref a0)]) (hcc : cells + 1 ≤ 1) (hss : slots + 6 ≤ 6) (hw : wX8_errorPosition_0 Q QX S a0) : W p l e rmX8_errorPosition s m args below meth c H locs cells slots (vx_MQ below (QI G S0 A Q) (XX G S0 A QX) args s 1 6 A) (F0 m 0 ls []) := by
  have hx := CF_x C
  have hb := CF_b C
  unfold wX8_errorPosition_0 at hw
  refine lv_aload_n hx hb dX8_errorPosition_0 rfl (lv_at hl 0 rfl) ?_
  refine gf_8_2 C P p_a0 q_301 dX8_errorPosition_1 ?_
  refine lv_if_ge (tgt := 17) hx hb dX8_errorPosition_4 (by decide) (fun hc => ?_) (fun hc => ?_)
  · have hw := hw.1 hc
    refine lv_aload_n hx hb dX8_errorPosition_17 rfl (lv_at hl 0 rfl) ?_
    refine gf_8_2 C P p_a0 q_301 dX8_errorPosition_18 ?_
    exact e_i C hr rfl P hw (by omega) (by omega) dX8_errorPosition_21
  · have hw := hw.2 hc
    exact th_NS C hex P hl.1 (text := "no text was malformed") (by decide +kernel) q_641 q_23 xw_NSE xb_NSE xg_NSE dX8_errorPosition_7 dX8_errorPosition_10 dX8_errorPosition_11 dX8_errorPosition_13 dX8_errorPosition_16 (Nat.le_of_ble_eq_true rfl) (Nat.le_of_ble_eq_true rfl) (by show cells + 1 ≤ 1; omega) (by show slots + 6 ≤ 6; omega) hw (by omega) (by omega)
def wp_X8_errorPosition (Q : Int32 → MS → Prop) (QX : String → MS → Prop) (S : MS) (a0 : Nat) : Prop := wX8_errorPosition_0 Q QX S a0
set_option maxHeartbeats 4000000 in
set_option maxRecDepth 100000 in
theorem met_X8_errorPosition {l : Launch} (hst : l.stackTraces = false) (G : GP) (sz : Nat) (Q : Int32 → MS → Prop) (QX : String → MS → Prop) (S : MS) (a0 : Nat) (p_a0 : pI S 8 a0) (hw : wp_X8_errorPosition Q QX S a0) : vx_Met l yX8_errorPosition (.code yX8_errorPosition cX8_errorPosition 1 (some .int) :: GW) rmX8_errorPosition (va_Pc [.ref a0] (PR G S sz)) (QI G S (FA G S sz) Q) (XX G S (FA G S sz) QX) 1 6 (FA G S sz) := by
  refine st_m (by decide +kernel) hst (fun p e s m below meth c C hr hnm hex P => ?_)
  refine en_m (Nat.le_of_ble_eq_true rfl) (lv := [(0, .ref a0)]) rfl (fun ls hl => ?_)
  have C : CF p l s m _ meth c "SkirmishGrid" cX8_errorPosition 1 G (FA G S sz) := C
  exact tX8_errorPosition_0 C hr hex Q QX S a0 p_a0 P hl (by omega) (by omega) hw
theorem cd_X8_errorPosition : yX8_errorPosition.cls = RX8 ∧ yX8_errorPosition.cls ≠ "java/lang/invoke/MethodHandle" ∧ yX8_errorPosition.cls ≠ "java/lang/invoke/VarHandle" ∧ (parseMethodDescriptor yX8_errorPosition.desc).map (fun d => d.parameters.length) = some 0 := by decide +kernel
abbrev rmX8_terrain : Room := { frames := 6, cells := 1, slots := 6, locals := 145 }
def wX8_terrain_32 (Q : Int32 → MS → Prop) (QX : String → MS → Prop) (S : MS) : Prop := QX "java/lang/IndexOutOfBoundsException" S
set_option maxHeartbeats 4000000 in
set_option maxRecDepth 100000 in
theorem tX8_terrain_32 {p : Program} {l : Launch} {e : Env} {s : State} {m : MethodId} {args : Array Value} {below : List Frame} {meth : Method} {c : Code} {H : Heap} {locs : List Loc} {cells slots : Nat} {G : GP} {A : Nat → Prop} {S0 : MS} {ls : Array Slot} (C : CF p l s m args meth c "SkirmishGrid" cX8_terrain 5 G A) (hr : meth.sig.returnType = (some .char)) (hex : ∀ x ∈ c.exceptionTable.toList, False) (Q : Int32 → MS → Prop) (QX : String → MS → Prop) (S : MS) (P : PW G A s H locs S0 S) (hl : lv_has ls 5 []) (hcc : cells + 1 ≤ 1) (hss : slots + 6 ≤ 6) (hw : wX8_terrain_32 Q QX S) : W p l e rmX8_terrain s m args below meth c H locs cells slots (vx_MQ below (QI G S0 A Q) (XX G S0 A QX) args s 1 6 A) (F0 m 32 ls []) := by
  have hx := CF_x C
  have hb := CF_b C
  unfold wX8_terrain_32 at hw
  exact th_S C hex P hl.1 (E := "java/lang/IndexOutOfBoundsException") (text := "no such cell") (by decide +kernel) (by decide +kernel) (by decide +kernel) q_688 q_24 xw_IOB xb_IOB xg_IOB dX8_terrain_32 dX8_terrain_35 dX8_terrain_36 dX8_terrain_38 dX8_terrain_41 (Nat.le_of_ble_eq_true rfl) (Nat.le_of_ble_eq_true rfl) (by show cells + 1 ≤ 1; omega) (by show slots + 6 ≤ 6; omega) hw (by omega) (by omega)
def wX8_terrain_0 (Q : Int32 → MS → Prop) (QX : String → MS → Prop) (S : MS) (a0 : Nat) (x1 : Int32) (x2 : Int32) : Prop := (∃ a1, mR S a0 3 = some a1 ∧ (∃ a2, mR S a1 0 = some a2 ∧ ((x1 < 0 → wX8_terrain_32 Q QX S) ∧ (¬ x1 < 0 → (((mI S a2 1) ≤ x1 → wX8_terrain_32 Q QX S) ∧ (¬ (mI S a2 1) ≤ x1 → ((x2 < 0 → wX8_terrain_32 Q QX S) ∧ (¬ x2 < 0 → ((x2 < (mI S a2 2) → wp_X3_ground (fun r4 S3 => ((r4 < 0 → Q 46 S3) ∧ (¬ r4 < 0 → wp_J0_length_8abf5 (fun r7 S6 => ((r7 ≤ r4 → Q 46 S6) ∧ (¬ r7 ≤ r4 → wp_J0_charAt_5068e (fun r10 S9 => (isC r10 ∧ Q r10 S9)) QX S6 r4))) QX S3))) QX S a2 ((x1 * (mI S a2 2)) + x2)) ∧ (¬ x2 < (mI S a2 2) → wX8_terrain_32 Q QX S))))))))))
set_option maxHeartbeats 4000000 in
set_option maxRecDepth 100000 in
theorem tX8_terrain_0 {p : Program} {l : Launch} {e : Env} {s : State} {m : MethodId} {args : Array Value} {below : List Frame} {meth : Method} {c : Code} {H : Heap} {locs : List Loc} {cells slots : Nat} {G : GP} {A : Nat → Prop} {S0 : MS} {ls : Array Slot} (C : CF p l s m args meth c "SkirmishGrid" cX8_terrain 5 G A) (hr : meth.sig.returnType = (some .char)) (hex : ∀ x ∈ c.exceptionTable.toList, False) (Q : Int32 → MS → Prop) (QX : String → MS → Prop) (S : MS) (a0 : Nat) (x1 : Int32) (x2 : Int32) (p_a0 : pI S 8 a0) (P : PW G A s H locs S0 S) (hl : lv_has ls 5 [(0, .ref a0), (1, .int x1), (2, .int x2)]) (hcc : cells + 1 ≤ 1) (hss : slots + 6 ≤ 6) (hw : wX8_terrain_0 Q QX S a0 x1 x2) : W p l e rmX8_terrain s m args below meth c H locs cells slots (vx_MQ below (QI G S0 A Q) (XX G S0 A QX) args s 1 6 A) (F0 m 0 ls []) := by
  have hx := CF_x C
  have hb := CF_b C
  unfold wX8_terrain_0 at hw
  refine lv_aload_n hx hb dX8_terrain_0 rfl (lv_at hl 0 rfl) ?_
  obtain ⟨a1, e1, hw⟩ := hw
  have p_a1 : pI S 2 a1 := wf_r P.2.2.2.1 p_a0 e1
  refine gf_8_3 C P p_a0 e1 q_302 dX8_terrain_1 ?_
  obtain ⟨a2, e1, hw⟩ := hw
  have p_a2 : pI S 3 a2 := wf_r P.2.2.2.1 p_a1 e1
  refine gf_2_0 C P p_a1 e1 q_163 dX8_terrain_4 ?_
  refine lv_astore_n (lv' := [(3, .ref a2), (0, .ref a0), (1, .int x1), (2, .int x2)]) hx hb dX8_terrain_7 rfl hl (by decide) rfl (fun ls hl => ?_)
  refine lv_iload_n hx hb dX8_terrain_8 rfl (lv_at hl 2 rfl) ?_
  refine lv_if_lt (tgt := 32) hx hb dX8_terrain_9 (by decide) (fun hc => ?_) (fun hc => ?_)
  · have hw := hw.1 hc
    exact tX8_terrain_32 C hr hex Q QX S P (lv_sub hl [] rfl) (by omega) (by omega) hw
  · have hw := hw.2 hc
    refine lv_iload_n hx hb dX8_terrain_12 rfl (lv_at hl 2 rfl) ?_
    refine lv_aload_n hx hb dX8_terrain_13 rfl (lv_at hl 0 rfl) ?_
    refine gf_3_1 C P p_a2 q_53 dX8_terrain_14 ?_
    refine lv_icmp_ge (tgt := 32) hx hb dX8_terrain_17 (by decide) (fun hc => ?_) (fun hc => ?_)
    · have hw := hw.1 hc
      exact tX8_terrain_32 C hr hex Q QX S P (lv_sub hl [] rfl) (by omega) (by omega) hw
    · have hw := hw.2 hc
      refine lv_iload_n hx hb dX8_terrain_20 rfl (lv_at hl 3 rfl) ?_
      refine lv_if_lt (tgt := 32) hx hb dX8_terrain_21 (by decide) (fun hc => ?_) (fun hc => ?_)
      · have hw := hw.1 hc
        exact tX8_terrain_32 C hr hex Q QX S P (lv_sub hl [] rfl) (by omega) (by omega) hw
      · have hw := hw.2 hc
        refine lv_iload_n hx hb dX8_terrain_24 rfl (lv_at hl 3 rfl) ?_
        refine lv_aload_n hx hb dX8_terrain_25 rfl (lv_at hl 0 rfl) ?_
        refine gf_3_2 C P p_a2 q_56 dX8_terrain_26 ?_
        refine lv_icmp_lt (tgt := 42) hx hb dX8_terrain_29 (by decide) (fun hc => ?_) (fun hc => ?_)
        · have hw := hw.1 hc
          refine lv_aload_n hx hb dX8_terrain_42 rfl (lv_at hl 0 rfl) ?_
          refine lv_iload_n hx hb dX8_terrain_43 rfl (lv_at hl 2 rfl) ?_
          refine lv_aload_n hx hb dX8_terrain_44 rfl (lv_at hl 0 rfl) ?_
          refine gf_3_2 C P p_a2 q_56 dX8_terrain_45 ?_
          refine lv_imul hx hb dX8_terrain_48 ?_
          refine lv_iload_n hx hb dX8_terrain_49 rfl (lv_at hl 3 rfl) ?_
          refine lv_iadd hx hb dX8_terrain_50 ?_
          refine cl_i C P (run_V C P hl.1 (kd := 3) (met_X3_ground (CF_n C) G H.size _ _ S a2 ((x1 * (mI S a2 2)) + x2) p_a2 hw) p_a2 (by decide) rfl q_701 q_702 q_703 q_3 q_704 cd_X3_ground ⟨(Nat.le_of_ble_eq_true rfl), (Nat.le_of_ble_eq_true rfl)⟩ rfl rfl (As := [.int ((x1 * (mI S a2 2)) + x2)]) (rest := []) rfl rfl (Nat.le_of_ble_eq_true rfl) dX8_terrain_51 ⟨by show cells + 0 ≤ 1; omega, by show slots + 0 ≤ 6; omega⟩) (kx_out C hex (fun _ _ _ h => h) (by omega) (by omega)) (fun r4 S3 H locs P hE hw => ?_)
          have p_a2 : pI S3 3 a2 := pI_x hE p_a2
          refine lv_istore (lv' := [(4, .int r4), (3, .ref a2), (0, .ref a0), (1, .int x1), (2, .int x2)]) hx hb dX8_terrain_54 hl (by decide) rfl (fun ls hl => ?_)
          refine lv_iload hx hb dX8_terrain_56 (lv_at hl 0 rfl) ?_
          refine lv_if_lt (tgt := 81) hx hb dX8_terrain_58 (by decide) (fun hc => ?_) (fun hc => ?_)
          · have hw := hw.1 hc
            refine lv_bipush (v := 46) hx hb dX8_terrain_81 (by decide) ?_
            exact e_i C hr (by decide +kernel) P hw (by omega) (by omega) dX8_terrain_83
          · have hw := hw.2 hc
            refine lv_iload hx hb dX8_terrain_61 (lv_at hl 0 rfl) ?_
            obtain ⟨sa5, sa5v, g1, g2, g3, g4, g5, g6, g7, g8⟩ := (CF_S C).2.2.2.2.2.1
            have hs : SL sa5 sa5v A s s.heap := ⟨g3, g4, g5, g6⟩
            refine va_ldcS hx hb (CF_o C) g1 dX8_terrain_63 ?_
            refine cl_i C P (run_VJ C P hl.1 hs (met_J0_length_8abf5 (CF_n C) G H.size _ _ S3 hw) q_705 q_525 q_526 q_16 q_527 cd_J0_length_8abf5 ⟨(Nat.le_of_ble_eq_true rfl), (Nat.le_of_ble_eq_true rfl)⟩ rfl rfl (As := []) (rest := [.int r4]) rfl rfl (Nat.le_of_ble_eq_true rfl) dX8_terrain_65 ⟨by show cells + 0 ≤ 1; omega, by show slots + 0 ≤ 6; omega⟩) (kx_out C hex (fun _ _ _ h => h) (by omega) (by omega)) (fun r7 S6 H locs P hE hw => ?_)
            refine lv_icmp_ge (tgt := 81) hx hb dX8_terrain_68 (by decide) (fun hc => ?_) (fun hc => ?_)
            · have hw := hw.1 hc
              refine lv_bipush (v := 46) hx hb dX8_terrain_81 (by decide) ?_
              exact e_i C hr (by decide +kernel) P hw (by omega) (by omega) dX8_terrain_83
            · have hw := hw.2 hc
              obtain ⟨sa8, sa8v, g1, g2, g3, g4, g5, g6, g7, g8⟩ := (CF_S C).2.2.2.2.2.1
              have hs : SL sa8 sa8v A s s.heap := ⟨g3, g4, g5, g6⟩
              refine va_ldcS hx hb (CF_o C) g1 dX8_terrain_71 ?_
              refine lv_iload hx hb dX8_terrain_73 (lv_at hl 0 rfl) ?_
              refine cl_i C P (run_VJ C P hl.1 hs (met_J0_charAt_5068e (CF_n C) G H.size _ _ S6 r4 hw) q_706 q_707 q_708 q_16 q_709 cd_J0_charAt_5068e ⟨(Nat.le_of_ble_eq_true rfl), (Nat.le_of_ble_eq_true rfl)⟩ rfl rfl (As := [.int r4]) (rest := []) rfl rfl (Nat.le_of_ble_eq_true rfl) dX8_terrain_75 ⟨by show cells + 0 ≤ 1; omega, by show slots + 0 ≤ 6; omega⟩) (kx_out C hex (fun _ _ _ h => h) (by omega) (by omega)) (fun r10 S9 H locs P hE hw => ?_)
              refine lv_goto (tgt := 83) hx hb dX8_terrain_78 (by decide) ?_
              obtain ⟨h1, hw⟩ := hw
              exact e_i C hr (nc h1) P hw (by omega) (by omega) dX8_terrain_83
        · have hw := hw.2 hc
          exact tX8_terrain_32 C hr hex Q QX S P (lv_sub hl [] rfl) (by omega) (by omega) hw
def wp_X8_terrain (Q : Int32 → MS → Prop) (QX : String → MS → Prop) (S : MS) (a0 : Nat) (x1 : Int32) (x2 : Int32) : Prop := wX8_terrain_0 Q QX S a0 x1 x2
set_option maxHeartbeats 4000000 in
set_option maxRecDepth 100000 in
theorem met_X8_terrain {l : Launch} (hst : l.stackTraces = false) (G : GP) (sz : Nat) (Q : Int32 → MS → Prop) (QX : String → MS → Prop) (S : MS) (a0 : Nat) (x1 : Int32) (x2 : Int32) (p_a0 : pI S 8 a0) (hw : wp_X8_terrain Q QX S a0 x1 x2) : vx_Met l yX8_terrain (.code yX8_terrain cX8_terrain 5 (some .char) :: GW) rmX8_terrain (va_Pc [.ref a0, .int x1, .int x2] (PR G S sz)) (QI G S (FA G S sz) Q) (XX G S (FA G S sz) QX) 1 6 (FA G S sz) := by
  refine st_m (by decide +kernel) hst (fun p e s m below meth c C hr hnm hex P => ?_)
  refine en_m (Nat.le_of_ble_eq_true rfl) (lv := [(0, .ref a0), (1, .int x1), (2, .int x2)]) rfl (fun ls hl => ?_)
  have C : CF p l s m _ meth c "SkirmishGrid" cX8_terrain 5 G (FA G S sz) := C
  exact tX8_terrain_0 C hr hex Q QX S a0 x1 x2 p_a0 P hl (by omega) (by omega) hw
theorem cd_X8_terrain : yX8_terrain.cls = RX8 ∧ yX8_terrain.cls ≠ "java/lang/invoke/MethodHandle" ∧ yX8_terrain.cls ≠ "java/lang/invoke/VarHandle" ∧ (parseMethodDescriptor yX8_terrain.desc).map (fun d => d.parameters.length) = some 2 := by decide +kernel
abbrev rmX8_requireCell : Room := { frames := 6, cells := 1, slots := 6, locals := 110 }
def wX8_requireCell_0 (Q : MS → Prop) (QX : String → MS → Prop) (S : MS) (a0 : Nat) (x1 : Int32) : Prop := (∃ a1, mR S a0 3 = some a1 ∧ (∃ a2, mR S a1 0 = some a2 ∧ wp_X3_hasCell (fun r4 S3 => ((¬ r4 = 0 → Q S3) ∧ (r4 = 0 → QX "java/lang/IndexOutOfBoundsException" S3))) QX S a2 x1))
set_option maxHeartbeats 4000000 in
set_option maxRecDepth 100000 in
theorem tX8_requireCell_0 {p : Program} {l : Launch} {e : Env} {s : State} {m : MethodId} {args : Array Value} {below : List Frame} {meth : Method} {c : Code} {H : Heap} {locs : List Loc} {cells slots : Nat} {G : GP} {A : Nat → Prop} {S0 : MS} {ls : Array Slot} (C : CF p l s m args meth c "SkirmishGrid" cX8_requireCell 2 G A) (hr : meth.sig.returnType = none) (hex : ∀ x ∈ c.exceptionTable.toList, False) (Q : MS → Prop) (QX : String → MS → Prop) (S : MS) (a0 : Nat) (x1 : Int32) (p_a0 : pI S 8 a0) (P : PW G A s H locs S0 S) (hl : lv_has ls 2 [(0, .ref a0), (1, .int x1)]) (hcc : cells + 1 ≤ 1) (hss : slots + 6 ≤ 6) (hw : wX8_requireCell_0 Q QX S a0 x1) : W p l e rmX8_requireCell s m args below meth c H locs cells slots (vx_MQ below (QV G S0 A Q) (XX G S0 A QX) args s 1 6 A) (F0 m 0 ls []) := by
  have hx := CF_x C
  have hb := CF_b C
  unfold wX8_requireCell_0 at hw
  refine lv_aload_n hx hb dX8_requireCell_0 rfl (lv_at hl 0 rfl) ?_
  obtain ⟨a1, e1, hw⟩ := hw
  have p_a1 : pI S 2 a1 := wf_r P.2.2.2.1 p_a0 e1
  refine gf_8_3 C P p_a0 e1 q_302 dX8_requireCell_1 ?_
  obtain ⟨a2, e1, hw⟩ := hw
  have p_a2 : pI S 3 a2 := wf_r P.2.2.2.1 p_a1 e1
  refine gf_2_0 C P p_a1 e1 q_163 dX8_requireCell_4 ?_
  refine lv_iload_n hx hb dX8_requireCell_7 rfl (lv_at hl 1 rfl) ?_
  refine cl_i C P (run_V C P hl.1 (kd := 3) (met_X3_hasCell (CF_n C) G H.size _ _ S a2 x1 p_a2 hw) p_a2 (by decide) rfl q_737 q_738 q_739 q_3 q_740 cd_X3_hasCell ⟨(Nat.le_of_ble_eq_true rfl), (Nat.le_of_ble_eq_true rfl)⟩ rfl rfl (As := [.int x1]) (rest := []) rfl rfl (Nat.le_of_ble_eq_true rfl) dX8_requireCell_8 ⟨by show cells + 0 ≤ 1; omega, by show slots + 0 ≤ 6; omega⟩) (kx_out C hex (fun _ _ _ h => h) (by omega) (by omega)) (fun r4 S3 H locs P hE hw => ?_)
  have p_a2 : pI S3 3 a2 := pI_x hE p_a2
  refine lv_if_ne (tgt := 24) hx hb dX8_requireCell_11 (by decide) (fun hc => ?_) (fun hc => ?_)
  · have hw := hw.1 hc
    exact e_v C hr P hw (by omega) (by omega) dX8_requireCell_24
  · have hw := hw.2 hc
    exact th_S C hex P hl.1 (E := "java/lang/IndexOutOfBoundsException") (text := "no such cell") (by decide +kernel) (by decide +kernel) (by decide +kernel) q_688 q_24 xw_IOB xb_IOB xg_IOB dX8_requireCell_14 dX8_requireCell_17 dX8_requireCell_18 dX8_requireCell_20 dX8_requireCell_23 (Nat.le_of_ble_eq_true rfl) (Nat.le_of_ble_eq_true rfl) (by show cells + 1 ≤ 1; omega) (by show slots + 6 ≤ 6; omega) hw (by omega) (by omega)
def wp_X8_requireCell (Q : MS → Prop) (QX : String → MS → Prop) (S : MS) (a0 : Nat) (x1 : Int32) : Prop := wX8_requireCell_0 Q QX S a0 x1
set_option maxHeartbeats 4000000 in
set_option maxRecDepth 100000 in
theorem met_X8_requireCell {l : Launch} (hst : l.stackTraces = false) (G : GP) (sz : Nat) (Q : MS → Prop) (QX : String → MS → Prop) (S : MS) (a0 : Nat) (x1 : Int32) (p_a0 : pI S 8 a0) (hw : wp_X8_requireCell Q QX S a0 x1) : vx_Met l yX8_requireCell (.code yX8_requireCell cX8_requireCell 2 none :: GW) rmX8_requireCell (va_Pc [.ref a0, .int x1] (PR G S sz)) (QV G S (FA G S sz) Q) (XX G S (FA G S sz) QX) 1 6 (FA G S sz) := by
  refine st_m (by decide +kernel) hst (fun p e s m below meth c C hr hnm hex P => ?_)
  refine en_m (Nat.le_of_ble_eq_true rfl) (lv := [(0, .ref a0), (1, .int x1)]) rfl (fun ls hl => ?_)
  have C : CF p l s m _ meth c "SkirmishGrid" cX8_requireCell 2 G (FA G S sz) := C
  exact tX8_requireCell_0 C hr hex Q QX S a0 x1 p_a0 P hl (by omega) (by omega) hw
theorem cd_X8_requireCell : yX8_requireCell.cls = RX8 ∧ yX8_requireCell.cls ≠ "java/lang/invoke/MethodHandle" ∧ yX8_requireCell.cls ≠ "java/lang/invoke/VarHandle" ∧ (parseMethodDescriptor yX8_requireCell.desc).map (fun d => d.parameters.length) = some 1 := by decide +kernel
abbrev rmX8_isSeen : Room := { frames := 7, cells := 2, slots := 12, locals := 131 }
def wX8_isSeen_0 (Q : Int32 → MS → Prop) (QX : String → MS → Prop) (S : MS) (a0 : Nat) (x1 : Int32) (x2 : Int32) : Prop := wp_X8_requireCell (fun S1 => wp_X8_requireCell (fun S2 => (∃ a3, mR S2 a0 3 = some a3 ∧ (∃ a4, mR S2 a3 0 = some a4 ∧ wp_X3_isClear (fun r6 S5 => (isZ r6 ∧ Q r6 S5)) QX S2 a4 x1 x2))) QX S1 a0 x2) QX S a0 x1
set_option maxHeartbeats 4000000 in
set_option maxRecDepth 100000 in
theorem tX8_isSeen_0 {p : Program} {l : Launch} {e : Env} {s : State} {m : MethodId} {args : Array Value} {below : List Frame} {meth : Method} {c : Code} {H : Heap} {locs : List Loc} {cells slots : Nat} {G : GP} {A : Nat → Prop} {S0 : MS} {ls : Array Slot} (C : CF p l s m args meth c "SkirmishGrid" cX8_isSeen 3 G A) (hr : meth.sig.returnType = (some .boolean)) (hex : ∀ x ∈ c.exceptionTable.toList, False) (Q : Int32 → MS → Prop) (QX : String → MS → Prop) (S : MS) (a0 : Nat) (x1 : Int32) (x2 : Int32) (p_a0 : pI S 8 a0) (P : PW G A s H locs S0 S) (hl : lv_has ls 3 [(0, .ref a0), (1, .int x1), (2, .int x2)]) (hcc : cells + 2 ≤ 2) (hss : slots + 12 ≤ 12) (hw : wX8_isSeen_0 Q QX S a0 x1 x2) : W p l e rmX8_isSeen s m args below meth c H locs cells slots (vx_MQ below (QI G S0 A Q) (XX G S0 A QX) args s 2 12 A) (F0 m 0 ls []) := by
  have hx := CF_x C
  have hb := CF_b C
  unfold wX8_isSeen_0 at hw
  refine lv_aload_n hx hb dX8_isSeen_0 rfl (lv_at hl 0 rfl) ?_
  refine lv_iload_n hx hb dX8_isSeen_1 rfl (lv_at hl 1 rfl) ?_
  refine cl_v C P (run_V C P hl.1 (kd := 8) (met_X8_requireCell (CF_n C) G H.size _ _ S a0 x1 p_a0 hw) p_a0 (by decide) rfl q_733 q_735 q_p1 q_1 q_736 cd_X8_requireCell ⟨(Nat.le_of_ble_eq_true rfl), (Nat.le_of_ble_eq_true rfl)⟩ rfl rfl (As := [.int x1]) (rest := []) rfl rfl (Nat.le_of_ble_eq_true rfl) dX8_isSeen_2 ⟨by show cells + 1 ≤ 2; omega, by show slots + 6 ≤ 12; omega⟩) (kx_out C hex (fun _ _ _ h => h) (by omega) (by omega)) (fun S1 H locs P hE hw => ?_)
  have p_a0 : pI S1 8 a0 := pI_x hE p_a0
  refine lv_aload_n hx hb dX8_isSeen_5 rfl (lv_at hl 0 rfl) ?_
  refine lv_iload_n hx hb dX8_isSeen_6 rfl (lv_at hl 2 rfl) ?_
  refine cl_v C P (run_V C P hl.1 (kd := 8) (met_X8_requireCell (CF_n C) G H.size _ _ S1 a0 x2 p_a0 hw) p_a0 (by decide) rfl q_733 q_735 q_p1 q_1 q_736 cd_X8_requireCell ⟨(Nat.le_of_ble_eq_true rfl), (Nat.le_of_ble_eq_true rfl)⟩ rfl rfl (As := [.int x2]) (rest := []) rfl rfl (Nat.le_of_ble_eq_true rfl) dX8_isSeen_7 ⟨by show cells + 1 + 1 ≤ 2; omega, by show slots + 6 + 6 ≤ 12; omega⟩) (kx_out C hex (fun _ _ _ h => h) (by omega) (by omega)) (fun S2 H locs P hE hw => ?_)
  have p_a0 : pI S2 8 a0 := pI_x hE p_a0
  refine lv_aload_n hx hb dX8_isSeen_10 rfl (lv_at hl 0 rfl) ?_
  obtain ⟨a3, e1, hw⟩ := hw
  have p_a3 : pI S2 2 a3 := wf_r P.2.2.2.1 p_a0 e1
  refine gf_8_3 C P p_a0 e1 q_302 dX8_isSeen_11 ?_
  obtain ⟨a4, e1, hw⟩ := hw
  have p_a4 : pI S2 3 a4 := wf_r P.2.2.2.1 p_a3 e1
  refine gf_2_0 C P p_a3 e1 q_163 dX8_isSeen_14 ?_
  refine lv_iload_n hx hb dX8_isSeen_17 rfl (lv_at hl 1 rfl) ?_
  refine lv_iload_n hx hb dX8_isSeen_18 rfl (lv_at hl 2 rfl) ?_
  refine cl_i C P (run_V C P hl.1 (kd := 3) (met_X3_isClear (CF_n C) G H.size _ _ S2 a4 x1 x2 p_a4 hw) p_a4 (by decide) rfl q_741 q_742 q_743 q_3 q_744 cd_X3_isClear ⟨(Nat.le_of_ble_eq_true rfl), (Nat.le_of_ble_eq_true rfl)⟩ rfl rfl (As := [.int x1, .int x2]) (rest := []) rfl rfl (Nat.le_of_ble_eq_true rfl) dX8_isSeen_19 ⟨by show cells + 1 + 1 + 0 ≤ 2; omega, by show slots + 6 + 6 + 0 ≤ 12; omega⟩) (kx_out C hex (fun _ _ _ h => h) (by omega) (by omega)) (fun r6 S5 H locs P hE hw => ?_)
  have p_a4 : pI S5 3 a4 := pI_x hE p_a4
  obtain ⟨h1, hw⟩ := hw
  exact e_i C hr (nz h1) P hw (by omega) (by omega) dX8_isSeen_22
def wp_X8_isSeen (Q : Int32 → MS → Prop) (QX : String → MS → Prop) (S : MS) (a0 : Nat) (x1 : Int32) (x2 : Int32) : Prop := wX8_isSeen_0 Q QX S a0 x1 x2
set_option maxHeartbeats 4000000 in
set_option maxRecDepth 100000 in
theorem met_X8_isSeen {l : Launch} (hst : l.stackTraces = false) (G : GP) (sz : Nat) (Q : Int32 → MS → Prop) (QX : String → MS → Prop) (S : MS) (a0 : Nat) (x1 : Int32) (x2 : Int32) (p_a0 : pI S 8 a0) (hw : wp_X8_isSeen Q QX S a0 x1 x2) : vx_Met l yX8_isSeen (.code yX8_isSeen cX8_isSeen 3 (some .boolean) :: GW) rmX8_isSeen (va_Pc [.ref a0, .int x1, .int x2] (PR G S sz)) (QI G S (FA G S sz) Q) (XX G S (FA G S sz) QX) 2 12 (FA G S sz) := by
  refine st_m (by decide +kernel) hst (fun p e s m below meth c C hr hnm hex P => ?_)
  refine en_m (Nat.le_of_ble_eq_true rfl) (lv := [(0, .ref a0), (1, .int x1), (2, .int x2)]) rfl (fun ls hl => ?_)
  have C : CF p l s m _ meth c "SkirmishGrid" cX8_isSeen 3 G (FA G S sz) := C
  exact tX8_isSeen_0 C hr hex Q QX S a0 x1 x2 p_a0 P hl (by omega) (by omega) hw
theorem cd_X8_isSeen : yX8_isSeen.cls = RX8 ∧ yX8_isSeen.cls ≠ "java/lang/invoke/MethodHandle" ∧ yX8_isSeen.cls ≠ "java/lang/invoke/VarHandle" ∧ (parseMethodDescriptor yX8_isSeen.desc).map (fun d => d.parameters.length) = some 2 := by decide +kernel
abbrev rmX8_cover : Room := { frames := 7, cells := 2, slots := 12, locals := 131 }
def wX8_cover_0 (Q : Int32 → MS → Prop) (QX : String → MS → Prop) (S : MS) (a0 : Nat) (x1 : Int32) (x2 : Int32) : Prop := wp_X8_requireCell (fun S1 => wp_X8_requireCell (fun S2 => (∃ a3, mR S2 a0 3 = some a3 ∧ (∃ a4, mR S2 a3 0 = some a4 ∧ wp_X3_coverOf (fun r6 S5 => Q r6 S5) QX S2 a4 x1 x2))) QX S1 a0 x2) QX S a0 x1
set_option maxHeartbeats 4000000 in
set_option maxRecDepth 100000 in
theorem tX8_cover_0 {p : Program} {l : Launch} {e : Env} {s : State} {m : MethodId} {args : Array Value} {below : List Frame} {meth : Method} {c : Code} {H : Heap} {locs : List Loc} {cells slots : Nat} {G : GP} {A : Nat → Prop} {S0 : MS} {ls : Array Slot} (C : CF p l s m args meth c "SkirmishGrid" cX8_cover 3 G A) (hr : meth.sig.returnType = (some .int)) (hex : ∀ x ∈ c.exceptionTable.toList, False) (Q : Int32 → MS → Prop) (QX : String → MS → Prop) (S : MS) (a0 : Nat) (x1 : Int32) (x2 : Int32) (p_a0 : pI S 8 a0) (P : PW G A s H locs S0 S) (hl : lv_has ls 3 [(0, .ref a0), (1, .int x1), (2, .int x2)]) (hcc : cells + 2 ≤ 2) (hss : slots + 12 ≤ 12) (hw : wX8_cover_0 Q QX S a0 x1 x2) : W p l e rmX8_cover s m args below meth c H locs cells slots (vx_MQ below (QI G S0 A Q) (XX G S0 A QX) args s 2 12 A) (F0 m 0 ls []) := by
  have hx := CF_x C
  have hb := CF_b C
  unfold wX8_cover_0 at hw
  refine lv_aload_n hx hb dX8_cover_0 rfl (lv_at hl 0 rfl) ?_
  refine lv_iload_n hx hb dX8_cover_1 rfl (lv_at hl 1 rfl) ?_
  refine cl_v C P (run_V C P hl.1 (kd := 8) (met_X8_requireCell (CF_n C) G H.size _ _ S a0 x1 p_a0 hw) p_a0 (by decide) rfl q_733 q_735 q_p1 q_1 q_736 cd_X8_requireCell ⟨(Nat.le_of_ble_eq_true rfl), (Nat.le_of_ble_eq_true rfl)⟩ rfl rfl (As := [.int x1]) (rest := []) rfl rfl (Nat.le_of_ble_eq_true rfl) dX8_cover_2 ⟨by show cells + 1 ≤ 2; omega, by show slots + 6 ≤ 12; omega⟩) (kx_out C hex (fun _ _ _ h => h) (by omega) (by omega)) (fun S1 H locs P hE hw => ?_)
  have p_a0 : pI S1 8 a0 := pI_x hE p_a0
  refine lv_aload_n hx hb dX8_cover_5 rfl (lv_at hl 0 rfl) ?_
  refine lv_iload_n hx hb dX8_cover_6 rfl (lv_at hl 2 rfl) ?_
  refine cl_v C P (run_V C P hl.1 (kd := 8) (met_X8_requireCell (CF_n C) G H.size _ _ S1 a0 x2 p_a0 hw) p_a0 (by decide) rfl q_733 q_735 q_p1 q_1 q_736 cd_X8_requireCell ⟨(Nat.le_of_ble_eq_true rfl), (Nat.le_of_ble_eq_true rfl)⟩ rfl rfl (As := [.int x2]) (rest := []) rfl rfl (Nat.le_of_ble_eq_true rfl) dX8_cover_7 ⟨by show cells + 1 + 1 ≤ 2; omega, by show slots + 6 + 6 ≤ 12; omega⟩) (kx_out C hex (fun _ _ _ h => h) (by omega) (by omega)) (fun S2 H locs P hE hw => ?_)
  have p_a0 : pI S2 8 a0 := pI_x hE p_a0
  refine lv_aload_n hx hb dX8_cover_10 rfl (lv_at hl 0 rfl) ?_
  obtain ⟨a3, e1, hw⟩ := hw
  have p_a3 : pI S2 2 a3 := wf_r P.2.2.2.1 p_a0 e1
  refine gf_8_3 C P p_a0 e1 q_302 dX8_cover_11 ?_
  obtain ⟨a4, e1, hw⟩ := hw
  have p_a4 : pI S2 3 a4 := wf_r P.2.2.2.1 p_a3 e1
  refine gf_2_0 C P p_a3 e1 q_163 dX8_cover_14 ?_
  refine lv_iload_n hx hb dX8_cover_17 rfl (lv_at hl 1 rfl) ?_
  refine lv_iload_n hx hb dX8_cover_18 rfl (lv_at hl 2 rfl) ?_
  refine cl_i C P (run_V C P hl.1 (kd := 3) (met_X3_coverOf (CF_n C) G H.size _ _ S2 a4 x1 x2 p_a4 hw) p_a4 (by decide) rfl q_768 q_769 q_770 q_3 q_771 cd_X3_coverOf ⟨(Nat.le_of_ble_eq_true rfl), (Nat.le_of_ble_eq_true rfl)⟩ rfl rfl (As := [.int x1, .int x2]) (rest := []) rfl rfl (Nat.le_of_ble_eq_true rfl) dX8_cover_19 ⟨by show cells + 1 + 1 + 0 ≤ 2; omega, by show slots + 6 + 6 + 0 ≤ 12; omega⟩) (kx_out C hex (fun _ _ _ h => h) (by omega) (by omega)) (fun r6 S5 H locs P hE hw => ?_)
  have p_a4 : pI S5 3 a4 := pI_x hE p_a4
  exact e_i C hr rfl P hw (by omega) (by omega) dX8_cover_22
def wp_X8_cover (Q : Int32 → MS → Prop) (QX : String → MS → Prop) (S : MS) (a0 : Nat) (x1 : Int32) (x2 : Int32) : Prop := wX8_cover_0 Q QX S a0 x1 x2
set_option maxHeartbeats 4000000 in
set_option maxRecDepth 100000 in
theorem met_X8_cover {l : Launch} (hst : l.stackTraces = false) (G : GP) (sz : Nat) (Q : Int32 → MS → Prop) (QX : String → MS → Prop) (S : MS) (a0 : Nat) (x1 : Int32) (x2 : Int32) (p_a0 : pI S 8 a0) (hw : wp_X8_cover Q QX S a0 x1 x2) : vx_Met l yX8_cover (.code yX8_cover cX8_cover 3 (some .int) :: GW) rmX8_cover (va_Pc [.ref a0, .int x1, .int x2] (PR G S sz)) (QI G S (FA G S sz) Q) (XX G S (FA G S sz) QX) 2 12 (FA G S sz) := by
  refine st_m (by decide +kernel) hst (fun p e s m below meth c C hr hnm hex P => ?_)
  refine en_m (Nat.le_of_ble_eq_true rfl) (lv := [(0, .ref a0), (1, .int x1), (2, .int x2)]) rfl (fun ls hl => ?_)
  have C : CF p l s m _ meth c "SkirmishGrid" cX8_cover 3 G (FA G S sz) := C
  exact tX8_cover_0 C hr hex Q QX S a0 x1 x2 p_a0 P hl (by omega) (by omega) hw
theorem cd_X8_cover : yX8_cover.cls = RX8 ∧ yX8_cover.cls ≠ "java/lang/invoke/MethodHandle" ∧ yX8_cover.cls ≠ "java/lang/invoke/VarHandle" ∧ (parseMethodDescriptor yX8_cover.desc).map (fun d => d.parameters.length) = some 2 := by decide +kernel
abbrev rmX8_requireTeam : Room := { frames := 6, cells := 1, slots := 6, locals := 110 }
def wX8_requireTeam_0 (Q : MS → Prop) (QX : String → MS → Prop) (S : MS) (x1 : Int32) : Prop := ((x1 = 0 → Q S) ∧ (¬ x1 = 0 → ((x1 = 1 → Q S) ∧ (¬ x1 = 1 → QX "java/lang/IndexOutOfBoundsException" S))))
set_option maxHeartbeats 4000000 in
set_option maxRecDepth 100000 in
theorem tX8_requireTeam_0 {p : Program} {l : Launch} {e : Env} {s : State} {m : MethodId} {args : Array Value} {below : List Frame} {meth : Method} {c : Code} {H : Heap} {locs : List Loc} {cells slots : Nat} {G : GP} {A : Nat → Prop} {S0 : MS} {ls : Array Slot} (C : CF p l s m args meth c "SkirmishGrid" cX8_requireTeam 1 G A) (hr : meth.sig.returnType = none) (hex : ∀ x ∈ c.exceptionTable.toList, False) (Q : MS → Prop) (QX : String → MS → Prop) (S : MS) (x1 : Int32) (P : PW G A s H locs S0 S) (hl : lv_has ls 1 [(0, .int x1)]) (hcc : cells + 1 ≤ 1) (hss : slots + 6 ≤ 6) (hw : wX8_requireTeam_0 Q QX S x1) : W p l e rmX8_requireTeam s m args below meth c H locs cells slots (vx_MQ below (QV G S0 A Q) (XX G S0 A QX) args s 1 6 A) (F0 m 0 ls []) := by
  have hx := CF_x C
  have hb := CF_b C
  unfold wX8_requireTeam_0 at hw
  refine lv_iload_n hx hb dX8_requireTeam_0 rfl (lv_at hl 0 rfl) ?_
  refine lv_if_eq (tgt := 20) hx hb dX8_requireTeam_1 (by decide) (fun hc => ?_) (fun hc => ?_)
  · have hw := hw.1 hc
    exact e_v C hr P hw (by omega) (by omega) dX8_requireTeam_20
  · have hw := hw.2 hc
    refine lv_iload_n hx hb dX8_requireTeam_4 rfl (lv_at hl 0 rfl) ?_
    refine lv_iconst (v := 1) hx hb dX8_requireTeam_5 (by decide) ?_
    refine lv_icmp_eq (tgt := 20) hx hb dX8_requireTeam_6 (by decide) (fun hc => ?_) (fun hc => ?_)
    · have hw := hw.1 hc
      exact e_v C hr P hw (by omega) (by omega) dX8_requireTeam_20
    · have hw := hw.2 hc
      exact th_W C hex P hl.1 (E := "java/lang/IndexOutOfBoundsException") (text := "no such team") (by decide +kernel) (by decide +kernel) (by decide +kernel) q_688 q_24 xw_IOB xb_IOB xg_IOB dX8_requireTeam_9 dX8_requireTeam_12 dX8_requireTeam_13 dX8_requireTeam_16 dX8_requireTeam_19 (Nat.le_of_ble_eq_true rfl) (Nat.le_of_ble_eq_true rfl) (by show cells + 1 ≤ 1; omega) (by show slots + 6 ≤ 6; omega) hw (by omega) (by omega)
def wp_X8_requireTeam (Q : MS → Prop) (QX : String → MS → Prop) (S : MS) (x1 : Int32) : Prop := wX8_requireTeam_0 Q QX S x1
set_option maxHeartbeats 4000000 in
set_option maxRecDepth 100000 in
theorem met_X8_requireTeam {l : Launch} (hst : l.stackTraces = false) (G : GP) (sz : Nat) (Q : MS → Prop) (QX : String → MS → Prop) (S : MS) (x1 : Int32) (hw : wp_X8_requireTeam Q QX S x1) : vx_Met l yX8_requireTeam (.code yX8_requireTeam cX8_requireTeam 1 none :: GW) rmX8_requireTeam (va_Pc [.int x1] (PR G S sz)) (QV G S (FA G S sz) Q) (XX G S (FA G S sz) QX) 1 6 (FA G S sz) := by
  refine st_m (by decide +kernel) hst (fun p e s m below meth c C hr hnm hex P => ?_)
  refine en_m (Nat.le_of_ble_eq_true rfl) (lv := [(0, .int x1)]) rfl (fun ls hl => ?_)
  have C : CF p l s m _ meth c "SkirmishGrid" cX8_requireTeam 1 G (FA G S sz) := C
  exact tX8_requireTeam_0 C hr hex Q QX S x1 P hl (by omega) (by omega) hw
theorem cd_X8_requireTeam : yX8_requireTeam.cls = RX8 ∧ yX8_requireTeam.cls ≠ "java/lang/invoke/MethodHandle" ∧ yX8_requireTeam.cls ≠ "java/lang/invoke/VarHandle" ∧ (parseMethodDescriptor yX8_requireTeam.desc).map (fun d => d.parameters.length) = some 1 := by decide +kernel
abbrev rmX8_addUnit : Room := { frames := 7, cells := 3, slots := 18, locals := 131 }
def wX8_addUnit_13 (Q : Int32 → MS → Prop) (QX : String → MS → Prop) (S : MS) : Prop := QX "java/lang/IndexOutOfBoundsException" S
set_option maxHeartbeats 4000000 in
set_option maxRecDepth 100000 in
theorem tX8_addUnit_13 {p : Program} {l : Launch} {e : Env} {s : State} {m : MethodId} {args : Array Value} {below : List Frame} {meth : Method} {c : Code} {H : Heap} {locs : List Loc} {cells slots : Nat} {G : GP} {A : Nat → Prop} {S0 : MS} {ls : Array Slot} (C : CF p l s m args meth c "SkirmishGrid" cX8_addUnit 4 G A) (hr : meth.sig.returnType = (some .int)) (hex : ∀ x ∈ c.exceptionTable.toList, False) (Q : Int32 → MS → Prop) (QX : String → MS → Prop) (S : MS) (P : PW G A s H locs S0 S) (hl : lv_has ls 4 []) (hcc : cells + 1 ≤ 3) (hss : slots + 6 ≤ 18) (hw : wX8_addUnit_13 Q QX S) : W p l e rmX8_addUnit s m args below meth c H locs cells slots (vx_MQ below (QI G S0 A Q) (XX G S0 A QX) args s 3 18 A) (F0 m 13 ls []) := by
  have hx := CF_x C
  have hb := CF_b C
  unfold wX8_addUnit_13 at hw
  exact th_S C hex P hl.1 (E := "java/lang/IndexOutOfBoundsException") (text := "no such kind") (by decide +kernel) (by decide +kernel) (by decide +kernel) q_688 q_24 xw_IOB xb_IOB xg_IOB dX8_addUnit_13 dX8_addUnit_16 dX8_addUnit_17 dX8_addUnit_19 dX8_addUnit_22 (Nat.le_of_ble_eq_true rfl) (Nat.le_of_ble_eq_true rfl) (by show cells + 1 ≤ 3; omega) (by show slots + 6 ≤ 18; omega) hw (by omega) (by omega)
def wX8_addUnit_54 (Q : Int32 → MS → Prop) (QX : String → MS → Prop) (S : MS) : Prop := QX "java/lang/IllegalArgumentException" S
set_option maxHeartbeats 4000000 in
set_option maxRecDepth 100000 in
theorem tX8_addUnit_54 {p : Program} {l : Launch} {e : Env} {s : State} {m : MethodId} {args : Array Value} {below : List Frame} {meth : Method} {c : Code} {H : Heap} {locs : List Loc} {cells slots : Nat} {G : GP} {A : Nat → Prop} {S0 : MS} {ls : Array Slot} (C : CF p l s m args meth c "SkirmishGrid" cX8_addUnit 4 G A) (hr : meth.sig.returnType = (some .int)) (hex : ∀ x ∈ c.exceptionTable.toList, False) (Q : Int32 → MS → Prop) (QX : String → MS → Prop) (S : MS) (P : PW G A s H locs S0 S) (hl : lv_has ls 4 []) (hcc : cells + 1 ≤ 3) (hss : slots + 6 ≤ 18) (hw : wX8_addUnit_54 Q QX S) : W p l e rmX8_addUnit s m args below meth c H locs cells slots (vx_MQ below (QI G S0 A Q) (XX G S0 A QX) args s 3 18 A) (F0 m 54 ls []) := by
  have hx := CF_x C
  have hb := CF_b C
  unfold wX8_addUnit_54 at hw
  exact th_S C hex P hl.1 (E := "java/lang/IllegalArgumentException") (text := "the cell is a wall or has a unit") (by decide +kernel) (by decide +kernel) (by decide +kernel) q_410 q_14 xw_IAE xb_IAE xg_IAE dX8_addUnit_54 dX8_addUnit_57 dX8_addUnit_58 dX8_addUnit_60 dX8_addUnit_63 (Nat.le_of_ble_eq_true rfl) (Nat.le_of_ble_eq_true rfl) (by show cells + 1 ≤ 3; omega) (by show slots + 6 ≤ 18; omega) hw (by omega) (by omega)
def wX8_addUnit_86 (Q : Int32 → MS → Prop) (QX : String → MS → Prop) (S : MS) : Prop := QX "java/lang/IllegalStateException" S
set_option maxHeartbeats 4000000 in
set_option maxRecDepth 100000 in
theorem tX8_addUnit_86 {p : Program} {l : Launch} {e : Env} {s : State} {m : MethodId} {args : Array Value} {below : List Frame} {meth : Method} {c : Code} {H : Heap} {locs : List Loc} {cells slots : Nat} {G : GP} {A : Nat → Prop} {S0 : MS} {ls : Array Slot} (C : CF p l s m args meth c "SkirmishGrid" cX8_addUnit 4 G A) (hr : meth.sig.returnType = (some .int)) (hex : ∀ x ∈ c.exceptionTable.toList, False) (Q : Int32 → MS → Prop) (QX : String → MS → Prop) (S : MS) (P : PW G A s H locs S0 S) (hl : lv_has ls 4 []) (hcc : cells + 1 ≤ 3) (hss : slots + 6 ≤ 18) (hw : wX8_addUnit_86 Q QX S) : W p l e rmX8_addUnit s m args below meth c H locs cells slots (vx_MQ below (QI G S0 A Q) (XX G S0 A QX) args s 3 18 A) (F0 m 86 ls []) := by
  have hx := CF_x C
  have hb := CF_b C
  unfold wX8_addUnit_86 at hw
  exact th_S C hex P hl.1 (E := "java/lang/IllegalStateException") (text := "no units can be added any more") (by decide +kernel) (by decide +kernel) (by decide +kernel) q_482 q_15 xw_ISE xb_ISE xg_ISE dX8_addUnit_86 dX8_addUnit_89 dX8_addUnit_90 dX8_addUnit_92 dX8_addUnit_95 (Nat.le_of_ble_eq_true rfl) (Nat.le_of_ble_eq_true rfl) (by show cells + 1 ≤ 3; omega) (by show slots + 6 ≤ 18; omega) hw (by omega) (by omega)
def wX8_addUnit_0 (Q : Int32 → MS → Prop) (QX : String → MS → Prop) (S : MS) (a0 : Nat) (x1 : Int32) (x2 : Int32) (x3 : Int32) : Prop := wp_X8_requireTeam (fun S1 => ((x2 < 0 → wX8_addUnit_13 Q QX S1) ∧ (¬ x2 < 0 → ((x2 < 4 → wp_X8_requireCell (fun S2 => (∃ a3, mR S2 a0 3 = some a3 ∧ (∃ a4, mR S2 a3 0 = some a4 ∧ wp_X3_ground (fun r6 S5 => ((r6 = 1 → wX8_addUnit_54 Q QX S5) ∧ (¬ r6 = 1 → (∃ a7, mR S5 a0 3 = some a7 ∧ wp_X2_hasUnitOn (fun r9 S8 => ((r9 = 0 → (∃ a10, mR S8 a0 3 = some a10 ∧ wp_X2_hasBegun (fun r12 S11 => ((¬ r12 = 0 → wX8_addUnit_86 Q QX S11) ∧ (r12 = 0 → (∃ a13, mR S11 a0 3 = some a13 ∧ (((mI S11 a13 2) < 8 → (∃ a14, mR S11 a0 3 = some a14 ∧ wp_X2_enlist (fun r16 S15 => Q r16 S15) QX S11 a14 x1 x2 x3)) ∧ (¬ (mI S11 a13 2) < 8 → wX8_addUnit_86 Q QX S11)))))) QX S8 a10)) ∧ (¬ r9 = 0 → wX8_addUnit_54 Q QX S8))) QX S5 a7 x3)))) QX S2 a4 x3))) QX S1 a0 x3) ∧ (¬ x2 < 4 → wX8_addUnit_13 Q QX S1))))) QX S x1
set_option maxHeartbeats 4000000 in
set_option maxRecDepth 100000 in
theorem tX8_addUnit_0 {p : Program} {l : Launch} {e : Env} {s : State} {m : MethodId} {args : Array Value} {below : List Frame} {meth : Method} {c : Code} {H : Heap} {locs : List Loc} {cells slots : Nat} {G : GP} {A : Nat → Prop} {S0 : MS} {ls : Array Slot} (C : CF p l s m args meth c "SkirmishGrid" cX8_addUnit 4 G A) (hr : meth.sig.returnType = (some .int)) (hex : ∀ x ∈ c.exceptionTable.toList, False) (Q : Int32 → MS → Prop) (QX : String → MS → Prop) (S : MS) (a0 : Nat) (x1 : Int32) (x2 : Int32) (x3 : Int32) (p_a0 : pI S 8 a0) (P : PW G A s H locs S0 S) (hl : lv_has ls 4 [(0, .ref a0), (1, .int x1), (2, .int x2), (3, .int x3)]) (hcc : cells + 3 ≤ 3) (hss : slots + 18 ≤ 18) (hw : wX8_addUnit_0 Q QX S a0 x1 x2 x3) : W p l e rmX8_addUnit s m args below meth c H locs cells slots (vx_MQ below (QI G S0 A Q) (XX G S0 A QX) args s 3 18 A) (F0 m 0 ls []) := by
  have hx := CF_x C
  have hb := CF_b C
  unfold wX8_addUnit_0 at hw
  refine lv_iload_n hx hb dX8_addUnit_0 rfl (lv_at hl 1 rfl) ?_
  refine cl_v C P (run_S C P hl.1 (met_X8_requireTeam (CF_n C) G H.size _ _ S x1 hw) q_780 q_781 q_1 q_782 cd_X8_requireTeam.2 ⟨(Nat.le_of_ble_eq_true rfl), (Nat.le_of_ble_eq_true rfl)⟩ rfl rfl (As := [.int x1]) (rest := []) rfl rfl (Nat.le_of_ble_eq_true rfl) dX8_addUnit_1 ⟨by show cells + 1 ≤ 3; omega, by show slots + 6 ≤ 18; omega⟩) (kx_out C hex (fun _ _ _ h => h) (by omega) (by omega)) (fun S1 H locs P hE hw => ?_)
  have p_a0 : pI S1 8 a0 := pI_x hE p_a0
  refine lv_iload_n hx hb dX8_addUnit_4 rfl (lv_at hl 2 rfl) ?_
  refine lv_if_lt (tgt := 13) hx hb dX8_addUnit_5 (by decide) (fun hc => ?_) (fun hc => ?_)
  · have hw := hw.1 hc
    exact tX8_addUnit_13 C hr hex Q QX S1 P (lv_sub hl [] rfl) (by omega) (by omega) hw
  · have hw := hw.2 hc
    refine lv_iload_n hx hb dX8_addUnit_8 rfl (lv_at hl 2 rfl) ?_
    refine lv_iconst (v := 4) hx hb dX8_addUnit_9 (by decide) ?_
    refine lv_icmp_lt (tgt := 23) hx hb dX8_addUnit_10 (by decide) (fun hc => ?_) (fun hc => ?_)
    · have hw := hw.1 hc
      refine lv_aload_n hx hb dX8_addUnit_23 rfl (lv_at hl 0 rfl) ?_
      refine lv_iload_n hx hb dX8_addUnit_24 rfl (lv_at hl 3 rfl) ?_
      refine cl_v C P (run_V C P hl.1 (kd := 8) (met_X8_requireCell (CF_n C) G H.size _ _ S1 a0 x3 p_a0 hw) p_a0 (by decide) rfl q_733 q_735 q_p1 q_1 q_736 cd_X8_requireCell ⟨(Nat.le_of_ble_eq_true rfl), (Nat.le_of_ble_eq_true rfl)⟩ rfl rfl (As := [.int x3]) (rest := []) rfl rfl (Nat.le_of_ble_eq_true rfl) dX8_addUnit_25 ⟨by show cells + 1 + 1 ≤ 3; omega, by show slots + 6 + 6 ≤ 18; omega⟩) (kx_out C hex (fun _ _ _ h => h) (by omega) (by omega)) (fun S2 H locs P hE hw => ?_)
      have p_a0 : pI S2 8 a0 := pI_x hE p_a0
      refine lv_aload_n hx hb dX8_addUnit_28 rfl (lv_at hl 0 rfl) ?_
      obtain ⟨a3, e1, hw⟩ := hw
      have p_a3 : pI S2 2 a3 := wf_r P.2.2.2.1 p_a0 e1
      refine gf_8_3 C P p_a0 e1 q_302 dX8_addUnit_29 ?_
      obtain ⟨a4, e1, hw⟩ := hw
      have p_a4 : pI S2 3 a4 := wf_r P.2.2.2.1 p_a3 e1
      refine gf_2_0 C P p_a3 e1 q_163 dX8_addUnit_32 ?_
      refine lv_iload_n hx hb dX8_addUnit_35 rfl (lv_at hl 3 rfl) ?_
      refine cl_i C P (run_V C P hl.1 (kd := 3) (met_X3_ground (CF_n C) G H.size _ _ S2 a4 x3 p_a4 hw) p_a4 (by decide) rfl q_701 q_702 q_703 q_3 q_704 cd_X3_ground ⟨(Nat.le_of_ble_eq_true rfl), (Nat.le_of_ble_eq_true rfl)⟩ rfl rfl (As := [.int x3]) (rest := []) rfl rfl (Nat.le_of_ble_eq_true rfl) dX8_addUnit_36 ⟨by show cells + 1 + 1 + 0 ≤ 3; omega, by show slots + 6 + 6 + 0 ≤ 18; omega⟩) (kx_out C hex (fun _ _ _ h => h) (by omega) (by omega)) (fun r6 S5 H locs P hE hw => ?_)
      have p_a0 : pI S5 8 a0 := pI_x hE p_a0
      have p_a4 : pI S5 3 a4 := pI_x hE p_a4
      refine lv_iconst (v := 1) hx hb dX8_addUnit_39 (by decide) ?_
      refine lv_icmp_eq (tgt := 54) hx hb dX8_addUnit_40 (by decide) (fun hc => ?_) (fun hc => ?_)
      · have hw := hw.1 hc
        exact tX8_addUnit_54 C hr hex Q QX S5 P (lv_sub hl [] rfl) (by omega) (by omega) hw
      · have hw := hw.2 hc
        refine lv_aload_n hx hb dX8_addUnit_43 rfl (lv_at hl 0 rfl) ?_
        obtain ⟨a7, e1, hw⟩ := hw
        have p_a7 : pI S5 2 a7 := wf_r P.2.2.2.1 p_a0 e1
        refine gf_8_3 C P p_a0 e1 q_302 dX8_addUnit_44 ?_
        refine lv_iload_n hx hb dX8_addUnit_47 rfl (lv_at hl 3 rfl) ?_
        refine cl_i C P (run_V C P hl.1 (kd := 2) (met_X2_hasUnitOn (CF_n C) G H.size _ _ S5 a7 x3 p_a7 hw) p_a7 (by decide) rfl q_785 q_786 q_787 q_2 q_788 cd_X2_hasUnitOn ⟨(Nat.le_of_ble_eq_true rfl), (Nat.le_of_ble_eq_true rfl)⟩ rfl rfl (As := [.int x3]) (rest := []) rfl rfl (Nat.le_of_ble_eq_true rfl) dX8_addUnit_48 ⟨by show cells + 1 + 1 + 0 ≤ 3; omega, by show slots + 6 + 6 + 0 ≤ 18; omega⟩) (kx_out C hex (fun _ _ _ h => h) (by omega) (by omega)) (fun r9 S8 H locs P hE hw => ?_)
        have p_a0 : pI S8 8 a0 := pI_x hE p_a0
        have p_a7 : pI S8 2 a7 := pI_x hE p_a7
        refine lv_if_eq (tgt := 64) hx hb dX8_addUnit_51 (by decide) (fun hc => ?_) (fun hc => ?_)
        · have hw := hw.1 hc
          refine lv_aload_n hx hb dX8_addUnit_64 rfl (lv_at hl 0 rfl) ?_
          obtain ⟨a10, e1, hw⟩ := hw
          have p_a10 : pI S8 2 a10 := wf_r P.2.2.2.1 p_a0 e1
          refine gf_8_3 C P p_a0 e1 q_302 dX8_addUnit_65 ?_
          refine cl_i C P (run_V C P hl.1 (kd := 2) (met_X2_hasBegun (CF_n C) G H.size _ _ S8 a10 p_a10 hw) p_a10 (by decide) rfl q_347 q_348 q_349 q_2 q_350 cd_X2_hasBegun ⟨(Nat.le_of_ble_eq_true rfl), (Nat.le_of_ble_eq_true rfl)⟩ rfl rfl (As := []) (rest := []) rfl rfl (Nat.le_of_ble_eq_true rfl) dX8_addUnit_68 ⟨by show cells + 1 + 1 + 0 ≤ 3; omega, by show slots + 6 + 6 + 0 ≤ 18; omega⟩) (kx_out C hex (fun _ _ _ h => h) (by omega) (by omega)) (fun r12 S11 H locs P hE hw => ?_)
          have p_a0 : pI S11 8 a0 := pI_x hE p_a0
          have p_a10 : pI S11 2 a10 := pI_x hE p_a10
          refine lv_if_ne (tgt := 86) hx hb dX8_addUnit_71 (by decide) (fun hc => ?_) (fun hc => ?_)
          · have hw := hw.1 hc
            exact tX8_addUnit_86 C hr hex Q QX S11 P (lv_sub hl [] rfl) (by omega) (by omega) hw
          · have hw := hw.2 hc
            refine lv_aload_n hx hb dX8_addUnit_74 rfl (lv_at hl 0 rfl) ?_
            obtain ⟨a13, e1, hw⟩ := hw
            have p_a13 : pI S11 2 a13 := wf_r P.2.2.2.1 p_a0 e1
            refine gf_8_3 C P p_a0 e1 q_302 dX8_addUnit_75 ?_
            refine gf_2_2 C P p_a13 q_171 dX8_addUnit_78 ?_
            refine lv_bipush (v := 8) hx hb dX8_addUnit_81 (by decide) ?_
            refine lv_icmp_lt (tgt := 96) hx hb dX8_addUnit_83 (by decide) (fun hc => ?_) (fun hc => ?_)
            · have hw := hw.1 hc
              refine lv_aload_n hx hb dX8_addUnit_96 rfl (lv_at hl 0 rfl) ?_
              obtain ⟨a14, e1, hw⟩ := hw
              have p_a14 : pI S11 2 a14 := wf_r P.2.2.2.1 p_a0 e1
              refine gf_8_3 C P p_a0 e1 q_302 dX8_addUnit_97 ?_
              refine lv_iload_n hx hb dX8_addUnit_100 rfl (lv_at hl 1 rfl) ?_
              refine lv_iload_n hx hb dX8_addUnit_101 rfl (lv_at hl 2 rfl) ?_
              refine lv_iload_n hx hb dX8_addUnit_102 rfl (lv_at hl 3 rfl) ?_
              refine cl_i C P (run_V C P hl.1 (kd := 2) (met_X2_enlist (CF_n C) G H.size _ _ S11 a14 x1 x2 x3 p_a14 hw) p_a14 (by decide) rfl q_791 q_792 q_793 q_2 q_794 cd_X2_enlist ⟨(Nat.le_of_ble_eq_true rfl), (Nat.le_of_ble_eq_true rfl)⟩ rfl rfl (As := [.int x1, .int x2, .int x3]) (rest := []) rfl rfl (Nat.le_of_ble_eq_true rfl) dX8_addUnit_103 ⟨by show cells + 1 + 1 + 0 ≤ 3; omega, by show slots + 6 + 6 + 0 ≤ 18; omega⟩) (kx_out C hex (fun _ _ _ h => h) (by omega) (by omega)) (fun r16 S15 H locs P hE hw => ?_)
              have p_a14 : pI S15 2 a14 := pI_x hE p_a14
              exact e_i C hr rfl P hw (by omega) (by omega) dX8_addUnit_106
            · have hw := hw.2 hc
              exact tX8_addUnit_86 C hr hex Q QX S11 P (lv_sub hl [] rfl) (by omega) (by omega) hw
        · have hw := hw.2 hc
          exact tX8_addUnit_54 C hr hex Q QX S8 P (lv_sub hl [] rfl) (by omega) (by omega) hw
    · have hw := hw.2 hc
      exact tX8_addUnit_13 C hr hex Q QX S1 P (lv_sub hl [] rfl) (by omega) (by omega) hw
def wp_X8_addUnit (Q : Int32 → MS → Prop) (QX : String → MS → Prop) (S : MS) (a0 : Nat) (x1 : Int32) (x2 : Int32) (x3 : Int32) : Prop := wX8_addUnit_0 Q QX S a0 x1 x2 x3
set_option maxHeartbeats 4000000 in
set_option maxRecDepth 100000 in
theorem met_X8_addUnit {l : Launch} (hst : l.stackTraces = false) (G : GP) (sz : Nat) (Q : Int32 → MS → Prop) (QX : String → MS → Prop) (S : MS) (a0 : Nat) (x1 : Int32) (x2 : Int32) (x3 : Int32) (p_a0 : pI S 8 a0) (hw : wp_X8_addUnit Q QX S a0 x1 x2 x3) : vx_Met l yX8_addUnit (.code yX8_addUnit cX8_addUnit 4 (some .int) :: GW) rmX8_addUnit (va_Pc [.ref a0, .int x1, .int x2, .int x3] (PR G S sz)) (QI G S (FA G S sz) Q) (XX G S (FA G S sz) QX) 3 18 (FA G S sz) := by
  refine st_m (by decide +kernel) hst (fun p e s m below meth c C hr hnm hex P => ?_)
  refine en_m (Nat.le_of_ble_eq_true rfl) (lv := [(0, .ref a0), (1, .int x1), (2, .int x2), (3, .int x3)]) rfl (fun ls hl => ?_)
  have C : CF p l s m _ meth c "SkirmishGrid" cX8_addUnit 4 G (FA G S sz) := C
  exact tX8_addUnit_0 C hr hex Q QX S a0 x1 x2 x3 p_a0 P hl (by omega) (by omega) hw
theorem cd_X8_addUnit : yX8_addUnit.cls = RX8 ∧ yX8_addUnit.cls ≠ "java/lang/invoke/MethodHandle" ∧ yX8_addUnit.cls ≠ "java/lang/invoke/VarHandle" ∧ (parseMethodDescriptor yX8_addUnit.desc).map (fun d => d.parameters.length) = some 3 := by decide +kernel
abbrev rmX8_unitCount : Room := { frames := 0, cells := 0, slots := 0, locals := 0 }
def wX8_unitCount_0 (Q : Int32 → MS → Prop) (QX : String → MS → Prop) (S : MS) (a0 : Nat) : Prop := (∃ a1, mR S a0 3 = some a1 ∧ Q (mI S a1 2) S)
set_option maxHeartbeats 4000000 in
set_option maxRecDepth 100000 in
theorem tX8_unitCount_0 {p : Program} {l : Launch} {e : Env} {s : State} {m : MethodId} {args : Array Value} {below : List Frame} {meth : Method} {c : Code} {H : Heap} {locs : List Loc} {cells slots : Nat} {G : GP} {A : Nat → Prop} {S0 : MS} {ls : Array Slot} (C : CF p l s m args meth c "SkirmishGrid" cX8_unitCount 1 G A) (hr : meth.sig.returnType = (some .int)) (hex : ∀ x ∈ c.exceptionTable.toList, False) (Q : Int32 → MS → Prop) (QX : String → MS → Prop) (S : MS) (a0 : Nat) (p_a0 : pI S 8 a0) (P : PW G A s H locs S0 S) (hl : lv_has ls 1 [(0, .ref a0)]) (hcc : cells + 0 ≤ 0) (hss : slots + 0 ≤ 0) (hw : wX8_unitCount_0 Q QX S a0) : W p l e rmX8_unitCount s m args below meth c H locs cells slots (vx_MQ below (QI G S0 A Q) (XX G S0 A QX) args s 0 0 A) (F0 m 0 ls []) := by
  have hx := CF_x C
  have hb := CF_b C
  unfold wX8_unitCount_0 at hw
  refine lv_aload_n hx hb dX8_unitCount_0 rfl (lv_at hl 0 rfl) ?_
  obtain ⟨a1, e1, hw⟩ := hw
  have p_a1 : pI S 2 a1 := wf_r P.2.2.2.1 p_a0 e1
  refine gf_8_3 C P p_a0 e1 q_302 dX8_unitCount_1 ?_
  refine gf_2_2 C P p_a1 q_171 dX8_unitCount_4 ?_
  exact e_i C hr rfl P hw (by omega) (by omega) dX8_unitCount_7
def wp_X8_unitCount (Q : Int32 → MS → Prop) (QX : String → MS → Prop) (S : MS) (a0 : Nat) : Prop := wX8_unitCount_0 Q QX S a0
set_option maxHeartbeats 4000000 in
set_option maxRecDepth 100000 in
theorem met_X8_unitCount {l : Launch} (hst : l.stackTraces = false) (G : GP) (sz : Nat) (Q : Int32 → MS → Prop) (QX : String → MS → Prop) (S : MS) (a0 : Nat) (p_a0 : pI S 8 a0) (hw : wp_X8_unitCount Q QX S a0) : vx_Met l yX8_unitCount (.code yX8_unitCount cX8_unitCount 1 (some .int) :: GW) rmX8_unitCount (va_Pc [.ref a0] (PR G S sz)) (QI G S (FA G S sz) Q) (XX G S (FA G S sz) QX) 0 0 (FA G S sz) := by
  refine st_m (by decide +kernel) hst (fun p e s m below meth c C hr hnm hex P => ?_)
  refine en_m (Nat.le_of_ble_eq_true rfl) (lv := [(0, .ref a0)]) rfl (fun ls hl => ?_)
  have C : CF p l s m _ meth c "SkirmishGrid" cX8_unitCount 1 G (FA G S sz) := C
  exact tX8_unitCount_0 C hr hex Q QX S a0 p_a0 P hl (by omega) (by omega) hw
theorem cd_X8_unitCount : yX8_unitCount.cls = RX8 ∧ yX8_unitCount.cls ≠ "java/lang/invoke/MethodHandle" ∧ yX8_unitCount.cls ≠ "java/lang/invoke/VarHandle" ∧ (parseMethodDescriptor yX8_unitCount.desc).map (fun d => d.parameters.length) = some 0 := by decide +kernel
abbrev rmX8_requireUnit : Room := { frames := 6, cells := 1, slots := 6, locals := 110 }
def wX8_requireUnit_0 (Q : Option Nat → MS → Prop) (QX : String → MS → Prop) (S : MS) (a0 : Nat) (x1 : Int32) : Prop := (∃ a1, mR S a0 3 = some a1 ∧ wp_X2_find (fun r3 S2 => ((r3 = none → QX "java/lang/IndexOutOfBoundsException" S2) ∧ (∀ a4, r3 = some a4 → Q (some a4) S2))) QX S a1 x1)
set_option maxHeartbeats 4000000 in
set_option maxRecDepth 100000 in
theorem tX8_requireUnit_0 {p : Program} {l : Launch} {e : Env} {s : State} {m : MethodId} {args : Array Value} {below : List Frame} {meth : Method} {c : Code} {H : Heap} {locs : List Loc} {cells slots : Nat} {G : GP} {A : Nat → Prop} {S0 : MS} {ls : Array Slot} (C : CF p l s m args meth c "SkirmishGrid" cX8_requireUnit 3 G A) (hr : meth.sig.returnType = (some (.object "SkirmishGrid$Unit"))) (hex : ∀ x ∈ c.exceptionTable.toList, False) (Q : Option Nat → MS → Prop) (QX : String → MS → Prop) (S : MS) (a0 : Nat) (x1 : Int32) (p_a0 : pI S 8 a0) (P : PW G A s H locs S0 S) (hl : lv_has ls 3 [(0, .ref a0), (1, .int x1)]) (hcc : cells + 1 ≤ 1) (hss : slots + 6 ≤ 6) (hw : wX8_requireUnit_0 Q QX S a0 x1) : W p l e rmX8_requireUnit s m args below meth c H locs cells slots (vx_MQ below (QQ G S0 A 7 Q) (XX G S0 A QX) args s 1 6 A) (F0 m 0 ls []) := by
  have hx := CF_x C
  have hb := CF_b C
  unfold wX8_requireUnit_0 at hw
  refine lv_aload_n hx hb dX8_requireUnit_0 rfl (lv_at hl 0 rfl) ?_
  obtain ⟨a1, e1, hw⟩ := hw
  have p_a1 : pI S 2 a1 := wf_r P.2.2.2.1 p_a0 e1
  refine gf_8_3 C P p_a0 e1 q_302 dX8_requireUnit_1 ?_
  refine lv_iload_n hx hb dX8_requireUnit_4 rfl (lv_at hl 1 rfl) ?_
  refine cl_q C P (run_V C P hl.1 (kd := 2) (met_X2_find (CF_n C) G H.size _ _ S a1 x1 p_a1 hw) p_a1 (by decide) rfl q_816 q_817 q_818 q_2 q_819 cd_X2_find ⟨(Nat.le_of_ble_eq_true rfl), (Nat.le_of_ble_eq_true rfl)⟩ rfl rfl (As := [.int x1]) (rest := []) rfl rfl (Nat.le_of_ble_eq_true rfl) dX8_requireUnit_5 ⟨by show cells + 0 ≤ 1; omega, by show slots + 0 ≤ 6; omega⟩) (kx_out C hex (fun _ _ _ h => h) (by omega) (by omega)) (fun r3 S2 H locs P hE hw hR => ?_)
  have p_a1 : pI S2 2 a1 := pI_x hE p_a1
  cases r3 with
  | none =>
    have hw := hw.1 rfl
    refine lv_astore_nN (lv' := [(2, .null), (0, .ref a0), (1, .int x1)]) hx hb dX8_requireUnit_8 rfl hl (by decide) rfl (fun ls hl => ?_)
    refine lv_aload_nN hx hb dX8_requireUnit_9 rfl (lv_at hl 0 rfl) ?_
    refine lv_ifnonnullN hx hb dX8_requireUnit_10 ?_
    exact th_W C hex P hl.1 (E := "java/lang/IndexOutOfBoundsException") (text := "no such unit") (by decide +kernel) (by decide +kernel) (by decide +kernel) q_688 q_24 xw_IOB xb_IOB xg_IOB dX8_requireUnit_13 dX8_requireUnit_16 dX8_requireUnit_17 dX8_requireUnit_20 dX8_requireUnit_23 (Nat.le_of_ble_eq_true rfl) (Nat.le_of_ble_eq_true rfl) (by show cells + 1 ≤ 1; omega) (by show slots + 6 ≤ 6; omega) hw (by omega) (by omega)
  | some a4 =>
    have hw := hw.2 a4 rfl
    have p_a4 : pI S2 7 a4 := hR a4 rfl
    refine lv_astore_n (lv' := [(2, .ref a4), (0, .ref a0), (1, .int x1)]) hx hb dX8_requireUnit_8 rfl hl (by decide) rfl (fun ls hl => ?_)
    refine lv_aload_n hx hb dX8_requireUnit_9 rfl (lv_at hl 0 rfl) ?_
    refine lv_ifnonnull (tgt := 24) hx hb dX8_requireUnit_10 (by decide) ?_
    refine lv_aload_n hx hb dX8_requireUnit_24 rfl (lv_at hl 0 rfl) ?_
    exact e_q (v := some a4) C hr P hw (pQ_s p_a4) (by omega) (by omega) dX8_requireUnit_25
def wp_X8_requireUnit (Q : Option Nat → MS → Prop) (QX : String → MS → Prop) (S : MS) (a0 : Nat) (x1 : Int32) : Prop := wX8_requireUnit_0 Q QX S a0 x1
set_option maxHeartbeats 4000000 in
set_option maxRecDepth 100000 in
theorem met_X8_requireUnit {l : Launch} (hst : l.stackTraces = false) (G : GP) (sz : Nat) (Q : Option Nat → MS → Prop) (QX : String → MS → Prop) (S : MS) (a0 : Nat) (x1 : Int32) (p_a0 : pI S 8 a0) (hw : wp_X8_requireUnit Q QX S a0 x1) : vx_Met l yX8_requireUnit (.code yX8_requireUnit cX8_requireUnit 3 (some (.object "SkirmishGrid$Unit")) :: GW) rmX8_requireUnit (va_Pc [.ref a0, .int x1] (PR G S sz)) (QQ G S (FA G S sz) 7 Q) (XX G S (FA G S sz) QX) 1 6 (FA G S sz) := by
  refine st_m (by decide +kernel) hst (fun p e s m below meth c C hr hnm hex P => ?_)
  refine en_m (Nat.le_of_ble_eq_true rfl) (lv := [(0, .ref a0), (1, .int x1)]) rfl (fun ls hl => ?_)
  have C : CF p l s m _ meth c "SkirmishGrid" cX8_requireUnit 3 G (FA G S sz) := C
  exact tX8_requireUnit_0 C hr hex Q QX S a0 x1 p_a0 P hl (by omega) (by omega) hw
theorem cd_X8_requireUnit : yX8_requireUnit.cls = RX8 ∧ yX8_requireUnit.cls ≠ "java/lang/invoke/MethodHandle" ∧ yX8_requireUnit.cls ≠ "java/lang/invoke/VarHandle" ∧ (parseMethodDescriptor yX8_requireUnit.desc).map (fun d => d.parameters.length) = some 1 := by decide +kernel
abbrev rmX8_unit : Room := { frames := 7, cells := 2, slots := 12, locals := 132 }
def wX8_unit_0 (Q : Int32 → MS → Prop) (QX : String → MS → Prop) (S : MS) (a0 : Nat) (x1 : Int32) (x2 : Int32) : Prop := wp_X8_requireUnit (fun r2 S1 => (∃ a3, r2 = some a3 ∧ ((((x2 : Int32).toInt < 0 ∨ 11 < (x2 : Int32).toInt) → QX "java/lang/IllegalArgumentException" S1) ∧ ((x2 : Int32).toInt = 0 → Q (mI S1 a3 1) S1) ∧ ((x2 : Int32).toInt = 1 → Q (mI S1 a3 2) S1) ∧ ((x2 : Int32).toInt = 2 → Q (mI S1 a3 4) S1) ∧ ((x2 : Int32).toInt = 3 → Q (mI S1 a3 5) S1) ∧ ((x2 : Int32).toInt = 4 → Q (mI S1 a3 6) S1) ∧ ((x2 : Int32).toInt = 5 → Q (mI S1 a3 7) S1) ∧ ((x2 : Int32).toInt = 6 → (∃ a4, mR S1 a0 3 = some a4 ∧ ((¬ x1 = (mI S1 a4 6) → Q 0 S1) ∧ (x1 = (mI S1 a4 6) → (∃ a5, mR S1 a0 3 = some a5 ∧ Q (mI S1 a5 7) S1))))) ∧ ((x2 : Int32).toInt = 7 → Q (mI S1 a3 8) S1) ∧ ((x2 : Int32).toInt = 8 → Q (mI S1 a3 9) S1) ∧ ((x2 : Int32).toInt = 9 → Q (mI S1 a3 10) S1) ∧ ((x2 : Int32).toInt = 10 → (((mI S1 a3 11) = 0 → Q 0 S1) ∧ (¬ (mI S1 a3 11) = 0 → Q 1 S1))) ∧ ((x2 : Int32).toInt = 11 → (((mI S1 a3 12) = 0 → Q 0 S1) ∧ (¬ (mI S1 a3 12) = 0 → Q 1 S1)))))) QX S a0 x1
set_option maxHeartbeats 4000000 in
set_option maxRecDepth 100000 in
theorem tX8_unit_0 {p : Program} {l : Launch} {e : Env} {s : State} {m : MethodId} {args : Array Value} {below : List Frame} {meth : Method} {c : Code} {H : Heap} {locs : List Loc} {cells slots : Nat} {G : GP} {A : Nat → Prop} {S0 : MS} {ls : Array Slot} (C : CF p l s m args meth c "SkirmishGrid" cX8_unit 4 G A) (hr : meth.sig.returnType = (some .int)) (hex : ∀ x ∈ c.exceptionTable.toList, False) (Q : Int32 → MS → Prop) (QX : String → MS → Prop) (S : MS) (a0 : Nat) (x1 : Int32) (x2 : Int32) (p_a0 : pI S 8 a0) (P : PW G A s H locs S0 S) (hl : lv_has ls 4 [(0, .ref a0), (1, .int x1), (2, .int x2)]) (hcc : cells + 2 ≤ 2) (hss : slots + 12 ≤ 12) (hw : wX8_unit_0 Q QX S a0 x1 x2) : W p l e rmX8_unit s m args below meth c H locs cells slots (vx_MQ below (QI G S0 A Q) (XX G S0 A QX) args s 2 12 A) (F0 m 0 ls []) := by
  have hx := CF_x C
  have hb := CF_b C
  unfold wX8_unit_0 at hw
  refine lv_aload_n hx hb dX8_unit_0 rfl (lv_at hl 0 rfl) ?_
  refine lv_iload_n hx hb dX8_unit_1 rfl (lv_at hl 1 rfl) ?_
  refine cl_q C P (run_V C P hl.1 (kd := 8) (met_X8_requireUnit (CF_n C) G H.size _ _ S a0 x1 p_a0 hw) p_a0 (by decide) rfl q_812 q_814 q_p3 q_1 q_815 cd_X8_requireUnit ⟨(Nat.le_of_ble_eq_true rfl), (Nat.le_of_ble_eq_true rfl)⟩ rfl rfl (As := [.int x1]) (rest := []) rfl rfl (Nat.le_of_ble_eq_true rfl) dX8_unit_2 ⟨by show cells + 1 ≤ 2; omega, by show slots + 6 ≤ 12; omega⟩) (kx_out C hex (fun _ _ _ h => h) (by omega) (by omega)) (fun r2 S1 H locs P hE hw hR => ?_)
  have p_a0 : pI S1 8 a0 := pI_x hE p_a0
  obtain ⟨a3, rfl, hw⟩ := hw
  have p_a3 : pI S1 7 a3 := hR a3 rfl
  refine lv_astore_n (lv' := [(3, .ref a3), (0, .ref a0), (1, .int x1), (2, .int x2)]) hx hb dX8_unit_5 rfl hl (by decide) rfl (fun ls hl => ?_)
  refine lv_iload_n hx hb dX8_unit_6 rfl (lv_at hl 3 rfl) ?_
  rcases ts_split (lo := 0) (hi := 11) x2 with hc | ⟨i, hi, hc⟩
  · have hw := hw.1 hc
    refine lv_tableOut (tgt := 162) hx hb dX8_unit_7 hc (by decide) ?_
    exact th_S C hex P hl.1 (E := "java/lang/IllegalArgumentException") (text := "no such property") (by decide +kernel) (by decide +kernel) (by decide +kernel) q_410 q_14 xw_IAE xb_IAE xg_IAE dX8_unit_162 dX8_unit_165 dX8_unit_166 dX8_unit_168 dX8_unit_171 (Nat.le_of_ble_eq_true rfl) (Nat.le_of_ble_eq_true rfl) (by show cells + 1 + 1 ≤ 2; omega) (by show slots + 6 + 6 ≤ 12; omega) hw (by omega) (by omega)
  · rcases (show i = 0 ∨ i = 1 ∨ i = 2 ∨ i = 3 ∨ i = 4 ∨ i = 5 ∨ i = 6 ∨ i = 7 ∨ i = 8 ∨ i = 9 ∨ i = 10 ∨ i = 11 by omega) with rfl | rfl | rfl | rfl | rfl | rfl | rfl | rfl | rfl | rfl | rfl | rfl
    · have hw := hw.2.1 hc
      refine lv_tableIn (tgt := 68) hx hb dX8_unit_7 (by omega) (by omega) (by rw [hc]; rfl) (by decide) ?_
      refine lv_aload_n hx hb dX8_unit_68 rfl (lv_at hl 0 rfl) ?_
      refine gf_7_1 C P p_a3 q_98 dX8_unit_69 ?_
      exact e_i C hr rfl P hw (by omega) (by omega) dX8_unit_72
    · have hw := hw.2.2.1 hc
      refine lv_tableIn (tgt := 73) hx hb dX8_unit_7 (by omega) (by omega) (by rw [hc]; rfl) (by decide) ?_
      refine lv_aload_n hx hb dX8_unit_73 rfl (lv_at hl 0 rfl) ?_
      refine gf_7_2 C P p_a3 q_102 dX8_unit_74 ?_
      exact e_i C hr rfl P hw (by omega) (by omega) dX8_unit_77
    · have hw := hw.2.2.2.1 hc
      refine lv_tableIn (tgt := 78) hx hb dX8_unit_7 (by omega) (by omega) (by rw [hc]; rfl) (by decide) ?_
      refine lv_aload_n hx hb dX8_unit_78 rfl (lv_at hl 0 rfl) ?_
      refine gf_7_4 C P p_a3 q_108 dX8_unit_79 ?_
      exact e_i C hr rfl P hw (by omega) (by omega) dX8_unit_82
    · have hw := hw.2.2.2.2.1 hc
      refine lv_tableIn (tgt := 83) hx hb dX8_unit_7 (by omega) (by omega) (by rw [hc]; rfl) (by decide) ?_
      refine lv_aload_n hx hb dX8_unit_83 rfl (lv_at hl 0 rfl) ?_
      refine gf_7_5 C P p_a3 q_111 dX8_unit_84 ?_
      exact e_i C hr rfl P hw (by omega) (by omega) dX8_unit_87
    · have hw := hw.2.2.2.2.2.1 hc
      refine lv_tableIn (tgt := 88) hx hb dX8_unit_7 (by omega) (by omega) (by rw [hc]; rfl) (by decide) ?_
      refine lv_aload_n hx hb dX8_unit_88 rfl (lv_at hl 0 rfl) ?_
      refine gf_7_6 C P p_a3 q_114 dX8_unit_89 ?_
      exact e_i C hr rfl P hw (by omega) (by omega) dX8_unit_92
    · have hw := hw.2.2.2.2.2.2.1 hc
      refine lv_tableIn (tgt := 93) hx hb dX8_unit_7 (by omega) (by omega) (by rw [hc]; rfl) (by decide) ?_
      refine lv_aload_n hx hb dX8_unit_93 rfl (lv_at hl 0 rfl) ?_
      refine gf_7_7 C P p_a3 q_117 dX8_unit_94 ?_
      exact e_i C hr rfl P hw (by omega) (by omega) dX8_unit_97
    · have hw := hw.2.2.2.2.2.2.2.1 hc
      refine lv_tableIn (tgt := 98) hx hb dX8_unit_7 (by omega) (by omega) (by rw [hc]; rfl) (by decide) ?_
      refine lv_iload_n hx hb dX8_unit_98 rfl (lv_at hl 2 rfl) ?_
      refine lv_aload_n hx hb dX8_unit_99 rfl (lv_at hl 1 rfl) ?_
      obtain ⟨a4, e1, hw⟩ := hw
      have p_a4 : pI S1 2 a4 := wf_r P.2.2.2.1 p_a0 e1
      refine gf_8_3 C P p_a0 e1 q_302 dX8_unit_100 ?_
      refine gf_2_6 C P p_a4 q_178 dX8_unit_103 ?_
      refine lv_icmp_ne (tgt := 119) hx hb dX8_unit_106 (by decide) (fun hc => ?_) (fun hc => ?_)
      · have hw := hw.1 hc
        refine lv_iconst (v := 0) hx hb dX8_unit_119 (by decide) ?_
        exact e_i C hr rfl P hw (by omega) (by omega) dX8_unit_120
      · have hw := hw.2 hc
        refine lv_aload_n hx hb dX8_unit_109 rfl (lv_at hl 1 rfl) ?_
        obtain ⟨a5, e1, hw⟩ := hw
        have p_a5 : pI S1 2 a5 := wf_r P.2.2.2.1 p_a0 e1
        refine gf_8_3 C P p_a0 e1 q_302 dX8_unit_110 ?_
        refine gf_2_7 C P p_a5 q_180 dX8_unit_113 ?_
        refine lv_goto (tgt := 120) hx hb dX8_unit_116 (by decide) ?_
        exact e_i C hr rfl P hw (by omega) (by omega) dX8_unit_120
    · have hw := hw.2.2.2.2.2.2.2.2.1 hc
      refine lv_tableIn (tgt := 121) hx hb dX8_unit_7 (by omega) (by omega) (by rw [hc]; rfl) (by decide) ?_
      refine lv_aload_n hx hb dX8_unit_121 rfl (lv_at hl 0 rfl) ?_
      refine gf_7_8 C P p_a3 q_120 dX8_unit_122 ?_
      exact e_i C hr rfl P hw (by omega) (by omega) dX8_unit_125
    · have hw := hw.2.2.2.2.2.2.2.2.2.1 hc
      refine lv_tableIn (tgt := 126) hx hb dX8_unit_7 (by omega) (by omega) (by rw [hc]; rfl) (by decide) ?_
      refine lv_aload_n hx hb dX8_unit_126 rfl (lv_at hl 0 rfl) ?_
      refine gf_7_9 C P p_a3 q_123 dX8_unit_127 ?_
      exact e_i C hr rfl P hw (by omega) (by omega) dX8_unit_130
    · have hw := hw.2.2.2.2.2.2.2.2.2.2.1 hc
      refine lv_tableIn (tgt := 131) hx hb dX8_unit_7 (by omega) (by omega) (by rw [hc]; rfl) (by decide) ?_
      refine lv_aload_n hx hb dX8_unit_131 rfl (lv_at hl 0 rfl) ?_
      refine gf_7_10 C P p_a3 q_126 dX8_unit_132 ?_
      exact e_i C hr rfl P hw (by omega) (by omega) dX8_unit_135
    · have hw := hw.2.2.2.2.2.2.2.2.2.2.2.1 hc
      refine lv_tableIn (tgt := 136) hx hb dX8_unit_7 (by omega) (by omega) (by rw [hc]; rfl) (by decide) ?_
      refine lv_aload_n hx hb dX8_unit_136 rfl (lv_at hl 0 rfl) ?_
      refine gf_7_11 C P p_a3 q_129 dX8_unit_137 ?_
      refine lv_if_eq (tgt := 147) hx hb dX8_unit_140 (by decide) (fun hc => ?_) (fun hc => ?_)
      · have hw := hw.1 hc
        refine lv_iconst (v := 0) hx hb dX8_unit_147 (by decide) ?_
        exact e_i C hr rfl P hw (by omega) (by omega) dX8_unit_148
      · have hw := hw.2 hc
        refine lv_iconst (v := 1) hx hb dX8_unit_143 (by decide) ?_
        refine lv_goto (tgt := 148) hx hb dX8_unit_144 (by decide) ?_
        exact e_i C hr rfl P hw (by omega) (by omega) dX8_unit_148
    · have hw := hw.2.2.2.2.2.2.2.2.2.2.2.2 hc
      refine lv_tableIn (tgt := 149) hx hb dX8_unit_7 (by omega) (by omega) (by rw [hc]; rfl) (by decide) ?_
      refine lv_aload_n hx hb dX8_unit_149 rfl (lv_at hl 0 rfl) ?_
      refine gf_7_12 C P p_a3 q_132 dX8_unit_150 ?_
      refine lv_if_eq (tgt := 160) hx hb dX8_unit_153 (by decide) (fun hc => ?_) (fun hc => ?_)
      · have hw := hw.1 hc
        refine lv_iconst (v := 0) hx hb dX8_unit_160 (by decide) ?_
        exact e_i C hr rfl P hw (by omega) (by omega) dX8_unit_161
      · have hw := hw.2 hc
        refine lv_iconst (v := 1) hx hb dX8_unit_156 (by decide) ?_
        refine lv_goto (tgt := 161) hx hb dX8_unit_157 (by decide) ?_
        exact e_i C hr rfl P hw (by omega) (by omega) dX8_unit_161
def wp_X8_unit (Q : Int32 → MS → Prop) (QX : String → MS → Prop) (S : MS) (a0 : Nat) (x1 : Int32) (x2 : Int32) : Prop := wX8_unit_0 Q QX S a0 x1 x2
set_option maxHeartbeats 4000000 in
set_option maxRecDepth 100000 in
theorem met_X8_unit {l : Launch} (hst : l.stackTraces = false) (G : GP) (sz : Nat) (Q : Int32 → MS → Prop) (QX : String → MS → Prop) (S : MS) (a0 : Nat) (x1 : Int32) (x2 : Int32) (p_a0 : pI S 8 a0) (hw : wp_X8_unit Q QX S a0 x1 x2) : vx_Met l yX8_unit (.code yX8_unit cX8_unit 4 (some .int) :: GW) rmX8_unit (va_Pc [.ref a0, .int x1, .int x2] (PR G S sz)) (QI G S (FA G S sz) Q) (XX G S (FA G S sz) QX) 2 12 (FA G S sz) := by
  refine st_m (by decide +kernel) hst (fun p e s m below meth c C hr hnm hex P => ?_)
  refine en_m (Nat.le_of_ble_eq_true rfl) (lv := [(0, .ref a0), (1, .int x1), (2, .int x2)]) rfl (fun ls hl => ?_)
  have C : CF p l s m _ meth c "SkirmishGrid" cX8_unit 4 G (FA G S sz) := C
  exact tX8_unit_0 C hr hex Q QX S a0 x1 x2 p_a0 P hl (by omega) (by omega) hw
theorem cd_X8_unit : yX8_unit.cls = RX8 ∧ yX8_unit.cls ≠ "java/lang/invoke/MethodHandle" ∧ yX8_unit.cls ≠ "java/lang/invoke/VarHandle" ∧ (parseMethodDescriptor yX8_unit.desc).map (fun d => d.parameters.length) = some 2 := by decide +kernel
abbrev rmX8_begin : Room := { frames := 6, cells := 1, slots := 6, locals := 146 }
def wX8_begin_20 (Q : Int32 → MS → Prop) (QX : String → MS → Prop) (S : MS) : Prop := QX "java/lang/IllegalStateException" S
set_option maxHeartbeats 4000000 in
set_option maxRecDepth 100000 in
theorem tX8_begin_20 {p : Program} {l : Launch} {e : Env} {s : State} {m : MethodId} {args : Array Value} {below : List Frame} {meth : Method} {c : Code} {H : Heap} {locs : List Loc} {cells slots : Nat} {G : GP} {A : Nat → Prop} {S0 : MS} {ls : Array Slot} (C : CF p l s m args meth c "SkirmishGrid" cX8_begin 1 G A) (hr : meth.sig.returnType = (some .int)) (hex : ∀ x ∈ c.exceptionTable.toList, False) (Q : Int32 → MS → Prop) (QX : String → MS → Prop) (S : MS) (P : PW G A s H locs S0 S) (hl : lv_has ls 1 []) (hcc : cells + 1 ≤ 1) (hss : slots + 6 ≤ 6) (hw : wX8_begin_20 Q QX S) : W p l e rmX8_begin s m args below meth c H locs cells slots (vx_MQ below (QI G S0 A Q) (XX G S0 A QX) args s 1 6 A) (F0 m 20 ls []) := by
  have hx := CF_x C
  have hb := CF_b C
  unfold wX8_begin_20 at hw
  exact th_S C hex P hl.1 (E := "java/lang/IllegalStateException") (text := "the fight has begun, or a team has no units") (by decide +kernel) (by decide +kernel) (by decide +kernel) q_482 q_15 xw_ISE xb_ISE xg_ISE dX8_begin_20 dX8_begin_23 dX8_begin_24 dX8_begin_26 dX8_begin_29 (Nat.le_of_ble_eq_true rfl) (Nat.le_of_ble_eq_true rfl) (by show cells + 1 ≤ 1; omega) (by show slots + 6 ≤ 6; omega) hw (by omega) (by omega)
def wX8_begin_0 (Q : Int32 → MS → Prop) (QX : String → MS → Prop) (S : MS) (a0 : Nat) : Prop := (∃ a1, mR S a0 3 = some a1 ∧ wp_X2_hasBegun (fun r3 S2 => ((¬ r3 = 0 → wX8_begin_20 Q QX S2) ∧ (r3 = 0 → (∃ a4, mR S2 a0 3 = some a4 ∧ wp_X2_goesOn (fun r6 S5 => ((¬ r6 = 0 → (∃ a7, mR S5 a0 3 = some a7 ∧ wp_X2_startRounds (fun S8 => (∃ a9, mR S8 a0 3 = some a9 ∧ Q (mI S8 a9 6) S8)) QX S5 a7)) ∧ (r6 = 0 → wX8_begin_20 Q QX S5))) QX S2 a4)))) QX S a1)
set_option maxHeartbeats 4000000 in
set_option maxRecDepth 100000 in
theorem tX8_begin_0 {p : Program} {l : Launch} {e : Env} {s : State} {m : MethodId} {args : Array Value} {below : List Frame} {meth : Method} {c : Code} {H : Heap} {locs : List Loc} {cells slots : Nat} {G : GP} {A : Nat → Prop} {S0 : MS} {ls : Array Slot} (C : CF p l s m args meth c "SkirmishGrid" cX8_begin 1 G A) (hr : meth.sig.returnType = (some .int)) (hex : ∀ x ∈ c.exceptionTable.toList, False) (Q : Int32 → MS → Prop) (QX : String → MS → Prop) (S : MS) (a0 : Nat) (p_a0 : pI S 8 a0) (P : PW G A s H locs S0 S) (hl : lv_has ls 1 [(0, .ref a0)]) (hcc : cells + 1 ≤ 1) (hss : slots + 6 ≤ 6) (hw : wX8_begin_0 Q QX S a0) : W p l e rmX8_begin s m args below meth c H locs cells slots (vx_MQ below (QI G S0 A Q) (XX G S0 A QX) args s 1 6 A) (F0 m 0 ls []) := by
  have hx := CF_x C
  have hb := CF_b C
  unfold wX8_begin_0 at hw
  refine lv_aload_n hx hb dX8_begin_0 rfl (lv_at hl 0 rfl) ?_
  obtain ⟨a1, e1, hw⟩ := hw
  have p_a1 : pI S 2 a1 := wf_r P.2.2.2.1 p_a0 e1
  refine gf_8_3 C P p_a0 e1 q_302 dX8_begin_1 ?_
  refine cl_i C P (run_V C P hl.1 (kd := 2) (met_X2_hasBegun (CF_n C) G H.size _ _ S a1 p_a1 hw) p_a1 (by decide) rfl q_347 q_348 q_349 q_2 q_350 cd_X2_hasBegun ⟨(Nat.le_of_ble_eq_true rfl), (Nat.le_of_ble_eq_true rfl)⟩ rfl rfl (As := []) (rest := []) rfl rfl (Nat.le_of_ble_eq_true rfl) dX8_begin_4 ⟨by show cells + 0 ≤ 1; omega, by show slots + 0 ≤ 6; omega⟩) (kx_out C hex (fun _ _ _ h => h) (by omega) (by omega)) (fun r3 S2 H locs P hE hw => ?_)
  have p_a0 : pI S2 8 a0 := pI_x hE p_a0
  have p_a1 : pI S2 2 a1 := pI_x hE p_a1
  refine lv_if_ne (tgt := 20) hx hb dX8_begin_7 (by decide) (fun hc => ?_) (fun hc => ?_)
  · have hw := hw.1 hc
    exact tX8_begin_20 C hr hex Q QX S2 P (lv_sub hl [] rfl) (by omega) (by omega) hw
  · have hw := hw.2 hc
    refine lv_aload_n hx hb dX8_begin_10 rfl (lv_at hl 0 rfl) ?_
    obtain ⟨a4, e1, hw⟩ := hw
    have p_a4 : pI S2 2 a4 := wf_r P.2.2.2.1 p_a0 e1
    refine gf_8_3 C P p_a0 e1 q_302 dX8_begin_11 ?_
    refine cl_i C P (run_V C P hl.1 (kd := 2) (met_X2_goesOn (CF_n C) G H.size _ _ S2 a4 p_a4 hw) p_a4 (by decide) rfl q_829 q_830 q_831 q_2 q_832 cd_X2_goesOn ⟨(Nat.le_of_ble_eq_true rfl), (Nat.le_of_ble_eq_true rfl)⟩ rfl rfl (As := []) (rest := []) rfl rfl (Nat.le_of_ble_eq_true rfl) dX8_begin_14 ⟨by show cells + 0 ≤ 1; omega, by show slots + 0 ≤ 6; omega⟩) (kx_out C hex (fun _ _ _ h => h) (by omega) (by omega)) (fun r6 S5 H locs P hE hw => ?_)
    have p_a0 : pI S5 8 a0 := pI_x hE p_a0
    have p_a4 : pI S5 2 a4 := pI_x hE p_a4
    refine lv_if_ne (tgt := 30) hx hb dX8_begin_17 (by decide) (fun hc => ?_) (fun hc => ?_)
    · have hw := hw.1 hc
      refine lv_aload_n hx hb dX8_begin_30 rfl (lv_at hl 0 rfl) ?_
      obtain ⟨a7, e1, hw⟩ := hw
      have p_a7 : pI S5 2 a7 := wf_r P.2.2.2.1 p_a0 e1
      refine gf_8_3 C P p_a0 e1 q_302 dX8_begin_31 ?_
      refine cl_v C P (run_V C P hl.1 (kd := 2) (met_X2_startRounds (CF_n C) G H.size _ _ S5 a7 p_a7 hw) p_a7 (by decide) rfl q_835 q_836 q_837 q_2 q_838 cd_X2_startRounds ⟨(Nat.le_of_ble_eq_true rfl), (Nat.le_of_ble_eq_true rfl)⟩ rfl rfl (As := []) (rest := []) rfl rfl (Nat.le_of_ble_eq_true rfl) dX8_begin_34 ⟨by show cells + 0 ≤ 1; omega, by show slots + 0 ≤ 6; omega⟩) (kx_out C hex (fun _ _ _ h => h) (by omega) (by omega)) (fun S8 H locs P hE hw => ?_)
      have p_a0 : pI S8 8 a0 := pI_x hE p_a0
      have p_a7 : pI S8 2 a7 := pI_x hE p_a7
      refine lv_aload_n hx hb dX8_begin_37 rfl (lv_at hl 0 rfl) ?_
      obtain ⟨a9, e1, hw⟩ := hw
      have p_a9 : pI S8 2 a9 := wf_r P.2.2.2.1 p_a0 e1
      refine gf_8_3 C P p_a0 e1 q_302 dX8_begin_38 ?_
      refine gf_2_6 C P p_a9 q_178 dX8_begin_41 ?_
      exact e_i C hr rfl P hw (by omega) (by omega) dX8_begin_44
    · have hw := hw.2 hc
      exact tX8_begin_20 C hr hex Q QX S5 P (lv_sub hl [] rfl) (by omega) (by omega) hw
def wp_X8_begin (Q : Int32 → MS → Prop) (QX : String → MS → Prop) (S : MS) (a0 : Nat) : Prop := wX8_begin_0 Q QX S a0
set_option maxHeartbeats 4000000 in
set_option maxRecDepth 100000 in
theorem met_X8_begin {l : Launch} (hst : l.stackTraces = false) (G : GP) (sz : Nat) (Q : Int32 → MS → Prop) (QX : String → MS → Prop) (S : MS) (a0 : Nat) (p_a0 : pI S 8 a0) (hw : wp_X8_begin Q QX S a0) : vx_Met l yX8_begin (.code yX8_begin cX8_begin 1 (some .int) :: GW) rmX8_begin (va_Pc [.ref a0] (PR G S sz)) (QI G S (FA G S sz) Q) (XX G S (FA G S sz) QX) 1 6 (FA G S sz) := by
  refine st_m (by decide +kernel) hst (fun p e s m below meth c C hr hnm hex P => ?_)
  refine en_m (Nat.le_of_ble_eq_true rfl) (lv := [(0, .ref a0)]) rfl (fun ls hl => ?_)
  have C : CF p l s m _ meth c "SkirmishGrid" cX8_begin 1 G (FA G S sz) := C
  exact tX8_begin_0 C hr hex Q QX S a0 p_a0 P hl (by omega) (by omega) hw
theorem cd_X8_begin : yX8_begin.cls = RX8 ∧ yX8_begin.cls ≠ "java/lang/invoke/MethodHandle" ∧ yX8_begin.cls ≠ "java/lang/invoke/VarHandle" ∧ (parseMethodDescriptor yX8_begin.desc).map (fun d => d.parameters.length) = some 0 := by decide +kernel
abbrev rmX8_condition : Room := { frames := 2, cells := 0, slots := 0, locals := 42 }
def wX8_condition_40 (Q : Int32 → MS → Prop) (QX : String → MS → Prop) (S : MS) (y1 : Int32) (y2 : Int32) : Prop := ((y1 = 0 → ((y2 = 0 → Q 4 S) ∧ (¬ y2 = 0 → Q 3 S))) ∧ (¬ y1 = 0 → Q 2 S))
set_option maxHeartbeats 4000000 in
set_option maxRecDepth 100000 in
theorem tX8_condition_40 {p : Program} {l : Launch} {e : Env} {s : State} {m : MethodId} {args : Array Value} {below : List Frame} {meth : Method} {c : Code} {H : Heap} {locs : List Loc} {cells slots : Nat} {G : GP} {A : Nat → Prop} {S0 : MS} {ls : Array Slot} (C : CF p l s m args meth c "SkirmishGrid" cX8_condition 3 G A) (hr : meth.sig.returnType = (some .int)) (hex : ∀ x ∈ c.exceptionTable.toList, False) (Q : Int32 → MS → Prop) (QX : String → MS → Prop) (S : MS) (y1 : Int32) (y2 : Int32) (P : PW G A s H locs S0 S) (hl : lv_has ls 3 [(1, .int y1), (2, .int y2)]) (hcc : cells + 0 ≤ 0) (hss : slots + 0 ≤ 0) (hw : wX8_condition_40 Q QX S y1 y2) : W p l e rmX8_condition s m args below meth c H locs cells slots (vx_MQ below (QI G S0 A Q) (XX G S0 A QX) args s 0 0 A) (F0 m 40 ls []) := by
  have hx := CF_x C
  have hb := CF_b C
  unfold wX8_condition_40 at hw
  refine lv_iload_n hx hb dX8_condition_40 rfl (lv_at hl 0 rfl) ?_
  refine lv_if_eq (tgt := 46) hx hb dX8_condition_41 (by decide) (fun hc => ?_) (fun hc => ?_)
  · have hw := hw.1 hc
    refine lv_iload_n hx hb dX8_condition_46 rfl (lv_at hl 1 rfl) ?_
    refine lv_if_eq (tgt := 54) hx hb dX8_condition_47 (by decide) (fun hc => ?_) (fun hc => ?_)
    · have hw := hw.1 hc
      refine lv_iconst (v := 4) hx hb dX8_condition_54 (by decide) ?_
      exact e_i C hr rfl P hw (by omega) (by omega) dX8_condition_55
    · have hw := hw.2 hc
      refine lv_iconst (v := 3) hx hb dX8_condition_50 (by decide) ?_
      refine lv_goto (tgt := 55) hx hb dX8_condition_51 (by decide) ?_
      exact e_i C hr rfl P hw (by omega) (by omega) dX8_condition_55
  · have hw := hw.2 hc
    refine lv_iconst (v := 2) hx hb dX8_condition_44 (by decide) ?_
    exact e_i C hr rfl P hw (by omega) (by omega) dX8_condition_45
def wX8_condition_0 (Q : Int32 → MS → Prop) (QX : String → MS → Prop) (S : MS) (a0 : Nat) : Prop := (∃ a1, mR S a0 3 = some a1 ∧ wp_X2_hasBegun (fun r3 S2 => ((¬ r3 = 0 → (∃ a4, mR S2 a0 3 = some a4 ∧ wp_X2_hasLiving (fun r6 S5 => (∃ a7, mR S5 a0 3 = some a7 ∧ wp_X2_hasLiving (fun r9 S8 => ((r6 = 0 → wX8_condition_40 Q QX S8 r6 r9) ∧ (¬ r6 = 0 → ((r9 = 0 → wX8_condition_40 Q QX S8 r6 r9) ∧ (¬ r9 = 0 → Q 1 S8))))) QX S5 a7 1)) QX S2 a4 0)) ∧ (r3 = 0 → Q 0 S2))) QX S a1)
set_option maxHeartbeats 4000000 in
set_option maxRecDepth 100000 in
theorem tX8_condition_0 {p : Program} {l : Launch} {e : Env} {s : State} {m : MethodId} {args : Array Value} {below : List Frame} {meth : Method} {c : Code} {H : Heap} {locs : List Loc} {cells slots : Nat} {G : GP} {A : Nat → Prop} {S0 : MS} {ls : Array Slot} (C : CF p l s m args meth c "SkirmishGrid" cX8_condition 3 G A) (hr : meth.sig.returnType = (some .int)) (hex : ∀ x ∈ c.exceptionTable.toList, False) (Q : Int32 → MS → Prop) (QX : String → MS → Prop) (S : MS) (a0 : Nat) (p_a0 : pI S 8 a0) (P : PW G A s H locs S0 S) (hl : lv_has ls 3 [(0, .ref a0)]) (hcc : cells + 0 ≤ 0) (hss : slots + 0 ≤ 0) (hw : wX8_condition_0 Q QX S a0) : W p l e rmX8_condition s m args below meth c H locs cells slots (vx_MQ below (QI G S0 A Q) (XX G S0 A QX) args s 0 0 A) (F0 m 0 ls []) := by
  have hx := CF_x C
  have hb := CF_b C
  unfold wX8_condition_0 at hw
  refine lv_aload_n hx hb dX8_condition_0 rfl (lv_at hl 0 rfl) ?_
  obtain ⟨a1, e1, hw⟩ := hw
  have p_a1 : pI S 2 a1 := wf_r P.2.2.2.1 p_a0 e1
  refine gf_8_3 C P p_a0 e1 q_302 dX8_condition_1 ?_
  refine cl_i C P (run_V C P hl.1 (kd := 2) (met_X2_hasBegun (CF_n C) G H.size _ _ S a1 p_a1 hw) p_a1 (by decide) rfl q_347 q_348 q_349 q_2 q_350 cd_X2_hasBegun ⟨(Nat.le_of_ble_eq_true rfl), (Nat.le_of_ble_eq_true rfl)⟩ rfl rfl (As := []) (rest := []) rfl rfl (Nat.le_of_ble_eq_true rfl) dX8_condition_4 ⟨by show cells + 0 ≤ 0; omega, by show slots + 0 ≤ 0; omega⟩) (kx_out C hex (fun _ _ _ h => h) (by omega) (by omega)) (fun r3 S2 H locs P hE hw => ?_)
  have p_a0 : pI S2 8 a0 := pI_x hE p_a0
  have p_a1 : pI S2 2 a1 := pI_x hE p_a1
  refine lv_if_ne (tgt := 12) hx hb dX8_condition_7 (by decide) (fun hc => ?_) (fun hc => ?_)
  · have hw := hw.1 hc
    refine lv_aload_n hx hb dX8_condition_12 rfl (lv_at hl 0 rfl) ?_
    obtain ⟨a4, e1, hw⟩ := hw
    have p_a4 : pI S2 2 a4 := wf_r P.2.2.2.1 p_a0 e1
    refine gf_8_3 C P p_a0 e1 q_302 dX8_condition_13 ?_
    refine lv_iconst (v := 0) hx hb dX8_condition_16 (by decide) ?_
    refine cl_i C P (run_V C P hl.1 (kd := 2) (met_X2_hasLiving (CF_n C) G H.size _ _ S2 a4 0 p_a4 hw) p_a4 (by decide) rfl q_351 q_352 q_353 q_2 q_354 cd_X2_hasLiving ⟨(Nat.le_of_ble_eq_true rfl), (Nat.le_of_ble_eq_true rfl)⟩ rfl rfl (As := [.int 0]) (rest := []) rfl rfl (Nat.le_of_ble_eq_true rfl) dX8_condition_17 ⟨by show cells + 0 ≤ 0; omega, by show slots + 0 ≤ 0; omega⟩) (kx_out C hex (fun _ _ _ h => h) (by omega) (by omega)) (fun r6 S5 H locs P hE hw => ?_)
    have p_a0 : pI S5 8 a0 := pI_x hE p_a0
    have p_a4 : pI S5 2 a4 := pI_x hE p_a4
    refine lv_istore_n (lv' := [(1, .int r6), (0, .ref a0)]) hx hb dX8_condition_20 rfl hl (by decide) rfl (fun ls hl => ?_)
    refine lv_aload_n hx hb dX8_condition_21 rfl (lv_at hl 1 rfl) ?_
    obtain ⟨a7, e1, hw⟩ := hw
    have p_a7 : pI S5 2 a7 := wf_r P.2.2.2.1 p_a0 e1
    refine gf_8_3 C P p_a0 e1 q_302 dX8_condition_22 ?_
    refine lv_iconst (v := 1) hx hb dX8_condition_25 (by decide) ?_
    refine cl_i C P (run_V C P hl.1 (kd := 2) (met_X2_hasLiving (CF_n C) G H.size _ _ S5 a7 1 p_a7 hw) p_a7 (by decide) rfl q_351 q_352 q_353 q_2 q_354 cd_X2_hasLiving ⟨(Nat.le_of_ble_eq_true rfl), (Nat.le_of_ble_eq_true rfl)⟩ rfl rfl (As := [.int 1]) (rest := []) rfl rfl (Nat.le_of_ble_eq_true rfl) dX8_condition_26 ⟨by show cells + 0 ≤ 0; omega, by show slots + 0 ≤ 0; omega⟩) (kx_out C hex (fun _ _ _ h => h) (by omega) (by omega)) (fun r9 S8 H locs P hE hw => ?_)
    have p_a7 : pI S8 2 a7 := pI_x hE p_a7
    refine lv_istore_n (lv' := [(2, .int r9), (1, .int r6), (0, .ref a0)]) hx hb dX8_condition_29 rfl hl (by decide) rfl (fun ls hl => ?_)
    refine lv_iload_n hx hb dX8_condition_30 rfl (lv_at hl 1 rfl) ?_
    refine lv_if_eq (tgt := 40) hx hb dX8_condition_31 (by decide) (fun hc => ?_) (fun hc => ?_)
    · have hw := hw.1 hc
      exact tX8_condition_40 C hr hex Q QX S8 r6 r9 P (lv_sub hl [1, 0] rfl) (by omega) (by omega) hw
    · have hw := hw.2 hc
      refine lv_iload_n hx hb dX8_condition_34 rfl (lv_at hl 0 rfl) ?_
      refine lv_if_eq (tgt := 40) hx hb dX8_condition_35 (by decide) (fun hc => ?_) (fun hc => ?_)
      · have hw := hw.1 hc
        exact tX8_condition_40 C hr hex Q QX S8 r6 r9 P (lv_sub hl [1, 0] rfl) (by omega) (by omega) hw
      · have hw := hw.2 hc
        refine lv_iconst (v := 1) hx hb dX8_condition_38 (by decide) ?_
        exact e_i C hr rfl P hw (by omega) (by omega) dX8_condition_39
  · have hw := hw.2 hc
    refine lv_iconst (v := 0) hx hb dX8_condition_10 (by decide) ?_
    exact e_i C hr rfl P hw (by omega) (by omega) dX8_condition_11
def wp_X8_condition (Q : Int32 → MS → Prop) (QX : String → MS → Prop) (S : MS) (a0 : Nat) : Prop := wX8_condition_0 Q QX S a0
set_option maxHeartbeats 4000000 in
set_option maxRecDepth 100000 in
theorem met_X8_condition {l : Launch} (hst : l.stackTraces = false) (G : GP) (sz : Nat) (Q : Int32 → MS → Prop) (QX : String → MS → Prop) (S : MS) (a0 : Nat) (p_a0 : pI S 8 a0) (hw : wp_X8_condition Q QX S a0) : vx_Met l yX8_condition (.code yX8_condition cX8_condition 3 (some .int) :: GW) rmX8_condition (va_Pc [.ref a0] (PR G S sz)) (QI G S (FA G S sz) Q) (XX G S (FA G S sz) QX) 0 0 (FA G S sz) := by
  refine st_m (by decide +kernel) hst (fun p e s m below meth c C hr hnm hex P => ?_)
  refine en_m (Nat.le_of_ble_eq_true rfl) (lv := [(0, .ref a0)]) rfl (fun ls hl => ?_)
  have C : CF p l s m _ meth c "SkirmishGrid" cX8_condition 3 G (FA G S sz) := C
  exact tX8_condition_0 C hr hex Q QX S a0 p_a0 P hl (by omega) (by omega) hw
theorem cd_X8_condition : yX8_condition.cls = RX8 ∧ yX8_condition.cls ≠ "java/lang/invoke/MethodHandle" ∧ yX8_condition.cls ≠ "java/lang/invoke/VarHandle" ∧ (parseMethodDescriptor yX8_condition.desc).map (fun d => d.parameters.length) = some 0 := by decide +kernel
abbrev rmX8_round : Room := { frames := 0, cells := 0, slots := 0, locals := 0 }
def wX8_round_0 (Q : Int32 → MS → Prop) (QX : String → MS → Prop) (S : MS) (a0 : Nat) : Prop := (∃ a1, mR S a0 3 = some a1 ∧ Q (mI S a1 8) S)
set_option maxHeartbeats 4000000 in
set_option maxRecDepth 100000 in
theorem tX8_round_0 {p : Program} {l : Launch} {e : Env} {s : State} {m : MethodId} {args : Array Value} {below : List Frame} {meth : Method} {c : Code} {H : Heap} {locs : List Loc} {cells slots : Nat} {G : GP} {A : Nat → Prop} {S0 : MS} {ls : Array Slot} (C : CF p l s m args meth c "SkirmishGrid" cX8_round 1 G A) (hr : meth.sig.returnType = (some .int)) (hex : ∀ x ∈ c.exceptionTable.toList, False) (Q : Int32 → MS → Prop) (QX : String → MS → Prop) (S : MS) (a0 : Nat) (p_a0 : pI S 8 a0) (P : PW G A s H locs S0 S) (hl : lv_has ls 1 [(0, .ref a0)]) (hcc : cells + 0 ≤ 0) (hss : slots + 0 ≤ 0) (hw : wX8_round_0 Q QX S a0) : W p l e rmX8_round s m args below meth c H locs cells slots (vx_MQ below (QI G S0 A Q) (XX G S0 A QX) args s 0 0 A) (F0 m 0 ls []) := by
  have hx := CF_x C
  have hb := CF_b C
  unfold wX8_round_0 at hw
  refine lv_aload_n hx hb dX8_round_0 rfl (lv_at hl 0 rfl) ?_
  obtain ⟨a1, e1, hw⟩ := hw
  have p_a1 : pI S 2 a1 := wf_r P.2.2.2.1 p_a0 e1
  refine gf_8_3 C P p_a0 e1 q_302 dX8_round_1 ?_
  refine gf_2_8 C P p_a1 q_182 dX8_round_4 ?_
  exact e_i C hr rfl P hw (by omega) (by omega) dX8_round_7
def wp_X8_round (Q : Int32 → MS → Prop) (QX : String → MS → Prop) (S : MS) (a0 : Nat) : Prop := wX8_round_0 Q QX S a0
set_option maxHeartbeats 4000000 in
set_option maxRecDepth 100000 in
theorem met_X8_round {l : Launch} (hst : l.stackTraces = false) (G : GP) (sz : Nat) (Q : Int32 → MS → Prop) (QX : String → MS → Prop) (S : MS) (a0 : Nat) (p_a0 : pI S 8 a0) (hw : wp_X8_round Q QX S a0) : vx_Met l yX8_round (.code yX8_round cX8_round 1 (some .int) :: GW) rmX8_round (va_Pc [.ref a0] (PR G S sz)) (QI G S (FA G S sz) Q) (XX G S (FA G S sz) QX) 0 0 (FA G S sz) := by
  refine st_m (by decide +kernel) hst (fun p e s m below meth c C hr hnm hex P => ?_)
  refine en_m (Nat.le_of_ble_eq_true rfl) (lv := [(0, .ref a0)]) rfl (fun ls hl => ?_)
  have C : CF p l s m _ meth c "SkirmishGrid" cX8_round 1 G (FA G S sz) := C
  exact tX8_round_0 C hr hex Q QX S a0 p_a0 P hl (by omega) (by omega) hw
theorem cd_X8_round : yX8_round.cls = RX8 ∧ yX8_round.cls ≠ "java/lang/invoke/MethodHandle" ∧ yX8_round.cls ≠ "java/lang/invoke/VarHandle" ∧ (parseMethodDescriptor yX8_round.desc).map (fun d => d.parameters.length) = some 0 := by decide +kernel
abbrev rmX8_current : Room := { frames := 6, cells := 1, slots := 6, locals := 110 }
def wX8_current_0 (Q : Int32 → MS → Prop) (QX : String → MS → Prop) (S : MS) (a0 : Nat) : Prop := (∃ a1, mR S a0 3 = some a1 ∧ wp_X2_onTurn (fun r3 S2 => ((r3 = none → QX "java/util/NoSuchElementException" S2) ∧ (∀ a4, r3 = some a4 → (∃ a5, mR S2 a0 3 = some a5 ∧ Q (mI S2 a5 6) S2)))) QX S a1)
set_option maxHeartbeats 4000000 in
set_option maxRecDepth 100000 in
theorem tX8_current_0 {p : Program} {l : Launch} {e : Env} {s : State} {m : MethodId} {args : Array Value} {below : List Frame} {meth : Method} {c : Code} {H : Heap} {locs : List Loc} {cells slots : Nat} {G : GP} {A : Nat → Prop} {S0 : MS} {ls : Array Slot} (C : CF p l s m args meth c "SkirmishGrid" cX8_current 1 G A) (hr : meth.sig.returnType = (some .int)) (hex : ∀ x ∈ c.exceptionTable.toList, False) (Q : Int32 → MS → Prop) (QX : String → MS → Prop) (S : MS) (a0 : Nat) (p_a0 : pI S 8 a0) (P : PW G A s H locs S0 S) (hl : lv_has ls 1 [(0, .ref a0)]) (hcc : cells + 1 ≤ 1) (hss : slots + 6 ≤ 6) (hw : wX8_current_0 Q QX S a0) : W p l e rmX8_current s m args below meth c H locs cells slots (vx_MQ below (QI G S0 A Q) (XX G S0 A QX) args s 1 6 A) (F0 m 0 ls []) := by
  have hx := CF_x C
  have hb := CF_b C
  unfold wX8_current_0 at hw
  refine lv_aload_n hx hb dX8_current_0 rfl (lv_at hl 0 rfl) ?_
  obtain ⟨a1, e1, hw⟩ := hw
  have p_a1 : pI S 2 a1 := wf_r P.2.2.2.1 p_a0 e1
  refine gf_8_3 C P p_a0 e1 q_302 dX8_current_1 ?_
  refine cl_q C P (run_V C P hl.1 (kd := 2) (met_X2_onTurn (CF_n C) G H.size _ _ S a1 p_a1 hw) p_a1 (by decide) rfl q_878 q_879 q_880 q_2 q_881 cd_X2_onTurn ⟨(Nat.le_of_ble_eq_true rfl), (Nat.le_of_ble_eq_true rfl)⟩ rfl rfl (As := []) (rest := []) rfl rfl (Nat.le_of_ble_eq_true rfl) dX8_current_4 ⟨by show cells + 0 ≤ 1; omega, by show slots + 0 ≤ 6; omega⟩) (kx_out C hex (fun _ _ _ h => h) (by omega) (by omega)) (fun r3 S2 H locs P hE hw hR => ?_)
  have p_a0 : pI S2 8 a0 := pI_x hE p_a0
  have p_a1 : pI S2 2 a1 := pI_x hE p_a1
  cases r3 with
  | none =>
    have hw := hw.1 rfl
    refine lv_ifnonnullN hx hb dX8_current_7 ?_
    exact th_NS C hex P hl.1 (text := "the fight does not go on") (by decide +kernel) q_641 q_23 xw_NSE xb_NSE xg_NSE dX8_current_10 dX8_current_13 dX8_current_14 dX8_current_16 dX8_current_19 (Nat.le_of_ble_eq_true rfl) (Nat.le_of_ble_eq_true rfl) (by show cells + 1 ≤ 1; omega) (by show slots + 6 ≤ 6; omega) hw (by omega) (by omega)
  | some a4 =>
    have hw := hw.2 a4 rfl
    have p_a4 : pI S2 7 a4 := hR a4 rfl
    refine lv_ifnonnull (tgt := 20) hx hb dX8_current_7 (by decide) ?_
    refine lv_aload_n hx hb dX8_current_20 rfl (lv_at hl 0 rfl) ?_
    obtain ⟨a5, e1, hw⟩ := hw
    have p_a5 : pI S2 2 a5 := wf_r P.2.2.2.1 p_a0 e1
    refine gf_8_3 C P p_a0 e1 q_302 dX8_current_21 ?_
    refine gf_2_6 C P p_a5 q_178 dX8_current_24 ?_
    exact e_i C hr rfl P hw (by omega) (by omega) dX8_current_27
def wp_X8_current (Q : Int32 → MS → Prop) (QX : String → MS → Prop) (S : MS) (a0 : Nat) : Prop := wX8_current_0 Q QX S a0
set_option maxHeartbeats 4000000 in
set_option maxRecDepth 100000 in
theorem met_X8_current {l : Launch} (hst : l.stackTraces = false) (G : GP) (sz : Nat) (Q : Int32 → MS → Prop) (QX : String → MS → Prop) (S : MS) (a0 : Nat) (p_a0 : pI S 8 a0) (hw : wp_X8_current Q QX S a0) : vx_Met l yX8_current (.code yX8_current cX8_current 1 (some .int) :: GW) rmX8_current (va_Pc [.ref a0] (PR G S sz)) (QI G S (FA G S sz) Q) (XX G S (FA G S sz) QX) 1 6 (FA G S sz) := by
  refine st_m (by decide +kernel) hst (fun p e s m below meth c C hr hnm hex P => ?_)
  refine en_m (Nat.le_of_ble_eq_true rfl) (lv := [(0, .ref a0)]) rfl (fun ls hl => ?_)
  have C : CF p l s m _ meth c "SkirmishGrid" cX8_current 1 G (FA G S sz) := C
  exact tX8_current_0 C hr hex Q QX S a0 p_a0 P hl (by omega) (by omega) hw
theorem cd_X8_current : yX8_current.cls = RX8 ∧ yX8_current.cls ≠ "java/lang/invoke/MethodHandle" ∧ yX8_current.cls ≠ "java/lang/invoke/VarHandle" ∧ (parseMethodDescriptor yX8_current.desc).map (fun d => d.parameters.length) = some 0 := by decide +kernel
abbrev rmX8_order : Room := { frames := 6, cells := 1, slots := 6, locals := 110 }
def wX8_order_25 (Q : Int32 → MS → Prop) (QX : String → MS → Prop) (S : MS) : Prop := QX "java/util/NoSuchElementException" S
set_option maxHeartbeats 4000000 in
set_option maxRecDepth 100000 in
theorem tX8_order_25 {p : Program} {l : Launch} {e : Env} {s : State} {m : MethodId} {args : Array Value} {below : List Frame} {meth : Method} {c : Code} {H : Heap} {locs : List Loc} {cells slots : Nat} {G : GP} {A : Nat → Prop} {S0 : MS} {ls : Array Slot} (C : CF p l s m args meth c "SkirmishGrid" cX8_order 2 G A) (hr : meth.sig.returnType = (some .int)) (hex : ∀ x ∈ c.exceptionTable.toList, False) (Q : Int32 → MS → Prop) (QX : String → MS → Prop) (S : MS) (P : PW G A s H locs S0 S) (hl : lv_has ls 2 []) (hcc : cells + 1 ≤ 1) (hss : slots + 6 ≤ 6) (hw : wX8_order_25 Q QX S) : W p l e rmX8_order s m args below meth c H locs cells slots (vx_MQ below (QI G S0 A Q) (XX G S0 A QX) args s 1 6 A) (F0 m 25 ls []) := by
  have hx := CF_x C
  have hb := CF_b C
  unfold wX8_order_25 at hw
  exact th_NS C hex P hl.1 (text := "the order has no such index") (by decide +kernel) q_641 q_23 xw_NSE xb_NSE xg_NSE dX8_order_25 dX8_order_28 dX8_order_29 dX8_order_31 dX8_order_34 (Nat.le_of_ble_eq_true rfl) (Nat.le_of_ble_eq_true rfl) (by show cells + 1 ≤ 1; omega) (by show slots + 6 ≤ 6; omega) hw (by omega) (by omega)
def wX8_order_0 (Q : Int32 → MS → Prop) (QX : String → MS → Prop) (S : MS) (a0 : Nat) (x1 : Int32) : Prop := (∃ a1, mR S a0 3 = some a1 ∧ wp_X2_hasBegun (fun r3 S2 => ((r3 = 0 → wX8_order_25 Q QX S2) ∧ (¬ r3 = 0 → ((x1 < 0 → wX8_order_25 Q QX S2) ∧ (¬ x1 < 0 → (∃ a4, mR S2 a0 3 = some a4 ∧ ((x1 < (mI S2 a4 4) → (∃ a5, mR S2 a0 3 = some a5 ∧ (∃ a6, mR S2 a5 3 = some a6 ∧ (vp_in x1 (mN S2 a6) ∧ Q (mI S2 a6 (x1 : Int32).toNatClampNeg) S2)))) ∧ (¬ x1 < (mI S2 a4 4) → wX8_order_25 Q QX S2)))))))) QX S a1)
set_option maxHeartbeats 4000000 in
set_option maxRecDepth 100000 in
theorem tX8_order_0 {p : Program} {l : Launch} {e : Env} {s : State} {m : MethodId} {args : Array Value} {below : List Frame} {meth : Method} {c : Code} {H : Heap} {locs : List Loc} {cells slots : Nat} {G : GP} {A : Nat → Prop} {S0 : MS} {ls : Array Slot} (C : CF p l s m args meth c "SkirmishGrid" cX8_order 2 G A) (hr : meth.sig.returnType = (some .int)) (hex : ∀ x ∈ c.exceptionTable.toList, False) (Q : Int32 → MS → Prop) (QX : String → MS → Prop) (S : MS) (a0 : Nat) (x1 : Int32) (p_a0 : pI S 8 a0) (P : PW G A s H locs S0 S) (hl : lv_has ls 2 [(0, .ref a0), (1, .int x1)]) (hcc : cells + 1 ≤ 1) (hss : slots + 6 ≤ 6) (hw : wX8_order_0 Q QX S a0 x1) : W p l e rmX8_order s m args below meth c H locs cells slots (vx_MQ below (QI G S0 A Q) (XX G S0 A QX) args s 1 6 A) (F0 m 0 ls []) := by
  have hx := CF_x C
  have hb := CF_b C
  unfold wX8_order_0 at hw
  refine lv_aload_n hx hb dX8_order_0 rfl (lv_at hl 0 rfl) ?_
  obtain ⟨a1, e1, hw⟩ := hw
  have p_a1 : pI S 2 a1 := wf_r P.2.2.2.1 p_a0 e1
  refine gf_8_3 C P p_a0 e1 q_302 dX8_order_1 ?_
  refine cl_i C P (run_V C P hl.1 (kd := 2) (met_X2_hasBegun (CF_n C) G H.size _ _ S a1 p_a1 hw) p_a1 (by decide) rfl q_347 q_348 q_349 q_2 q_350 cd_X2_hasBegun ⟨(Nat.le_of_ble_eq_true rfl), (Nat.le_of_ble_eq_true rfl)⟩ rfl rfl (As := []) (rest := []) rfl rfl (Nat.le_of_ble_eq_true rfl) dX8_order_4 ⟨by show cells + 0 ≤ 1; omega, by show slots + 0 ≤ 6; omega⟩) (kx_out C hex (fun _ _ _ h => h) (by omega) (by omega)) (fun r3 S2 H locs P hE hw => ?_)
  have p_a0 : pI S2 8 a0 := pI_x hE p_a0
  have p_a1 : pI S2 2 a1 := pI_x hE p_a1
  refine lv_if_eq (tgt := 25) hx hb dX8_order_7 (by decide) (fun hc => ?_) (fun hc => ?_)
  · have hw := hw.1 hc
    exact tX8_order_25 C hr hex Q QX S2 P (lv_sub hl [] rfl) (by omega) (by omega) hw
  · have hw := hw.2 hc
    refine lv_iload_n hx hb dX8_order_10 rfl (lv_at hl 1 rfl) ?_
    refine lv_if_lt (tgt := 25) hx hb dX8_order_11 (by decide) (fun hc => ?_) (fun hc => ?_)
    · have hw := hw.1 hc
      exact tX8_order_25 C hr hex Q QX S2 P (lv_sub hl [] rfl) (by omega) (by omega) hw
    · have hw := hw.2 hc
      refine lv_iload_n hx hb dX8_order_14 rfl (lv_at hl 1 rfl) ?_
      refine lv_aload_n hx hb dX8_order_15 rfl (lv_at hl 0 rfl) ?_
      obtain ⟨a4, e1, hw⟩ := hw
      have p_a4 : pI S2 2 a4 := wf_r P.2.2.2.1 p_a0 e1
      refine gf_8_3 C P p_a0 e1 q_302 dX8_order_16 ?_
      refine gf_2_4 C P p_a4 q_175 dX8_order_19 ?_
      refine lv_icmp_lt (tgt := 35) hx hb dX8_order_22 (by decide) (fun hc => ?_) (fun hc => ?_)
      · have hw := hw.1 hc
        refine lv_aload_n hx hb dX8_order_35 rfl (lv_at hl 0 rfl) ?_
        obtain ⟨a5, e1, hw⟩ := hw
        have p_a5 : pI S2 2 a5 := wf_r P.2.2.2.1 p_a0 e1
        refine gf_8_3 C P p_a0 e1 q_302 dX8_order_36 ?_
        obtain ⟨a6, e1, hw⟩ := hw
        have p_a6 : pI S2 12 a6 := wf_r P.2.2.2.1 p_a5 e1
        refine gf_2_3 C P p_a5 e1 q_173 dX8_order_39 ?_
        refine lv_iload_n hx hb dX8_order_42 rfl (lv_at hl 1 rfl) ?_
        obtain ⟨h1, hw⟩ := hw
        refine ra_i C P p_a6 h1 dX8_order_43 ?_
        exact e_i C hr rfl P hw (by omega) (by omega) dX8_order_44
      · have hw := hw.2 hc
        exact tX8_order_25 C hr hex Q QX S2 P (lv_sub hl [] rfl) (by omega) (by omega) hw
def wp_X8_order (Q : Int32 → MS → Prop) (QX : String → MS → Prop) (S : MS) (a0 : Nat) (x1 : Int32) : Prop := wX8_order_0 Q QX S a0 x1
set_option maxHeartbeats 4000000 in
set_option maxRecDepth 100000 in
theorem met_X8_order {l : Launch} (hst : l.stackTraces = false) (G : GP) (sz : Nat) (Q : Int32 → MS → Prop) (QX : String → MS → Prop) (S : MS) (a0 : Nat) (x1 : Int32) (p_a0 : pI S 8 a0) (hw : wp_X8_order Q QX S a0 x1) : vx_Met l yX8_order (.code yX8_order cX8_order 2 (some .int) :: GW) rmX8_order (va_Pc [.ref a0, .int x1] (PR G S sz)) (QI G S (FA G S sz) Q) (XX G S (FA G S sz) QX) 1 6 (FA G S sz) := by
  refine st_m (by decide +kernel) hst (fun p e s m below meth c C hr hnm hex P => ?_)
  refine en_m (Nat.le_of_ble_eq_true rfl) (lv := [(0, .ref a0), (1, .int x1)]) rfl (fun ls hl => ?_)
  have C : CF p l s m _ meth c "SkirmishGrid" cX8_order 2 G (FA G S sz) := C
  exact tX8_order_0 C hr hex Q QX S a0 x1 p_a0 P hl (by omega) (by omega) hw
theorem cd_X8_order : yX8_order.cls = RX8 ∧ yX8_order.cls ≠ "java/lang/invoke/MethodHandle" ∧ yX8_order.cls ≠ "java/lang/invoke/VarHandle" ∧ (parseMethodDescriptor yX8_order.desc).map (fun d => d.parameters.length) = some 1 := by decide +kernel
abbrev rmX8_requireTurn : Room := { frames := 6, cells := 1, slots := 6, locals := 110 }
def wX8_requireTurn_0 (Q : Option Nat → MS → Prop) (QX : String → MS → Prop) (S : MS) (a0 : Nat) : Prop := (∃ a1, mR S a0 3 = some a1 ∧ wp_X2_onTurn (fun r3 S2 => ((r3 = none → QX "java/lang/UnsupportedOperationException" S2) ∧ (∀ a4, r3 = some a4 → Q (some a4) S2))) QX S a1)
set_option maxHeartbeats 4000000 in
set_option maxRecDepth 100000 in
theorem tX8_requireTurn_0 {p : Program} {l : Launch} {e : Env} {s : State} {m : MethodId} {args : Array Value} {below : List Frame} {meth : Method} {c : Code} {H : Heap} {locs : List Loc} {cells slots : Nat} {G : GP} {A : Nat → Prop} {S0 : MS} {ls : Array Slot} (C : CF p l s m args meth c "SkirmishGrid" cX8_requireTurn 2 G A) (hr : meth.sig.returnType = (some (.object "SkirmishGrid$Unit"))) (hex : ∀ x ∈ c.exceptionTable.toList, False) (Q : Option Nat → MS → Prop) (QX : String → MS → Prop) (S : MS) (a0 : Nat) (p_a0 : pI S 8 a0) (P : PW G A s H locs S0 S) (hl : lv_has ls 2 [(0, .ref a0)]) (hcc : cells + 1 ≤ 1) (hss : slots + 6 ≤ 6) (hw : wX8_requireTurn_0 Q QX S a0) : W p l e rmX8_requireTurn s m args below meth c H locs cells slots (vx_MQ below (QQ G S0 A 7 Q) (XX G S0 A QX) args s 1 6 A) (F0 m 0 ls []) := by
  have hx := CF_x C
  have hb := CF_b C
  unfold wX8_requireTurn_0 at hw
  refine lv_aload_n hx hb dX8_requireTurn_0 rfl (lv_at hl 0 rfl) ?_
  obtain ⟨a1, e1, hw⟩ := hw
  have p_a1 : pI S 2 a1 := wf_r P.2.2.2.1 p_a0 e1
  refine gf_8_3 C P p_a0 e1 q_302 dX8_requireTurn_1 ?_
  refine cl_q C P (run_V C P hl.1 (kd := 2) (met_X2_onTurn (CF_n C) G H.size _ _ S a1 p_a1 hw) p_a1 (by decide) rfl q_878 q_879 q_880 q_2 q_881 cd_X2_onTurn ⟨(Nat.le_of_ble_eq_true rfl), (Nat.le_of_ble_eq_true rfl)⟩ rfl rfl (As := []) (rest := []) rfl rfl (Nat.le_of_ble_eq_true rfl) dX8_requireTurn_4 ⟨by show cells + 0 ≤ 1; omega, by show slots + 0 ≤ 6; omega⟩) (kx_out C hex (fun _ _ _ h => h) (by omega) (by omega)) (fun r3 S2 H locs P hE hw hR => ?_)
  have p_a1 : pI S2 2 a1 := pI_x hE p_a1
  cases r3 with
  | none =>
    have hw := hw.1 rfl
    refine lv_astore_nN (lv' := [(1, .null), (0, .ref a0)]) hx hb dX8_requireTurn_7 rfl hl (by decide) rfl (fun ls hl => ?_)
    refine lv_aload_nN hx hb dX8_requireTurn_8 rfl (lv_at hl 0 rfl) ?_
    refine lv_ifnonnullN hx hb dX8_requireTurn_9 ?_
    exact th_S C hex P hl.1 (E := "java/lang/UnsupportedOperationException") (text := "the fight does not go on") (by decide +kernel) (by decide +kernel) (by decide +kernel) q_603 q_22 xw_UOE xb_UOE xg_UOE dX8_requireTurn_12 dX8_requireTurn_15 dX8_requireTurn_16 dX8_requireTurn_18 dX8_requireTurn_21 (Nat.le_of_ble_eq_true rfl) (Nat.le_of_ble_eq_true rfl) (by show cells + 1 ≤ 1; omega) (by show slots + 6 ≤ 6; omega) hw (by omega) (by omega)
  | some a4 =>
    have hw := hw.2 a4 rfl
    have p_a4 : pI S2 7 a4 := hR a4 rfl
    refine lv_astore_n (lv' := [(1, .ref a4), (0, .ref a0)]) hx hb dX8_requireTurn_7 rfl hl (by decide) rfl (fun ls hl => ?_)
    refine lv_aload_n hx hb dX8_requireTurn_8 rfl (lv_at hl 0 rfl) ?_
    refine lv_ifnonnull (tgt := 22) hx hb dX8_requireTurn_9 (by decide) ?_
    refine lv_aload_n hx hb dX8_requireTurn_22 rfl (lv_at hl 0 rfl) ?_
    exact e_q (v := some a4) C hr P hw (pQ_s p_a4) (by omega) (by omega) dX8_requireTurn_23
def wp_X8_requireTurn (Q : Option Nat → MS → Prop) (QX : String → MS → Prop) (S : MS) (a0 : Nat) : Prop := wX8_requireTurn_0 Q QX S a0
set_option maxHeartbeats 4000000 in
set_option maxRecDepth 100000 in
theorem met_X8_requireTurn {l : Launch} (hst : l.stackTraces = false) (G : GP) (sz : Nat) (Q : Option Nat → MS → Prop) (QX : String → MS → Prop) (S : MS) (a0 : Nat) (p_a0 : pI S 8 a0) (hw : wp_X8_requireTurn Q QX S a0) : vx_Met l yX8_requireTurn (.code yX8_requireTurn cX8_requireTurn 2 (some (.object "SkirmishGrid$Unit")) :: GW) rmX8_requireTurn (va_Pc [.ref a0] (PR G S sz)) (QQ G S (FA G S sz) 7 Q) (XX G S (FA G S sz) QX) 1 6 (FA G S sz) := by
  refine st_m (by decide +kernel) hst (fun p e s m below meth c C hr hnm hex P => ?_)
  refine en_m (Nat.le_of_ble_eq_true rfl) (lv := [(0, .ref a0)]) rfl (fun ls hl => ?_)
  have C : CF p l s m _ meth c "SkirmishGrid" cX8_requireTurn 2 G (FA G S sz) := C
  exact tX8_requireTurn_0 C hr hex Q QX S a0 p_a0 P hl (by omega) (by omega) hw
theorem cd_X8_requireTurn : yX8_requireTurn.cls = RX8 ∧ yX8_requireTurn.cls ≠ "java/lang/invoke/MethodHandle" ∧ yX8_requireTurn.cls ≠ "java/lang/invoke/VarHandle" ∧ (parseMethodDescriptor yX8_requireTurn.desc).map (fun d => d.parameters.length) = some 0 := by decide +kernel
abbrev rmX8_requirePath : Room := { frames := 6, cells := 1, slots := 6, locals := 110 }
def wX8_requirePath_0 (Q : Int32 → MS → Prop) (QX : String → MS → Prop) (S : MS) (a0 : Nat) (b1 : Nat) (x2 : Int32) : Prop := (∃ a1, mR S a0 10 = some a1 ∧ (∃ a2, mR S a0 3 = some a2 ∧ wp_X5_measure (fun S3 => (∃ a4, mR S3 a0 10 = some a4 ∧ wp_X5_costsFrom (fun r6 S5 => ((r6 < 1000000 → Q r6 S5) ∧ (¬ r6 < 1000000 → QX "java/util/NoSuchElementException" S5))) QX S3 a4 (mI S3 b1 4))) QX S a1 a2 x2))
set_option maxHeartbeats 4000000 in
set_option maxRecDepth 100000 in
theorem tX8_requirePath_0 {p : Program} {l : Launch} {e : Env} {s : State} {m : MethodId} {args : Array Value} {below : List Frame} {meth : Method} {c : Code} {H : Heap} {locs : List Loc} {cells slots : Nat} {G : GP} {A : Nat → Prop} {S0 : MS} {ls : Array Slot} (C : CF p l s m args meth c "SkirmishGrid" cX8_requirePath 4 G A) (hr : meth.sig.returnType = (some .int)) (hex : ∀ x ∈ c.exceptionTable.toList, False) (Q : Int32 → MS → Prop) (QX : String → MS → Prop) (S : MS) (a0 : Nat) (b1 : Nat) (x2 : Int32) (p_a0 : pI S 8 a0) (p_b1 : pI S 7 b1) (P : PW G A s H locs S0 S) (hl : lv_has ls 4 [(0, .ref a0), (1, .ref b1), (2, .int x2)]) (hcc : cells + 1 ≤ 1) (hss : slots + 6 ≤ 6) (hw : wX8_requirePath_0 Q QX S a0 b1 x2) : W p l e rmX8_requirePath s m args below meth c H locs cells slots (vx_MQ below (QI G S0 A Q) (XX G S0 A QX) args s 1 6 A) (F0 m 0 ls []) := by
  have hx := CF_x C
  have hb := CF_b C
  unfold wX8_requirePath_0 at hw
  refine lv_aload_n hx hb dX8_requirePath_0 rfl (lv_at hl 0 rfl) ?_
  obtain ⟨a1, e1, hw⟩ := hw
  have p_a1 : pI S 5 a1 := wf_r P.2.2.2.1 p_a0 e1
  refine gf_8_10 C P p_a0 e1 q_309 dX8_requirePath_1 ?_
  refine lv_aload_n hx hb dX8_requirePath_4 rfl (lv_at hl 0 rfl) ?_
  obtain ⟨a2, e1, hw⟩ := hw
  have p_a2 : pI S 2 a2 := wf_r P.2.2.2.1 p_a0 e1
  refine gf_8_3 C P p_a0 e1 q_302 dX8_requirePath_5 ?_
  refine lv_iload_n hx hb dX8_requirePath_8 rfl (lv_at hl 2 rfl) ?_
  refine cl_v C P (run_V C P hl.1 (kd := 5) (met_X5_measure (CF_n C) G H.size _ _ S a1 a2 x2 p_a1 p_a2 hw) p_a1 (by decide) rfl q_906 q_907 q_908 q_8 q_909 cd_X5_measure ⟨(Nat.le_of_ble_eq_true rfl), (Nat.le_of_ble_eq_true rfl)⟩ rfl rfl (As := [.ref a2, .int x2]) (rest := []) rfl rfl (Nat.le_of_ble_eq_true rfl) dX8_requirePath_9 ⟨by show cells + 0 ≤ 1; omega, by show slots + 0 ≤ 6; omega⟩) (kx_out C hex (fun _ _ _ h => h) (by omega) (by omega)) (fun S3 H locs P hE hw => ?_)
  have p_a0 : pI S3 8 a0 := pI_x hE p_a0
  have p_b1 : pI S3 7 b1 := pI_x hE p_b1
  have p_a1 : pI S3 5 a1 := pI_x hE p_a1
  have p_a2 : pI S3 2 a2 := pI_x hE p_a2
  refine lv_aload_n hx hb dX8_requirePath_12 rfl (lv_at hl 0 rfl) ?_
  obtain ⟨a4, e1, hw⟩ := hw
  have p_a4 : pI S3 5 a4 := wf_r P.2.2.2.1 p_a0 e1
  refine gf_8_10 C P p_a0 e1 q_309 dX8_requirePath_13 ?_
  refine lv_aload_n hx hb dX8_requirePath_16 rfl (lv_at hl 1 rfl) ?_
  refine gf_7_4 C P p_b1 q_108 dX8_requirePath_17 ?_
  refine cl_i C P (run_V C P hl.1 (kd := 5) (met_X5_costsFrom (CF_n C) G H.size _ _ S3 a4 (mI S3 b1 4) p_a4 hw) p_a4 (by decide) rfl q_931 q_932 q_933 q_8 q_934 cd_X5_costsFrom ⟨(Nat.le_of_ble_eq_true rfl), (Nat.le_of_ble_eq_true rfl)⟩ rfl rfl (As := [.int (mI S3 b1 4)]) (rest := []) rfl rfl (Nat.le_of_ble_eq_true rfl) dX8_requirePath_20 ⟨by show cells + 0 ≤ 1; omega, by show slots + 0 ≤ 6; omega⟩) (kx_out C hex (fun _ _ _ h => h) (by omega) (by omega)) (fun r6 S5 H locs P hE hw => ?_)
  have p_a4 : pI S5 5 a4 := pI_x hE p_a4
  refine lv_istore_n (lv' := [(3, .int r6), (0, .ref a0), (1, .ref b1), (2, .int x2)]) hx hb dX8_requirePath_23 rfl hl (by decide) rfl (fun ls hl => ?_)
  refine lv_iload_n hx hb dX8_requirePath_24 rfl (lv_at hl 0 rfl) ?_
  refine lv_ldcw (v := 1000000) hx hb (CF_o C) (CF_t C _ q_935) dX8_requirePath_25 ?_
  refine lv_icmp_lt (tgt := 42) hx hb dX8_requirePath_28 (by decide) (fun hc => ?_) (fun hc => ?_)
  · have hw := hw.1 hc
    refine lv_iload_n hx hb dX8_requirePath_42 rfl (lv_at hl 0 rfl) ?_
    exact e_i C hr rfl P hw (by omega) (by omega) dX8_requirePath_43
  · have hw := hw.2 hc
    exact th_NW C hex P hl.1 (text := "there is no path") (by decide +kernel) q_641 q_23 xw_NSE xb_NSE xg_NSE dX8_requirePath_31 dX8_requirePath_34 dX8_requirePath_35 dX8_requirePath_38 dX8_requirePath_41 (Nat.le_of_ble_eq_true rfl) (Nat.le_of_ble_eq_true rfl) (by show cells + 1 ≤ 1; omega) (by show slots + 6 ≤ 6; omega) hw (by omega) (by omega)
def wp_X8_requirePath (Q : Int32 → MS → Prop) (QX : String → MS → Prop) (S : MS) (a0 : Nat) (b1 : Nat) (x2 : Int32) : Prop := wX8_requirePath_0 Q QX S a0 b1 x2
set_option maxHeartbeats 4000000 in
set_option maxRecDepth 100000 in
theorem met_X8_requirePath {l : Launch} (hst : l.stackTraces = false) (G : GP) (sz : Nat) (Q : Int32 → MS → Prop) (QX : String → MS → Prop) (S : MS) (a0 : Nat) (b1 : Nat) (x2 : Int32) (p_a0 : pI S 8 a0) (p_b1 : pI S 7 b1) (hw : wp_X8_requirePath Q QX S a0 b1 x2) : vx_Met l yX8_requirePath (.code yX8_requirePath cX8_requirePath 4 (some .int) :: GW) rmX8_requirePath (va_Pc [.ref a0, .ref b1, .int x2] (PR G S sz)) (QI G S (FA G S sz) Q) (XX G S (FA G S sz) QX) 1 6 (FA G S sz) := by
  refine st_m (by decide +kernel) hst (fun p e s m below meth c C hr hnm hex P => ?_)
  refine en_m (Nat.le_of_ble_eq_true rfl) (lv := [(0, .ref a0), (1, .ref b1), (2, .int x2)]) rfl (fun ls hl => ?_)
  have C : CF p l s m _ meth c "SkirmishGrid" cX8_requirePath 4 G (FA G S sz) := C
  exact tX8_requirePath_0 C hr hex Q QX S a0 b1 x2 p_a0 p_b1 P hl (by omega) (by omega) hw
theorem cd_X8_requirePath : yX8_requirePath.cls = RX8 ∧ yX8_requirePath.cls ≠ "java/lang/invoke/MethodHandle" ∧ yX8_requirePath.cls ≠ "java/lang/invoke/VarHandle" ∧ (parseMethodDescriptor yX8_requirePath.desc).map (fun d => d.parameters.length) = some 2 := by decide +kernel
abbrev rmX8_costs : Room := { frames := 7, cells := 3, slots := 18, locals := 133 }
def wX8_costs_0 (Q : Int32 → MS → Prop) (QX : String → MS → Prop) (S : MS) (a0 : Nat) (x1 : Int32) : Prop := wp_X8_requireCell (fun S1 => wp_X8_requireTurn (fun r3 S2 => (∃ a4, r3 = some a4 ∧ wp_X8_requirePath (fun r6 S5 => Q r6 S5) QX S2 a0 a4 x1)) QX S1 a0) QX S a0 x1
set_option maxHeartbeats 4000000 in
set_option maxRecDepth 100000 in
theorem tX8_costs_0 {p : Program} {l : Launch} {e : Env} {s : State} {m : MethodId} {args : Array Value} {below : List Frame} {meth : Method} {c : Code} {H : Heap} {locs : List Loc} {cells slots : Nat} {G : GP} {A : Nat → Prop} {S0 : MS} {ls : Array Slot} (C : CF p l s m args meth c "SkirmishGrid" cX8_costs 2 G A) (hr : meth.sig.returnType = (some .int)) (hex : ∀ x ∈ c.exceptionTable.toList, False) (Q : Int32 → MS → Prop) (QX : String → MS → Prop) (S : MS) (a0 : Nat) (x1 : Int32) (p_a0 : pI S 8 a0) (P : PW G A s H locs S0 S) (hl : lv_has ls 2 [(0, .ref a0), (1, .int x1)]) (hcc : cells + 3 ≤ 3) (hss : slots + 18 ≤ 18) (hw : wX8_costs_0 Q QX S a0 x1) : W p l e rmX8_costs s m args below meth c H locs cells slots (vx_MQ below (QI G S0 A Q) (XX G S0 A QX) args s 3 18 A) (F0 m 0 ls []) := by
  have hx := CF_x C
  have hb := CF_b C
  unfold wX8_costs_0 at hw
  refine lv_aload_n hx hb dX8_costs_0 rfl (lv_at hl 0 rfl) ?_
  refine lv_iload_n hx hb dX8_costs_1 rfl (lv_at hl 1 rfl) ?_
  refine cl_v C P (run_V C P hl.1 (kd := 8) (met_X8_requireCell (CF_n C) G H.size _ _ S a0 x1 p_a0 hw) p_a0 (by decide) rfl q_733 q_735 q_p1 q_1 q_736 cd_X8_requireCell ⟨(Nat.le_of_ble_eq_true rfl), (Nat.le_of_ble_eq_true rfl)⟩ rfl rfl (As := [.int x1]) (rest := []) rfl rfl (Nat.le_of_ble_eq_true rfl) dX8_costs_2 ⟨by show cells + 1 ≤ 3; omega, by show slots + 6 ≤ 18; omega⟩) (kx_out C hex (fun _ _ _ h => h) (by omega) (by omega)) (fun S1 H locs P hE hw => ?_)
  have p_a0 : pI S1 8 a0 := pI_x hE p_a0
  refine lv_aload_n hx hb dX8_costs_5 rfl (lv_at hl 0 rfl) ?_
  refine lv_aload_n hx hb dX8_costs_6 rfl (lv_at hl 0 rfl) ?_
  refine cl_q C P (run_V C P hl.1 (kd := 8) (met_X8_requireTurn (CF_n C) G H.size _ _ S1 a0 p_a0 hw) p_a0 (by decide) rfl q_898 q_900 q_p9 q_1 q_901 cd_X8_requireTurn ⟨(Nat.le_of_ble_eq_true rfl), (Nat.le_of_ble_eq_true rfl)⟩ rfl rfl (As := []) (rest := [.ref a0]) rfl rfl (Nat.le_of_ble_eq_true rfl) dX8_costs_7 ⟨by show cells + 1 + 1 ≤ 3; omega, by show slots + 6 + 6 ≤ 18; omega⟩) (kx_out C hex (fun _ _ _ h => h) (by omega) (by omega)) (fun r3 S2 H locs P hE hw hR => ?_)
  have p_a0 : pI S2 8 a0 := pI_x hE p_a0
  obtain ⟨a4, rfl, hw⟩ := hw
  have p_a4 : pI S2 7 a4 := hR a4 rfl
  refine lv_iload_n hx hb dX8_costs_10 rfl (lv_at hl 1 rfl) ?_
  refine cl_i C P (run_V C P hl.1 (kd := 8) (met_X8_requirePath (CF_n C) G H.size _ _ S2 a0 a4 x1 p_a0 p_a4 hw) p_a0 (by decide) rfl q_902 q_904 q_p10 q_1 q_905 cd_X8_requirePath ⟨(Nat.le_of_ble_eq_true rfl), (Nat.le_of_ble_eq_true rfl)⟩ rfl rfl (As := [.ref a4, .int x1]) (rest := []) rfl rfl (Nat.le_of_ble_eq_true rfl) dX8_costs_11 ⟨by show cells + 1 + 1 + 1 ≤ 3; omega, by show slots + 6 + 6 + 6 ≤ 18; omega⟩) (kx_out C hex (fun _ _ _ h => h) (by omega) (by omega)) (fun r6 S5 H locs P hE hw => ?_)
  have p_a0 : pI S5 8 a0 := pI_x hE p_a0
  have p_a4 : pI S5 7 a4 := pI_x hE p_a4
  exact e_i C hr rfl P hw (by omega) (by omega) dX8_costs_14
def wp_X8_costs (Q : Int32 → MS → Prop) (QX : String → MS → Prop) (S : MS) (a0 : Nat) (x1 : Int32) : Prop := wX8_costs_0 Q QX S a0 x1
set_option maxHeartbeats 4000000 in
set_option maxRecDepth 100000 in
theorem met_X8_costs {l : Launch} (hst : l.stackTraces = false) (G : GP) (sz : Nat) (Q : Int32 → MS → Prop) (QX : String → MS → Prop) (S : MS) (a0 : Nat) (x1 : Int32) (p_a0 : pI S 8 a0) (hw : wp_X8_costs Q QX S a0 x1) : vx_Met l yX8_costs (.code yX8_costs cX8_costs 2 (some .int) :: GW) rmX8_costs (va_Pc [.ref a0, .int x1] (PR G S sz)) (QI G S (FA G S sz) Q) (XX G S (FA G S sz) QX) 3 18 (FA G S sz) := by
  refine st_m (by decide +kernel) hst (fun p e s m below meth c C hr hnm hex P => ?_)
  refine en_m (Nat.le_of_ble_eq_true rfl) (lv := [(0, .ref a0), (1, .int x1)]) rfl (fun ls hl => ?_)
  have C : CF p l s m _ meth c "SkirmishGrid" cX8_costs 2 G (FA G S sz) := C
  exact tX8_costs_0 C hr hex Q QX S a0 x1 p_a0 P hl (by omega) (by omega) hw
theorem cd_X8_costs : yX8_costs.cls = RX8 ∧ yX8_costs.cls ≠ "java/lang/invoke/MethodHandle" ∧ yX8_costs.cls ≠ "java/lang/invoke/VarHandle" ∧ (parseMethodDescriptor yX8_costs.desc).map (fun d => d.parameters.length) = some 1 := by decide +kernel
abbrev rmX8_pathCell : Room := { frames := 7, cells := 4, slots := 24, locals := 133 }
def wX8_pathCell_87 (Q : Int32 → MS → Prop) (QX : String → MS → Prop) (S : MS) : Prop := QX "java/util/NoSuchElementException" S
set_option maxHeartbeats 4000000 in
set_option maxRecDepth 100000 in
theorem tX8_pathCell_87 {p : Program} {l : Launch} {e : Env} {s : State} {m : MethodId} {args : Array Value} {below : List Frame} {meth : Method} {c : Code} {H : Heap} {locs : List Loc} {cells slots : Nat} {G : GP} {A : Nat → Prop} {S0 : MS} {ls : Array Slot} (C : CF p l s m args meth c "SkirmishGrid" cX8_pathCell 6 G A) (hr : meth.sig.returnType = (some .int)) (hex : ∀ x ∈ c.exceptionTable.toList, False) (Q : Int32 → MS → Prop) (QX : String → MS → Prop) (S : MS) (P : PW G A s H locs S0 S) (hl : lv_has ls 6 []) (hcc : cells + 1 ≤ 4) (hss : slots + 6 ≤ 24) (hw : wX8_pathCell_87 Q QX S) : W p l e rmX8_pathCell s m args below meth c H locs cells slots (vx_MQ below (QI G S0 A Q) (XX G S0 A QX) args s 4 24 A) (F0 m 87 ls []) := by
  have hx := CF_x C
  have hb := CF_b C
  unfold wX8_pathCell_87 at hw
  exact th_NW C hex P hl.1 (text := "the path has no such index") (by decide +kernel) q_641 q_23 xw_NSE xb_NSE xg_NSE dX8_pathCell_87 dX8_pathCell_90 dX8_pathCell_91 dX8_pathCell_94 dX8_pathCell_97 (Nat.le_of_ble_eq_true rfl) (Nat.le_of_ble_eq_true rfl) (by show cells + 1 ≤ 4; omega) (by show slots + 6 ≤ 24; omega) hw (by omega) (by omega)
def wX8_pathCell_76 (Q : Int32 → MS → Prop) (QX : String → MS → Prop) (S : MS) (y2 : Int32) (y4 : Int32) : Prop := ((y4 < 0 → wX8_pathCell_87 Q QX S) ∧ (¬ y4 < 0 → ((y2 < 64 → Q y4 S) ∧ (¬ y2 < 64 → wX8_pathCell_87 Q QX S))))
set_option maxHeartbeats 4000000 in
set_option maxRecDepth 100000 in
theorem tX8_pathCell_76 {p : Program} {l : Launch} {e : Env} {s : State} {m : MethodId} {args : Array Value} {below : List Frame} {meth : Method} {c : Code} {H : Heap} {locs : List Loc} {cells slots : Nat} {G : GP} {A : Nat → Prop} {S0 : MS} {ls : Array Slot} (C : CF p l s m args meth c "SkirmishGrid" cX8_pathCell 6 G A) (hr : meth.sig.returnType = (some .int)) (hex : ∀ x ∈ c.exceptionTable.toList, False) (Q : Int32 → MS → Prop) (QX : String → MS → Prop) (S : MS) (y2 : Int32) (y4 : Int32) (P : PW G A s H locs S0 S) (hl : lv_has ls 6 [(2, .int y2), (4, .int y4)]) (hcc : cells + 1 ≤ 4) (hss : slots + 6 ≤ 24) (hw : wX8_pathCell_76 Q QX S y2 y4) : W p l e rmX8_pathCell s m args below meth c H locs cells slots (vx_MQ below (QI G S0 A Q) (XX G S0 A QX) args s 4 24 A) (F0 m 76 ls []) := by
  have hx := CF_x C
  have hb := CF_b C
  unfold wX8_pathCell_76 at hw
  refine lv_iload hx hb dX8_pathCell_76 (lv_at hl 1 rfl) ?_
  refine lv_if_lt (tgt := 87) hx hb dX8_pathCell_78 (by decide) (fun hc => ?_) (fun hc => ?_)
  · have hw := hw.1 hc
    exact tX8_pathCell_87 C hr hex Q QX S P (lv_sub hl [] rfl) (by omega) (by omega) hw
  · have hw := hw.2 hc
    refine lv_iload_n hx hb dX8_pathCell_81 rfl (lv_at hl 0 rfl) ?_
    refine lv_bipush (v := 64) hx hb dX8_pathCell_82 (by decide) ?_
    refine lv_icmp_lt (tgt := 98) hx hb dX8_pathCell_84 (by decide) (fun hc => ?_) (fun hc => ?_)
    · have hw := hw.1 hc
      refine lv_iload hx hb dX8_pathCell_98 (lv_at hl 1 rfl) ?_
      exact e_i C hr rfl P hw (by omega) (by omega) dX8_pathCell_100
    · have hw := hw.2 hc
      exact tX8_pathCell_87 C hr hex Q QX S P (lv_sub hl [] rfl) (by omega) (by omega) hw
def wX8_pathCell_34 (Q : Int32 → MS → Prop) (QX : String → MS → Prop) (k34 : MS → Nat → Int32 → Int32 → Int32 → Prop) (S : MS) (a0 : Nat) (y2 : Int32) (y4 : Int32) (y5 : Int32) : Prop := ((y2 < y5 → wX8_pathCell_76 Q QX S y2 y4) ∧ (¬ y2 < y5 → ((64 ≤ y5 → wX8_pathCell_76 Q QX S y2 y4) ∧ (¬ 64 ≤ y5 → ((y4 < 0 → wX8_pathCell_76 Q QX S y2 y4) ∧ (¬ y4 < 0 → (∃ a1, mR S a0 10 = some a1 ∧ (∃ a2, mR S a0 3 = some a2 ∧ (∃ a3, mR S a2 0 = some a3 ∧ wp_X5_next (fun r5 S4 => k34 S4 a0 y2 r5 (y5 + 1)) QX S a1 a3 y4)))))))))
set_option maxHeartbeats 4000000 in
set_option maxRecDepth 100000 in
theorem tX8_pathCell_34 {p : Program} {l : Launch} {e : Env} {s : State} {m : MethodId} {args : Array Value} {below : List Frame} {meth : Method} {c : Code} {H : Heap} {locs : List Loc} {cells slots : Nat} {G : GP} {A : Nat → Prop} {S0 : MS} {ls : Array Slot} (C : CF p l s m args meth c "SkirmishGrid" cX8_pathCell 6 G A) (hr : meth.sig.returnType = (some .int)) (hex : ∀ x ∈ c.exceptionTable.toList, False) (Q : Int32 → MS → Prop) (QX : String → MS → Prop) (k34 : MS → Nat → Int32 → Int32 → Int32 → Prop) (kh34 : ∀ (S : MS) (a0 : Nat) (y2 : Int32) (y4 : Int32) (y5 : Int32) (cells slots : Nat) (H : Heap) (locs : List Loc) (ls : Array Slot), pI S 8 a0 → PW G A s H locs S0 S → lv_has ls 6 [(0, .ref a0), (2, .int y2), (4, .int y4), (5, .int y5)] → cells + 1 ≤ 4 → slots + 6 ≤ 24 → k34 S a0 y2 y4 y5 → W p l e rmX8_pathCell s m args below meth c H locs cells slots (vx_MQ below (QI G S0 A Q) (XX G S0 A QX) args s 4 24 A) (F0 m 34 ls [])) (S : MS) (a0 : Nat) (y2 : Int32) (y4 : Int32) (y5 : Int32) (p_a0 : pI S 8 a0) (P : PW G A s H locs S0 S) (hl : lv_has ls 6 [(0, .ref a0), (2, .int y2), (4, .int y4), (5, .int y5)]) (hcc : cells + 1 ≤ 4) (hss : slots + 6 ≤ 24) (hw : wX8_pathCell_34 Q QX k34 S a0 y2 y4 y5) : W p l e rmX8_pathCell s m args below meth c H locs cells slots (vx_MQ below (QI G S0 A Q) (XX G S0 A QX) args s 4 24 A) (F0 m 34 ls []) := by
  have hx := CF_x C
  have hb := CF_b C
  unfold wX8_pathCell_34 at hw
  refine lv_iload hx hb dX8_pathCell_34 (lv_at hl 3 rfl) ?_
  refine lv_iload_n hx hb dX8_pathCell_36 rfl (lv_at hl 1 rfl) ?_
  refine lv_icmp_gt (tgt := 76) hx hb dX8_pathCell_37 (by decide) (fun hc => ?_) (fun hc => ?_)
  · have hw := hw.1 hc
    exact tX8_pathCell_76 C hr hex Q QX S y2 y4 P (lv_sub hl [1, 2] rfl) (by omega) (by omega) hw
  · have hw := hw.2 hc
    refine lv_iload hx hb dX8_pathCell_40 (lv_at hl 3 rfl) ?_
    refine lv_bipush (v := 64) hx hb dX8_pathCell_42 (by decide) ?_
    refine lv_icmp_ge (tgt := 76) hx hb dX8_pathCell_44 (by decide) (fun hc => ?_) (fun hc => ?_)
    · have hw := hw.1 hc
      exact tX8_pathCell_76 C hr hex Q QX S y2 y4 P (lv_sub hl [1, 2] rfl) (by omega) (by omega) hw
    · have hw := hw.2 hc
      refine lv_iload hx hb dX8_pathCell_47 (lv_at hl 2 rfl) ?_
      refine lv_if_lt (tgt := 76) hx hb dX8_pathCell_49 (by decide) (fun hc => ?_) (fun hc => ?_)
      · have hw := hw.1 hc
        exact tX8_pathCell_76 C hr hex Q QX S y2 y4 P (lv_sub hl [1, 2] rfl) (by omega) (by omega) hw
      · have hw := hw.2 hc
        refine lv_aload_n hx hb dX8_pathCell_52 rfl (lv_at hl 0 rfl) ?_
        obtain ⟨a1, e1, hw⟩ := hw
        have p_a1 : pI S 5 a1 := wf_r P.2.2.2.1 p_a0 e1
        refine gf_8_10 C P p_a0 e1 q_309 dX8_pathCell_53 ?_
        refine lv_aload_n hx hb dX8_pathCell_56 rfl (lv_at hl 0 rfl) ?_
        obtain ⟨a2, e1, hw⟩ := hw
        have p_a2 : pI S 2 a2 := wf_r P.2.2.2.1 p_a0 e1
        refine gf_8_3 C P p_a0 e1 q_302 dX8_pathCell_57 ?_
        obtain ⟨a3, e1, hw⟩ := hw
        have p_a3 : pI S 3 a3 := wf_r P.2.2.2.1 p_a2 e1
        refine gf_2_0 C P p_a2 e1 q_163 dX8_pathCell_60 ?_
        refine lv_iload hx hb dX8_pathCell_63 (lv_at hl 2 rfl) ?_
        refine cl_i C P (run_V C P hl.1 (kd := 5) (met_X5_next (CF_n C) G H.size _ _ S a1 a3 y4 p_a1 p_a3 hw) p_a1 (by decide) rfl q_944 q_945 q_946 q_8 q_947 cd_X5_next ⟨(Nat.le_of_ble_eq_true rfl), (Nat.le_of_ble_eq_true rfl)⟩ rfl rfl (As := [.ref a3, .int y4]) (rest := []) rfl rfl (Nat.le_of_ble_eq_true rfl) dX8_pathCell_65 ⟨by show cells + 0 ≤ 4; omega, by show slots + 0 ≤ 24; omega⟩) (kx_out C hex (fun _ _ _ h => h) (by omega) (by omega)) (fun r5 S4 H locs P hE hw => ?_)
        have p_a0 : pI S4 8 a0 := pI_x hE p_a0
        have p_a1 : pI S4 5 a1 := pI_x hE p_a1
        have p_a3 : pI S4 3 a3 := pI_x hE p_a3
        refine lv_istore (lv' := [(4, .int r5), (0, .ref a0), (2, .int y2), (5, .int y5)]) hx hb dX8_pathCell_68 hl (by decide) rfl (fun ls hl => ?_)
        refine lv_iinc (v := (y5 + 1)) (lv' := [(5, .int (y5 + 1)), (4, .int r5), (0, .ref a0), (2, .int y2)]) hx hb dX8_pathCell_70 hl (k := 3) rfl (by rfl) (by decide) rfl (fun ls hl => ?_)
        refine lv_goto (tgt := 34) hx hb dX8_pathCell_73 (by decide) ?_
        exact kh34 S4 a0 y2 r5 (y5 + 1) _ _ _ _ _ p_a0 P (lv_sub hl [2, 3, 1, 0] rfl) (by omega) (by omega) hw
def lX8_pathCell_34 (Q : Int32 → MS → Prop) (QX : String → MS → Prop) : Nat → MS → Nat → Int32 → Int32 → Int32 → Prop
  | 0 => fun _ _ _ _ _ => False
  | n + 1 => fun S a0 y2 y4 y5 => wX8_pathCell_34 Q QX (lX8_pathCell_34 Q QX n) S a0 y2 y4 y5
theorem tlX8_pathCell_34 {p : Program} {l : Launch} {e : Env} {s : State} {m : MethodId} {args : Array Value} {below : List Frame} {meth : Method} {c : Code} {G : GP} {A : Nat → Prop} {S0 : MS} (C : CF p l s m args meth c "SkirmishGrid" cX8_pathCell 6 G A) (hr : meth.sig.returnType = (some .int)) (hex : ∀ x ∈ c.exceptionTable.toList, False) (Q : Int32 → MS → Prop) (QX : String → MS → Prop) : ∀ (n : Nat), ∀ (S : MS) (a0 : Nat) (y2 : Int32) (y4 : Int32) (y5 : Int32) (cells slots : Nat) (H : Heap) (locs : List Loc) (ls : Array Slot), pI S 8 a0 → PW G A s H locs S0 S → lv_has ls 6 [(0, .ref a0), (2, .int y2), (4, .int y4), (5, .int y5)] → cells + 1 ≤ 4 → slots + 6 ≤ 24 → lX8_pathCell_34 Q QX n S a0 y2 y4 y5 → W p l e rmX8_pathCell s m args below meth c H locs cells slots (vx_MQ below (QI G S0 A Q) (XX G S0 A QX) args s 4 24 A) (F0 m 34 ls []) := by
  intro n
  induction n with
  | zero => intro S a0 y2 y4 y5 cells slots H locs ls p_a0 P hl hcc hss hw; exact hw.elim
  | succ n ih => intro S a0 y2 y4 y5 cells slots H locs ls p_a0 P hl hcc hss hw; exact tX8_pathCell_34 C hr hex Q QX (lX8_pathCell_34 Q QX n) ih S a0 y2 y4 y5 p_a0 P hl hcc hss hw
def wX8_pathCell_0 (Q : Int32 → MS → Prop) (QX : String → MS → Prop) (S : MS) (a0 : Nat) (x1 : Int32) (x2 : Int32) : Prop := wp_X8_requireCell (fun S1 => wp_X8_requireTurn (fun r3 S2 => (∃ a4, r3 = some a4 ∧ wp_X8_requirePath (fun r6 S5 => ((0 ≤ x2 → (∃ n, lX8_pathCell_34 Q QX n S5 a0 x2 (mI S5 a4 4) 0)) ∧ (¬ 0 ≤ x2 → (∃ n, lX8_pathCell_34 Q QX n S5 a0 x2 (-1) 0)))) QX S2 a0 a4 x1)) QX S1 a0) QX S a0 x1
set_option maxHeartbeats 4000000 in
set_option maxRecDepth 100000 in
theorem tX8_pathCell_0 {p : Program} {l : Launch} {e : Env} {s : State} {m : MethodId} {args : Array Value} {below : List Frame} {meth : Method} {c : Code} {H : Heap} {locs : List Loc} {cells slots : Nat} {G : GP} {A : Nat → Prop} {S0 : MS} {ls : Array Slot} (C : CF p l s m args meth c "SkirmishGrid" cX8_pathCell 6 G A) (hr : meth.sig.returnType = (some .int)) (hex : ∀ x ∈ c.exceptionTable.toList, False) (Q : Int32 → MS → Prop) (QX : String → MS → Prop) (S : MS) (a0 : Nat) (x1 : Int32) (x2 : Int32) (p_a0 : pI S 8 a0) (P : PW G A s H locs S0 S) (hl : lv_has ls 6 [(0, .ref a0), (1, .int x1), (2, .int x2)]) (hcc : cells + 4 ≤ 4) (hss : slots + 24 ≤ 24) (hw : wX8_pathCell_0 Q QX S a0 x1 x2) : W p l e rmX8_pathCell s m args below meth c H locs cells slots (vx_MQ below (QI G S0 A Q) (XX G S0 A QX) args s 4 24 A) (F0 m 0 ls []) := by
  have hx := CF_x C
  have hb := CF_b C
  unfold wX8_pathCell_0 at hw
  refine lv_aload_n hx hb dX8_pathCell_0 rfl (lv_at hl 0 rfl) ?_
  refine lv_iload_n hx hb dX8_pathCell_1 rfl (lv_at hl 1 rfl) ?_
  refine cl_v C P (run_V C P hl.1 (kd := 8) (met_X8_requireCell (CF_n C) G H.size _ _ S a0 x1 p_a0 hw) p_a0 (by decide) rfl q_733 q_735 q_p1 q_1 q_736 cd_X8_requireCell ⟨(Nat.le_of_ble_eq_true rfl), (Nat.le_of_ble_eq_true rfl)⟩ rfl rfl (As := [.int x1]) (rest := []) rfl rfl (Nat.le_of_ble_eq_true rfl) dX8_pathCell_2 ⟨by show cells + 1 ≤ 4; omega, by show slots + 6 ≤ 24; omega⟩) (kx_out C hex (fun _ _ _ h => h) (by omega) (by omega)) (fun S1 H locs P hE hw => ?_)
  have p_a0 : pI S1 8 a0 := pI_x hE p_a0
  refine lv_aload_n hx hb dX8_pathCell_5 rfl (lv_at hl 0 rfl) ?_
  refine cl_q C P (run_V C P hl.1 (kd := 8) (met_X8_requireTurn (CF_n C) G H.size _ _ S1 a0 p_a0 hw) p_a0 (by decide) rfl q_898 q_900 q_p9 q_1 q_901 cd_X8_requireTurn ⟨(Nat.le_of_ble_eq_true rfl), (Nat.le_of_ble_eq_true rfl)⟩ rfl rfl (As := []) (rest := []) rfl rfl (Nat.le_of_ble_eq_true rfl) dX8_pathCell_6 ⟨by show cells + 1 + 1 ≤ 4; omega, by show slots + 6 + 6 ≤ 24; omega⟩) (kx_out C hex (fun _ _ _ h => h) (by omega) (by omega)) (fun r3 S2 H locs P hE hw hR => ?_)
  have p_a0 : pI S2 8 a0 := pI_x hE p_a0
  obtain ⟨a4, rfl, hw⟩ := hw
  have p_a4 : pI S2 7 a4 := hR a4 rfl
  refine lv_astore_n (lv' := [(3, .ref a4), (0, .ref a0), (1, .int x1), (2, .int x2)]) hx hb dX8_pathCell_9 rfl hl (by decide) rfl (fun ls hl => ?_)
  refine lv_aload_n hx hb dX8_pathCell_10 rfl (lv_at hl 1 rfl) ?_
  refine lv_aload_n hx hb dX8_pathCell_11 rfl (lv_at hl 0 rfl) ?_
  refine lv_iload_n hx hb dX8_pathCell_12 rfl (lv_at hl 2 rfl) ?_
  refine cl_i C P (run_V C P hl.1 (kd := 8) (met_X8_requirePath (CF_n C) G H.size _ _ S2 a0 a4 x1 p_a0 p_a4 hw) p_a0 (by decide) rfl q_902 q_904 q_p10 q_1 q_905 cd_X8_requirePath ⟨(Nat.le_of_ble_eq_true rfl), (Nat.le_of_ble_eq_true rfl)⟩ rfl rfl (As := [.ref a4, .int x1]) (rest := []) rfl rfl (Nat.le_of_ble_eq_true rfl) dX8_pathCell_13 ⟨by show cells + 1 + 1 + 1 ≤ 4; omega, by show slots + 6 + 6 + 6 ≤ 24; omega⟩) (kx_out C hex (fun _ _ _ h => h) (by omega) (by omega)) (fun r6 S5 H locs P hE hw => ?_)
  have p_a0 : pI S5 8 a0 := pI_x hE p_a0
  have p_a4 : pI S5 7 a4 := pI_x hE p_a4
  refine lv_pop hx hb dX8_pathCell_16 rfl ?_
  refine lv_iload_n hx hb dX8_pathCell_17 rfl (lv_at hl 3 rfl) ?_
  refine lv_if_ge (tgt := 25) hx hb dX8_pathCell_18 (by decide) (fun hc => ?_) (fun hc => ?_)
  · have hw := hw.1 hc
    refine lv_aload_n hx hb dX8_pathCell_25 rfl (lv_at hl 0 rfl) ?_
    refine gf_7_4 C P p_a4 q_108 dX8_pathCell_26 ?_
    refine lv_istore (lv' := [(4, .int (mI S5 a4 4)), (3, .ref a4), (0, .ref a0), (1, .int x1), (2, .int x2)]) hx hb dX8_pathCell_29 hl (by decide) rfl (fun ls hl => ?_)
    refine lv_iconst (v := 0) hx hb dX8_pathCell_31 (by decide) ?_
    refine lv_istore (lv' := [(5, .int 0), (4, .int (mI S5 a4 4)), (3, .ref a4), (0, .ref a0), (1, .int x1), (2, .int x2)]) hx hb dX8_pathCell_32 hl (by decide) rfl (fun ls hl => ?_)
    obtain ⟨n, hw⟩ := hw
    exact tlX8_pathCell_34 C hr hex Q QX n S5 a0 x2 (mI S5 a4 4) 0 _ _ _ _ _ p_a0 P (lv_sub hl [3, 5, 1, 0] rfl) (by omega) (by omega) hw
  · have hw := hw.2 hc
    refine lv_iconst (v := (-1)) hx hb dX8_pathCell_21 (by decide) ?_
    refine lv_goto (tgt := 29) hx hb dX8_pathCell_22 (by decide) ?_
    refine lv_istore (lv' := [(4, .int (-1)), (3, .ref a4), (0, .ref a0), (1, .int x1), (2, .int x2)]) hx hb dX8_pathCell_29 hl (by decide) rfl (fun ls hl => ?_)
    refine lv_iconst (v := 0) hx hb dX8_pathCell_31 (by decide) ?_
    refine lv_istore (lv' := [(5, .int 0), (4, .int (-1)), (3, .ref a4), (0, .ref a0), (1, .int x1), (2, .int x2)]) hx hb dX8_pathCell_32 hl (by decide) rfl (fun ls hl => ?_)
    obtain ⟨n, hw⟩ := hw
    exact tlX8_pathCell_34 C hr hex Q QX n S5 a0 x2 (-1) 0 _ _ _ _ _ p_a0 P (lv_sub hl [3, 5, 1, 0] rfl) (by omega) (by omega) hw
def wp_X8_pathCell (Q : Int32 → MS → Prop) (QX : String → MS → Prop) (S : MS) (a0 : Nat) (x1 : Int32) (x2 : Int32) : Prop := wX8_pathCell_0 Q QX S a0 x1 x2
set_option maxHeartbeats 4000000 in
set_option maxRecDepth 100000 in
theorem met_X8_pathCell {l : Launch} (hst : l.stackTraces = false) (G : GP) (sz : Nat) (Q : Int32 → MS → Prop) (QX : String → MS → Prop) (S : MS) (a0 : Nat) (x1 : Int32) (x2 : Int32) (p_a0 : pI S 8 a0) (hw : wp_X8_pathCell Q QX S a0 x1 x2) : vx_Met l yX8_pathCell (.code yX8_pathCell cX8_pathCell 6 (some .int) :: GW) rmX8_pathCell (va_Pc [.ref a0, .int x1, .int x2] (PR G S sz)) (QI G S (FA G S sz) Q) (XX G S (FA G S sz) QX) 4 24 (FA G S sz) := by
  refine st_m (by decide +kernel) hst (fun p e s m below meth c C hr hnm hex P => ?_)
  refine en_m (Nat.le_of_ble_eq_true rfl) (lv := [(0, .ref a0), (1, .int x1), (2, .int x2)]) rfl (fun ls hl => ?_)
  have C : CF p l s m _ meth c "SkirmishGrid" cX8_pathCell 6 G (FA G S sz) := C
  exact tX8_pathCell_0 C hr hex Q QX S a0 x1 x2 p_a0 P hl (by omega) (by omega) hw
theorem cd_X8_pathCell : yX8_pathCell.cls = RX8 ∧ yX8_pathCell.cls ≠ "java/lang/invoke/MethodHandle" ∧ yX8_pathCell.cls ≠ "java/lang/invoke/VarHandle" ∧ (parseMethodDescriptor yX8_pathCell.desc).map (fun d => d.parameters.length) = some 2 := by decide +kernel
