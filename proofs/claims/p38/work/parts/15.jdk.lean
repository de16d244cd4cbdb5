theorem q_522 : Cond.fieldLink "java/lang/String" 38 "java/lang/String" "COMPACT_STRINGS" "Z" ∈ GW := gw_t 522 (by decide +kernel) (by decide +kernel)
theorem q_1775 : Cond.fieldLink "java/lang/String" 15 "java/lang/String" "coder" "B" ∈ GW := gw_t 1775 (by decide +kernel) (by decide +kernel)
theorem q_1776 : Cond.fieldLink "java/lang/String" 9 "java/lang/String" "value" "[B" ∈ GW := gw_t 1776 (by decide +kernel) (by decide +kernel)
theorem q_528 : Cond.methodLink "java/lang/String" 335 yJ0_coder_7d493 ∈ GW := gw_t 528 (by decide +kernel) (by decide +kernel)
theorem q_529 : Cond.instanceMethod yJ0_coder_7d493 ∈ GW := gw_t 529 (by decide +kernel) (by decide +kernel)
theorem q_530 : Cond.selects "java/lang/String" yJ0_coder_7d493 yJ0_coder_7d493 ∈ GW := gw_t 530 (by decide +kernel) (by decide +kernel)
theorem q_16 : Cond.initialized "java/lang/String" ∈ GW := gw_t 16 (by decide +kernel) (by decide +kernel)
theorem q_531 : Cond.code yJ0_coder_7d493 cJ0_coder_7d493 1 (some .byte) ∈ GW := gw_t 531 (by decide +kernel) (by decide +kernel)
theorem q_716 : Cond.methodLink "java/lang/String" 1059 yJ3_checkIndex_8e157 ∈ GW := gw_t 716 (by decide +kernel) (by decide +kernel)
theorem q_717 : Cond.static yJ3_checkIndex_8e157 ∈ GW := gw_t 717 (by decide +kernel) (by decide +kernel)
theorem q_20 : Cond.initialized "jdk/internal/util/Preconditions" ∈ GW := gw_t 20 (by decide +kernel) (by decide +kernel)
theorem q_718 : Cond.code yJ3_checkIndex_8e157 cJ3_checkIndex_8e157 3 (some .int) ∈ GW := gw_t 718 (by decide +kernel) (by decide +kernel)
theorem q_565 : Cond.fieldLink "java/lang/String" 1053 "jdk/internal/util/Preconditions" "SIOOBE_FORMATTER" "Ljava/util/function/BiFunction;" ∈ GW := gw_t 565 (by decide +kernel) (by decide +kernel)
theorem q_713 : Cond.methodLink "java/lang/StringLatin1" 9 yJ0_checkIndex_df160 ∈ GW := gw_t 713 (by decide +kernel) (by decide +kernel)
theorem q_714 : Cond.static yJ0_checkIndex_df160 ∈ GW := gw_t 714 (by decide +kernel) (by decide +kernel)
theorem q_715 : Cond.code yJ0_checkIndex_df160 cJ0_checkIndex_df160 2 none ∈ GW := gw_t 715 (by decide +kernel) (by decide +kernel)
theorem q_518 : Cond.methodLink "java/lang/String" 492 yJ0_isLatin1_aae02 ∈ GW := gw_t 518 (by decide +kernel) (by decide +kernel)
theorem q_519 : Cond.instanceMethod yJ0_isLatin1_aae02 ∈ GW := gw_t 519 (by decide +kernel) (by decide +kernel)
theorem q_520 : Cond.selects "java/lang/String" yJ0_isLatin1_aae02 yJ0_isLatin1_aae02 ∈ GW := gw_t 520 (by decide +kernel) (by decide +kernel)
theorem q_521 : Cond.code yJ0_isLatin1_aae02 cJ0_isLatin1_aae02 1 (some .boolean) ∈ GW := gw_t 521 (by decide +kernel) (by decide +kernel)
theorem q_710 : Cond.methodLink "java/lang/String" 495 yJ1_charAt_3b067 ∈ GW := gw_t 710 (by decide +kernel) (by decide +kernel)
theorem q_711 : Cond.static yJ1_charAt_3b067 ∈ GW := gw_t 711 (by decide +kernel) (by decide +kernel)
theorem q_17 : Cond.initialized "java/lang/StringLatin1" ∈ GW := gw_t 17 (by decide +kernel) (by decide +kernel)
theorem q_712 : Cond.code yJ1_charAt_3b067 cJ1_charAt_3b067 2 (some .char) ∈ GW := gw_t 712 (by decide +kernel) (by decide +kernel)
theorem q_535 : Cond.methodLink "java/lang/StringLatin1" 88 yJ1_canEncode_9a6ad ∈ GW := gw_t 535 (by decide +kernel) (by decide +kernel)
theorem q_536 : Cond.static yJ1_canEncode_9a6ad ∈ GW := gw_t 536 (by decide +kernel) (by decide +kernel)
theorem q_537 : Cond.code yJ1_canEncode_9a6ad cJ1_canEncode_9a6ad 1 (some .boolean) ∈ GW := gw_t 537 (by decide +kernel) (by decide +kernel)
theorem q_538 : Cond.methodLink "java/lang/StringLatin1" 92 Lib.Math.max.name ∈ GW := gw_t 538 (by decide +kernel) (by decide +kernel)
theorem q_539 : Cond.static Lib.Math.max.name ∈ GW := gw_t 539 (by decide +kernel) (by decide +kernel)
theorem q_18 : Cond.initialized "java/lang/Math" ∈ GW := gw_t 18 (by decide +kernel) (by decide +kernel)
theorem q_540 : Cond.code Lib.Math.max.name Lib.Math.max.code 2 (some .int) ∈ GW := gw_t 540 (by decide +kernel) (by decide +kernel)
theorem q_541 : Cond.methodLink "java/lang/StringLatin1" 38 Lib.Math.min.name ∈ GW := gw_t 541 (by decide +kernel) (by decide +kernel)
theorem q_542 : Cond.static Lib.Math.min.name ∈ GW := gw_t 542 (by decide +kernel) (by decide +kernel)
theorem q_543 : Cond.code Lib.Math.min.name Lib.Math.min.code 2 (some .int) ∈ GW := gw_t 543 (by decide +kernel) (by decide +kernel)
theorem q_544 : Cond.methodLink "java/lang/StringLatin1" 95 yJ1_indexOfChar_4cfef ∈ GW := gw_t 544 (by decide +kernel) (by decide +kernel)
theorem q_545 : Cond.static yJ1_indexOfChar_4cfef ∈ GW := gw_t 545 (by decide +kernel) (by decide +kernel)
theorem q_546 : Cond.code yJ1_indexOfChar_4cfef cJ1_indexOfChar_4cfef 6 (some .int) ∈ GW := gw_t 546 (by decide +kernel) (by decide +kernel)
theorem q_524 : Cond.methodLink "java/lang/String" 505 yJ0_length_8abf5 ∈ GW := gw_t 524 (by decide +kernel) (by decide +kernel)
theorem q_525 : Cond.instanceMethod yJ0_length_8abf5 ∈ GW := gw_t 525 (by decide +kernel) (by decide +kernel)
theorem q_526 : Cond.selects "java/lang/String" yJ0_length_8abf5 yJ0_length_8abf5 ∈ GW := gw_t 526 (by decide +kernel) (by decide +kernel)
theorem q_527 : Cond.code yJ0_length_8abf5 cJ0_length_8abf5 1 (some .int) ∈ GW := gw_t 527 (by decide +kernel) (by decide +kernel)
theorem q_532 : Cond.methodLink "java/lang/String" 637 yJ1_indexOf_4cfef ∈ GW := gw_t 532 (by decide +kernel) (by decide +kernel)
theorem q_533 : Cond.static yJ1_indexOf_4cfef ∈ GW := gw_t 533 (by decide +kernel) (by decide +kernel)
theorem q_534 : Cond.code yJ1_indexOf_4cfef cJ1_indexOf_4cfef 4 (some .int) ∈ GW := gw_t 534 (by decide +kernel) (by decide +kernel)
theorem q_514 : Cond.methodLink "java/lang/String" 633 yJ0_indexOf_7cf53 ∈ GW := gw_t 514 (by decide +kernel) (by decide +kernel)
theorem q_515 : Cond.instanceMethod yJ0_indexOf_7cf53 ∈ GW := gw_t 515 (by decide +kernel) (by decide +kernel)
theorem q_516 : Cond.selects "java/lang/String" yJ0_indexOf_7cf53 yJ0_indexOf_7cf53 ∈ GW := gw_t 516 (by decide +kernel) (by decide +kernel)
theorem q_517 : Cond.code yJ0_indexOf_7cf53 cJ0_indexOf_7cf53 3 (some .int) ∈ GW := gw_t 517 (by decide +kernel) (by decide +kernel)
theorem q_1737 : Cond.methodLink "java/lang/Float" 59 yJxf58ca_isNaN_12338 ∈ GW := gw_t 1737 (by decide +kernel) (by decide +kernel)
theorem q_1738 : Cond.static yJxf58ca_isNaN_12338 ∈ GW := gw_t 1738 (by decide +kernel) (by decide +kernel)
theorem q_29 : Cond.initialized "java/lang/Float" ∈ GW := gw_t 29 (by decide +kernel) (by decide +kernel)
theorem q_1739 : Cond.code yJxf58ca_isNaN_12338 cJxf58ca_isNaN_12338 1 (some .boolean) ∈ GW := gw_t 1739 (by decide +kernel) (by decide +kernel)
theorem q_1743 : Cond.constant "java/lang/Float" 77 2143289344 ∈ GW := gw_t 1743 (by decide +kernel) (by decide +kernel)
theorem q_1740 : Cond.methodLink "java/lang/Float" 74 ⟨"java/lang/Float", "floatToRawIntBits", "(F)I"⟩ ∈ GW := gw_t 1740 (by decide +kernel) (by decide +kernel)
theorem q_1742 : Cond.native ⟨"java/lang/Float", "floatToRawIntBits", "(F)I"⟩ ∈ GW := gw_t 1742 (by decide +kernel) (by decide +kernel)
theorem q_1741 : Cond.static ⟨"java/lang/Float", "floatToRawIntBits", "(F)I"⟩ ∈ GW := gw_t 1741 (by decide +kernel) (by decide +kernel)
theorem dJ0_coder_7d493_0 : decode cJ0_coder_7d493 0 = .ok (.getstatic 38, 3) := by decide +kernel
theorem dJ0_coder_7d493_3 : decode cJ0_coder_7d493 3 = .ok (.ifCond .eq 10, 3) := by decide +kernel
theorem dJ0_coder_7d493_6 : decode cJ0_coder_7d493 6 = .ok (.aload_n 0, 1) := by decide +kernel
theorem dJ0_coder_7d493_7 : decode cJ0_coder_7d493 7 = .ok (.getfield 15, 3) := by decide +kernel
theorem dJ0_coder_7d493_10 : decode cJ0_coder_7d493 10 = .ok (.goto 4, 3) := by decide +kernel
theorem dJ0_coder_7d493_13 : decode cJ0_coder_7d493 13 = .ok (.iconst 1, 1) := by decide +kernel
theorem dJ0_coder_7d493_14 : decode cJ0_coder_7d493 14 = .ok (.ireturn, 1) := by decide +kernel
theorem dJ0_length_8abf5_0 : decode cJ0_length_8abf5 0 = .ok (.aload_n 0, 1) := by decide +kernel
theorem dJ0_length_8abf5_1 : decode cJ0_length_8abf5 1 = .ok (.getfield 9, 3) := by decide +kernel
theorem dJ0_length_8abf5_4 : decode cJ0_length_8abf5 4 = .ok (.arraylength, 1) := by decide +kernel
theorem dJ0_length_8abf5_5 : decode cJ0_length_8abf5 5 = .ok (.aload_n 0, 1) := by decide +kernel
theorem dJ0_length_8abf5_6 : decode cJ0_length_8abf5 6 = .ok (.invokevirtual 335, 3) := by decide +kernel
theorem dJ0_length_8abf5_9 : decode cJ0_length_8abf5 9 = .ok (.ishr, 1) := by decide +kernel
theorem dJ0_length_8abf5_10 : decode cJ0_length_8abf5 10 = .ok (.ireturn, 1) := by decide +kernel
theorem dJ0_isLatin1_aae02_0 : decode cJ0_isLatin1_aae02 0 = .ok (.getstatic 38, 3) := by decide +kernel
theorem dJ0_isLatin1_aae02_3 : decode cJ0_isLatin1_aae02 3 = .ok (.ifCond .eq 14, 3) := by decide +kernel
theorem dJ0_isLatin1_aae02_6 : decode cJ0_isLatin1_aae02 6 = .ok (.aload_n 0, 1) := by decide +kernel
theorem dJ0_isLatin1_aae02_7 : decode cJ0_isLatin1_aae02 7 = .ok (.getfield 15, 3) := by decide +kernel
theorem dJ0_isLatin1_aae02_10 : decode cJ0_isLatin1_aae02 10 = .ok (.ifCond .ne 7, 3) := by decide +kernel
theorem dJ0_isLatin1_aae02_13 : decode cJ0_isLatin1_aae02 13 = .ok (.iconst 1, 1) := by decide +kernel
theorem dJ0_isLatin1_aae02_14 : decode cJ0_isLatin1_aae02 14 = .ok (.goto 4, 3) := by decide +kernel
theorem dJ0_isLatin1_aae02_17 : decode cJ0_isLatin1_aae02 17 = .ok (.iconst 0, 1) := by decide +kernel
theorem dJ0_isLatin1_aae02_18 : decode cJ0_isLatin1_aae02 18 = .ok (.ireturn, 1) := by decide +kernel
theorem dJ3_checkIndex_8e157_0 : decode cJ3_checkIndex_8e157 0 = .ok (.iload_n 0, 1) := by decide +kernel
theorem dJ3_checkIndex_8e157_1 : decode cJ3_checkIndex_8e157 1 = .ok (.ifCond .lt 8, 3) := by decide +kernel
theorem dJ3_checkIndex_8e157_4 : decode cJ3_checkIndex_8e157 4 = .ok (.iload_n 0, 1) := by decide +kernel
theorem dJ3_checkIndex_8e157_5 : decode cJ3_checkIndex_8e157 5 = .ok (.iload_n 1, 1) := by decide +kernel
theorem dJ3_checkIndex_8e157_6 : decode cJ3_checkIndex_8e157 6 = .ok (.if_icmp .lt 10, 3) := by decide +kernel
theorem dJ3_checkIndex_8e157_9 : decode cJ3_checkIndex_8e157 9 = .ok (.aload_n 2, 1) := by decide +kernel
theorem dJ3_checkIndex_8e157_10 : decode cJ3_checkIndex_8e157 10 = .ok (.iload_n 0, 1) := by decide +kernel
theorem dJ3_checkIndex_8e157_11 : decode cJ3_checkIndex_8e157 11 = .ok (.iload_n 1, 1) := by decide +kernel
theorem dJ3_checkIndex_8e157_12 : decode cJ3_checkIndex_8e157 12 = .ok (.invokestatic 95, 3) := by decide +kernel
theorem dJ3_checkIndex_8e157_15 : decode cJ3_checkIndex_8e157 15 = .ok (.athrow, 1) := by decide +kernel
theorem dJ3_checkIndex_8e157_16 : decode cJ3_checkIndex_8e157 16 = .ok (.iload_n 0, 1) := by decide +kernel
theorem dJ3_checkIndex_8e157_17 : decode cJ3_checkIndex_8e157 17 = .ok (.ireturn, 1) := by decide +kernel
theorem dJ0_checkIndex_df160_0 : decode cJ0_checkIndex_df160 0 = .ok (.iload_n 0, 1) := by decide +kernel
theorem dJ0_checkIndex_df160_1 : decode cJ0_checkIndex_df160 1 = .ok (.iload_n 1, 1) := by decide +kernel
theorem dJ0_checkIndex_df160_2 : decode cJ0_checkIndex_df160 2 = .ok (.getstatic 1053, 3) := by decide +kernel
theorem dJ0_checkIndex_df160_5 : decode cJ0_checkIndex_df160 5 = .ok (.invokestatic 1059, 3) := by decide +kernel
theorem dJ0_checkIndex_df160_8 : decode cJ0_checkIndex_df160 8 = .ok (.pop, 1) := by decide +kernel
theorem dJ0_checkIndex_df160_9 : decode cJ0_checkIndex_df160 9 = .ok (.return_, 1) := by decide +kernel
theorem dJ1_charAt_3b067_0 : decode cJ1_charAt_3b067 0 = .ok (.iload_n 1, 1) := by decide +kernel
theorem dJ1_charAt_3b067_1 : decode cJ1_charAt_3b067 1 = .ok (.aload_n 0, 1) := by decide +kernel
theorem dJ1_charAt_3b067_2 : decode cJ1_charAt_3b067 2 = .ok (.arraylength, 1) := by decide +kernel
theorem dJ1_charAt_3b067_3 : decode cJ1_charAt_3b067 3 = .ok (.invokestatic 9, 3) := by decide +kernel
theorem dJ1_charAt_3b067_6 : decode cJ1_charAt_3b067 6 = .ok (.aload_n 0, 1) := by decide +kernel
theorem dJ1_charAt_3b067_7 : decode cJ1_charAt_3b067 7 = .ok (.iload_n 1, 1) := by decide +kernel
theorem dJ1_charAt_3b067_8 : decode cJ1_charAt_3b067 8 = .ok (.baload, 1) := by decide +kernel
theorem dJ1_charAt_3b067_9 : decode cJ1_charAt_3b067 9 = .ok (.sipush 255, 3) := by decide +kernel
theorem dJ1_charAt_3b067_12 : decode cJ1_charAt_3b067 12 = .ok (.iand, 1) := by decide +kernel
theorem dJ1_charAt_3b067_13 : decode cJ1_charAt_3b067 13 = .ok (.i2c, 1) := by decide +kernel
theorem dJ1_charAt_3b067_14 : decode cJ1_charAt_3b067 14 = .ok (.ireturn, 1) := by decide +kernel
theorem dJ0_charAt_5068e_0 : decode cJ0_charAt_5068e 0 = .ok (.aload_n 0, 1) := by decide +kernel
theorem dJ0_charAt_5068e_1 : decode cJ0_charAt_5068e 1 = .ok (.invokevirtual 492, 3) := by decide +kernel
theorem dJ0_charAt_5068e_4 : decode cJ0_charAt_5068e 4 = .ok (.ifCond .eq 12, 3) := by decide +kernel
theorem dJ0_charAt_5068e_7 : decode cJ0_charAt_5068e 7 = .ok (.aload_n 0, 1) := by decide +kernel
theorem dJ0_charAt_5068e_8 : decode cJ0_charAt_5068e 8 = .ok (.getfield 9, 3) := by decide +kernel
theorem dJ0_charAt_5068e_11 : decode cJ0_charAt_5068e 11 = .ok (.iload_n 1, 1) := by decide +kernel
theorem dJ0_charAt_5068e_12 : decode cJ0_charAt_5068e 12 = .ok (.invokestatic 495, 3) := by decide +kernel
theorem dJ0_charAt_5068e_15 : decode cJ0_charAt_5068e 15 = .ok (.ireturn, 1) := by decide +kernel
theorem dJ0_charAt_5068e_16 : decode cJ0_charAt_5068e 16 = .ok (.aload_n 0, 1) := by decide +kernel
theorem dJ0_charAt_5068e_17 : decode cJ0_charAt_5068e 17 = .ok (.getfield 9, 3) := by decide +kernel
theorem dJ0_charAt_5068e_20 : decode cJ0_charAt_5068e 20 = .ok (.iload_n 1, 1) := by decide +kernel
theorem dJ0_charAt_5068e_21 : decode cJ0_charAt_5068e 21 = .ok (.invokestatic 498, 3) := by decide +kernel
theorem dJ0_charAt_5068e_24 : decode cJ0_charAt_5068e 24 = .ok (.ireturn, 1) := by decide +kernel
theorem dJ1_canEncode_9a6ad_0 : decode cJ1_canEncode_9a6ad 0 = .ok (.iload_n 0, 1) := by decide +kernel
theorem dJ1_canEncode_9a6ad_1 : decode cJ1_canEncode_9a6ad 1 = .ok (.ifCond .lt 14, 3) := by decide +kernel
theorem dJ1_canEncode_9a6ad_4 : decode cJ1_canEncode_9a6ad 4 = .ok (.iload_n 0, 1) := by decide +kernel
theorem dJ1_canEncode_9a6ad_5 : decode cJ1_canEncode_9a6ad 5 = .ok (.sipush 255, 3) := by decide +kernel
theorem dJ1_canEncode_9a6ad_8 : decode cJ1_canEncode_9a6ad 8 = .ok (.if_icmp .gt 7, 3) := by decide +kernel
theorem dJ1_canEncode_9a6ad_11 : decode cJ1_canEncode_9a6ad 11 = .ok (.iconst 1, 1) := by decide +kernel
theorem dJ1_canEncode_9a6ad_12 : decode cJ1_canEncode_9a6ad 12 = .ok (.goto 4, 3) := by decide +kernel
theorem dJ1_canEncode_9a6ad_15 : decode cJ1_canEncode_9a6ad 15 = .ok (.iconst 0, 1) := by decide +kernel
theorem dJ1_canEncode_9a6ad_16 : decode cJ1_canEncode_9a6ad 16 = .ok (.ireturn, 1) := by decide +kernel
theorem dJ1_indexOfChar_4cfef_0 : decode cJ1_indexOfChar_4cfef 0 = .ok (.iload_n 1, 1) := by decide +kernel
theorem dJ1_indexOfChar_4cfef_1 : decode cJ1_indexOfChar_4cfef 1 = .ok (.i2b, 1) := by decide +kernel
theorem dJ1_indexOfChar_4cfef_2 : decode cJ1_indexOfChar_4cfef 2 = .ok (.istore 4, 2) := by decide +kernel
theorem dJ1_indexOfChar_4cfef_4 : decode cJ1_indexOfChar_4cfef 4 = .ok (.iload_n 2, 1) := by decide +kernel
theorem dJ1_indexOfChar_4cfef_5 : decode cJ1_indexOfChar_4cfef 5 = .ok (.istore 5, 2) := by decide +kernel
theorem dJ1_indexOfChar_4cfef_7 : decode cJ1_indexOfChar_4cfef 7 = .ok (.iload 5, 2) := by decide +kernel
theorem dJ1_indexOfChar_4cfef_9 : decode cJ1_indexOfChar_4cfef 9 = .ok (.iload_n 3, 1) := by decide +kernel
theorem dJ1_indexOfChar_4cfef_10 : decode cJ1_indexOfChar_4cfef 10 = .ok (.if_icmp .ge 21, 3) := by decide +kernel
theorem dJ1_indexOfChar_4cfef_13 : decode cJ1_indexOfChar_4cfef 13 = .ok (.aload_n 0, 1) := by decide +kernel
theorem dJ1_indexOfChar_4cfef_14 : decode cJ1_indexOfChar_4cfef 14 = .ok (.iload 5, 2) := by decide +kernel
theorem dJ1_indexOfChar_4cfef_16 : decode cJ1_indexOfChar_4cfef 16 = .ok (.baload, 1) := by decide +kernel
theorem dJ1_indexOfChar_4cfef_17 : decode cJ1_indexOfChar_4cfef 17 = .ok (.iload 4, 2) := by decide +kernel
theorem dJ1_indexOfChar_4cfef_19 : decode cJ1_indexOfChar_4cfef 19 = .ok (.if_icmp .ne 6, 3) := by decide +kernel
theorem dJ1_indexOfChar_4cfef_22 : decode cJ1_indexOfChar_4cfef 22 = .ok (.iload 5, 2) := by decide +kernel
theorem dJ1_indexOfChar_4cfef_24 : decode cJ1_indexOfChar_4cfef 24 = .ok (.ireturn, 1) := by decide +kernel
theorem dJ1_indexOfChar_4cfef_25 : decode cJ1_indexOfChar_4cfef 25 = .ok (.iinc 5 1, 3) := by decide +kernel
theorem dJ1_indexOfChar_4cfef_28 : decode cJ1_indexOfChar_4cfef 28 = .ok (.goto (-21), 3) := by decide +kernel
theorem dJ1_indexOfChar_4cfef_31 : decode cJ1_indexOfChar_4cfef 31 = .ok (.iconst (-1), 1) := by decide +kernel
theorem dJ1_indexOfChar_4cfef_32 : decode cJ1_indexOfChar_4cfef 32 = .ok (.ireturn, 1) := by decide +kernel
theorem dJ1_indexOf_4cfef_0 : decode cJ1_indexOf_4cfef 0 = .ok (.iload_n 1, 1) := by decide +kernel
theorem dJ1_indexOf_4cfef_1 : decode cJ1_indexOf_4cfef 1 = .ok (.invokestatic 88, 3) := by decide +kernel
theorem dJ1_indexOf_4cfef_4 : decode cJ1_indexOf_4cfef 4 = .ok (.ifCond .ne 5, 3) := by decide +kernel
theorem dJ1_indexOf_4cfef_7 : decode cJ1_indexOf_4cfef 7 = .ok (.iconst (-1), 1) := by decide +kernel
theorem dJ1_indexOf_4cfef_8 : decode cJ1_indexOf_4cfef 8 = .ok (.ireturn, 1) := by decide +kernel
theorem dJ1_indexOf_4cfef_9 : decode cJ1_indexOf_4cfef 9 = .ok (.iload_n 2, 1) := by decide +kernel
theorem dJ1_indexOf_4cfef_10 : decode cJ1_indexOf_4cfef 10 = .ok (.iconst 0, 1) := by decide +kernel
theorem dJ1_indexOf_4cfef_11 : decode cJ1_indexOf_4cfef 11 = .ok (.invokestatic 92, 3) := by decide +kernel
theorem dJ1_indexOf_4cfef_14 : decode cJ1_indexOf_4cfef 14 = .ok (.istore_n 2, 1) := by decide +kernel
theorem dJ1_indexOf_4cfef_15 : decode cJ1_indexOf_4cfef 15 = .ok (.iload_n 3, 1) := by decide +kernel
theorem dJ1_indexOf_4cfef_16 : decode cJ1_indexOf_4cfef 16 = .ok (.aload_n 0, 1) := by decide +kernel
theorem dJ1_indexOf_4cfef_17 : decode cJ1_indexOf_4cfef 17 = .ok (.arraylength, 1) := by decide +kernel
theorem dJ1_indexOf_4cfef_18 : decode cJ1_indexOf_4cfef 18 = .ok (.invokestatic 38, 3) := by decide +kernel
theorem dJ1_indexOf_4cfef_21 : decode cJ1_indexOf_4cfef 21 = .ok (.istore_n 3, 1) := by decide +kernel
theorem dJ1_indexOf_4cfef_22 : decode cJ1_indexOf_4cfef 22 = .ok (.iload_n 2, 1) := by decide +kernel
theorem dJ1_indexOf_4cfef_23 : decode cJ1_indexOf_4cfef 23 = .ok (.iload_n 3, 1) := by decide +kernel
theorem dJ1_indexOf_4cfef_24 : decode cJ1_indexOf_4cfef 24 = .ok (.if_icmp .lt 5, 3) := by decide +kernel
theorem dJ1_indexOf_4cfef_27 : decode cJ1_indexOf_4cfef 27 = .ok (.iconst (-1), 1) := by decide +kernel
theorem dJ1_indexOf_4cfef_28 : decode cJ1_indexOf_4cfef 28 = .ok (.ireturn, 1) := by decide +kernel
theorem dJ1_indexOf_4cfef_29 : decode cJ1_indexOf_4cfef 29 = .ok (.aload_n 0, 1) := by decide +kernel
theorem dJ1_indexOf_4cfef_30 : decode cJ1_indexOf_4cfef 30 = .ok (.iload_n 1, 1) := by decide +kernel
theorem dJ1_indexOf_4cfef_31 : decode cJ1_indexOf_4cfef 31 = .ok (.iload_n 2, 1) := by decide +kernel
theorem dJ1_indexOf_4cfef_32 : decode cJ1_indexOf_4cfef 32 = .ok (.iload_n 3, 1) := by decide +kernel
theorem dJ1_indexOf_4cfef_33 : decode cJ1_indexOf_4cfef 33 = .ok (.invokestatic 95, 3) := by decide +kernel
theorem dJ1_indexOf_4cfef_36 : decode cJ1_indexOf_4cfef 36 = .ok (.ireturn, 1) := by decide +kernel
theorem dJ0_indexOf_7cf53_0 : decode cJ0_indexOf_7cf53 0 = .ok (.aload_n 0, 1) := by decide +kernel
theorem dJ0_indexOf_7cf53_1 : decode cJ0_indexOf_7cf53 1 = .ok (.invokevirtual 492, 3) := by decide +kernel
theorem dJ0_indexOf_7cf53_4 : decode cJ0_indexOf_7cf53 4 = .ok (.ifCond .eq 19, 3) := by decide +kernel
theorem dJ0_indexOf_7cf53_7 : decode cJ0_indexOf_7cf53 7 = .ok (.aload_n 0, 1) := by decide +kernel
theorem dJ0_indexOf_7cf53_8 : decode cJ0_indexOf_7cf53 8 = .ok (.getfield 9, 3) := by decide +kernel
theorem dJ0_indexOf_7cf53_11 : decode cJ0_indexOf_7cf53 11 = .ok (.iload_n 1, 1) := by decide +kernel
theorem dJ0_indexOf_7cf53_12 : decode cJ0_indexOf_7cf53 12 = .ok (.iload_n 2, 1) := by decide +kernel
theorem dJ0_indexOf_7cf53_13 : decode cJ0_indexOf_7cf53 13 = .ok (.aload_n 0, 1) := by decide +kernel
theorem dJ0_indexOf_7cf53_14 : decode cJ0_indexOf_7cf53 14 = .ok (.invokevirtual 505, 3) := by decide +kernel
theorem dJ0_indexOf_7cf53_17 : decode cJ0_indexOf_7cf53 17 = .ok (.invokestatic 637, 3) := by decide +kernel
theorem dJ0_indexOf_7cf53_20 : decode cJ0_indexOf_7cf53 20 = .ok (.goto 16, 3) := by decide +kernel
theorem dJ0_indexOf_7cf53_23 : decode cJ0_indexOf_7cf53 23 = .ok (.aload_n 0, 1) := by decide +kernel
theorem dJ0_indexOf_7cf53_24 : decode cJ0_indexOf_7cf53 24 = .ok (.getfield 9, 3) := by decide +kernel
theorem dJ0_indexOf_7cf53_27 : decode cJ0_indexOf_7cf53 27 = .ok (.iload_n 1, 1) := by decide +kernel
theorem dJ0_indexOf_7cf53_28 : decode cJ0_indexOf_7cf53 28 = .ok (.iload_n 2, 1) := by decide +kernel
theorem dJ0_indexOf_7cf53_29 : decode cJ0_indexOf_7cf53 29 = .ok (.aload_n 0, 1) := by decide +kernel
theorem dJ0_indexOf_7cf53_30 : decode cJ0_indexOf_7cf53 30 = .ok (.invokevirtual 505, 3) := by decide +kernel
theorem dJ0_indexOf_7cf53_33 : decode cJ0_indexOf_7cf53 33 = .ok (.invokestatic 640, 3) := by decide +kernel
theorem dJ0_indexOf_7cf53_36 : decode cJ0_indexOf_7cf53 36 = .ok (.ireturn, 1) := by decide +kernel
theorem dJ0_indexOf_0f7a4_0 : decode cJ0_indexOf_0f7a4 0 = .ok (.aload_n 0, 1) := by decide +kernel
theorem dJ0_indexOf_0f7a4_1 : decode cJ0_indexOf_0f7a4 1 = .ok (.iload_n 1, 1) := by decide +kernel
theorem dJ0_indexOf_0f7a4_2 : decode cJ0_indexOf_0f7a4 2 = .ok (.iconst 0, 1) := by decide +kernel
theorem dJ0_indexOf_0f7a4_3 : decode cJ0_indexOf_0f7a4 3 = .ok (.invokevirtual 633, 3) := by decide +kernel
theorem dJ0_indexOf_0f7a4_6 : decode cJ0_indexOf_0f7a4 6 = .ok (.ireturn, 1) := by decide +kernel
theorem dJxf58ca_isNaN_12338_0 : decode cJxf58ca_isNaN_12338 0 = .ok (.fload_n 0, 1) := by decide +kernel
theorem dJxf58ca_isNaN_12338_1 : decode cJxf58ca_isNaN_12338 1 = .ok (.fload_n 0, 1) := by decide +kernel
theorem dJxf58ca_isNaN_12338_2 : decode cJxf58ca_isNaN_12338 2 = .ok (.fcmp .l, 1) := by decide +kernel
theorem dJxf58ca_isNaN_12338_3 : decode cJxf58ca_isNaN_12338 3 = .ok (.ifCond .eq 7, 3) := by decide +kernel
theorem dJxf58ca_isNaN_12338_6 : decode cJxf58ca_isNaN_12338 6 = .ok (.iconst 1, 1) := by decide +kernel
theorem dJxf58ca_isNaN_12338_7 : decode cJxf58ca_isNaN_12338 7 = .ok (.goto 4, 3) := by decide +kernel
theorem dJxf58ca_isNaN_12338_10 : decode cJxf58ca_isNaN_12338 10 = .ok (.iconst 0, 1) := by decide +kernel
theorem dJxf58ca_isNaN_12338_11 : decode cJxf58ca_isNaN_12338 11 = .ok (.ireturn, 1) := by decide +kernel
theorem dJxf58ca_floatToIntBits_5c35a_0 : decode cJxf58ca_floatToIntBits_5c35a 0 = .ok (.fload_n 0, 1) := by decide +kernel
theorem dJxf58ca_floatToIntBits_5c35a_1 : decode cJxf58ca_floatToIntBits_5c35a 1 = .ok (.invokestatic 59, 3) := by decide +kernel
theorem dJxf58ca_floatToIntBits_5c35a_4 : decode cJxf58ca_floatToIntBits_5c35a 4 = .ok (.ifCond .ne 8, 3) := by decide +kernel
theorem dJxf58ca_floatToIntBits_5c35a_7 : decode cJxf58ca_floatToIntBits_5c35a 7 = .ok (.fload_n 0, 1) := by decide +kernel
theorem dJxf58ca_floatToIntBits_5c35a_8 : decode cJxf58ca_floatToIntBits_5c35a 8 = .ok (.invokestatic 74, 3) := by decide +kernel
theorem dJxf58ca_floatToIntBits_5c35a_11 : decode cJxf58ca_floatToIntBits_5c35a 11 = .ok (.ireturn, 1) := by decide +kernel
theorem dJxf58ca_floatToIntBits_5c35a_12 : decode cJxf58ca_floatToIntBits_5c35a 12 = .ok (.ldc 77, 2) := by decide +kernel
theorem dJxf58ca_floatToIntBits_5c35a_14 : decode cJxf58ca_floatToIntBits_5c35a 14 = .ok (.ireturn, 1) := by decide +kernel
abbrev rmJ0_coder_7d493 : Room := { frames := 0, cells := 0, slots := 0, locals := 0 }
def wJ0_coder_7d493_0 (Q : Int32 → MS → Prop) (QX : String → MS → Prop) (S : MS) : Prop := Q 0 S
set_option maxHeartbeats 4000000 in
set_option maxRecDepth 100000 in
theorem tJ0_coder_7d493_0 {p : Program} {l : Launch} {e : Env} {s : State} {m : MethodId} {args : Array Value} {below : List Frame} {meth : Method} {c : Code} {H : Heap} {locs : List Loc} {cells slots : Nat} {G : GP} {A : Nat → Prop} {S0 : MS} {sa sv : Nat} {ls : Array Slot} (C : CF p l s m args meth c "java/lang/String" cJ0_coder_7d493 1 G A) (hr : meth.sig.returnType = (some .byte)) (hex : ∀ x ∈ c.exceptionTable.toList, False) (hs : SL sa sv A s s.heap) (Q : Int32 → MS → Prop) (QX : String → MS → Prop) (S : MS) (P : PW G A s H locs S0 S) (hl : lv_has ls 1 [(0, .ref sa)]) (hcc : cells + 0 ≤ 0) (hss : slots + 0 ≤ 0) (hw : wJ0_coder_7d493_0 Q QX S) : W p l e rmJ0_coder_7d493 s m args below meth c H locs cells slots (vx_MQ below (QI G S0 A Q) (XX G S0 A QX) args s 0 0 A) (F0 m 0 ls []) := by
  have hx := CF_x C
  have hb := CF_b C
  unfold wJ0_coder_7d493_0 at hw
  obtain ⟨_, _, _, _, _, _, _, _, g7, g8⟩ := (CF_S C).2.2.2.2.2.1
  refine va_gets hx hb g7 P.2.2.1 (CF_o C) (CF_t C _ q_522) (fun _ h => h) dJ0_coder_7d493_0 ?_
  refine lv_if_eq (tgt := 13) hx hb dJ0_coder_7d493_3 (by decide) (fun hf => absurd hf (by decide)) (fun _ => ?_)
  refine lv_aload_n hx hb dJ0_coder_7d493_6 rfl (lv_at hl 0 rfl) ?_
  refine vk_getf hx hb hs.2.1 P.2.2.1 (CF_o C) (CF_t C _ q_1775) (fun _ h => h) dJ0_coder_7d493_7 ?_
  refine lv_goto (tgt := 14) hx hb dJ0_coder_7d493_10 (by decide) ?_
  exact e_i C hr (by decide +kernel) P hw (by omega) (by omega) dJ0_coder_7d493_14
def wp_J0_coder_7d493 (Q : Int32 → MS → Prop) (QX : String → MS → Prop) (S : MS) : Prop := wJ0_coder_7d493_0 Q QX S
set_option maxHeartbeats 4000000 in
set_option maxRecDepth 100000 in
theorem met_J0_coder_7d493 {l : Launch} {sa sv : Nat} (hst : l.stackTraces = false) (G : GP) (sz : Nat) (Q : Int32 → MS → Prop) (QX : String → MS → Prop) (S : MS) (hw : wp_J0_coder_7d493 Q QX S) : vx_Met l yJ0_coder_7d493 (.code yJ0_coder_7d493 cJ0_coder_7d493 1 (some .byte) :: GW) rmJ0_coder_7d493 (va_Pc [.ref sa] (PRS G S sz sa sv)) (QI G S (FA G S sz) Q) (XX G S (FA G S sz) QX) 0 0 (FA G S sz) := by
  refine st_j (by decide +kernel) hst (fun p e s m below meth c C hr hex hs P => ?_)
  refine en_m (Nat.le_of_ble_eq_true rfl) (lv := [(0, .ref sa)]) rfl (fun ls hl => ?_)
  have C : CF p l s m _ meth c "java/lang/String" cJ0_coder_7d493 1 G (FA G S sz) := C
  exact tJ0_coder_7d493_0 C hr hex hs Q QX S P hl (by omega) (by omega) hw
theorem cd_J0_coder_7d493 : yJ0_coder_7d493.cls = RJ0 ∧ yJ0_coder_7d493.cls ≠ "java/lang/invoke/MethodHandle" ∧ yJ0_coder_7d493.cls ≠ "java/lang/invoke/VarHandle" ∧ (parseMethodDescriptor yJ0_coder_7d493.desc).map (fun d => d.parameters.length) = some 0 := by decide +kernel
abbrev rmJ0_length_8abf5 : Room := { frames := 1, cells := 0, slots := 0, locals := 20 }
def wJ0_length_8abf5_0 (Q : Int32 → MS → Prop) (QX : String → MS → Prop) (S : MS) : Prop := wp_J0_coder_7d493 (fun r2 S1 => Q (5 >>> (r2 &&& 31)) S1) QX S
set_option maxHeartbeats 4000000 in
set_option maxRecDepth 100000 in
theorem tJ0_length_8abf5_0 {p : Program} {l : Launch} {e : Env} {s : State} {m : MethodId} {args : Array Value} {below : List Frame} {meth : Method} {c : Code} {H : Heap} {locs : List Loc} {cells slots : Nat} {G : GP} {A : Nat → Prop} {S0 : MS} {sa sv : Nat} {ls : Array Slot} (C : CF p l s m args meth c "java/lang/String" cJ0_length_8abf5 1 G A) (hr : meth.sig.returnType = (some .int)) (hex : ∀ x ∈ c.exceptionTable.toList, False) (hs : SL sa sv A s s.heap) (Q : Int32 → MS → Prop) (QX : String → MS → Prop) (S : MS) (P : PW G A s H locs S0 S) (hl : lv_has ls 1 [(0, .ref sa)]) (hcc : cells + 0 ≤ 0) (hss : slots + 0 ≤ 0) (hw : wJ0_length_8abf5_0 Q QX S) : W p l e rmJ0_length_8abf5 s m args below meth c H locs cells slots (vx_MQ below (QI G S0 A Q) (XX G S0 A QX) args s 0 0 A) (F0 m 0 ls []) := by
  have hx := CF_x C
  have hb := CF_b C
  unfold wJ0_length_8abf5_0 at hw
  refine lv_aload_n hx hb dJ0_length_8abf5_0 rfl (lv_at hl 0 rfl) ?_
  refine vk_getf hx hb hs.2.2.1 P.2.2.1 (CF_o C) (CF_t C _ q_1776) (fun _ h => h) dJ0_length_8abf5_1 ?_
  refine va_tlen hx hb hs.2.2.2 P.2.2.1 (v := 5) rfl dJ0_length_8abf5_4 ?_
  refine lv_aload_n hx hb dJ0_length_8abf5_5 rfl (lv_at hl 0 rfl) ?_
  refine cl_i C P (run_VJ C P hl.1 hs (met_J0_coder_7d493 (CF_n C) G H.size _ _ S hw) q_528 q_529 q_530 q_16 q_531 cd_J0_coder_7d493 ⟨(Nat.le_of_ble_eq_true rfl), (Nat.le_of_ble_eq_true rfl)⟩ rfl rfl (As := []) (rest := [.int 5]) rfl rfl (Nat.le_of_ble_eq_true rfl) dJ0_length_8abf5_6 ⟨by show cells + 0 ≤ 0; omega, by show slots + 0 ≤ 0; omega⟩) (kx_out C hex (fun _ _ _ h => h) (by omega) (by omega)) (fun r2 S1 H locs P hE hw => ?_)
  refine lv_ishr hx hb dJ0_length_8abf5_9 ?_
  exact e_i C hr rfl P hw (by omega) (by omega) dJ0_length_8abf5_10
def wp_J0_length_8abf5 (Q : Int32 → MS → Prop) (QX : String → MS → Prop) (S : MS) : Prop := wJ0_length_8abf5_0 Q QX S
set_option maxHeartbeats 4000000 in
set_option maxRecDepth 100000 in
theorem met_J0_length_8abf5 {l : Launch} {sa sv : Nat} (hst : l.stackTraces = false) (G : GP) (sz : Nat) (Q : Int32 → MS → Prop) (QX : String → MS → Prop) (S : MS) (hw : wp_J0_length_8abf5 Q QX S) : vx_Met l yJ0_length_8abf5 (.code yJ0_length_8abf5 cJ0_length_8abf5 1 (some .int) :: GW) rmJ0_length_8abf5 (va_Pc [.ref sa] (PRS G S sz sa sv)) (QI G S (FA G S sz) Q) (XX G S (FA G S sz) QX) 0 0 (FA G S sz) := by
  refine st_j (by decide +kernel) hst (fun p e s m below meth c C hr hex hs P => ?_)
  refine en_m (Nat.le_of_ble_eq_true rfl) (lv := [(0, .ref sa)]) rfl (fun ls hl => ?_)
  have C : CF p l s m _ meth c "java/lang/String" cJ0_length_8abf5 1 G (FA G S sz) := C
  exact tJ0_length_8abf5_0 C hr hex hs Q QX S P hl (by omega) (by omega) hw
theorem cd_J0_length_8abf5 : yJ0_length_8abf5.cls = RJ0 ∧ yJ0_length_8abf5.cls ≠ "java/lang/invoke/MethodHandle" ∧ yJ0_length_8abf5.cls ≠ "java/lang/invoke/VarHandle" ∧ (parseMethodDescriptor yJ0_length_8abf5.desc).map (fun d => d.parameters.length) = some 0 := by decide +kernel
abbrev rmJ0_isLatin1_aae02 : Room := { frames := 0, cells := 0, slots := 0, locals := 0 }
def wJ0_isLatin1_aae02_0 (Q : Int32 → MS → Prop) (QX : String → MS → Prop) (S : MS) : Prop := Q 1 S
set_option maxHeartbeats 4000000 in
set_option maxRecDepth 100000 in
theorem tJ0_isLatin1_aae02_0 {p : Program} {l : Launch} {e : Env} {s : State} {m : MethodId} {args : Array Value} {below : List Frame} {meth : Method} {c : Code} {H : Heap} {locs : List Loc} {cells slots : Nat} {G : GP} {A : Nat → Prop} {S0 : MS} {sa sv : Nat} {ls : Array Slot} (C : CF p l s m args meth c "java/lang/String" cJ0_isLatin1_aae02 1 G A) (hr : meth.sig.returnType = (some .boolean)) (hex : ∀ x ∈ c.exceptionTable.toList, False) (hs : SL sa sv A s s.heap) (Q : Int32 → MS → Prop) (QX : String → MS → Prop) (S : MS) (P : PW G A s H locs S0 S) (hl : lv_has ls 1 [(0, .ref sa)]) (hcc : cells + 0 ≤ 0) (hss : slots + 0 ≤ 0) (hw : wJ0_isLatin1_aae02_0 Q QX S) : W p l e rmJ0_isLatin1_aae02 s m args below meth c H locs cells slots (vx_MQ below (QI G S0 A Q) (XX G S0 A QX) args s 0 0 A) (F0 m 0 ls []) := by
  have hx := CF_x C
  have hb := CF_b C
  unfold wJ0_isLatin1_aae02_0 at hw
  obtain ⟨_, _, _, _, _, _, _, _, g7, g8⟩ := (CF_S C).2.2.2.2.2.1
  refine va_gets hx hb g7 P.2.2.1 (CF_o C) (CF_t C _ q_522) (fun _ h => h) dJ0_isLatin1_aae02_0 ?_
  refine lv_if_eq (tgt := 17) hx hb dJ0_isLatin1_aae02_3 (by decide) (fun hf => absurd hf (by decide)) (fun _ => ?_)
  refine lv_aload_n hx hb dJ0_isLatin1_aae02_6 rfl (lv_at hl 0 rfl) ?_
  refine vk_getf hx hb hs.2.1 P.2.2.1 (CF_o C) (CF_t C _ q_1775) (fun _ h => h) dJ0_isLatin1_aae02_7 ?_
  refine lv_if_ne (tgt := 17) hx hb dJ0_isLatin1_aae02_10 (by decide) (fun hf => absurd hf (by decide)) (fun _ => ?_)
  refine lv_iconst (v := 1) hx hb dJ0_isLatin1_aae02_13 (by decide) ?_
  refine lv_goto (tgt := 18) hx hb dJ0_isLatin1_aae02_14 (by decide) ?_
  exact e_i C hr (by decide +kernel) P hw (by omega) (by omega) dJ0_isLatin1_aae02_18
def wp_J0_isLatin1_aae02 (Q : Int32 → MS → Prop) (QX : String → MS → Prop) (S : MS) : Prop := wJ0_isLatin1_aae02_0 Q QX S
set_option maxHeartbeats 4000000 in
set_option maxRecDepth 100000 in
theorem met_J0_isLatin1_aae02 {l : Launch} {sa sv : Nat} (hst : l.stackTraces = false) (G : GP) (sz : Nat) (Q : Int32 → MS → Prop) (QX : String → MS → Prop) (S : MS) (hw : wp_J0_isLatin1_aae02 Q QX S) : vx_Met l yJ0_isLatin1_aae02 (.code yJ0_isLatin1_aae02 cJ0_isLatin1_aae02 1 (some .boolean) :: GW) rmJ0_isLatin1_aae02 (va_Pc [.ref sa] (PRS G S sz sa sv)) (QI G S (FA G S sz) Q) (XX G S (FA G S sz) QX) 0 0 (FA G S sz) := by
  refine st_j (by decide +kernel) hst (fun p e s m below meth c C hr hex hs P => ?_)
  refine en_m (Nat.le_of_ble_eq_true rfl) (lv := [(0, .ref sa)]) rfl (fun ls hl => ?_)
  have C : CF p l s m _ meth c "java/lang/String" cJ0_isLatin1_aae02 1 G (FA G S sz) := C
  exact tJ0_isLatin1_aae02_0 C hr hex hs Q QX S P hl (by omega) (by omega) hw
theorem cd_J0_isLatin1_aae02 : yJ0_isLatin1_aae02.cls = RJ0 ∧ yJ0_isLatin1_aae02.cls ≠ "java/lang/invoke/MethodHandle" ∧ yJ0_isLatin1_aae02.cls ≠ "java/lang/invoke/VarHandle" ∧ (parseMethodDescriptor yJ0_isLatin1_aae02.desc).map (fun d => d.parameters.length) = some 0 := by decide +kernel
abbrev rmJ3_checkIndex_8e157 : Room := { frames := 1, cells := 0, slots := 0, locals := 60 }
def wJ3_checkIndex_8e157_9 (Q : Int32 → MS → Prop) (QX : String → MS → Prop) (S : MS) (y0 : Int32) (y1 : Int32) : Prop := False
set_option maxHeartbeats 4000000 in
set_option maxRecDepth 100000 in
theorem tJ3_checkIndex_8e157_9 {p : Program} {l : Launch} {e : Env} {s : State} {m : MethodId} {args : Array Value} {below : List Frame} {meth : Method} {c : Code} {H : Heap} {locs : List Loc} {cells slots : Nat} {G : GP} {A : Nat → Prop} {S0 : MS} {sa sv : Nat} {o3 : Option Nat} {ls : Array Slot} (C : CF p l s m args meth c "jdk/internal/util/Preconditions" cJ3_checkIndex_8e157 3 G A) (hr : meth.sig.returnType = (some .int)) (hex : ∀ x ∈ c.exceptionTable.toList, False) (hs : SL sa sv A s s.heap) (Q : Int32 → MS → Prop) (QX : String → MS → Prop) (S : MS) (y0 : Int32) (y1 : Int32) (P : PW G A s H locs S0 S) (hl : lv_has ls 3 [(0, .int y0), (1, .int y1), (2, va_rf o3)]) (hcc : cells + 0 ≤ 0) (hss : slots + 0 ≤ 0) (hw : wJ3_checkIndex_8e157_9 Q QX S y0 y1) : W p l e rmJ3_checkIndex_8e157 s m args below meth c H locs cells slots (vx_MQ below (QI G S0 A Q) (XX G S0 A QX) args s 0 0 A) (F0 m 9 ls []) := by
  have hx := CF_x C
  have hb := CF_b C
  unfold wJ3_checkIndex_8e157_9 at hw
  refine rq_aload_n hx hb dJ3_checkIndex_8e157_9 rfl (lv_at hl 2 rfl) ?_
  refine lv_iload_n hx hb dJ3_checkIndex_8e157_10 rfl (lv_at hl 0 rfl) ?_
  refine lv_iload_n hx hb dJ3_checkIndex_8e157_11 rfl (lv_at hl 1 rfl) ?_
  exact hw.elim
def wJ3_checkIndex_8e157_0 (Q : Int32 → MS → Prop) (QX : String → MS → Prop) (S : MS) (x1 : Int32) (x2 : Int32) : Prop := ((x1 < 0 → wJ3_checkIndex_8e157_9 Q QX S x1 x2) ∧ (¬ x1 < 0 → ((x1 < x2 → Q x1 S) ∧ (¬ x1 < x2 → wJ3_checkIndex_8e157_9 Q QX S x1 x2))))
set_option maxHeartbeats 4000000 in
set_option maxRecDepth 100000 in
theorem tJ3_checkIndex_8e157_0 {p : Program} {l : Launch} {e : Env} {s : State} {m : MethodId} {args : Array Value} {below : List Frame} {meth : Method} {c : Code} {H : Heap} {locs : List Loc} {cells slots : Nat} {G : GP} {A : Nat → Prop} {S0 : MS} {sa sv : Nat} {o3 : Option Nat} {ls : Array Slot} (C : CF p l s m args meth c "jdk/internal/util/Preconditions" cJ3_checkIndex_8e157 3 G A) (hr : meth.sig.returnType = (some .int)) (hex : ∀ x ∈ c.exceptionTable.toList, False) (hs : SL sa sv A s s.heap) (Q : Int32 → MS → Prop) (QX : String → MS → Prop) (S : MS) (x1 : Int32) (x2 : Int32) (P : PW G A s H locs S0 S) (hl : lv_has ls 3 [(0, .int x1), (1, .int x2), (2, va_rf o3)]) (hcc : cells + 0 ≤ 0) (hss : slots + 0 ≤ 0) (hw : wJ3_checkIndex_8e157_0 Q QX S x1 x2) : W p l e rmJ3_checkIndex_8e157 s m args below meth c H locs cells slots (vx_MQ below (QI G S0 A Q) (XX G S0 A QX) args s 0 0 A) (F0 m 0 ls []) := by
  have hx := CF_x C
  have hb := CF_b C
  unfold wJ3_checkIndex_8e157_0 at hw
  refine lv_iload_n hx hb dJ3_checkIndex_8e157_0 rfl (lv_at hl 0 rfl) ?_
  refine lv_if_lt (tgt := 9) hx hb dJ3_checkIndex_8e157_1 (by decide) (fun hc => ?_) (fun hc => ?_)
  · have hw := hw.1 hc
    exact tJ3_checkIndex_8e157_9 C hr hex hs Q QX S x1 x2 P (lv_sub hl [0, 1, 2] rfl) (by omega) (by omega) hw
  · have hw := hw.2 hc
    refine lv_iload_n hx hb dJ3_checkIndex_8e157_4 rfl (lv_at hl 0 rfl) ?_
    refine lv_iload_n hx hb dJ3_checkIndex_8e157_5 rfl (lv_at hl 1 rfl) ?_
    refine lv_icmp_lt (tgt := 16) hx hb dJ3_checkIndex_8e157_6 (by decide) (fun hc => ?_) (fun hc => ?_)
    · have hw := hw.1 hc
      refine lv_iload_n hx hb dJ3_checkIndex_8e157_16 rfl (lv_at hl 0 rfl) ?_
      exact e_i C hr rfl P hw (by omega) (by omega) dJ3_checkIndex_8e157_17
    · have hw := hw.2 hc
      exact tJ3_checkIndex_8e157_9 C hr hex hs Q QX S x1 x2 P (lv_sub hl [0, 1, 2] rfl) (by omega) (by omega) hw
def wp_J3_checkIndex_8e157 (Q : Int32 → MS → Prop) (QX : String → MS → Prop) (S : MS) (x1 : Int32) (x2 : Int32) : Prop := wJ3_checkIndex_8e157_0 Q QX S x1 x2
set_option maxHeartbeats 4000000 in
set_option maxRecDepth 100000 in
theorem met_J3_checkIndex_8e157 {l : Launch} {sa sv : Nat} {o3 : Option Nat} (hst : l.stackTraces = false) (G : GP) (sz : Nat) (Q : Int32 → MS → Prop) (QX : String → MS → Prop) (S : MS) (x1 : Int32) (x2 : Int32) (hw : wp_J3_checkIndex_8e157 Q QX S x1 x2) : vx_Met l yJ3_checkIndex_8e157 (.code yJ3_checkIndex_8e157 cJ3_checkIndex_8e157 3 (some .int) :: GW) rmJ3_checkIndex_8e157 (va_Pc [.int x1, .int x2, va_rf o3] (PRS G S sz sa sv)) (QI G S (FA G S sz) Q) (XX G S (FA G S sz) QX) 0 0 (FA G S sz) := by
  refine st_j (by decide +kernel) hst (fun p e s m below meth c C hr hex hs P => ?_)
  refine en_m (by cases o3 <;> exact Nat.le_of_ble_eq_true rfl) (lv := [(0, .int x1), (1, .int x2), (2, va_rf o3)]) (by cases o3 <;> rfl) (fun ls hl => ?_)
  have C : CF p l s m _ meth c "jdk/internal/util/Preconditions" cJ3_checkIndex_8e157 3 G (FA G S sz) := C
  exact tJ3_checkIndex_8e157_0 C hr hex hs Q QX S x1 x2 P hl (by omega) (by omega) hw
theorem cd_J3_checkIndex_8e157 : yJ3_checkIndex_8e157.cls = RJ3 ∧ yJ3_checkIndex_8e157.cls ≠ "java/lang/invoke/MethodHandle" ∧ yJ3_checkIndex_8e157.cls ≠ "java/lang/invoke/VarHandle" ∧ (parseMethodDescriptor yJ3_checkIndex_8e157.desc).map (fun d => d.parameters.length) = some 3 := by decide +kernel
abbrev rmJ0_checkIndex_df160 : Room := { frames := 2, cells := 0, slots := 0, locals := 82 }
def wJ0_checkIndex_df160_0 (Q : MS → Prop) (QX : String → MS → Prop) (S : MS) (x1 : Int32) (x2 : Int32) : Prop := wp_J3_checkIndex_8e157 (fun r2 S1 => Q S1) QX S x1 x2
set_option maxHeartbeats 4000000 in
set_option maxRecDepth 100000 in
theorem tJ0_checkIndex_df160_0 {p : Program} {l : Launch} {e : Env} {s : State} {m : MethodId} {args : Array Value} {below : List Frame} {meth : Method} {c : Code} {H : Heap} {locs : List Loc} {cells slots : Nat} {G : GP} {A : Nat → Prop} {S0 : MS} {sa sv : Nat} {ls : Array Slot} (C : CF p l s m args meth c "java/lang/String" cJ0_checkIndex_df160 2 G A) (hr : meth.sig.returnType = none) (hex : ∀ x ∈ c.exceptionTable.toList, False) (hs : SL sa sv A s s.heap) (Q : MS → Prop) (QX : String → MS → Prop) (S : MS) (x1 : Int32) (x2 : Int32) (P : PW G A s H locs S0 S) (hl : lv_has ls 2 [(0, .int x1), (1, .int x2)]) (hcc : cells + 0 ≤ 0) (hss : slots + 0 ≤ 0) (hw : wJ0_checkIndex_df160_0 Q QX S x1 x2) : W p l e rmJ0_checkIndex_df160 s m args below meth c H locs cells slots (vx_MQ below (QV G S0 A Q) (XX G S0 A QX) args s 0 0 A) (F0 m 0 ls []) := by
  have hx := CF_x C
  have hb := CF_b C
  unfold wJ0_checkIndex_df160_0 at hw
  refine lv_iload_n hx hb dJ0_checkIndex_df160_0 rfl (lv_at hl 0 rfl) ?_
  refine lv_iload_n hx hb dJ0_checkIndex_df160_1 rfl (lv_at hl 1 rfl) ?_
  obtain ⟨_, _, _, _, _, _, _, _, g7, g8⟩ := (CF_S C).2.2.2.2.2.1
  rcases g8 with g8 | ⟨t8, g8⟩
  · refine va_gets hx hb g8 P.2.2.1 (CF_o C) (CF_t C _ q_565) (fun _ h => h) dJ0_checkIndex_df160_2 ?_
    refine cl_i C P (run_SJ C P hl.1 hs (met_J3_checkIndex_8e157 (o3 := none) (CF_n C) G H.size _ _ S x1 x2 hw) q_716 q_717 q_20 q_718 cd_J3_checkIndex_8e157.2 ⟨(Nat.le_of_ble_eq_true rfl), (Nat.le_of_ble_eq_true rfl)⟩ rfl rfl (As := [.int x1, .int x2, .null]) (rest := []) rfl rfl (Nat.le_of_ble_eq_true rfl) dJ0_checkIndex_df160_5 ⟨by show cells + 0 ≤ 0; omega, by show slots + 0 ≤ 0; omega⟩) (kx_out C hex (fun _ _ _ h => h) (by omega) (by omega)) (fun r2 S1 H locs P hE hw => ?_)
    refine lv_pop hx hb dJ0_checkIndex_df160_8 rfl ?_
    exact e_v C hr P hw (by omega) (by omega) dJ0_checkIndex_df160_9
  · refine va_gets hx hb g8 P.2.2.1 (CF_o C) (CF_t C _ q_565) (fun _ h => h) dJ0_checkIndex_df160_2 ?_
    refine cl_i C P (run_SJ C P hl.1 hs (met_J3_checkIndex_8e157 (o3 := some t8) (CF_n C) G H.size _ _ S x1 x2 hw) q_716 q_717 q_20 q_718 cd_J3_checkIndex_8e157.2 ⟨(Nat.le_of_ble_eq_true rfl), (Nat.le_of_ble_eq_true rfl)⟩ rfl rfl (As := [.int x1, .int x2, .ref t8]) (rest := []) rfl rfl (Nat.le_of_ble_eq_true rfl) dJ0_checkIndex_df160_5 ⟨by show cells + 0 ≤ 0; omega, by show slots + 0 ≤ 0; omega⟩) (kx_out C hex (fun _ _ _ h => h) (by omega) (by omega)) (fun r2 S1 H locs P hE hw => ?_)
    refine lv_pop hx hb dJ0_checkIndex_df160_8 rfl ?_
    exact e_v C hr P hw (by omega) (by omega) dJ0_checkIndex_df160_9
def wp_J0_checkIndex_df160 (Q : MS → Prop) (QX : String → MS → Prop) (S : MS) (x1 : Int32) (x2 : Int32) : Prop := wJ0_checkIndex_df160_0 Q QX S x1 x2
set_option maxHeartbeats 4000000 in
set_option maxRecDepth 100000 in
theorem met_J0_checkIndex_df160 {l : Launch} {sa sv : Nat} (hst : l.stackTraces = false) (G : GP) (sz : Nat) (Q : MS → Prop) (QX : String → MS → Prop) (S : MS) (x1 : Int32) (x2 : Int32) (hw : wp_J0_checkIndex_df160 Q QX S x1 x2) : vx_Met l yJ0_checkIndex_df160 (.code yJ0_checkIndex_df160 cJ0_checkIndex_df160 2 none :: GW) rmJ0_checkIndex_df160 (va_Pc [.int x1, .int x2] (PRS G S sz sa sv)) (QV G S (FA G S sz) Q) (XX G S (FA G S sz) QX) 0 0 (FA G S sz) := by
  refine st_j (by decide +kernel) hst (fun p e s m below meth c C hr hex hs P => ?_)
  refine en_m (Nat.le_of_ble_eq_true rfl) (lv := [(0, .int x1), (1, .int x2)]) rfl (fun ls hl => ?_)
  have C : CF p l s m _ meth c "java/lang/String" cJ0_checkIndex_df160 2 G (FA G S sz) := C
  exact tJ0_checkIndex_df160_0 C hr hex hs Q QX S x1 x2 P hl (by omega) (by omega) hw
theorem cd_J0_checkIndex_df160 : yJ0_checkIndex_df160.cls = RJ0 ∧ yJ0_checkIndex_df160.cls ≠ "java/lang/invoke/MethodHandle" ∧ yJ0_checkIndex_df160.cls ≠ "java/lang/invoke/VarHandle" ∧ (parseMethodDescriptor yJ0_checkIndex_df160.desc).map (fun d => d.parameters.length) = some 2 := by decide +kernel
abbrev rmJ1_charAt_3b067 : Room := { frames := 3, cells := 0, slots := 0, locals := 103 }
def wJ1_charAt_3b067_0 (Q : Int32 → MS → Prop) (QX : String → MS → Prop) (S : MS) (x2 : Int32) : Prop := wp_J0_checkIndex_df160 (fun S1 => (vp_in x2 5 ∧ (isC (((((sgI x2) &&& 255) : Int32).toUInt32 % 65536).toInt32) ∧ Q (((((sgI x2) &&& 255) : Int32).toUInt32 % 65536).toInt32) S1))) QX S x2 5
set_option maxHeartbeats 4000000 in
set_option maxRecDepth 100000 in
theorem tJ1_charAt_3b067_0 {p : Program} {l : Launch} {e : Env} {s : State} {m : MethodId} {args : Array Value} {below : List Frame} {meth : Method} {c : Code} {H : Heap} {locs : List Loc} {cells slots : Nat} {G : GP} {A : Nat → Prop} {S0 : MS} {sa sv : Nat} {ls : Array Slot} (C : CF p l s m args meth c "java/lang/StringLatin1" cJ1_charAt_3b067 2 G A) (hr : meth.sig.returnType = (some .char)) (hex : ∀ x ∈ c.exceptionTable.toList, False) (hs : SL sa sv A s s.heap) (Q : Int32 → MS → Prop) (QX : String → MS → Prop) (S : MS) (x2 : Int32) (P : PW G A s H locs S0 S) (hl : lv_has ls 2 [(0, .ref sv), (1, .int x2)]) (hcc : cells + 0 ≤ 0) (hss : slots + 0 ≤ 0) (hw : wJ1_charAt_3b067_0 Q QX S x2) : W p l e rmJ1_charAt_3b067 s m args below meth c H locs cells slots (vx_MQ below (QI G S0 A Q) (XX G S0 A QX) args s 0 0 A) (F0 m 0 ls []) := by
  have hx := CF_x C
  have hb := CF_b C
  unfold wJ1_charAt_3b067_0 at hw
  refine lv_iload_n hx hb dJ1_charAt_3b067_0 rfl (lv_at hl 1 rfl) ?_
  refine lv_aload_n hx hb dJ1_charAt_3b067_1 rfl (lv_at hl 0 rfl) ?_
  refine va_tlen hx hb hs.2.2.2 P.2.2.1 (v := 5) rfl dJ1_charAt_3b067_2 ?_
  refine cl_v C P (run_SJ C P hl.1 hs (met_J0_checkIndex_df160 (CF_n C) G H.size _ _ S x2 5 hw) q_713 q_714 q_16 q_715 cd_J0_checkIndex_df160.2 ⟨(Nat.le_of_ble_eq_true rfl), (Nat.le_of_ble_eq_true rfl)⟩ rfl rfl (As := [.int x2, .int 5]) (rest := []) rfl rfl (Nat.le_of_ble_eq_true rfl) dJ1_charAt_3b067_3 ⟨by show cells + 0 ≤ 0; omega, by show slots + 0 ≤ 0; omega⟩) (kx_out C hex (fun _ _ _ h => h) (by omega) (by omega)) (fun S1 H locs P hE hw => ?_)
  refine lv_aload_n hx hb dJ1_charAt_3b067_6 rfl (lv_at hl 0 rfl) ?_
  refine lv_iload_n hx hb dJ1_charAt_3b067_7 rfl (lv_at hl 1 rfl) ?_
  obtain ⟨h1, hw⟩ := hw
  refine va_tb hx hb hs.2.2.2 P.2.2.1 h1 (v := .int (sgI x2)) rfl dJ1_charAt_3b067_8 ?_
  refine lv_sipush (v := 255) hx hb dJ1_charAt_3b067_9 (by decide) ?_
  refine lv_iand hx hb dJ1_charAt_3b067_12 ?_
  refine lv_i2c (v := ((((sgI x2) &&& 255) : Int32).toUInt32 % 65536).toInt32) hx hb dJ1_charAt_3b067_13 rfl ?_
  obtain ⟨h1, hw⟩ := hw
  exact e_i C hr (nc h1) P hw (by omega) (by omega) dJ1_charAt_3b067_14
def wp_J1_charAt_3b067 (Q : Int32 → MS → Prop) (QX : String → MS → Prop) (S : MS) (x2 : Int32) : Prop := wJ1_charAt_3b067_0 Q QX S x2
set_option maxHeartbeats 4000000 in
set_option maxRecDepth 100000 in
theorem met_J1_charAt_3b067 {l : Launch} {sa sv : Nat} (hst : l.stackTraces = false) (G : GP) (sz : Nat) (Q : Int32 → MS → Prop) (QX : String → MS → Prop) (S : MS) (x2 : Int32) (hw : wp_J1_charAt_3b067 Q QX S x2) : vx_Met l yJ1_charAt_3b067 (.code yJ1_charAt_3b067 cJ1_charAt_3b067 2 (some .char) :: GW) rmJ1_charAt_3b067 (va_Pc [.ref sv, .int x2] (PRS G S sz sa sv)) (QI G S (FA G S sz) Q) (XX G S (FA G S sz) QX) 0 0 (FA G S sz) := by
  refine st_j (by decide +kernel) hst (fun p e s m below meth c C hr hex hs P => ?_)
  refine en_m (Nat.le_of_ble_eq_true rfl) (lv := [(0, .ref sv), (1, .int x2)]) rfl (fun ls hl => ?_)
  have C : CF p l s m _ meth c "java/lang/StringLatin1" cJ1_charAt_3b067 2 G (FA G S sz) := C
  exact tJ1_charAt_3b067_0 C hr hex hs Q QX S x2 P hl (by omega) (by omega) hw
theorem cd_J1_charAt_3b067 : yJ1_charAt_3b067.cls = RJ1 ∧ yJ1_charAt_3b067.cls ≠ "java/lang/invoke/MethodHandle" ∧ yJ1_charAt_3b067.cls ≠ "java/lang/invoke/VarHandle" ∧ (parseMethodDescriptor yJ1_charAt_3b067.desc).map (fun d => d.parameters.length) = some 2 := by decide +kernel
abbrev rmJ0_charAt_5068e : Room := { frames := 4, cells := 0, slots := 0, locals := 124 }
def wJ0_charAt_5068e_0 (Q : Int32 → MS → Prop) (QX : String → MS → Prop) (S : MS) (x1 : Int32) : Prop := wp_J0_isLatin1_aae02 (fun r2 S1 => ((r2 = 0 → False) ∧ (¬ r2 = 0 → wp_J1_charAt_3b067 (fun r4 S3 => (isC r4 ∧ Q r4 S3)) QX S1 x1))) QX S
set_option maxHeartbeats 4000000 in
set_option maxRecDepth 100000 in
theorem tJ0_charAt_5068e_0 {p : Program} {l : Launch} {e : Env} {s : State} {m : MethodId} {args : Array Value} {below : List Frame} {meth : Method} {c : Code} {H : Heap} {locs : List Loc} {cells slots : Nat} {G : GP} {A : Nat → Prop} {S0 : MS} {sa sv : Nat} {ls : Array Slot} (C : CF p l s m args meth c "java/lang/String" cJ0_charAt_5068e 2 G A) (hr : meth.sig.returnType = (some .char)) (hex : ∀ x ∈ c.exceptionTable.toList, False) (hs : SL sa sv A s s.heap) (Q : Int32 → MS → Prop) (QX : String → MS → Prop) (S : MS) (x1 : Int32) (P : PW G A s H locs S0 S) (hl : lv_has ls 2 [(0, .ref sa), (1, .int x1)]) (hcc : cells + 0 ≤ 0) (hss : slots + 0 ≤ 0) (hw : wJ0_charAt_5068e_0 Q QX S x1) : W p l e rmJ0_charAt_5068e s m args below meth c H locs cells slots (vx_MQ below (QI G S0 A Q) (XX G S0 A QX) args s 0 0 A) (F0 m 0 ls []) := by
  have hx := CF_x C
  have hb := CF_b C
  unfold wJ0_charAt_5068e_0 at hw
  refine lv_aload_n hx hb dJ0_charAt_5068e_0 rfl (lv_at hl 0 rfl) ?_
  refine cl_i C P (run_VJ C P hl.1 hs (met_J0_isLatin1_aae02 (CF_n C) G H.size _ _ S hw) q_518 q_519 q_520 q_16 q_521 cd_J0_isLatin1_aae02 ⟨(Nat.le_of_ble_eq_true rfl), (Nat.le_of_ble_eq_true rfl)⟩ rfl rfl (As := []) (rest := []) rfl rfl (Nat.le_of_ble_eq_true rfl) dJ0_charAt_5068e_1 ⟨by show cells + 0 ≤ 0; omega, by show slots + 0 ≤ 0; omega⟩) (kx_out C hex (fun _ _ _ h => h) (by omega) (by omega)) (fun r2 S1 H locs P hE hw => ?_)
  refine lv_if_eq (tgt := 16) hx hb dJ0_charAt_5068e_4 (by decide) (fun hc => ?_) (fun hc => ?_)
  · have hw := hw.1 hc
    refine lv_aload_n hx hb dJ0_charAt_5068e_16 rfl (lv_at hl 0 rfl) ?_
    refine vk_getf hx hb hs.2.2.1 P.2.2.1 (CF_o C) (CF_t C _ q_1776) (fun _ h => h) dJ0_charAt_5068e_17 ?_
    refine lv_iload_n hx hb dJ0_charAt_5068e_20 rfl (lv_at hl 1 rfl) ?_
    exact hw.elim
  · have hw := hw.2 hc
    refine lv_aload_n hx hb dJ0_charAt_5068e_7 rfl (lv_at hl 0 rfl) ?_
    refine vk_getf hx hb hs.2.2.1 P.2.2.1 (CF_o C) (CF_t C _ q_1776) (fun _ h => h) dJ0_charAt_5068e_8 ?_
    refine lv_iload_n hx hb dJ0_charAt_5068e_11 rfl (lv_at hl 1 rfl) ?_
    refine cl_i C P (run_SJ C P hl.1 hs (met_J1_charAt_3b067 (CF_n C) G H.size _ _ S1 x1 hw) q_710 q_711 q_17 q_712 cd_J1_charAt_3b067.2 ⟨(Nat.le_of_ble_eq_true rfl), (Nat.le_of_ble_eq_true rfl)⟩ rfl rfl (As := [.ref sv, .int x1]) (rest := []) rfl rfl (Nat.le_of_ble_eq_true rfl) dJ0_charAt_5068e_12 ⟨by show cells + 0 ≤ 0; omega, by show slots + 0 ≤ 0; omega⟩) (kx_out C hex (fun _ _ _ h => h) (by omega) (by omega)) (fun r4 S3 H locs P hE hw => ?_)
    obtain ⟨h1, hw⟩ := hw
    exact e_i C hr (nc h1) P hw (by omega) (by omega) dJ0_charAt_5068e_15
def wp_J0_charAt_5068e (Q : Int32 → MS → Prop) (QX : String → MS → Prop) (S : MS) (x1 : Int32) : Prop := wJ0_charAt_5068e_0 Q QX S x1
set_option maxHeartbeats 4000000 in
set_option maxRecDepth 100000 in
theorem met_J0_charAt_5068e {l : Launch} {sa sv : Nat} (hst : l.stackTraces = false) (G : GP) (sz : Nat) (Q : Int32 → MS → Prop) (QX : String → MS → Prop) (S : MS) (x1 : Int32) (hw : wp_J0_charAt_5068e Q QX S x1) : vx_Met l yJ0_charAt_5068e (.code yJ0_charAt_5068e cJ0_charAt_5068e 2 (some .char) :: GW) rmJ0_charAt_5068e (va_Pc [.ref sa, .int x1] (PRS G S sz sa sv)) (QI G S (FA G S sz) Q) (XX G S (FA G S sz) QX) 0 0 (FA G S sz) := by
  refine st_j (by decide +kernel) hst (fun p e s m below meth c C hr hex hs P => ?_)
  refine en_m (Nat.le_of_ble_eq_true rfl) (lv := [(0, .ref sa), (1, .int x1)]) rfl (fun ls hl => ?_)
  have C : CF p l s m _ meth c "java/lang/String" cJ0_charAt_5068e 2 G (FA G S sz) := C
  exact tJ0_charAt_5068e_0 C hr hex hs Q QX S x1 P hl (by omega) (by omega) hw
theorem cd_J0_charAt_5068e : yJ0_charAt_5068e.cls = RJ0 ∧ yJ0_charAt_5068e.cls ≠ "java/lang/invoke/MethodHandle" ∧ yJ0_charAt_5068e.cls ≠ "java/lang/invoke/VarHandle" ∧ (parseMethodDescriptor yJ0_charAt_5068e.desc).map (fun d => d.parameters.length) = some 1 := by decide +kernel
abbrev rmJ1_canEncode_9a6ad : Room := { frames := 0, cells := 0, slots := 0, locals := 0 }
def wJ1_canEncode_9a6ad_0 (Q : Int32 → MS → Prop) (QX : String → MS → Prop) (S : MS) (x1 : Int32) : Prop := ((x1 < 0 → Q 0 S) ∧ (¬ x1 < 0 → ((255 < x1 → Q 0 S) ∧ (¬ 255 < x1 → Q 1 S))))
set_option maxHeartbeats 4000000 in
set_option maxRecDepth 100000 in
theorem tJ1_canEncode_9a6ad_0 {p : Program} {l : Launch} {e : Env} {s : State} {m : MethodId} {args : Array Value} {below : List Frame} {meth : Method} {c : Code} {H : Heap} {locs : List Loc} {cells slots : Nat} {G : GP} {A : Nat → Prop} {S0 : MS} {sa sv : Nat} {ls : Array Slot} (C : CF p l s m args meth c "java/lang/StringLatin1" cJ1_canEncode_9a6ad 1 G A) (hr : meth.sig.returnType = (some .boolean)) (hex : ∀ x ∈ c.exceptionTable.toList, False) (hs : SL sa sv A s s.heap) (Q : Int32 → MS → Prop) (QX : String → MS → Prop) (S : MS) (x1 : Int32) (P : PW G A s H locs S0 S) (hl : lv_has ls 1 [(0, .int x1)]) (hcc : cells + 0 ≤ 0) (hss : slots + 0 ≤ 0) (hw : wJ1_canEncode_9a6ad_0 Q QX S x1) : W p l e rmJ1_canEncode_9a6ad s m args below meth c H locs cells slots (vx_MQ below (QI G S0 A Q) (XX G S0 A QX) args s 0 0 A) (F0 m 0 ls []) := by
  have hx := CF_x C
  have hb := CF_b C
  unfold wJ1_canEncode_9a6ad_0 at hw
  refine lv_iload_n hx hb dJ1_canEncode_9a6ad_0 rfl (lv_at hl 0 rfl) ?_
  refine lv_if_lt (tgt := 15) hx hb dJ1_canEncode_9a6ad_1 (by decide) (fun hc => ?_) (fun hc => ?_)
  · have hw := hw.1 hc
    refine lv_iconst (v := 0) hx hb dJ1_canEncode_9a6ad_15 (by decide) ?_
    exact e_i C hr (by decide +kernel) P hw (by omega) (by omega) dJ1_canEncode_9a6ad_16
  · have hw := hw.2 hc
    refine lv_iload_n hx hb dJ1_canEncode_9a6ad_4 rfl (lv_at hl 0 rfl) ?_
    refine lv_sipush (v := 255) hx hb dJ1_canEncode_9a6ad_5 (by decide) ?_
    refine lv_icmp_gt (tgt := 15) hx hb dJ1_canEncode_9a6ad_8 (by decide) (fun hc => ?_) (fun hc => ?_)
    · have hw := hw.1 hc
      refine lv_iconst (v := 0) hx hb dJ1_canEncode_9a6ad_15 (by decide) ?_
      exact e_i C hr (by decide +kernel) P hw (by omega) (by omega) dJ1_canEncode_9a6ad_16
    · have hw := hw.2 hc
      refine lv_iconst (v := 1) hx hb dJ1_canEncode_9a6ad_11 (by decide) ?_
      refine lv_goto (tgt := 16) hx hb dJ1_canEncode_9a6ad_12 (by decide) ?_
      exact e_i C hr (by decide +kernel) P hw (by omega) (by omega) dJ1_canEncode_9a6ad_16
def wp_J1_canEncode_9a6ad (Q : Int32 → MS → Prop) (QX : String → MS → Prop) (S : MS) (x1 : Int32) : Prop := wJ1_canEncode_9a6ad_0 Q QX S x1
set_option maxHeartbeats 4000000 in
set_option maxRecDepth 100000 in
theorem met_J1_canEncode_9a6ad {l : Launch} {sa sv : Nat} (hst : l.stackTraces = false) (G : GP) (sz : Nat) (Q : Int32 → MS → Prop) (QX : String → MS → Prop) (S : MS) (x1 : Int32) (hw : wp_J1_canEncode_9a6ad Q QX S x1) : vx_Met l yJ1_canEncode_9a6ad (.code yJ1_canEncode_9a6ad cJ1_canEncode_9a6ad 1 (some .boolean) :: GW) rmJ1_canEncode_9a6ad (va_Pc [.int x1] (PRS G S sz sa sv)) (QI G S (FA G S sz) Q) (XX G S (FA G S sz) QX) 0 0 (FA G S sz) := by
  refine st_j (by decide +kernel) hst (fun p e s m below meth c C hr hex hs P => ?_)
  refine en_m (Nat.le_of_ble_eq_true rfl) (lv := [(0, .int x1)]) rfl (fun ls hl => ?_)
  have C : CF p l s m _ meth c "java/lang/StringLatin1" cJ1_canEncode_9a6ad 1 G (FA G S sz) := C
  exact tJ1_canEncode_9a6ad_0 C hr hex hs Q QX S x1 P hl (by omega) (by omega) hw
theorem cd_J1_canEncode_9a6ad : yJ1_canEncode_9a6ad.cls = RJ1 ∧ yJ1_canEncode_9a6ad.cls ≠ "java/lang/invoke/MethodHandle" ∧ yJ1_canEncode_9a6ad.cls ≠ "java/lang/invoke/VarHandle" ∧ (parseMethodDescriptor yJ1_canEncode_9a6ad.desc).map (fun d => d.parameters.length) = some 1 := by decide +kernel
abbrev rmJ1_indexOfChar_4cfef : Room := { frames := 0, cells := 0, slots := 0, locals := 0 }
def wJ1_indexOfChar_4cfef_7 (Q : Int32 → MS → Prop) (QX : String → MS → Prop) (k7 : MS → Int32 → Int32 → Int32 → Prop) (S : MS) (y3 : Int32) (y4 : Int32) (y5 : Int32) : Prop := ((y3 ≤ y5 → Q (-1) S) ∧ (¬ y3 ≤ y5 → (vp_in y5 5 ∧ ((¬ (sgI y5) = y4 → k7 S y3 y4 (y5 + 1)) ∧ ((sgI y5) = y4 → Q y5 S)))))
set_option maxHeartbeats 4000000 in
set_option maxRecDepth 100000 in
theorem tJ1_indexOfChar_4cfef_7 {p : Program} {l : Launch} {e : Env} {s : State} {m : MethodId} {args : Array Value} {below : List Frame} {meth : Method} {c : Code} {H : Heap} {locs : List Loc} {cells slots : Nat} {G : GP} {A : Nat → Prop} {S0 : MS} {sa sv : Nat} {ls : Array Slot} (C : CF p l s m args meth c "java/lang/StringLatin1" cJ1_indexOfChar_4cfef 6 G A) (hr : meth.sig.returnType = (some .int)) (hex : ∀ x ∈ c.exceptionTable.toList, False) (hs : SL sa sv A s s.heap) (Q : Int32 → MS → Prop) (QX : String → MS → Prop) (k7 : MS → Int32 → Int32 → Int32 → Prop) (kh7 : ∀ (S : MS) (y3 : Int32) (y4 : Int32) (y5 : Int32) (cells slots : Nat) (H : Heap) (locs : List Loc) (ls : Array Slot), PW G A s H locs S0 S → lv_has ls 6 [(0, .ref sv), (3, .int y3), (4, .int y4), (5, .int y5)] → cells + 0 ≤ 0 → slots + 0 ≤ 0 → k7 S y3 y4 y5 → W p l e rmJ1_indexOfChar_4cfef s m args below meth c H locs cells slots (vx_MQ below (QI G S0 A Q) (XX G S0 A QX) args s 0 0 A) (F0 m 7 ls [])) (S : MS) (y3 : Int32) (y4 : Int32) (y5 : Int32) (P : PW G A s H locs S0 S) (hl : lv_has ls 6 [(0, .ref sv), (3, .int y3), (4, .int y4), (5, .int y5)]) (hcc : cells + 0 ≤ 0) (hss : slots + 0 ≤ 0) (hw : wJ1_indexOfChar_4cfef_7 Q QX k7 S y3 y4 y5) : W p l e rmJ1_indexOfChar_4cfef s m args below meth c H locs cells slots (vx_MQ below (QI G S0 A Q) (XX G S0 A QX) args s 0 0 A) (F0 m 7 ls []) := by
  have hx := CF_x C
  have hb := CF_b C
  unfold wJ1_indexOfChar_4cfef_7 at hw
  refine lv_iload hx hb dJ1_indexOfChar_4cfef_7 (lv_at hl 3 rfl) ?_
  refine lv_iload_n hx hb dJ1_indexOfChar_4cfef_9 rfl (lv_at hl 1 rfl) ?_
  refine lv_icmp_ge (tgt := 31) hx hb dJ1_indexOfChar_4cfef_10 (by decide) (fun hc => ?_) (fun hc => ?_)
  · have hw := hw.1 hc
    refine lv_iconst (v := (-1)) hx hb dJ1_indexOfChar_4cfef_31 (by decide) ?_
    exact e_i C hr rfl P hw (by omega) (by omega) dJ1_indexOfChar_4cfef_32
  · have hw := hw.2 hc
    refine lv_aload_n hx hb dJ1_indexOfChar_4cfef_13 rfl (lv_at hl 0 rfl) ?_
    refine lv_iload hx hb dJ1_indexOfChar_4cfef_14 (lv_at hl 3 rfl) ?_
    obtain ⟨h1, hw⟩ := hw
    refine va_tb hx hb hs.2.2.2 P.2.2.1 h1 (v := .int (sgI y5)) rfl dJ1_indexOfChar_4cfef_16 ?_
    refine lv_iload hx hb dJ1_indexOfChar_4cfef_17 (lv_at hl 2 rfl) ?_
    refine lv_icmp_ne (tgt := 25) hx hb dJ1_indexOfChar_4cfef_19 (by decide) (fun hc => ?_) (fun hc => ?_)
    · have hw := hw.1 hc
      refine lv_iinc (v := (y5 + 1)) (lv' := [(5, .int (y5 + 1)), (0, .ref sv), (3, .int y3), (4, .int y4)]) hx hb dJ1_indexOfChar_4cfef_25 hl (k := 3) rfl (by rfl) (by decide) rfl (fun ls hl => ?_)
      refine lv_goto (tgt := 7) hx hb dJ1_indexOfChar_4cfef_28 (by decide) ?_
      exact kh7 S y3 y4 (y5 + 1) _ _ _ _ _ P (lv_sub hl [1, 2, 3, 0] rfl) (by omega) (by omega) hw
    · have hw := hw.2 hc
      refine lv_iload hx hb dJ1_indexOfChar_4cfef_22 (lv_at hl 3 rfl) ?_
      exact e_i C hr rfl P hw (by omega) (by omega) dJ1_indexOfChar_4cfef_24
def lJ1_indexOfChar_4cfef_7 (Q : Int32 → MS → Prop) (QX : String → MS → Prop) : Nat → MS → Int32 → Int32 → Int32 → Prop
  | 0 => fun _ _ _ _ => False
  | n + 1 => fun S y3 y4 y5 => wJ1_indexOfChar_4cfef_7 Q QX (lJ1_indexOfChar_4cfef_7 Q QX n) S y3 y4 y5
theorem tlJ1_indexOfChar_4cfef_7 {p : Program} {l : Launch} {e : Env} {s : State} {m : MethodId} {args : Array Value} {below : List Frame} {meth : Method} {c : Code} {G : GP} {A : Nat → Prop} {S0 : MS} {sa sv : Nat} (C : CF p l s m args meth c "java/lang/StringLatin1" cJ1_indexOfChar_4cfef 6 G A) (hr : meth.sig.returnType = (some .int)) (hex : ∀ x ∈ c.exceptionTable.toList, False) (hs : SL sa sv A s s.heap) (Q : Int32 → MS → Prop) (QX : String → MS → Prop) : ∀ (n : Nat), ∀ (S : MS) (y3 : Int32) (y4 : Int32) (y5 : Int32) (cells slots : Nat) (H : Heap) (locs : List Loc) (ls : Array Slot), PW G A s H locs S0 S → lv_has ls 6 [(0, .ref sv), (3, .int y3), (4, .int y4), (5, .int y5)] → cells + 0 ≤ 0 → slots + 0 ≤ 0 → lJ1_indexOfChar_4cfef_7 Q QX n S y3 y4 y5 → W p l e rmJ1_indexOfChar_4cfef s m args below meth c H locs cells slots (vx_MQ below (QI G S0 A Q) (XX G S0 A QX) args s 0 0 A) (F0 m 7 ls []) := by
  intro n
  induction n with
  | zero => intro S y3 y4 y5 cells slots H locs ls P hl hcc hss hw; exact hw.elim
  | succ n ih => intro S y3 y4 y5 cells slots H locs ls P hl hcc hss hw; exact tJ1_indexOfChar_4cfef_7 C hr hex hs Q QX (lJ1_indexOfChar_4cfef_7 Q QX n) ih S y3 y4 y5 P hl hcc hss hw
def wJ1_indexOfChar_4cfef_0 (Q : Int32 → MS → Prop) (QX : String → MS → Prop) (S : MS) (x2 : Int32) (x3 : Int32) (x4 : Int32) : Prop := (∃ n, lJ1_indexOfChar_4cfef_7 Q QX n S x4 ((x2 : Int32).toInt8.toInt32) x3)
set_option maxHeartbeats 4000000 in
set_option maxRecDepth 100000 in
theorem tJ1_indexOfChar_4cfef_0 {p : Program} {l : Launch} {e : Env} {s : State} {m : MethodId} {args : Array Value} {below : List Frame} {meth : Method} {c : Code} {H : Heap} {locs : List Loc} {cells slots : Nat} {G : GP} {A : Nat → Prop} {S0 : MS} {sa sv : Nat} {ls : Array Slot} (C : CF p l s m args meth c "java/lang/StringLatin1" cJ1_indexOfChar_4cfef 6 G A) (hr : meth.sig.returnType = (some .int)) (hex : ∀ x ∈ c.exceptionTable.toList, False) (hs : SL sa sv A s s.heap) (Q : Int32 → MS → Prop) (QX : String → MS → Prop) (S : MS) (x2 : Int32) (x3 : Int32) (x4 : Int32) (P : PW G A s H locs S0 S) (hl : lv_has ls 6 [(0, .ref sv), (1, .int x2), (2, .int x3), (3, .int x4)]) (hcc : cells + 0 ≤ 0) (hss : slots + 0 ≤ 0) (hw : wJ1_indexOfChar_4cfef_0 Q QX S x2 x3 x4) : W p l e rmJ1_indexOfChar_4cfef s m args below meth c H locs cells slots (vx_MQ below (QI G S0 A Q) (XX G S0 A QX) args s 0 0 A) (F0 m 0 ls []) := by
  have hx := CF_x C
  have hb := CF_b C
  unfold wJ1_indexOfChar_4cfef_0 at hw
  refine lv_iload_n hx hb dJ1_indexOfChar_4cfef_0 rfl (lv_at hl 1 rfl) ?_
  refine lv_i2b (v := (x2 : Int32).toInt8.toInt32) hx hb dJ1_indexOfChar_4cfef_1 rfl ?_
  refine lv_istore (lv' := [(4, .int ((x2 : Int32).toInt8.toInt32)), (0, .ref sv), (1, .int x2), (2, .int x3), (3, .int x4)]) hx hb dJ1_indexOfChar_4cfef_2 hl (by decide) rfl (fun ls hl => ?_)
  refine lv_iload_n hx hb dJ1_indexOfChar_4cfef_4 rfl (lv_at hl 3 rfl) ?_
  refine lv_istore (lv' := [(5, .int x3), (4, .int ((x2 : Int32).toInt8.toInt32)), (0, .ref sv), (1, .int x2), (2, .int x3), (3, .int x4)]) hx hb dJ1_indexOfChar_4cfef_5 hl (by decide) rfl (fun ls hl => ?_)
  obtain ⟨n, hw⟩ := hw
  exact tlJ1_indexOfChar_4cfef_7 C hr hex hs Q QX n S x4 ((x2 : Int32).toInt8.toInt32) x3 _ _ _ _ _ P (lv_sub hl [2, 5, 1, 0] rfl) (by omega) (by omega) hw
def wp_J1_indexOfChar_4cfef (Q : Int32 → MS → Prop) (QX : String → MS → Prop) (S : MS) (x2 : Int32) (x3 : Int32) (x4 : Int32) : Prop := wJ1_indexOfChar_4cfef_0 Q QX S x2 x3 x4
set_option maxHeartbeats 4000000 in
set_option maxRecDepth 100000 in
theorem met_J1_indexOfChar_4cfef {l : Launch} {sa sv : Nat} (hst : l.stackTraces = false) (G : GP) (sz : Nat) (Q : Int32 → MS → Prop) (QX : String → MS → Prop) (S : MS) (x2 : Int32) (x3 : Int32) (x4 : Int32) (hw : wp_J1_indexOfChar_4cfef Q QX S x2 x3 x4) : vx_Met l yJ1_indexOfChar_4cfef (.code yJ1_indexOfChar_4cfef cJ1_indexOfChar_4cfef 6 (some .int) :: GW) rmJ1_indexOfChar_4cfef (va_Pc [.ref sv, .int x2, .int x3, .int x4] (PRS G S sz sa sv)) (QI G S (FA G S sz) Q) (XX G S (FA G S sz) QX) 0 0 (FA G S sz) := by
  refine st_j (by decide +kernel) hst (fun p e s m below meth c C hr hex hs P => ?_)
  refine en_m (Nat.le_of_ble_eq_true rfl) (lv := [(0, .ref sv), (1, .int x2), (2, .int x3), (3, .int x4)]) rfl (fun ls hl => ?_)
  have C : CF p l s m _ meth c "java/lang/StringLatin1" cJ1_indexOfChar_4cfef 6 G (FA G S sz) := C
  exact tJ1_indexOfChar_4cfef_0 C hr hex hs Q QX S x2 x3 x4 P hl (by omega) (by omega) hw
theorem cd_J1_indexOfChar_4cfef : yJ1_indexOfChar_4cfef.cls = RJ1 ∧ yJ1_indexOfChar_4cfef.cls ≠ "java/lang/invoke/MethodHandle" ∧ yJ1_indexOfChar_4cfef.cls ≠ "java/lang/invoke/VarHandle" ∧ (parseMethodDescriptor yJ1_indexOfChar_4cfef.desc).map (fun d => d.parameters.length) = some 4 := by decide +kernel
abbrev rmJ1_indexOf_4cfef : Room := { frames := 1, cells := 0, slots := 0, locals := 60 }
def wJ1_indexOf_4cfef_0 (Q : Int32 → MS → Prop) (QX : String → MS → Prop) (S : MS) (x2 : Int32) (x3 : Int32) (x4 : Int32) : Prop := wp_J1_canEncode_9a6ad (fun r2 S1 => ((¬ r2 = 0 → (((if x3 < 0 then 0 else x3) < (if 5 < x4 then 5 else x4) → wp_J1_indexOfChar_4cfef (fun r4 S3 => Q r4 S3) QX S1 x2 (if x3 < 0 then 0 else x3) (if 5 < x4 then 5 else x4)) ∧ (¬ (if x3 < 0 then 0 else x3) < (if 5 < x4 then 5 else x4) → Q (-1) S1))) ∧ (r2 = 0 → Q (-1) S1))) QX S x2
set_option maxHeartbeats 4000000 in
set_option maxRecDepth 100000 in
theorem tJ1_indexOf_4cfef_0 {p : Program} {l : Launch} {e : Env} {s : State} {m : MethodId} {args : Array Value} {below : List Frame} {meth : Method} {c : Code} {H : Heap} {locs : List Loc} {cells slots : Nat} {G : GP} {A : Nat → Prop} {S0 : MS} {sa sv : Nat} {ls : Array Slot} (C : CF p l s m args meth c "java/lang/StringLatin1" cJ1_indexOf_4cfef 4 G A) (hr : meth.sig.returnType = (some .int)) (hex : ∀ x ∈ c.exceptionTable.toList, False) (hs : SL sa sv A s s.heap) (Q : Int32 → MS → Prop) (QX : String → MS → Prop) (S : MS) (x2 : Int32) (x3 : Int32) (x4 : Int32) (P : PW G A s H locs S0 S) (hl : lv_has ls 4 [(0, .ref sv), (1, .int x2), (2, .int x3), (3, .int x4)]) (hcc : cells + 0 ≤ 0) (hss : slots + 0 ≤ 0) (hw : wJ1_indexOf_4cfef_0 Q QX S x2 x3 x4) : W p l e rmJ1_indexOf_4cfef s m args below meth c H locs cells slots (vx_MQ below (QI G S0 A Q) (XX G S0 A QX) args s 0 0 A) (F0 m 0 ls []) := by
  have hx := CF_x C
  have hb := CF_b C
  unfold wJ1_indexOf_4cfef_0 at hw
  refine lv_iload_n hx hb dJ1_indexOf_4cfef_0 rfl (lv_at hl 1 rfl) ?_
  refine cl_i C P (run_SJ C P hl.1 hs (met_J1_canEncode_9a6ad (CF_n C) G H.size _ _ S x2 hw) q_535 q_536 q_17 q_537 cd_J1_canEncode_9a6ad.2 ⟨(Nat.le_of_ble_eq_true rfl), (Nat.le_of_ble_eq_true rfl)⟩ rfl rfl (As := [.int x2]) (rest := []) rfl rfl (Nat.le_of_ble_eq_true rfl) dJ1_indexOf_4cfef_1 ⟨by show cells + 0 ≤ 0; omega, by show slots + 0 ≤ 0; omega⟩) (kx_out C hex (fun _ _ _ h => h) (by omega) (by omega)) (fun r2 S1 H locs P hE hw => ?_)
  refine lv_if_ne (tgt := 9) hx hb dJ1_indexOf_4cfef_4 (by decide) (fun hc => ?_) (fun hc => ?_)
  · have hw := hw.1 hc
    refine lv_iload_n hx hb dJ1_indexOf_4cfef_9 rfl (lv_at hl 2 rfl) ?_
    refine lv_iconst (v := 0) hx hb dJ1_indexOf_4cfef_10 (by decide) ?_
    refine va_mmax hx hb ((CF_m C).trans hl.1.symm) (CF_o C) (CF_t C _ q_538) (CF_t C _ q_539) (CF_t C _ q_18) (CF_t C _ q_540) (Nat.le_of_ble_eq_true rfl) (Nat.le_of_ble_eq_true rfl) (by show cells ≤ 0; omega) (by show slots ≤ 0; omega) dJ1_indexOf_4cfef_11 ?_
    refine lv_istore_n (lv' := [(2, .int (if x3 < 0 then 0 else x3)), (0, .ref sv), (1, .int x2), (3, .int x4)]) hx hb dJ1_indexOf_4cfef_14 rfl hl (by decide) rfl (fun ls hl => ?_)
    refine lv_iload_n hx hb dJ1_indexOf_4cfef_15 rfl (lv_at hl 3 rfl) ?_
    refine lv_aload_n hx hb dJ1_indexOf_4cfef_16 rfl (lv_at hl 1 rfl) ?_
    refine va_tlen hx hb hs.2.2.2 P.2.2.1 (v := 5) rfl dJ1_indexOf_4cfef_17 ?_
    refine va_mmin hx hb ((CF_m C).trans hl.1.symm) (CF_o C) (CF_t C _ q_541) (CF_t C _ q_542) (CF_t C _ q_18) (CF_t C _ q_543) (Nat.le_of_ble_eq_true rfl) (Nat.le_of_ble_eq_true rfl) (by show cells ≤ 0; omega) (by show slots ≤ 0; omega) dJ1_indexOf_4cfef_18 ?_
    refine lv_istore_n (lv' := [(3, .int (if 5 < x4 then 5 else x4)), (2, .int (if x3 < 0 then 0 else x3)), (0, .ref sv), (1, .int x2)]) hx hb dJ1_indexOf_4cfef_21 rfl hl (by decide) rfl (fun ls hl => ?_)
    refine lv_iload_n hx hb dJ1_indexOf_4cfef_22 rfl (lv_at hl 1 rfl) ?_
    refine lv_iload_n hx hb dJ1_indexOf_4cfef_23 rfl (lv_at hl 0 rfl) ?_
    refine lv_icmp_lt (tgt := 29) hx hb dJ1_indexOf_4cfef_24 (by decide) (fun hc => ?_) (fun hc => ?_)
    · have hw := hw.1 hc
      refine lv_aload_n hx hb dJ1_indexOf_4cfef_29 rfl (lv_at hl 2 rfl) ?_
      refine lv_iload_n hx hb dJ1_indexOf_4cfef_30 rfl (lv_at hl 3 rfl) ?_
      refine lv_iload_n hx hb dJ1_indexOf_4cfef_31 rfl (lv_at hl 1 rfl) ?_
      refine lv_iload_n hx hb dJ1_indexOf_4cfef_32 rfl (lv_at hl 0 rfl) ?_
      refine cl_i C P (run_SJ C P hl.1 hs (met_J1_indexOfChar_4cfef (CF_n C) G H.size _ _ S1 x2 (if x3 < 0 then 0 else x3) (if 5 < x4 then 5 else x4) hw) q_544 q_545 q_17 q_546 cd_J1_indexOfChar_4cfef.2 ⟨(Nat.le_of_ble_eq_true rfl), (Nat.le_of_ble_eq_true rfl)⟩ rfl rfl (As := [.ref sv, .int x2, .int (if x3 < 0 then 0 else x3), .int (if 5 < x4 then 5 else x4)]) (rest := []) rfl rfl (Nat.le_of_ble_eq_true rfl) dJ1_indexOf_4cfef_33 ⟨by show cells + 0 ≤ 0; omega, by show slots + 0 ≤ 0; omega⟩) (kx_out C hex (fun _ _ _ h => h) (by omega) (by omega)) (fun r4 S3 H locs P hE hw => ?_)
      exact e_i C hr rfl P hw (by omega) (by omega) dJ1_indexOf_4cfef_36
    · have hw := hw.2 hc
      refine lv_iconst (v := (-1)) hx hb dJ1_indexOf_4cfef_27 (by decide) ?_
      exact e_i C hr rfl P hw (by omega) (by omega) dJ1_indexOf_4cfef_28
  · have hw := hw.2 hc
    refine lv_iconst (v := (-1)) hx hb dJ1_indexOf_4cfef_7 (by decide) ?_
    exact e_i C hr rfl P hw (by omega) (by omega) dJ1_indexOf_4cfef_8
def wp_J1_indexOf_4cfef (Q : Int32 → MS → Prop) (QX : String → MS → Prop) (S : MS) (x2 : Int32) (x3 : Int32) (x4 : Int32) : Prop := wJ1_indexOf_4cfef_0 Q QX S x2 x3 x4
set_option maxHeartbeats 4000000 in
set_option maxRecDepth 100000 in
theorem met_J1_indexOf_4cfef {l : Launch} {sa sv : Nat} (hst : l.stackTraces = false) (G : GP) (sz : Nat) (Q : Int32 → MS → Prop) (QX : String → MS → Prop) (S : MS) (x2 : Int32) (x3 : Int32) (x4 : Int32) (hw : wp_J1_indexOf_4cfef Q QX S x2 x3 x4) : vx_Met l yJ1_indexOf_4cfef (.code yJ1_indexOf_4cfef cJ1_indexOf_4cfef 4 (some .int) :: GW) rmJ1_indexOf_4cfef (va_Pc [.ref sv, .int x2, .int x3, .int x4] (PRS G S sz sa sv)) (QI G S (FA G S sz) Q) (XX G S (FA G S sz) QX) 0 0 (FA G S sz) := by
  refine st_j (by decide +kernel) hst (fun p e s m below meth c C hr hex hs P => ?_)
  refine en_m (Nat.le_of_ble_eq_true rfl) (lv := [(0, .ref sv), (1, .int x2), (2, .int x3), (3, .int x4)]) rfl (fun ls hl => ?_)
  have C : CF p l s m _ meth c "java/lang/StringLatin1" cJ1_indexOf_4cfef 4 G (FA G S sz) := C
  exact tJ1_indexOf_4cfef_0 C hr hex hs Q QX S x2 x3 x4 P hl (by omega) (by omega) hw
theorem cd_J1_indexOf_4cfef : yJ1_indexOf_4cfef.cls = RJ1 ∧ yJ1_indexOf_4cfef.cls ≠ "java/lang/invoke/MethodHandle" ∧ yJ1_indexOf_4cfef.cls ≠ "java/lang/invoke/VarHandle" ∧ (parseMethodDescriptor yJ1_indexOf_4cfef.desc).map (fun d => d.parameters.length) = some 4 := by decide +kernel
abbrev rmJ0_indexOf_7cf53 : Room := { frames := 2, cells := 0, slots := 0, locals := 83 }
def wJ0_indexOf_7cf53_0 (Q : Int32 → MS → Prop) (QX : String → MS → Prop) (S : MS) (x1 : Int32) (x2 : Int32) : Prop := wp_J0_isLatin1_aae02 (fun r2 S1 => ((r2 = 0 → wp_J0_length_8abf5 (fun r4 S3 => False) QX S1) ∧ (¬ r2 = 0 → wp_J0_length_8abf5 (fun r6 S5 => wp_J1_indexOf_4cfef (fun r8 S7 => Q r8 S7) QX S5 x1 x2 r6) QX S1))) QX S
set_option maxHeartbeats 4000000 in
set_option maxRecDepth 100000 in
theorem tJ0_indexOf_7cf53_0 {p : Program} {l : Launch} {e : Env} {s : State} {m : MethodId} {args : Array Value} {below : List Frame} {meth : Method} {c : Code} {H : Heap} {locs : List Loc} {cells slots : Nat} {G : GP} {A : Nat → Prop} {S0 : MS} {sa sv : Nat} {ls : Array Slot} (C : CF p l s m args meth c "java/lang/String" cJ0_indexOf_7cf53 3 G A) (hr : meth.sig.returnType = (some .int)) (hex : ∀ x ∈ c.exceptionTable.toList, False) (hs : SL sa sv A s s.heap) (Q : Int32 → MS → Prop) (QX : String → MS → Prop) (S : MS) (x1 : Int32) (x2 : Int32) (P : PW G A s H locs S0 S) (hl : lv_has ls 3 [(0, .ref sa), (1, .int x1), (2, .int x2)]) (hcc : cells + 0 ≤ 0) (hss : slots + 0 ≤ 0) (hw : wJ0_indexOf_7cf53_0 Q QX S x1 x2) : W p l e rmJ0_indexOf_7cf53 s m args below meth c H locs cells slots (vx_MQ below (QI G S0 A Q) (XX G S0 A QX) args s 0 0 A) (F0 m 0 ls []) := by
  have hx := CF_x C
  have hb := CF_b C
  unfold wJ0_indexOf_7cf53_0 at hw
  refine lv_aload_n hx hb dJ0_indexOf_7cf53_0 rfl (lv_at hl 0 rfl) ?_
  refine cl_i C P (run_VJ C P hl.1 hs (met_J0_isLatin1_aae02 (CF_n C) G H.size _ _ S hw) q_518 q_519 q_520 q_16 q_521 cd_J0_isLatin1_aae02 ⟨(Nat.le_of_ble_eq_true rfl), (Nat.le_of_ble_eq_true rfl)⟩ rfl rfl (As := []) (rest := []) rfl rfl (Nat.le_of_ble_eq_true rfl) dJ0_indexOf_7cf53_1 ⟨by show cells + 0 ≤ 0; omega, by show slots + 0 ≤ 0; omega⟩) (kx_out C hex (fun _ _ _ h => h) (by omega) (by omega)) (fun r2 S1 H locs P hE hw => ?_)
  refine lv_if_eq (tgt := 23) hx hb dJ0_indexOf_7cf53_4 (by decide) (fun hc => ?_) (fun hc => ?_)
  · have hw := hw.1 hc
    refine lv_aload_n hx hb dJ0_indexOf_7cf53_23 rfl (lv_at hl 0 rfl) ?_
    refine vk_getf hx hb hs.2.2.1 P.2.2.1 (CF_o C) (CF_t C _ q_1776) (fun _ h => h) dJ0_indexOf_7cf53_24 ?_
    refine lv_iload_n hx hb dJ0_indexOf_7cf53_27 rfl (lv_at hl 1 rfl) ?_
    refine lv_iload_n hx hb dJ0_indexOf_7cf53_28 rfl (lv_at hl 2 rfl) ?_
    refine lv_aload_n hx hb dJ0_indexOf_7cf53_29 rfl (lv_at hl 0 rfl) ?_
    refine cl_i C P (run_VJ C P hl.1 hs (met_J0_length_8abf5 (CF_n C) G H.size _ _ S1 hw) q_524 q_525 q_526 q_16 q_527 cd_J0_length_8abf5 ⟨(Nat.le_of_ble_eq_true rfl), (Nat.le_of_ble_eq_true rfl)⟩ rfl rfl (As := []) (rest := [.int x2, .int x1, .ref sv]) rfl rfl (Nat.le_of_ble_eq_true rfl) dJ0_indexOf_7cf53_30 ⟨by show cells + 0 ≤ 0; omega, by show slots + 0 ≤ 0; omega⟩) (kx_out C hex (fun _ _ _ h => h) (by omega) (by omega)) (fun r4 S3 H locs P hE hw => ?_)
    exact hw.elim
  · have hw := hw.2 hc
    refine lv_aload_n hx hb dJ0_indexOf_7cf53_7 rfl (lv_at hl 0 rfl) ?_
    refine vk_getf hx hb hs.2.2.1 P.2.2.1 (CF_o C) (CF_t C _ q_1776) (fun _ h => h) dJ0_indexOf_7cf53_8 ?_
    refine lv_iload_n hx hb dJ0_indexOf_7cf53_11 rfl (lv_at hl 1 rfl) ?_
    refine lv_iload_n hx hb dJ0_indexOf_7cf53_12 rfl (lv_at hl 2 rfl) ?_
    refine lv_aload_n hx hb dJ0_indexOf_7cf53_13 rfl (lv_at hl 0 rfl) ?_
    refine cl_i C P (run_VJ C P hl.1 hs (met_J0_length_8abf5 (CF_n C) G H.size _ _ S1 hw) q_524 q_525 q_526 q_16 q_527 cd_J0_length_8abf5 ⟨(Nat.le_of_ble_eq_true rfl), (Nat.le_of_ble_eq_true rfl)⟩ rfl rfl (As := []) (rest := [.int x2, .int x1, .ref sv]) rfl rfl (Nat.le_of_ble_eq_true rfl) dJ0_indexOf_7cf53_14 ⟨by show cells + 0 ≤ 0; omega, by show slots + 0 ≤ 0; omega⟩) (kx_out C hex (fun _ _ _ h => h) (by omega) (by omega)) (fun r6 S5 H locs P hE hw => ?_)
    refine cl_i C P (run_SJ C P hl.1 hs (met_J1_indexOf_4cfef (CF_n C) G H.size _ _ S5 x1 x2 r6 hw) q_532 q_533 q_17 q_534 cd_J1_indexOf_4cfef.2 ⟨(Nat.le_of_ble_eq_true rfl), (Nat.le_of_ble_eq_true rfl)⟩ rfl rfl (As := [.ref sv, .int x1, .int x2, .int r6]) (rest := []) rfl rfl (Nat.le_of_ble_eq_true rfl) dJ0_indexOf_7cf53_17 ⟨by show cells + 0 ≤ 0; omega, by show slots + 0 ≤ 0; omega⟩) (kx_out C hex (fun _ _ _ h => h) (by omega) (by omega)) (fun r8 S7 H locs P hE hw => ?_)
    refine lv_goto (tgt := 36) hx hb dJ0_indexOf_7cf53_20 (by decide) ?_
    exact e_i C hr rfl P hw (by omega) (by omega) dJ0_indexOf_7cf53_36
def wp_J0_indexOf_7cf53 (Q : Int32 → MS → Prop) (QX : String → MS → Prop) (S : MS) (x1 : Int32) (x2 : Int32) : Prop := wJ0_indexOf_7cf53_0 Q QX S x1 x2
set_option maxHeartbeats 4000000 in
set_option maxRecDepth 100000 in
theorem met_J0_indexOf_7cf53 {l : Launch} {sa sv : Nat} (hst : l.stackTraces = false) (G : GP) (sz : Nat) (Q : Int32 → MS → Prop) (QX : String → MS → Prop) (S : MS) (x1 : Int32) (x2 : Int32) (hw : wp_J0_indexOf_7cf53 Q QX S x1 x2) : vx_Met l yJ0_indexOf_7cf53 (.code yJ0_indexOf_7cf53 cJ0_indexOf_7cf53 3 (some .int) :: GW) rmJ0_indexOf_7cf53 (va_Pc [.ref sa, .int x1, .int x2] (PRS G S sz sa sv)) (QI G S (FA G S sz) Q) (XX G S (FA G S sz) QX) 0 0 (FA G S sz) := by
  refine st_j (by decide +kernel) hst (fun p e s m below meth c C hr hex hs P => ?_)
  refine en_m (Nat.le_of_ble_eq_true rfl) (lv := [(0, .ref sa), (1, .int x1), (2, .int x2)]) rfl (fun ls hl => ?_)
  have C : CF p l s m _ meth c "java/lang/String" cJ0_indexOf_7cf53 3 G (FA G S sz) := C
  exact tJ0_indexOf_7cf53_0 C hr hex hs Q QX S x1 x2 P hl (by omega) (by omega) hw
theorem cd_J0_indexOf_7cf53 : yJ0_indexOf_7cf53.cls = RJ0 ∧ yJ0_indexOf_7cf53.cls ≠ "java/lang/invoke/MethodHandle" ∧ yJ0_indexOf_7cf53.cls ≠ "java/lang/invoke/VarHandle" ∧ (parseMethodDescriptor yJ0_indexOf_7cf53.desc).map (fun d => d.parameters.length) = some 2 := by decide +kernel
abbrev rmJ0_indexOf_0f7a4 : Room := { frames := 3, cells := 0, slots := 0, locals := 105 }
def wJ0_indexOf_0f7a4_0 (Q : Int32 → MS → Prop) (QX : String → MS → Prop) (S : MS) (x1 : Int32) : Prop := wp_J0_indexOf_7cf53 (fun r2 S1 => Q r2 S1) QX S x1 0
set_option maxHeartbeats 4000000 in
set_option maxRecDepth 100000 in
theorem tJ0_indexOf_0f7a4_0 {p : Program} {l : Launch} {e : Env} {s : State} {m : MethodId} {args : Array Value} {below : List Frame} {meth : Method} {c : Code} {H : Heap} {locs : List Loc} {cells slots : Nat} {G : GP} {A : Nat → Prop} {S0 : MS} {sa sv : Nat} {ls : Array Slot} (C : CF p l s m args meth c "java/lang/String" cJ0_indexOf_0f7a4 2 G A) (hr : meth.sig.returnType = (some .int)) (hex : ∀ x ∈ c.exceptionTable.toList, False) (hs : SL sa sv A s s.heap) (Q : Int32 → MS → Prop) (QX : String → MS → Prop) (S : MS) (x1 : Int32) (P : PW G A s H locs S0 S) (hl : lv_has ls 2 [(0, .ref sa), (1, .int x1)]) (hcc : cells + 0 ≤ 0) (hss : slots + 0 ≤ 0) (hw : wJ0_indexOf_0f7a4_0 Q QX S x1) : W p l e rmJ0_indexOf_0f7a4 s m args below meth c H locs cells slots (vx_MQ below (QI G S0 A Q) (XX G S0 A QX) args s 0 0 A) (F0 m 0 ls []) := by
  have hx := CF_x C
  have hb := CF_b C
  unfold wJ0_indexOf_0f7a4_0 at hw
  refine lv_aload_n hx hb dJ0_indexOf_0f7a4_0 rfl (lv_at hl 0 rfl) ?_
  refine lv_iload_n hx hb dJ0_indexOf_0f7a4_1 rfl (lv_at hl 1 rfl) ?_
  refine lv_iconst (v := 0) hx hb dJ0_indexOf_0f7a4_2 (by decide) ?_
  refine cl_i C P (run_VJ C P hl.1 hs (met_J0_indexOf_7cf53 (CF_n C) G H.size _ _ S x1 0 hw) q_514 q_515 q_516 q_16 q_517 cd_J0_indexOf_7cf53 ⟨(Nat.le_of_ble_eq_true rfl), (Nat.le_of_ble_eq_true rfl)⟩ rfl rfl (As := [.int x1, .int 0]) (rest := []) rfl rfl (Nat.le_of_ble_eq_true rfl) dJ0_indexOf_0f7a4_3 ⟨by show cells + 0 ≤ 0; omega, by show slots + 0 ≤ 0; omega⟩) (kx_out C hex (fun _ _ _ h => h) (by omega) (by omega)) (fun r2 S1 H locs P hE hw => ?_)
  exact e_i C hr rfl P hw (by omega) (by omega) dJ0_indexOf_0f7a4_6
def wp_J0_indexOf_0f7a4 (Q : Int32 → MS → Prop) (QX : String → MS → Prop) (S : MS) (x1 : Int32) : Prop := wJ0_indexOf_0f7a4_0 Q QX S x1
set_option maxHeartbeats 4000000 in
set_option maxRecDepth 100000 in
theorem met_J0_indexOf_0f7a4 {l : Launch} {sa sv : Nat} (hst : l.stackTraces = false) (G : GP) (sz : Nat) (Q : Int32 → MS → Prop) (QX : String → MS → Prop) (S : MS) (x1 : Int32) (hw : wp_J0_indexOf_0f7a4 Q QX S x1) : vx_Met l yJ0_indexOf_0f7a4 (.code yJ0_indexOf_0f7a4 cJ0_indexOf_0f7a4 2 (some .int) :: GW) rmJ0_indexOf_0f7a4 (va_Pc [.ref sa, .int x1] (PRS G S sz sa sv)) (QI G S (FA G S sz) Q) (XX G S (FA G S sz) QX) 0 0 (FA G S sz) := by
  refine st_j (by decide +kernel) hst (fun p e s m below meth c C hr hex hs P => ?_)
  refine en_m (Nat.le_of_ble_eq_true rfl) (lv := [(0, .ref sa), (1, .int x1)]) rfl (fun ls hl => ?_)
  have C : CF p l s m _ meth c "java/lang/String" cJ0_indexOf_0f7a4 2 G (FA G S sz) := C
  exact tJ0_indexOf_0f7a4_0 C hr hex hs Q QX S x1 P hl (by omega) (by omega) hw
theorem cd_J0_indexOf_0f7a4 : yJ0_indexOf_0f7a4.cls = RJ0 ∧ yJ0_indexOf_0f7a4.cls ≠ "java/lang/invoke/MethodHandle" ∧ yJ0_indexOf_0f7a4.cls ≠ "java/lang/invoke/VarHandle" ∧ (parseMethodDescriptor yJ0_indexOf_0f7a4.desc).map (fun d => d.parameters.length) = some 1 := by decide +kernel
abbrev rmJxf58ca_isNaN_12338 : Room := { frames := 0, cells := 0, slots := 0, locals := 0 }
def wJxf58ca_isNaN_12338_0 (Q : Int32 → MS → Prop) (QX : String → MS → Prop) (S : MS) (x1 : UInt32) : Prop := (((Op.cmpValue (FP.fcmp x1 x1) CmpOp.l) = 0 → Q 0 S) ∧ (¬ (Op.cmpValue (FP.fcmp x1 x1) CmpOp.l) = 0 → Q 1 S))
set_option maxHeartbeats 4000000 in
set_option maxRecDepth 100000 in
theorem tJxf58ca_isNaN_12338_0 {p : Program} {l : Launch} {e : Env} {s : State} {m : MethodId} {args : Array Value} {below : List Frame} {meth : Method} {c : Code} {H : Heap} {locs : List Loc} {cells slots : Nat} {G : GP} {A : Nat → Prop} {S0 : MS} {ls : Array Slot} (C : CF p l s m args meth c "java/lang/Float" cJxf58ca_isNaN_12338 1 G A) (hr : meth.sig.returnType = (some .boolean)) (hex : ∀ x ∈ c.exceptionTable.toList, False) (Q : Int32 → MS → Prop) (QX : String → MS → Prop) (S : MS) (x1 : UInt32) (P : PW G A s H locs S0 S) (hl : lv_has ls 1 [(0, .float x1)]) (hcc : cells + 0 ≤ 0) (hss : slots + 0 ≤ 0) (hw : wJxf58ca_isNaN_12338_0 Q QX S x1) : W p l e rmJxf58ca_isNaN_12338 s m args below meth c H locs cells slots (vx_MQ below (QI G S0 A Q) (XX G S0 A QX) args s 0 0 A) (F0 m 0 ls []) := by
  have hx := CF_x C
  have hb := CF_b C
  unfold wJxf58ca_isNaN_12338_0 at hw
  refine lv_fload_n hx hb dJxf58ca_isNaN_12338_0 rfl (lv_at hl 0 rfl) ?_
  refine lv_fload_n hx hb dJxf58ca_isNaN_12338_1 rfl (lv_at hl 0 rfl) ?_
  refine lv_fcmp hx hb dJxf58ca_isNaN_12338_2 ?_
  refine lv_if_eq (tgt := 10) hx hb dJxf58ca_isNaN_12338_3 (by decide) (fun hc => ?_) (fun hc => ?_)
  · have hw := hw.1 hc
    refine lv_iconst (v := 0) hx hb dJxf58ca_isNaN_12338_10 (by decide) ?_
    exact e_i C hr (by decide +kernel) P hw (by omega) (by omega) dJxf58ca_isNaN_12338_11
  · have hw := hw.2 hc
    refine lv_iconst (v := 1) hx hb dJxf58ca_isNaN_12338_6 (by decide) ?_
    refine lv_goto (tgt := 11) hx hb dJxf58ca_isNaN_12338_7 (by decide) ?_
    exact e_i C hr (by decide +kernel) P hw (by omega) (by omega) dJxf58ca_isNaN_12338_11
def wp_Jxf58ca_isNaN_12338 (Q : Int32 → MS → Prop) (QX : String → MS → Prop) (S : MS) (x1 : UInt32) : Prop := wJxf58ca_isNaN_12338_0 Q QX S x1
set_option maxHeartbeats 4000000 in
set_option maxRecDepth 100000 in
theorem met_Jxf58ca_isNaN_12338 {l : Launch} (hst : l.stackTraces = false) (G : GP) (sz : Nat) (Q : Int32 → MS → Prop) (QX : String → MS → Prop) (S : MS) (x1 : UInt32) (hw : wp_Jxf58ca_isNaN_12338 Q QX S x1) : vx_Met l yJxf58ca_isNaN_12338 (.code yJxf58ca_isNaN_12338 cJxf58ca_isNaN_12338 1 (some .boolean) :: GW) rmJxf58ca_isNaN_12338 (va_Pc [.float x1] (PR G S sz)) (QI G S (FA G S sz) Q) (XX G S (FA G S sz) QX) 0 0 (FA G S sz) := by
  refine st_f (by decide +kernel) hst (fun p e s m below meth c C hr hnm hex P => ?_)
  refine en_m (Nat.le_of_ble_eq_true rfl) (lv := [(0, .float x1)]) rfl (fun ls hl => ?_)
  have C : CF p l s m _ meth c "java/lang/Float" cJxf58ca_isNaN_12338 1 G (FA G S sz) := C
  exact tJxf58ca_isNaN_12338_0 C hr hex Q QX S x1 P hl (by omega) (by omega) hw
theorem cd_Jxf58ca_isNaN_12338 : yJxf58ca_isNaN_12338.cls = RJxf58ca ∧ yJxf58ca_isNaN_12338.cls ≠ "java/lang/invoke/MethodHandle" ∧ yJxf58ca_isNaN_12338.cls ≠ "java/lang/invoke/VarHandle" ∧ (parseMethodDescriptor yJxf58ca_isNaN_12338.desc).map (fun d => d.parameters.length) = some 1 := by decide +kernel
abbrev rmJxf58ca_floatToIntBits_5c35a : Room := { frames := 1, cells := 0, slots := 0, locals := 60 }
def wJxf58ca_floatToIntBits_5c35a_0 (Q : Int32 → MS → Prop) (QX : String → MS → Prop) (S : MS) (x1 : UInt32) : Prop := wp_Jxf58ca_isNaN_12338 (fun r2 S1 => ((¬ r2 = 0 → Q 2143289344 S1) ∧ (r2 = 0 → Q ((x1 : UInt32).toInt32) S1))) QX S x1
set_option maxHeartbeats 4000000 in
set_option maxRecDepth 100000 in
theorem tJxf58ca_floatToIntBits_5c35a_0 {p : Program} {l : Launch} {e : Env} {s : State} {m : MethodId} {args : Array Value} {below : List Frame} {meth : Method} {c : Code} {H : Heap} {locs : List Loc} {cells slots : Nat} {G : GP} {A : Nat → Prop} {S0 : MS} {ls : Array Slot} (C : CF p l s m args meth c "java/lang/Float" cJxf58ca_floatToIntBits_5c35a 1 G A) (hr : meth.sig.returnType = (some .int)) (hex : ∀ x ∈ c.exceptionTable.toList, False) (Q : Int32 → MS → Prop) (QX : String → MS → Prop) (S : MS) (x1 : UInt32) (P : PW G A s H locs S0 S) (hl : lv_has ls 1 [(0, .float x1)]) (hcc : cells + 0 ≤ 0) (hss : slots + 0 ≤ 0) (hw : wJxf58ca_floatToIntBits_5c35a_0 Q QX S x1) : W p l e rmJxf58ca_floatToIntBits_5c35a s m args below meth c H locs cells slots (vx_MQ below (QI G S0 A Q) (XX G S0 A QX) args s 0 0 A) (F0 m 0 ls []) := by
  have hx := CF_x C
  have hb := CF_b C
  unfold wJxf58ca_floatToIntBits_5c35a_0 at hw
  refine lv_fload_n hx hb dJxf58ca_floatToIntBits_5c35a_0 rfl (lv_at hl 0 rfl) ?_
  refine cl_i C P (run_S C P hl.1 (met_Jxf58ca_isNaN_12338 (CF_n C) G H.size _ _ S x1 hw) q_1737 q_1738 q_29 q_1739 cd_Jxf58ca_isNaN_12338.2 ⟨(Nat.le_of_ble_eq_true rfl), (Nat.le_of_ble_eq_true rfl)⟩ rfl rfl (As := [.float x1]) (rest := []) rfl rfl (Nat.le_of_ble_eq_true rfl) dJxf58ca_floatToIntBits_5c35a_1 ⟨by show cells + 0 ≤ 0; omega, by show slots + 0 ≤ 0; omega⟩) (kx_out C hex (fun _ _ _ h => h) (by omega) (by omega)) (fun r2 S1 H locs P hE hw => ?_)
  refine lv_if_ne (tgt := 12) hx hb dJxf58ca_floatToIntBits_5c35a_4 (by decide) (fun hc => ?_) (fun hc => ?_)
  · have hw := hw.1 hc
    refine lv_ldc (v := 2143289344) hx hb (CF_o C) (CF_t C _ q_1743) dJxf58ca_floatToIntBits_5c35a_12 ?_
    exact e_i C hr rfl P hw (by omega) (by omega) dJxf58ca_floatToIntBits_5c35a_14
  · have hw := hw.2 hc
    refine lv_fload_n hx hb dJxf58ca_floatToIntBits_5c35a_7 rfl (lv_at hl 0 rfl) ?_
    refine vn_f2i hx hb ((CF_m C).trans hl.1.symm) (CF_o C) (CF_t C _ q_1740) (CF_t C _ q_1742) (CF_t C _ q_1741) (CF_t C _ q_29) (Nat.le_of_ble_eq_true rfl) (Nat.le_of_ble_eq_true rfl) dJxf58ca_floatToIntBits_5c35a_8 ?_
    exact e_i C hr rfl P hw (by omega) (by omega) dJxf58ca_floatToIntBits_5c35a_11
def wp_Jxf58ca_floatToIntBits_5c35a (Q : Int32 → MS → Prop) (QX : String → MS → Prop) (S : MS) (x1 : UInt32) : Prop := wJxf58ca_floatToIntBits_5c35a_0 Q QX S x1
set_option maxHeartbeats 4000000 in
set_option maxRecDepth 100000 in
theorem met_Jxf58ca_floatToIntBits_5c35a {l : Launch} (hst : l.stackTraces = false) (G : GP) (sz : Nat) (Q : Int32 → MS → Prop) (QX : String → MS → Prop) (S : MS) (x1 : UInt32) (hw : wp_Jxf58ca_floatToIntBits_5c35a Q QX S x1) : vx_Met l yJxf58ca_floatToIntBits_5c35a (.code yJxf58ca_floatToIntBits_5c35a cJxf58ca_floatToIntBits_5c35a 1 (some .int) :: GW) rmJxf58ca_floatToIntBits_5c35a (va_Pc [.float x1] (PR G S sz)) (QI G S (FA G S sz) Q) (XX G S (FA G S sz) QX) 0 0 (FA G S sz) := by
  refine st_f (by decide +kernel) hst (fun p e s m below meth c C hr hnm hex P => ?_)
  refine en_m (Nat.le_of_ble_eq_true rfl) (lv := [(0, .float x1)]) rfl (fun ls hl => ?_)
  have C : CF p l s m _ meth c "java/lang/Float" cJxf58ca_floatToIntBits_5c35a 1 G (FA G S sz) := C
  exact tJxf58ca_floatToIntBits_5c35a_0 C hr hex Q QX S x1 P hl (by omega) (by omega) hw
theorem cd_Jxf58ca_floatToIntBits_5c35a : yJxf58ca_floatToIntBits_5c35a.cls = RJxf58ca ∧ yJxf58ca_floatToIntBits_5c35a.cls ≠ "java/lang/invoke/MethodHandle" ∧ yJxf58ca_floatToIntBits_5c35a.cls ≠ "java/lang/invoke/VarHandle" ∧ (parseMethodDescriptor yJxf58ca_floatToIntBits_5c35a.desc).map (fun d => d.parameters.length) = some 1 := by decide +kernel
