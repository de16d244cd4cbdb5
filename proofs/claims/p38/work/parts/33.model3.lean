theorem q_1650 : Cond.methodLink "SkirmishGridModel" 234 yX9_attacks ∈ GW := gw_t 1650 (by decide +kernel) (by decide +kernel)
theorem q_1652 : Cond.instanceMethod yX9_attacks ∈ GW := gw_t 1652 (by decide +kernel) (by decide +kernel)
theorem q_p67 : Cond.selects "SkirmishGridModel" yX9_attacks yX9_attacks ∈ GW := gw_p 67 (by decide +kernel) (by decide +kernel)
theorem q_1653 : Cond.code yX9_attacks cX9_attacks 5 (some .int) ∈ GW := gw_t 1653 (by decide +kernel) (by decide +kernel)
theorem q_1646 : Cond.methodLink "SkirmishGridModel" 246 yX9_isStopped ∈ GW := gw_t 1646 (by decide +kernel) (by decide +kernel)
theorem q_1648 : Cond.instanceMethod yX9_isStopped ∈ GW := gw_t 1648 (by decide +kernel) (by decide +kernel)
theorem q_p66 : Cond.selects "SkirmishGridModel" yX9_isStopped yX9_isStopped ∈ GW := gw_p 66 (by decide +kernel) (by decide +kernel)
theorem q_1649 : Cond.code yX9_isStopped cX9_isStopped 5 (some .boolean) ∈ GW := gw_t 1649 (by decide +kernel) (by decide +kernel)
theorem q_1666 : Cond.methodLink "SkirmishGridModel" 243 yX9_settles ∈ GW := gw_t 1666 (by decide +kernel) (by decide +kernel)
theorem q_1668 : Cond.instanceMethod yX9_settles ∈ GW := gw_t 1668 (by decide +kernel) (by decide +kernel)
theorem q_p71 : Cond.selects "SkirmishGridModel" yX9_settles yX9_settles ∈ GW := gw_p 71 (by decide +kernel) (by decide +kernel)
theorem q_1669 : Cond.code yX9_settles cX9_settles 1 none ∈ GW := gw_t 1669 (by decide +kernel) (by decide +kernel)
theorem q_1658 : Cond.methodLink "SkirmishGridModel" 240 yX9_ends ∈ GW := gw_t 1658 (by decide +kernel) (by decide +kernel)
theorem q_1660 : Cond.instanceMethod yX9_ends ∈ GW := gw_t 1660 (by decide +kernel) (by decide +kernel)
theorem q_p69 : Cond.selects "SkirmishGridModel" yX9_ends yX9_ends ∈ GW := gw_p 69 (by decide +kernel) (by decide +kernel)
theorem q_1661 : Cond.code yX9_ends cX9_ends 2 (some .int) ∈ GW := gw_t 1661 (by decide +kernel) (by decide +kernel)
theorem q_1642 : Cond.methodLink "SkirmishGridModel" 231 yX9_moves ∈ GW := gw_t 1642 (by decide +kernel) (by decide +kernel)
theorem q_1644 : Cond.instanceMethod yX9_moves ∈ GW := gw_t 1644 (by decide +kernel) (by decide +kernel)
theorem q_p65 : Cond.selects "SkirmishGridModel" yX9_moves yX9_moves ∈ GW := gw_p 65 (by decide +kernel) (by decide +kernel)
theorem q_1645 : Cond.code yX9_moves cX9_moves 5 (some .int) ∈ GW := gw_t 1645 (by decide +kernel) (by decide +kernel)
theorem q_1654 : Cond.methodLink "SkirmishGridModel" 237 yX9_throwsAt ∈ GW := gw_t 1654 (by decide +kernel) (by decide +kernel)
theorem q_1656 : Cond.instanceMethod yX9_throwsAt ∈ GW := gw_t 1656 (by decide +kernel) (by decide +kernel)
theorem q_p68 : Cond.selects "SkirmishGridModel" yX9_throwsAt yX9_throwsAt ∈ GW := gw_p 68 (by decide +kernel) (by decide +kernel)
theorem q_1657 : Cond.code yX9_throwsAt cX9_throwsAt 5 (some .int) ∈ GW := gw_t 1657 (by decide +kernel) (by decide +kernel)
theorem q_1634 : Cond.methodLink "SkirmishGridModel" 225 yX9_keeps ∈ GW := gw_t 1634 (by decide +kernel) (by decide +kernel)
theorem q_1636 : Cond.instanceMethod yX9_keeps ∈ GW := gw_t 1636 (by decide +kernel) (by decide +kernel)
theorem q_p63 : Cond.selects "SkirmishGridModel" yX9_keeps yX9_keeps ∈ GW := gw_p 63 (by decide +kernel) (by decide +kernel)
theorem q_1637 : Cond.code yX9_keeps cX9_keeps 2 none ∈ GW := gw_t 1637 (by decide +kernel) (by decide +kernel)
theorem q_1638 : Cond.methodLink "SkirmishGridModel" 228 yX9_does ∈ GW := gw_t 1638 (by decide +kernel) (by decide +kernel)
theorem q_1640 : Cond.instanceMethod yX9_does ∈ GW := gw_t 1640 (by decide +kernel) (by decide +kernel)
theorem q_p64 : Cond.selects "SkirmishGridModel" yX9_does yX9_does ∈ GW := gw_p 64 (by decide +kernel) (by decide +kernel)
theorem q_1641 : Cond.code yX9_does cX9_does 6 (some .int) ∈ GW := gw_t 1641 (by decide +kernel) (by decide +kernel)
theorem q_1630 : Cond.methodLink "SkirmishGridModel" 249 yX9_carries ∈ GW := gw_t 1630 (by decide +kernel) (by decide +kernel)
theorem q_1632 : Cond.instanceMethod yX9_carries ∈ GW := gw_t 1632 (by decide +kernel) (by decide +kernel)
theorem q_p62 : Cond.selects "SkirmishGridModel" yX9_carries yX9_carries ∈ GW := gw_p 62 (by decide +kernel) (by decide +kernel)
theorem q_1633 : Cond.code yX9_carries cX9_carries 5 (some .int) ∈ GW := gw_t 1633 (by decide +kernel) (by decide +kernel)
theorem q_1682 : Cond.methodLink "SkirmishGridModel" 252 yX9_may ∈ GW := gw_t 1682 (by decide +kernel) (by decide +kernel)
theorem q_1684 : Cond.instanceMethod yX9_may ∈ GW := gw_t 1684 (by decide +kernel) (by decide +kernel)
theorem q_p72 : Cond.selects "SkirmishGridModel" yX9_may yX9_may ∈ GW := gw_p 72 (by decide +kernel) (by decide +kernel)
theorem q_1685 : Cond.code yX9_may cX9_may 2 (some .boolean) ∈ GW := gw_t 1685 (by decide +kernel) (by decide +kernel)
theorem q_1323 : Cond.fieldLink "SkirmishGridModel" 255 "SkirmishGridModel" "done" "I" ∈ GW := gw_t 1323 (by decide +kernel) (by decide +kernel)
theorem dX9_bestTarget_0 : decode cX9_bestTarget 0 = .ok (.aload_n 0, 1) := by decide +kernel
theorem dX9_bestTarget_1 : decode cX9_bestTarget 1 = .ok (.aload_n 0, 1) := by decide +kernel
theorem dX9_bestTarget_2 : decode cX9_bestTarget 2 = .ok (.invokevirtual 137, 3) := by decide +kernel
theorem dX9_bestTarget_5 : decode cX9_bestTarget 5 = .ok (.iconst 1, 1) := by decide +kernel
theorem dX9_bestTarget_6 : decode cX9_bestTarget 6 = .ok (.if_icmp .eq 7, 3) := by decide +kernel
theorem dX9_bestTarget_9 : decode cX9_bestTarget 9 = .ok (.iconst 1, 1) := by decide +kernel
theorem dX9_bestTarget_10 : decode cX9_bestTarget 10 = .ok (.goto 4, 3) := by decide +kernel
theorem dX9_bestTarget_13 : decode cX9_bestTarget 13 = .ok (.iconst 0, 1) := by decide +kernel
theorem dX9_bestTarget_14 : decode cX9_bestTarget 14 = .ok (.putfield 57, 3) := by decide +kernel
theorem dX9_bestTarget_17 : decode cX9_bestTarget 17 = .ok (.aload_n 0, 1) := by decide +kernel
theorem dX9_bestTarget_18 : decode cX9_bestTarget 18 = .ok (.getfield 57, 3) := by decide +kernel
theorem dX9_bestTarget_21 : decode cX9_bestTarget 21 = .ok (.iconst 1, 1) := by decide +kernel
theorem dX9_bestTarget_22 : decode cX9_bestTarget 22 = .ok (.if_icmp .ne 5, 3) := by decide +kernel
theorem dX9_bestTarget_25 : decode cX9_bestTarget 25 = .ok (.iconst 0, 1) := by decide +kernel
theorem dX9_bestTarget_26 : decode cX9_bestTarget 26 = .ok (.ireturn, 1) := by decide +kernel
theorem dX9_bestTarget_27 : decode cX9_bestTarget 27 = .ok (.iconst (-1), 1) := by decide +kernel
theorem dX9_bestTarget_28 : decode cX9_bestTarget 28 = .ok (.istore_n 1, 1) := by decide +kernel
theorem dX9_bestTarget_29 : decode cX9_bestTarget 29 = .ok (.aload_n 0, 1) := by decide +kernel
theorem dX9_bestTarget_30 : decode cX9_bestTarget 30 = .ok (.getfield 9, 3) := by decide +kernel
theorem dX9_bestTarget_33 : decode cX9_bestTarget 33 = .ok (.sipush 166, 3) := by decide +kernel
theorem dX9_bestTarget_36 : decode cX9_bestTarget 36 = .ok (.iaload, 1) := by decide +kernel
theorem dX9_bestTarget_37 : decode cX9_bestTarget 37 = .ok (.istore_n 2, 1) := by decide +kernel
theorem dX9_bestTarget_38 : decode cX9_bestTarget 38 = .ok (.iconst 0, 1) := by decide +kernel
theorem dX9_bestTarget_39 : decode cX9_bestTarget 39 = .ok (.istore_n 3, 1) := by decide +kernel
theorem dX9_bestTarget_40 : decode cX9_bestTarget 40 = .ok (.iload_n 3, 1) := by decide +kernel
theorem dX9_bestTarget_41 : decode cX9_bestTarget 41 = .ok (.aload_n 0, 1) := by decide +kernel
theorem dX9_bestTarget_42 : decode cX9_bestTarget 42 = .ok (.getfield 9, 3) := by decide +kernel
theorem dX9_bestTarget_45 : decode cX9_bestTarget 45 = .ok (.bipush 66, 2) := by decide +kernel
theorem dX9_bestTarget_47 : decode cX9_bestTarget 47 = .ok (.iaload, 1) := by decide +kernel
theorem dX9_bestTarget_48 : decode cX9_bestTarget 48 = .ok (.if_icmp .ge 71, 3) := by decide +kernel
theorem dX9_bestTarget_51 : decode cX9_bestTarget 51 = .ok (.aload_n 0, 1) := by decide +kernel
theorem dX9_bestTarget_52 : decode cX9_bestTarget 52 = .ok (.iload_n 2, 1) := by decide +kernel
theorem dX9_bestTarget_53 : decode cX9_bestTarget 53 = .ok (.iload_n 3, 1) := by decide +kernel
theorem dX9_bestTarget_54 : decode cX9_bestTarget 54 = .ok (.invokevirtual 212, 3) := by decide +kernel
theorem dX9_bestTarget_57 : decode cX9_bestTarget 57 = .ok (.ifCond .ne 6, 3) := by decide +kernel
theorem dX9_bestTarget_60 : decode cX9_bestTarget 60 = .ok (.goto 53, 3) := by decide +kernel
theorem dX9_bestTarget_63 : decode cX9_bestTarget 63 = .ok (.iload_n 1, 1) := by decide +kernel
theorem dX9_bestTarget_64 : decode cX9_bestTarget 64 = .ok (.ifCond .ge 7, 3) := by decide +kernel
theorem dX9_bestTarget_67 : decode cX9_bestTarget 67 = .ok (.iconst 1, 1) := by decide +kernel
theorem dX9_bestTarget_68 : decode cX9_bestTarget 68 = .ok (.goto 16, 3) := by decide +kernel
theorem dX9_bestTarget_71 : decode cX9_bestTarget 71 = .ok (.aload_n 0, 1) := by decide +kernel
theorem dX9_bestTarget_72 : decode cX9_bestTarget 72 = .ok (.iload_n 2, 1) := by decide +kernel
theorem dX9_bestTarget_73 : decode cX9_bestTarget 73 = .ok (.iload_n 3, 1) := by decide +kernel
theorem dX9_bestTarget_74 : decode cX9_bestTarget 74 = .ok (.invokevirtual 220, 3) := by decide +kernel
theorem dX9_bestTarget_77 : decode cX9_bestTarget 77 = .ok (.aload_n 0, 1) := by decide +kernel
theorem dX9_bestTarget_78 : decode cX9_bestTarget 78 = .ok (.iload_n 2, 1) := by decide +kernel
theorem dX9_bestTarget_79 : decode cX9_bestTarget 79 = .ok (.iload_n 1, 1) := by decide +kernel
theorem dX9_bestTarget_80 : decode cX9_bestTarget 80 = .ok (.invokevirtual 220, 3) := by decide +kernel
theorem dX9_bestTarget_83 : decode cX9_bestTarget 83 = .ok (.isub, 1) := by decide +kernel
theorem dX9_bestTarget_84 : decode cX9_bestTarget 84 = .ok (.istore 4, 2) := by decide +kernel
theorem dX9_bestTarget_86 : decode cX9_bestTarget 86 = .ok (.iload 4, 2) := by decide +kernel
theorem dX9_bestTarget_88 : decode cX9_bestTarget 88 = .ok (.ifCond .gt 23, 3) := by decide +kernel
theorem dX9_bestTarget_91 : decode cX9_bestTarget 91 = .ok (.iload 4, 2) := by decide +kernel
theorem dX9_bestTarget_93 : decode cX9_bestTarget 93 = .ok (.ifCond .ne 20, 3) := by decide +kernel
theorem dX9_bestTarget_96 : decode cX9_bestTarget 96 = .ok (.aload_n 0, 1) := by decide +kernel
theorem dX9_bestTarget_97 : decode cX9_bestTarget 97 = .ok (.iload_n 3, 1) := by decide +kernel
theorem dX9_bestTarget_98 : decode cX9_bestTarget 98 = .ok (.iconst 3, 1) := by decide +kernel
theorem dX9_bestTarget_99 : decode cX9_bestTarget 99 = .ok (.invokevirtual 60, 3) := by decide +kernel
theorem dX9_bestTarget_102 : decode cX9_bestTarget 102 = .ok (.aload_n 0, 1) := by decide +kernel
theorem dX9_bestTarget_103 : decode cX9_bestTarget 103 = .ok (.iload_n 1, 1) := by decide +kernel
theorem dX9_bestTarget_104 : decode cX9_bestTarget 104 = .ok (.iconst 3, 1) := by decide +kernel
theorem dX9_bestTarget_105 : decode cX9_bestTarget 105 = .ok (.invokevirtual 60, 3) := by decide +kernel
theorem dX9_bestTarget_108 : decode cX9_bestTarget 108 = .ok (.if_icmp .ge 5, 3) := by decide +kernel
theorem dX9_bestTarget_111 : decode cX9_bestTarget 111 = .ok (.iload_n 3, 1) := by decide +kernel
theorem dX9_bestTarget_112 : decode cX9_bestTarget 112 = .ok (.istore_n 1, 1) := by decide +kernel
theorem dX9_bestTarget_113 : decode cX9_bestTarget 113 = .ok (.iinc 3 1, 3) := by decide +kernel
theorem dX9_bestTarget_116 : decode cX9_bestTarget 116 = .ok (.goto (-76), 3) := by decide +kernel
theorem dX9_bestTarget_119 : decode cX9_bestTarget 119 = .ok (.iload_n 1, 1) := by decide +kernel
theorem dX9_bestTarget_120 : decode cX9_bestTarget 120 = .ok (.ifCond .ge 11, 3) := by decide +kernel
theorem dX9_bestTarget_123 : decode cX9_bestTarget 123 = .ok (.aload_n 0, 1) := by decide +kernel
theorem dX9_bestTarget_124 : decode cX9_bestTarget 124 = .ok (.iconst 2, 1) := by decide +kernel
theorem dX9_bestTarget_125 : decode cX9_bestTarget 125 = .ok (.invokevirtual 78, 3) := by decide +kernel
theorem dX9_bestTarget_128 : decode cX9_bestTarget 128 = .ok (.goto 4, 3) := by decide +kernel
theorem dX9_bestTarget_131 : decode cX9_bestTarget 131 = .ok (.iload_n 1, 1) := by decide +kernel
theorem dX9_bestTarget_132 : decode cX9_bestTarget 132 = .ok (.ireturn, 1) := by decide +kernel
theorem dX9_keeps_0 : decode cX9_keeps 0 = .ok (.aload_n 0, 1) := by decide +kernel
theorem dX9_keeps_1 : decode cX9_keeps 1 = .ok (.getfield 97, 3) := by decide +kernel
theorem dX9_keeps_4 : decode cX9_keeps 4 = .ok (.bipush 8, 2) := by decide +kernel
theorem dX9_keeps_6 : decode cX9_keeps 6 = .ok (.if_icmp .ne 44, 3) := by decide +kernel
theorem dX9_keeps_9 : decode cX9_keeps 9 = .ok (.iconst 0, 1) := by decide +kernel
theorem dX9_keeps_10 : decode cX9_keeps 10 = .ok (.istore_n 1, 1) := by decide +kernel
theorem dX9_keeps_11 : decode cX9_keeps 11 = .ok (.iload_n 1, 1) := by decide +kernel
theorem dX9_keeps_12 : decode cX9_keeps 12 = .ok (.sipush 2030, 3) := by decide +kernel
theorem dX9_keeps_15 : decode cX9_keeps 15 = .ok (.if_icmp .ge 25, 3) := by decide +kernel
theorem dX9_keeps_18 : decode cX9_keeps 18 = .ok (.aload_n 0, 1) := by decide +kernel
theorem dX9_keeps_19 : decode cX9_keeps 19 = .ok (.getfield 25, 3) := by decide +kernel
theorem dX9_keeps_22 : decode cX9_keeps 22 = .ok (.iload_n 1, 1) := by decide +kernel
theorem dX9_keeps_23 : decode cX9_keeps 23 = .ok (.aload_n 0, 1) := by decide +kernel
theorem dX9_keeps_24 : decode cX9_keeps 24 = .ok (.getfield 25, 3) := by decide +kernel
theorem dX9_keeps_27 : decode cX9_keeps 27 = .ok (.iload_n 1, 1) := by decide +kernel
theorem dX9_keeps_28 : decode cX9_keeps 28 = .ok (.sipush 290, 3) := by decide +kernel
theorem dX9_keeps_31 : decode cX9_keeps 31 = .ok (.iadd, 1) := by decide +kernel
theorem dX9_keeps_32 : decode cX9_keeps 32 = .ok (.iaload, 1) := by decide +kernel
theorem dX9_keeps_33 : decode cX9_keeps 33 = .ok (.iastore, 1) := by decide +kernel
theorem dX9_keeps_34 : decode cX9_keeps 34 = .ok (.iinc 1 1, 3) := by decide +kernel
theorem dX9_keeps_37 : decode cX9_keeps 37 = .ok (.goto (-26), 3) := by decide +kernel
theorem dX9_keeps_40 : decode cX9_keeps 40 = .ok (.aload_n 0, 1) := by decide +kernel
theorem dX9_keeps_41 : decode cX9_keeps 41 = .ok (.dup, 1) := by decide +kernel
theorem dX9_keeps_42 : decode cX9_keeps 42 = .ok (.getfield 97, 3) := by decide +kernel
theorem dX9_keeps_45 : decode cX9_keeps 45 = .ok (.iconst 1, 1) := by decide +kernel
theorem dX9_keeps_46 : decode cX9_keeps 46 = .ok (.isub, 1) := by decide +kernel
theorem dX9_keeps_47 : decode cX9_keeps 47 = .ok (.putfield 97, 3) := by decide +kernel
theorem dX9_keeps_50 : decode cX9_keeps 50 = .ok (.iconst 0, 1) := by decide +kernel
theorem dX9_keeps_51 : decode cX9_keeps 51 = .ok (.istore_n 1, 1) := by decide +kernel
theorem dX9_keeps_52 : decode cX9_keeps 52 = .ok (.iload_n 1, 1) := by decide +kernel
theorem dX9_keeps_53 : decode cX9_keeps 53 = .ok (.sipush 290, 3) := by decide +kernel
theorem dX9_keeps_56 : decode cX9_keeps 56 = .ok (.if_icmp .ge 30, 3) := by decide +kernel
theorem dX9_keeps_59 : decode cX9_keeps 59 = .ok (.aload_n 0, 1) := by decide +kernel
theorem dX9_keeps_60 : decode cX9_keeps 60 = .ok (.getfield 25, 3) := by decide +kernel
theorem dX9_keeps_63 : decode cX9_keeps 63 = .ok (.aload_n 0, 1) := by decide +kernel
theorem dX9_keeps_64 : decode cX9_keeps 64 = .ok (.getfield 97, 3) := by decide +kernel
theorem dX9_keeps_67 : decode cX9_keeps 67 = .ok (.sipush 290, 3) := by decide +kernel
theorem dX9_keeps_70 : decode cX9_keeps 70 = .ok (.imul, 1) := by decide +kernel
theorem dX9_keeps_71 : decode cX9_keeps 71 = .ok (.iload_n 1, 1) := by decide +kernel
theorem dX9_keeps_72 : decode cX9_keeps 72 = .ok (.iadd, 1) := by decide +kernel
theorem dX9_keeps_73 : decode cX9_keeps 73 = .ok (.aload_n 0, 1) := by decide +kernel
theorem dX9_keeps_74 : decode cX9_keeps 74 = .ok (.getfield 9, 3) := by decide +kernel
theorem dX9_keeps_77 : decode cX9_keeps 77 = .ok (.iload_n 1, 1) := by decide +kernel
theorem dX9_keeps_78 : decode cX9_keeps 78 = .ok (.iaload, 1) := by decide +kernel
theorem dX9_keeps_79 : decode cX9_keeps 79 = .ok (.iastore, 1) := by decide +kernel
theorem dX9_keeps_80 : decode cX9_keeps 80 = .ok (.iinc 1 1, 3) := by decide +kernel
theorem dX9_keeps_83 : decode cX9_keeps 83 = .ok (.goto (-31), 3) := by decide +kernel
theorem dX9_keeps_86 : decode cX9_keeps 86 = .ok (.aload_n 0, 1) := by decide +kernel
theorem dX9_keeps_87 : decode cX9_keeps 87 = .ok (.dup, 1) := by decide +kernel
theorem dX9_keeps_88 : decode cX9_keeps 88 = .ok (.getfield 97, 3) := by decide +kernel
theorem dX9_keeps_91 : decode cX9_keeps 91 = .ok (.iconst 1, 1) := by decide +kernel
theorem dX9_keeps_92 : decode cX9_keeps 92 = .ok (.iadd, 1) := by decide +kernel
theorem dX9_keeps_93 : decode cX9_keeps 93 = .ok (.putfield 97, 3) := by decide +kernel
theorem dX9_keeps_96 : decode cX9_keeps 96 = .ok (.return_, 1) := by decide +kernel
theorem dX9_ends_0 : decode cX9_ends 0 = .ok (.aload_n 0, 1) := by decide +kernel
theorem dX9_ends_1 : decode cX9_ends 1 = .ok (.iload_n 1, 1) := by decide +kernel
theorem dX9_ends_2 : decode cX9_ends 2 = .ok (.bipush 7, 2) := by decide +kernel
theorem dX9_ends_4 : decode cX9_ends 4 = .ok (.invokevirtual 60, 3) := by decide +kernel
theorem dX9_ends_7 : decode cX9_ends 7 = .ok (.ifCond .le 19, 3) := by decide +kernel
theorem dX9_ends_10 : decode cX9_ends 10 = .ok (.aload_n 0, 1) := by decide +kernel
theorem dX9_ends_11 : decode cX9_ends 11 = .ok (.iload_n 1, 1) := by decide +kernel
theorem dX9_ends_12 : decode cX9_ends 12 = .ok (.bipush 7, 2) := by decide +kernel
theorem dX9_ends_14 : decode cX9_ends 14 = .ok (.aload_n 0, 1) := by decide +kernel
theorem dX9_ends_15 : decode cX9_ends 15 = .ok (.iload_n 1, 1) := by decide +kernel
theorem dX9_ends_16 : decode cX9_ends 16 = .ok (.bipush 7, 2) := by decide +kernel
theorem dX9_ends_18 : decode cX9_ends 18 = .ok (.invokevirtual 60, 3) := by decide +kernel
theorem dX9_ends_21 : decode cX9_ends 21 = .ok (.iconst 1, 1) := by decide +kernel
theorem dX9_ends_22 : decode cX9_ends 22 = .ok (.isub, 1) := by decide +kernel
theorem dX9_ends_23 : decode cX9_ends 23 = .ok (.invokevirtual 127, 3) := by decide +kernel
theorem dX9_ends_26 : decode cX9_ends 26 = .ok (.aload_n 0, 1) := by decide +kernel
theorem dX9_ends_27 : decode cX9_ends 27 = .ok (.iload_n 1, 1) := by decide +kernel
theorem dX9_ends_28 : decode cX9_ends 28 = .ok (.bipush 8, 2) := by decide +kernel
theorem dX9_ends_30 : decode cX9_ends 30 = .ok (.invokevirtual 60, 3) := by decide +kernel
theorem dX9_ends_33 : decode cX9_ends 33 = .ok (.ifCond .le 19, 3) := by decide +kernel
theorem dX9_ends_36 : decode cX9_ends 36 = .ok (.aload_n 0, 1) := by decide +kernel
theorem dX9_ends_37 : decode cX9_ends 37 = .ok (.iload_n 1, 1) := by decide +kernel
theorem dX9_ends_38 : decode cX9_ends 38 = .ok (.bipush 8, 2) := by decide +kernel
theorem dX9_ends_40 : decode cX9_ends 40 = .ok (.aload_n 0, 1) := by decide +kernel
theorem dX9_ends_41 : decode cX9_ends 41 = .ok (.iload_n 1, 1) := by decide +kernel
theorem dX9_ends_42 : decode cX9_ends 42 = .ok (.bipush 8, 2) := by decide +kernel
theorem dX9_ends_44 : decode cX9_ends 44 = .ok (.invokevirtual 60, 3) := by decide +kernel
theorem dX9_ends_47 : decode cX9_ends 47 = .ok (.iconst 1, 1) := by decide +kernel
theorem dX9_ends_48 : decode cX9_ends 48 = .ok (.isub, 1) := by decide +kernel
theorem dX9_ends_49 : decode cX9_ends 49 = .ok (.invokevirtual 127, 3) := by decide +kernel
theorem dX9_ends_52 : decode cX9_ends 52 = .ok (.aload_n 0, 1) := by decide +kernel
theorem dX9_ends_53 : decode cX9_ends 53 = .ok (.aload_n 0, 1) := by decide +kernel
theorem dX9_ends_54 : decode cX9_ends 54 = .ok (.invokevirtual 167, 3) := by decide +kernel
theorem dX9_ends_57 : decode cX9_ends 57 = .ok (.invokevirtual 170, 3) := by decide +kernel
theorem dX9_ends_60 : decode cX9_ends 60 = .ok (.aload_n 0, 1) := by decide +kernel
theorem dX9_ends_61 : decode cX9_ends 61 = .ok (.getfield 9, 3) := by decide +kernel
theorem dX9_ends_64 : decode cX9_ends 64 = .ok (.sipush 166, 3) := by decide +kernel
theorem dX9_ends_67 : decode cX9_ends 67 = .ok (.iaload, 1) := by decide +kernel
theorem dX9_ends_68 : decode cX9_ends 68 = .ok (.ireturn, 1) := by decide +kernel
theorem dX9_isStopped_0 : decode cX9_isStopped 0 = .ok (.iconst 0, 1) := by decide +kernel
theorem dX9_isStopped_1 : decode cX9_isStopped 1 = .ok (.istore_n 3, 1) := by decide +kernel
theorem dX9_isStopped_2 : decode cX9_isStopped 2 = .ok (.iload_n 3, 1) := by decide +kernel
theorem dX9_isStopped_3 : decode cX9_isStopped 3 = .ok (.aload_n 0, 1) := by decide +kernel
theorem dX9_isStopped_4 : decode cX9_isStopped 4 = .ok (.getfield 9, 3) := by decide +kernel
theorem dX9_isStopped_7 : decode cX9_isStopped 7 = .ok (.bipush 66, 2) := by decide +kernel
theorem dX9_isStopped_9 : decode cX9_isStopped 9 = .ok (.iaload, 1) := by decide +kernel
theorem dX9_isStopped_10 : decode cX9_isStopped 10 = .ok (.if_icmp .ge 80, 3) := by decide +kernel
theorem dX9_isStopped_13 : decode cX9_isStopped 13 = .ok (.aload_n 0, 1) := by decide +kernel
theorem dX9_isStopped_14 : decode cX9_isStopped 14 = .ok (.iload_n 3, 1) := by decide +kernel
theorem dX9_isStopped_15 : decode cX9_isStopped 15 = .ok (.bipush 10, 2) := by decide +kernel
theorem dX9_isStopped_17 : decode cX9_isStopped 17 = .ok (.invokevirtual 60, 3) := by decide +kernel
theorem dX9_isStopped_20 : decode cX9_isStopped 20 = .ok (.iconst 1, 1) := by decide +kernel
theorem dX9_isStopped_21 : decode cX9_isStopped 21 = .ok (.if_icmp .ne 25, 3) := by decide +kernel
theorem dX9_isStopped_24 : decode cX9_isStopped 24 = .ok (.aload_n 0, 1) := by decide +kernel
theorem dX9_isStopped_25 : decode cX9_isStopped 25 = .ok (.iload_n 3, 1) := by decide +kernel
theorem dX9_isStopped_26 : decode cX9_isStopped 26 = .ok (.iconst 4, 1) := by decide +kernel
theorem dX9_isStopped_27 : decode cX9_isStopped 27 = .ok (.invokevirtual 60, 3) := by decide +kernel
theorem dX9_isStopped_30 : decode cX9_isStopped 30 = .ok (.ifCond .le 16, 3) := by decide +kernel
theorem dX9_isStopped_33 : decode cX9_isStopped 33 = .ok (.aload_n 0, 1) := by decide +kernel
theorem dX9_isStopped_34 : decode cX9_isStopped 34 = .ok (.iload_n 3, 1) := by decide +kernel
theorem dX9_isStopped_35 : decode cX9_isStopped 35 = .ok (.iload_n 1, 1) := by decide +kernel
theorem dX9_isStopped_36 : decode cX9_isStopped 36 = .ok (.invokevirtual 212, 3) := by decide +kernel
theorem dX9_isStopped_39 : decode cX9_isStopped 39 = .ok (.ifCond .eq 7, 3) := by decide +kernel
theorem dX9_isStopped_42 : decode cX9_isStopped 42 = .ok (.iconst 1, 1) := by decide +kernel
theorem dX9_isStopped_43 : decode cX9_isStopped 43 = .ok (.goto 4, 3) := by decide +kernel
theorem dX9_isStopped_46 : decode cX9_isStopped 46 = .ok (.iconst 0, 1) := by decide +kernel
theorem dX9_isStopped_47 : decode cX9_isStopped 47 = .ok (.istore 4, 2) := by decide +kernel
theorem dX9_isStopped_49 : decode cX9_isStopped 49 = .ok (.iload 4, 2) := by decide +kernel
theorem dX9_isStopped_51 : decode cX9_isStopped 51 = .ok (.ifCond .ne 6, 3) := by decide +kernel
theorem dX9_isStopped_54 : decode cX9_isStopped 54 = .ok (.goto 30, 3) := by decide +kernel
theorem dX9_isStopped_57 : decode cX9_isStopped 57 = .ok (.aload_n 0, 1) := by decide +kernel
theorem dX9_isStopped_58 : decode cX9_isStopped 58 = .ok (.iload_n 3, 1) := by decide +kernel
theorem dX9_isStopped_59 : decode cX9_isStopped 59 = .ok (.bipush 10, 2) := by decide +kernel
theorem dX9_isStopped_61 : decode cX9_isStopped 61 = .ok (.iconst 0, 1) := by decide +kernel
theorem dX9_isStopped_62 : decode cX9_isStopped 62 = .ok (.invokevirtual 127, 3) := by decide +kernel
theorem dX9_isStopped_65 : decode cX9_isStopped 65 = .ok (.aload_n 0, 1) := by decide +kernel
theorem dX9_isStopped_66 : decode cX9_isStopped 66 = .ok (.bipush 7, 2) := by decide +kernel
theorem dX9_isStopped_68 : decode cX9_isStopped 68 = .ok (.iload_n 3, 1) := by decide +kernel
theorem dX9_isStopped_69 : decode cX9_isStopped 69 = .ok (.iload_n 1, 1) := by decide +kernel
theorem dX9_isStopped_70 : decode cX9_isStopped 70 = .ok (.invokevirtual 141, 3) := by decide +kernel
theorem dX9_isStopped_73 : decode cX9_isStopped 73 = .ok (.aload_n 0, 1) := by decide +kernel
theorem dX9_isStopped_74 : decode cX9_isStopped 74 = .ok (.iload_n 3, 1) := by decide +kernel
theorem dX9_isStopped_75 : decode cX9_isStopped 75 = .ok (.iload_n 1, 1) := by decide +kernel
theorem dX9_isStopped_76 : decode cX9_isStopped 76 = .ok (.invokevirtual 234, 3) := by decide +kernel
theorem dX9_isStopped_79 : decode cX9_isStopped 79 = .ok (.ifCond .le 5, 3) := by decide +kernel
theorem dX9_isStopped_82 : decode cX9_isStopped 82 = .ok (.iconst 1, 1) := by decide +kernel
theorem dX9_isStopped_83 : decode cX9_isStopped 83 = .ok (.ireturn, 1) := by decide +kernel
theorem dX9_isStopped_84 : decode cX9_isStopped 84 = .ok (.iinc 3 1, 3) := by decide +kernel
theorem dX9_isStopped_87 : decode cX9_isStopped 87 = .ok (.goto (-85), 3) := by decide +kernel
theorem dX9_isStopped_90 : decode cX9_isStopped 90 = .ok (.iconst 0, 1) := by decide +kernel
theorem dX9_isStopped_91 : decode cX9_isStopped 91 = .ok (.ireturn, 1) := by decide +kernel
theorem dX9_moves_0 : decode cX9_moves 0 = .ok (.aload_n 0, 1) := by decide +kernel
theorem dX9_moves_1 : decode cX9_moves 1 = .ok (.iload_n 2, 1) := by decide +kernel
theorem dX9_moves_2 : decode cX9_moves 2 = .ok (.invokevirtual 189, 3) := by decide +kernel
theorem dX9_moves_5 : decode cX9_moves 5 = .ok (.aload_n 0, 1) := by decide +kernel
theorem dX9_moves_6 : decode cX9_moves 6 = .ok (.iload_n 1, 1) := by decide +kernel
theorem dX9_moves_7 : decode cX9_moves 7 = .ok (.iconst 2, 1) := by decide +kernel
theorem dX9_moves_8 : decode cX9_moves 8 = .ok (.invokevirtual 60, 3) := by decide +kernel
theorem dX9_moves_11 : decode cX9_moves 11 = .ok (.istore_n 3, 1) := by decide +kernel
theorem dX9_moves_12 : decode cX9_moves 12 = .ok (.iconst 0, 1) := by decide +kernel
theorem dX9_moves_13 : decode cX9_moves 13 = .ok (.istore 4, 2) := by decide +kernel
theorem dX9_moves_15 : decode cX9_moves 15 = .ok (.iload_n 3, 1) := by decide +kernel
theorem dX9_moves_16 : decode cX9_moves 16 = .ok (.iload_n 2, 1) := by decide +kernel
theorem dX9_moves_17 : decode cX9_moves 17 = .ok (.if_icmp .eq 52, 3) := by decide +kernel
theorem dX9_moves_20 : decode cX9_moves 20 = .ok (.iload 4, 2) := by decide +kernel
theorem dX9_moves_22 : decode cX9_moves 22 = .ok (.ifCond .ne 47, 3) := by decide +kernel
theorem dX9_moves_25 : decode cX9_moves 25 = .ok (.aload_n 0, 1) := by decide +kernel
theorem dX9_moves_26 : decode cX9_moves 26 = .ok (.iload_n 3, 1) := by decide +kernel
theorem dX9_moves_27 : decode cX9_moves 27 = .ok (.invokevirtual 199, 3) := by decide +kernel
theorem dX9_moves_30 : decode cX9_moves 30 = .ok (.istore_n 3, 1) := by decide +kernel
theorem dX9_moves_31 : decode cX9_moves 31 = .ok (.aload_n 0, 1) := by decide +kernel
theorem dX9_moves_32 : decode cX9_moves 32 = .ok (.iload_n 1, 1) := by decide +kernel
theorem dX9_moves_33 : decode cX9_moves 33 = .ok (.iconst 2, 1) := by decide +kernel
theorem dX9_moves_34 : decode cX9_moves 34 = .ok (.iload_n 3, 1) := by decide +kernel
theorem dX9_moves_35 : decode cX9_moves 35 = .ok (.invokevirtual 127, 3) := by decide +kernel
theorem dX9_moves_38 : decode cX9_moves 38 = .ok (.aload_n 0, 1) := by decide +kernel
theorem dX9_moves_39 : decode cX9_moves 39 = .ok (.getfield 9, 3) := by decide +kernel
theorem dX9_moves_42 : decode cX9_moves 42 = .ok (.iconst 2, 1) := by decide +kernel
theorem dX9_moves_43 : decode cX9_moves 43 = .ok (.iload_n 3, 1) := by decide +kernel
theorem dX9_moves_44 : decode cX9_moves 44 = .ok (.iadd, 1) := by decide +kernel
theorem dX9_moves_45 : decode cX9_moves 45 = .ok (.iaload, 1) := by decide +kernel
theorem dX9_moves_46 : decode cX9_moves 46 = .ok (.iconst 4, 1) := by decide +kernel
theorem dX9_moves_47 : decode cX9_moves 47 = .ok (.if_icmp .ne 11, 3) := by decide +kernel
theorem dX9_moves_50 : decode cX9_moves 50 = .ok (.aload_n 0, 1) := by decide +kernel
theorem dX9_moves_51 : decode cX9_moves 51 = .ok (.iload_n 1, 1) := by decide +kernel
theorem dX9_moves_52 : decode cX9_moves 52 = .ok (.bipush 8, 2) := by decide +kernel
theorem dX9_moves_54 : decode cX9_moves 54 = .ok (.iconst 2, 1) := by decide +kernel
theorem dX9_moves_55 : decode cX9_moves 55 = .ok (.invokevirtual 127, 3) := by decide +kernel
theorem dX9_moves_58 : decode cX9_moves 58 = .ok (.aload_n 0, 1) := by decide +kernel
theorem dX9_moves_59 : decode cX9_moves 59 = .ok (.iload_n 1, 1) := by decide +kernel
theorem dX9_moves_60 : decode cX9_moves 60 = .ok (.iload_n 3, 1) := by decide +kernel
theorem dX9_moves_61 : decode cX9_moves 61 = .ok (.invokevirtual 246, 3) := by decide +kernel
theorem dX9_moves_64 : decode cX9_moves 64 = .ok (.istore 4, 2) := by decide +kernel
theorem dX9_moves_66 : decode cX9_moves 66 = .ok (.goto (-51), 3) := by decide +kernel
theorem dX9_moves_69 : decode cX9_moves 69 = .ok (.aload_n 0, 1) := by decide +kernel
theorem dX9_moves_70 : decode cX9_moves 70 = .ok (.iconst 1, 1) := by decide +kernel
theorem dX9_moves_71 : decode cX9_moves 71 = .ok (.iload_n 1, 1) := by decide +kernel
theorem dX9_moves_72 : decode cX9_moves 72 = .ok (.iload_n 3, 1) := by decide +kernel
theorem dX9_moves_73 : decode cX9_moves 73 = .ok (.invokevirtual 141, 3) := by decide +kernel
theorem dX9_moves_76 : decode cX9_moves 76 = .ok (.iload_n 3, 1) := by decide +kernel
theorem dX9_moves_77 : decode cX9_moves 77 = .ok (.ireturn, 1) := by decide +kernel
theorem dX9_throwsAt_0 : decode cX9_throwsAt 0 = .ok (.aload_n 0, 1) := by decide +kernel
theorem dX9_throwsAt_1 : decode cX9_throwsAt 1 = .ok (.iload_n 1, 1) := by decide +kernel
theorem dX9_throwsAt_2 : decode cX9_throwsAt 2 = .ok (.iconst 5, 1) := by decide +kernel
theorem dX9_throwsAt_3 : decode cX9_throwsAt 3 = .ok (.aload_n 0, 1) := by decide +kernel
theorem dX9_throwsAt_4 : decode cX9_throwsAt 4 = .ok (.iload_n 1, 1) := by decide +kernel
theorem dX9_throwsAt_5 : decode cX9_throwsAt 5 = .ok (.iconst 5, 1) := by decide +kernel
theorem dX9_throwsAt_6 : decode cX9_throwsAt 6 = .ok (.invokevirtual 60, 3) := by decide +kernel
theorem dX9_throwsAt_9 : decode cX9_throwsAt 9 = .ok (.iconst 1, 1) := by decide +kernel
theorem dX9_throwsAt_10 : decode cX9_throwsAt 10 = .ok (.isub, 1) := by decide +kernel
theorem dX9_throwsAt_11 : decode cX9_throwsAt 11 = .ok (.invokevirtual 127, 3) := by decide +kernel
theorem dX9_throwsAt_14 : decode cX9_throwsAt 14 = .ok (.aload_n 0, 1) := by decide +kernel
theorem dX9_throwsAt_15 : decode cX9_throwsAt 15 = .ok (.bipush 8, 2) := by decide +kernel
theorem dX9_throwsAt_17 : decode cX9_throwsAt 17 = .ok (.iload_n 1, 1) := by decide +kernel
theorem dX9_throwsAt_18 : decode cX9_throwsAt 18 = .ok (.iload_n 2, 1) := by decide +kernel
theorem dX9_throwsAt_19 : decode cX9_throwsAt 19 = .ok (.invokevirtual 141, 3) := by decide +kernel
theorem dX9_throwsAt_22 : decode cX9_throwsAt 22 = .ok (.iconst 0, 1) := by decide +kernel
theorem dX9_throwsAt_23 : decode cX9_throwsAt 23 = .ok (.istore_n 3, 1) := by decide +kernel
theorem dX9_throwsAt_24 : decode cX9_throwsAt 24 = .ok (.iconst 0, 1) := by decide +kernel
theorem dX9_throwsAt_25 : decode cX9_throwsAt 25 = .ok (.istore 4, 2) := by decide +kernel
theorem dX9_throwsAt_27 : decode cX9_throwsAt 27 = .ok (.iload 4, 2) := by decide +kernel
theorem dX9_throwsAt_29 : decode cX9_throwsAt 29 = .ok (.aload_n 0, 1) := by decide +kernel
theorem dX9_throwsAt_30 : decode cX9_throwsAt 30 = .ok (.getfield 9, 3) := by decide +kernel
theorem dX9_throwsAt_33 : decode cX9_throwsAt 33 = .ok (.bipush 66, 2) := by decide +kernel
theorem dX9_throwsAt_35 : decode cX9_throwsAt 35 = .ok (.iaload, 1) := by decide +kernel
theorem dX9_throwsAt_36 : decode cX9_throwsAt 36 = .ok (.if_icmp .ge 104, 3) := by decide +kernel
theorem dX9_throwsAt_39 : decode cX9_throwsAt 39 = .ok (.aload_n 0, 1) := by decide +kernel
theorem dX9_throwsAt_40 : decode cX9_throwsAt 40 = .ok (.iload 4, 2) := by decide +kernel
theorem dX9_throwsAt_42 : decode cX9_throwsAt 42 = .ok (.invokevirtual 117, 3) := by decide +kernel
theorem dX9_throwsAt_45 : decode cX9_throwsAt 45 = .ok (.ifCond .eq 89, 3) := by decide +kernel
theorem dX9_throwsAt_48 : decode cX9_throwsAt 48 = .ok (.aload_n 0, 1) := by decide +kernel
theorem dX9_throwsAt_49 : decode cX9_throwsAt 49 = .ok (.aload_n 0, 1) := by decide +kernel
theorem dX9_throwsAt_50 : decode cX9_throwsAt 50 = .ok (.iload 4, 2) := by decide +kernel
theorem dX9_throwsAt_52 : decode cX9_throwsAt 52 = .ok (.iconst 2, 1) := by decide +kernel
theorem dX9_throwsAt_53 : decode cX9_throwsAt 53 = .ok (.invokevirtual 60, 3) := by decide +kernel
theorem dX9_throwsAt_56 : decode cX9_throwsAt 56 = .ok (.iload_n 2, 1) := by decide +kernel
theorem dX9_throwsAt_57 : decode cX9_throwsAt 57 = .ok (.invokevirtual 202, 3) := by decide +kernel
theorem dX9_throwsAt_60 : decode cX9_throwsAt 60 = .ok (.iconst 1, 1) := by decide +kernel
theorem dX9_throwsAt_61 : decode cX9_throwsAt 61 = .ok (.if_icmp .le 6, 3) := by decide +kernel
theorem dX9_throwsAt_64 : decode cX9_throwsAt 64 = .ok (.goto 70, 3) := by decide +kernel
theorem dX9_throwsAt_67 : decode cX9_throwsAt 67 = .ok (.iinc 3 1, 3) := by decide +kernel
theorem dX9_throwsAt_70 : decode cX9_throwsAt 70 = .ok (.aload_n 0, 1) := by decide +kernel
theorem dX9_throwsAt_71 : decode cX9_throwsAt 71 = .ok (.iload 4, 2) := by decide +kernel
theorem dX9_throwsAt_73 : decode cX9_throwsAt 73 = .ok (.iconst 3, 1) := by decide +kernel
theorem dX9_throwsAt_74 : decode cX9_throwsAt 74 = .ok (.invokevirtual 159, 3) := by decide +kernel
theorem dX9_throwsAt_77 : decode cX9_throwsAt 77 = .ok (.aload_n 0, 1) := by decide +kernel
theorem dX9_throwsAt_78 : decode cX9_throwsAt 78 = .ok (.iload 4, 2) := by decide +kernel
theorem dX9_throwsAt_80 : decode cX9_throwsAt 80 = .ok (.invokevirtual 163, 3) := by decide +kernel
theorem dX9_throwsAt_83 : decode cX9_throwsAt 83 = .ok (.aload_n 0, 1) := by decide +kernel
theorem dX9_throwsAt_84 : decode cX9_throwsAt 84 = .ok (.iload 4, 2) := by decide +kernel
theorem dX9_throwsAt_86 : decode cX9_throwsAt 86 = .ok (.invokevirtual 117, 3) := by decide +kernel
theorem dX9_throwsAt_89 : decode cX9_throwsAt 89 = .ok (.ifCond .eq 45, 3) := by decide +kernel
theorem dX9_throwsAt_92 : decode cX9_throwsAt 92 = .ok (.aload_n 0, 1) := by decide +kernel
theorem dX9_throwsAt_93 : decode cX9_throwsAt 93 = .ok (.bipush 6, 2) := by decide +kernel
theorem dX9_throwsAt_95 : decode cX9_throwsAt 95 = .ok (.invokevirtual 144, 3) := by decide +kernel
theorem dX9_throwsAt_98 : decode cX9_throwsAt 98 = .ok (.iconst 5, 1) := by decide +kernel
theorem dX9_throwsAt_99 : decode cX9_throwsAt 99 = .ok (.if_icmp .lt 35, 3) := by decide +kernel
theorem dX9_throwsAt_102 : decode cX9_throwsAt 102 = .ok (.aload_n 0, 1) := by decide +kernel
theorem dX9_throwsAt_103 : decode cX9_throwsAt 103 = .ok (.iload 4, 2) := by decide +kernel
theorem dX9_throwsAt_105 : decode cX9_throwsAt 105 = .ok (.bipush 7, 2) := by decide +kernel
theorem dX9_throwsAt_107 : decode cX9_throwsAt 107 = .ok (.invokevirtual 60, 3) := by decide +kernel
theorem dX9_throwsAt_110 : decode cX9_throwsAt 110 = .ok (.ifCond .le 6, 3) := by decide +kernel
theorem dX9_throwsAt_113 : decode cX9_throwsAt 113 = .ok (.goto 21, 3) := by decide +kernel
theorem dX9_throwsAt_116 : decode cX9_throwsAt 116 = .ok (.aload_n 0, 1) := by decide +kernel
theorem dX9_throwsAt_117 : decode cX9_throwsAt 117 = .ok (.iload 4, 2) := by decide +kernel
theorem dX9_throwsAt_119 : decode cX9_throwsAt 119 = .ok (.bipush 7, 2) := by decide +kernel
theorem dX9_throwsAt_121 : decode cX9_throwsAt 121 = .ok (.iconst 1, 1) := by decide +kernel
theorem dX9_throwsAt_122 : decode cX9_throwsAt 122 = .ok (.invokevirtual 127, 3) := by decide +kernel
theorem dX9_throwsAt_125 : decode cX9_throwsAt 125 = .ok (.aload_n 0, 1) := by decide +kernel
theorem dX9_throwsAt_126 : decode cX9_throwsAt 126 = .ok (.bipush 6, 2) := by decide +kernel
theorem dX9_throwsAt_128 : decode cX9_throwsAt 128 = .ok (.iload 4, 2) := by decide +kernel
theorem dX9_throwsAt_130 : decode cX9_throwsAt 130 = .ok (.iconst 1, 1) := by decide +kernel
theorem dX9_throwsAt_131 : decode cX9_throwsAt 131 = .ok (.invokevirtual 141, 3) := by decide +kernel
theorem dX9_throwsAt_134 : decode cX9_throwsAt 134 = .ok (.iinc 4 1, 3) := by decide +kernel
theorem dX9_throwsAt_137 : decode cX9_throwsAt 137 = .ok (.goto (-110), 3) := by decide +kernel
theorem dX9_throwsAt_140 : decode cX9_throwsAt 140 = .ok (.iload_n 3, 1) := by decide +kernel
theorem dX9_throwsAt_141 : decode cX9_throwsAt 141 = .ok (.ireturn, 1) := by decide +kernel
theorem dX9_does_0 : decode cX9_does 0 = .ok (.aload_n 0, 1) := by decide +kernel
theorem dX9_does_1 : decode cX9_does 1 = .ok (.getfield 9, 3) := by decide +kernel
theorem dX9_does_4 : decode cX9_does 4 = .ok (.sipush 289, 3) := by decide +kernel
theorem dX9_does_7 : decode cX9_does 7 = .ok (.dup2, 1) := by decide +kernel
theorem dX9_does_8 : decode cX9_does 8 = .ok (.iaload, 1) := by decide +kernel
theorem dX9_does_9 : decode cX9_does 9 = .ok (.iconst 1, 1) := by decide +kernel
theorem dX9_does_10 : decode cX9_does 10 = .ok (.iadd, 1) := by decide +kernel
theorem dX9_does_11 : decode cX9_does 11 = .ok (.iastore, 1) := by decide +kernel
theorem dX9_does_12 : decode cX9_does 12 = .ok (.aload_n 0, 1) := by decide +kernel
theorem dX9_does_13 : decode cX9_does 13 = .ok (.getfield 9, 3) := by decide +kernel
theorem dX9_does_16 : decode cX9_does 16 = .ok (.sipush 166, 3) := by decide +kernel
theorem dX9_does_19 : decode cX9_does 19 = .ok (.iaload, 1) := by decide +kernel
theorem dX9_does_20 : decode cX9_does 20 = .ok (.istore_n 3, 1) := by decide +kernel
theorem dX9_does_21 : decode cX9_does 21 = .ok (.aload_n 0, 1) := by decide +kernel
theorem dX9_does_22 : decode cX9_does 22 = .ok (.getfield 9, 3) := by decide +kernel
theorem dX9_does_25 : decode cX9_does 25 = .ok (.sipush 167, 3) := by decide +kernel
theorem dX9_does_28 : decode cX9_does 28 = .ok (.iaload, 1) := by decide +kernel
theorem dX9_does_29 : decode cX9_does 29 = .ok (.istore 4, 2) := by decide +kernel
theorem dX9_does_31 : decode cX9_does 31 = .ok (.aload_n 0, 1) := by decide +kernel
theorem dX9_does_32 : decode cX9_does 32 = .ok (.getfield 9, 3) := by decide +kernel
theorem dX9_does_35 : decode cX9_does 35 = .ok (.sipush 167, 3) := by decide +kernel
theorem dX9_does_38 : decode cX9_does 38 = .ok (.iload_n 1, 1) := by decide +kernel
theorem dX9_does_39 : decode cX9_does 39 = .ok (.iconst 4, 1) := by decide +kernel
theorem dX9_does_40 : decode cX9_does 40 = .ok (.if_icmp .ne 7, 3) := by decide +kernel
theorem dX9_does_43 : decode cX9_does 43 = .ok (.iconst 0, 1) := by decide +kernel
theorem dX9_does_44 : decode cX9_does 44 = .ok (.goto 18, 3) := by decide +kernel
theorem dX9_does_47 : decode cX9_does 47 = .ok (.iload_n 1, 1) := by decide +kernel
theorem dX9_does_48 : decode cX9_does 48 = .ok (.bipush 6, 2) := by decide +kernel
theorem dX9_does_50 : decode cX9_does 50 = .ok (.if_icmp .ne 8, 3) := by decide +kernel
theorem dX9_does_53 : decode cX9_does 53 = .ok (.iload 4, 2) := by decide +kernel
theorem dX9_does_55 : decode cX9_does 55 = .ok (.goto 7, 3) := by decide +kernel
theorem dX9_does_58 : decode cX9_does 58 = .ok (.iload 4, 2) := by decide +kernel
theorem dX9_does_60 : decode cX9_does 60 = .ok (.iconst 1, 1) := by decide +kernel
theorem dX9_does_61 : decode cX9_does 61 = .ok (.isub, 1) := by decide +kernel
theorem dX9_does_62 : decode cX9_does 62 = .ok (.iastore, 1) := by decide +kernel
theorem dX9_does_63 : decode cX9_does 63 = .ok (.iconst 0, 1) := by decide +kernel
theorem dX9_does_64 : decode cX9_does 64 = .ok (.istore 5, 2) := by decide +kernel
theorem dX9_does_66 : decode cX9_does 66 = .ok (.iload_n 1, 1) := by decide +kernel
theorem dX9_does_67 : decode cX9_does 67 = .ok (.tableswitch 122 0 5 #[37, 48, 59, 70, 87, 98], 37) := by decide +kernel
theorem dX9_does_104 : decode cX9_does 104 = .ok (.aload_n 0, 1) := by decide +kernel
theorem dX9_does_105 : decode cX9_does 105 = .ok (.iload_n 3, 1) := by decide +kernel
theorem dX9_does_106 : decode cX9_does 106 = .ok (.iload_n 2, 1) := by decide +kernel
theorem dX9_does_107 : decode cX9_does 107 = .ok (.invokevirtual 231, 3) := by decide +kernel
theorem dX9_does_110 : decode cX9_does 110 = .ok (.istore 5, 2) := by decide +kernel
theorem dX9_does_112 : decode cX9_does 112 = .ok (.goto 83, 3) := by decide +kernel
theorem dX9_does_115 : decode cX9_does 115 = .ok (.aload_n 0, 1) := by decide +kernel
theorem dX9_does_116 : decode cX9_does 116 = .ok (.iload_n 3, 1) := by decide +kernel
theorem dX9_does_117 : decode cX9_does 117 = .ok (.iload_n 2, 1) := by decide +kernel
theorem dX9_does_118 : decode cX9_does 118 = .ok (.invokevirtual 234, 3) := by decide +kernel
theorem dX9_does_121 : decode cX9_does 121 = .ok (.istore 5, 2) := by decide +kernel
theorem dX9_does_123 : decode cX9_does 123 = .ok (.goto 72, 3) := by decide +kernel
theorem dX9_does_126 : decode cX9_does 126 = .ok (.aload_n 0, 1) := by decide +kernel
theorem dX9_does_127 : decode cX9_does 127 = .ok (.iload_n 3, 1) := by decide +kernel
theorem dX9_does_128 : decode cX9_does 128 = .ok (.iload_n 2, 1) := by decide +kernel
theorem dX9_does_129 : decode cX9_does 129 = .ok (.invokevirtual 237, 3) := by decide +kernel
theorem dX9_does_132 : decode cX9_does 132 = .ok (.istore 5, 2) := by decide +kernel
theorem dX9_does_134 : decode cX9_does 134 = .ok (.goto 61, 3) := by decide +kernel
theorem dX9_does_137 : decode cX9_does 137 = .ok (.aload_n 0, 1) := by decide +kernel
theorem dX9_does_138 : decode cX9_does 138 = .ok (.iload_n 3, 1) := by decide +kernel
theorem dX9_does_139 : decode cX9_does 139 = .ok (.bipush 9, 2) := by decide +kernel
theorem dX9_does_141 : decode cX9_does 141 = .ok (.iconst 1, 1) := by decide +kernel
theorem dX9_does_142 : decode cX9_does 142 = .ok (.invokevirtual 127, 3) := by decide +kernel
theorem dX9_does_145 : decode cX9_does 145 = .ok (.aload_n 0, 1) := by decide +kernel
theorem dX9_does_146 : decode cX9_does 146 = .ok (.getfield 9, 3) := by decide +kernel
theorem dX9_does_149 : decode cX9_does 149 = .ok (.sipush 167, 3) := by decide +kernel
theorem dX9_does_152 : decode cX9_does 152 = .ok (.iaload, 1) := by decide +kernel
theorem dX9_does_153 : decode cX9_does 153 = .ok (.ireturn, 1) := by decide +kernel
theorem dX9_does_154 : decode cX9_does 154 = .ok (.aload_n 0, 1) := by decide +kernel
theorem dX9_does_155 : decode cX9_does 155 = .ok (.iload_n 3, 1) := by decide +kernel
theorem dX9_does_156 : decode cX9_does 156 = .ok (.bipush 10, 2) := by decide +kernel
theorem dX9_does_158 : decode cX9_does 158 = .ok (.iconst 1, 1) := by decide +kernel
theorem dX9_does_159 : decode cX9_does 159 = .ok (.invokevirtual 127, 3) := by decide +kernel
theorem dX9_does_162 : decode cX9_does 162 = .ok (.iload 4, 2) := by decide +kernel
theorem dX9_does_164 : decode cX9_does 164 = .ok (.ireturn, 1) := by decide +kernel
theorem dX9_does_165 : decode cX9_does 165 = .ok (.aload_n 0, 1) := by decide +kernel
theorem dX9_does_166 : decode cX9_does 166 = .ok (.iload_n 3, 1) := by decide +kernel
theorem dX9_does_167 : decode cX9_does 167 = .ok (.iconst 4, 1) := by decide +kernel
theorem dX9_does_168 : decode cX9_does 168 = .ok (.invokevirtual 60, 3) := by decide +kernel
theorem dX9_does_171 : decode cX9_does 171 = .ok (.istore 5, 2) := by decide +kernel
theorem dX9_does_173 : decode cX9_does 173 = .ok (.aload_n 0, 1) := by decide +kernel
theorem dX9_does_174 : decode cX9_does 174 = .ok (.iload_n 3, 1) := by decide +kernel
theorem dX9_does_175 : decode cX9_does 175 = .ok (.iconst 4, 1) := by decide +kernel
theorem dX9_does_176 : decode cX9_does 176 = .ok (.aload_n 0, 1) := by decide +kernel
theorem dX9_does_177 : decode cX9_does 177 = .ok (.iload_n 3, 1) := by decide +kernel
theorem dX9_does_178 : decode cX9_does 178 = .ok (.bipush 7, 2) := by decide +kernel
theorem dX9_does_180 : decode cX9_does 180 = .ok (.invokevirtual 147, 3) := by decide +kernel
theorem dX9_does_183 : decode cX9_does 183 = .ok (.invokevirtual 127, 3) := by decide +kernel
theorem dX9_does_186 : decode cX9_does 186 = .ok (.iload 5, 2) := by decide +kernel
theorem dX9_does_188 : decode cX9_does 188 = .ok (.ireturn, 1) := by decide +kernel
theorem dX9_does_189 : decode cX9_does 189 = .ok (.aload_n 0, 1) := by decide +kernel
theorem dX9_does_190 : decode cX9_does 190 = .ok (.iload_n 3, 1) := by decide +kernel
theorem dX9_does_191 : decode cX9_does 191 = .ok (.invokevirtual 240, 3) := by decide +kernel
theorem dX9_does_194 : decode cX9_does 194 = .ok (.ireturn, 1) := by decide +kernel
theorem dX9_does_195 : decode cX9_does 195 = .ok (.aload_n 0, 1) := by decide +kernel
theorem dX9_does_196 : decode cX9_does 196 = .ok (.invokevirtual 243, 3) := by decide +kernel
theorem dX9_does_199 : decode cX9_does 199 = .ok (.iload 5, 2) := by decide +kernel
theorem dX9_does_201 : decode cX9_does 201 = .ok (.ireturn, 1) := by decide +kernel
theorem dX9_carries_0 : decode cX9_carries 0 = .ok (.aload_n 0, 1) := by decide +kernel
theorem dX9_carries_1 : decode cX9_carries 1 = .ok (.invokevirtual 225, 3) := by decide +kernel
theorem dX9_carries_4 : decode cX9_carries 4 = .ok (.aload_n 0, 1) := by decide +kernel
theorem dX9_carries_5 : decode cX9_carries 5 = .ok (.getfield 9, 3) := by decide +kernel
theorem dX9_carries_8 : decode cX9_carries 8 = .ok (.sipush 289, 3) := by decide +kernel
theorem dX9_carries_11 : decode cX9_carries 11 = .ok (.iaload, 1) := by decide +kernel
theorem dX9_carries_12 : decode cX9_carries 12 = .ok (.istore_n 3, 1) := by decide +kernel
theorem dX9_carries_13 : decode cX9_carries 13 = .ok (.aload_n 0, 1) := by decide +kernel
theorem dX9_carries_14 : decode cX9_carries 14 = .ok (.getfield 28, 3) := by decide +kernel
theorem dX9_carries_17 : decode cX9_carries 17 = .ok (.iconst 2, 1) := by decide +kernel
theorem dX9_carries_18 : decode cX9_carries 18 = .ok (.iload_n 3, 1) := by decide +kernel
theorem dX9_carries_19 : decode cX9_carries 19 = .ok (.imul, 1) := by decide +kernel
theorem dX9_carries_20 : decode cX9_carries 20 = .ok (.iload_n 1, 1) := by decide +kernel
theorem dX9_carries_21 : decode cX9_carries 21 = .ok (.iastore, 1) := by decide +kernel
theorem dX9_carries_22 : decode cX9_carries 22 = .ok (.aload_n 0, 1) := by decide +kernel
theorem dX9_carries_23 : decode cX9_carries 23 = .ok (.getfield 28, 3) := by decide +kernel
theorem dX9_carries_26 : decode cX9_carries 26 = .ok (.iconst 2, 1) := by decide +kernel
theorem dX9_carries_27 : decode cX9_carries 27 = .ok (.iload_n 3, 1) := by decide +kernel
theorem dX9_carries_28 : decode cX9_carries 28 = .ok (.imul, 1) := by decide +kernel
theorem dX9_carries_29 : decode cX9_carries 29 = .ok (.iconst 1, 1) := by decide +kernel
theorem dX9_carries_30 : decode cX9_carries 30 = .ok (.iadd, 1) := by decide +kernel
theorem dX9_carries_31 : decode cX9_carries 31 = .ok (.iload_n 2, 1) := by decide +kernel
theorem dX9_carries_32 : decode cX9_carries 32 = .ok (.iastore, 1) := by decide +kernel
theorem dX9_carries_33 : decode cX9_carries 33 = .ok (.aload_n 0, 1) := by decide +kernel
theorem dX9_carries_34 : decode cX9_carries 34 = .ok (.iload_n 1, 1) := by decide +kernel
theorem dX9_carries_35 : decode cX9_carries 35 = .ok (.iload_n 2, 1) := by decide +kernel
theorem dX9_carries_36 : decode cX9_carries 36 = .ok (.invokevirtual 228, 3) := by decide +kernel
theorem dX9_carries_39 : decode cX9_carries 39 = .ok (.istore 4, 2) := by decide +kernel
theorem dX9_carries_41 : decode cX9_carries 41 = .ok (.iload 4, 2) := by decide +kernel
theorem dX9_carries_43 : decode cX9_carries 43 = .ok (.ireturn, 1) := by decide +kernel
theorem dX9_move_0 : decode cX9_move 0 = .ok (.aload_n 0, 1) := by decide +kernel
theorem dX9_move_1 : decode cX9_move 1 = .ok (.aload_n 0, 1) := by decide +kernel
theorem dX9_move_2 : decode cX9_move 2 = .ok (.iload_n 1, 1) := by decide +kernel
theorem dX9_move_3 : decode cX9_move 3 = .ok (.invokevirtual 103, 3) := by decide +kernel
theorem dX9_move_6 : decode cX9_move 6 = .ok (.invokevirtual 192, 3) := by decide +kernel
theorem dX9_move_9 : decode cX9_move 9 = .ok (.ifCond .ne 5, 3) := by decide +kernel
theorem dX9_move_12 : decode cX9_move 12 = .ok (.iconst 0, 1) := by decide +kernel
theorem dX9_move_13 : decode cX9_move 13 = .ok (.ireturn, 1) := by decide +kernel
theorem dX9_move_14 : decode cX9_move 14 = .ok (.aload_n 0, 1) := by decide +kernel
theorem dX9_move_15 : decode cX9_move 15 = .ok (.getfield 9, 3) := by decide +kernel
theorem dX9_move_18 : decode cX9_move 18 = .ok (.sipush 167, 3) := by decide +kernel
theorem dX9_move_21 : decode cX9_move 21 = .ok (.iaload, 1) := by decide +kernel
theorem dX9_move_22 : decode cX9_move 22 = .ok (.ifCond .ne 9, 3) := by decide +kernel
theorem dX9_move_25 : decode cX9_move 25 = .ok (.aload_n 0, 1) := by decide +kernel
theorem dX9_move_26 : decode cX9_move 26 = .ok (.iconst 3, 1) := by decide +kernel
theorem dX9_move_27 : decode cX9_move 27 = .ok (.invokevirtual 78, 3) := by decide +kernel
theorem dX9_move_30 : decode cX9_move 30 = .ok (.ireturn, 1) := by decide +kernel
theorem dX9_move_31 : decode cX9_move 31 = .ok (.aload_n 0, 1) := by decide +kernel
theorem dX9_move_32 : decode cX9_move 32 = .ok (.iload_n 1, 1) := by decide +kernel
theorem dX9_move_33 : decode cX9_move 33 = .ok (.invokevirtual 196, 3) := by decide +kernel
theorem dX9_move_36 : decode cX9_move 36 = .ok (.istore_n 2, 1) := by decide +kernel
theorem dX9_move_37 : decode cX9_move 37 = .ok (.iload_n 2, 1) := by decide +kernel
theorem dX9_move_38 : decode cX9_move 38 = .ok (.iconst 1, 1) := by decide +kernel
theorem dX9_move_39 : decode cX9_move 39 = .ok (.if_icmp .lt 20, 3) := by decide +kernel
theorem dX9_move_42 : decode cX9_move 42 = .ok (.iload_n 2, 1) := by decide +kernel
theorem dX9_move_43 : decode cX9_move 43 = .ok (.aload_n 0, 1) := by decide +kernel
theorem dX9_move_44 : decode cX9_move 44 = .ok (.aload_n 0, 1) := by decide +kernel
theorem dX9_move_45 : decode cX9_move 45 = .ok (.getfield 9, 3) := by decide +kernel
theorem dX9_move_48 : decode cX9_move 48 = .ok (.sipush 166, 3) := by decide +kernel
theorem dX9_move_51 : decode cX9_move 51 = .ok (.iaload, 1) := by decide +kernel
theorem dX9_move_52 : decode cX9_move 52 = .ok (.iconst 4, 1) := by decide +kernel
theorem dX9_move_53 : decode cX9_move 53 = .ok (.invokevirtual 147, 3) := by decide +kernel
theorem dX9_move_56 : decode cX9_move 56 = .ok (.if_icmp .le 11, 3) := by decide +kernel
theorem dX9_move_59 : decode cX9_move 59 = .ok (.aload_n 0, 1) := by decide +kernel
theorem dX9_move_60 : decode cX9_move 60 = .ok (.iconst 4, 1) := by decide +kernel
theorem dX9_move_61 : decode cX9_move 61 = .ok (.invokevirtual 78, 3) := by decide +kernel
theorem dX9_move_64 : decode cX9_move 64 = .ok (.goto 9, 3) := by decide +kernel
theorem dX9_move_67 : decode cX9_move 67 = .ok (.aload_n 0, 1) := by decide +kernel
theorem dX9_move_68 : decode cX9_move 68 = .ok (.iconst 0, 1) := by decide +kernel
theorem dX9_move_69 : decode cX9_move 69 = .ok (.iload_n 1, 1) := by decide +kernel
theorem dX9_move_70 : decode cX9_move 70 = .ok (.invokevirtual 249, 3) := by decide +kernel
theorem dX9_move_73 : decode cX9_move 73 = .ok (.ireturn, 1) := by decide +kernel
theorem dX9_attack_0 : decode cX9_attack 0 = .ok (.aload_n 0, 1) := by decide +kernel
theorem dX9_attack_1 : decode cX9_attack 1 = .ok (.aload_n 0, 1) := by decide +kernel
theorem dX9_attack_2 : decode cX9_attack 2 = .ok (.iload_n 1, 1) := by decide +kernel
theorem dX9_attack_3 : decode cX9_attack 3 = .ok (.invokevirtual 131, 3) := by decide +kernel
theorem dX9_attack_6 : decode cX9_attack 6 = .ok (.invokevirtual 192, 3) := by decide +kernel
theorem dX9_attack_9 : decode cX9_attack 9 = .ok (.ifCond .ne 5, 3) := by decide +kernel
theorem dX9_attack_12 : decode cX9_attack 12 = .ok (.iconst 0, 1) := by decide +kernel
theorem dX9_attack_13 : decode cX9_attack 13 = .ok (.ireturn, 1) := by decide +kernel
theorem dX9_attack_14 : decode cX9_attack 14 = .ok (.aload_n 0, 1) := by decide +kernel
theorem dX9_attack_15 : decode cX9_attack 15 = .ok (.getfield 9, 3) := by decide +kernel
theorem dX9_attack_18 : decode cX9_attack 18 = .ok (.sipush 167, 3) := by decide +kernel
theorem dX9_attack_21 : decode cX9_attack 21 = .ok (.iaload, 1) := by decide +kernel
theorem dX9_attack_22 : decode cX9_attack 22 = .ok (.ifCond .eq 19, 3) := by decide +kernel
theorem dX9_attack_25 : decode cX9_attack 25 = .ok (.aload_n 0, 1) := by decide +kernel
theorem dX9_attack_26 : decode cX9_attack 26 = .ok (.aload_n 0, 1) := by decide +kernel
theorem dX9_attack_27 : decode cX9_attack 27 = .ok (.getfield 9, 3) := by decide +kernel
theorem dX9_attack_30 : decode cX9_attack 30 = .ok (.sipush 166, 3) := by decide +kernel
theorem dX9_attack_33 : decode cX9_attack 33 = .ok (.iaload, 1) := by decide +kernel
theorem dX9_attack_34 : decode cX9_attack 34 = .ok (.iconst 4, 1) := by decide +kernel
theorem dX9_attack_35 : decode cX9_attack 35 = .ok (.invokevirtual 60, 3) := by decide +kernel
theorem dX9_attack_38 : decode cX9_attack 38 = .ok (.ifCond .ne 9, 3) := by decide +kernel
theorem dX9_attack_41 : decode cX9_attack 41 = .ok (.aload_n 0, 1) := by decide +kernel
theorem dX9_attack_42 : decode cX9_attack 42 = .ok (.iconst 3, 1) := by decide +kernel
theorem dX9_attack_43 : decode cX9_attack 43 = .ok (.invokevirtual 78, 3) := by decide +kernel
theorem dX9_attack_46 : decode cX9_attack 46 = .ok (.ireturn, 1) := by decide +kernel
theorem dX9_attack_47 : decode cX9_attack 47 = .ok (.aload_n 0, 1) := by decide +kernel
theorem dX9_attack_48 : decode cX9_attack 48 = .ok (.aload_n 0, 1) := by decide +kernel
theorem dX9_attack_49 : decode cX9_attack 49 = .ok (.getfield 9, 3) := by decide +kernel
theorem dX9_attack_52 : decode cX9_attack 52 = .ok (.sipush 166, 3) := by decide +kernel
theorem dX9_attack_55 : decode cX9_attack 55 = .ok (.iaload, 1) := by decide +kernel
theorem dX9_attack_56 : decode cX9_attack 56 = .ok (.iload_n 1, 1) := by decide +kernel
theorem dX9_attack_57 : decode cX9_attack 57 = .ok (.invokevirtual 212, 3) := by decide +kernel
theorem dX9_attack_60 : decode cX9_attack 60 = .ok (.ifCond .eq 12, 3) := by decide +kernel
theorem dX9_attack_63 : decode cX9_attack 63 = .ok (.aload_n 0, 1) := by decide +kernel
theorem dX9_attack_64 : decode cX9_attack 64 = .ok (.iconst 1, 1) := by decide +kernel
theorem dX9_attack_65 : decode cX9_attack 65 = .ok (.iload_n 1, 1) := by decide +kernel
theorem dX9_attack_66 : decode cX9_attack 66 = .ok (.invokevirtual 249, 3) := by decide +kernel
theorem dX9_attack_69 : decode cX9_attack 69 = .ok (.goto 8, 3) := by decide +kernel
theorem dX9_attack_72 : decode cX9_attack 72 = .ok (.aload_n 0, 1) := by decide +kernel
theorem dX9_attack_73 : decode cX9_attack 73 = .ok (.iconst 4, 1) := by decide +kernel
theorem dX9_attack_74 : decode cX9_attack 74 = .ok (.invokevirtual 78, 3) := by decide +kernel
theorem dX9_attack_77 : decode cX9_attack 77 = .ok (.ireturn, 1) := by decide +kernel
theorem dX9_throwAt_0 : decode cX9_throwAt 0 = .ok (.aload_n 0, 1) := by decide +kernel
theorem dX9_throwAt_1 : decode cX9_throwAt 1 = .ok (.aload_n 0, 1) := by decide +kernel
theorem dX9_throwAt_2 : decode cX9_throwAt 2 = .ok (.iload_n 1, 1) := by decide +kernel
theorem dX9_throwAt_3 : decode cX9_throwAt 3 = .ok (.invokevirtual 103, 3) := by decide +kernel
theorem dX9_throwAt_6 : decode cX9_throwAt 6 = .ok (.invokevirtual 192, 3) := by decide +kernel
theorem dX9_throwAt_9 : decode cX9_throwAt 9 = .ok (.ifCond .ne 5, 3) := by decide +kernel
theorem dX9_throwAt_12 : decode cX9_throwAt 12 = .ok (.iconst 0, 1) := by decide +kernel
theorem dX9_throwAt_13 : decode cX9_throwAt 13 = .ok (.ireturn, 1) := by decide +kernel
theorem dX9_throwAt_14 : decode cX9_throwAt 14 = .ok (.aload_n 0, 1) := by decide +kernel
theorem dX9_throwAt_15 : decode cX9_throwAt 15 = .ok (.getfield 9, 3) := by decide +kernel
theorem dX9_throwAt_18 : decode cX9_throwAt 18 = .ok (.sipush 167, 3) := by decide +kernel
theorem dX9_throwAt_21 : decode cX9_throwAt 21 = .ok (.iaload, 1) := by decide +kernel
theorem dX9_throwAt_22 : decode cX9_throwAt 22 = .ok (.ifCond .eq 19, 3) := by decide +kernel
theorem dX9_throwAt_25 : decode cX9_throwAt 25 = .ok (.aload_n 0, 1) := by decide +kernel
theorem dX9_throwAt_26 : decode cX9_throwAt 26 = .ok (.aload_n 0, 1) := by decide +kernel
theorem dX9_throwAt_27 : decode cX9_throwAt 27 = .ok (.getfield 9, 3) := by decide +kernel
theorem dX9_throwAt_30 : decode cX9_throwAt 30 = .ok (.sipush 166, 3) := by decide +kernel
theorem dX9_throwAt_33 : decode cX9_throwAt 33 = .ok (.iaload, 1) := by decide +kernel
theorem dX9_throwAt_34 : decode cX9_throwAt 34 = .ok (.iconst 5, 1) := by decide +kernel
theorem dX9_throwAt_35 : decode cX9_throwAt 35 = .ok (.invokevirtual 60, 3) := by decide +kernel
theorem dX9_throwAt_38 : decode cX9_throwAt 38 = .ok (.ifCond .ne 9, 3) := by decide +kernel
theorem dX9_throwAt_41 : decode cX9_throwAt 41 = .ok (.aload_n 0, 1) := by decide +kernel
theorem dX9_throwAt_42 : decode cX9_throwAt 42 = .ok (.iconst 3, 1) := by decide +kernel
theorem dX9_throwAt_43 : decode cX9_throwAt 43 = .ok (.invokevirtual 78, 3) := by decide +kernel
theorem dX9_throwAt_46 : decode cX9_throwAt 46 = .ok (.ireturn, 1) := by decide +kernel
theorem dX9_throwAt_47 : decode cX9_throwAt 47 = .ok (.aload_n 0, 1) := by decide +kernel
theorem dX9_throwAt_48 : decode cX9_throwAt 48 = .ok (.aload_n 0, 1) := by decide +kernel
theorem dX9_throwAt_49 : decode cX9_throwAt 49 = .ok (.getfield 9, 3) := by decide +kernel
theorem dX9_throwAt_52 : decode cX9_throwAt 52 = .ok (.sipush 166, 3) := by decide +kernel
theorem dX9_throwAt_55 : decode cX9_throwAt 55 = .ok (.iaload, 1) := by decide +kernel
theorem dX9_throwAt_56 : decode cX9_throwAt 56 = .ok (.iconst 2, 1) := by decide +kernel
theorem dX9_throwAt_57 : decode cX9_throwAt 57 = .ok (.invokevirtual 60, 3) := by decide +kernel
theorem dX9_throwAt_60 : decode cX9_throwAt 60 = .ok (.istore_n 2, 1) := by decide +kernel
theorem dX9_throwAt_61 : decode cX9_throwAt 61 = .ok (.aload_n 0, 1) := by decide +kernel
theorem dX9_throwAt_62 : decode cX9_throwAt 62 = .ok (.getfield 9, 3) := by decide +kernel
theorem dX9_throwAt_65 : decode cX9_throwAt 65 = .ok (.iconst 2, 1) := by decide +kernel
theorem dX9_throwAt_66 : decode cX9_throwAt 66 = .ok (.iload_n 1, 1) := by decide +kernel
theorem dX9_throwAt_67 : decode cX9_throwAt 67 = .ok (.iadd, 1) := by decide +kernel
theorem dX9_throwAt_68 : decode cX9_throwAt 68 = .ok (.iaload, 1) := by decide +kernel
theorem dX9_throwAt_69 : decode cX9_throwAt 69 = .ok (.iconst 1, 1) := by decide +kernel
theorem dX9_throwAt_70 : decode cX9_throwAt 70 = .ok (.if_icmp .eq 31, 3) := by decide +kernel
theorem dX9_throwAt_73 : decode cX9_throwAt 73 = .ok (.aload_n 0, 1) := by decide +kernel
theorem dX9_throwAt_74 : decode cX9_throwAt 74 = .ok (.iload_n 2, 1) := by decide +kernel
theorem dX9_throwAt_75 : decode cX9_throwAt 75 = .ok (.iload_n 1, 1) := by decide +kernel
theorem dX9_throwAt_76 : decode cX9_throwAt 76 = .ok (.invokevirtual 202, 3) := by decide +kernel
theorem dX9_throwAt_79 : decode cX9_throwAt 79 = .ok (.iconst 4, 1) := by decide +kernel
theorem dX9_throwAt_80 : decode cX9_throwAt 80 = .ok (.if_icmp .gt 21, 3) := by decide +kernel
theorem dX9_throwAt_83 : decode cX9_throwAt 83 = .ok (.aload_n 0, 1) := by decide +kernel
theorem dX9_throwAt_84 : decode cX9_throwAt 84 = .ok (.iload_n 2, 1) := by decide +kernel
theorem dX9_throwAt_85 : decode cX9_throwAt 85 = .ok (.iload_n 1, 1) := by decide +kernel
theorem dX9_throwAt_86 : decode cX9_throwAt 86 = .ok (.invokevirtual 111, 3) := by decide +kernel
theorem dX9_throwAt_89 : decode cX9_throwAt 89 = .ok (.ifCond .eq 12, 3) := by decide +kernel
theorem dX9_throwAt_92 : decode cX9_throwAt 92 = .ok (.aload_n 0, 1) := by decide +kernel
theorem dX9_throwAt_93 : decode cX9_throwAt 93 = .ok (.iconst 2, 1) := by decide +kernel
theorem dX9_throwAt_94 : decode cX9_throwAt 94 = .ok (.iload_n 1, 1) := by decide +kernel
theorem dX9_throwAt_95 : decode cX9_throwAt 95 = .ok (.invokevirtual 249, 3) := by decide +kernel
theorem dX9_throwAt_98 : decode cX9_throwAt 98 = .ok (.goto 8, 3) := by decide +kernel
theorem dX9_throwAt_101 : decode cX9_throwAt 101 = .ok (.aload_n 0, 1) := by decide +kernel
theorem dX9_throwAt_102 : decode cX9_throwAt 102 = .ok (.iconst 4, 1) := by decide +kernel
theorem dX9_throwAt_103 : decode cX9_throwAt 103 = .ok (.invokevirtual 78, 3) := by decide +kernel
theorem dX9_throwAt_106 : decode cX9_throwAt 106 = .ok (.ireturn, 1) := by decide +kernel
theorem dX9_may_0 : decode cX9_may 0 = .ok (.aload_n 0, 1) := by decide +kernel
theorem dX9_may_1 : decode cX9_may 1 = .ok (.aload_n 0, 1) := by decide +kernel
theorem dX9_may_2 : decode cX9_may 2 = .ok (.invokevirtual 137, 3) := by decide +kernel
theorem dX9_may_5 : decode cX9_may 5 = .ok (.iconst 1, 1) := by decide +kernel
theorem dX9_may_6 : decode cX9_may 6 = .ok (.if_icmp .eq 7, 3) := by decide +kernel
theorem dX9_may_9 : decode cX9_may 9 = .ok (.iconst 1, 1) := by decide +kernel
theorem dX9_may_10 : decode cX9_may 10 = .ok (.goto 12, 3) := by decide +kernel
theorem dX9_may_13 : decode cX9_may 13 = .ok (.iload_n 1, 1) := by decide +kernel
theorem dX9_may_14 : decode cX9_may 14 = .ok (.ifCond .ne 7, 3) := by decide +kernel
theorem dX9_may_17 : decode cX9_may 17 = .ok (.iconst 2, 1) := by decide +kernel
theorem dX9_may_18 : decode cX9_may 18 = .ok (.goto 4, 3) := by decide +kernel
theorem dX9_may_21 : decode cX9_may 21 = .ok (.iconst 0, 1) := by decide +kernel
theorem dX9_may_22 : decode cX9_may 22 = .ok (.putfield 57, 3) := by decide +kernel
theorem dX9_may_25 : decode cX9_may 25 = .ok (.aload_n 0, 1) := by decide +kernel
theorem dX9_may_26 : decode cX9_may 26 = .ok (.getfield 57, 3) := by decide +kernel
theorem dX9_may_29 : decode cX9_may 29 = .ok (.ifCond .ne 7, 3) := by decide +kernel
theorem dX9_may_32 : decode cX9_may 32 = .ok (.iconst 1, 1) := by decide +kernel
theorem dX9_may_33 : decode cX9_may 33 = .ok (.goto 4, 3) := by decide +kernel
theorem dX9_may_36 : decode cX9_may 36 = .ok (.iconst 0, 1) := by decide +kernel
theorem dX9_may_37 : decode cX9_may 37 = .ok (.ireturn, 1) := by decide +kernel
theorem dX9_guard_0 : decode cX9_guard 0 = .ok (.aload_n 0, 1) := by decide +kernel
theorem dX9_guard_1 : decode cX9_guard 1 = .ok (.aload_n 0, 1) := by decide +kernel
theorem dX9_guard_2 : decode cX9_guard 2 = .ok (.getfield 9, 3) := by decide +kernel
theorem dX9_guard_5 : decode cX9_guard 5 = .ok (.sipush 167, 3) := by decide +kernel
theorem dX9_guard_8 : decode cX9_guard 8 = .ok (.iaload, 1) := by decide +kernel
theorem dX9_guard_9 : decode cX9_guard 9 = .ok (.ifCond .le 39, 3) := by decide +kernel
theorem dX9_guard_12 : decode cX9_guard 12 = .ok (.aload_n 0, 1) := by decide +kernel
theorem dX9_guard_13 : decode cX9_guard 13 = .ok (.aload_n 0, 1) := by decide +kernel
theorem dX9_guard_14 : decode cX9_guard 14 = .ok (.getfield 9, 3) := by decide +kernel
theorem dX9_guard_17 : decode cX9_guard 17 = .ok (.sipush 166, 3) := by decide +kernel
theorem dX9_guard_20 : decode cX9_guard 20 = .ok (.iaload, 1) := by decide +kernel
theorem dX9_guard_21 : decode cX9_guard 21 = .ok (.ifCond .ge 7, 3) := by decide +kernel
theorem dX9_guard_24 : decode cX9_guard 24 = .ok (.iconst 0, 1) := by decide +kernel
theorem dX9_guard_25 : decode cX9_guard 25 = .ok (.goto 11, 3) := by decide +kernel
theorem dX9_guard_28 : decode cX9_guard 28 = .ok (.aload_n 0, 1) := by decide +kernel
theorem dX9_guard_29 : decode cX9_guard 29 = .ok (.getfield 9, 3) := by decide +kernel
theorem dX9_guard_32 : decode cX9_guard 32 = .ok (.sipush 166, 3) := by decide +kernel
theorem dX9_guard_35 : decode cX9_guard 35 = .ok (.iaload, 1) := by decide +kernel
theorem dX9_guard_36 : decode cX9_guard 36 = .ok (.bipush 9, 2) := by decide +kernel
theorem dX9_guard_38 : decode cX9_guard 38 = .ok (.invokevirtual 60, 3) := by decide +kernel
theorem dX9_guard_41 : decode cX9_guard 41 = .ok (.ifCond .ne 7, 3) := by decide +kernel
theorem dX9_guard_44 : decode cX9_guard 44 = .ok (.iconst 1, 1) := by decide +kernel
theorem dX9_guard_45 : decode cX9_guard 45 = .ok (.goto 4, 3) := by decide +kernel
theorem dX9_guard_48 : decode cX9_guard 48 = .ok (.iconst 0, 1) := by decide +kernel
theorem dX9_guard_49 : decode cX9_guard 49 = .ok (.invokevirtual 252, 3) := by decide +kernel
theorem dX9_guard_52 : decode cX9_guard 52 = .ok (.ifCond .eq 12, 3) := by decide +kernel
theorem dX9_guard_55 : decode cX9_guard 55 = .ok (.aload_n 0, 1) := by decide +kernel
theorem dX9_guard_56 : decode cX9_guard 56 = .ok (.iconst 3, 1) := by decide +kernel
theorem dX9_guard_57 : decode cX9_guard 57 = .ok (.iconst 0, 1) := by decide +kernel
theorem dX9_guard_58 : decode cX9_guard 58 = .ok (.invokevirtual 249, 3) := by decide +kernel
theorem dX9_guard_61 : decode cX9_guard 61 = .ok (.goto 4, 3) := by decide +kernel
theorem dX9_guard_64 : decode cX9_guard 64 = .ok (.iconst 0, 1) := by decide +kernel
theorem dX9_guard_65 : decode cX9_guard 65 = .ok (.ireturn, 1) := by decide +kernel
theorem dX9_watch_0 : decode cX9_watch 0 = .ok (.aload_n 0, 1) := by decide +kernel
theorem dX9_watch_1 : decode cX9_watch 1 = .ok (.aload_n 0, 1) := by decide +kernel
theorem dX9_watch_2 : decode cX9_watch 2 = .ok (.getfield 9, 3) := by decide +kernel
theorem dX9_watch_5 : decode cX9_watch 5 = .ok (.sipush 167, 3) := by decide +kernel
theorem dX9_watch_8 : decode cX9_watch 8 = .ok (.iaload, 1) := by decide +kernel
theorem dX9_watch_9 : decode cX9_watch 9 = .ok (.ifCond .le 38, 3) := by decide +kernel
theorem dX9_watch_12 : decode cX9_watch 12 = .ok (.aload_n 0, 1) := by decide +kernel
theorem dX9_watch_13 : decode cX9_watch 13 = .ok (.aload_n 0, 1) := by decide +kernel
theorem dX9_watch_14 : decode cX9_watch 14 = .ok (.getfield 9, 3) := by decide +kernel
theorem dX9_watch_17 : decode cX9_watch 17 = .ok (.sipush 166, 3) := by decide +kernel
theorem dX9_watch_20 : decode cX9_watch 20 = .ok (.iaload, 1) := by decide +kernel
theorem dX9_watch_21 : decode cX9_watch 21 = .ok (.ifCond .ge 7, 3) := by decide +kernel
theorem dX9_watch_24 : decode cX9_watch 24 = .ok (.iconst 0, 1) := by decide +kernel
theorem dX9_watch_25 : decode cX9_watch 25 = .ok (.goto 11, 3) := by decide +kernel
theorem dX9_watch_28 : decode cX9_watch 28 = .ok (.aload_n 0, 1) := by decide +kernel
theorem dX9_watch_29 : decode cX9_watch 29 = .ok (.getfield 9, 3) := by decide +kernel
theorem dX9_watch_32 : decode cX9_watch 32 = .ok (.sipush 166, 3) := by decide +kernel
theorem dX9_watch_35 : decode cX9_watch 35 = .ok (.iaload, 1) := by decide +kernel
theorem dX9_watch_36 : decode cX9_watch 36 = .ok (.iconst 4, 1) := by decide +kernel
theorem dX9_watch_37 : decode cX9_watch 37 = .ok (.invokevirtual 60, 3) := by decide +kernel
theorem dX9_watch_40 : decode cX9_watch 40 = .ok (.ifCond .le 7, 3) := by decide +kernel
theorem dX9_watch_43 : decode cX9_watch 43 = .ok (.iconst 1, 1) := by decide +kernel
theorem dX9_watch_44 : decode cX9_watch 44 = .ok (.goto 4, 3) := by decide +kernel
theorem dX9_watch_47 : decode cX9_watch 47 = .ok (.iconst 0, 1) := by decide +kernel
theorem dX9_watch_48 : decode cX9_watch 48 = .ok (.invokevirtual 252, 3) := by decide +kernel
theorem dX9_watch_51 : decode cX9_watch 51 = .ok (.ifCond .eq 12, 3) := by decide +kernel
theorem dX9_watch_54 : decode cX9_watch 54 = .ok (.aload_n 0, 1) := by decide +kernel
theorem dX9_watch_55 : decode cX9_watch 55 = .ok (.iconst 4, 1) := by decide +kernel
theorem dX9_watch_56 : decode cX9_watch 56 = .ok (.iconst 0, 1) := by decide +kernel
theorem dX9_watch_57 : decode cX9_watch 57 = .ok (.invokevirtual 249, 3) := by decide +kernel
theorem dX9_watch_60 : decode cX9_watch 60 = .ok (.goto 4, 3) := by decide +kernel
theorem dX9_watch_63 : decode cX9_watch 63 = .ok (.iconst 0, 1) := by decide +kernel
theorem dX9_watch_64 : decode cX9_watch 64 = .ok (.ireturn, 1) := by decide +kernel
theorem dX9_reload_0 : decode cX9_reload 0 = .ok (.aload_n 0, 1) := by decide +kernel
theorem dX9_reload_1 : decode cX9_reload 1 = .ok (.aload_n 0, 1) := by decide +kernel
theorem dX9_reload_2 : decode cX9_reload 2 = .ok (.getfield 9, 3) := by decide +kernel
theorem dX9_reload_5 : decode cX9_reload 5 = .ok (.sipush 167, 3) := by decide +kernel
theorem dX9_reload_8 : decode cX9_reload 8 = .ok (.iaload, 1) := by decide +kernel
theorem dX9_reload_9 : decode cX9_reload 9 = .ok (.ifCond .le 7, 3) := by decide +kernel
theorem dX9_reload_12 : decode cX9_reload 12 = .ok (.iconst 1, 1) := by decide +kernel
theorem dX9_reload_13 : decode cX9_reload 13 = .ok (.goto 4, 3) := by decide +kernel
theorem dX9_reload_16 : decode cX9_reload 16 = .ok (.iconst 0, 1) := by decide +kernel
theorem dX9_reload_17 : decode cX9_reload 17 = .ok (.invokevirtual 252, 3) := by decide +kernel
theorem dX9_reload_20 : decode cX9_reload 20 = .ok (.ifCond .eq 12, 3) := by decide +kernel
theorem dX9_reload_23 : decode cX9_reload 23 = .ok (.aload_n 0, 1) := by decide +kernel
theorem dX9_reload_24 : decode cX9_reload 24 = .ok (.iconst 5, 1) := by decide +kernel
theorem dX9_reload_25 : decode cX9_reload 25 = .ok (.iconst 0, 1) := by decide +kernel
theorem dX9_reload_26 : decode cX9_reload 26 = .ok (.invokevirtual 249, 3) := by decide +kernel
theorem dX9_reload_29 : decode cX9_reload 29 = .ok (.goto 4, 3) := by decide +kernel
theorem dX9_reload_32 : decode cX9_reload 32 = .ok (.iconst 0, 1) := by decide +kernel
theorem dX9_reload_33 : decode cX9_reload 33 = .ok (.ireturn, 1) := by decide +kernel
theorem dX9_endTurn_0 : decode cX9_endTurn 0 = .ok (.aload_n 0, 1) := by decide +kernel
theorem dX9_endTurn_1 : decode cX9_endTurn 1 = .ok (.iconst 1, 1) := by decide +kernel
theorem dX9_endTurn_2 : decode cX9_endTurn 2 = .ok (.invokevirtual 252, 3) := by decide +kernel
theorem dX9_endTurn_5 : decode cX9_endTurn 5 = .ok (.ifCond .eq 13, 3) := by decide +kernel
theorem dX9_endTurn_8 : decode cX9_endTurn 8 = .ok (.aload_n 0, 1) := by decide +kernel
theorem dX9_endTurn_9 : decode cX9_endTurn 9 = .ok (.bipush 6, 2) := by decide +kernel
theorem dX9_endTurn_11 : decode cX9_endTurn 11 = .ok (.iconst 0, 1) := by decide +kernel
theorem dX9_endTurn_12 : decode cX9_endTurn 12 = .ok (.invokevirtual 249, 3) := by decide +kernel
theorem dX9_endTurn_15 : decode cX9_endTurn 15 = .ok (.goto 4, 3) := by decide +kernel
theorem dX9_endTurn_18 : decode cX9_endTurn 18 = .ok (.iconst 0, 1) := by decide +kernel
theorem dX9_endTurn_19 : decode cX9_endTurn 19 = .ok (.ireturn, 1) := by decide +kernel
theorem dX9_eventCount_0 : decode cX9_eventCount 0 = .ok (.aload_n 0, 1) := by decide +kernel
theorem dX9_eventCount_1 : decode cX9_eventCount 1 = .ok (.iconst 0, 1) := by decide +kernel
theorem dX9_eventCount_2 : decode cX9_eventCount 2 = .ok (.putfield 57, 3) := by decide +kernel
theorem dX9_eventCount_5 : decode cX9_eventCount 5 = .ok (.aload_n 0, 1) := by decide +kernel
theorem dX9_eventCount_6 : decode cX9_eventCount 6 = .ok (.getfield 9, 3) := by decide +kernel
theorem dX9_eventCount_9 : decode cX9_eventCount 9 = .ok (.sipush 168, 3) := by decide +kernel
theorem dX9_eventCount_12 : decode cX9_eventCount 12 = .ok (.iaload, 1) := by decide +kernel
theorem dX9_eventCount_13 : decode cX9_eventCount 13 = .ok (.ireturn, 1) := by decide +kernel
theorem dX9_event_0 : decode cX9_event 0 = .ok (.aload_n 0, 1) := by decide +kernel
theorem dX9_event_1 : decode cX9_event 1 = .ok (.iload_n 1, 1) := by decide +kernel
theorem dX9_event_2 : decode cX9_event 2 = .ok (.iconst 0, 1) := by decide +kernel
theorem dX9_event_3 : decode cX9_event 3 = .ok (.aload_n 0, 1) := by decide +kernel
theorem dX9_event_4 : decode cX9_event 4 = .ok (.getfield 9, 3) := by decide +kernel
theorem dX9_event_7 : decode cX9_event 7 = .ok (.sipush 168, 3) := by decide +kernel
theorem dX9_event_10 : decode cX9_event 10 = .ok (.iaload, 1) := by decide +kernel
theorem dX9_event_11 : decode cX9_event 11 = .ok (.iconst 1, 1) := by decide +kernel
theorem dX9_event_12 : decode cX9_event 12 = .ok (.isub, 1) := by decide +kernel
theorem dX9_event_13 : decode cX9_event 13 = .ok (.invokestatic 67, 3) := by decide +kernel
theorem dX9_event_16 : decode cX9_event 16 = .ok (.ifCond .eq 16, 3) := by decide +kernel
theorem dX9_event_19 : decode cX9_event 19 = .ok (.iload_n 2, 1) := by decide +kernel
theorem dX9_event_20 : decode cX9_event 20 = .ok (.iconst 0, 1) := by decide +kernel
theorem dX9_event_21 : decode cX9_event 21 = .ok (.iconst 2, 1) := by decide +kernel
theorem dX9_event_22 : decode cX9_event 22 = .ok (.invokestatic 67, 3) := by decide +kernel
theorem dX9_event_25 : decode cX9_event 25 = .ok (.ifCond .eq 7, 3) := by decide +kernel
theorem dX9_event_28 : decode cX9_event 28 = .ok (.iconst 0, 1) := by decide +kernel
theorem dX9_event_29 : decode cX9_event 29 = .ok (.goto 4, 3) := by decide +kernel
theorem dX9_event_32 : decode cX9_event 32 = .ok (.iconst 1, 1) := by decide +kernel
theorem dX9_event_33 : decode cX9_event 33 = .ok (.putfield 57, 3) := by decide +kernel
theorem dX9_event_36 : decode cX9_event 36 = .ok (.aload_n 0, 1) := by decide +kernel
theorem dX9_event_37 : decode cX9_event 37 = .ok (.getfield 57, 3) := by decide +kernel
theorem dX9_event_40 : decode cX9_event 40 = .ok (.ifCond .ne 20, 3) := by decide +kernel
theorem dX9_event_43 : decode cX9_event 43 = .ok (.aload_n 0, 1) := by decide +kernel
theorem dX9_event_44 : decode cX9_event 44 = .ok (.getfield 9, 3) := by decide +kernel
theorem dX9_event_47 : decode cX9_event 47 = .ok (.sipush 169, 3) := by decide +kernel
theorem dX9_event_50 : decode cX9_event 50 = .ok (.iconst 3, 1) := by decide +kernel
theorem dX9_event_51 : decode cX9_event 51 = .ok (.iload_n 1, 1) := by decide +kernel
theorem dX9_event_52 : decode cX9_event 52 = .ok (.imul, 1) := by decide +kernel
theorem dX9_event_53 : decode cX9_event 53 = .ok (.iadd, 1) := by decide +kernel
theorem dX9_event_54 : decode cX9_event 54 = .ok (.iload_n 2, 1) := by decide +kernel
theorem dX9_event_55 : decode cX9_event 55 = .ok (.iadd, 1) := by decide +kernel
theorem dX9_event_56 : decode cX9_event 56 = .ok (.iaload, 1) := by decide +kernel
theorem dX9_event_57 : decode cX9_event 57 = .ok (.goto 4, 3) := by decide +kernel
theorem dX9_event_60 : decode cX9_event 60 = .ok (.iconst 0, 1) := by decide +kernel
theorem dX9_event_61 : decode cX9_event 61 = .ok (.ireturn, 1) := by decide +kernel
theorem dX9_commandCount_0 : decode cX9_commandCount 0 = .ok (.aload_n 0, 1) := by decide +kernel
theorem dX9_commandCount_1 : decode cX9_commandCount 1 = .ok (.iconst 0, 1) := by decide +kernel
theorem dX9_commandCount_2 : decode cX9_commandCount 2 = .ok (.putfield 57, 3) := by decide +kernel
theorem dX9_commandCount_5 : decode cX9_commandCount 5 = .ok (.aload_n 0, 1) := by decide +kernel
theorem dX9_commandCount_6 : decode cX9_commandCount 6 = .ok (.getfield 9, 3) := by decide +kernel
theorem dX9_commandCount_9 : decode cX9_commandCount 9 = .ok (.sipush 289, 3) := by decide +kernel
theorem dX9_commandCount_12 : decode cX9_commandCount 12 = .ok (.iaload, 1) := by decide +kernel
theorem dX9_commandCount_13 : decode cX9_commandCount 13 = .ok (.ireturn, 1) := by decide +kernel
theorem dX9_undo_0 : decode cX9_undo 0 = .ok (.aload_n 0, 1) := by decide +kernel
theorem dX9_undo_1 : decode cX9_undo 1 = .ok (.aload_n 0, 1) := by decide +kernel
theorem dX9_undo_2 : decode cX9_undo 2 = .ok (.getfield 97, 3) := by decide +kernel
theorem dX9_undo_5 : decode cX9_undo 5 = .ok (.ifCond .ne 7, 3) := by decide +kernel
theorem dX9_undo_8 : decode cX9_undo 8 = .ok (.iconst 1, 1) := by decide +kernel
theorem dX9_undo_9 : decode cX9_undo 9 = .ok (.goto 4, 3) := by decide +kernel
theorem dX9_undo_12 : decode cX9_undo 12 = .ok (.iconst 0, 1) := by decide +kernel
theorem dX9_undo_13 : decode cX9_undo 13 = .ok (.putfield 57, 3) := by decide +kernel
theorem dX9_undo_16 : decode cX9_undo 16 = .ok (.aload_n 0, 1) := by decide +kernel
theorem dX9_undo_17 : decode cX9_undo 17 = .ok (.getfield 57, 3) := by decide +kernel
theorem dX9_undo_20 : decode cX9_undo 20 = .ok (.iconst 1, 1) := by decide +kernel
theorem dX9_undo_21 : decode cX9_undo 21 = .ok (.if_icmp .ne 5, 3) := by decide +kernel
theorem dX9_undo_24 : decode cX9_undo 24 = .ok (.iconst 0, 1) := by decide +kernel
theorem dX9_undo_25 : decode cX9_undo 25 = .ok (.ireturn, 1) := by decide +kernel
theorem dX9_undo_26 : decode cX9_undo 26 = .ok (.aload_n 0, 1) := by decide +kernel
theorem dX9_undo_27 : decode cX9_undo 27 = .ok (.dup, 1) := by decide +kernel
theorem dX9_undo_28 : decode cX9_undo 28 = .ok (.getfield 97, 3) := by decide +kernel
theorem dX9_undo_31 : decode cX9_undo 31 = .ok (.iconst 1, 1) := by decide +kernel
theorem dX9_undo_32 : decode cX9_undo 32 = .ok (.isub, 1) := by decide +kernel
theorem dX9_undo_33 : decode cX9_undo 33 = .ok (.putfield 97, 3) := by decide +kernel
theorem dX9_undo_36 : decode cX9_undo 36 = .ok (.iconst 0, 1) := by decide +kernel
theorem dX9_undo_37 : decode cX9_undo 37 = .ok (.istore_n 1, 1) := by decide +kernel
theorem dX9_undo_38 : decode cX9_undo 38 = .ok (.iload_n 1, 1) := by decide +kernel
theorem dX9_undo_39 : decode cX9_undo 39 = .ok (.sipush 290, 3) := by decide +kernel
theorem dX9_undo_42 : decode cX9_undo 42 = .ok (.if_icmp .ge 30, 3) := by decide +kernel
theorem dX9_undo_45 : decode cX9_undo 45 = .ok (.aload_n 0, 1) := by decide +kernel
theorem dX9_undo_46 : decode cX9_undo 46 = .ok (.getfield 9, 3) := by decide +kernel
theorem dX9_undo_49 : decode cX9_undo 49 = .ok (.iload_n 1, 1) := by decide +kernel
theorem dX9_undo_50 : decode cX9_undo 50 = .ok (.aload_n 0, 1) := by decide +kernel
theorem dX9_undo_51 : decode cX9_undo 51 = .ok (.getfield 25, 3) := by decide +kernel
theorem dX9_undo_54 : decode cX9_undo 54 = .ok (.aload_n 0, 1) := by decide +kernel
theorem dX9_undo_55 : decode cX9_undo 55 = .ok (.getfield 97, 3) := by decide +kernel
theorem dX9_undo_58 : decode cX9_undo 58 = .ok (.sipush 290, 3) := by decide +kernel
theorem dX9_undo_61 : decode cX9_undo 61 = .ok (.imul, 1) := by decide +kernel
theorem dX9_undo_62 : decode cX9_undo 62 = .ok (.iload_n 1, 1) := by decide +kernel
theorem dX9_undo_63 : decode cX9_undo 63 = .ok (.iadd, 1) := by decide +kernel
theorem dX9_undo_64 : decode cX9_undo 64 = .ok (.iaload, 1) := by decide +kernel
theorem dX9_undo_65 : decode cX9_undo 65 = .ok (.iastore, 1) := by decide +kernel
theorem dX9_undo_66 : decode cX9_undo 66 = .ok (.iinc 1 1, 3) := by decide +kernel
theorem dX9_undo_69 : decode cX9_undo 69 = .ok (.goto (-31), 3) := by decide +kernel
theorem dX9_undo_72 : decode cX9_undo 72 = .ok (.aload_n 0, 1) := by decide +kernel
theorem dX9_undo_73 : decode cX9_undo 73 = .ok (.getfield 97, 3) := by decide +kernel
theorem dX9_undo_76 : decode cX9_undo 76 = .ok (.ireturn, 1) := by decide +kernel
theorem dX9_isReplayed_0 : decode cX9_isReplayed 0 = .ok (.aload_n 0, 1) := by decide +kernel
theorem dX9_isReplayed_1 : decode cX9_isReplayed 1 = .ok (.aload_n 0, 1) := by decide +kernel
theorem dX9_isReplayed_2 : decode cX9_isReplayed 2 = .ok (.invokevirtual 123, 3) := by decide +kernel
theorem dX9_isReplayed_5 : decode cX9_isReplayed 5 = .ok (.ifCond .eq 7, 3) := by decide +kernel
theorem dX9_isReplayed_8 : decode cX9_isReplayed 8 = .ok (.iconst 0, 1) := by decide +kernel
theorem dX9_isReplayed_9 : decode cX9_isReplayed 9 = .ok (.goto 4, 3) := by decide +kernel
theorem dX9_isReplayed_12 : decode cX9_isReplayed 12 = .ok (.iconst 1, 1) := by decide +kernel
theorem dX9_isReplayed_13 : decode cX9_isReplayed 13 = .ok (.putfield 57, 3) := by decide +kernel
theorem dX9_isReplayed_16 : decode cX9_isReplayed 16 = .ok (.aload_n 0, 1) := by decide +kernel
theorem dX9_isReplayed_17 : decode cX9_isReplayed 17 = .ok (.getfield 57, 3) := by decide +kernel
theorem dX9_isReplayed_20 : decode cX9_isReplayed 20 = .ok (.iconst 1, 1) := by decide +kernel
theorem dX9_isReplayed_21 : decode cX9_isReplayed 21 = .ok (.if_icmp .ne 5, 3) := by decide +kernel
theorem dX9_isReplayed_24 : decode cX9_isReplayed 24 = .ok (.iconst 0, 1) := by decide +kernel
theorem dX9_isReplayed_25 : decode cX9_isReplayed 25 = .ok (.ireturn, 1) := by decide +kernel
theorem dX9_isReplayed_26 : decode cX9_isReplayed 26 = .ok (.aload_n 0, 1) := by decide +kernel
theorem dX9_isReplayed_27 : decode cX9_isReplayed 27 = .ok (.getfield 9, 3) := by decide +kernel
theorem dX9_isReplayed_30 : decode cX9_isReplayed 30 = .ok (.aload_n 0, 1) := by decide +kernel
theorem dX9_isReplayed_31 : decode cX9_isReplayed 31 = .ok (.getfield 22, 3) := by decide +kernel
theorem dX9_isReplayed_34 : decode cX9_isReplayed 34 = .ok (.sipush 290, 3) := by decide +kernel
theorem dX9_isReplayed_37 : decode cX9_isReplayed 37 = .ok (.invokestatic 173, 3) := by decide +kernel
theorem dX9_isReplayed_40 : decode cX9_isReplayed 40 = .ok (.aload_n 0, 1) := by decide +kernel
theorem dX9_isReplayed_41 : decode cX9_isReplayed 41 = .ok (.getfield 13, 3) := by decide +kernel
theorem dX9_isReplayed_44 : decode cX9_isReplayed 44 = .ok (.aload_n 0, 1) := by decide +kernel
theorem dX9_isReplayed_45 : decode cX9_isReplayed 45 = .ok (.getfield 9, 3) := by decide +kernel
theorem dX9_isReplayed_48 : decode cX9_isReplayed 48 = .ok (.sipush 290, 3) := by decide +kernel
theorem dX9_isReplayed_51 : decode cX9_isReplayed 51 = .ok (.invokestatic 173, 3) := by decide +kernel
theorem dX9_isReplayed_54 : decode cX9_isReplayed 54 = .ok (.aload_n 0, 1) := by decide +kernel
theorem dX9_isReplayed_55 : decode cX9_isReplayed 55 = .ok (.invokevirtual 177, 3) := by decide +kernel
theorem dX9_isReplayed_58 : decode cX9_isReplayed 58 = .ok (.iconst 0, 1) := by decide +kernel
theorem dX9_isReplayed_59 : decode cX9_isReplayed 59 = .ok (.istore_n 1, 1) := by decide +kernel
theorem dX9_isReplayed_60 : decode cX9_isReplayed 60 = .ok (.iload_n 1, 1) := by decide +kernel
theorem dX9_isReplayed_61 : decode cX9_isReplayed 61 = .ok (.aload_n 0, 1) := by decide +kernel
theorem dX9_isReplayed_62 : decode cX9_isReplayed 62 = .ok (.getfield 22, 3) := by decide +kernel
theorem dX9_isReplayed_65 : decode cX9_isReplayed 65 = .ok (.sipush 289, 3) := by decide +kernel
theorem dX9_isReplayed_68 : decode cX9_isReplayed 68 = .ok (.iaload, 1) := by decide +kernel
theorem dX9_isReplayed_69 : decode cX9_isReplayed 69 = .ok (.if_icmp .ge 35, 3) := by decide +kernel
theorem dX9_isReplayed_72 : decode cX9_isReplayed 72 = .ok (.aload_n 0, 1) := by decide +kernel
theorem dX9_isReplayed_73 : decode cX9_isReplayed 73 = .ok (.aload_n 0, 1) := by decide +kernel
theorem dX9_isReplayed_74 : decode cX9_isReplayed 74 = .ok (.aload_n 0, 1) := by decide +kernel
theorem dX9_isReplayed_75 : decode cX9_isReplayed 75 = .ok (.getfield 28, 3) := by decide +kernel
theorem dX9_isReplayed_78 : decode cX9_isReplayed 78 = .ok (.iconst 2, 1) := by decide +kernel
theorem dX9_isReplayed_79 : decode cX9_isReplayed 79 = .ok (.iload_n 1, 1) := by decide +kernel
theorem dX9_isReplayed_80 : decode cX9_isReplayed 80 = .ok (.imul, 1) := by decide +kernel
theorem dX9_isReplayed_81 : decode cX9_isReplayed 81 = .ok (.iaload, 1) := by decide +kernel
theorem dX9_isReplayed_82 : decode cX9_isReplayed 82 = .ok (.aload_n 0, 1) := by decide +kernel
theorem dX9_isReplayed_83 : decode cX9_isReplayed 83 = .ok (.getfield 28, 3) := by decide +kernel
theorem dX9_isReplayed_86 : decode cX9_isReplayed 86 = .ok (.iconst 2, 1) := by decide +kernel
theorem dX9_isReplayed_87 : decode cX9_isReplayed 87 = .ok (.iload_n 1, 1) := by decide +kernel
theorem dX9_isReplayed_88 : decode cX9_isReplayed 88 = .ok (.imul, 1) := by decide +kernel
theorem dX9_isReplayed_89 : decode cX9_isReplayed 89 = .ok (.iconst 1, 1) := by decide +kernel
theorem dX9_isReplayed_90 : decode cX9_isReplayed 90 = .ok (.iadd, 1) := by decide +kernel
theorem dX9_isReplayed_91 : decode cX9_isReplayed 91 = .ok (.iaload, 1) := by decide +kernel
theorem dX9_isReplayed_92 : decode cX9_isReplayed 92 = .ok (.invokevirtual 228, 3) := by decide +kernel
theorem dX9_isReplayed_95 : decode cX9_isReplayed 95 = .ok (.putfield 255, 3) := by decide +kernel
theorem dX9_isReplayed_98 : decode cX9_isReplayed 98 = .ok (.iinc 1 1, 3) := by decide +kernel
theorem dX9_isReplayed_101 : decode cX9_isReplayed 101 = .ok (.goto (-41), 3) := by decide +kernel
theorem dX9_isReplayed_104 : decode cX9_isReplayed 104 = .ok (.iconst 1, 1) := by decide +kernel
theorem dX9_isReplayed_105 : decode cX9_isReplayed 105 = .ok (.istore_n 1, 1) := by decide +kernel
theorem dX9_isReplayed_106 : decode cX9_isReplayed 106 = .ok (.iconst 0, 1) := by decide +kernel
theorem dX9_isReplayed_107 : decode cX9_isReplayed 107 = .ok (.istore_n 2, 1) := by decide +kernel
theorem dX9_isReplayed_108 : decode cX9_isReplayed 108 = .ok (.iload_n 2, 1) := by decide +kernel
theorem dX9_isReplayed_109 : decode cX9_isReplayed 109 = .ok (.sipush 290, 3) := by decide +kernel
theorem dX9_isReplayed_112 : decode cX9_isReplayed 112 = .ok (.if_icmp .ge 57, 3) := by decide +kernel
theorem dX9_isReplayed_115 : decode cX9_isReplayed 115 = .ok (.iload_n 1, 1) := by decide +kernel
theorem dX9_isReplayed_116 : decode cX9_isReplayed 116 = .ok (.aload_n 0, 1) := by decide +kernel
theorem dX9_isReplayed_117 : decode cX9_isReplayed 117 = .ok (.getfield 9, 3) := by decide +kernel
theorem dX9_isReplayed_120 : decode cX9_isReplayed 120 = .ok (.iload_n 2, 1) := by decide +kernel
theorem dX9_isReplayed_121 : decode cX9_isReplayed 121 = .ok (.iaload, 1) := by decide +kernel
theorem dX9_isReplayed_122 : decode cX9_isReplayed 122 = .ok (.aload_n 0, 1) := by decide +kernel
theorem dX9_isReplayed_123 : decode cX9_isReplayed 123 = .ok (.getfield 22, 3) := by decide +kernel
theorem dX9_isReplayed_126 : decode cX9_isReplayed 126 = .ok (.iload_n 2, 1) := by decide +kernel
theorem dX9_isReplayed_127 : decode cX9_isReplayed 127 = .ok (.iaload, 1) := by decide +kernel
theorem dX9_isReplayed_128 : decode cX9_isReplayed 128 = .ok (.if_icmp .eq 28, 3) := by decide +kernel
theorem dX9_isReplayed_131 : decode cX9_isReplayed 131 = .ok (.iload_n 2, 1) := by decide +kernel
theorem dX9_isReplayed_132 : decode cX9_isReplayed 132 = .ok (.sipush 169, 3) := by decide +kernel
theorem dX9_isReplayed_135 : decode cX9_isReplayed 135 = .ok (.iconst 3, 1) := by decide +kernel
theorem dX9_isReplayed_136 : decode cX9_isReplayed 136 = .ok (.aload_n 0, 1) := by decide +kernel
theorem dX9_isReplayed_137 : decode cX9_isReplayed 137 = .ok (.getfield 9, 3) := by decide +kernel
theorem dX9_isReplayed_140 : decode cX9_isReplayed 140 = .ok (.sipush 168, 3) := by decide +kernel
theorem dX9_isReplayed_143 : decode cX9_isReplayed 143 = .ok (.iaload, 1) := by decide +kernel
theorem dX9_isReplayed_144 : decode cX9_isReplayed 144 = .ok (.imul, 1) := by decide +kernel
theorem dX9_isReplayed_145 : decode cX9_isReplayed 145 = .ok (.iadd, 1) := by decide +kernel
theorem dX9_isReplayed_146 : decode cX9_isReplayed 146 = .ok (.if_icmp .lt 14, 3) := by decide +kernel
theorem dX9_isReplayed_149 : decode cX9_isReplayed 149 = .ok (.iload_n 2, 1) := by decide +kernel
theorem dX9_isReplayed_150 : decode cX9_isReplayed 150 = .ok (.sipush 289, 3) := by decide +kernel
theorem dX9_isReplayed_153 : decode cX9_isReplayed 153 = .ok (.if_icmp .ge 7, 3) := by decide +kernel
theorem dX9_isReplayed_156 : decode cX9_isReplayed 156 = .ok (.iconst 1, 1) := by decide +kernel
theorem dX9_isReplayed_157 : decode cX9_isReplayed 157 = .ok (.goto 4, 3) := by decide +kernel
theorem dX9_isReplayed_160 : decode cX9_isReplayed 160 = .ok (.iconst 0, 1) := by decide +kernel
theorem dX9_isReplayed_161 : decode cX9_isReplayed 161 = .ok (.iand, 1) := by decide +kernel
theorem dX9_isReplayed_162 : decode cX9_isReplayed 162 = .ok (.istore_n 1, 1) := by decide +kernel
theorem dX9_isReplayed_163 : decode cX9_isReplayed 163 = .ok (.iinc 2 1, 3) := by decide +kernel
theorem dX9_isReplayed_166 : decode cX9_isReplayed 166 = .ok (.goto (-58), 3) := by decide +kernel
theorem dX9_isReplayed_169 : decode cX9_isReplayed 169 = .ok (.aload_n 0, 1) := by decide +kernel
theorem dX9_isReplayed_170 : decode cX9_isReplayed 170 = .ok (.getfield 22, 3) := by decide +kernel
theorem dX9_isReplayed_173 : decode cX9_isReplayed 173 = .ok (.aload_n 0, 1) := by decide +kernel
theorem dX9_isReplayed_174 : decode cX9_isReplayed 174 = .ok (.getfield 9, 3) := by decide +kernel
theorem dX9_isReplayed_177 : decode cX9_isReplayed 177 = .ok (.sipush 290, 3) := by decide +kernel
theorem dX9_isReplayed_180 : decode cX9_isReplayed 180 = .ok (.invokestatic 173, 3) := by decide +kernel
theorem dX9_isReplayed_183 : decode cX9_isReplayed 183 = .ok (.iload_n 1, 1) := by decide +kernel
theorem dX9_isReplayed_184 : decode cX9_isReplayed 184 = .ok (.ireturn, 1) := by decide +kernel
theorem dX9_meanHealth_0 : decode cX9_meanHealth 0 = .ok (.aload_n 0, 1) := by decide +kernel
theorem dX9_meanHealth_1 : decode cX9_meanHealth 1 = .ok (.iload_n 1, 1) := by decide +kernel
theorem dX9_meanHealth_2 : decode cX9_meanHealth 2 = .ok (.iconst 0, 1) := by decide +kernel
theorem dX9_meanHealth_3 : decode cX9_meanHealth 3 = .ok (.iconst 1, 1) := by decide +kernel
theorem dX9_meanHealth_4 : decode cX9_meanHealth 4 = .ok (.invokestatic 67, 3) := by decide +kernel
theorem dX9_meanHealth_7 : decode cX9_meanHealth 7 = .ok (.ifCond .eq 7, 3) := by decide +kernel
theorem dX9_meanHealth_10 : decode cX9_meanHealth 10 = .ok (.iconst 0, 1) := by decide +kernel
theorem dX9_meanHealth_11 : decode cX9_meanHealth 11 = .ok (.goto 4, 3) := by decide +kernel
theorem dX9_meanHealth_14 : decode cX9_meanHealth 14 = .ok (.iconst 1, 1) := by decide +kernel
theorem dX9_meanHealth_15 : decode cX9_meanHealth 15 = .ok (.putfield 57, 3) := by decide +kernel
theorem dX9_meanHealth_18 : decode cX9_meanHealth 18 = .ok (.iconst 0, 1) := by decide +kernel
theorem dX9_meanHealth_19 : decode cX9_meanHealth 19 = .ok (.istore_n 2, 1) := by decide +kernel
theorem dX9_meanHealth_20 : decode cX9_meanHealth 20 = .ok (.iconst 0, 1) := by decide +kernel
theorem dX9_meanHealth_21 : decode cX9_meanHealth 21 = .ok (.istore_n 3, 1) := by decide +kernel
theorem dX9_meanHealth_22 : decode cX9_meanHealth 22 = .ok (.iconst 0, 1) := by decide +kernel
theorem dX9_meanHealth_23 : decode cX9_meanHealth 23 = .ok (.istore 4, 2) := by decide +kernel
theorem dX9_meanHealth_25 : decode cX9_meanHealth 25 = .ok (.iload 4, 2) := by decide +kernel
theorem dX9_meanHealth_27 : decode cX9_meanHealth 27 = .ok (.aload_n 0, 1) := by decide +kernel
theorem dX9_meanHealth_28 : decode cX9_meanHealth 28 = .ok (.getfield 9, 3) := by decide +kernel
theorem dX9_meanHealth_31 : decode cX9_meanHealth 31 = .ok (.bipush 66, 2) := by decide +kernel
theorem dX9_meanHealth_33 : decode cX9_meanHealth 33 = .ok (.iaload, 1) := by decide +kernel
theorem dX9_meanHealth_34 : decode cX9_meanHealth 34 = .ok (.if_icmp .ge 36, 3) := by decide +kernel
theorem dX9_meanHealth_37 : decode cX9_meanHealth 37 = .ok (.aload_n 0, 1) := by decide +kernel
theorem dX9_meanHealth_38 : decode cX9_meanHealth 38 = .ok (.iload 4, 2) := by decide +kernel
theorem dX9_meanHealth_40 : decode cX9_meanHealth 40 = .ok (.iconst 0, 1) := by decide +kernel
theorem dX9_meanHealth_41 : decode cX9_meanHealth 41 = .ok (.invokevirtual 60, 3) := by decide +kernel
theorem dX9_meanHealth_44 : decode cX9_meanHealth 44 = .ok (.iload_n 1, 1) := by decide +kernel
theorem dX9_meanHealth_45 : decode cX9_meanHealth 45 = .ok (.if_icmp .eq 6, 3) := by decide +kernel
theorem dX9_meanHealth_48 : decode cX9_meanHealth 48 = .ok (.goto 16, 3) := by decide +kernel
theorem dX9_meanHealth_51 : decode cX9_meanHealth 51 = .ok (.iload_n 2, 1) := by decide +kernel
theorem dX9_meanHealth_52 : decode cX9_meanHealth 52 = .ok (.aload_n 0, 1) := by decide +kernel
theorem dX9_meanHealth_53 : decode cX9_meanHealth 53 = .ok (.iload 4, 2) := by decide +kernel
theorem dX9_meanHealth_55 : decode cX9_meanHealth 55 = .ok (.iconst 3, 1) := by decide +kernel
theorem dX9_meanHealth_56 : decode cX9_meanHealth 56 = .ok (.invokevirtual 60, 3) := by decide +kernel
theorem dX9_meanHealth_59 : decode cX9_meanHealth 59 = .ok (.iadd, 1) := by decide +kernel
theorem dX9_meanHealth_60 : decode cX9_meanHealth 60 = .ok (.istore_n 2, 1) := by decide +kernel
theorem dX9_meanHealth_61 : decode cX9_meanHealth 61 = .ok (.iinc 3 1, 3) := by decide +kernel
theorem dX9_meanHealth_64 : decode cX9_meanHealth 64 = .ok (.iinc 4 1, 3) := by decide +kernel
theorem dX9_meanHealth_67 : decode cX9_meanHealth 67 = .ok (.goto (-42), 3) := by decide +kernel
theorem dX9_meanHealth_70 : decode cX9_meanHealth 70 = .ok (.aload_n 0, 1) := by decide +kernel
theorem dX9_meanHealth_71 : decode cX9_meanHealth 71 = .ok (.getfield 57, 3) := by decide +kernel
theorem dX9_meanHealth_74 : decode cX9_meanHealth 74 = .ok (.ifCond .ne 12, 3) := by decide +kernel
theorem dX9_meanHealth_77 : decode cX9_meanHealth 77 = .ok (.iload_n 3, 1) := by decide +kernel
theorem dX9_meanHealth_78 : decode cX9_meanHealth 78 = .ok (.ifCond .ne 8, 3) := by decide +kernel
theorem dX9_meanHealth_81 : decode cX9_meanHealth 81 = .ok (.aload_n 0, 1) := by decide +kernel
theorem dX9_meanHealth_82 : decode cX9_meanHealth 82 = .ok (.iconst 2, 1) := by decide +kernel
theorem dX9_meanHealth_83 : decode cX9_meanHealth 83 = .ok (.putfield 57, 3) := by decide +kernel
theorem dX9_meanHealth_86 : decode cX9_meanHealth 86 = .ok (.aload_n 0, 1) := by decide +kernel
theorem dX9_meanHealth_87 : decode cX9_meanHealth 87 = .ok (.getfield 57, 3) := by decide +kernel
theorem dX9_meanHealth_90 : decode cX9_meanHealth 90 = .ok (.ifCond .le 7, 3) := by decide +kernel
theorem dX9_meanHealth_93 : decode cX9_meanHealth 93 = .ok (.fconst 0, 1) := by decide +kernel
theorem dX9_meanHealth_94 : decode cX9_meanHealth 94 = .ok (.goto 8, 3) := by decide +kernel
theorem dX9_meanHealth_97 : decode cX9_meanHealth 97 = .ok (.iload_n 2, 1) := by decide +kernel
theorem dX9_meanHealth_98 : decode cX9_meanHealth 98 = .ok (.i2f, 1) := by decide +kernel
theorem dX9_meanHealth_99 : decode cX9_meanHealth 99 = .ok (.iload_n 3, 1) := by decide +kernel
theorem dX9_meanHealth_100 : decode cX9_meanHealth 100 = .ok (.i2f, 1) := by decide +kernel
theorem dX9_meanHealth_101 : decode cX9_meanHealth 101 = .ok (.fdiv, 1) := by decide +kernel
theorem dX9_meanHealth_102 : decode cX9_meanHealth 102 = .ok (.freturn, 1) := by decide +kernel
abbrev rmX9_bestTarget : Room := { frames := 4, cells := 0, slots := 0, locals := 100 }
def wX9_bestTarget_111 (Q : Int32 → MS → Prop) (QX : String → MS → Prop) (k40 : MS → Nat → Int32 → Int32 → Int32 → Prop) (S : MS) (a0 : Nat) (y2 : Int32) (y3 : Int32) : Prop := k40 S a0 y3 y2 (y3 + 1)
set_option maxHeartbeats 4000000 in
set_option maxRecDepth 100000 in
theorem tX9_bestTarget_111 {p : Program} {l : Launch} {e : Env} {s : State} {m : MethodId} {args : Array Value} {below : List Frame} {meth : Method} {c : Code} {H : Heap} {locs : List Loc} {cells slots : Nat} {G : GP} {A : Nat → Prop} {S0 : MS} {ls : Array Slot} (C : CF p l s m args meth c "SkirmishGridModel" cX9_bestTarget 5 G A) (hr : meth.sig.returnType = (some .int)) (hex : ∀ x ∈ c.exceptionTable.toList, False) (Q : Int32 → MS → Prop) (QX : String → MS → Prop) (k40 : MS → Nat → Int32 → Int32 → Int32 → Prop) (kh40 : ∀ (S : MS) (a0 : Nat) (y1 : Int32) (y2 : Int32) (y3 : Int32) (cells slots : Nat) (H : Heap) (locs : List Loc) (ls : Array Slot), pI S 9 a0 → PW G A s H locs S0 S → lv_has ls 5 [(0, .ref a0), (1, .int y1), (2, .int y2), (3, .int y3)] → cells + 0 ≤ 0 → slots + 0 ≤ 0 → k40 S a0 y1 y2 y3 → W p l e rmX9_bestTarget s m args below meth c H locs cells slots (vx_MQ below (QI G S0 A Q) (XX G S0 A QX) args s 0 0 A) (F0 m 40 ls [])) (S : MS) (a0 : Nat) (y2 : Int32) (y3 : Int32) (p_a0 : pI S 9 a0) (P : PW G A s H locs S0 S) (hl : lv_has ls 5 [(0, .ref a0), (2, .int y2), (3, .int y3)]) (hcc : cells + 0 ≤ 0) (hss : slots + 0 ≤ 0) (hw : wX9_bestTarget_111 Q QX k40 S a0 y2 y3) : W p l e rmX9_bestTarget s m args below meth c H locs cells slots (vx_MQ below (QI G S0 A Q) (XX G S0 A QX) args s 0 0 A) (F0 m 111 ls []) := by
  have hx := CF_x C
  have hb := CF_b C
  unfold wX9_bestTarget_111 at hw
  refine lv_iload_n hx hb dX9_bestTarget_111 rfl (lv_at hl 2 rfl) ?_
  refine lv_istore_n (lv' := [(1, .int y3), (0, .ref a0), (2, .int y2), (3, .int y3)]) hx hb dX9_bestTarget_112 rfl hl (by decide) rfl (fun ls hl => ?_)
  refine lv_iinc (v := (y3 + 1)) (lv' := [(3, .int (y3 + 1)), (1, .int y3), (0, .ref a0), (2, .int y2)]) hx hb dX9_bestTarget_113 hl (k := 3) rfl (by rfl) (by decide) rfl (fun ls hl => ?_)
  refine lv_goto (tgt := 40) hx hb dX9_bestTarget_116 (by decide) ?_
  exact kh40 S a0 y3 y2 (y3 + 1) _ _ _ _ _ p_a0 P (lv_sub hl [2, 1, 3, 0] rfl) (by omega) (by omega) hw
def wX9_bestTarget_84 (Q : Int32 → MS → Prop) (QX : String → MS → Prop) (k40 : MS → Nat → Int32 → Int32 → Int32 → Prop) (S : MS) (a0 : Nat) (y1 : Int32) (y2 : Int32) (y3 : Int32) (z0 : Int32) : Prop := ((0 < z0 → wX9_bestTarget_111 Q QX k40 S a0 y2 y3) ∧ (¬ 0 < z0 → ((¬ z0 = 0 → k40 S a0 y1 y2 (y3 + 1)) ∧ (z0 = 0 → wp_X9_of (fun r2 S1 => wp_X9_of (fun r4 S3 => ((r4 ≤ r2 → k40 S3 a0 y1 y2 (y3 + 1)) ∧ (¬ r4 ≤ r2 → wX9_bestTarget_111 Q QX k40 S3 a0 y2 y3))) QX S1 a0 y1 3) QX S a0 y3 3))))
set_option maxHeartbeats 4000000 in
set_option maxRecDepth 100000 in
theorem tX9_bestTarget_84 {p : Program} {l : Launch} {e : Env} {s : State} {m : MethodId} {args : Array Value} {below : List Frame} {meth : Method} {c : Code} {H : Heap} {locs : List Loc} {cells slots : Nat} {G : GP} {A : Nat → Prop} {S0 : MS} {ls : Array Slot} (C : CF p l s m args meth c "SkirmishGridModel" cX9_bestTarget 5 G A) (hr : meth.sig.returnType = (some .int)) (hex : ∀ x ∈ c.exceptionTable.toList, False) (Q : Int32 → MS → Prop) (QX : String → MS → Prop) (k40 : MS → Nat → Int32 → Int32 → Int32 → Prop) (kh40 : ∀ (S : MS) (a0 : Nat) (y1 : Int32) (y2 : Int32) (y3 : Int32) (cells slots : Nat) (H : Heap) (locs : List Loc) (ls : Array Slot), pI S 9 a0 → PW G A s H locs S0 S → lv_has ls 5 [(0, .ref a0), (1, .int y1), (2, .int y2), (3, .int y3)] → cells + 0 ≤ 0 → slots + 0 ≤ 0 → k40 S a0 y1 y2 y3 → W p l e rmX9_bestTarget s m args below meth c H locs cells slots (vx_MQ below (QI G S0 A Q) (XX G S0 A QX) args s 0 0 A) (F0 m 40 ls [])) (S : MS) (a0 : Nat) (y1 : Int32) (y2 : Int32) (y3 : Int32) (z0 : Int32) (p_a0 : pI S 9 a0) (P : PW G A s H locs S0 S) (hl : lv_has ls 5 [(0, .ref a0), (1, .int y1), (2, .int y2), (3, .int y3)]) (hcc : cells + 0 ≤ 0) (hss : slots + 0 ≤ 0) (hw : wX9_bestTarget_84 Q QX k40 S a0 y1 y2 y3 z0) : W p l e rmX9_bestTarget s m args below meth c H locs cells slots (vx_MQ below (QI G S0 A Q) (XX G S0 A QX) args s 0 0 A) (F0 m 84 ls [.int z0]) := by
  have hx := CF_x C
  have hb := CF_b C
  unfold wX9_bestTarget_84 at hw
  refine lv_istore (lv' := [(4, .int z0), (0, .ref a0), (1, .int y1), (2, .int y2), (3, .int y3)]) hx hb dX9_bestTarget_84 hl (by decide) rfl (fun ls hl => ?_)
  refine lv_iload hx hb dX9_bestTarget_86 (lv_at hl 0 rfl) ?_
  refine lv_if_gt (tgt := 111) hx hb dX9_bestTarget_88 (by decide) (fun hc => ?_) (fun hc => ?_)
  · have hw := hw.1 hc
    exact tX9_bestTarget_111 C hr hex Q QX k40 kh40 S a0 y2 y3 p_a0 P (lv_sub hl [1, 3, 4] rfl) (by omega) (by omega) hw
  · have hw := hw.2 hc
    refine lv_iload hx hb dX9_bestTarget_91 (lv_at hl 0 rfl) ?_
    refine lv_if_ne (tgt := 113) hx hb dX9_bestTarget_93 (by decide) (fun hc => ?_) (fun hc => ?_)
    · have hw := hw.1 hc
      refine lv_iinc (v := (y3 + 1)) (lv' := [(3, .int (y3 + 1)), (4, .int z0), (0, .ref a0), (1, .int y1), (2, .int y2)]) hx hb dX9_bestTarget_113 hl (k := 4) rfl (by rfl) (by decide) rfl (fun ls hl => ?_)
      refine lv_goto (tgt := 40) hx hb dX9_bestTarget_116 (by decide) ?_
      exact kh40 S a0 y1 y2 (y3 + 1) _ _ _ _ _ p_a0 P (lv_sub hl [2, 3, 4, 0] rfl) (by omega) (by omega) hw
    · have hw := hw.2 hc
      refine lv_aload_n hx hb dX9_bestTarget_96 rfl (lv_at hl 1 rfl) ?_
      refine lv_iload_n hx hb dX9_bestTarget_97 rfl (lv_at hl 4 rfl) ?_
      refine lv_iconst (v := 3) hx hb dX9_bestTarget_98 (by decide) ?_
      refine cl_i C P (run_V C P hl.1 (kd := 9) (met_X9_of (CF_n C) G H.size _ _ S a0 y3 3 p_a0 hw) p_a0 (by decide) rfl q_1457 q_1459 q_p34 q_10 q_1460 cd_X9_of ⟨(Nat.le_of_ble_eq_true rfl), (Nat.le_of_ble_eq_true rfl)⟩ rfl rfl (As := [.int y3, .int 3]) (rest := []) rfl rfl (Nat.le_of_ble_eq_true rfl) dX9_bestTarget_99 ⟨by show cells + 0 ≤ 0; omega, by show slots + 0 ≤ 0; omega⟩) (kx_out C hex (fun _ _ _ h => h) (by omega) (by omega)) (fun r2 S1 H locs P hE hw => ?_)
      have p_a0 : pI S1 9 a0 := pI_x hE p_a0
      refine lv_aload_n hx hb dX9_bestTarget_102 rfl (lv_at hl 1 rfl) ?_
      refine lv_iload_n hx hb dX9_bestTarget_103 rfl (lv_at hl 2 rfl) ?_
      refine lv_iconst (v := 3) hx hb dX9_bestTarget_104 (by decide) ?_
      refine cl_i C P (run_V C P hl.1 (kd := 9) (met_X9_of (CF_n C) G H.size _ _ S1 a0 y1 3 p_a0 hw) p_a0 (by decide) rfl q_1457 q_1459 q_p34 q_10 q_1460 cd_X9_of ⟨(Nat.le_of_ble_eq_true rfl), (Nat.le_of_ble_eq_true rfl)⟩ rfl rfl (As := [.int y1, .int 3]) (rest := [.int r2]) rfl rfl (Nat.le_of_ble_eq_true rfl) dX9_bestTarget_105 ⟨by show cells + 0 ≤ 0; omega, by show slots + 0 ≤ 0; omega⟩) (kx_out C hex (fun _ _ _ h => h) (by omega) (by omega)) (fun r4 S3 H locs P hE hw => ?_)
      have p_a0 : pI S3 9 a0 := pI_x hE p_a0
      refine lv_icmp_ge (tgt := 113) hx hb dX9_bestTarget_108 (by decide) (fun hc => ?_) (fun hc => ?_)
      · have hw := hw.1 hc
        refine lv_iinc (v := (y3 + 1)) (lv' := [(3, .int (y3 + 1)), (4, .int z0), (0, .ref a0), (1, .int y1), (2, .int y2)]) hx hb dX9_bestTarget_113 hl (k := 4) rfl (by rfl) (by decide) rfl (fun ls hl => ?_)
        refine lv_goto (tgt := 40) hx hb dX9_bestTarget_116 (by decide) ?_
        exact kh40 S3 a0 y1 y2 (y3 + 1) _ _ _ _ _ p_a0 P (lv_sub hl [2, 3, 4, 0] rfl) (by omega) (by omega) hw
      · have hw := hw.2 hc
        exact tX9_bestTarget_111 C hr hex Q QX k40 kh40 S3 a0 y2 y3 p_a0 P (lv_sub hl [1, 3, 4] rfl) (by omega) (by omega) hw
def wX9_bestTarget_40 (Q : Int32 → MS → Prop) (QX : String → MS → Prop) (k40 : MS → Nat → Int32 → Int32 → Int32 → Prop) (S : MS) (a0 : Nat) (y1 : Int32) (y2 : Int32) (y3 : Int32) : Prop := (∃ a1, mR S a0 1 = some a1 ∧ (vp_in 66 (mN S a1) ∧ (((mI S a1 (66 : Int32).toNatClampNeg) ≤ y3 → ((0 ≤ y1 → Q y1 S) ∧ (¬ 0 ≤ y1 → wp_X9_no (fun r3 S2 => Q r3 S2) QX S a0 2))) ∧ (¬ (mI S a1 (66 : Int32).toNatClampNeg) ≤ y3 → wp_X9_canAttack (fun r5 S4 => ((¬ r5 = 0 → ((0 ≤ y1 → wp_X9_damages (fun r7 S6 => wp_X9_damages (fun r9 S8 => wX9_bestTarget_84 Q QX k40 S8 a0 y1 y2 y3 (r7 - r9)) QX S6 a0 y2 y1) QX S4 a0 y2 y3) ∧ (¬ 0 ≤ y1 → wX9_bestTarget_84 Q QX k40 S4 a0 y1 y2 y3 1))) ∧ (r5 = 0 → k40 S4 a0 y1 y2 (y3 + 1)))) QX S a0 y2 y3))))
set_option maxHeartbeats 4000000 in
set_option maxRecDepth 100000 in
theorem tX9_bestTarget_40 {p : Program} {l : Launch} {e : Env} {s : State} {m : MethodId} {args : Array Value} {below : List Frame} {meth : Method} {c : Code} {H : Heap} {locs : List Loc} {cells slots : Nat} {G : GP} {A : Nat → Prop} {S0 : MS} {ls : Array Slot} (C : CF p l s m args meth c "SkirmishGridModel" cX9_bestTarget 5 G A) (hr : meth.sig.returnType = (some .int)) (hex : ∀ x ∈ c.exceptionTable.toList, False) (Q : Int32 → MS → Prop) (QX : String → MS → Prop) (k40 : MS → Nat → Int32 → Int32 → Int32 → Prop) (kh40 : ∀ (S : MS) (a0 : Nat) (y1 : Int32) (y2 : Int32) (y3 : Int32) (cells slots : Nat) (H : Heap) (locs : List Loc) (ls : Array Slot), pI S 9 a0 → PW G A s H locs S0 S → lv_has ls 5 [(0, .ref a0), (1, .int y1), (2, .int y2), (3, .int y3)] → cells + 0 ≤ 0 → slots + 0 ≤ 0 → k40 S a0 y1 y2 y3 → W p l e rmX9_bestTarget s m args below meth c H locs cells slots (vx_MQ below (QI G S0 A Q) (XX G S0 A QX) args s 0 0 A) (F0 m 40 ls [])) (S : MS) (a0 : Nat) (y1 : Int32) (y2 : Int32) (y3 : Int32) (p_a0 : pI S 9 a0) (P : PW G A s H locs S0 S) (hl : lv_has ls 5 [(0, .ref a0), (1, .int y1), (2, .int y2), (3, .int y3)]) (hcc : cells + 0 ≤ 0) (hss : slots + 0 ≤ 0) (hw : wX9_bestTarget_40 Q QX k40 S a0 y1 y2 y3) : W p l e rmX9_bestTarget s m args below meth c H locs cells slots (vx_MQ below (QI G S0 A Q) (XX G S0 A QX) args s 0 0 A) (F0 m 40 ls []) := by
  have hx := CF_x C
  have hb := CF_b C
  unfold wX9_bestTarget_40 at hw
  refine lv_iload_n hx hb dX9_bestTarget_40 rfl (lv_at hl 3 rfl) ?_
  refine lv_aload_n hx hb dX9_bestTarget_41 rfl (lv_at hl 0 rfl) ?_
  obtain ⟨a1, e1, hw⟩ := hw
  have p_a1 : pI S 12 a1 := wf_r P.2.2.2.1 p_a0 e1
  refine gf_9_1 C P p_a0 e1 q_1306 dX9_bestTarget_42 ?_
  refine lv_bipush (v := 66) hx hb dX9_bestTarget_45 (by decide) ?_
  obtain ⟨h1, hw⟩ := hw
  refine ra_i C P p_a1 h1 dX9_bestTarget_47 ?_
  refine lv_icmp_ge (tgt := 119) hx hb dX9_bestTarget_48 (by decide) (fun hc => ?_) (fun hc => ?_)
  · have hw := hw.1 hc
    refine lv_iload_n hx hb dX9_bestTarget_119 rfl (lv_at hl 1 rfl) ?_
    refine lv_if_ge (tgt := 131) hx hb dX9_bestTarget_120 (by decide) (fun hc => ?_) (fun hc => ?_)
    · have hw := hw.1 hc
      refine lv_iload_n hx hb dX9_bestTarget_131 rfl (lv_at hl 1 rfl) ?_
      exact e_i C hr rfl P hw (by omega) (by omega) dX9_bestTarget_132
    · have hw := hw.2 hc
      refine lv_aload_n hx hb dX9_bestTarget_123 rfl (lv_at hl 0 rfl) ?_
      refine lv_iconst (v := 2) hx hb dX9_bestTarget_124 (by decide) ?_
      refine cl_i C P (run_V C P hl.1 (kd := 9) (met_X9_no (CF_n C) G H.size _ _ S a0 2 p_a0 hw) p_a0 (by decide) rfl q_1386 q_1388 q_p23 q_10 q_1389 cd_X9_no ⟨(Nat.le_of_ble_eq_true rfl), (Nat.le_of_ble_eq_true rfl)⟩ rfl rfl (As := [.int 2]) (rest := []) rfl rfl (Nat.le_of_ble_eq_true rfl) dX9_bestTarget_125 ⟨by show cells + 0 ≤ 0; omega, by show slots + 0 ≤ 0; omega⟩) (kx_out C hex (fun _ _ _ h => h) (by omega) (by omega)) (fun r3 S2 H locs P hE hw => ?_)
      have p_a0 : pI S2 9 a0 := pI_x hE p_a0
      refine lv_goto (tgt := 132) hx hb dX9_bestTarget_128 (by decide) ?_
      exact e_i C hr rfl P hw (by omega) (by omega) dX9_bestTarget_132
  · have hw := hw.2 hc
    refine lv_aload_n hx hb dX9_bestTarget_51 rfl (lv_at hl 0 rfl) ?_
    refine lv_iload_n hx hb dX9_bestTarget_52 rfl (lv_at hl 2 rfl) ?_
    refine lv_iload_n hx hb dX9_bestTarget_53 rfl (lv_at hl 3 rfl) ?_
    refine cl_i C P (run_V C P hl.1 (kd := 9) (met_X9_canAttack (CF_n C) G H.size _ _ S a0 y2 y3 p_a0 hw) p_a0 (by decide) rfl q_1596 q_1598 q_p57 q_10 q_1599 cd_X9_canAttack ⟨(Nat.le_of_ble_eq_true rfl), (Nat.le_of_ble_eq_true rfl)⟩ rfl rfl (As := [.int y2, .int y3]) (rest := []) rfl rfl (Nat.le_of_ble_eq_true rfl) dX9_bestTarget_54 ⟨by show cells + 0 ≤ 0; omega, by show slots + 0 ≤ 0; omega⟩) (kx_out C hex (fun _ _ _ h => h) (by omega) (by omega)) (fun r5 S4 H locs P hE hw => ?_)
    have p_a0 : pI S4 9 a0 := pI_x hE p_a0
    refine lv_if_ne (tgt := 63) hx hb dX9_bestTarget_57 (by decide) (fun hc => ?_) (fun hc => ?_)
    · have hw := hw.1 hc
      refine lv_iload_n hx hb dX9_bestTarget_63 rfl (lv_at hl 1 rfl) ?_
      refine lv_if_ge (tgt := 71) hx hb dX9_bestTarget_64 (by decide) (fun hc => ?_) (fun hc => ?_)
      · have hw := hw.1 hc
        refine lv_aload_n hx hb dX9_bestTarget_71 rfl (lv_at hl 0 rfl) ?_
        refine lv_iload_n hx hb dX9_bestTarget_72 rfl (lv_at hl 2 rfl) ?_
        refine lv_iload_n hx hb dX9_bestTarget_73 rfl (lv_at hl 3 rfl) ?_
        refine cl_i C P (run_V C P hl.1 (kd := 9) (met_X9_damages (CF_n C) G H.size _ _ S4 a0 y2 y3 p_a0 hw) p_a0 (by decide) rfl q_1613 q_1615 q_p60 q_10 q_1616 cd_X9_damages ⟨(Nat.le_of_ble_eq_true rfl), (Nat.le_of_ble_eq_true rfl)⟩ rfl rfl (As := [.int y2, .int y3]) (rest := []) rfl rfl (Nat.le_of_ble_eq_true rfl) dX9_bestTarget_74 ⟨by show cells + 0 ≤ 0; omega, by show slots + 0 ≤ 0; omega⟩) (kx_out C hex (fun _ _ _ h => h) (by omega) (by omega)) (fun r7 S6 H locs P hE hw => ?_)
        have p_a0 : pI S6 9 a0 := pI_x hE p_a0
        refine lv_aload_n hx hb dX9_bestTarget_77 rfl (lv_at hl 0 rfl) ?_
        refine lv_iload_n hx hb dX9_bestTarget_78 rfl (lv_at hl 2 rfl) ?_
        refine lv_iload_n hx hb dX9_bestTarget_79 rfl (lv_at hl 1 rfl) ?_
        refine cl_i C P (run_V C P hl.1 (kd := 9) (met_X9_damages (CF_n C) G H.size _ _ S6 a0 y2 y1 p_a0 hw) p_a0 (by decide) rfl q_1613 q_1615 q_p60 q_10 q_1616 cd_X9_damages ⟨(Nat.le_of_ble_eq_true rfl), (Nat.le_of_ble_eq_true rfl)⟩ rfl rfl (As := [.int y2, .int y1]) (rest := [.int r7]) rfl rfl (Nat.le_of_ble_eq_true rfl) dX9_bestTarget_80 ⟨by show cells + 0 ≤ 0; omega, by show slots + 0 ≤ 0; omega⟩) (kx_out C hex (fun _ _ _ h => h) (by omega) (by omega)) (fun r9 S8 H locs P hE hw => ?_)
        have p_a0 : pI S8 9 a0 := pI_x hE p_a0
        refine lv_isub hx hb dX9_bestTarget_83 ?_
        exact tX9_bestTarget_84 C hr hex Q QX k40 kh40 S8 a0 y1 y2 y3 (r7 - r9) p_a0 P (lv_sub hl [0, 1, 2, 3] rfl) (by omega) (by omega) hw
      · have hw := hw.2 hc
        refine lv_iconst (v := 1) hx hb dX9_bestTarget_67 (by decide) ?_
        refine lv_goto (tgt := 84) hx hb dX9_bestTarget_68 (by decide) ?_
        exact tX9_bestTarget_84 C hr hex Q QX k40 kh40 S4 a0 y1 y2 y3 1 p_a0 P (lv_sub hl [0, 1, 2, 3] rfl) (by omega) (by omega) hw
    · have hw := hw.2 hc
      refine lv_goto (tgt := 113) hx hb dX9_bestTarget_60 (by decide) ?_
      refine lv_iinc (v := (y3 + 1)) (lv' := [(3, .int (y3 + 1)), (0, .ref a0), (1, .int y1), (2, .int y2)]) hx hb dX9_bestTarget_113 hl (k := 3) rfl (by rfl) (by decide) rfl (fun ls hl => ?_)
      refine lv_goto (tgt := 40) hx hb dX9_bestTarget_116 (by decide) ?_
      exact kh40 S4 a0 y1 y2 (y3 + 1) _ _ _ _ _ p_a0 P (lv_sub hl [1, 2, 3, 0] rfl) (by omega) (by omega) hw
def lX9_bestTarget_40 (Q : Int32 → MS → Prop) (QX : String → MS → Prop) : Nat → MS → Nat → Int32 → Int32 → Int32 → Prop
  | 0 => fun _ _ _ _ _ => False
  | n + 1 => fun S a0 y1 y2 y3 => wX9_bestTarget_40 Q QX (lX9_bestTarget_40 Q QX n) S a0 y1 y2 y3
theorem tlX9_bestTarget_40 {p : Program} {l : Launch} {e : Env} {s : State} {m : MethodId} {args : Array Value} {below : List Frame} {meth : Method} {c : Code} {G : GP} {A : Nat → Prop} {S0 : MS} (C : CF p l s m args meth c "SkirmishGridModel" cX9_bestTarget 5 G A) (hr : meth.sig.returnType = (some .int)) (hex : ∀ x ∈ c.exceptionTable.toList, False) (Q : Int32 → MS → Prop) (QX : String → MS → Prop) : ∀ (n : Nat), ∀ (S : MS) (a0 : Nat) (y1 : Int32) (y2 : Int32) (y3 : Int32) (cells slots : Nat) (H : Heap) (locs : List Loc) (ls : Array Slot), pI S 9 a0 → PW G A s H locs S0 S → lv_has ls 5 [(0, .ref a0), (1, .int y1), (2, .int y2), (3, .int y3)] → cells + 0 ≤ 0 → slots + 0 ≤ 0 → lX9_bestTarget_40 Q QX n S a0 y1 y2 y3 → W p l e rmX9_bestTarget s m args below meth c H locs cells slots (vx_MQ below (QI G S0 A Q) (XX G S0 A QX) args s 0 0 A) (F0 m 40 ls []) := by
  intro n
  induction n with
  | zero => intro S a0 y1 y2 y3 cells slots H locs ls p_a0 P hl hcc hss hw; exact hw.elim
  | succ n ih => intro S a0 y1 y2 y3 cells slots H locs ls p_a0 P hl hcc hss hw; exact tX9_bestTarget_40 C hr hex Q QX (lX9_bestTarget_40 Q QX n) ih S a0 y1 y2 y3 p_a0 P hl hcc hss hw
def wX9_bestTarget_14 (Q : Int32 → MS → Prop) (QX : String → MS → Prop) (S : MS) (a0 : Nat) (z0 : Int32) (w1 : Nat) : Prop := (∀ S1, S1 = (sI S w1 0 z0) → ((¬ (mI S1 a0 0) = 1 → (∃ a2, mR S1 a0 1 = some a2 ∧ (vp_in 166 (mN S1 a2) ∧ (∃ n, lX9_bestTarget_40 Q QX n S1 a0 (-1) (mI S1 a2 (166 : Int32).toNatClampNeg) 0)))) ∧ ((mI S1 a0 0) = 1 → Q 0 S1)))
set_option maxHeartbeats 4000000 in
set_option maxRecDepth 100000 in
theorem tX9_bestTarget_14 {p : Program} {l : Launch} {e : Env} {s : State} {m : MethodId} {args : Array Value} {below : List Frame} {meth : Method} {c : Code} {H : Heap} {locs : List Loc} {cells slots : Nat} {G : GP} {A : Nat → Prop} {S0 : MS} {ls : Array Slot} (C : CF p l s m args meth c "SkirmishGridModel" cX9_bestTarget 5 G A) (hr : meth.sig.returnType = (some .int)) (hex : ∀ x ∈ c.exceptionTable.toList, False) (Q : Int32 → MS → Prop) (QX : String → MS → Prop) (S : MS) (a0 : Nat) (z0 : Int32) (w1 : Nat) (p_a0 : pI S 9 a0) (p_w1 : pI S 9 w1) (P : PW G A s H locs S0 S) (hl : lv_has ls 5 [(0, .ref a0)]) (hcc : cells + 0 ≤ 0) (hss : slots + 0 ≤ 0) (hw : wX9_bestTarget_14 Q QX S a0 z0 w1) : W p l e rmX9_bestTarget s m args below meth c H locs cells slots (vx_MQ below (QI G S0 A Q) (XX G S0 A QX) args s 0 0 A) (F0 m 14 ls [.int z0, .ref w1]) := by
  have hx := CF_x C
  have hb := CF_b C
  unfold wX9_bestTarget_14 at hw
  refine pf_9_0 C P p_w1 q_1305 dX9_bestTarget_14 (fun H locs P => ?_)
  obtain ⟨S1, hS⟩ : ∃ z, z = (sI S w1 0 z0) := ⟨_, rfl⟩
  have P : PW G A s H locs S0 S1 := by rw [hS]; exact P
  have p_a0 : pI S1 9 a0 := by rw [hS]; exact pI_x ext_sI p_a0
  have p_w1 : pI S1 9 w1 := by rw [hS]; exact pI_x ext_sI p_w1
  have hw := hw S1 hS
  refine lv_aload_n hx hb dX9_bestTarget_17 rfl (lv_at hl 0 rfl) ?_
  refine gf_9_0 C P p_a0 q_1305 dX9_bestTarget_18 ?_
  refine lv_iconst (v := 1) hx hb dX9_bestTarget_21 (by decide) ?_
  refine lv_icmp_ne (tgt := 27) hx hb dX9_bestTarget_22 (by decide) (fun hc => ?_) (fun hc => ?_)
  · have hw := hw.1 hc
    refine lv_iconst (v := (-1)) hx hb dX9_bestTarget_27 (by decide) ?_
    refine lv_istore_n (lv' := [(1, .int (-1)), (0, .ref a0)]) hx hb dX9_bestTarget_28 rfl hl (by decide) rfl (fun ls hl => ?_)
    refine lv_aload_n hx hb dX9_bestTarget_29 rfl (lv_at hl 1 rfl) ?_
    obtain ⟨a2, e1, hw⟩ := hw
    have p_a2 : pI S1 12 a2 := wf_r P.2.2.2.1 p_a0 e1
    refine gf_9_1 C P p_a0 e1 q_1306 dX9_bestTarget_30 ?_
    refine lv_sipush (v := 166) hx hb dX9_bestTarget_33 (by decide) ?_
    obtain ⟨h1, hw⟩ := hw
    refine ra_i C P p_a2 h1 dX9_bestTarget_36 ?_
    refine lv_istore_n (lv' := [(2, .int (mI S1 a2 (166 : Int32).toNatClampNeg)), (1, .int (-1)), (0, .ref a0)]) hx hb dX9_bestTarget_37 rfl hl (by decide) rfl (fun ls hl => ?_)
    refine lv_iconst (v := 0) hx hb dX9_bestTarget_38 (by decide) ?_
    refine lv_istore_n (lv' := [(3, .int 0), (2, .int (mI S1 a2 (166 : Int32).toNatClampNeg)), (1, .int (-1)), (0, .ref a0)]) hx hb dX9_bestTarget_39 rfl hl (by decide) rfl (fun ls hl => ?_)
    obtain ⟨n, hw⟩ := hw
    exact tlX9_bestTarget_40 C hr hex Q QX n S1 a0 (-1) (mI S1 a2 (166 : Int32).toNatClampNeg) 0 _ _ _ _ _ p_a0 P (lv_sub hl [3, 2, 1, 0] rfl) (by omega) (by omega) hw
  · have hw := hw.2 hc
    refine lv_iconst (v := 0) hx hb dX9_bestTarget_25 (by decide) ?_
    exact e_i C hr rfl P hw (by omega) (by omega) dX9_bestTarget_26
def wX9_bestTarget_0 (Q : Int32 → MS → Prop) (QX : String → MS → Prop) (S : MS) (a0 : Nat) : Prop := wp_X9_conditions (fun r2 S1 => ((r2 = 1 → wX9_bestTarget_14 Q QX S1 a0 0 a0) ∧ (¬ r2 = 1 → wX9_bestTarget_14 Q QX S1 a0 1 a0))) QX S a0
set_option maxHeartbeats 4000000 in
set_option maxRecDepth 100000 in
theorem tX9_bestTarget_0 {p : Program} {l : Launch} {e : Env} {s : State} {m : MethodId} {args : Array Value} {below : List Frame} {meth : Method} {c : Code} {H : Heap} {locs : List Loc} {cells slots : Nat} {G : GP} {A : Nat → Prop} {S0 : MS} {ls : Array Slot} (C : CF p l s m args meth c "SkirmishGridModel" cX9_bestTarget 5 G A) (hr : meth.sig.returnType = (some .int)) (hex : ∀ x ∈ c.exceptionTable.toList, False) (Q : Int32 → MS → Prop) (QX : String → MS → Prop) (S : MS) (a0 : Nat) (p_a0 : pI S 9 a0) (P : PW G A s H locs S0 S) (hl : lv_has ls 5 [(0, .ref a0)]) (hcc : cells + 0 ≤ 0) (hss : slots + 0 ≤ 0) (hw : wX9_bestTarget_0 Q QX S a0) : W p l e rmX9_bestTarget s m args below meth c H locs cells slots (vx_MQ below (QI G S0 A Q) (XX G S0 A QX) args s 0 0 A) (F0 m 0 ls []) := by
  have hx := CF_x C
  have hb := CF_b C
  unfold wX9_bestTarget_0 at hw
  refine lv_aload_n hx hb dX9_bestTarget_0 rfl (lv_at hl 0 rfl) ?_
  refine lv_aload_n hx hb dX9_bestTarget_1 rfl (lv_at hl 0 rfl) ?_
  refine cl_i C P (run_V C P hl.1 (kd := 9) (met_X9_conditions (CF_n C) G H.size _ _ S a0 p_a0 hw) p_a0 (by decide) rfl q_1488 q_1490 q_p38 q_10 q_1491 cd_X9_conditions ⟨(Nat.le_of_ble_eq_true rfl), (Nat.le_of_ble_eq_true rfl)⟩ rfl rfl (As := []) (rest := [.ref a0]) rfl rfl (Nat.le_of_ble_eq_true rfl) dX9_bestTarget_2 ⟨by show cells + 0 ≤ 0; omega, by show slots + 0 ≤ 0; omega⟩) (kx_out C hex (fun _ _ _ h => h) (by omega) (by omega)) (fun r2 S1 H locs P hE hw => ?_)
  have p_a0 : pI S1 9 a0 := pI_x hE p_a0
  refine lv_iconst (v := 1) hx hb dX9_bestTarget_5 (by decide) ?_
  refine lv_icmp_eq (tgt := 13) hx hb dX9_bestTarget_6 (by decide) (fun hc => ?_) (fun hc => ?_)
  · have hw := hw.1 hc
    refine lv_iconst (v := 0) hx hb dX9_bestTarget_13 (by decide) ?_
    exact tX9_bestTarget_14 C hr hex Q QX S1 a0 0 a0 p_a0 p_a0 P (lv_sub hl [0] rfl) (by omega) (by omega) hw
  · have hw := hw.2 hc
    refine lv_iconst (v := 1) hx hb dX9_bestTarget_9 (by decide) ?_
    refine lv_goto (tgt := 14) hx hb dX9_bestTarget_10 (by decide) ?_
    exact tX9_bestTarget_14 C hr hex Q QX S1 a0 1 a0 p_a0 p_a0 P (lv_sub hl [0] rfl) (by omega) (by omega) hw
def wp_X9_bestTarget (Q : Int32 → MS → Prop) (QX : String → MS → Prop) (S : MS) (a0 : Nat) : Prop := wX9_bestTarget_0 Q QX S a0
set_option maxHeartbeats 4000000 in
set_option maxRecDepth 100000 in
theorem met_X9_bestTarget {l : Launch} (hst : l.stackTraces = false) (G : GP) (sz : Nat) (Q : Int32 → MS → Prop) (QX : String → MS → Prop) (S : MS) (a0 : Nat) (p_a0 : pI S 9 a0) (hw : wp_X9_bestTarget Q QX S a0) : vx_Met l yX9_bestTarget (.code yX9_bestTarget cX9_bestTarget 5 (some .int) :: GW) rmX9_bestTarget (va_Pc [.ref a0] (PR G S sz)) (QI G S (FA G S sz) Q) (XX G S (FA G S sz) QX) 0 0 (FA G S sz) := by
  refine st_m (by decide +kernel) hst (fun p e s m below meth c C hr hnm hex P => ?_)
  refine en_m (Nat.le_of_ble_eq_true rfl) (lv := [(0, .ref a0)]) rfl (fun ls hl => ?_)
  have C : CF p l s m _ meth c "SkirmishGridModel" cX9_bestTarget 5 G (FA G S sz) := C
  exact tX9_bestTarget_0 C hr hex Q QX S a0 p_a0 P hl (by omega) (by omega) hw
theorem cd_X9_bestTarget : yX9_bestTarget.cls = RX9 ∧ yX9_bestTarget.cls ≠ "java/lang/invoke/MethodHandle" ∧ yX9_bestTarget.cls ≠ "java/lang/invoke/VarHandle" ∧ (parseMethodDescriptor yX9_bestTarget.desc).map (fun d => d.parameters.length) = some 0 := by decide +kernel
abbrev rmX9_keeps : Room := { frames := 0, cells := 0, slots := 0, locals := 0 }
def wX9_keeps_52 (Q : MS → Prop) (QX : String → MS → Prop) (k52 : MS → Nat → Int32 → Prop) (S : MS) (a0 : Nat) (y1 : Int32) : Prop := ((290 ≤ y1 → (∀ S1, S1 = (sI S a0 9 ((mI S a0 9) + 1)) → Q S1)) ∧ (¬ 290 ≤ y1 → (∃ a2, mR S a0 6 = some a2 ∧ (∃ a3, mR S a0 1 = some a3 ∧ (vp_in y1 (mN S a3) ∧ (vp_in (((mI S a0 9) * 290) + y1) (mN S a2) ∧ (∀ S4, S4 = (sI S a2 ((((mI S a0 9) * 290) + y1) : Int32).toNatClampNeg (mI S a3 (y1 : Int32).toNatClampNeg)) → k52 S4 a0 (y1 + 1))))))))
set_option maxHeartbeats 4000000 in
set_option maxRecDepth 100000 in
theorem tX9_keeps_52 {p : Program} {l : Launch} {e : Env} {s : State} {m : MethodId} {args : Array Value} {below : List Frame} {meth : Method} {c : Code} {H : Heap} {locs : List Loc} {cells slots : Nat} {G : GP} {A : Nat → Prop} {S0 : MS} {ls : Array Slot} (C : CF p l s m args meth c "SkirmishGridModel" cX9_keeps 2 G A) (hr : meth.sig.returnType = none) (hex : ∀ x ∈ c.exceptionTable.toList, False) (Q : MS → Prop) (QX : String → MS → Prop) (k52 : MS → Nat → Int32 → Prop) (kh52 : ∀ (S : MS) (a0 : Nat) (y1 : Int32) (cells slots : Nat) (H : Heap) (locs : List Loc) (ls : Array Slot), pI S 9 a0 → PW G A s H locs S0 S → lv_has ls 2 [(0, .ref a0), (1, .int y1)] → cells + 0 ≤ 0 → slots + 0 ≤ 0 → k52 S a0 y1 → W p l e rmX9_keeps s m args below meth c H locs cells slots (vx_MQ below (QV G S0 A Q) (XX G S0 A QX) args s 0 0 A) (F0 m 52 ls [])) (S : MS) (a0 : Nat) (y1 : Int32) (p_a0 : pI S 9 a0) (P : PW G A s H locs S0 S) (hl : lv_has ls 2 [(0, .ref a0), (1, .int y1)]) (hcc : cells + 0 ≤ 0) (hss : slots + 0 ≤ 0) (hw : wX9_keeps_52 Q QX k52 S a0 y1) : W p l e rmX9_keeps s m args below meth c H locs cells slots (vx_MQ below (QV G S0 A Q) (XX G S0 A QX) args s 0 0 A) (F0 m 52 ls []) := by
  have hx := CF_x C
  have hb := CF_b C
  unfold wX9_keeps_52 at hw
  refine lv_iload_n hx hb dX9_keeps_52 rfl (lv_at hl 1 rfl) ?_
  refine lv_sipush (v := 290) hx hb dX9_keeps_53 (by decide) ?_
  refine lv_icmp_ge (tgt := 86) hx hb dX9_keeps_56 (by decide) (fun hc => ?_) (fun hc => ?_)
  · have hw := hw.1 hc
    refine lv_aload_n hx hb dX9_keeps_86 rfl (lv_at hl 0 rfl) ?_
    refine lv_dup hx hb dX9_keeps_87 rfl ?_
    refine gf_9_9 C P p_a0 q_1314 dX9_keeps_88 ?_
    refine lv_iconst (v := 1) hx hb dX9_keeps_91 (by decide) ?_
    refine lv_iadd hx hb dX9_keeps_92 ?_
    refine pf_9_9 C P p_a0 q_1314 dX9_keeps_93 (fun H locs P => ?_)
    obtain ⟨S1, hS⟩ : ∃ z, z = (sI S a0 9 ((mI S a0 9) + 1)) := ⟨_, rfl⟩
    have P : PW G A s H locs S0 S1 := by rw [hS]; exact P
    have p_a0 : pI S1 9 a0 := by rw [hS]; exact pI_x ext_sI p_a0
    have hw := hw S1 hS
    exact e_v C hr P hw (by omega) (by omega) dX9_keeps_96
  · have hw := hw.2 hc
    refine lv_aload_n hx hb dX9_keeps_59 rfl (lv_at hl 0 rfl) ?_
    obtain ⟨a2, e1, hw⟩ := hw
    have p_a2 : pI S 12 a2 := wf_r P.2.2.2.1 p_a0 e1
    refine gf_9_6 C P p_a0 e1 q_1311 dX9_keeps_60 ?_
    refine lv_aload_n hx hb dX9_keeps_63 rfl (lv_at hl 0 rfl) ?_
    refine gf_9_9 C P p_a0 q_1314 dX9_keeps_64 ?_
    refine lv_sipush (v := 290) hx hb dX9_keeps_67 (by decide) ?_
    refine lv_imul hx hb dX9_keeps_70 ?_
    refine lv_iload_n hx hb dX9_keeps_71 rfl (lv_at hl 1 rfl) ?_
    refine lv_iadd hx hb dX9_keeps_72 ?_
    refine lv_aload_n hx hb dX9_keeps_73 rfl (lv_at hl 0 rfl) ?_
    obtain ⟨a3, e1, hw⟩ := hw
    have p_a3 : pI S 12 a3 := wf_r P.2.2.2.1 p_a0 e1
    refine gf_9_1 C P p_a0 e1 q_1306 dX9_keeps_74 ?_
    refine lv_iload_n hx hb dX9_keeps_77 rfl (lv_at hl 1 rfl) ?_
    obtain ⟨h1, hw⟩ := hw
    refine ra_i C P p_a3 h1 dX9_keeps_78 ?_
    obtain ⟨h1, hw⟩ := hw
    refine rs_i C P p_a2 h1 dX9_keeps_79 (fun H locs P => ?_)
    obtain ⟨S4, hS⟩ : ∃ z, z = (sI S a2 ((((mI S a0 9) * 290) + y1) : Int32).toNatClampNeg (mI S a3 (y1 : Int32).toNatClampNeg)) := ⟨_, rfl⟩
    have P : PW G A s H locs S0 S4 := by rw [hS]; exact P
    have p_a0 : pI S4 9 a0 := by rw [hS]; exact pI_x ext_sI p_a0
    have p_a2 : pI S4 12 a2 := by rw [hS]; exact pI_x ext_sI p_a2
    have hw := hw S4 hS
    refine lv_iinc (v := (y1 + 1)) (lv' := [(1, .int (y1 + 1)), (0, .ref a0)]) hx hb dX9_keeps_80 hl (k := 1) rfl (by rfl) (by decide) rfl (fun ls hl => ?_)
    refine lv_goto (tgt := 52) hx hb dX9_keeps_83 (by decide) ?_
    exact kh52 S4 a0 (y1 + 1) _ _ _ _ _ p_a0 P (lv_sub hl [1, 0] rfl) (by omega) (by omega) hw
def lX9_keeps_52 (Q : MS → Prop) (QX : String → MS → Prop) : Nat → MS → Nat → Int32 → Prop
  | 0 => fun _ _ _ => False
  | n + 1 => fun S a0 y1 => wX9_keeps_52 Q QX (lX9_keeps_52 Q QX n) S a0 y1
theorem tlX9_keeps_52 {p : Program} {l : Launch} {e : Env} {s : State} {m : MethodId} {args : Array Value} {below : List Frame} {meth : Method} {c : Code} {G : GP} {A : Nat → Prop} {S0 : MS} (C : CF p l s m args meth c "SkirmishGridModel" cX9_keeps 2 G A) (hr : meth.sig.returnType = none) (hex : ∀ x ∈ c.exceptionTable.toList, False) (Q : MS → Prop) (QX : String → MS → Prop) : ∀ (n : Nat), ∀ (S : MS) (a0 : Nat) (y1 : Int32) (cells slots : Nat) (H : Heap) (locs : List Loc) (ls : Array Slot), pI S 9 a0 → PW G A s H locs S0 S → lv_has ls 2 [(0, .ref a0), (1, .int y1)] → cells + 0 ≤ 0 → slots + 0 ≤ 0 → lX9_keeps_52 Q QX n S a0 y1 → W p l e rmX9_keeps s m args below meth c H locs cells slots (vx_MQ below (QV G S0 A Q) (XX G S0 A QX) args s 0 0 A) (F0 m 52 ls []) := by
  intro n
  induction n with
  | zero => intro S a0 y1 cells slots H locs ls p_a0 P hl hcc hss hw; exact hw.elim
  | succ n ih => intro S a0 y1 cells slots H locs ls p_a0 P hl hcc hss hw; exact tX9_keeps_52 C hr hex Q QX (lX9_keeps_52 Q QX n) ih S a0 y1 p_a0 P hl hcc hss hw
def wX9_keeps_11 (Q : MS → Prop) (QX : String → MS → Prop) (k11 : MS → Nat → Int32 → Prop) (S : MS) (a0 : Nat) (y1 : Int32) : Prop := ((2030 ≤ y1 → (∀ S1, S1 = (sI S a0 9 ((mI S a0 9) - 1)) → (∃ n, lX9_keeps_52 Q QX n S1 a0 0))) ∧ (¬ 2030 ≤ y1 → (∃ a2, mR S a0 6 = some a2 ∧ (∃ a3, mR S a0 6 = some a3 ∧ (vp_in (y1 + 290) (mN S a3) ∧ (vp_in y1 (mN S a2) ∧ (∀ S4, S4 = (sI S a2 (y1 : Int32).toNatClampNeg (mI S a3 ((y1 + 290) : Int32).toNatClampNeg)) → k11 S4 a0 (y1 + 1))))))))
set_option maxHeartbeats 4000000 in
set_option maxRecDepth 100000 in
theorem tX9_keeps_11 {p : Program} {l : Launch} {e : Env} {s : State} {m : MethodId} {args : Array Value} {below : List Frame} {meth : Method} {c : Code} {H : Heap} {locs : List Loc} {cells slots : Nat} {G : GP} {A : Nat → Prop} {S0 : MS} {ls : Array Slot} (C : CF p l s m args meth c "SkirmishGridModel" cX9_keeps 2 G A) (hr : meth.sig.returnType = none) (hex : ∀ x ∈ c.exceptionTable.toList, False) (Q : MS → Prop) (QX : String → MS → Prop) (k11 : MS → Nat → Int32 → Prop) (kh11 : ∀ (S : MS) (a0 : Nat) (y1 : Int32) (cells slots : Nat) (H : Heap) (locs : List Loc) (ls : Array Slot), pI S 9 a0 → PW G A s H locs S0 S → lv_has ls 2 [(0, .ref a0), (1, .int y1)] → cells + 0 ≤ 0 → slots + 0 ≤ 0 → k11 S a0 y1 → W p l e rmX9_keeps s m args below meth c H locs cells slots (vx_MQ below (QV G S0 A Q) (XX G S0 A QX) args s 0 0 A) (F0 m 11 ls [])) (S : MS) (a0 : Nat) (y1 : Int32) (p_a0 : pI S 9 a0) (P : PW G A s H locs S0 S) (hl : lv_has ls 2 [(0, .ref a0), (1, .int y1)]) (hcc : cells + 0 ≤ 0) (hss : slots + 0 ≤ 0) (hw : wX9_keeps_11 Q QX k11 S a0 y1) : W p l e rmX9_keeps s m args below meth c H locs cells slots (vx_MQ below (QV G S0 A Q) (XX G S0 A QX) args s 0 0 A) (F0 m 11 ls []) := by
  have hx := CF_x C
  have hb := CF_b C
  unfold wX9_keeps_11 at hw
  refine lv_iload_n hx hb dX9_keeps_11 rfl (lv_at hl 1 rfl) ?_
  refine lv_sipush (v := 2030) hx hb dX9_keeps_12 (by decide) ?_
  refine lv_icmp_ge (tgt := 40) hx hb dX9_keeps_15 (by decide) (fun hc => ?_) (fun hc => ?_)
  · have hw := hw.1 hc
    refine lv_aload_n hx hb dX9_keeps_40 rfl (lv_at hl 0 rfl) ?_
    refine lv_dup hx hb dX9_keeps_41 rfl ?_
    refine gf_9_9 C P p_a0 q_1314 dX9_keeps_42 ?_
    refine lv_iconst (v := 1) hx hb dX9_keeps_45 (by decide) ?_
    refine lv_isub hx hb dX9_keeps_46 ?_
    refine pf_9_9 C P p_a0 q_1314 dX9_keeps_47 (fun H locs P => ?_)
    obtain ⟨S1, hS⟩ : ∃ z, z = (sI S a0 9 ((mI S a0 9) - 1)) := ⟨_, rfl⟩
    have P : PW G A s H locs S0 S1 := by rw [hS]; exact P
    have p_a0 : pI S1 9 a0 := by rw [hS]; exact pI_x ext_sI p_a0
    have hw := hw S1 hS
    refine lv_iconst (v := 0) hx hb dX9_keeps_50 (by decide) ?_
    refine lv_istore_n (lv' := [(1, .int 0), (0, .ref a0)]) hx hb dX9_keeps_51 rfl hl (by decide) rfl (fun ls hl => ?_)
    obtain ⟨n, hw⟩ := hw
    exact tlX9_keeps_52 C hr hex Q QX n S1 a0 0 _ _ _ _ _ p_a0 P (lv_sub hl [1, 0] rfl) (by omega) (by omega) hw
  · have hw := hw.2 hc
    refine lv_aload_n hx hb dX9_keeps_18 rfl (lv_at hl 0 rfl) ?_
    obtain ⟨a2, e1, hw⟩ := hw
    have p_a2 : pI S 12 a2 := wf_r P.2.2.2.1 p_a0 e1
    refine gf_9_6 C P p_a0 e1 q_1311 dX9_keeps_19 ?_
    refine lv_iload_n hx hb dX9_keeps_22 rfl (lv_at hl 1 rfl) ?_
    refine lv_aload_n hx hb dX9_keeps_23 rfl (lv_at hl 0 rfl) ?_
    obtain ⟨a3, e1, hw⟩ := hw
    have p_a3 : pI S 12 a3 := wf_r P.2.2.2.1 p_a0 e1
    refine gf_9_6 C P p_a0 e1 q_1311 dX9_keeps_24 ?_
    refine lv_iload_n hx hb dX9_keeps_27 rfl (lv_at hl 1 rfl) ?_
    refine lv_sipush (v := 290) hx hb dX9_keeps_28 (by decide) ?_
    refine lv_iadd hx hb dX9_keeps_31 ?_
    obtain ⟨h1, hw⟩ := hw
    refine ra_i C P p_a3 h1 dX9_keeps_32 ?_
    obtain ⟨h1, hw⟩ := hw
    refine rs_i C P p_a2 h1 dX9_keeps_33 (fun H locs P => ?_)
    obtain ⟨S4, hS⟩ : ∃ z, z = (sI S a2 (y1 : Int32).toNatClampNeg (mI S a3 ((y1 + 290) : Int32).toNatClampNeg)) := ⟨_, rfl⟩
    have P : PW G A s H locs S0 S4 := by rw [hS]; exact P
    have p_a0 : pI S4 9 a0 := by rw [hS]; exact pI_x ext_sI p_a0
    have p_a2 : pI S4 12 a2 := by rw [hS]; exact pI_x ext_sI p_a2
    have hw := hw S4 hS
    refine lv_iinc (v := (y1 + 1)) (lv' := [(1, .int (y1 + 1)), (0, .ref a0)]) hx hb dX9_keeps_34 hl (k := 1) rfl (by rfl) (by decide) rfl (fun ls hl => ?_)
    refine lv_goto (tgt := 11) hx hb dX9_keeps_37 (by decide) ?_
    exact kh11 S4 a0 (y1 + 1) _ _ _ _ _ p_a0 P (lv_sub hl [1, 0] rfl) (by omega) (by omega) hw
def lX9_keeps_11 (Q : MS → Prop) (QX : String → MS → Prop) : Nat → MS → Nat → Int32 → Prop
  | 0 => fun _ _ _ => False
  | n + 1 => fun S a0 y1 => wX9_keeps_11 Q QX (lX9_keeps_11 Q QX n) S a0 y1
theorem tlX9_keeps_11 {p : Program} {l : Launch} {e : Env} {s : State} {m : MethodId} {args : Array Value} {below : List Frame} {meth : Method} {c : Code} {G : GP} {A : Nat → Prop} {S0 : MS} (C : CF p l s m args meth c "SkirmishGridModel" cX9_keeps 2 G A) (hr : meth.sig.returnType = none) (hex : ∀ x ∈ c.exceptionTable.toList, False) (Q : MS → Prop) (QX : String → MS → Prop) : ∀ (n : Nat), ∀ (S : MS) (a0 : Nat) (y1 : Int32) (cells slots : Nat) (H : Heap) (locs : List Loc) (ls : Array Slot), pI S 9 a0 → PW G A s H locs S0 S → lv_has ls 2 [(0, .ref a0), (1, .int y1)] → cells + 0 ≤ 0 → slots + 0 ≤ 0 → lX9_keeps_11 Q QX n S a0 y1 → W p l e rmX9_keeps s m args below meth c H locs cells slots (vx_MQ below (QV G S0 A Q) (XX G S0 A QX) args s 0 0 A) (F0 m 11 ls []) := by
  intro n
  induction n with
  | zero => intro S a0 y1 cells slots H locs ls p_a0 P hl hcc hss hw; exact hw.elim
  | succ n ih => intro S a0 y1 cells slots H locs ls p_a0 P hl hcc hss hw; exact tX9_keeps_11 C hr hex Q QX (lX9_keeps_11 Q QX n) ih S a0 y1 p_a0 P hl hcc hss hw
def wX9_keeps_0 (Q : MS → Prop) (QX : String → MS → Prop) (S : MS) (a0 : Nat) : Prop := ((¬ (mI S a0 9) = 8 → (∃ n, lX9_keeps_52 Q QX n S a0 0)) ∧ ((mI S a0 9) = 8 → (∃ n, lX9_keeps_11 Q QX n S a0 0)))
set_option maxHeartbeats 4000000 in
set_option maxRecDepth 100000 in
theorem tX9_keeps_0 {p : Program} {l : Launch} {e : Env} {s : State} {m : MethodId} {args : Array Value} {below : List Frame} {meth : Method} {c : Code} {H : Heap} {locs : List Loc} {cells slots : Nat} {G : GP} {A : Nat → Prop} {S0 : MS} {ls : Array Slot} (C : CF p l s m args meth c "SkirmishGridModel" cX9_keeps 2 G A) (hr : meth.sig.returnType = none) (hex : ∀ x ∈ c.exceptionTable.toList, False) (Q : MS → Prop) (QX : String → MS → Prop) (S : MS) (a0 : Nat) (p_a0 : pI S 9 a0) (P : PW G A s H locs S0 S) (hl : lv_has ls 2 [(0, .ref a0)]) (hcc : cells + 0 ≤ 0) (hss : slots + 0 ≤ 0) (hw : wX9_keeps_0 Q QX S a0) : W p l e rmX9_keeps s m args below meth c H locs cells slots (vx_MQ below (QV G S0 A Q) (XX G S0 A QX) args s 0 0 A) (F0 m 0 ls []) := by
  have hx := CF_x C
  have hb := CF_b C
  unfold wX9_keeps_0 at hw
  refine lv_aload_n hx hb dX9_keeps_0 rfl (lv_at hl 0 rfl) ?_
  refine gf_9_9 C P p_a0 q_1314 dX9_keeps_1 ?_
  refine lv_bipush (v := 8) hx hb dX9_keeps_4 (by decide) ?_
  refine lv_icmp_ne (tgt := 50) hx hb dX9_keeps_6 (by decide) (fun hc => ?_) (fun hc => ?_)
  · have hw := hw.1 hc
    refine lv_iconst (v := 0) hx hb dX9_keeps_50 (by decide) ?_
    refine lv_istore_n (lv' := [(1, .int 0), (0, .ref a0)]) hx hb dX9_keeps_51 rfl hl (by decide) rfl (fun ls hl => ?_)
    obtain ⟨n, hw⟩ := hw
    exact tlX9_keeps_52 C hr hex Q QX n S a0 0 _ _ _ _ _ p_a0 P (lv_sub hl [1, 0] rfl) (by omega) (by omega) hw
  · have hw := hw.2 hc
    refine lv_iconst (v := 0) hx hb dX9_keeps_9 (by decide) ?_
    refine lv_istore_n (lv' := [(1, .int 0), (0, .ref a0)]) hx hb dX9_keeps_10 rfl hl (by decide) rfl (fun ls hl => ?_)
    obtain ⟨n, hw⟩ := hw
    exact tlX9_keeps_11 C hr hex Q QX n S a0 0 _ _ _ _ _ p_a0 P (lv_sub hl [1, 0] rfl) (by omega) (by omega) hw
def wp_X9_keeps (Q : MS → Prop) (QX : String → MS → Prop) (S : MS) (a0 : Nat) : Prop := wX9_keeps_0 Q QX S a0
set_option maxHeartbeats 4000000 in
set_option maxRecDepth 100000 in
theorem met_X9_keeps {l : Launch} (hst : l.stackTraces = false) (G : GP) (sz : Nat) (Q : MS → Prop) (QX : String → MS → Prop) (S : MS) (a0 : Nat) (p_a0 : pI S 9 a0) (hw : wp_X9_keeps Q QX S a0) : vx_Met l yX9_keeps (.code yX9_keeps cX9_keeps 2 none :: GW) rmX9_keeps (va_Pc [.ref a0] (PR G S sz)) (QV G S (FA G S sz) Q) (XX G S (FA G S sz) QX) 0 0 (FA G S sz) := by
  refine st_m (by decide +kernel) hst (fun p e s m below meth c C hr hnm hex P => ?_)
  refine en_m (Nat.le_of_ble_eq_true rfl) (lv := [(0, .ref a0)]) rfl (fun ls hl => ?_)
  have C : CF p l s m _ meth c "SkirmishGridModel" cX9_keeps 2 G (FA G S sz) := C
  exact tX9_keeps_0 C hr hex Q QX S a0 p_a0 P hl (by omega) (by omega) hw
theorem cd_X9_keeps : yX9_keeps.cls = RX9 ∧ yX9_keeps.cls ≠ "java/lang/invoke/MethodHandle" ∧ yX9_keeps.cls ≠ "java/lang/invoke/VarHandle" ∧ (parseMethodDescriptor yX9_keeps.desc).map (fun d => d.parameters.length) = some 0 := by decide +kernel
abbrev rmX9_ends : Room := { frames := 5, cells := 0, slots := 0, locals := 110 }
def wX9_ends_52 (Q : Int32 → MS → Prop) (QX : String → MS → Prop) (S : MS) (a0 : Nat) : Prop := wp_X9_placeOfTurn (fun r2 S1 => wp_X9_goesOn (fun S3 => (∃ a4, mR S3 a0 1 = some a4 ∧ (vp_in 166 (mN S3 a4) ∧ Q (mI S3 a4 (166 : Int32).toNatClampNeg) S3))) QX S1 a0 r2) QX S a0
set_option maxHeartbeats 4000000 in
set_option maxRecDepth 100000 in
theorem tX9_ends_52 {p : Program} {l : Launch} {e : Env} {s : State} {m : MethodId} {args : Array Value} {below : List Frame} {meth : Method} {c : Code} {H : Heap} {locs : List Loc} {cells slots : Nat} {G : GP} {A : Nat → Prop} {S0 : MS} {ls : Array Slot} (C : CF p l s m args meth c "SkirmishGridModel" cX9_ends 2 G A) (hr : meth.sig.returnType = (some .int)) (hex : ∀ x ∈ c.exceptionTable.toList, False) (Q : Int32 → MS → Prop) (QX : String → MS → Prop) (S : MS) (a0 : Nat) (p_a0 : pI S 9 a0) (P : PW G A s H locs S0 S) (hl : lv_has ls 2 [(0, .ref a0)]) (hcc : cells + 0 ≤ 0) (hss : slots + 0 ≤ 0) (hw : wX9_ends_52 Q QX S a0) : W p l e rmX9_ends s m args below meth c H locs cells slots (vx_MQ below (QI G S0 A Q) (XX G S0 A QX) args s 0 0 A) (F0 m 52 ls []) := by
  have hx := CF_x C
  have hb := CF_b C
  unfold wX9_ends_52 at hw
  refine lv_aload_n hx hb dX9_ends_52 rfl (lv_at hl 0 rfl) ?_
  refine lv_aload_n hx hb dX9_ends_53 rfl (lv_at hl 0 rfl) ?_
  refine cl_i C P (run_V C P hl.1 (kd := 9) (met_X9_placeOfTurn (CF_n C) G H.size _ _ S a0 p_a0 hw) p_a0 (by decide) rfl q_1662 q_1664 q_p70 q_10 q_1665 cd_X9_placeOfTurn ⟨(Nat.le_of_ble_eq_true rfl), (Nat.le_of_ble_eq_true rfl)⟩ rfl rfl (As := []) (rest := [.ref a0]) rfl rfl (Nat.le_of_ble_eq_true rfl) dX9_ends_54 ⟨by show cells + 0 ≤ 0; omega, by show slots + 0 ≤ 0; omega⟩) (kx_out C hex (fun _ _ _ h => h) (by omega) (by omega)) (fun r2 S1 H locs P hE hw => ?_)
  have p_a0 : pI S1 9 a0 := pI_x hE p_a0
  refine cl_v C P (run_V C P hl.1 (kd := 9) (met_X9_goesOn (CF_n C) G H.size _ _ S1 a0 r2 p_a0 hw) p_a0 (by decide) rfl q_1536 q_1538 q_p45 q_10 q_1539 cd_X9_goesOn ⟨(Nat.le_of_ble_eq_true rfl), (Nat.le_of_ble_eq_true rfl)⟩ rfl rfl (As := [.int r2]) (rest := []) rfl rfl (Nat.le_of_ble_eq_true rfl) dX9_ends_57 ⟨by show cells + 0 ≤ 0; omega, by show slots + 0 ≤ 0; omega⟩) (kx_out C hex (fun _ _ _ h => h) (by omega) (by omega)) (fun S3 H locs P hE hw => ?_)
  have p_a0 : pI S3 9 a0 := pI_x hE p_a0
  refine lv_aload_n hx hb dX9_ends_60 rfl (lv_at hl 0 rfl) ?_
  obtain ⟨a4, e1, hw⟩ := hw
  have p_a4 : pI S3 12 a4 := wf_r P.2.2.2.1 p_a0 e1
  refine gf_9_1 C P p_a0 e1 q_1306 dX9_ends_61 ?_
  refine lv_sipush (v := 166) hx hb dX9_ends_64 (by decide) ?_
  obtain ⟨h1, hw⟩ := hw
  refine ra_i C P p_a4 h1 dX9_ends_67 ?_
  exact e_i C hr rfl P hw (by omega) (by omega) dX9_ends_68
def wX9_ends_26 (Q : Int32 → MS → Prop) (QX : String → MS → Prop) (S : MS) (a0 : Nat) (y1 : Int32) : Prop := wp_X9_of (fun r2 S1 => ((r2 ≤ 0 → wX9_ends_52 Q QX S1 a0) ∧ (¬ r2 ≤ 0 → wp_X9_of (fun r4 S3 => wp_X9_sets (fun S5 => wX9_ends_52 Q QX S5 a0) QX S3 a0 y1 8 (r4 - 1)) QX S1 a0 y1 8))) QX S a0 y1 8
set_option maxHeartbeats 4000000 in
set_option maxRecDepth 100000 in
theorem tX9_ends_26 {p : Program} {l : Launch} {e : Env} {s : State} {m : MethodId} {args : Array Value} {below : List Frame} {meth : Method} {c : Code} {H : Heap} {locs : List Loc} {cells slots : Nat} {G : GP} {A : Nat → Prop} {S0 : MS} {ls : Array Slot} (C : CF p l s m args meth c "SkirmishGridModel" cX9_ends 2 G A) (hr : meth.sig.returnType = (some .int)) (hex : ∀ x ∈ c.exceptionTable.toList, False) (Q : Int32 → MS → Prop) (QX : String → MS → Prop) (S : MS) (a0 : Nat) (y1 : Int32) (p_a0 : pI S 9 a0) (P : PW G A s H locs S0 S) (hl : lv_has ls 2 [(0, .ref a0), (1, .int y1)]) (hcc : cells + 0 ≤ 0) (hss : slots + 0 ≤ 0) (hw : wX9_ends_26 Q QX S a0 y1) : W p l e rmX9_ends s m args below meth c H locs cells slots (vx_MQ below (QI G S0 A Q) (XX G S0 A QX) args s 0 0 A) (F0 m 26 ls []) := by
  have hx := CF_x C
  have hb := CF_b C
  unfold wX9_ends_26 at hw
  refine lv_aload_n hx hb dX9_ends_26 rfl (lv_at hl 0 rfl) ?_
  refine lv_iload_n hx hb dX9_ends_27 rfl (lv_at hl 1 rfl) ?_
  refine lv_bipush (v := 8) hx hb dX9_ends_28 (by decide) ?_
  refine cl_i C P (run_V C P hl.1 (kd := 9) (met_X9_of (CF_n C) G H.size _ _ S a0 y1 8 p_a0 hw) p_a0 (by decide) rfl q_1457 q_1459 q_p34 q_10 q_1460 cd_X9_of ⟨(Nat.le_of_ble_eq_true rfl), (Nat.le_of_ble_eq_true rfl)⟩ rfl rfl (As := [.int y1, .int 8]) (rest := []) rfl rfl (Nat.le_of_ble_eq_true rfl) dX9_ends_30 ⟨by show cells + 0 ≤ 0; omega, by show slots + 0 ≤ 0; omega⟩) (kx_out C hex (fun _ _ _ h => h) (by omega) (by omega)) (fun r2 S1 H locs P hE hw => ?_)
  have p_a0 : pI S1 9 a0 := pI_x hE p_a0
  refine lv_if_le (tgt := 52) hx hb dX9_ends_33 (by decide) (fun hc => ?_) (fun hc => ?_)
  · have hw := hw.1 hc
    exact tX9_ends_52 C hr hex Q QX S1 a0 p_a0 P (lv_sub hl [0] rfl) (by omega) (by omega) hw
  · have hw := hw.2 hc
    refine lv_aload_n hx hb dX9_ends_36 rfl (lv_at hl 0 rfl) ?_
    refine lv_iload_n hx hb dX9_ends_37 rfl (lv_at hl 1 rfl) ?_
    refine lv_bipush (v := 8) hx hb dX9_ends_38 (by decide) ?_
    refine lv_aload_n hx hb dX9_ends_40 rfl (lv_at hl 0 rfl) ?_
    refine lv_iload_n hx hb dX9_ends_41 rfl (lv_at hl 1 rfl) ?_
    refine lv_bipush (v := 8) hx hb dX9_ends_42 (by decide) ?_
    refine cl_i C P (run_V C P hl.1 (kd := 9) (met_X9_of (CF_n C) G H.size _ _ S1 a0 y1 8 p_a0 hw) p_a0 (by decide) rfl q_1457 q_1459 q_p34 q_10 q_1460 cd_X9_of ⟨(Nat.le_of_ble_eq_true rfl), (Nat.le_of_ble_eq_true rfl)⟩ rfl rfl (As := [.int y1, .int 8]) (rest := [.int 8, .int y1, .ref a0]) rfl rfl (Nat.le_of_ble_eq_true rfl) dX9_ends_44 ⟨by show cells + 0 ≤ 0; omega, by show slots + 0 ≤ 0; omega⟩) (kx_out C hex (fun _ _ _ h => h) (by omega) (by omega)) (fun r4 S3 H locs P hE hw => ?_)
    have p_a0 : pI S3 9 a0 := pI_x hE p_a0
    refine lv_iconst (v := 1) hx hb dX9_ends_47 (by decide) ?_
    refine lv_isub hx hb dX9_ends_48 ?_
    refine cl_v C P (run_V C P hl.1 (kd := 9) (met_X9_sets (CF_n C) G H.size _ _ S3 a0 y1 8 (r4 - 1) p_a0 hw) p_a0 (by decide) rfl q_1465 q_1467 q_p36 q_10 q_1468 cd_X9_sets ⟨(Nat.le_of_ble_eq_true rfl), (Nat.le_of_ble_eq_true rfl)⟩ rfl rfl (As := [.int y1, .int 8, .int (r4 - 1)]) (rest := []) rfl rfl (Nat.le_of_ble_eq_true rfl) dX9_ends_49 ⟨by show cells + 0 ≤ 0; omega, by show slots + 0 ≤ 0; omega⟩) (kx_out C hex (fun _ _ _ h => h) (by omega) (by omega)) (fun S5 H locs P hE hw => ?_)
    have p_a0 : pI S5 9 a0 := pI_x hE p_a0
    exact tX9_ends_52 C hr hex Q QX S5 a0 p_a0 P (lv_sub hl [0] rfl) (by omega) (by omega) hw
def wX9_ends_0 (Q : Int32 → MS → Prop) (QX : String → MS → Prop) (S : MS) (a0 : Nat) (x1 : Int32) : Prop := wp_X9_of (fun r2 S1 => ((r2 ≤ 0 → wX9_ends_26 Q QX S1 a0 x1) ∧ (¬ r2 ≤ 0 → wp_X9_of (fun r4 S3 => wp_X9_sets (fun S5 => wX9_ends_26 Q QX S5 a0 x1) QX S3 a0 x1 7 (r4 - 1)) QX S1 a0 x1 7))) QX S a0 x1 7
set_option maxHeartbeats 4000000 in
set_option maxRecDepth 100000 in
theorem tX9_ends_0 {p : Program} {l : Launch} {e : Env} {s : State} {m : MethodId} {args : Array Value} {below : List Frame} {meth : Method} {c : Code} {H : Heap} {locs : List Loc} {cells slots : Nat} {G : GP} {A : Nat → Prop} {S0 : MS} {ls : Array Slot} (C : CF p l s m args meth c "SkirmishGridModel" cX9_ends 2 G A) (hr : meth.sig.returnType = (some .int)) (hex : ∀ x ∈ c.exceptionTable.toList, False) (Q : Int32 → MS → Prop) (QX : String → MS → Prop) (S : MS) (a0 : Nat) (x1 : Int32) (p_a0 : pI S 9 a0) (P : PW G A s H locs S0 S) (hl : lv_has ls 2 [(0, .ref a0), (1, .int x1)]) (hcc : cells + 0 ≤ 0) (hss : slots + 0 ≤ 0) (hw : wX9_ends_0 Q QX S a0 x1) : W p l e rmX9_ends s m args below meth c H locs cells slots (vx_MQ below (QI G S0 A Q) (XX G S0 A QX) args s 0 0 A) (F0 m 0 ls []) := by
  have hx := CF_x C
  have hb := CF_b C
  unfold wX9_ends_0 at hw
  refine lv_aload_n hx hb dX9_ends_0 rfl (lv_at hl 0 rfl) ?_
  refine lv_iload_n hx hb dX9_ends_1 rfl (lv_at hl 1 rfl) ?_
  refine lv_bipush (v := 7) hx hb dX9_ends_2 (by decide) ?_
  refine cl_i C P (run_V C P hl.1 (kd := 9) (met_X9_of (CF_n C) G H.size _ _ S a0 x1 7 p_a0 hw) p_a0 (by decide) rfl q_1457 q_1459 q_p34 q_10 q_1460 cd_X9_of ⟨(Nat.le_of_ble_eq_true rfl), (Nat.le_of_ble_eq_true rfl)⟩ rfl rfl (As := [.int x1, .int 7]) (rest := []) rfl rfl (Nat.le_of_ble_eq_true rfl) dX9_ends_4 ⟨by show cells + 0 ≤ 0; omega, by show slots + 0 ≤ 0; omega⟩) (kx_out C hex (fun _ _ _ h => h) (by omega) (by omega)) (fun r2 S1 H locs P hE hw => ?_)
  have p_a0 : pI S1 9 a0 := pI_x hE p_a0
  refine lv_if_le (tgt := 26) hx hb dX9_ends_7 (by decide) (fun hc => ?_) (fun hc => ?_)
  · have hw := hw.1 hc
    exact tX9_ends_26 C hr hex Q QX S1 a0 x1 p_a0 P (lv_sub hl [0, 1] rfl) (by omega) (by omega) hw
  · have hw := hw.2 hc
    refine lv_aload_n hx hb dX9_ends_10 rfl (lv_at hl 0 rfl) ?_
    refine lv_iload_n hx hb dX9_ends_11 rfl (lv_at hl 1 rfl) ?_
    refine lv_bipush (v := 7) hx hb dX9_ends_12 (by decide) ?_
    refine lv_aload_n hx hb dX9_ends_14 rfl (lv_at hl 0 rfl) ?_
    refine lv_iload_n hx hb dX9_ends_15 rfl (lv_at hl 1 rfl) ?_
    refine lv_bipush (v := 7) hx hb dX9_ends_16 (by decide) ?_
    refine cl_i C P (run_V C P hl.1 (kd := 9) (met_X9_of (CF_n C) G H.size _ _ S1 a0 x1 7 p_a0 hw) p_a0 (by decide) rfl q_1457 q_1459 q_p34 q_10 q_1460 cd_X9_of ⟨(Nat.le_of_ble_eq_true rfl), (Nat.le_of_ble_eq_true rfl)⟩ rfl rfl (As := [.int x1, .int 7]) (rest := [.int 7, .int x1, .ref a0]) rfl rfl (Nat.le_of_ble_eq_true rfl) dX9_ends_18 ⟨by show cells + 0 ≤ 0; omega, by show slots + 0 ≤ 0; omega⟩) (kx_out C hex (fun _ _ _ h => h) (by omega) (by omega)) (fun r4 S3 H locs P hE hw => ?_)
    have p_a0 : pI S3 9 a0 := pI_x hE p_a0
    refine lv_iconst (v := 1) hx hb dX9_ends_21 (by decide) ?_
    refine lv_isub hx hb dX9_ends_22 ?_
    refine cl_v C P (run_V C P hl.1 (kd := 9) (met_X9_sets (CF_n C) G H.size _ _ S3 a0 x1 7 (r4 - 1) p_a0 hw) p_a0 (by decide) rfl q_1465 q_1467 q_p36 q_10 q_1468 cd_X9_sets ⟨(Nat.le_of_ble_eq_true rfl), (Nat.le_of_ble_eq_true rfl)⟩ rfl rfl (As := [.int x1, .int 7, .int (r4 - 1)]) (rest := []) rfl rfl (Nat.le_of_ble_eq_true rfl) dX9_ends_23 ⟨by show cells + 0 ≤ 0; omega, by show slots + 0 ≤ 0; omega⟩) (kx_out C hex (fun _ _ _ h => h) (by omega) (by omega)) (fun S5 H locs P hE hw => ?_)
    have p_a0 : pI S5 9 a0 := pI_x hE p_a0
    exact tX9_ends_26 C hr hex Q QX S5 a0 x1 p_a0 P (lv_sub hl [0, 1] rfl) (by omega) (by omega) hw
def wp_X9_ends (Q : Int32 → MS → Prop) (QX : String → MS → Prop) (S : MS) (a0 : Nat) (x1 : Int32) : Prop := wX9_ends_0 Q QX S a0 x1
set_option maxHeartbeats 4000000 in
set_option maxRecDepth 100000 in
theorem met_X9_ends {l : Launch} (hst : l.stackTraces = false) (G : GP) (sz : Nat) (Q : Int32 → MS → Prop) (QX : String → MS → Prop) (S : MS) (a0 : Nat) (x1 : Int32) (p_a0 : pI S 9 a0) (hw : wp_X9_ends Q QX S a0 x1) : vx_Met l yX9_ends (.code yX9_ends cX9_ends 2 (some .int) :: GW) rmX9_ends (va_Pc [.ref a0, .int x1] (PR G S sz)) (QI G S (FA G S sz) Q) (XX G S (FA G S sz) QX) 0 0 (FA G S sz) := by
  refine st_m (by decide +kernel) hst (fun p e s m below meth c C hr hnm hex P => ?_)
  refine en_m (Nat.le_of_ble_eq_true rfl) (lv := [(0, .ref a0), (1, .int x1)]) rfl (fun ls hl => ?_)
  have C : CF p l s m _ meth c "SkirmishGridModel" cX9_ends 2 G (FA G S sz) := C
  exact tX9_ends_0 C hr hex Q QX S a0 x1 p_a0 P hl (by omega) (by omega) hw
theorem cd_X9_ends : yX9_ends.cls = RX9 ∧ yX9_ends.cls ≠ "java/lang/invoke/MethodHandle" ∧ yX9_ends.cls ≠ "java/lang/invoke/VarHandle" ∧ (parseMethodDescriptor yX9_ends.desc).map (fun d => d.parameters.length) = some 1 := by decide +kernel
abbrev rmX9_isStopped : Room := { frames := 4, cells := 0, slots := 0, locals := 100 }
def wX9_isStopped_47 (Q : Int32 → MS → Prop) (QX : String → MS → Prop) (k2 : MS → Nat → Int32 → Int32 → Prop) (S : MS) (a0 : Nat) (y1 : Int32) (y3 : Int32) (z0 : Int32) : Prop := ((¬ z0 = 0 → wp_X9_sets (fun S1 => wp_X9_tells (fun S2 => wp_X9_attacks (fun r4 S3 => ((r4 ≤ 0 → k2 S3 a0 y1 (y3 + 1)) ∧ (¬ r4 ≤ 0 → Q 1 S3))) QX S2 a0 y3 y1) QX S1 a0 7 y3 y1) QX S a0 y3 10 0) ∧ (z0 = 0 → k2 S a0 y1 (y3 + 1)))
set_option maxHeartbeats 4000000 in
set_option maxRecDepth 100000 in
theorem tX9_isStopped_47 {p : Program} {l : Launch} {e : Env} {s : State} {m : MethodId} {args : Array Value} {below : List Frame} {meth : Method} {c : Code} {H : Heap} {locs : List Loc} {cells slots : Nat} {G : GP} {A : Nat → Prop} {S0 : MS} {ls : Array Slot} (C : CF p l s m args meth c "SkirmishGridModel" cX9_isStopped 5 G A) (hr : meth.sig.returnType = (some .boolean)) (hex : ∀ x ∈ c.exceptionTable.toList, False) (Q : Int32 → MS → Prop) (QX : String → MS → Prop) (k2 : MS → Nat → Int32 → Int32 → Prop) (kh2 : ∀ (S : MS) (a0 : Nat) (y1 : Int32) (y3 : Int32) (cells slots : Nat) (H : Heap) (locs : List Loc) (ls : Array Slot), pI S 9 a0 → PW G A s H locs S0 S → lv_has ls 5 [(0, .ref a0), (1, .int y1), (3, .int y3)] → cells + 0 ≤ 0 → slots + 0 ≤ 0 → k2 S a0 y1 y3 → W p l e rmX9_isStopped s m args below meth c H locs cells slots (vx_MQ below (QI G S0 A Q) (XX G S0 A QX) args s 0 0 A) (F0 m 2 ls [])) (S : MS) (a0 : Nat) (y1 : Int32) (y3 : Int32) (z0 : Int32) (p_a0 : pI S 9 a0) (P : PW G A s H locs S0 S) (hl : lv_has ls 5 [(0, .ref a0), (1, .int y1), (3, .int y3)]) (hcc : cells + 0 ≤ 0) (hss : slots + 0 ≤ 0) (hw : wX9_isStopped_47 Q QX k2 S a0 y1 y3 z0) : W p l e rmX9_isStopped s m args below meth c H locs cells slots (vx_MQ below (QI G S0 A Q) (XX G S0 A QX) args s 0 0 A) (F0 m 47 ls [.int z0]) := by
  have hx := CF_x C
  have hb := CF_b C
  unfold wX9_isStopped_47 at hw
  refine lv_istore (lv' := [(4, .int z0), (0, .ref a0), (1, .int y1), (3, .int y3)]) hx hb dX9_isStopped_47 hl (by decide) rfl (fun ls hl => ?_)
  refine lv_iload hx hb dX9_isStopped_49 (lv_at hl 0 rfl) ?_
  refine lv_if_ne (tgt := 57) hx hb dX9_isStopped_51 (by decide) (fun hc => ?_) (fun hc => ?_)
  · have hw := hw.1 hc
    refine lv_aload_n hx hb dX9_isStopped_57 rfl (lv_at hl 1 rfl) ?_
    refine lv_iload_n hx hb dX9_isStopped_58 rfl (lv_at hl 3 rfl) ?_
    refine lv_bipush (v := 10) hx hb dX9_isStopped_59 (by decide) ?_
    refine lv_iconst (v := 0) hx hb dX9_isStopped_61 (by decide) ?_
    refine cl_v C P (run_V C P hl.1 (kd := 9) (met_X9_sets (CF_n C) G H.size _ _ S a0 y3 10 0 p_a0 hw) p_a0 (by decide) rfl q_1465 q_1467 q_p36 q_10 q_1468 cd_X9_sets ⟨(Nat.le_of_ble_eq_true rfl), (Nat.le_of_ble_eq_true rfl)⟩ rfl rfl (As := [.int y3, .int 10, .int 0]) (rest := []) rfl rfl (Nat.le_of_ble_eq_true rfl) dX9_isStopped_62 ⟨by show cells + 0 ≤ 0; omega, by show slots + 0 ≤ 0; omega⟩) (kx_out C hex (fun _ _ _ h => h) (by omega) (by omega)) (fun S1 H locs P hE hw => ?_)
    have p_a0 : pI S1 9 a0 := pI_x hE p_a0
    refine lv_aload_n hx hb dX9_isStopped_65 rfl (lv_at hl 1 rfl) ?_
    refine lv_bipush (v := 7) hx hb dX9_isStopped_66 (by decide) ?_
    refine lv_iload_n hx hb dX9_isStopped_68 rfl (lv_at hl 3 rfl) ?_
    refine lv_iload_n hx hb dX9_isStopped_69 rfl (lv_at hl 2 rfl) ?_
    refine cl_v C P (run_V C P hl.1 (kd := 9) (met_X9_tells (CF_n C) G H.size _ _ S1 a0 7 y3 y1 p_a0 hw) p_a0 (by decide) rfl q_1523 q_1525 q_p42 q_10 q_1526 cd_X9_tells ⟨(Nat.le_of_ble_eq_true rfl), (Nat.le_of_ble_eq_true rfl)⟩ rfl rfl (As := [.int 7, .int y3, .int y1]) (rest := []) rfl rfl (Nat.le_of_ble_eq_true rfl) dX9_isStopped_70 ⟨by show cells + 0 ≤ 0; omega, by show slots + 0 ≤ 0; omega⟩) (kx_out C hex (fun _ _ _ h => h) (by omega) (by omega)) (fun S2 H locs P hE hw => ?_)
    have p_a0 : pI S2 9 a0 := pI_x hE p_a0
    refine lv_aload_n hx hb dX9_isStopped_73 rfl (lv_at hl 1 rfl) ?_
    refine lv_iload_n hx hb dX9_isStopped_74 rfl (lv_at hl 3 rfl) ?_
    refine lv_iload_n hx hb dX9_isStopped_75 rfl (lv_at hl 2 rfl) ?_
    refine cl_i C P (run_V C P hl.1 (kd := 9) (met_X9_attacks (CF_n C) G H.size _ _ S2 a0 y3 y1 p_a0 hw) p_a0 (by decide) rfl q_1650 q_1652 q_p67 q_10 q_1653 cd_X9_attacks ⟨(Nat.le_of_ble_eq_true rfl), (Nat.le_of_ble_eq_true rfl)⟩ rfl rfl (As := [.int y3, .int y1]) (rest := []) rfl rfl (Nat.le_of_ble_eq_true rfl) dX9_isStopped_76 ⟨by show cells + 0 ≤ 0; omega, by show slots + 0 ≤ 0; omega⟩) (kx_out C hex (fun _ _ _ h => h) (by omega) (by omega)) (fun r4 S3 H locs P hE hw => ?_)
    have p_a0 : pI S3 9 a0 := pI_x hE p_a0
    refine lv_if_le (tgt := 84) hx hb dX9_isStopped_79 (by decide) (fun hc => ?_) (fun hc => ?_)
    · have hw := hw.1 hc
      refine lv_iinc (v := (y3 + 1)) (lv' := [(3, .int (y3 + 1)), (4, .int z0), (0, .ref a0), (1, .int y1)]) hx hb dX9_isStopped_84 hl (k := 3) rfl (by rfl) (by decide) rfl (fun ls hl => ?_)
      refine lv_goto (tgt := 2) hx hb dX9_isStopped_87 (by decide) ?_
      exact kh2 S3 a0 y1 (y3 + 1) _ _ _ _ _ p_a0 P (lv_sub hl [2, 3, 0] rfl) (by omega) (by omega) hw
    · have hw := hw.2 hc
      refine lv_iconst (v := 1) hx hb dX9_isStopped_82 (by decide) ?_
      exact e_i C hr (by decide +kernel) P hw (by omega) (by omega) dX9_isStopped_83
  · have hw := hw.2 hc
    refine lv_goto (tgt := 84) hx hb dX9_isStopped_54 (by decide) ?_
    refine lv_iinc (v := (y3 + 1)) (lv' := [(3, .int (y3 + 1)), (4, .int z0), (0, .ref a0), (1, .int y1)]) hx hb dX9_isStopped_84 hl (k := 3) rfl (by rfl) (by decide) rfl (fun ls hl => ?_)
    refine lv_goto (tgt := 2) hx hb dX9_isStopped_87 (by decide) ?_
    exact kh2 S a0 y1 (y3 + 1) _ _ _ _ _ p_a0 P (lv_sub hl [2, 3, 0] rfl) (by omega) (by omega) hw
def wX9_isStopped_46 (Q : Int32 → MS → Prop) (QX : String → MS → Prop) (k2 : MS → Nat → Int32 → Int32 → Prop) (S : MS) (a0 : Nat) (y1 : Int32) (y3 : Int32) : Prop := wX9_isStopped_47 Q QX k2 S a0 y1 y3 0
set_option maxHeartbeats 4000000 in
set_option maxRecDepth 100000 in
theorem tX9_isStopped_46 {p : Program} {l : Launch} {e : Env} {s : State} {m : MethodId} {args : Array Value} {below : List Frame} {meth : Method} {c : Code} {H : Heap} {locs : List Loc} {cells slots : Nat} {G : GP} {A : Nat → Prop} {S0 : MS} {ls : Array Slot} (C : CF p l s m args meth c "SkirmishGridModel" cX9_isStopped 5 G A) (hr : meth.sig.returnType = (some .boolean)) (hex : ∀ x ∈ c.exceptionTable.toList, False) (Q : Int32 → MS → Prop) (QX : String → MS → Prop) (k2 : MS → Nat → Int32 → Int32 → Prop) (kh2 : ∀ (S : MS) (a0 : Nat) (y1 : Int32) (y3 : Int32) (cells slots : Nat) (H : Heap) (locs : List Loc) (ls : Array Slot), pI S 9 a0 → PW G A s H locs S0 S → lv_has ls 5 [(0, .ref a0), (1, .int y1), (3, .int y3)] → cells + 0 ≤ 0 → slots + 0 ≤ 0 → k2 S a0 y1 y3 → W p l e rmX9_isStopped s m args below meth c H locs cells slots (vx_MQ below (QI G S0 A Q) (XX G S0 A QX) args s 0 0 A) (F0 m 2 ls [])) (S : MS) (a0 : Nat) (y1 : Int32) (y3 : Int32) (p_a0 : pI S 9 a0) (P : PW G A s H locs S0 S) (hl : lv_has ls 5 [(0, .ref a0), (1, .int y1), (3, .int y3)]) (hcc : cells + 0 ≤ 0) (hss : slots + 0 ≤ 0) (hw : wX9_isStopped_46 Q QX k2 S a0 y1 y3) : W p l e rmX9_isStopped s m args below meth c H locs cells slots (vx_MQ below (QI G S0 A Q) (XX G S0 A QX) args s 0 0 A) (F0 m 46 ls []) := by
  have hx := CF_x C
  have hb := CF_b C
  unfold wX9_isStopped_46 at hw
  refine lv_iconst (v := 0) hx hb dX9_isStopped_46 (by decide) ?_
  exact tX9_isStopped_47 C hr hex Q QX k2 kh2 S a0 y1 y3 0 p_a0 P (lv_sub hl [0, 1, 2] rfl) (by omega) (by omega) hw
def wX9_isStopped_2 (Q : Int32 → MS → Prop) (QX : String → MS → Prop) (k2 : MS → Nat → Int32 → Int32 → Prop) (S : MS) (a0 : Nat) (y1 : Int32) (y3 : Int32) : Prop := (∃ a1, mR S a0 1 = some a1 ∧ (vp_in 66 (mN S a1) ∧ (((mI S a1 (66 : Int32).toNatClampNeg) ≤ y3 → Q 0 S) ∧ (¬ (mI S a1 (66 : Int32).toNatClampNeg) ≤ y3 → wp_X9_of (fun r3 S2 => ((¬ r3 = 1 → wX9_isStopped_46 Q QX k2 S2 a0 y1 y3) ∧ (r3 = 1 → wp_X9_of (fun r5 S4 => ((r5 ≤ 0 → wX9_isStopped_46 Q QX k2 S4 a0 y1 y3) ∧ (¬ r5 ≤ 0 → wp_X9_canAttack (fun r7 S6 => ((r7 = 0 → wX9_isStopped_46 Q QX k2 S6 a0 y1 y3) ∧ (¬ r7 = 0 → wX9_isStopped_47 Q QX k2 S6 a0 y1 y3 1))) QX S4 a0 y3 y1))) QX S2 a0 y3 4))) QX S a0 y3 10))))
set_option maxHeartbeats 4000000 in
set_option maxRecDepth 100000 in
theorem tX9_isStopped_2 {p : Program} {l : Launch} {e : Env} {s : State} {m : MethodId} {args : Array Value} {below : List Frame} {meth : Method} {c : Code} {H : Heap} {locs : List Loc} {cells slots : Nat} {G : GP} {A : Nat → Prop} {S0 : MS} {ls : Array Slot} (C : CF p l s m args meth c "SkirmishGridModel" cX9_isStopped 5 G A) (hr : meth.sig.returnType = (some .boolean)) (hex : ∀ x ∈ c.exceptionTable.toList, False) (Q : Int32 → MS → Prop) (QX : String → MS → Prop) (k2 : MS → Nat → Int32 → Int32 → Prop) (kh2 : ∀ (S : MS) (a0 : Nat) (y1 : Int32) (y3 : Int32) (cells slots : Nat) (H : Heap) (locs : List Loc) (ls : Array Slot), pI S 9 a0 → PW G A s H locs S0 S → lv_has ls 5 [(0, .ref a0), (1, .int y1), (3, .int y3)] → cells + 0 ≤ 0 → slots + 0 ≤ 0 → k2 S a0 y1 y3 → W p l e rmX9_isStopped s m args below meth c H locs cells slots (vx_MQ below (QI G S0 A Q) (XX G S0 A QX) args s 0 0 A) (F0 m 2 ls [])) (S : MS) (a0 : Nat) (y1 : Int32) (y3 : Int32) (p_a0 : pI S 9 a0) (P : PW G A s H locs S0 S) (hl : lv_has ls 5 [(0, .ref a0), (1, .int y1), (3, .int y3)]) (hcc : cells + 0 ≤ 0) (hss : slots + 0 ≤ 0) (hw : wX9_isStopped_2 Q QX k2 S a0 y1 y3) : W p l e rmX9_isStopped s m args below meth c H locs cells slots (vx_MQ below (QI G S0 A Q) (XX G S0 A QX) args s 0 0 A) (F0 m 2 ls []) := by
  have hx := CF_x C
  have hb := CF_b C
  unfold wX9_isStopped_2 at hw
  refine lv_iload_n hx hb dX9_isStopped_2 rfl (lv_at hl 2 rfl) ?_
  refine lv_aload_n hx hb dX9_isStopped_3 rfl (lv_at hl 0 rfl) ?_
  obtain ⟨a1, e1, hw⟩ := hw
  have p_a1 : pI S 12 a1 := wf_r P.2.2.2.1 p_a0 e1
  refine gf_9_1 C P p_a0 e1 q_1306 dX9_isStopped_4 ?_
  refine lv_bipush (v := 66) hx hb dX9_isStopped_7 (by decide) ?_
  obtain ⟨h1, hw⟩ := hw
  refine ra_i C P p_a1 h1 dX9_isStopped_9 ?_
  refine lv_icmp_ge (tgt := 90) hx hb dX9_isStopped_10 (by decide) (fun hc => ?_) (fun hc => ?_)
  · have hw := hw.1 hc
    refine lv_iconst (v := 0) hx hb dX9_isStopped_90 (by decide) ?_
    exact e_i C hr (by decide +kernel) P hw (by omega) (by omega) dX9_isStopped_91
  · have hw := hw.2 hc
    refine lv_aload_n hx hb dX9_isStopped_13 rfl (lv_at hl 0 rfl) ?_
    refine lv_iload_n hx hb dX9_isStopped_14 rfl (lv_at hl 2 rfl) ?_
    refine lv_bipush (v := 10) hx hb dX9_isStopped_15 (by decide) ?_
    refine cl_i C P (run_V C P hl.1 (kd := 9) (met_X9_of (CF_n C) G H.size _ _ S a0 y3 10 p_a0 hw) p_a0 (by decide) rfl q_1457 q_1459 q_p34 q_10 q_1460 cd_X9_of ⟨(Nat.le_of_ble_eq_true rfl), (Nat.le_of_ble_eq_true rfl)⟩ rfl rfl (As := [.int y3, .int 10]) (rest := []) rfl rfl (Nat.le_of_ble_eq_true rfl) dX9_isStopped_17 ⟨by show cells + 0 ≤ 0; omega, by show slots + 0 ≤ 0; omega⟩) (kx_out C hex (fun _ _ _ h => h) (by omega) (by omega)) (fun r3 S2 H locs P hE hw => ?_)
    have p_a0 : pI S2 9 a0 := pI_x hE p_a0
    refine lv_iconst (v := 1) hx hb dX9_isStopped_20 (by decide) ?_
    refine lv_icmp_ne (tgt := 46) hx hb dX9_isStopped_21 (by decide) (fun hc => ?_) (fun hc => ?_)
    · have hw := hw.1 hc
      exact tX9_isStopped_46 C hr hex Q QX k2 kh2 S2 a0 y1 y3 p_a0 P (lv_sub hl [0, 1, 2] rfl) (by omega) (by omega) hw
    · have hw := hw.2 hc
      refine lv_aload_n hx hb dX9_isStopped_24 rfl (lv_at hl 0 rfl) ?_
      refine lv_iload_n hx hb dX9_isStopped_25 rfl (lv_at hl 2 rfl) ?_
      refine lv_iconst (v := 4) hx hb dX9_isStopped_26 (by decide) ?_
      refine cl_i C P (run_V C P hl.1 (kd := 9) (met_X9_of (CF_n C) G H.size _ _ S2 a0 y3 4 p_a0 hw) p_a0 (by decide) rfl q_1457 q_1459 q_p34 q_10 q_1460 cd_X9_of ⟨(Nat.le_of_ble_eq_true rfl), (Nat.le_of_ble_eq_true rfl)⟩ rfl rfl (As := [.int y3, .int 4]) (rest := []) rfl rfl (Nat.le_of_ble_eq_true rfl) dX9_isStopped_27 ⟨by show cells + 0 ≤ 0; omega, by show slots + 0 ≤ 0; omega⟩) (kx_out C hex (fun _ _ _ h => h) (by omega) (by omega)) (fun r5 S4 H locs P hE hw => ?_)
      have p_a0 : pI S4 9 a0 := pI_x hE p_a0
      refine lv_if_le (tgt := 46) hx hb dX9_isStopped_30 (by decide) (fun hc => ?_) (fun hc => ?_)
      · have hw := hw.1 hc
        exact tX9_isStopped_46 C hr hex Q QX k2 kh2 S4 a0 y1 y3 p_a0 P (lv_sub hl [0, 1, 2] rfl) (by omega) (by omega) hw
      · have hw := hw.2 hc
        refine lv_aload_n hx hb dX9_isStopped_33 rfl (lv_at hl 0 rfl) ?_
        refine lv_iload_n hx hb dX9_isStopped_34 rfl (lv_at hl 2 rfl) ?_
        refine lv_iload_n hx hb dX9_isStopped_35 rfl (lv_at hl 1 rfl) ?_
        refine cl_i C P (run_V C P hl.1 (kd := 9) (met_X9_canAttack (CF_n C) G H.size _ _ S4 a0 y3 y1 p_a0 hw) p_a0 (by decide) rfl q_1596 q_1598 q_p57 q_10 q_1599 cd_X9_canAttack ⟨(Nat.le_of_ble_eq_true rfl), (Nat.le_of_ble_eq_true rfl)⟩ rfl rfl (As := [.int y3, .int y1]) (rest := []) rfl rfl (Nat.le_of_ble_eq_true rfl) dX9_isStopped_36 ⟨by show cells + 0 ≤ 0; omega, by show slots + 0 ≤ 0; omega⟩) (kx_out C hex (fun _ _ _ h => h) (by omega) (by omega)) (fun r7 S6 H locs P hE hw => ?_)
        have p_a0 : pI S6 9 a0 := pI_x hE p_a0
        refine lv_if_eq (tgt := 46) hx hb dX9_isStopped_39 (by decide) (fun hc => ?_) (fun hc => ?_)
        · have hw := hw.1 hc
          exact tX9_isStopped_46 C hr hex Q QX k2 kh2 S6 a0 y1 y3 p_a0 P (lv_sub hl [0, 1, 2] rfl) (by omega) (by omega) hw
        · have hw := hw.2 hc
          refine lv_iconst (v := 1) hx hb dX9_isStopped_42 (by decide) ?_
          refine lv_goto (tgt := 47) hx hb dX9_isStopped_43 (by decide) ?_
          exact tX9_isStopped_47 C hr hex Q QX k2 kh2 S6 a0 y1 y3 1 p_a0 P (lv_sub hl [0, 1, 2] rfl) (by omega) (by omega) hw
def lX9_isStopped_2 (Q : Int32 → MS → Prop) (QX : String → MS → Prop) : Nat → MS → Nat → Int32 → Int32 → Prop
  | 0 => fun _ _ _ _ => False
  | n + 1 => fun S a0 y1 y3 => wX9_isStopped_2 Q QX (lX9_isStopped_2 Q QX n) S a0 y1 y3
theorem tlX9_isStopped_2 {p : Program} {l : Launch} {e : Env} {s : State} {m : MethodId} {args : Array Value} {below : List Frame} {meth : Method} {c : Code} {G : GP} {A : Nat → Prop} {S0 : MS} (C : CF p l s m args meth c "SkirmishGridModel" cX9_isStopped 5 G A) (hr : meth.sig.returnType = (some .boolean)) (hex : ∀ x ∈ c.exceptionTable.toList, False) (Q : Int32 → MS → Prop) (QX : String → MS → Prop) : ∀ (n : Nat), ∀ (S : MS) (a0 : Nat) (y1 : Int32) (y3 : Int32) (cells slots : Nat) (H : Heap) (locs : List Loc) (ls : Array Slot), pI S 9 a0 → PW G A s H locs S0 S → lv_has ls 5 [(0, .ref a0), (1, .int y1), (3, .int y3)] → cells + 0 ≤ 0 → slots + 0 ≤ 0 → lX9_isStopped_2 Q QX n S a0 y1 y3 → W p l e rmX9_isStopped s m args below meth c H locs cells slots (vx_MQ below (QI G S0 A Q) (XX G S0 A QX) args s 0 0 A) (F0 m 2 ls []) := by
  intro n
  induction n with
  | zero => intro S a0 y1 y3 cells slots H locs ls p_a0 P hl hcc hss hw; exact hw.elim
  | succ n ih => intro S a0 y1 y3 cells slots H locs ls p_a0 P hl hcc hss hw; exact tX9_isStopped_2 C hr hex Q QX (lX9_isStopped_2 Q QX n) ih S a0 y1 y3 p_a0 P hl hcc hss hw
def wX9_isStopped_0 (Q : Int32 → MS → Prop) (QX : String → MS → Prop) (S : MS) (a0 : Nat) (x1 : Int32) (x2 : Int32) : Prop := (∃ n, lX9_isStopped_2 Q QX n S a0 x1 0)
set_option maxHeartbeats 4000000 in
set_option maxRecDepth 100000 in
theorem tX9_isStopped_0 {p : Program} {l : Launch} {e : Env} {s : State} {m : MethodId} {args : Array Value} {below : List Frame} {meth : Method} {c : Code} {H : Heap} {locs : List Loc} {cells slots : Nat} {G : GP} {A : Nat → Prop} {S0 : MS} {ls : Array Slot} (C : CF p l s m args meth c "SkirmishGridModel" cX9_isStopped 5 G A) (hr : meth.sig.returnType = (some .boolean)) (hex : ∀ x ∈ c.exceptionTable.toList, False) (Q : Int32 → MS → Prop) (QX : String → MS → Prop) (S : MS) (a0 : Nat) (x1 : Int32) (x2 : Int32) (p_a0 : pI S 9 a0) (P : PW G A s H locs S0 S) (hl : lv_has ls 5 [(0, .ref a0), (1, .int x1), (2, .int x2)]) (hcc : cells + 0 ≤ 0) (hss : slots + 0 ≤ 0) (hw : wX9_isStopped_0 Q QX S a0 x1 x2) : W p l e rmX9_isStopped s m args below meth c H locs cells slots (vx_MQ below (QI G S0 A Q) (XX G S0 A QX) args s 0 0 A) (F0 m 0 ls []) := by
  have hx := CF_x C
  have hb := CF_b C
  unfold wX9_isStopped_0 at hw
  refine lv_iconst (v := 0) hx hb dX9_isStopped_0 (by decide) ?_
  refine lv_istore_n (lv' := [(3, .int 0), (0, .ref a0), (1, .int x1), (2, .int x2)]) hx hb dX9_isStopped_1 rfl hl (by decide) rfl (fun ls hl => ?_)
  obtain ⟨n, hw⟩ := hw
  exact tlX9_isStopped_2 C hr hex Q QX n S a0 x1 0 _ _ _ _ _ p_a0 P (lv_sub hl [1, 2, 0] rfl) (by omega) (by omega) hw
def wp_X9_isStopped (Q : Int32 → MS → Prop) (QX : String → MS → Prop) (S : MS) (a0 : Nat) (x1 : Int32) (x2 : Int32) : Prop := wX9_isStopped_0 Q QX S a0 x1 x2
set_option maxHeartbeats 4000000 in
set_option maxRecDepth 100000 in
theorem met_X9_isStopped {l : Launch} (hst : l.stackTraces = false) (G : GP) (sz : Nat) (Q : Int32 → MS → Prop) (QX : String → MS → Prop) (S : MS) (a0 : Nat) (x1 : Int32) (x2 : Int32) (p_a0 : pI S 9 a0) (hw : wp_X9_isStopped Q QX S a0 x1 x2) : vx_Met l yX9_isStopped (.code yX9_isStopped cX9_isStopped 5 (some .boolean) :: GW) rmX9_isStopped (va_Pc [.ref a0, .int x1, .int x2] (PR G S sz)) (QI G S (FA G S sz) Q) (XX G S (FA G S sz) QX) 0 0 (FA G S sz) := by
  refine st_m (by decide +kernel) hst (fun p e s m below meth c C hr hnm hex P => ?_)
  refine en_m (Nat.le_of_ble_eq_true rfl) (lv := [(0, .ref a0), (1, .int x1), (2, .int x2)]) rfl (fun ls hl => ?_)
  have C : CF p l s m _ meth c "SkirmishGridModel" cX9_isStopped 5 G (FA G S sz) := C
  exact tX9_isStopped_0 C hr hex Q QX S a0 x1 x2 p_a0 P hl (by omega) (by omega) hw
theorem cd_X9_isStopped : yX9_isStopped.cls = RX9 ∧ yX9_isStopped.cls ≠ "java/lang/invoke/MethodHandle" ∧ yX9_isStopped.cls ≠ "java/lang/invoke/VarHandle" ∧ (parseMethodDescriptor yX9_isStopped.desc).map (fun d => d.parameters.length) = some 2 := by decide +kernel
abbrev rmX9_moves : Room := { frames := 5, cells := 0, slots := 0, locals := 124 }
def wX9_moves_58 (Q : Int32 → MS → Prop) (QX : String → MS → Prop) (k15 : MS → Nat → Int32 → Int32 → Int32 → Int32 → Prop) (S : MS) (a0 : Nat) (y1 : Int32) (y2 : Int32) (y3 : Int32) : Prop := wp_X9_isStopped (fun r2 S1 => k15 S1 a0 y1 y2 y3 r2) QX S a0 y1 y3
set_option maxHeartbeats 4000000 in
set_option maxRecDepth 100000 in
theorem tX9_moves_58 {p : Program} {l : Launch} {e : Env} {s : State} {m : MethodId} {args : Array Value} {below : List Frame} {meth : Method} {c : Code} {H : Heap} {locs : List Loc} {cells slots : Nat} {G : GP} {A : Nat → Prop} {S0 : MS} {ls : Array Slot} (C : CF p l s m args meth c "SkirmishGridModel" cX9_moves 5 G A) (hr : meth.sig.returnType = (some .int)) (hex : ∀ x ∈ c.exceptionTable.toList, False) (Q : Int32 → MS → Prop) (QX : String → MS → Prop) (k15 : MS → Nat → Int32 → Int32 → Int32 → Int32 → Prop) (kh15 : ∀ (S : MS) (a0 : Nat) (y1 : Int32) (y2 : Int32) (y3 : Int32) (y4 : Int32) (cells slots : Nat) (H : Heap) (locs : List Loc) (ls : Array Slot), pI S 9 a0 → PW G A s H locs S0 S → lv_has ls 5 [(0, .ref a0), (1, .int y1), (2, .int y2), (3, .int y3), (4, .int y4)] → cells + 0 ≤ 0 → slots + 0 ≤ 0 → k15 S a0 y1 y2 y3 y4 → W p l e rmX9_moves s m args below meth c H locs cells slots (vx_MQ below (QI G S0 A Q) (XX G S0 A QX) args s 0 0 A) (F0 m 15 ls [])) (S : MS) (a0 : Nat) (y1 : Int32) (y2 : Int32) (y3 : Int32) (p_a0 : pI S 9 a0) (P : PW G A s H locs S0 S) (hl : lv_has ls 5 [(0, .ref a0), (1, .int y1), (2, .int y2), (3, .int y3)]) (hcc : cells + 0 ≤ 0) (hss : slots + 0 ≤ 0) (hw : wX9_moves_58 Q QX k15 S a0 y1 y2 y3) : W p l e rmX9_moves s m args below meth c H locs cells slots (vx_MQ below (QI G S0 A Q) (XX G S0 A QX) args s 0 0 A) (F0 m 58 ls []) := by
  have hx := CF_x C
  have hb := CF_b C
  unfold wX9_moves_58 at hw
  refine lv_aload_n hx hb dX9_moves_58 rfl (lv_at hl 0 rfl) ?_
  refine lv_iload_n hx hb dX9_moves_59 rfl (lv_at hl 1 rfl) ?_
  refine lv_iload_n hx hb dX9_moves_60 rfl (lv_at hl 3 rfl) ?_
  refine cl_i C P (run_V C P hl.1 (kd := 9) (met_X9_isStopped (CF_n C) G H.size _ _ S a0 y1 y3 p_a0 hw) p_a0 (by decide) rfl q_1646 q_1648 q_p66 q_10 q_1649 cd_X9_isStopped ⟨(Nat.le_of_ble_eq_true rfl), (Nat.le_of_ble_eq_true rfl)⟩ rfl rfl (As := [.int y1, .int y3]) (rest := []) rfl rfl (Nat.le_of_ble_eq_true rfl) dX9_moves_61 ⟨by show cells + 0 ≤ 0; omega, by show slots + 0 ≤ 0; omega⟩) (kx_out C hex (fun _ _ _ h => h) (by omega) (by omega)) (fun r2 S1 H locs P hE hw => ?_)
  have p_a0 : pI S1 9 a0 := pI_x hE p_a0
  refine lv_istore (lv' := [(4, .int r2), (0, .ref a0), (1, .int y1), (2, .int y2), (3, .int y3)]) hx hb dX9_moves_64 hl (by decide) rfl (fun ls hl => ?_)
  refine lv_goto (tgt := 15) hx hb dX9_moves_66 (by decide) ?_
  exact kh15 S1 a0 y1 y2 y3 r2 _ _ _ _ _ p_a0 P (lv_sub hl [1, 2, 3, 4, 0] rfl) (by omega) (by omega) hw
def wX9_moves_69 (Q : Int32 → MS → Prop) (QX : String → MS → Prop) (S : MS) (a0 : Nat) (y1 : Int32) (y3 : Int32) : Prop := wp_X9_tells (fun S1 => Q y3 S1) QX S a0 1 y1 y3
set_option maxHeartbeats 4000000 in
set_option maxRecDepth 100000 in
theorem tX9_moves_69 {p : Program} {l : Launch} {e : Env} {s : State} {m : MethodId} {args : Array Value} {below : List Frame} {meth : Method} {c : Code} {H : Heap} {locs : List Loc} {cells slots : Nat} {G : GP} {A : Nat → Prop} {S0 : MS} {ls : Array Slot} (C : CF p l s m args meth c "SkirmishGridModel" cX9_moves 5 G A) (hr : meth.sig.returnType = (some .int)) (hex : ∀ x ∈ c.exceptionTable.toList, False) (Q : Int32 → MS → Prop) (QX : String → MS → Prop) (S : MS) (a0 : Nat) (y1 : Int32) (y3 : Int32) (p_a0 : pI S 9 a0) (P : PW G A s H locs S0 S) (hl : lv_has ls 5 [(0, .ref a0), (1, .int y1), (3, .int y3)]) (hcc : cells + 0 ≤ 0) (hss : slots + 0 ≤ 0) (hw : wX9_moves_69 Q QX S a0 y1 y3) : W p l e rmX9_moves s m args below meth c H locs cells slots (vx_MQ below (QI G S0 A Q) (XX G S0 A QX) args s 0 0 A) (F0 m 69 ls []) := by
  have hx := CF_x C
  have hb := CF_b C
  unfold wX9_moves_69 at hw
  refine lv_aload_n hx hb dX9_moves_69 rfl (lv_at hl 0 rfl) ?_
  refine lv_iconst (v := 1) hx hb dX9_moves_70 (by decide) ?_
  refine lv_iload_n hx hb dX9_moves_71 rfl (lv_at hl 1 rfl) ?_
  refine lv_iload_n hx hb dX9_moves_72 rfl (lv_at hl 2 rfl) ?_
  refine cl_v C P (run_V C P hl.1 (kd := 9) (met_X9_tells (CF_n C) G H.size _ _ S a0 1 y1 y3 p_a0 hw) p_a0 (by decide) rfl q_1523 q_1525 q_p42 q_10 q_1526 cd_X9_tells ⟨(Nat.le_of_ble_eq_true rfl), (Nat.le_of_ble_eq_true rfl)⟩ rfl rfl (As := [.int 1, .int y1, .int y3]) (rest := []) rfl rfl (Nat.le_of_ble_eq_true rfl) dX9_moves_73 ⟨by show cells + 0 ≤ 0; omega, by show slots + 0 ≤ 0; omega⟩) (kx_out C hex (fun _ _ _ h => h) (by omega) (by omega)) (fun S1 H locs P hE hw => ?_)
  have p_a0 : pI S1 9 a0 := pI_x hE p_a0
  refine lv_iload_n hx hb dX9_moves_76 rfl (lv_at hl 2 rfl) ?_
  exact e_i C hr rfl P hw (by omega) (by omega) dX9_moves_77
def wX9_moves_15 (Q : Int32 → MS → Prop) (QX : String → MS → Prop) (k15 : MS → Nat → Int32 → Int32 → Int32 → Int32 → Prop) (S : MS) (a0 : Nat) (y1 : Int32) (y2 : Int32) (y3 : Int32) (y4 : Int32) : Prop := ((y3 = y2 → wX9_moves_69 Q QX S a0 y1 y3) ∧ (¬ y3 = y2 → ((¬ y4 = 0 → wX9_moves_69 Q QX S a0 y1 y3) ∧ (y4 = 0 → wp_X9_next (fun r2 S1 => wp_X9_sets (fun S3 => (∃ a4, mR S3 a0 1 = some a4 ∧ (vp_in (2 + r2) (mN S3 a4) ∧ ((¬ (mI S3 a4 ((2 + r2) : Int32).toNatClampNeg) = 4 → wX9_moves_58 Q QX k15 S3 a0 y1 y2 r2) ∧ ((mI S3 a4 ((2 + r2) : Int32).toNatClampNeg) = 4 → wp_X9_sets (fun S5 => wX9_moves_58 Q QX k15 S5 a0 y1 y2 r2) QX S3 a0 y1 8 2))))) QX S1 a0 y1 2 r2) QX S a0 y3))))
set_option maxHeartbeats 4000000 in
set_option maxRecDepth 100000 in
theorem tX9_moves_15 {p : Program} {l : Launch} {e : Env} {s : State} {m : MethodId} {args : Array Value} {below : List Frame} {meth : Method} {c : Code} {H : Heap} {locs : List Loc} {cells slots : Nat} {G : GP} {A : Nat → Prop} {S0 : MS} {ls : Array Slot} (C : CF p l s m args meth c "SkirmishGridModel" cX9_moves 5 G A) (hr : meth.sig.returnType = (some .int)) (hex : ∀ x ∈ c.exceptionTable.toList, False) (Q : Int32 → MS → Prop) (QX : String → MS → Prop) (k15 : MS → Nat → Int32 → Int32 → Int32 → Int32 → Prop) (kh15 : ∀ (S : MS) (a0 : Nat) (y1 : Int32) (y2 : Int32) (y3 : Int32) (y4 : Int32) (cells slots : Nat) (H : Heap) (locs : List Loc) (ls : Array Slot), pI S 9 a0 → PW G A s H locs S0 S → lv_has ls 5 [(0, .ref a0), (1, .int y1), (2, .int y2), (3, .int y3), (4, .int y4)] → cells + 0 ≤ 0 → slots + 0 ≤ 0 → k15 S a0 y1 y2 y3 y4 → W p l e rmX9_moves s m args below meth c H locs cells slots (vx_MQ below (QI G S0 A Q) (XX G S0 A QX) args s 0 0 A) (F0 m 15 ls [])) (S : MS) (a0 : Nat) (y1 : Int32) (y2 : Int32) (y3 : Int32) (y4 : Int32) (p_a0 : pI S 9 a0) (P : PW G A s H locs S0 S) (hl : lv_has ls 5 [(0, .ref a0), (1, .int y1), (2, .int y2), (3, .int y3), (4, .int y4)]) (hcc : cells + 0 ≤ 0) (hss : slots + 0 ≤ 0) (hw : wX9_moves_15 Q QX k15 S a0 y1 y2 y3 y4) : W p l e rmX9_moves s m args below meth c H locs cells slots (vx_MQ below (QI G S0 A Q) (XX G S0 A QX) args s 0 0 A) (F0 m 15 ls []) := by
  have hx := CF_x C
  have hb := CF_b C
  unfold wX9_moves_15 at hw
  refine lv_iload_n hx hb dX9_moves_15 rfl (lv_at hl 3 rfl) ?_
  refine lv_iload_n hx hb dX9_moves_16 rfl (lv_at hl 2 rfl) ?_
  refine lv_icmp_eq (tgt := 69) hx hb dX9_moves_17 (by decide) (fun hc => ?_) (fun hc => ?_)
  · have hw := hw.1 hc
    exact tX9_moves_69 C hr hex Q QX S a0 y1 y3 p_a0 P (lv_sub hl [0, 1, 3] rfl) (by omega) (by omega) hw
  · have hw := hw.2 hc
    refine lv_iload hx hb dX9_moves_20 (lv_at hl 4 rfl) ?_
    refine lv_if_ne (tgt := 69) hx hb dX9_moves_22 (by decide) (fun hc => ?_) (fun hc => ?_)
    · have hw := hw.1 hc
      exact tX9_moves_69 C hr hex Q QX S a0 y1 y3 p_a0 P (lv_sub hl [0, 1, 3] rfl) (by omega) (by omega) hw
    · have hw := hw.2 hc
      refine lv_aload_n hx hb dX9_moves_25 rfl (lv_at hl 0 rfl) ?_
      refine lv_iload_n hx hb dX9_moves_26 rfl (lv_at hl 3 rfl) ?_
      refine cl_i C P (run_V C P hl.1 (kd := 9) (met_X9_next (CF_n C) G H.size _ _ S a0 y3 p_a0 hw) p_a0 (by decide) rfl q_1584 q_1586 q_p55 q_10 q_1587 cd_X9_next ⟨(Nat.le_of_ble_eq_true rfl), (Nat.le_of_ble_eq_true rfl)⟩ rfl rfl (As := [.int y3]) (rest := []) rfl rfl (Nat.le_of_ble_eq_true rfl) dX9_moves_27 ⟨by show cells + 0 ≤ 0; omega, by show slots + 0 ≤ 0; omega⟩) (kx_out C hex (fun _ _ _ h => h) (by omega) (by omega)) (fun r2 S1 H locs P hE hw => ?_)
      have p_a0 : pI S1 9 a0 := pI_x hE p_a0
      refine lv_istore_n (lv' := [(3, .int r2), (0, .ref a0), (1, .int y1), (2, .int y2), (4, .int y4)]) hx hb dX9_moves_30 rfl hl (by decide) rfl (fun ls hl => ?_)
      refine lv_aload_n hx hb dX9_moves_31 rfl (lv_at hl 1 rfl) ?_
      refine lv_iload_n hx hb dX9_moves_32 rfl (lv_at hl 2 rfl) ?_
      refine lv_iconst (v := 2) hx hb dX9_moves_33 (by decide) ?_
      refine lv_iload_n hx hb dX9_moves_34 rfl (lv_at hl 0 rfl) ?_
      refine cl_v C P (run_V C P hl.1 (kd := 9) (met_X9_sets (CF_n C) G H.size _ _ S1 a0 y1 2 r2 p_a0 hw) p_a0 (by decide) rfl q_1465 q_1467 q_p36 q_10 q_1468 cd_X9_sets ⟨(Nat.le_of_ble_eq_true rfl), (Nat.le_of_ble_eq_true rfl)⟩ rfl rfl (As := [.int y1, .int 2, .int r2]) (rest := []) rfl rfl (Nat.le_of_ble_eq_true rfl) dX9_moves_35 ⟨by show cells + 0 ≤ 0; omega, by show slots + 0 ≤ 0; omega⟩) (kx_out C hex (fun _ _ _ h => h) (by omega) (by omega)) (fun S3 H locs P hE hw => ?_)
      have p_a0 : pI S3 9 a0 := pI_x hE p_a0
      refine lv_aload_n hx hb dX9_moves_38 rfl (lv_at hl 1 rfl) ?_
      obtain ⟨a4, e1, hw⟩ := hw
      have p_a4 : pI S3 12 a4 := wf_r P.2.2.2.1 p_a0 e1
      refine gf_9_1 C P p_a0 e1 q_1306 dX9_moves_39 ?_
      refine lv_iconst (v := 2) hx hb dX9_moves_42 (by decide) ?_
      refine lv_iload_n hx hb dX9_moves_43 rfl (lv_at hl 0 rfl) ?_
      refine lv_iadd hx hb dX9_moves_44 ?_
      obtain ⟨h1, hw⟩ := hw
      refine ra_i C P p_a4 h1 dX9_moves_45 ?_
      refine lv_iconst (v := 4) hx hb dX9_moves_46 (by decide) ?_
      refine lv_icmp_ne (tgt := 58) hx hb dX9_moves_47 (by decide) (fun hc => ?_) (fun hc => ?_)
      · have hw := hw.1 hc
        exact tX9_moves_58 C hr hex Q QX k15 kh15 S3 a0 y1 y2 r2 p_a0 P (lv_sub hl [1, 2, 3, 0] rfl) (by omega) (by omega) hw
      · have hw := hw.2 hc
        refine lv_aload_n hx hb dX9_moves_50 rfl (lv_at hl 1 rfl) ?_
        refine lv_iload_n hx hb dX9_moves_51 rfl (lv_at hl 2 rfl) ?_
        refine lv_bipush (v := 8) hx hb dX9_moves_52 (by decide) ?_
        refine lv_iconst (v := 2) hx hb dX9_moves_54 (by decide) ?_
        refine cl_v C P (run_V C P hl.1 (kd := 9) (met_X9_sets (CF_n C) G H.size _ _ S3 a0 y1 8 2 p_a0 hw) p_a0 (by decide) rfl q_1465 q_1467 q_p36 q_10 q_1468 cd_X9_sets ⟨(Nat.le_of_ble_eq_true rfl), (Nat.le_of_ble_eq_true rfl)⟩ rfl rfl (As := [.int y1, .int 8, .int 2]) (rest := []) rfl rfl (Nat.le_of_ble_eq_true rfl) dX9_moves_55 ⟨by show cells + 0 ≤ 0; omega, by show slots + 0 ≤ 0; omega⟩) (kx_out C hex (fun _ _ _ h => h) (by omega) (by omega)) (fun S5 H locs P hE hw => ?_)
        have p_a0 : pI S5 9 a0 := pI_x hE p_a0
        exact tX9_moves_58 C hr hex Q QX k15 kh15 S5 a0 y1 y2 r2 p_a0 P (lv_sub hl [1, 2, 3, 0] rfl) (by omega) (by omega) hw
def lX9_moves_15 (Q : Int32 → MS → Prop) (QX : String → MS → Prop) : Nat → MS → Nat → Int32 → Int32 → Int32 → Int32 → Prop
  | 0 => fun _ _ _ _ _ _ => False
  | n + 1 => fun S a0 y1 y2 y3 y4 => wX9_moves_15 Q QX (lX9_moves_15 Q QX n) S a0 y1 y2 y3 y4
theorem tlX9_moves_15 {p : Program} {l : Launch} {e : Env} {s : State} {m : MethodId} {args : Array Value} {below : List Frame} {meth : Method} {c : Code} {G : GP} {A : Nat → Prop} {S0 : MS} (C : CF p l s m args meth c "SkirmishGridModel" cX9_moves 5 G A) (hr : meth.sig.returnType = (some .int)) (hex : ∀ x ∈ c.exceptionTable.toList, False) (Q : Int32 → MS → Prop) (QX : String → MS → Prop) : ∀ (n : Nat), ∀ (S : MS) (a0 : Nat) (y1 : Int32) (y2 : Int32) (y3 : Int32) (y4 : Int32) (cells slots : Nat) (H : Heap) (locs : List Loc) (ls : Array Slot), pI S 9 a0 → PW G A s H locs S0 S → lv_has ls 5 [(0, .ref a0), (1, .int y1), (2, .int y2), (3, .int y3), (4, .int y4)] → cells + 0 ≤ 0 → slots + 0 ≤ 0 → lX9_moves_15 Q QX n S a0 y1 y2 y3 y4 → W p l e rmX9_moves s m args below meth c H locs cells slots (vx_MQ below (QI G S0 A Q) (XX G S0 A QX) args s 0 0 A) (F0 m 15 ls []) := by
  intro n
  induction n with
  | zero => intro S a0 y1 y2 y3 y4 cells slots H locs ls p_a0 P hl hcc hss hw; exact hw.elim
  | succ n ih => intro S a0 y1 y2 y3 y4 cells slots H locs ls p_a0 P hl hcc hss hw; exact tX9_moves_15 C hr hex Q QX (lX9_moves_15 Q QX n) ih S a0 y1 y2 y3 y4 p_a0 P hl hcc hss hw
def wX9_moves_0 (Q : Int32 → MS → Prop) (QX : String → MS → Prop) (S : MS) (a0 : Nat) (x1 : Int32) (x2 : Int32) : Prop := wp_X9_measures (fun S1 => wp_X9_of (fun r3 S2 => (∃ n, lX9_moves_15 Q QX n S2 a0 x1 x2 r3 0)) QX S1 a0 x1 2) QX S a0 x2
set_option maxHeartbeats 4000000 in
set_option maxRecDepth 100000 in
theorem tX9_moves_0 {p : Program} {l : Launch} {e : Env} {s : State} {m : MethodId} {args : Array Value} {below : List Frame} {meth : Method} {c : Code} {H : Heap} {locs : List Loc} {cells slots : Nat} {G : GP} {A : Nat → Prop} {S0 : MS} {ls : Array Slot} (C : CF p l s m args meth c "SkirmishGridModel" cX9_moves 5 G A) (hr : meth.sig.returnType = (some .int)) (hex : ∀ x ∈ c.exceptionTable.toList, False) (Q : Int32 → MS → Prop) (QX : String → MS → Prop) (S : MS) (a0 : Nat) (x1 : Int32) (x2 : Int32) (p_a0 : pI S 9 a0) (P : PW G A s H locs S0 S) (hl : lv_has ls 5 [(0, .ref a0), (1, .int x1), (2, .int x2)]) (hcc : cells + 0 ≤ 0) (hss : slots + 0 ≤ 0) (hw : wX9_moves_0 Q QX S a0 x1 x2) : W p l e rmX9_moves s m args below meth c H locs cells slots (vx_MQ below (QI G S0 A Q) (XX G S0 A QX) args s 0 0 A) (F0 m 0 ls []) := by
  have hx := CF_x C
  have hb := CF_b C
  unfold wX9_moves_0 at hw
  refine lv_aload_n hx hb dX9_moves_0 rfl (lv_at hl 0 rfl) ?_
  refine lv_iload_n hx hb dX9_moves_1 rfl (lv_at hl 2 rfl) ?_
  refine cl_v C P (run_V C P hl.1 (kd := 9) (met_X9_measures (CF_n C) G H.size _ _ S a0 x2 p_a0 hw) p_a0 (by decide) rfl q_1568 q_1570 q_p52 q_10 q_1571 cd_X9_measures ⟨(Nat.le_of_ble_eq_true rfl), (Nat.le_of_ble_eq_true rfl)⟩ rfl rfl (As := [.int x2]) (rest := []) rfl rfl (Nat.le_of_ble_eq_true rfl) dX9_moves_2 ⟨by show cells + 0 ≤ 0; omega, by show slots + 0 ≤ 0; omega⟩) (kx_out C hex (fun _ _ _ h => h) (by omega) (by omega)) (fun S1 H locs P hE hw => ?_)
  have p_a0 : pI S1 9 a0 := pI_x hE p_a0
  refine lv_aload_n hx hb dX9_moves_5 rfl (lv_at hl 0 rfl) ?_
  refine lv_iload_n hx hb dX9_moves_6 rfl (lv_at hl 1 rfl) ?_
  refine lv_iconst (v := 2) hx hb dX9_moves_7 (by decide) ?_
  refine cl_i C P (run_V C P hl.1 (kd := 9) (met_X9_of (CF_n C) G H.size _ _ S1 a0 x1 2 p_a0 hw) p_a0 (by decide) rfl q_1457 q_1459 q_p34 q_10 q_1460 cd_X9_of ⟨(Nat.le_of_ble_eq_true rfl), (Nat.le_of_ble_eq_true rfl)⟩ rfl rfl (As := [.int x1, .int 2]) (rest := []) rfl rfl (Nat.le_of_ble_eq_true rfl) dX9_moves_8 ⟨by show cells + 0 ≤ 0; omega, by show slots + 0 ≤ 0; omega⟩) (kx_out C hex (fun _ _ _ h => h) (by omega) (by omega)) (fun r3 S2 H locs P hE hw => ?_)
  have p_a0 : pI S2 9 a0 := pI_x hE p_a0
  refine lv_istore_n (lv' := [(3, .int r3), (0, .ref a0), (1, .int x1), (2, .int x2)]) hx hb dX9_moves_11 rfl hl (by decide) rfl (fun ls hl => ?_)
  refine lv_iconst (v := 0) hx hb dX9_moves_12 (by decide) ?_
  refine lv_istore (lv' := [(4, .int 0), (3, .int r3), (0, .ref a0), (1, .int x1), (2, .int x2)]) hx hb dX9_moves_13 hl (by decide) rfl (fun ls hl => ?_)
  obtain ⟨n, hw⟩ := hw
  exact tlX9_moves_15 C hr hex Q QX n S2 a0 x1 x2 r3 0 _ _ _ _ _ p_a0 P (lv_sub hl [2, 3, 4, 1, 0] rfl) (by omega) (by omega) hw
def wp_X9_moves (Q : Int32 → MS → Prop) (QX : String → MS → Prop) (S : MS) (a0 : Nat) (x1 : Int32) (x2 : Int32) : Prop := wX9_moves_0 Q QX S a0 x1 x2
set_option maxHeartbeats 4000000 in
set_option maxRecDepth 100000 in
theorem met_X9_moves {l : Launch} (hst : l.stackTraces = false) (G : GP) (sz : Nat) (Q : Int32 → MS → Prop) (QX : String → MS → Prop) (S : MS) (a0 : Nat) (x1 : Int32) (x2 : Int32) (p_a0 : pI S 9 a0) (hw : wp_X9_moves Q QX S a0 x1 x2) : vx_Met l yX9_moves (.code yX9_moves cX9_moves 5 (some .int) :: GW) rmX9_moves (va_Pc [.ref a0, .int x1, .int x2] (PR G S sz)) (QI G S (FA G S sz) Q) (XX G S (FA G S sz) QX) 0 0 (FA G S sz) := by
  refine st_m (by decide +kernel) hst (fun p e s m below meth c C hr hnm hex P => ?_)
  refine en_m (Nat.le_of_ble_eq_true rfl) (lv := [(0, .ref a0), (1, .int x1), (2, .int x2)]) rfl (fun ls hl => ?_)
  have C : CF p l s m _ meth c "SkirmishGridModel" cX9_moves 5 G (FA G S sz) := C
  exact tX9_moves_0 C hr hex Q QX S a0 x1 x2 p_a0 P hl (by omega) (by omega) hw
theorem cd_X9_moves : yX9_moves.cls = RX9 ∧ yX9_moves.cls ≠ "java/lang/invoke/MethodHandle" ∧ yX9_moves.cls ≠ "java/lang/invoke/VarHandle" ∧ (parseMethodDescriptor yX9_moves.desc).map (fun d => d.parameters.length) = some 2 := by decide +kernel
abbrev rmX9_throwsAt : Room := { frames := 3, cells := 0, slots := 0, locals := 64 }
def wX9_throwsAt_27 (Q : Int32 → MS → Prop) (QX : String → MS → Prop) (k27 : MS → Nat → Int32 → Int32 → Int32 → Prop) (S : MS) (a0 : Nat) (y2 : Int32) (y3 : Int32) (y4 : Int32) : Prop := (∃ a1, mR S a0 1 = some a1 ∧ (vp_in 66 (mN S a1) ∧ (((mI S a1 (66 : Int32).toNatClampNeg) ≤ y4 → Q y3 S) ∧ (¬ (mI S a1 (66 : Int32).toNatClampNeg) ≤ y4 → wp_X9_lives (fun r3 S2 => ((r3 = 0 → k27 S2 a0 y2 y3 (y4 + 1)) ∧ (¬ r3 = 0 → wp_X9_of (fun r5 S4 => wp_X9_apart (fun r7 S6 => ((r7 ≤ 1 → wp_X9_loses (fun S8 => wp_X9_dies (fun S9 => wp_X9_lives (fun r11 S10 => ((r11 = 0 → k27 S10 a0 y2 (y3 + 1) (y4 + 1)) ∧ (¬ r11 = 0 → wp_X9_roll (fun r13 S12 => ((r13 < 5 → k27 S12 a0 y2 (y3 + 1) (y4 + 1)) ∧ (¬ r13 < 5 → wp_X9_of (fun r15 S14 => ((r15 ≤ 0 → wp_X9_sets (fun S16 => wp_X9_tells (fun S17 => k27 S17 a0 y2 (y3 + 1) (y4 + 1)) QX S16 a0 6 y4 1) QX S14 a0 y4 7 1) ∧ (¬ r15 ≤ 0 → k27 S14 a0 y2 (y3 + 1) (y4 + 1)))) QX S12 a0 y4 7))) QX S10 a0 6))) QX S9 a0 y4) QX S8 a0 y4) QX S6 a0 y4 3) ∧ (¬ r7 ≤ 1 → k27 S6 a0 y2 y3 (y4 + 1)))) QX S4 a0 r5 y2) QX S2 a0 y4 2))) QX S a0 y4))))
set_option maxHeartbeats 4000000 in
set_option maxRecDepth 100000 in
theorem tX9_throwsAt_27 {p : Program} {l : Launch} {e : Env} {s : State} {m : MethodId} {args : Array Value} {below : List Frame} {meth : Method} {c : Code} {H : Heap} {locs : List Loc} {cells slots : Nat} {G : GP} {A : Nat → Prop} {S0 : MS} {ls : Array Slot} (C : CF p l s m args meth c "SkirmishGridModel" cX9_throwsAt 5 G A) (hr : meth.sig.returnType = (some .int)) (hex : ∀ x ∈ c.exceptionTable.toList, False) (Q : Int32 → MS → Prop) (QX : String → MS → Prop) (k27 : MS → Nat → Int32 → Int32 → Int32 → Prop) (kh27 : ∀ (S : MS) (a0 : Nat) (y2 : Int32) (y3 : Int32) (y4 : Int32) (cells slots : Nat) (H : Heap) (locs : List Loc) (ls : Array Slot), pI S 9 a0 → PW G A s H locs S0 S → lv_has ls 5 [(0, .ref a0), (2, .int y2), (3, .int y3), (4, .int y4)] → cells + 0 ≤ 0 → slots + 0 ≤ 0 → k27 S a0 y2 y3 y4 → W p l e rmX9_throwsAt s m args below meth c H locs cells slots (vx_MQ below (QI G S0 A Q) (XX G S0 A QX) args s 0 0 A) (F0 m 27 ls [])) (S : MS) (a0 : Nat) (y2 : Int32) (y3 : Int32) (y4 : Int32) (p_a0 : pI S 9 a0) (P : PW G A s H locs S0 S) (hl : lv_has ls 5 [(0, .ref a0), (2, .int y2), (3, .int y3), (4, .int y4)]) (hcc : cells + 0 ≤ 0) (hss : slots + 0 ≤ 0) (hw : wX9_throwsAt_27 Q QX k27 S a0 y2 y3 y4) : W p l e rmX9_throwsAt s m args below meth c H locs cells slots (vx_MQ below (QI G S0 A Q) (XX G S0 A QX) args s 0 0 A) (F0 m 27 ls []) := by
  have hx := CF_x C
  have hb := CF_b C
  unfold wX9_throwsAt_27 at hw
  refine lv_iload hx hb dX9_throwsAt_27 (lv_at hl 3 rfl) ?_
  refine lv_aload_n hx hb dX9_throwsAt_29 rfl (lv_at hl 0 rfl) ?_
  obtain ⟨a1, e1, hw⟩ := hw
  have p_a1 : pI S 12 a1 := wf_r P.2.2.2.1 p_a0 e1
  refine gf_9_1 C P p_a0 e1 q_1306 dX9_throwsAt_30 ?_
  refine lv_bipush (v := 66) hx hb dX9_throwsAt_33 (by decide) ?_
  obtain ⟨h1, hw⟩ := hw
  refine ra_i C P p_a1 h1 dX9_throwsAt_35 ?_
  refine lv_icmp_ge (tgt := 140) hx hb dX9_throwsAt_36 (by decide) (fun hc => ?_) (fun hc => ?_)
  · have hw := hw.1 hc
    refine lv_iload_n hx hb dX9_throwsAt_140 rfl (lv_at hl 2 rfl) ?_
    exact e_i C hr rfl P hw (by omega) (by omega) dX9_throwsAt_141
  · have hw := hw.2 hc
    refine lv_aload_n hx hb dX9_throwsAt_39 rfl (lv_at hl 0 rfl) ?_
    refine lv_iload hx hb dX9_throwsAt_40 (lv_at hl 3 rfl) ?_
    refine cl_i C P (run_V C P hl.1 (kd := 9) (met_X9_lives (CF_n C) G H.size _ _ S a0 y4 p_a0 hw) p_a0 (by decide) rfl q_1453 q_1455 q_p33 q_10 q_1456 cd_X9_lives ⟨(Nat.le_of_ble_eq_true rfl), (Nat.le_of_ble_eq_true rfl)⟩ rfl rfl (As := [.int y4]) (rest := []) rfl rfl (Nat.le_of_ble_eq_true rfl) dX9_throwsAt_42 ⟨by show cells + 0 ≤ 0; omega, by show slots + 0 ≤ 0; omega⟩) (kx_out C hex (fun _ _ _ h => h) (by omega) (by omega)) (fun r3 S2 H locs P hE hw => ?_)
    have p_a0 : pI S2 9 a0 := pI_x hE p_a0
    refine lv_if_eq (tgt := 134) hx hb dX9_throwsAt_45 (by decide) (fun hc => ?_) (fun hc => ?_)
    · have hw := hw.1 hc
      refine lv_iinc (v := (y4 + 1)) (lv' := [(4, .int (y4 + 1)), (0, .ref a0), (2, .int y2), (3, .int y3)]) hx hb dX9_throwsAt_134 hl (k := 3) rfl (by rfl) (by decide) rfl (fun ls hl => ?_)
      refine lv_goto (tgt := 27) hx hb dX9_throwsAt_137 (by decide) ?_
      exact kh27 S2 a0 y2 y3 (y4 + 1) _ _ _ _ _ p_a0 P (lv_sub hl [1, 2, 3, 0] rfl) (by omega) (by omega) hw
    · have hw := hw.2 hc
      refine lv_aload_n hx hb dX9_throwsAt_48 rfl (lv_at hl 0 rfl) ?_
      refine lv_aload_n hx hb dX9_throwsAt_49 rfl (lv_at hl 0 rfl) ?_
      refine lv_iload hx hb dX9_throwsAt_50 (lv_at hl 3 rfl) ?_
      refine lv_iconst (v := 2) hx hb dX9_throwsAt_52 (by decide) ?_
      refine cl_i C P (run_V C P hl.1 (kd := 9) (met_X9_of (CF_n C) G H.size _ _ S2 a0 y4 2 p_a0 hw) p_a0 (by decide) rfl q_1457 q_1459 q_p34 q_10 q_1460 cd_X9_of ⟨(Nat.le_of_ble_eq_true rfl), (Nat.le_of_ble_eq_true rfl)⟩ rfl rfl (As := [.int y4, .int 2]) (rest := [.ref a0]) rfl rfl (Nat.le_of_ble_eq_true rfl) dX9_throwsAt_53 ⟨by show cells + 0 ≤ 0; omega, by show slots + 0 ≤ 0; omega⟩) (kx_out C hex (fun _ _ _ h => h) (by omega) (by omega)) (fun r5 S4 H locs P hE hw => ?_)
      have p_a0 : pI S4 9 a0 := pI_x hE p_a0
      refine lv_iload_n hx hb dX9_throwsAt_56 rfl (lv_at hl 1 rfl) ?_
      refine cl_i C P (run_V C P hl.1 (kd := 9) (met_X9_apart (CF_n C) G H.size _ _ S4 a0 r5 y2 p_a0 hw) p_a0 (by decide) rfl q_1600 q_1602 q_p58 q_10 q_1603 cd_X9_apart ⟨(Nat.le_of_ble_eq_true rfl), (Nat.le_of_ble_eq_true rfl)⟩ rfl rfl (As := [.int r5, .int y2]) (rest := []) rfl rfl (Nat.le_of_ble_eq_true rfl) dX9_throwsAt_57 ⟨by show cells + 0 ≤ 0; omega, by show slots + 0 ≤ 0; omega⟩) (kx_out C hex (fun _ _ _ h => h) (by omega) (by omega)) (fun r7 S6 H locs P hE hw => ?_)
      have p_a0 : pI S6 9 a0 := pI_x hE p_a0
      refine lv_iconst (v := 1) hx hb dX9_throwsAt_60 (by decide) ?_
      refine lv_icmp_le (tgt := 67) hx hb dX9_throwsAt_61 (by decide) (fun hc => ?_) (fun hc => ?_)
      · have hw := hw.1 hc
        refine lv_iinc (v := (y3 + 1)) (lv' := [(3, .int (y3 + 1)), (0, .ref a0), (2, .int y2), (4, .int y4)]) hx hb dX9_throwsAt_67 hl (k := 2) rfl (by rfl) (by decide) rfl (fun ls hl => ?_)
        refine lv_aload_n hx hb dX9_throwsAt_70 rfl (lv_at hl 1 rfl) ?_
        refine lv_iload hx hb dX9_throwsAt_71 (lv_at hl 3 rfl) ?_
        refine lv_iconst (v := 3) hx hb dX9_throwsAt_73 (by decide) ?_
        refine cl_v C P (run_V C P hl.1 (kd := 9) (met_X9_loses (CF_n C) G H.size _ _ S6 a0 y4 3 p_a0 hw) p_a0 (by decide) rfl q_1544 q_1546 q_p47 q_10 q_1547 cd_X9_loses ⟨(Nat.le_of_ble_eq_true rfl), (Nat.le_of_ble_eq_true rfl)⟩ rfl rfl (As := [.int y4, .int 3]) (rest := []) rfl rfl (Nat.le_of_ble_eq_true rfl) dX9_throwsAt_74 ⟨by show cells + 0 ≤ 0; omega, by show slots + 0 ≤ 0; omega⟩) (kx_out C hex (fun _ _ _ h => h) (by omega) (by omega)) (fun S8 H locs P hE hw => ?_)
        have p_a0 : pI S8 9 a0 := pI_x hE p_a0
        refine lv_aload_n hx hb dX9_throwsAt_77 rfl (lv_at hl 1 rfl) ?_
        refine lv_iload hx hb dX9_throwsAt_78 (lv_at hl 3 rfl) ?_
        refine cl_v C P (run_V C P hl.1 (kd := 9) (met_X9_dies (CF_n C) G H.size _ _ S8 a0 y4 p_a0 hw) p_a0 (by decide) rfl q_1548 q_1550 q_p48 q_10 q_1551 cd_X9_dies ⟨(Nat.le_of_ble_eq_true rfl), (Nat.le_of_ble_eq_true rfl)⟩ rfl rfl (As := [.int y4]) (rest := []) rfl rfl (Nat.le_of_ble_eq_true rfl) dX9_throwsAt_80 ⟨by show cells + 0 ≤ 0; omega, by show slots + 0 ≤ 0; omega⟩) (kx_out C hex (fun _ _ _ h => h) (by omega) (by omega)) (fun S9 H locs P hE hw => ?_)
        have p_a0 : pI S9 9 a0 := pI_x hE p_a0
        refine lv_aload_n hx hb dX9_throwsAt_83 rfl (lv_at hl 1 rfl) ?_
        refine lv_iload hx hb dX9_throwsAt_84 (lv_at hl 3 rfl) ?_
        refine cl_i C P (run_V C P hl.1 (kd := 9) (met_X9_lives (CF_n C) G H.size _ _ S9 a0 y4 p_a0 hw) p_a0 (by decide) rfl q_1453 q_1455 q_p33 q_10 q_1456 cd_X9_lives ⟨(Nat.le_of_ble_eq_true rfl), (Nat.le_of_ble_eq_true rfl)⟩ rfl rfl (As := [.int y4]) (rest := []) rfl rfl (Nat.le_of_ble_eq_true rfl) dX9_throwsAt_86 ⟨by show cells + 0 ≤ 0; omega, by show slots + 0 ≤ 0; omega⟩) (kx_out C hex (fun _ _ _ h => h) (by omega) (by omega)) (fun r11 S10 H locs P hE hw => ?_)
        have p_a0 : pI S10 9 a0 := pI_x hE p_a0
        refine lv_if_eq (tgt := 134) hx hb dX9_throwsAt_89 (by decide) (fun hc => ?_) (fun hc => ?_)
        · have hw := hw.1 hc
          refine lv_iinc (v := (y4 + 1)) (lv' := [(4, .int (y4 + 1)), (3, .int (y3 + 1)), (0, .ref a0), (2, .int y2)]) hx hb dX9_throwsAt_134 hl (k := 3) rfl (by rfl) (by decide) rfl (fun ls hl => ?_)
          refine lv_goto (tgt := 27) hx hb dX9_throwsAt_137 (by decide) ?_
          exact kh27 S10 a0 y2 (y3 + 1) (y4 + 1) _ _ _ _ _ p_a0 P (lv_sub hl [2, 3, 1, 0] rfl) (by omega) (by omega) hw
        · have hw := hw.2 hc
          refine lv_aload_n hx hb dX9_throwsAt_92 rfl (lv_at hl 1 rfl) ?_
          refine lv_bipush (v := 6) hx hb dX9_throwsAt_93 (by decide) ?_
          refine cl_i C P (run_V C P hl.1 (kd := 9) (met_X9_roll (CF_n C) G H.size _ _ S10 a0 6 p_a0 hw) p_a0 (by decide) rfl q_1527 q_1529 q_p43 q_10 q_1530 cd_X9_roll ⟨(Nat.le_of_ble_eq_true rfl), (Nat.le_of_ble_eq_true rfl)⟩ rfl rfl (As := [.int 6]) (rest := []) rfl rfl (Nat.le_of_ble_eq_true rfl) dX9_throwsAt_95 ⟨by show cells + 0 ≤ 0; omega, by show slots + 0 ≤ 0; omega⟩) (kx_out C hex (fun _ _ _ h => h) (by omega) (by omega)) (fun r13 S12 H locs P hE hw => ?_)
          have p_a0 : pI S12 9 a0 := pI_x hE p_a0
          refine lv_iconst (v := 5) hx hb dX9_throwsAt_98 (by decide) ?_
          refine lv_icmp_lt (tgt := 134) hx hb dX9_throwsAt_99 (by decide) (fun hc => ?_) (fun hc => ?_)
          · have hw := hw.1 hc
            refine lv_iinc (v := (y4 + 1)) (lv' := [(4, .int (y4 + 1)), (3, .int (y3 + 1)), (0, .ref a0), (2, .int y2)]) hx hb dX9_throwsAt_134 hl (k := 3) rfl (by rfl) (by decide) rfl (fun ls hl => ?_)
            refine lv_goto (tgt := 27) hx hb dX9_throwsAt_137 (by decide) ?_
            exact kh27 S12 a0 y2 (y3 + 1) (y4 + 1) _ _ _ _ _ p_a0 P (lv_sub hl [2, 3, 1, 0] rfl) (by omega) (by omega) hw
          · have hw := hw.2 hc
            refine lv_aload_n hx hb dX9_throwsAt_102 rfl (lv_at hl 1 rfl) ?_
            refine lv_iload hx hb dX9_throwsAt_103 (lv_at hl 3 rfl) ?_
            refine lv_bipush (v := 7) hx hb dX9_throwsAt_105 (by decide) ?_
            refine cl_i C P (run_V C P hl.1 (kd := 9) (met_X9_of (CF_n C) G H.size _ _ S12 a0 y4 7 p_a0 hw) p_a0 (by decide) rfl q_1457 q_1459 q_p34 q_10 q_1460 cd_X9_of ⟨(Nat.le_of_ble_eq_true rfl), (Nat.le_of_ble_eq_true rfl)⟩ rfl rfl (As := [.int y4, .int 7]) (rest := []) rfl rfl (Nat.le_of_ble_eq_true rfl) dX9_throwsAt_107 ⟨by show cells + 0 ≤ 0; omega, by show slots + 0 ≤ 0; omega⟩) (kx_out C hex (fun _ _ _ h => h) (by omega) (by omega)) (fun r15 S14 H locs P hE hw => ?_)
            have p_a0 : pI S14 9 a0 := pI_x hE p_a0
            refine lv_if_le (tgt := 116) hx hb dX9_throwsAt_110 (by decide) (fun hc => ?_) (fun hc => ?_)
            · have hw := hw.1 hc
              refine lv_aload_n hx hb dX9_throwsAt_116 rfl (lv_at hl 1 rfl) ?_
              refine lv_iload hx hb dX9_throwsAt_117 (lv_at hl 3 rfl) ?_
              refine lv_bipush (v := 7) hx hb dX9_throwsAt_119 (by decide) ?_
              refine lv_iconst (v := 1) hx hb dX9_throwsAt_121 (by decide) ?_
              refine cl_v C P (run_V C P hl.1 (kd := 9) (met_X9_sets (CF_n C) G H.size _ _ S14 a0 y4 7 1 p_a0 hw) p_a0 (by decide) rfl q_1465 q_1467 q_p36 q_10 q_1468 cd_X9_sets ⟨(Nat.le_of_ble_eq_true rfl), (Nat.le_of_ble_eq_true rfl)⟩ rfl rfl (As := [.int y4, .int 7, .int 1]) (rest := []) rfl rfl (Nat.le_of_ble_eq_true rfl) dX9_throwsAt_122 ⟨by show cells + 0 ≤ 0; omega, by show slots + 0 ≤ 0; omega⟩) (kx_out C hex (fun _ _ _ h => h) (by omega) (by omega)) (fun S16 H locs P hE hw => ?_)
              have p_a0 : pI S16 9 a0 := pI_x hE p_a0
              refine lv_aload_n hx hb dX9_throwsAt_125 rfl (lv_at hl 1 rfl) ?_
              refine lv_bipush (v := 6) hx hb dX9_throwsAt_126 (by decide) ?_
              refine lv_iload hx hb dX9_throwsAt_128 (lv_at hl 3 rfl) ?_
              refine lv_iconst (v := 1) hx hb dX9_throwsAt_130 (by decide) ?_
              refine cl_v C P (run_V C P hl.1 (kd := 9) (met_X9_tells (CF_n C) G H.size _ _ S16 a0 6 y4 1 p_a0 hw) p_a0 (by decide) rfl q_1523 q_1525 q_p42 q_10 q_1526 cd_X9_tells ⟨(Nat.le_of_ble_eq_true rfl), (Nat.le_of_ble_eq_true rfl)⟩ rfl rfl (As := [.int 6, .int y4, .int 1]) (rest := []) rfl rfl (Nat.le_of_ble_eq_true rfl) dX9_throwsAt_131 ⟨by show cells + 0 ≤ 0; omega, by show slots + 0 ≤ 0; omega⟩) (kx_out C hex (fun _ _ _ h => h) (by omega) (by omega)) (fun S17 H locs P hE hw => ?_)
              have p_a0 : pI S17 9 a0 := pI_x hE p_a0
              refine lv_iinc (v := (y4 + 1)) (lv' := [(4, .int (y4 + 1)), (3, .int (y3 + 1)), (0, .ref a0), (2, .int y2)]) hx hb dX9_throwsAt_134 hl (k := 3) rfl (by rfl) (by decide) rfl (fun ls hl => ?_)
              refine lv_goto (tgt := 27) hx hb dX9_throwsAt_137 (by decide) ?_
              exact kh27 S17 a0 y2 (y3 + 1) (y4 + 1) _ _ _ _ _ p_a0 P (lv_sub hl [2, 3, 1, 0] rfl) (by omega) (by omega) hw
            · have hw := hw.2 hc
              refine lv_goto (tgt := 134) hx hb dX9_throwsAt_113 (by decide) ?_
              refine lv_iinc (v := (y4 + 1)) (lv' := [(4, .int (y4 + 1)), (3, .int (y3 + 1)), (0, .ref a0), (2, .int y2)]) hx hb dX9_throwsAt_134 hl (k := 3) rfl (by rfl) (by decide) rfl (fun ls hl => ?_)
              refine lv_goto (tgt := 27) hx hb dX9_throwsAt_137 (by decide) ?_
              exact kh27 S14 a0 y2 (y3 + 1) (y4 + 1) _ _ _ _ _ p_a0 P (lv_sub hl [2, 3, 1, 0] rfl) (by omega) (by omega) hw
      · have hw := hw.2 hc
        refine lv_goto (tgt := 134) hx hb dX9_throwsAt_64 (by decide) ?_
        refine lv_iinc (v := (y4 + 1)) (lv' := [(4, .int (y4 + 1)), (0, .ref a0), (2, .int y2), (3, .int y3)]) hx hb dX9_throwsAt_134 hl (k := 3) rfl (by rfl) (by decide) rfl (fun ls hl => ?_)
        refine lv_goto (tgt := 27) hx hb dX9_throwsAt_137 (by decide) ?_
        exact kh27 S6 a0 y2 y3 (y4 + 1) _ _ _ _ _ p_a0 P (lv_sub hl [1, 2, 3, 0] rfl) (by omega) (by omega) hw
def lX9_throwsAt_27 (Q : Int32 → MS → Prop) (QX : String → MS → Prop) : Nat → MS → Nat → Int32 → Int32 → Int32 → Prop
  | 0 => fun _ _ _ _ _ => False
  | n + 1 => fun S a0 y2 y3 y4 => wX9_throwsAt_27 Q QX (lX9_throwsAt_27 Q QX n) S a0 y2 y3 y4
theorem tlX9_throwsAt_27 {p : Program} {l : Launch} {e : Env} {s : State} {m : MethodId} {args : Array Value} {below : List Frame} {meth : Method} {c : Code} {G : GP} {A : Nat → Prop} {S0 : MS} (C : CF p l s m args meth c "SkirmishGridModel" cX9_throwsAt 5 G A) (hr : meth.sig.returnType = (some .int)) (hex : ∀ x ∈ c.exceptionTable.toList, False) (Q : Int32 → MS → Prop) (QX : String → MS → Prop) : ∀ (n : Nat), ∀ (S : MS) (a0 : Nat) (y2 : Int32) (y3 : Int32) (y4 : Int32) (cells slots : Nat) (H : Heap) (locs : List Loc) (ls : Array Slot), pI S 9 a0 → PW G A s H locs S0 S → lv_has ls 5 [(0, .ref a0), (2, .int y2), (3, .int y3), (4, .int y4)] → cells + 0 ≤ 0 → slots + 0 ≤ 0 → lX9_throwsAt_27 Q QX n S a0 y2 y3 y4 → W p l e rmX9_throwsAt s m args below meth c H locs cells slots (vx_MQ below (QI G S0 A Q) (XX G S0 A QX) args s 0 0 A) (F0 m 27 ls []) := by
  intro n
  induction n with
  | zero => intro S a0 y2 y3 y4 cells slots H locs ls p_a0 P hl hcc hss hw; exact hw.elim
  | succ n ih => intro S a0 y2 y3 y4 cells slots H locs ls p_a0 P hl hcc hss hw; exact tX9_throwsAt_27 C hr hex Q QX (lX9_throwsAt_27 Q QX n) ih S a0 y2 y3 y4 p_a0 P hl hcc hss hw
def wX9_throwsAt_0 (Q : Int32 → MS → Prop) (QX : String → MS → Prop) (S : MS) (a0 : Nat) (x1 : Int32) (x2 : Int32) : Prop := wp_X9_of (fun r2 S1 => wp_X9_sets (fun S3 => wp_X9_tells (fun S4 => (∃ n, lX9_throwsAt_27 Q QX n S4 a0 x2 0 0)) QX S3 a0 8 x1 x2) QX S1 a0 x1 5 (r2 - 1)) QX S a0 x1 5
set_option maxHeartbeats 4000000 in
set_option maxRecDepth 100000 in
theorem tX9_throwsAt_0 {p : Program} {l : Launch} {e : Env} {s : State} {m : MethodId} {args : Array Value} {below : List Frame} {meth : Method} {c : Code} {H : Heap} {locs : List Loc} {cells slots : Nat} {G : GP} {A : Nat → Prop} {S0 : MS} {ls : Array Slot} (C : CF p l s m args meth c "SkirmishGridModel" cX9_throwsAt 5 G A) (hr : meth.sig.returnType = (some .int)) (hex : ∀ x ∈ c.exceptionTable.toList, False) (Q : Int32 → MS → Prop) (QX : String → MS → Prop) (S : MS) (a0 : Nat) (x1 : Int32) (x2 : Int32) (p_a0 : pI S 9 a0) (P : PW G A s H locs S0 S) (hl : lv_has ls 5 [(0, .ref a0), (1, .int x1), (2, .int x2)]) (hcc : cells + 0 ≤ 0) (hss : slots + 0 ≤ 0) (hw : wX9_throwsAt_0 Q QX S a0 x1 x2) : W p l e rmX9_throwsAt s m args below meth c H locs cells slots (vx_MQ below (QI G S0 A Q) (XX G S0 A QX) args s 0 0 A) (F0 m 0 ls []) := by
  have hx := CF_x C
  have hb := CF_b C
  unfold wX9_throwsAt_0 at hw
  refine lv_aload_n hx hb dX9_throwsAt_0 rfl (lv_at hl 0 rfl) ?_
  refine lv_iload_n hx hb dX9_throwsAt_1 rfl (lv_at hl 1 rfl) ?_
  refine lv_iconst (v := 5) hx hb dX9_throwsAt_2 (by decide) ?_
  refine lv_aload_n hx hb dX9_throwsAt_3 rfl (lv_at hl 0 rfl) ?_
  refine lv_iload_n hx hb dX9_throwsAt_4 rfl (lv_at hl 1 rfl) ?_
  refine lv_iconst (v := 5) hx hb dX9_throwsAt_5 (by decide) ?_
  refine cl_i C P (run_V C P hl.1 (kd := 9) (met_X9_of (CF_n C) G H.size _ _ S a0 x1 5 p_a0 hw) p_a0 (by decide) rfl q_1457 q_1459 q_p34 q_10 q_1460 cd_X9_of ⟨(Nat.le_of_ble_eq_true rfl), (Nat.le_of_ble_eq_true rfl)⟩ rfl rfl (As := [.int x1, .int 5]) (rest := [.int 5, .int x1, .ref a0]) rfl rfl (Nat.le_of_ble_eq_true rfl) dX9_throwsAt_6 ⟨by show cells + 0 ≤ 0; omega, by show slots + 0 ≤ 0; omega⟩) (kx_out C hex (fun _ _ _ h => h) (by omega) (by omega)) (fun r2 S1 H locs P hE hw => ?_)
  have p_a0 : pI S1 9 a0 := pI_x hE p_a0
  refine lv_iconst (v := 1) hx hb dX9_throwsAt_9 (by decide) ?_
  refine lv_isub hx hb dX9_throwsAt_10 ?_
  refine cl_v C P (run_V C P hl.1 (kd := 9) (met_X9_sets (CF_n C) G H.size _ _ S1 a0 x1 5 (r2 - 1) p_a0 hw) p_a0 (by decide) rfl q_1465 q_1467 q_p36 q_10 q_1468 cd_X9_sets ⟨(Nat.le_of_ble_eq_true rfl), (Nat.le_of_ble_eq_true rfl)⟩ rfl rfl (As := [.int x1, .int 5, .int (r2 - 1)]) (rest := []) rfl rfl (Nat.le_of_ble_eq_true rfl) dX9_throwsAt_11 ⟨by show cells + 0 ≤ 0; omega, by show slots + 0 ≤ 0; omega⟩) (kx_out C hex (fun _ _ _ h => h) (by omega) (by omega)) (fun S3 H locs P hE hw => ?_)
  have p_a0 : pI S3 9 a0 := pI_x hE p_a0
  refine lv_aload_n hx hb dX9_throwsAt_14 rfl (lv_at hl 0 rfl) ?_
  refine lv_bipush (v := 8) hx hb dX9_throwsAt_15 (by decide) ?_
  refine lv_iload_n hx hb dX9_throwsAt_17 rfl (lv_at hl 1 rfl) ?_
  refine lv_iload_n hx hb dX9_throwsAt_18 rfl (lv_at hl 2 rfl) ?_
  refine cl_v C P (run_V C P hl.1 (kd := 9) (met_X9_tells (CF_n C) G H.size _ _ S3 a0 8 x1 x2 p_a0 hw) p_a0 (by decide) rfl q_1523 q_1525 q_p42 q_10 q_1526 cd_X9_tells ⟨(Nat.le_of_ble_eq_true rfl), (Nat.le_of_ble_eq_true rfl)⟩ rfl rfl (As := [.int 8, .int x1, .int x2]) (rest := []) rfl rfl (Nat.le_of_ble_eq_true rfl) dX9_throwsAt_19 ⟨by show cells + 0 ≤ 0; omega, by show slots + 0 ≤ 0; omega⟩) (kx_out C hex (fun _ _ _ h => h) (by omega) (by omega)) (fun S4 H locs P hE hw => ?_)
  have p_a0 : pI S4 9 a0 := pI_x hE p_a0
  refine lv_iconst (v := 0) hx hb dX9_throwsAt_22 (by decide) ?_
  refine lv_istore_n (lv' := [(3, .int 0), (0, .ref a0), (1, .int x1), (2, .int x2)]) hx hb dX9_throwsAt_23 rfl hl (by decide) rfl (fun ls hl => ?_)
  refine lv_iconst (v := 0) hx hb dX9_throwsAt_24 (by decide) ?_
  refine lv_istore (lv' := [(4, .int 0), (3, .int 0), (0, .ref a0), (1, .int x1), (2, .int x2)]) hx hb dX9_throwsAt_25 hl (by decide) rfl (fun ls hl => ?_)
  obtain ⟨n, hw⟩ := hw
  exact tlX9_throwsAt_27 C hr hex Q QX n S4 a0 x2 0 0 _ _ _ _ _ p_a0 P (lv_sub hl [2, 4, 1, 0] rfl) (by omega) (by omega) hw
def wp_X9_throwsAt (Q : Int32 → MS → Prop) (QX : String → MS → Prop) (S : MS) (a0 : Nat) (x1 : Int32) (x2 : Int32) : Prop := wX9_throwsAt_0 Q QX S a0 x1 x2
set_option maxHeartbeats 4000000 in
set_option maxRecDepth 100000 in
theorem met_X9_throwsAt {l : Launch} (hst : l.stackTraces = false) (G : GP) (sz : Nat) (Q : Int32 → MS → Prop) (QX : String → MS → Prop) (S : MS) (a0 : Nat) (x1 : Int32) (x2 : Int32) (p_a0 : pI S 9 a0) (hw : wp_X9_throwsAt Q QX S a0 x1 x2) : vx_Met l yX9_throwsAt (.code yX9_throwsAt cX9_throwsAt 5 (some .int) :: GW) rmX9_throwsAt (va_Pc [.ref a0, .int x1, .int x2] (PR G S sz)) (QI G S (FA G S sz) Q) (XX G S (FA G S sz) QX) 0 0 (FA G S sz) := by
  refine st_m (by decide +kernel) hst (fun p e s m below meth c C hr hnm hex P => ?_)
  refine en_m (Nat.le_of_ble_eq_true rfl) (lv := [(0, .ref a0), (1, .int x1), (2, .int x2)]) rfl (fun ls hl => ?_)
  have C : CF p l s m _ meth c "SkirmishGridModel" cX9_throwsAt 5 G (FA G S sz) := C
  exact tX9_throwsAt_0 C hr hex Q QX S a0 x1 x2 p_a0 P hl (by omega) (by omega) hw
theorem cd_X9_throwsAt : yX9_throwsAt.cls = RX9 ∧ yX9_throwsAt.cls ≠ "java/lang/invoke/MethodHandle" ∧ yX9_throwsAt.cls ≠ "java/lang/invoke/VarHandle" ∧ (parseMethodDescriptor yX9_throwsAt.desc).map (fun d => d.parameters.length) = some 2 := by decide +kernel
abbrev rmX9_does : Room := { frames := 6, cells := 0, slots := 0, locals := 148 }
def wX9_does_195 (Q : Int32 → MS → Prop) (QX : String → MS → Prop) (S : MS) (a0 : Nat) (y5 : Int32) : Prop := wp_X9_settles (fun S1 => Q y5 S1) QX S a0
set_option maxHeartbeats 4000000 in
set_option maxRecDepth 100000 in
theorem tX9_does_195 {p : Program} {l : Launch} {e : Env} {s : State} {m : MethodId} {args : Array Value} {below : List Frame} {meth : Method} {c : Code} {H : Heap} {locs : List Loc} {cells slots : Nat} {G : GP} {A : Nat → Prop} {S0 : MS} {ls : Array Slot} (C : CF p l s m args meth c "SkirmishGridModel" cX9_does 6 G A) (hr : meth.sig.returnType = (some .int)) (hex : ∀ x ∈ c.exceptionTable.toList, False) (Q : Int32 → MS → Prop) (QX : String → MS → Prop) (S : MS) (a0 : Nat) (y5 : Int32) (p_a0 : pI S 9 a0) (P : PW G A s H locs S0 S) (hl : lv_has ls 6 [(0, .ref a0), (5, .int y5)]) (hcc : cells + 0 ≤ 0) (hss : slots + 0 ≤ 0) (hw : wX9_does_195 Q QX S a0 y5) : W p l e rmX9_does s m args below meth c H locs cells slots (vx_MQ below (QI G S0 A Q) (XX G S0 A QX) args s 0 0 A) (F0 m 195 ls []) := by
  have hx := CF_x C
  have hb := CF_b C
  unfold wX9_does_195 at hw
  refine lv_aload_n hx hb dX9_does_195 rfl (lv_at hl 0 rfl) ?_
  refine cl_v C P (run_V C P hl.1 (kd := 9) (met_X9_settles (CF_n C) G H.size _ _ S a0 p_a0 hw) p_a0 (by decide) rfl q_1666 q_1668 q_p71 q_10 q_1669 cd_X9_settles ⟨(Nat.le_of_ble_eq_true rfl), (Nat.le_of_ble_eq_true rfl)⟩ rfl rfl (As := []) (rest := []) rfl rfl (Nat.le_of_ble_eq_true rfl) dX9_does_196 ⟨by show cells + 0 ≤ 0; omega, by show slots + 0 ≤ 0; omega⟩) (kx_out C hex (fun _ _ _ h => h) (by omega) (by omega)) (fun S1 H locs P hE hw => ?_)
  have p_a0 : pI S1 9 a0 := pI_x hE p_a0
  refine lv_iload hx hb dX9_does_199 (lv_at hl 1 rfl) ?_
  exact e_i C hr rfl P hw (by omega) (by omega) dX9_does_201
def wX9_does_62 (Q : Int32 → MS → Prop) (QX : String → MS → Prop) (S : MS) (a0 : Nat) (y1 : Int32) (y2 : Int32) (y3 : Int32) (y4 : Int32) (z0 : Int32) (z1 : Int32) (w2 : Nat) : Prop := (vp_in z1 (mN S w2) ∧ (∀ S1, S1 = (sI S w2 (z1 : Int32).toNatClampNeg z0) → ((((y1 : Int32).toInt < 0 ∨ 5 < (y1 : Int32).toInt) → wp_X9_ends (fun r3 S2 => Q r3 S2) QX S1 a0 y3) ∧ ((y1 : Int32).toInt = 0 → wp_X9_moves (fun r5 S4 => wX9_does_195 Q QX S4 a0 r5) QX S1 a0 y3 y2) ∧ ((y1 : Int32).toInt = 1 → wp_X9_attacks (fun r7 S6 => wX9_does_195 Q QX S6 a0 r7) QX S1 a0 y3 y2) ∧ ((y1 : Int32).toInt = 2 → wp_X9_throwsAt (fun r9 S8 => wX9_does_195 Q QX S8 a0 r9) QX S1 a0 y3 y2) ∧ ((y1 : Int32).toInt = 3 → wp_X9_sets (fun S10 => (∃ a11, mR S10 a0 1 = some a11 ∧ (vp_in 167 (mN S10 a11) ∧ Q (mI S10 a11 (167 : Int32).toNatClampNeg) S10))) QX S1 a0 y3 9 1) ∧ ((y1 : Int32).toInt = 4 → wp_X9_sets (fun S12 => Q y4 S12) QX S1 a0 y3 10 1) ∧ ((y1 : Int32).toInt = 5 → wp_X9_of (fun r14 S13 => wp_X9_kindly (fun r16 S15 => wp_X9_sets (fun S17 => Q r14 S17) QX S15 a0 y3 4 r16) QX S13 a0 y3 7) QX S1 a0 y3 4))))
set_option maxHeartbeats 4000000 in
set_option maxRecDepth 100000 in
theorem tX9_does_62 {p : Program} {l : Launch} {e : Env} {s : State} {m : MethodId} {args : Array Value} {below : List Frame} {meth : Method} {c : Code} {H : Heap} {locs : List Loc} {cells slots : Nat} {G : GP} {A : Nat → Prop} {S0 : MS} {ls : Array Slot} (C : CF p l s m args meth c "SkirmishGridModel" cX9_does 6 G A) (hr : meth.sig.returnType = (some .int)) (hex : ∀ x ∈ c.exceptionTable.toList, False) (Q : Int32 → MS → Prop) (QX : String → MS → Prop) (S : MS) (a0 : Nat) (y1 : Int32) (y2 : Int32) (y3 : Int32) (y4 : Int32) (z0 : Int32) (z1 : Int32) (w2 : Nat) (p_a0 : pI S 9 a0) (p_w2 : pI S 12 w2) (P : PW G A s H locs S0 S) (hl : lv_has ls 6 [(0, .ref a0), (1, .int y1), (2, .int y2), (3, .int y3), (4, .int y4)]) (hcc : cells + 0 ≤ 0) (hss : slots + 0 ≤ 0) (hw : wX9_does_62 Q QX S a0 y1 y2 y3 y4 z0 z1 w2) : W p l e rmX9_does s m args below meth c H locs cells slots (vx_MQ below (QI G S0 A Q) (XX G S0 A QX) args s 0 0 A) (F0 m 62 ls [.int z0, .int z1, .ref w2]) := by
  have hx := CF_x C
  have hb := CF_b C
  unfold wX9_does_62 at hw
  obtain ⟨h1, hw⟩ := hw
  refine rs_i C P p_w2 h1 dX9_does_62 (fun H locs P => ?_)
  obtain ⟨S1, hS⟩ : ∃ z, z = (sI S w2 (z1 : Int32).toNatClampNeg z0) := ⟨_, rfl⟩
  have P : PW G A s H locs S0 S1 := by rw [hS]; exact P
  have p_a0 : pI S1 9 a0 := by rw [hS]; exact pI_x ext_sI p_a0
  have p_w2 : pI S1 12 w2 := by rw [hS]; exact pI_x ext_sI p_w2
  have hw := hw S1 hS
  refine lv_iconst (v := 0) hx hb dX9_does_63 (by decide) ?_
  refine lv_istore (lv' := [(5, .int 0), (0, .ref a0), (1, .int y1), (2, .int y2), (3, .int y3), (4, .int y4)]) hx hb dX9_does_64 hl (by decide) rfl (fun ls hl => ?_)
  refine lv_iload_n hx hb dX9_does_66 rfl (lv_at hl 2 rfl) ?_
  rcases ts_split (lo := 0) (hi := 5) y1 with hc | ⟨i, hi, hc⟩
  · have hw := hw.1 hc
    refine lv_tableOut (tgt := 189) hx hb dX9_does_67 hc (by decide) ?_
    refine lv_aload_n hx hb dX9_does_189 rfl (lv_at hl 1 rfl) ?_
    refine lv_iload_n hx hb dX9_does_190 rfl (lv_at hl 4 rfl) ?_
    refine cl_i C P (run_V C P hl.1 (kd := 9) (met_X9_ends (CF_n C) G H.size _ _ S1 a0 y3 p_a0 hw) p_a0 (by decide) rfl q_1658 q_1660 q_p69 q_10 q_1661 cd_X9_ends ⟨(Nat.le_of_ble_eq_true rfl), (Nat.le_of_ble_eq_true rfl)⟩ rfl rfl (As := [.int y3]) (rest := []) rfl rfl (Nat.le_of_ble_eq_true rfl) dX9_does_191 ⟨by show cells + 0 ≤ 0; omega, by show slots + 0 ≤ 0; omega⟩) (kx_out C hex (fun _ _ _ h => h) (by omega) (by omega)) (fun r3 S2 H locs P hE hw => ?_)
    have p_a0 : pI S2 9 a0 := pI_x hE p_a0
    exact e_i C hr rfl P hw (by omega) (by omega) dX9_does_194
  · rcases (show i = 0 ∨ i = 1 ∨ i = 2 ∨ i = 3 ∨ i = 4 ∨ i = 5 by omega) with rfl | rfl | rfl | rfl | rfl | rfl
    · have hw := hw.2.1 hc
      refine lv_tableIn (tgt := 104) hx hb dX9_does_67 (by omega) (by omega) (by rw [hc]; rfl) (by decide) ?_
      refine lv_aload_n hx hb dX9_does_104 rfl (lv_at hl 1 rfl) ?_
      refine lv_iload_n hx hb dX9_does_105 rfl (lv_at hl 4 rfl) ?_
      refine lv_iload_n hx hb dX9_does_106 rfl (lv_at hl 3 rfl) ?_
      refine cl_i C P (run_V C P hl.1 (kd := 9) (met_X9_moves (CF_n C) G H.size _ _ S1 a0 y3 y2 p_a0 hw) p_a0 (by decide) rfl q_1642 q_1644 q_p65 q_10 q_1645 cd_X9_moves ⟨(Nat.le_of_ble_eq_true rfl), (Nat.le_of_ble_eq_true rfl)⟩ rfl rfl (As := [.int y3, .int y2]) (rest := []) rfl rfl (Nat.le_of_ble_eq_true rfl) dX9_does_107 ⟨by show cells + 0 ≤ 0; omega, by show slots + 0 ≤ 0; omega⟩) (kx_out C hex (fun _ _ _ h => h) (by omega) (by omega)) (fun r5 S4 H locs P hE hw => ?_)
      have p_a0 : pI S4 9 a0 := pI_x hE p_a0
      refine lv_istore (lv' := [(5, .int r5), (0, .ref a0), (1, .int y1), (2, .int y2), (3, .int y3), (4, .int y4)]) hx hb dX9_does_110 hl (by decide) rfl (fun ls hl => ?_)
      refine lv_goto (tgt := 195) hx hb dX9_does_112 (by decide) ?_
      exact tX9_does_195 C hr hex Q QX S4 a0 r5 p_a0 P (lv_sub hl [1, 0] rfl) (by omega) (by omega) hw
    · have hw := hw.2.2.1 hc
      refine lv_tableIn (tgt := 115) hx hb dX9_does_67 (by omega) (by omega) (by rw [hc]; rfl) (by decide) ?_
      refine lv_aload_n hx hb dX9_does_115 rfl (lv_at hl 1 rfl) ?_
      refine lv_iload_n hx hb dX9_does_116 rfl (lv_at hl 4 rfl) ?_
      refine lv_iload_n hx hb dX9_does_117 rfl (lv_at hl 3 rfl) ?_
      refine cl_i C P (run_V C P hl.1 (kd := 9) (met_X9_attacks (CF_n C) G H.size _ _ S1 a0 y3 y2 p_a0 hw) p_a0 (by decide) rfl q_1650 q_1652 q_p67 q_10 q_1653 cd_X9_attacks ⟨(Nat.le_of_ble_eq_true rfl), (Nat.le_of_ble_eq_true rfl)⟩ rfl rfl (As := [.int y3, .int y2]) (rest := []) rfl rfl (Nat.le_of_ble_eq_true rfl) dX9_does_118 ⟨by show cells + 0 ≤ 0; omega, by show slots + 0 ≤ 0; omega⟩) (kx_out C hex (fun _ _ _ h => h) (by omega) (by omega)) (fun r7 S6 H locs P hE hw => ?_)
      have p_a0 : pI S6 9 a0 := pI_x hE p_a0
      refine lv_istore (lv' := [(5, .int r7), (0, .ref a0), (1, .int y1), (2, .int y2), (3, .int y3), (4, .int y4)]) hx hb dX9_does_121 hl (by decide) rfl (fun ls hl => ?_)
      refine lv_goto (tgt := 195) hx hb dX9_does_123 (by decide) ?_
      exact tX9_does_195 C hr hex Q QX S6 a0 r7 p_a0 P (lv_sub hl [1, 0] rfl) (by omega) (by omega) hw
    · have hw := hw.2.2.2.1 hc
      refine lv_tableIn (tgt := 126) hx hb dX9_does_67 (by omega) (by omega) (by rw [hc]; rfl) (by decide) ?_
      refine lv_aload_n hx hb dX9_does_126 rfl (lv_at hl 1 rfl) ?_
      refine lv_iload_n hx hb dX9_does_127 rfl (lv_at hl 4 rfl) ?_
      refine lv_iload_n hx hb dX9_does_128 rfl (lv_at hl 3 rfl) ?_
      refine cl_i C P (run_V C P hl.1 (kd := 9) (met_X9_throwsAt (CF_n C) G H.size _ _ S1 a0 y3 y2 p_a0 hw) p_a0 (by decide) rfl q_1654 q_1656 q_p68 q_10 q_1657 cd_X9_throwsAt ⟨(Nat.le_of_ble_eq_true rfl), (Nat.le_of_ble_eq_true rfl)⟩ rfl rfl (As := [.int y3, .int y2]) (rest := []) rfl rfl (Nat.le_of_ble_eq_true rfl) dX9_does_129 ⟨by show cells + 0 ≤ 0; omega, by show slots + 0 ≤ 0; omega⟩) (kx_out C hex (fun _ _ _ h => h) (by omega) (by omega)) (fun r9 S8 H locs P hE hw => ?_)
      have p_a0 : pI S8 9 a0 := pI_x hE p_a0
      refine lv_istore (lv' := [(5, .int r9), (0, .ref a0), (1, .int y1), (2, .int y2), (3, .int y3), (4, .int y4)]) hx hb dX9_does_132 hl (by decide) rfl (fun ls hl => ?_)
      refine lv_goto (tgt := 195) hx hb dX9_does_134 (by decide) ?_
      exact tX9_does_195 C hr hex Q QX S8 a0 r9 p_a0 P (lv_sub hl [1, 0] rfl) (by omega) (by omega) hw
    · have hw := hw.2.2.2.2.1 hc
      refine lv_tableIn (tgt := 137) hx hb dX9_does_67 (by omega) (by omega) (by rw [hc]; rfl) (by decide) ?_
      refine lv_aload_n hx hb dX9_does_137 rfl (lv_at hl 1 rfl) ?_
      refine lv_iload_n hx hb dX9_does_138 rfl (lv_at hl 4 rfl) ?_
      refine lv_bipush (v := 9) hx hb dX9_does_139 (by decide) ?_
      refine lv_iconst (v := 1) hx hb dX9_does_141 (by decide) ?_
      refine cl_v C P (run_V C P hl.1 (kd := 9) (met_X9_sets (CF_n C) G H.size _ _ S1 a0 y3 9 1 p_a0 hw) p_a0 (by decide) rfl q_1465 q_1467 q_p36 q_10 q_1468 cd_X9_sets ⟨(Nat.le_of_ble_eq_true rfl), (Nat.le_of_ble_eq_true rfl)⟩ rfl rfl (As := [.int y3, .int 9, .int 1]) (rest := []) rfl rfl (Nat.le_of_ble_eq_true rfl) dX9_does_142 ⟨by show cells + 0 ≤ 0; omega, by show slots + 0 ≤ 0; omega⟩) (kx_out C hex (fun _ _ _ h => h) (by omega) (by omega)) (fun S10 H locs P hE hw => ?_)
      have p_a0 : pI S10 9 a0 := pI_x hE p_a0
      refine lv_aload_n hx hb dX9_does_145 rfl (lv_at hl 1 rfl) ?_
      obtain ⟨a11, e1, hw⟩ := hw
      have p_a11 : pI S10 12 a11 := wf_r P.2.2.2.1 p_a0 e1
      refine gf_9_1 C P p_a0 e1 q_1306 dX9_does_146 ?_
      refine lv_sipush (v := 167) hx hb dX9_does_149 (by decide) ?_
      obtain ⟨h1, hw⟩ := hw
      refine ra_i C P p_a11 h1 dX9_does_152 ?_
      exact e_i C hr rfl P hw (by omega) (by omega) dX9_does_153
    · have hw := hw.2.2.2.2.2.1 hc
      refine lv_tableIn (tgt := 154) hx hb dX9_does_67 (by omega) (by omega) (by rw [hc]; rfl) (by decide) ?_
      refine lv_aload_n hx hb dX9_does_154 rfl (lv_at hl 1 rfl) ?_
      refine lv_iload_n hx hb dX9_does_155 rfl (lv_at hl 4 rfl) ?_
      refine lv_bipush (v := 10) hx hb dX9_does_156 (by decide) ?_
      refine lv_iconst (v := 1) hx hb dX9_does_158 (by decide) ?_
      refine cl_v C P (run_V C P hl.1 (kd := 9) (met_X9_sets (CF_n C) G H.size _ _ S1 a0 y3 10 1 p_a0 hw) p_a0 (by decide) rfl q_1465 q_1467 q_p36 q_10 q_1468 cd_X9_sets ⟨(Nat.le_of_ble_eq_true rfl), (Nat.le_of_ble_eq_true rfl)⟩ rfl rfl (As := [.int y3, .int 10, .int 1]) (rest := []) rfl rfl (Nat.le_of_ble_eq_true rfl) dX9_does_159 ⟨by show cells + 0 ≤ 0; omega, by show slots + 0 ≤ 0; omega⟩) (kx_out C hex (fun _ _ _ h => h) (by omega) (by omega)) (fun S12 H locs P hE hw => ?_)
      have p_a0 : pI S12 9 a0 := pI_x hE p_a0
      refine lv_iload hx hb dX9_does_162 (lv_at hl 5 rfl) ?_
      exact e_i C hr rfl P hw (by omega) (by omega) dX9_does_164
    · have hw := hw.2.2.2.2.2.2 hc
      refine lv_tableIn (tgt := 165) hx hb dX9_does_67 (by omega) (by omega) (by rw [hc]; rfl) (by decide) ?_
      refine lv_aload_n hx hb dX9_does_165 rfl (lv_at hl 1 rfl) ?_
      refine lv_iload_n hx hb dX9_does_166 rfl (lv_at hl 4 rfl) ?_
      refine lv_iconst (v := 4) hx hb dX9_does_167 (by decide) ?_
      refine cl_i C P (run_V C P hl.1 (kd := 9) (met_X9_of (CF_n C) G H.size _ _ S1 a0 y3 4 p_a0 hw) p_a0 (by decide) rfl q_1457 q_1459 q_p34 q_10 q_1460 cd_X9_of ⟨(Nat.le_of_ble_eq_true rfl), (Nat.le_of_ble_eq_true rfl)⟩ rfl rfl (As := [.int y3, .int 4]) (rest := []) rfl rfl (Nat.le_of_ble_eq_true rfl) dX9_does_168 ⟨by show cells + 0 ≤ 0; omega, by show slots + 0 ≤ 0; omega⟩) (kx_out C hex (fun _ _ _ h => h) (by omega) (by omega)) (fun r14 S13 H locs P hE hw => ?_)
      have p_a0 : pI S13 9 a0 := pI_x hE p_a0
      refine lv_istore (lv' := [(5, .int r14), (0, .ref a0), (1, .int y1), (2, .int y2), (3, .int y3), (4, .int y4)]) hx hb dX9_does_171 hl (by decide) rfl (fun ls hl => ?_)
      refine lv_aload_n hx hb dX9_does_173 rfl (lv_at hl 1 rfl) ?_
      refine lv_iload_n hx hb dX9_does_174 rfl (lv_at hl 4 rfl) ?_
      refine lv_iconst (v := 4) hx hb dX9_does_175 (by decide) ?_
      refine lv_aload_n hx hb dX9_does_176 rfl (lv_at hl 1 rfl) ?_
      refine lv_iload_n hx hb dX9_does_177 rfl (lv_at hl 4 rfl) ?_
      refine lv_bipush (v := 7) hx hb dX9_does_178 (by decide) ?_
      refine cl_i C P (run_V C P hl.1 (kd := 9) (met_X9_kindly (CF_n C) G H.size _ _ S13 a0 y3 7 p_a0 hw) p_a0 (by decide) rfl q_1532 q_1534 q_p44 q_10 q_1535 cd_X9_kindly ⟨(Nat.le_of_ble_eq_true rfl), (Nat.le_of_ble_eq_true rfl)⟩ rfl rfl (As := [.int y3, .int 7]) (rest := [.int 4, .int y3, .ref a0]) rfl rfl (Nat.le_of_ble_eq_true rfl) dX9_does_180 ⟨by show cells + 0 ≤ 0; omega, by show slots + 0 ≤ 0; omega⟩) (kx_out C hex (fun _ _ _ h => h) (by omega) (by omega)) (fun r16 S15 H locs P hE hw => ?_)
      have p_a0 : pI S15 9 a0 := pI_x hE p_a0
      refine cl_v C P (run_V C P hl.1 (kd := 9) (met_X9_sets (CF_n C) G H.size _ _ S15 a0 y3 4 r16 p_a0 hw) p_a0 (by decide) rfl q_1465 q_1467 q_p36 q_10 q_1468 cd_X9_sets ⟨(Nat.le_of_ble_eq_true rfl), (Nat.le_of_ble_eq_true rfl)⟩ rfl rfl (As := [.int y3, .int 4, .int r16]) (rest := []) rfl rfl (Nat.le_of_ble_eq_true rfl) dX9_does_183 ⟨by show cells + 0 ≤ 0; omega, by show slots + 0 ≤ 0; omega⟩) (kx_out C hex (fun _ _ _ h => h) (by omega) (by omega)) (fun S17 H locs P hE hw => ?_)
      have p_a0 : pI S17 9 a0 := pI_x hE p_a0
      refine lv_iload hx hb dX9_does_186 (lv_at hl 0 rfl) ?_
      exact e_i C hr rfl P hw (by omega) (by omega) dX9_does_188
def wX9_does_0 (Q : Int32 → MS → Prop) (QX : String → MS → Prop) (S : MS) (a0 : Nat) (x1 : Int32) (x2 : Int32) : Prop := (∃ a1, mR S a0 1 = some a1 ∧ (vp_in 289 (mN S a1) ∧ (vp_in 289 (mN S a1) ∧ (∀ S2, S2 = (sI S a1 (289 : Int32).toNatClampNeg ((mI S a1 (289 : Int32).toNatClampNeg) + 1)) → (∃ a3, mR S2 a0 1 = some a3 ∧ (vp_in 166 (mN S2 a3) ∧ (∃ a4, mR S2 a0 1 = some a4 ∧ (vp_in 167 (mN S2 a4) ∧ (∃ a5, mR S2 a0 1 = some a5 ∧ ((¬ x1 = 4 → ((¬ x1 = 6 → wX9_does_62 Q QX S2 a0 x1 x2 (mI S2 a3 (166 : Int32).toNatClampNeg) (mI S2 a4 (167 : Int32).toNatClampNeg) ((mI S2 a4 (167 : Int32).toNatClampNeg) - 1) 167 a5) ∧ (x1 = 6 → wX9_does_62 Q QX S2 a0 x1 x2 (mI S2 a3 (166 : Int32).toNatClampNeg) (mI S2 a4 (167 : Int32).toNatClampNeg) (mI S2 a4 (167 : Int32).toNatClampNeg) 167 a5))) ∧ (x1 = 4 → wX9_does_62 Q QX S2 a0 x1 x2 (mI S2 a3 (166 : Int32).toNatClampNeg) (mI S2 a4 (167 : Int32).toNatClampNeg) 0 167 a5)))))))))))
set_option maxHeartbeats 4000000 in
set_option maxRecDepth 100000 in
theorem tX9_does_0 {p : Program} {l : Launch} {e : Env} {s : State} {m : MethodId} {args : Array Value} {below : List Frame} {meth : Method} {c : Code} {H : Heap} {locs : List Loc} {cells slots : Nat} {G : GP} {A : Nat → Prop} {S0 : MS} {ls : Array Slot} (C : CF p l s m args meth c "SkirmishGridModel" cX9_does 6 G A) (hr : meth.sig.returnType = (some .int)) (hex : ∀ x ∈ c.exceptionTable.toList, False) (Q : Int32 → MS → Prop) (QX : String → MS → Prop) (S : MS) (a0 : Nat) (x1 : Int32) (x2 : Int32) (p_a0 : pI S 9 a0) (P : PW G A s H locs S0 S) (hl : lv_has ls 6 [(0, .ref a0), (1, .int x1), (2, .int x2)]) (hcc : cells + 0 ≤ 0) (hss : slots + 0 ≤ 0) (hw : wX9_does_0 Q QX S a0 x1 x2) : W p l e rmX9_does s m args below meth c H locs cells slots (vx_MQ below (QI G S0 A Q) (XX G S0 A QX) args s 0 0 A) (F0 m 0 ls []) := by
  have hx := CF_x C
  have hb := CF_b C
  unfold wX9_does_0 at hw
  refine lv_aload_n hx hb dX9_does_0 rfl (lv_at hl 0 rfl) ?_
  obtain ⟨a1, e1, hw⟩ := hw
  have p_a1 : pI S 12 a1 := wf_r P.2.2.2.1 p_a0 e1
  refine gf_9_1 C P p_a0 e1 q_1306 dX9_does_1 ?_
  refine lv_sipush (v := 289) hx hb dX9_does_4 (by decide) ?_
  refine lv_dup2_11 hx hb dX9_does_7 rfl rfl ?_
  obtain ⟨h1, hw⟩ := hw
  refine ra_i C P p_a1 h1 dX9_does_8 ?_
  refine lv_iconst (v := 1) hx hb dX9_does_9 (by decide) ?_
  refine lv_iadd hx hb dX9_does_10 ?_
  obtain ⟨h1, hw⟩ := hw
  refine rs_i C P p_a1 h1 dX9_does_11 (fun H locs P => ?_)
  obtain ⟨S2, hS⟩ : ∃ z, z = (sI S a1 (289 : Int32).toNatClampNeg ((mI S a1 (289 : Int32).toNatClampNeg) + 1)) := ⟨_, rfl⟩
  have P : PW G A s H locs S0 S2 := by rw [hS]; exact P
  have p_a0 : pI S2 9 a0 := by rw [hS]; exact pI_x ext_sI p_a0
  have p_a1 : pI S2 12 a1 := by rw [hS]; exact pI_x ext_sI p_a1
  have hw := hw S2 hS
  refine lv_aload_n hx hb dX9_does_12 rfl (lv_at hl 0 rfl) ?_
  obtain ⟨a3, e1, hw⟩ := hw
  have p_a3 : pI S2 12 a3 := wf_r P.2.2.2.1 p_a0 e1
  refine gf_9_1 C P p_a0 e1 q_1306 dX9_does_13 ?_
  refine lv_sipush (v := 166) hx hb dX9_does_16 (by decide) ?_
  obtain ⟨h1, hw⟩ := hw
  refine ra_i C P p_a3 h1 dX9_does_19 ?_
  refine lv_istore_n (lv' := [(3, .int (mI S2 a3 (166 : Int32).toNatClampNeg)), (0, .ref a0), (1, .int x1), (2, .int x2)]) hx hb dX9_does_20 rfl hl (by decide) rfl (fun ls hl => ?_)
  refine lv_aload_n hx hb dX9_does_21 rfl (lv_at hl 1 rfl) ?_
  obtain ⟨a4, e1, hw⟩ := hw
  have p_a4 : pI S2 12 a4 := wf_r P.2.2.2.1 p_a0 e1
  refine gf_9_1 C P p_a0 e1 q_1306 dX9_does_22 ?_
  refine lv_sipush (v := 167) hx hb dX9_does_25 (by decide) ?_
  obtain ⟨h1, hw⟩ := hw
  refine ra_i C P p_a4 h1 dX9_does_28 ?_
  refine lv_istore (lv' := [(4, .int (mI S2 a4 (167 : Int32).toNatClampNeg)), (3, .int (mI S2 a3 (166 : Int32).toNatClampNeg)), (0, .ref a0), (1, .int x1), (2, .int x2)]) hx hb dX9_does_29 hl (by decide) rfl (fun ls hl => ?_)
  refine lv_aload_n hx hb dX9_does_31 rfl (lv_at hl 2 rfl) ?_
  obtain ⟨a5, e1, hw⟩ := hw
  have p_a5 : pI S2 12 a5 := wf_r P.2.2.2.1 p_a0 e1
  refine gf_9_1 C P p_a0 e1 q_1306 dX9_does_32 ?_
  refine lv_sipush (v := 167) hx hb dX9_does_35 (by decide) ?_
  refine lv_iload_n hx hb dX9_does_38 rfl (lv_at hl 3 rfl) ?_
  refine lv_iconst (v := 4) hx hb dX9_does_39 (by decide) ?_
  refine lv_icmp_ne (tgt := 47) hx hb dX9_does_40 (by decide) (fun hc => ?_) (fun hc => ?_)
  · have hw := hw.1 hc
    refine lv_iload_n hx hb dX9_does_47 rfl (lv_at hl 3 rfl) ?_
    refine lv_bipush (v := 6) hx hb dX9_does_48 (by decide) ?_
    refine lv_icmp_ne (tgt := 58) hx hb dX9_does_50 (by decide) (fun hc => ?_) (fun hc => ?_)
    · have hw := hw.1 hc
      refine lv_iload hx hb dX9_does_58 (lv_at hl 0 rfl) ?_
      refine lv_iconst (v := 1) hx hb dX9_does_60 (by decide) ?_
      refine lv_isub hx hb dX9_does_61 ?_
      exact tX9_does_62 C hr hex Q QX S2 a0 x1 x2 (mI S2 a3 (166 : Int32).toNatClampNeg) (mI S2 a4 (167 : Int32).toNatClampNeg) ((mI S2 a4 (167 : Int32).toNatClampNeg) - 1) 167 a5 p_a0 p_a5 P (lv_sub hl [2, 3, 4, 1, 0] rfl) (by omega) (by omega) hw
    · have hw := hw.2 hc
      refine lv_iload hx hb dX9_does_53 (lv_at hl 0 rfl) ?_
      refine lv_goto (tgt := 62) hx hb dX9_does_55 (by decide) ?_
      exact tX9_does_62 C hr hex Q QX S2 a0 x1 x2 (mI S2 a3 (166 : Int32).toNatClampNeg) (mI S2 a4 (167 : Int32).toNatClampNeg) (mI S2 a4 (167 : Int32).toNatClampNeg) 167 a5 p_a0 p_a5 P (lv_sub hl [2, 3, 4, 1, 0] rfl) (by omega) (by omega) hw
  · have hw := hw.2 hc
    refine lv_iconst (v := 0) hx hb dX9_does_43 (by decide) ?_
    refine lv_goto (tgt := 62) hx hb dX9_does_44 (by decide) ?_
    exact tX9_does_62 C hr hex Q QX S2 a0 x1 x2 (mI S2 a3 (166 : Int32).toNatClampNeg) (mI S2 a4 (167 : Int32).toNatClampNeg) 0 167 a5 p_a0 p_a5 P (lv_sub hl [2, 3, 4, 1, 0] rfl) (by omega) (by omega) hw
def wp_X9_does (Q : Int32 → MS → Prop) (QX : String → MS → Prop) (S : MS) (a0 : Nat) (x1 : Int32) (x2 : Int32) : Prop := wX9_does_0 Q QX S a0 x1 x2
set_option maxHeartbeats 4000000 in
set_option maxRecDepth 100000 in
theorem met_X9_does {l : Launch} (hst : l.stackTraces = false) (G : GP) (sz : Nat) (Q : Int32 → MS → Prop) (QX : String → MS → Prop) (S : MS) (a0 : Nat) (x1 : Int32) (x2 : Int32) (p_a0 : pI S 9 a0) (hw : wp_X9_does Q QX S a0 x1 x2) : vx_Met l yX9_does (.code yX9_does cX9_does 6 (some .int) :: GW) rmX9_does (va_Pc [.ref a0, .int x1, .int x2] (PR G S sz)) (QI G S (FA G S sz) Q) (XX G S (FA G S sz) QX) 0 0 (FA G S sz) := by
  refine st_m (by decide +kernel) hst (fun p e s m below meth c C hr hnm hex P => ?_)
  refine en_m (Nat.le_of_ble_eq_true rfl) (lv := [(0, .ref a0), (1, .int x1), (2, .int x2)]) rfl (fun ls hl => ?_)
  have C : CF p l s m _ meth c "SkirmishGridModel" cX9_does 6 G (FA G S sz) := C
  exact tX9_does_0 C hr hex Q QX S a0 x1 x2 p_a0 P hl (by omega) (by omega) hw
theorem cd_X9_does : yX9_does.cls = RX9 ∧ yX9_does.cls ≠ "java/lang/invoke/MethodHandle" ∧ yX9_does.cls ≠ "java/lang/invoke/VarHandle" ∧ (parseMethodDescriptor yX9_does.desc).map (fun d => d.parameters.length) = some 2 := by decide +kernel
abbrev rmX9_carries : Room := { frames := 7, cells := 0, slots := 0, locals := 173 }
def wX9_carries_0 (Q : Int32 → MS → Prop) (QX : String → MS → Prop) (S : MS) (a0 : Nat) (x1 : Int32) (x2 : Int32) : Prop := wp_X9_keeps (fun S1 => (∃ a2, mR S1 a0 1 = some a2 ∧ (vp_in 289 (mN S1 a2) ∧ (∃ a3, mR S1 a0 7 = some a3 ∧ (vp_in (2 * (mI S1 a2 (289 : Int32).toNatClampNeg)) (mN S1 a3) ∧ (∀ S4, S4 = (sI S1 a3 ((2 * (mI S1 a2 (289 : Int32).toNatClampNeg)) : Int32).toNatClampNeg x1) → (∃ a5, mR S4 a0 7 = some a5 ∧ (vp_in ((2 * (mI S1 a2 (289 : Int32).toNatClampNeg)) + 1) (mN S4 a5) ∧ (∀ S6, S6 = (sI S4 a5 (((2 * (mI S1 a2 (289 : Int32).toNatClampNeg)) + 1) : Int32).toNatClampNeg x2) → wp_X9_does (fun r8 S7 => Q r8 S7) QX S6 a0 x1 x2))))))))) QX S a0
set_option maxHeartbeats 4000000 in
set_option maxRecDepth 100000 in
theorem tX9_carries_0 {p : Program} {l : Launch} {e : Env} {s : State} {m : MethodId} {args : Array Value} {below : List Frame} {meth : Method} {c : Code} {H : Heap} {locs : List Loc} {cells slots : Nat} {G : GP} {A : Nat → Prop} {S0 : MS} {ls : Array Slot} (C : CF p l s m args meth c "SkirmishGridModel" cX9_carries 5 G A) (hr : meth.sig.returnType = (some .int)) (hex : ∀ x ∈ c.exceptionTable.toList, False) (Q : Int32 → MS → Prop) (QX : String → MS → Prop) (S : MS) (a0 : Nat) (x1 : Int32) (x2 : Int32) (p_a0 : pI S 9 a0) (P : PW G A s H locs S0 S) (hl : lv_has ls 5 [(0, .ref a0), (1, .int x1), (2, .int x2)]) (hcc : cells + 0 ≤ 0) (hss : slots + 0 ≤ 0) (hw : wX9_carries_0 Q QX S a0 x1 x2) : W p l e rmX9_carries s m args below meth c H locs cells slots (vx_MQ below (QI G S0 A Q) (XX G S0 A QX) args s 0 0 A) (F0 m 0 ls []) := by
  have hx := CF_x C
  have hb := CF_b C
  unfold wX9_carries_0 at hw
  refine lv_aload_n hx hb dX9_carries_0 rfl (lv_at hl 0 rfl) ?_
  refine cl_v C P (run_V C P hl.1 (kd := 9) (met_X9_keeps (CF_n C) G H.size _ _ S a0 p_a0 hw) p_a0 (by decide) rfl q_1634 q_1636 q_p63 q_10 q_1637 cd_X9_keeps ⟨(Nat.le_of_ble_eq_true rfl), (Nat.le_of_ble_eq_true rfl)⟩ rfl rfl (As := []) (rest := []) rfl rfl (Nat.le_of_ble_eq_true rfl) dX9_carries_1 ⟨by show cells + 0 ≤ 0; omega, by show slots + 0 ≤ 0; omega⟩) (kx_out C hex (fun _ _ _ h => h) (by omega) (by omega)) (fun S1 H locs P hE hw => ?_)
  have p_a0 : pI S1 9 a0 := pI_x hE p_a0
  refine lv_aload_n hx hb dX9_carries_4 rfl (lv_at hl 0 rfl) ?_
  obtain ⟨a2, e1, hw⟩ := hw
  have p_a2 : pI S1 12 a2 := wf_r P.2.2.2.1 p_a0 e1
  refine gf_9_1 C P p_a0 e1 q_1306 dX9_carries_5 ?_
  refine lv_sipush (v := 289) hx hb dX9_carries_8 (by decide) ?_
  obtain ⟨h1, hw⟩ := hw
  refine ra_i C P p_a2 h1 dX9_carries_11 ?_
  refine lv_istore_n (lv' := [(3, .int (mI S1 a2 (289 : Int32).toNatClampNeg)), (0, .ref a0), (1, .int x1), (2, .int x2)]) hx hb dX9_carries_12 rfl hl (by decide) rfl (fun ls hl => ?_)
  refine lv_aload_n hx hb dX9_carries_13 rfl (lv_at hl 1 rfl) ?_
  obtain ⟨a3, e1, hw⟩ := hw
  have p_a3 : pI S1 12 a3 := wf_r P.2.2.2.1 p_a0 e1
  refine gf_9_7 C P p_a0 e1 q_1312 dX9_carries_14 ?_
  refine lv_iconst (v := 2) hx hb dX9_carries_17 (by decide) ?_
  refine lv_iload_n hx hb dX9_carries_18 rfl (lv_at hl 0 rfl) ?_
  refine lv_imul hx hb dX9_carries_19 ?_
  refine lv_iload_n hx hb dX9_carries_20 rfl (lv_at hl 2 rfl) ?_
  obtain ⟨h1, hw⟩ := hw
  refine rs_i C P p_a3 h1 dX9_carries_21 (fun H locs P => ?_)
  obtain ⟨S4, hS⟩ : ∃ z, z = (sI S1 a3 ((2 * (mI S1 a2 (289 : Int32).toNatClampNeg)) : Int32).toNatClampNeg x1) := ⟨_, rfl⟩
  have P : PW G A s H locs S0 S4 := by rw [hS]; exact P
  have p_a0 : pI S4 9 a0 := by rw [hS]; exact pI_x ext_sI p_a0
  have p_a3 : pI S4 12 a3 := by rw [hS]; exact pI_x ext_sI p_a3
  have hw := hw S4 hS
  refine lv_aload_n hx hb dX9_carries_22 rfl (lv_at hl 1 rfl) ?_
  obtain ⟨a5, e1, hw⟩ := hw
  have p_a5 : pI S4 12 a5 := wf_r P.2.2.2.1 p_a0 e1
  refine gf_9_7 C P p_a0 e1 q_1312 dX9_carries_23 ?_
  refine lv_iconst (v := 2) hx hb dX9_carries_26 (by decide) ?_
  refine lv_iload_n hx hb dX9_carries_27 rfl (lv_at hl 0 rfl) ?_
  refine lv_imul hx hb dX9_carries_28 ?_
  refine lv_iconst (v := 1) hx hb dX9_carries_29 (by decide) ?_
  refine lv_iadd hx hb dX9_carries_30 ?_
  refine lv_iload_n hx hb dX9_carries_31 rfl (lv_at hl 3 rfl) ?_
  obtain ⟨h1, hw⟩ := hw
  refine rs_i C P p_a5 h1 dX9_carries_32 (fun H locs P => ?_)
  obtain ⟨S6, hS⟩ : ∃ z, z = (sI S4 a5 (((2 * (mI S1 a2 (289 : Int32).toNatClampNeg)) + 1) : Int32).toNatClampNeg x2) := ⟨_, rfl⟩
  have P : PW G A s H locs S0 S6 := by rw [hS]; exact P
  have p_a0 : pI S6 9 a0 := by rw [hS]; exact pI_x ext_sI p_a0
  have p_a5 : pI S6 12 a5 := by rw [hS]; exact pI_x ext_sI p_a5
  have hw := hw S6 hS
  refine lv_aload_n hx hb dX9_carries_33 rfl (lv_at hl 1 rfl) ?_
  refine lv_iload_n hx hb dX9_carries_34 rfl (lv_at hl 2 rfl) ?_
  refine lv_iload_n hx hb dX9_carries_35 rfl (lv_at hl 3 rfl) ?_
  refine cl_i C P (run_V C P hl.1 (kd := 9) (met_X9_does (CF_n C) G H.size _ _ S6 a0 x1 x2 p_a0 hw) p_a0 (by decide) rfl q_1638 q_1640 q_p64 q_10 q_1641 cd_X9_does ⟨(Nat.le_of_ble_eq_true rfl), (Nat.le_of_ble_eq_true rfl)⟩ rfl rfl (As := [.int x1, .int x2]) (rest := []) rfl rfl (Nat.le_of_ble_eq_true rfl) dX9_carries_36 ⟨by show cells + 0 ≤ 0; omega, by show slots + 0 ≤ 0; omega⟩) (kx_out C hex (fun _ _ _ h => h) (by omega) (by omega)) (fun r8 S7 H locs P hE hw => ?_)
  have p_a0 : pI S7 9 a0 := pI_x hE p_a0
  refine lv_istore (lv' := [(4, .int r8), (3, .int (mI S1 a2 (289 : Int32).toNatClampNeg)), (0, .ref a0), (1, .int x1), (2, .int x2)]) hx hb dX9_carries_39 hl (by decide) rfl (fun ls hl => ?_)
  refine lv_iload hx hb dX9_carries_41 (lv_at hl 0 rfl) ?_
  exact e_i C hr rfl P hw (by omega) (by omega) dX9_carries_43
def wp_X9_carries (Q : Int32 → MS → Prop) (QX : String → MS → Prop) (S : MS) (a0 : Nat) (x1 : Int32) (x2 : Int32) : Prop := wX9_carries_0 Q QX S a0 x1 x2
set_option maxHeartbeats 4000000 in
set_option maxRecDepth 100000 in
theorem met_X9_carries {l : Launch} (hst : l.stackTraces = false) (G : GP) (sz : Nat) (Q : Int32 → MS → Prop) (QX : String → MS → Prop) (S : MS) (a0 : Nat) (x1 : Int32) (x2 : Int32) (p_a0 : pI S 9 a0) (hw : wp_X9_carries Q QX S a0 x1 x2) : vx_Met l yX9_carries (.code yX9_carries cX9_carries 5 (some .int) :: GW) rmX9_carries (va_Pc [.ref a0, .int x1, .int x2] (PR G S sz)) (QI G S (FA G S sz) Q) (XX G S (FA G S sz) QX) 0 0 (FA G S sz) := by
  refine st_m (by decide +kernel) hst (fun p e s m below meth c C hr hnm hex P => ?_)
  refine en_m (Nat.le_of_ble_eq_true rfl) (lv := [(0, .ref a0), (1, .int x1), (2, .int x2)]) rfl (fun ls hl => ?_)
  have C : CF p l s m _ meth c "SkirmishGridModel" cX9_carries 5 G (FA G S sz) := C
  exact tX9_carries_0 C hr hex Q QX S a0 x1 x2 p_a0 P hl (by omega) (by omega) hw
theorem cd_X9_carries : yX9_carries.cls = RX9 ∧ yX9_carries.cls ≠ "java/lang/invoke/MethodHandle" ∧ yX9_carries.cls ≠ "java/lang/invoke/VarHandle" ∧ (parseMethodDescriptor yX9_carries.desc).map (fun d => d.parameters.length) = some 2 := by decide +kernel
abbrev rmX9_move : Room := { frames := 8, cells := 0, slots := 0, locals := 197 }
def wX9_move_59 (Q : Int32 → MS → Prop) (QX : String → MS → Prop) (S : MS) (a0 : Nat) : Prop := wp_X9_no (fun r2 S1 => Q r2 S1) QX S a0 4
set_option maxHeartbeats 4000000 in
set_option maxRecDepth 100000 in
theorem tX9_move_59 {p : Program} {l : Launch} {e : Env} {s : State} {m : MethodId} {args : Array Value} {below : List Frame} {meth : Method} {c : Code} {H : Heap} {locs : List Loc} {cells slots : Nat} {G : GP} {A : Nat → Prop} {S0 : MS} {ls : Array Slot} (C : CF p l s m args meth c "SkirmishGridModel" cX9_move 3 G A) (hr : meth.sig.returnType = (some .int)) (hex : ∀ x ∈ c.exceptionTable.toList, False) (Q : Int32 → MS → Prop) (QX : String → MS → Prop) (S : MS) (a0 : Nat) (p_a0 : pI S 9 a0) (P : PW G A s H locs S0 S) (hl : lv_has ls 3 [(0, .ref a0)]) (hcc : cells + 0 ≤ 0) (hss : slots + 0 ≤ 0) (hw : wX9_move_59 Q QX S a0) : W p l e rmX9_move s m args below meth c H locs cells slots (vx_MQ below (QI G S0 A Q) (XX G S0 A QX) args s 0 0 A) (F0 m 59 ls []) := by
  have hx := CF_x C
  have hb := CF_b C
  unfold wX9_move_59 at hw
  refine lv_aload_n hx hb dX9_move_59 rfl (lv_at hl 0 rfl) ?_
  refine lv_iconst (v := 4) hx hb dX9_move_60 (by decide) ?_
  refine cl_i C P (run_V C P hl.1 (kd := 9) (met_X9_no (CF_n C) G H.size _ _ S a0 4 p_a0 hw) p_a0 (by decide) rfl q_1386 q_1388 q_p23 q_10 q_1389 cd_X9_no ⟨(Nat.le_of_ble_eq_true rfl), (Nat.le_of_ble_eq_true rfl)⟩ rfl rfl (As := [.int 4]) (rest := []) rfl rfl (Nat.le_of_ble_eq_true rfl) dX9_move_61 ⟨by show cells + 0 ≤ 0; omega, by show slots + 0 ≤ 0; omega⟩) (kx_out C hex (fun _ _ _ h => h) (by omega) (by omega)) (fun r2 S1 H locs P hE hw => ?_)
  have p_a0 : pI S1 9 a0 := pI_x hE p_a0
  refine lv_goto (tgt := 73) hx hb dX9_move_64 (by decide) ?_
  exact e_i C hr rfl P hw (by omega) (by omega) dX9_move_73
def wX9_move_0 (Q : Int32 → MS → Prop) (QX : String → MS → Prop) (S : MS) (a0 : Nat) (x1 : Int32) : Prop := wp_X9_isCell (fun r2 S1 => wp_X9_mayAsk (fun r4 S3 => ((¬ r4 = 0 → (∃ a5, mR S3 a0 1 = some a5 ∧ (vp_in 167 (mN S3 a5) ∧ ((¬ (mI S3 a5 (167 : Int32).toNatClampNeg) = 0 → wp_X9_costsTo (fun r7 S6 => ((r7 < 1 → wX9_move_59 Q QX S6 a0) ∧ (¬ r7 < 1 → (∃ a8, mR S6 a0 1 = some a8 ∧ (vp_in 166 (mN S6 a8) ∧ wp_X9_kindly (fun r10 S9 => ((r7 ≤ r10 → wp_X9_carries (fun r12 S11 => Q r12 S11) QX S9 a0 0 x1) ∧ (¬ r7 ≤ r10 → wX9_move_59 Q QX S9 a0))) QX S6 a0 (mI S6 a8 (166 : Int32).toNatClampNeg) 4))))) QX S3 a0 x1) ∧ ((mI S3 a5 (167 : Int32).toNatClampNeg) = 0 → wp_X9_no (fun r14 S13 => Q r14 S13) QX S3 a0 3))))) ∧ (r4 = 0 → Q 0 S3))) QX S1 a0 r2) QX S a0 x1
set_option maxHeartbeats 4000000 in
set_option maxRecDepth 100000 in
theorem tX9_move_0 {p : Program} {l : Launch} {e : Env} {s : State} {m : MethodId} {args : Array Value} {below : List Frame} {meth : Method} {c : Code} {H : Heap} {locs : List Loc} {cells slots : Nat} {G : GP} {A : Nat → Prop} {S0 : MS} {ls : Array Slot} (C : CF p l s m args meth c "SkirmishGridModel" cX9_move 3 G A) (hr : meth.sig.returnType = (some .int)) (hex : ∀ x ∈ c.exceptionTable.toList, False) (Q : Int32 → MS → Prop) (QX : String → MS → Prop) (S : MS) (a0 : Nat) (x1 : Int32) (p_a0 : pI S 9 a0) (P : PW G A s H locs S0 S) (hl : lv_has ls 3 [(0, .ref a0), (1, .int x1)]) (hcc : cells + 0 ≤ 0) (hss : slots + 0 ≤ 0) (hw : wX9_move_0 Q QX S a0 x1) : W p l e rmX9_move s m args below meth c H locs cells slots (vx_MQ below (QI G S0 A Q) (XX G S0 A QX) args s 0 0 A) (F0 m 0 ls []) := by
  have hx := CF_x C
  have hb := CF_b C
  unfold wX9_move_0 at hw
  refine lv_aload_n hx hb dX9_move_0 rfl (lv_at hl 0 rfl) ?_
  refine lv_aload_n hx hb dX9_move_1 rfl (lv_at hl 0 rfl) ?_
  refine lv_iload_n hx hb dX9_move_2 rfl (lv_at hl 1 rfl) ?_
  refine cl_i C P (run_V C P hl.1 (kd := 9) (met_X9_isCell (CF_n C) G H.size _ _ S a0 x1 p_a0 hw) p_a0 (by decide) rfl q_1417 q_1419 q_p26 q_10 q_1420 cd_X9_isCell ⟨(Nat.le_of_ble_eq_true rfl), (Nat.le_of_ble_eq_true rfl)⟩ rfl rfl (As := [.int x1]) (rest := [.ref a0]) rfl rfl (Nat.le_of_ble_eq_true rfl) dX9_move_3 ⟨by show cells + 0 ≤ 0; omega, by show slots + 0 ≤ 0; omega⟩) (kx_out C hex (fun _ _ _ h => h) (by omega) (by omega)) (fun r2 S1 H locs P hE hw => ?_)
  have p_a0 : pI S1 9 a0 := pI_x hE p_a0
  refine cl_i C P (run_V C P hl.1 (kd := 9) (met_X9_mayAsk (CF_n C) G H.size _ _ S1 a0 r2 p_a0 hw) p_a0 (by decide) rfl q_1556 q_1558 q_p49 q_10 q_1559 cd_X9_mayAsk ⟨(Nat.le_of_ble_eq_true rfl), (Nat.le_of_ble_eq_true rfl)⟩ rfl rfl (As := [.int r2]) (rest := []) rfl rfl (Nat.le_of_ble_eq_true rfl) dX9_move_6 ⟨by show cells + 0 ≤ 0; omega, by show slots + 0 ≤ 0; omega⟩) (kx_out C hex (fun _ _ _ h => h) (by omega) (by omega)) (fun r4 S3 H locs P hE hw => ?_)
  have p_a0 : pI S3 9 a0 := pI_x hE p_a0
  refine lv_if_ne (tgt := 14) hx hb dX9_move_9 (by decide) (fun hc => ?_) (fun hc => ?_)
  · have hw := hw.1 hc
    refine lv_aload_n hx hb dX9_move_14 rfl (lv_at hl 0 rfl) ?_
    obtain ⟨a5, e1, hw⟩ := hw
    have p_a5 : pI S3 12 a5 := wf_r P.2.2.2.1 p_a0 e1
    refine gf_9_1 C P p_a0 e1 q_1306 dX9_move_15 ?_
    refine lv_sipush (v := 167) hx hb dX9_move_18 (by decide) ?_
    obtain ⟨h1, hw⟩ := hw
    refine ra_i C P p_a5 h1 dX9_move_21 ?_
    refine lv_if_ne (tgt := 31) hx hb dX9_move_22 (by decide) (fun hc => ?_) (fun hc => ?_)
    · have hw := hw.1 hc
      refine lv_aload_n hx hb dX9_move_31 rfl (lv_at hl 0 rfl) ?_
      refine lv_iload_n hx hb dX9_move_32 rfl (lv_at hl 1 rfl) ?_
      refine cl_i C P (run_V C P hl.1 (kd := 9) (met_X9_costsTo (CF_n C) G H.size _ _ S3 a0 x1 p_a0 hw) p_a0 (by decide) rfl q_1560 q_1562 q_p50 q_10 q_1563 cd_X9_costsTo ⟨(Nat.le_of_ble_eq_true rfl), (Nat.le_of_ble_eq_true rfl)⟩ rfl rfl (As := [.int x1]) (rest := []) rfl rfl (Nat.le_of_ble_eq_true rfl) dX9_move_33 ⟨by show cells + 0 ≤ 0; omega, by show slots + 0 ≤ 0; omega⟩) (kx_out C hex (fun _ _ _ h => h) (by omega) (by omega)) (fun r7 S6 H locs P hE hw => ?_)
      have p_a0 : pI S6 9 a0 := pI_x hE p_a0
      refine lv_istore_n (lv' := [(2, .int r7), (0, .ref a0), (1, .int x1)]) hx hb dX9_move_36 rfl hl (by decide) rfl (fun ls hl => ?_)
      refine lv_iload_n hx hb dX9_move_37 rfl (lv_at hl 0 rfl) ?_
      refine lv_iconst (v := 1) hx hb dX9_move_38 (by decide) ?_
      refine lv_icmp_lt (tgt := 59) hx hb dX9_move_39 (by decide) (fun hc => ?_) (fun hc => ?_)
      · have hw := hw.1 hc
        exact tX9_move_59 C hr hex Q QX S6 a0 p_a0 P (lv_sub hl [1] rfl) (by omega) (by omega) hw
      · have hw := hw.2 hc
        refine lv_iload_n hx hb dX9_move_42 rfl (lv_at hl 0 rfl) ?_
        refine lv_aload_n hx hb dX9_move_43 rfl (lv_at hl 1 rfl) ?_
        refine lv_aload_n hx hb dX9_move_44 rfl (lv_at hl 1 rfl) ?_
        obtain ⟨a8, e1, hw⟩ := hw
        have p_a8 : pI S6 12 a8 := wf_r P.2.2.2.1 p_a0 e1
        refine gf_9_1 C P p_a0 e1 q_1306 dX9_move_45 ?_
        refine lv_sipush (v := 166) hx hb dX9_move_48 (by decide) ?_
        obtain ⟨h1, hw⟩ := hw
        refine ra_i C P p_a8 h1 dX9_move_51 ?_
        refine lv_iconst (v := 4) hx hb dX9_move_52 (by decide) ?_
        refine cl_i C P (run_V C P hl.1 (kd := 9) (met_X9_kindly (CF_n C) G H.size _ _ S6 a0 (mI S6 a8 (166 : Int32).toNatClampNeg) 4 p_a0 hw) p_a0 (by decide) rfl q_1532 q_1534 q_p44 q_10 q_1535 cd_X9_kindly ⟨(Nat.le_of_ble_eq_true rfl), (Nat.le_of_ble_eq_true rfl)⟩ rfl rfl (As := [.int (mI S6 a8 (166 : Int32).toNatClampNeg), .int 4]) (rest := [.int r7]) rfl rfl (Nat.le_of_ble_eq_true rfl) dX9_move_53 ⟨by show cells + 0 ≤ 0; omega, by show slots + 0 ≤ 0; omega⟩) (kx_out C hex (fun _ _ _ h => h) (by omega) (by omega)) (fun r10 S9 H locs P hE hw => ?_)
        have p_a0 : pI S9 9 a0 := pI_x hE p_a0
        refine lv_icmp_le (tgt := 67) hx hb dX9_move_56 (by decide) (fun hc => ?_) (fun hc => ?_)
        · have hw := hw.1 hc
          refine lv_aload_n hx hb dX9_move_67 rfl (lv_at hl 1 rfl) ?_
          refine lv_iconst (v := 0) hx hb dX9_move_68 (by decide) ?_
          refine lv_iload_n hx hb dX9_move_69 rfl (lv_at hl 2 rfl) ?_
          refine cl_i C P (run_V C P hl.1 (kd := 9) (met_X9_carries (CF_n C) G H.size _ _ S9 a0 0 x1 p_a0 hw) p_a0 (by decide) rfl q_1630 q_1632 q_p62 q_10 q_1633 cd_X9_carries ⟨(Nat.le_of_ble_eq_true rfl), (Nat.le_of_ble_eq_true rfl)⟩ rfl rfl (As := [.int 0, .int x1]) (rest := []) rfl rfl (Nat.le_of_ble_eq_true rfl) dX9_move_70 ⟨by show cells + 0 ≤ 0; omega, by show slots + 0 ≤ 0; omega⟩) (kx_out C hex (fun _ _ _ h => h) (by omega) (by omega)) (fun r12 S11 H locs P hE hw => ?_)
          have p_a0 : pI S11 9 a0 := pI_x hE p_a0
          exact e_i C hr rfl P hw (by omega) (by omega) dX9_move_73
        · have hw := hw.2 hc
          exact tX9_move_59 C hr hex Q QX S9 a0 p_a0 P (lv_sub hl [1] rfl) (by omega) (by omega) hw
    · have hw := hw.2 hc
      refine lv_aload_n hx hb dX9_move_25 rfl (lv_at hl 0 rfl) ?_
      refine lv_iconst (v := 3) hx hb dX9_move_26 (by decide) ?_
      refine cl_i C P (run_V C P hl.1 (kd := 9) (met_X9_no (CF_n C) G H.size _ _ S3 a0 3 p_a0 hw) p_a0 (by decide) rfl q_1386 q_1388 q_p23 q_10 q_1389 cd_X9_no ⟨(Nat.le_of_ble_eq_true rfl), (Nat.le_of_ble_eq_true rfl)⟩ rfl rfl (As := [.int 3]) (rest := []) rfl rfl (Nat.le_of_ble_eq_true rfl) dX9_move_27 ⟨by show cells + 0 ≤ 0; omega, by show slots + 0 ≤ 0; omega⟩) (kx_out C hex (fun _ _ _ h => h) (by omega) (by omega)) (fun r14 S13 H locs P hE hw => ?_)
      have p_a0 : pI S13 9 a0 := pI_x hE p_a0
      exact e_i C hr rfl P hw (by omega) (by omega) dX9_move_30
  · have hw := hw.2 hc
    refine lv_iconst (v := 0) hx hb dX9_move_12 (by decide) ?_
    exact e_i C hr rfl P hw (by omega) (by omega) dX9_move_13
def wp_X9_move (Q : Int32 → MS → Prop) (QX : String → MS → Prop) (S : MS) (a0 : Nat) (x1 : Int32) : Prop := wX9_move_0 Q QX S a0 x1
set_option maxHeartbeats 4000000 in
set_option maxRecDepth 100000 in
theorem met_X9_move {l : Launch} (hst : l.stackTraces = false) (G : GP) (sz : Nat) (Q : Int32 → MS → Prop) (QX : String → MS → Prop) (S : MS) (a0 : Nat) (x1 : Int32) (p_a0 : pI S 9 a0) (hw : wp_X9_move Q QX S a0 x1) : vx_Met l yX9_move (.code yX9_move cX9_move 3 (some .int) :: GW) rmX9_move (va_Pc [.ref a0, .int x1] (PR G S sz)) (QI G S (FA G S sz) Q) (XX G S (FA G S sz) QX) 0 0 (FA G S sz) := by
  refine st_m (by decide +kernel) hst (fun p e s m below meth c C hr hnm hex P => ?_)
  refine en_m (Nat.le_of_ble_eq_true rfl) (lv := [(0, .ref a0), (1, .int x1)]) rfl (fun ls hl => ?_)
  have C : CF p l s m _ meth c "SkirmishGridModel" cX9_move 3 G (FA G S sz) := C
  exact tX9_move_0 C hr hex Q QX S a0 x1 p_a0 P hl (by omega) (by omega) hw
theorem cd_X9_move : yX9_move.cls = RX9 ∧ yX9_move.cls ≠ "java/lang/invoke/MethodHandle" ∧ yX9_move.cls ≠ "java/lang/invoke/VarHandle" ∧ (parseMethodDescriptor yX9_move.desc).map (fun d => d.parameters.length) = some 1 := by decide +kernel
abbrev rmX9_attack : Room := { frames := 8, cells := 0, slots := 0, locals := 197 }
def wX9_attack_41 (Q : Int32 → MS → Prop) (QX : String → MS → Prop) (S : MS) (a0 : Nat) : Prop := wp_X9_no (fun r2 S1 => Q r2 S1) QX S a0 3
set_option maxHeartbeats 4000000 in
set_option maxRecDepth 100000 in
theorem tX9_attack_41 {p : Program} {l : Launch} {e : Env} {s : State} {m : MethodId} {args : Array Value} {below : List Frame} {meth : Method} {c : Code} {H : Heap} {locs : List Loc} {cells slots : Nat} {G : GP} {A : Nat → Prop} {S0 : MS} {ls : Array Slot} (C : CF p l s m args meth c "SkirmishGridModel" cX9_attack 2 G A) (hr : meth.sig.returnType = (some .int)) (hex : ∀ x ∈ c.exceptionTable.toList, False) (Q : Int32 → MS → Prop) (QX : String → MS → Prop) (S : MS) (a0 : Nat) (p_a0 : pI S 9 a0) (P : PW G A s H locs S0 S) (hl : lv_has ls 2 [(0, .ref a0)]) (hcc : cells + 0 ≤ 0) (hss : slots + 0 ≤ 0) (hw : wX9_attack_41 Q QX S a0) : W p l e rmX9_attack s m args below meth c H locs cells slots (vx_MQ below (QI G S0 A Q) (XX G S0 A QX) args s 0 0 A) (F0 m 41 ls []) := by
  have hx := CF_x C
  have hb := CF_b C
  unfold wX9_attack_41 at hw
  refine lv_aload_n hx hb dX9_attack_41 rfl (lv_at hl 0 rfl) ?_
  refine lv_iconst (v := 3) hx hb dX9_attack_42 (by decide) ?_
  refine cl_i C P (run_V C P hl.1 (kd := 9) (met_X9_no (CF_n C) G H.size _ _ S a0 3 p_a0 hw) p_a0 (by decide) rfl q_1386 q_1388 q_p23 q_10 q_1389 cd_X9_no ⟨(Nat.le_of_ble_eq_true rfl), (Nat.le_of_ble_eq_true rfl)⟩ rfl rfl (As := [.int 3]) (rest := []) rfl rfl (Nat.le_of_ble_eq_true rfl) dX9_attack_43 ⟨by show cells + 0 ≤ 0; omega, by show slots + 0 ≤ 0; omega⟩) (kx_out C hex (fun _ _ _ h => h) (by omega) (by omega)) (fun r2 S1 H locs P hE hw => ?_)
  have p_a0 : pI S1 9 a0 := pI_x hE p_a0
  exact e_i C hr rfl P hw (by omega) (by omega) dX9_attack_46
def wX9_attack_0 (Q : Int32 → MS → Prop) (QX : String → MS → Prop) (S : MS) (a0 : Nat) (x1 : Int32) : Prop := wp_X9_isUnit (fun r2 S1 => wp_X9_mayAsk (fun r4 S3 => ((¬ r4 = 0 → (∃ a5, mR S3 a0 1 = some a5 ∧ (vp_in 167 (mN S3 a5) ∧ (((mI S3 a5 (167 : Int32).toNatClampNeg) = 0 → wX9_attack_41 Q QX S3 a0) ∧ (¬ (mI S3 a5 (167 : Int32).toNatClampNeg) = 0 → (∃ a6, mR S3 a0 1 = some a6 ∧ (vp_in 166 (mN S3 a6) ∧ wp_X9_of (fun r8 S7 => ((¬ r8 = 0 → (∃ a9, mR S7 a0 1 = some a9 ∧ (vp_in 166 (mN S7 a9) ∧ wp_X9_canAttack (fun r11 S10 => ((r11 = 0 → wp_X9_no (fun r13 S12 => Q r13 S12) QX S10 a0 4) ∧ (¬ r11 = 0 → wp_X9_carries (fun r15 S14 => Q r15 S14) QX S10 a0 1 x1))) QX S7 a0 (mI S7 a9 (166 : Int32).toNatClampNeg) x1))) ∧ (r8 = 0 → wX9_attack_41 Q QX S7 a0))) QX S3 a0 (mI S3 a6 (166 : Int32).toNatClampNeg) 4))))))) ∧ (r4 = 0 → Q 0 S3))) QX S1 a0 r2) QX S a0 x1
set_option maxHeartbeats 4000000 in
set_option maxRecDepth 100000 in
theorem tX9_attack_0 {p : Program} {l : Launch} {e : Env} {s : State} {m : MethodId} {args : Array Value} {below : List Frame} {meth : Method} {c : Code} {H : Heap} {locs : List Loc} {cells slots : Nat} {G : GP} {A : Nat → Prop} {S0 : MS} {ls : Array Slot} (C : CF p l s m args meth c "SkirmishGridModel" cX9_attack 2 G A) (hr : meth.sig.returnType = (some .int)) (hex : ∀ x ∈ c.exceptionTable.toList, False) (Q : Int32 → MS → Prop) (QX : String → MS → Prop) (S : MS) (a0 : Nat) (x1 : Int32) (p_a0 : pI S 9 a0) (P : PW G A s H locs S0 S) (hl : lv_has ls 2 [(0, .ref a0), (1, .int x1)]) (hcc : cells + 0 ≤ 0) (hss : slots + 0 ≤ 0) (hw : wX9_attack_0 Q QX S a0 x1) : W p l e rmX9_attack s m args below meth c H locs cells slots (vx_MQ below (QI G S0 A Q) (XX G S0 A QX) args s 0 0 A) (F0 m 0 ls []) := by
  have hx := CF_x C
  have hb := CF_b C
  unfold wX9_attack_0 at hw
  refine lv_aload_n hx hb dX9_attack_0 rfl (lv_at hl 0 rfl) ?_
  refine lv_aload_n hx hb dX9_attack_1 rfl (lv_at hl 0 rfl) ?_
  refine lv_iload_n hx hb dX9_attack_2 rfl (lv_at hl 1 rfl) ?_
  refine cl_i C P (run_V C P hl.1 (kd := 9) (met_X9_isUnit (CF_n C) G H.size _ _ S a0 x1 p_a0 hw) p_a0 (by decide) rfl q_1480 q_1482 q_p37 q_10 q_1483 cd_X9_isUnit ⟨(Nat.le_of_ble_eq_true rfl), (Nat.le_of_ble_eq_true rfl)⟩ rfl rfl (As := [.int x1]) (rest := [.ref a0]) rfl rfl (Nat.le_of_ble_eq_true rfl) dX9_attack_3 ⟨by show cells + 0 ≤ 0; omega, by show slots + 0 ≤ 0; omega⟩) (kx_out C hex (fun _ _ _ h => h) (by omega) (by omega)) (fun r2 S1 H locs P hE hw => ?_)
  have p_a0 : pI S1 9 a0 := pI_x hE p_a0
  refine cl_i C P (run_V C P hl.1 (kd := 9) (met_X9_mayAsk (CF_n C) G H.size _ _ S1 a0 r2 p_a0 hw) p_a0 (by decide) rfl q_1556 q_1558 q_p49 q_10 q_1559 cd_X9_mayAsk ⟨(Nat.le_of_ble_eq_true rfl), (Nat.le_of_ble_eq_true rfl)⟩ rfl rfl (As := [.int r2]) (rest := []) rfl rfl (Nat.le_of_ble_eq_true rfl) dX9_attack_6 ⟨by show cells + 0 ≤ 0; omega, by show slots + 0 ≤ 0; omega⟩) (kx_out C hex (fun _ _ _ h => h) (by omega) (by omega)) (fun r4 S3 H locs P hE hw => ?_)
  have p_a0 : pI S3 9 a0 := pI_x hE p_a0
  refine lv_if_ne (tgt := 14) hx hb dX9_attack_9 (by decide) (fun hc => ?_) (fun hc => ?_)
  · have hw := hw.1 hc
    refine lv_aload_n hx hb dX9_attack_14 rfl (lv_at hl 0 rfl) ?_
    obtain ⟨a5, e1, hw⟩ := hw
    have p_a5 : pI S3 12 a5 := wf_r P.2.2.2.1 p_a0 e1
    refine gf_9_1 C P p_a0 e1 q_1306 dX9_attack_15 ?_
    refine lv_sipush (v := 167) hx hb dX9_attack_18 (by decide) ?_
    obtain ⟨h1, hw⟩ := hw
    refine ra_i C P p_a5 h1 dX9_attack_21 ?_
    refine lv_if_eq (tgt := 41) hx hb dX9_attack_22 (by decide) (fun hc => ?_) (fun hc => ?_)
    · have hw := hw.1 hc
      exact tX9_attack_41 C hr hex Q QX S3 a0 p_a0 P (lv_sub hl [0] rfl) (by omega) (by omega) hw
    · have hw := hw.2 hc
      refine lv_aload_n hx hb dX9_attack_25 rfl (lv_at hl 0 rfl) ?_
      refine lv_aload_n hx hb dX9_attack_26 rfl (lv_at hl 0 rfl) ?_
      obtain ⟨a6, e1, hw⟩ := hw
      have p_a6 : pI S3 12 a6 := wf_r P.2.2.2.1 p_a0 e1
      refine gf_9_1 C P p_a0 e1 q_1306 dX9_attack_27 ?_
      refine lv_sipush (v := 166) hx hb dX9_attack_30 (by decide) ?_
      obtain ⟨h1, hw⟩ := hw
      refine ra_i C P p_a6 h1 dX9_attack_33 ?_
      refine lv_iconst (v := 4) hx hb dX9_attack_34 (by decide) ?_
      refine cl_i C P (run_V C P hl.1 (kd := 9) (met_X9_of (CF_n C) G H.size _ _ S3 a0 (mI S3 a6 (166 : Int32).toNatClampNeg) 4 p_a0 hw) p_a0 (by decide) rfl q_1457 q_1459 q_p34 q_10 q_1460 cd_X9_of ⟨(Nat.le_of_ble_eq_true rfl), (Nat.le_of_ble_eq_true rfl)⟩ rfl rfl (As := [.int (mI S3 a6 (166 : Int32).toNatClampNeg), .int 4]) (rest := []) rfl rfl (Nat.le_of_ble_eq_true rfl) dX9_attack_35 ⟨by show cells + 0 ≤ 0; omega, by show slots + 0 ≤ 0; omega⟩) (kx_out C hex (fun _ _ _ h => h) (by omega) (by omega)) (fun r8 S7 H locs P hE hw => ?_)
      have p_a0 : pI S7 9 a0 := pI_x hE p_a0
      refine lv_if_ne (tgt := 47) hx hb dX9_attack_38 (by decide) (fun hc => ?_) (fun hc => ?_)
      · have hw := hw.1 hc
        refine lv_aload_n hx hb dX9_attack_47 rfl (lv_at hl 0 rfl) ?_
        refine lv_aload_n hx hb dX9_attack_48 rfl (lv_at hl 0 rfl) ?_
        obtain ⟨a9, e1, hw⟩ := hw
        have p_a9 : pI S7 12 a9 := wf_r P.2.2.2.1 p_a0 e1
        refine gf_9_1 C P p_a0 e1 q_1306 dX9_attack_49 ?_
        refine lv_sipush (v := 166) hx hb dX9_attack_52 (by decide) ?_
        obtain ⟨h1, hw⟩ := hw
        refine ra_i C P p_a9 h1 dX9_attack_55 ?_
        refine lv_iload_n hx hb dX9_attack_56 rfl (lv_at hl 1 rfl) ?_
        refine cl_i C P (run_V C P hl.1 (kd := 9) (met_X9_canAttack (CF_n C) G H.size _ _ S7 a0 (mI S7 a9 (166 : Int32).toNatClampNeg) x1 p_a0 hw) p_a0 (by decide) rfl q_1596 q_1598 q_p57 q_10 q_1599 cd_X9_canAttack ⟨(Nat.le_of_ble_eq_true rfl), (Nat.le_of_ble_eq_true rfl)⟩ rfl rfl (As := [.int (mI S7 a9 (166 : Int32).toNatClampNeg), .int x1]) (rest := []) rfl rfl (Nat.le_of_ble_eq_true rfl) dX9_attack_57 ⟨by show cells + 0 ≤ 0; omega, by show slots + 0 ≤ 0; omega⟩) (kx_out C hex (fun _ _ _ h => h) (by omega) (by omega)) (fun r11 S10 H locs P hE hw => ?_)
        have p_a0 : pI S10 9 a0 := pI_x hE p_a0
        refine lv_if_eq (tgt := 72) hx hb dX9_attack_60 (by decide) (fun hc => ?_) (fun hc => ?_)
        · have hw := hw.1 hc
          refine lv_aload_n hx hb dX9_attack_72 rfl (lv_at hl 0 rfl) ?_
          refine lv_iconst (v := 4) hx hb dX9_attack_73 (by decide) ?_
          refine cl_i C P (run_V C P hl.1 (kd := 9) (met_X9_no (CF_n C) G H.size _ _ S10 a0 4 p_a0 hw) p_a0 (by decide) rfl q_1386 q_1388 q_p23 q_10 q_1389 cd_X9_no ⟨(Nat.le_of_ble_eq_true rfl), (Nat.le_of_ble_eq_true rfl)⟩ rfl rfl (As := [.int 4]) (rest := []) rfl rfl (Nat.le_of_ble_eq_true rfl) dX9_attack_74 ⟨by show cells + 0 ≤ 0; omega, by show slots + 0 ≤ 0; omega⟩) (kx_out C hex (fun _ _ _ h => h) (by omega) (by omega)) (fun r13 S12 H locs P hE hw => ?_)
          have p_a0 : pI S12 9 a0 := pI_x hE p_a0
          exact e_i C hr rfl P hw (by omega) (by omega) dX9_attack_77
        · have hw := hw.2 hc
          refine lv_aload_n hx hb dX9_attack_63 rfl (lv_at hl 0 rfl) ?_
          refine lv_iconst (v := 1) hx hb dX9_attack_64 (by decide) ?_
          refine lv_iload_n hx hb dX9_attack_65 rfl (lv_at hl 1 rfl) ?_
          refine cl_i C P (run_V C P hl.1 (kd := 9) (met_X9_carries (CF_n C) G H.size _ _ S10 a0 1 x1 p_a0 hw) p_a0 (by decide) rfl q_1630 q_1632 q_p62 q_10 q_1633 cd_X9_carries ⟨(Nat.le_of_ble_eq_true rfl), (Nat.le_of_ble_eq_true rfl)⟩ rfl rfl (As := [.int 1, .int x1]) (rest := []) rfl rfl (Nat.le_of_ble_eq_true rfl) dX9_attack_66 ⟨by show cells + 0 ≤ 0; omega, by show slots + 0 ≤ 0; omega⟩) (kx_out C hex (fun _ _ _ h => h) (by omega) (by omega)) (fun r15 S14 H locs P hE hw => ?_)
          have p_a0 : pI S14 9 a0 := pI_x hE p_a0
          refine lv_goto (tgt := 77) hx hb dX9_attack_69 (by decide) ?_
          exact e_i C hr rfl P hw (by omega) (by omega) dX9_attack_77
      · have hw := hw.2 hc
        exact tX9_attack_41 C hr hex Q QX S7 a0 p_a0 P (lv_sub hl [0] rfl) (by omega) (by omega) hw
  · have hw := hw.2 hc
    refine lv_iconst (v := 0) hx hb dX9_attack_12 (by decide) ?_
    exact e_i C hr rfl P hw (by omega) (by omega) dX9_attack_13
def wp_X9_attack (Q : Int32 → MS → Prop) (QX : String → MS → Prop) (S : MS) (a0 : Nat) (x1 : Int32) : Prop := wX9_attack_0 Q QX S a0 x1
set_option maxHeartbeats 4000000 in
set_option maxRecDepth 100000 in
theorem met_X9_attack {l : Launch} (hst : l.stackTraces = false) (G : GP) (sz : Nat) (Q : Int32 → MS → Prop) (QX : String → MS → Prop) (S : MS) (a0 : Nat) (x1 : Int32) (p_a0 : pI S 9 a0) (hw : wp_X9_attack Q QX S a0 x1) : vx_Met l yX9_attack (.code yX9_attack cX9_attack 2 (some .int) :: GW) rmX9_attack (va_Pc [.ref a0, .int x1] (PR G S sz)) (QI G S (FA G S sz) Q) (XX G S (FA G S sz) QX) 0 0 (FA G S sz) := by
  refine st_m (by decide +kernel) hst (fun p e s m below meth c C hr hnm hex P => ?_)
  refine en_m (Nat.le_of_ble_eq_true rfl) (lv := [(0, .ref a0), (1, .int x1)]) rfl (fun ls hl => ?_)
  have C : CF p l s m _ meth c "SkirmishGridModel" cX9_attack 2 G (FA G S sz) := C
  exact tX9_attack_0 C hr hex Q QX S a0 x1 p_a0 P hl (by omega) (by omega) hw
theorem cd_X9_attack : yX9_attack.cls = RX9 ∧ yX9_attack.cls ≠ "java/lang/invoke/MethodHandle" ∧ yX9_attack.cls ≠ "java/lang/invoke/VarHandle" ∧ (parseMethodDescriptor yX9_attack.desc).map (fun d => d.parameters.length) = some 1 := by decide +kernel
abbrev rmX9_throwAt : Room := { frames := 8, cells := 0, slots := 0, locals := 197 }
def wX9_throwAt_41 (Q : Int32 → MS → Prop) (QX : String → MS → Prop) (S : MS) (a0 : Nat) : Prop := wp_X9_no (fun r2 S1 => Q r2 S1) QX S a0 3
set_option maxHeartbeats 4000000 in
set_option maxRecDepth 100000 in
theorem tX9_throwAt_41 {p : Program} {l : Launch} {e : Env} {s : State} {m : MethodId} {args : Array Value} {below : List Frame} {meth : Method} {c : Code} {H : Heap} {locs : List Loc} {cells slots : Nat} {G : GP} {A : Nat → Prop} {S0 : MS} {ls : Array Slot} (C : CF p l s m args meth c "SkirmishGridModel" cX9_throwAt 3 G A) (hr : meth.sig.returnType = (some .int)) (hex : ∀ x ∈ c.exceptionTable.toList, False) (Q : Int32 → MS → Prop) (QX : String → MS → Prop) (S : MS) (a0 : Nat) (p_a0 : pI S 9 a0) (P : PW G A s H locs S0 S) (hl : lv_has ls 3 [(0, .ref a0)]) (hcc : cells + 0 ≤ 0) (hss : slots + 0 ≤ 0) (hw : wX9_throwAt_41 Q QX S a0) : W p l e rmX9_throwAt s m args below meth c H locs cells slots (vx_MQ below (QI G S0 A Q) (XX G S0 A QX) args s 0 0 A) (F0 m 41 ls []) := by
  have hx := CF_x C
  have hb := CF_b C
  unfold wX9_throwAt_41 at hw
  refine lv_aload_n hx hb dX9_throwAt_41 rfl (lv_at hl 0 rfl) ?_
  refine lv_iconst (v := 3) hx hb dX9_throwAt_42 (by decide) ?_
  refine cl_i C P (run_V C P hl.1 (kd := 9) (met_X9_no (CF_n C) G H.size _ _ S a0 3 p_a0 hw) p_a0 (by decide) rfl q_1386 q_1388 q_p23 q_10 q_1389 cd_X9_no ⟨(Nat.le_of_ble_eq_true rfl), (Nat.le_of_ble_eq_true rfl)⟩ rfl rfl (As := [.int 3]) (rest := []) rfl rfl (Nat.le_of_ble_eq_true rfl) dX9_throwAt_43 ⟨by show cells + 0 ≤ 0; omega, by show slots + 0 ≤ 0; omega⟩) (kx_out C hex (fun _ _ _ h => h) (by omega) (by omega)) (fun r2 S1 H locs P hE hw => ?_)
  have p_a0 : pI S1 9 a0 := pI_x hE p_a0
  exact e_i C hr rfl P hw (by omega) (by omega) dX9_throwAt_46
def wX9_throwAt_101 (Q : Int32 → MS → Prop) (QX : String → MS → Prop) (S : MS) (a0 : Nat) : Prop := wp_X9_no (fun r2 S1 => Q r2 S1) QX S a0 4
set_option maxHeartbeats 4000000 in
set_option maxRecDepth 100000 in
theorem tX9_throwAt_101 {p : Program} {l : Launch} {e : Env} {s : State} {m : MethodId} {args : Array Value} {below : List Frame} {meth : Method} {c : Code} {H : Heap} {locs : List Loc} {cells slots : Nat} {G : GP} {A : Nat → Prop} {S0 : MS} {ls : Array Slot} (C : CF p l s m args meth c "SkirmishGridModel" cX9_throwAt 3 G A) (hr : meth.sig.returnType = (some .int)) (hex : ∀ x ∈ c.exceptionTable.toList, False) (Q : Int32 → MS → Prop) (QX : String → MS → Prop) (S : MS) (a0 : Nat) (p_a0 : pI S 9 a0) (P : PW G A s H locs S0 S) (hl : lv_has ls 3 [(0, .ref a0)]) (hcc : cells + 0 ≤ 0) (hss : slots + 0 ≤ 0) (hw : wX9_throwAt_101 Q QX S a0) : W p l e rmX9_throwAt s m args below meth c H locs cells slots (vx_MQ below (QI G S0 A Q) (XX G S0 A QX) args s 0 0 A) (F0 m 101 ls []) := by
  have hx := CF_x C
  have hb := CF_b C
  unfold wX9_throwAt_101 at hw
  refine lv_aload_n hx hb dX9_throwAt_101 rfl (lv_at hl 0 rfl) ?_
  refine lv_iconst (v := 4) hx hb dX9_throwAt_102 (by decide) ?_
  refine cl_i C P (run_V C P hl.1 (kd := 9) (met_X9_no (CF_n C) G H.size _ _ S a0 4 p_a0 hw) p_a0 (by decide) rfl q_1386 q_1388 q_p23 q_10 q_1389 cd_X9_no ⟨(Nat.le_of_ble_eq_true rfl), (Nat.le_of_ble_eq_true rfl)⟩ rfl rfl (As := [.int 4]) (rest := []) rfl rfl (Nat.le_of_ble_eq_true rfl) dX9_throwAt_103 ⟨by show cells + 0 ≤ 0; omega, by show slots + 0 ≤ 0; omega⟩) (kx_out C hex (fun _ _ _ h => h) (by omega) (by omega)) (fun r2 S1 H locs P hE hw => ?_)
  have p_a0 : pI S1 9 a0 := pI_x hE p_a0
  exact e_i C hr rfl P hw (by omega) (by omega) dX9_throwAt_106
def wX9_throwAt_0 (Q : Int32 → MS → Prop) (QX : String → MS → Prop) (S : MS) (a0 : Nat) (x1 : Int32) : Prop := wp_X9_isCell (fun r2 S1 => wp_X9_mayAsk (fun r4 S3 => ((¬ r4 = 0 → (∃ a5, mR S3 a0 1 = some a5 ∧ (vp_in 167 (mN S3 a5) ∧ (((mI S3 a5 (167 : Int32).toNatClampNeg) = 0 → wX9_throwAt_41 Q QX S3 a0) ∧ (¬ (mI S3 a5 (167 : Int32).toNatClampNeg) = 0 → (∃ a6, mR S3 a0 1 = some a6 ∧ (vp_in 166 (mN S3 a6) ∧ wp_X9_of (fun r8 S7 => ((¬ r8 = 0 → (∃ a9, mR S7 a0 1 = some a9 ∧ (vp_in 166 (mN S7 a9) ∧ wp_X9_of (fun r11 S10 => (∃ a12, mR S10 a0 1 = some a12 ∧ (vp_in (2 + x1) (mN S10 a12) ∧ (((mI S10 a12 ((2 + x1) : Int32).toNatClampNeg) = 1 → wX9_throwAt_101 Q QX S10 a0) ∧ (¬ (mI S10 a12 ((2 + x1) : Int32).toNatClampNeg) = 1 → wp_X9_apart (fun r14 S13 => ((4 < r14 → wX9_throwAt_101 Q QX S13 a0) ∧ (¬ 4 < r14 → wp_X9_sees (fun r16 S15 => ((r16 = 0 → wX9_throwAt_101 Q QX S15 a0) ∧ (¬ r16 = 0 → wp_X9_carries (fun r18 S17 => Q r18 S17) QX S15 a0 2 x1))) QX S13 a0 r11 x1))) QX S10 a0 r11 x1))))) QX S7 a0 (mI S7 a9 (166 : Int32).toNatClampNeg) 2))) ∧ (r8 = 0 → wX9_throwAt_41 Q QX S7 a0))) QX S3 a0 (mI S3 a6 (166 : Int32).toNatClampNeg) 5))))))) ∧ (r4 = 0 → Q 0 S3))) QX S1 a0 r2) QX S a0 x1
set_option maxHeartbeats 4000000 in
set_option maxRecDepth 100000 in
theorem tX9_throwAt_0 {p : Program} {l : Launch} {e : Env} {s : State} {m : MethodId} {args : Array Value} {below : List Frame} {meth : Method} {c : Code} {H : Heap} {locs : List Loc} {cells slots : Nat} {G : GP} {A : Nat → Prop} {S0 : MS} {ls : Array Slot} (C : CF p l s m args meth c "SkirmishGridModel" cX9_throwAt 3 G A) (hr : meth.sig.returnType = (some .int)) (hex : ∀ x ∈ c.exceptionTable.toList, False) (Q : Int32 → MS → Prop) (QX : String → MS → Prop) (S : MS) (a0 : Nat) (x1 : Int32) (p_a0 : pI S 9 a0) (P : PW G A s H locs S0 S) (hl : lv_has ls 3 [(0, .ref a0), (1, .int x1)]) (hcc : cells + 0 ≤ 0) (hss : slots + 0 ≤ 0) (hw : wX9_throwAt_0 Q QX S a0 x1) : W p l e rmX9_throwAt s m args below meth c H locs cells slots (vx_MQ below (QI G S0 A Q) (XX G S0 A QX) args s 0 0 A) (F0 m 0 ls []) := by
  have hx := CF_x C
  have hb := CF_b C
  unfold wX9_throwAt_0 at hw
  refine lv_aload_n hx hb dX9_throwAt_0 rfl (lv_at hl 0 rfl) ?_
  refine lv_aload_n hx hb dX9_throwAt_1 rfl (lv_at hl 0 rfl) ?_
  refine lv_iload_n hx hb dX9_throwAt_2 rfl (lv_at hl 1 rfl) ?_
  refine cl_i C P (run_V C P hl.1 (kd := 9) (met_X9_isCell (CF_n C) G H.size _ _ S a0 x1 p_a0 hw) p_a0 (by decide) rfl q_1417 q_1419 q_p26 q_10 q_1420 cd_X9_isCell ⟨(Nat.le_of_ble_eq_true rfl), (Nat.le_of_ble_eq_true rfl)⟩ rfl rfl (As := [.int x1]) (rest := [.ref a0]) rfl rfl (Nat.le_of_ble_eq_true rfl) dX9_throwAt_3 ⟨by show cells + 0 ≤ 0; omega, by show slots + 0 ≤ 0; omega⟩) (kx_out C hex (fun _ _ _ h => h) (by omega) (by omega)) (fun r2 S1 H locs P hE hw => ?_)
  have p_a0 : pI S1 9 a0 := pI_x hE p_a0
  refine cl_i C P (run_V C P hl.1 (kd := 9) (met_X9_mayAsk (CF_n C) G H.size _ _ S1 a0 r2 p_a0 hw) p_a0 (by decide) rfl q_1556 q_1558 q_p49 q_10 q_1559 cd_X9_mayAsk ⟨(Nat.le_of_ble_eq_true rfl), (Nat.le_of_ble_eq_true rfl)⟩ rfl rfl (As := [.int r2]) (rest := []) rfl rfl (Nat.le_of_ble_eq_true rfl) dX9_throwAt_6 ⟨by show cells + 0 ≤ 0; omega, by show slots + 0 ≤ 0; omega⟩) (kx_out C hex (fun _ _ _ h => h) (by omega) (by omega)) (fun r4 S3 H locs P hE hw => ?_)
  have p_a0 : pI S3 9 a0 := pI_x hE p_a0
  refine lv_if_ne (tgt := 14) hx hb dX9_throwAt_9 (by decide) (fun hc => ?_) (fun hc => ?_)
  · have hw := hw.1 hc
    refine lv_aload_n hx hb dX9_throwAt_14 rfl (lv_at hl 0 rfl) ?_
    obtain ⟨a5, e1, hw⟩ := hw
    have p_a5 : pI S3 12 a5 := wf_r P.2.2.2.1 p_a0 e1
    refine gf_9_1 C P p_a0 e1 q_1306 dX9_throwAt_15 ?_
    refine lv_sipush (v := 167) hx hb dX9_throwAt_18 (by decide) ?_
    obtain ⟨h1, hw⟩ := hw
    refine ra_i C P p_a5 h1 dX9_throwAt_21 ?_
    refine lv_if_eq (tgt := 41) hx hb dX9_throwAt_22 (by decide) (fun hc => ?_) (fun hc => ?_)
    · have hw := hw.1 hc
      exact tX9_throwAt_41 C hr hex Q QX S3 a0 p_a0 P (lv_sub hl [0] rfl) (by omega) (by omega) hw
    · have hw := hw.2 hc
      refine lv_aload_n hx hb dX9_throwAt_25 rfl (lv_at hl 0 rfl) ?_
      refine lv_aload_n hx hb dX9_throwAt_26 rfl (lv_at hl 0 rfl) ?_
      obtain ⟨a6, e1, hw⟩ := hw
      have p_a6 : pI S3 12 a6 := wf_r P.2.2.2.1 p_a0 e1
      refine gf_9_1 C P p_a0 e1 q_1306 dX9_throwAt_27 ?_
      refine lv_sipush (v := 166) hx hb dX9_throwAt_30 (by decide) ?_
      obtain ⟨h1, hw⟩ := hw
      refine ra_i C P p_a6 h1 dX9_throwAt_33 ?_
      refine lv_iconst (v := 5) hx hb dX9_throwAt_34 (by decide) ?_
      refine cl_i C P (run_V C P hl.1 (kd := 9) (met_X9_of (CF_n C) G H.size _ _ S3 a0 (mI S3 a6 (166 : Int32).toNatClampNeg) 5 p_a0 hw) p_a0 (by decide) rfl q_1457 q_1459 q_p34 q_10 q_1460 cd_X9_of ⟨(Nat.le_of_ble_eq_true rfl), (Nat.le_of_ble_eq_true rfl)⟩ rfl rfl (As := [.int (mI S3 a6 (166 : Int32).toNatClampNeg), .int 5]) (rest := []) rfl rfl (Nat.le_of_ble_eq_true rfl) dX9_throwAt_35 ⟨by show cells + 0 ≤ 0; omega, by show slots + 0 ≤ 0; omega⟩) (kx_out C hex (fun _ _ _ h => h) (by omega) (by omega)) (fun r8 S7 H locs P hE hw => ?_)
      have p_a0 : pI S7 9 a0 := pI_x hE p_a0
      refine lv_if_ne (tgt := 47) hx hb dX9_throwAt_38 (by decide) (fun hc => ?_) (fun hc => ?_)
      · have hw := hw.1 hc
        refine lv_aload_n hx hb dX9_throwAt_47 rfl (lv_at hl 0 rfl) ?_
        refine lv_aload_n hx hb dX9_throwAt_48 rfl (lv_at hl 0 rfl) ?_
        obtain ⟨a9, e1, hw⟩ := hw
        have p_a9 : pI S7 12 a9 := wf_r P.2.2.2.1 p_a0 e1
        refine gf_9_1 C P p_a0 e1 q_1306 dX9_throwAt_49 ?_
        refine lv_sipush (v := 166) hx hb dX9_throwAt_52 (by decide) ?_
        obtain ⟨h1, hw⟩ := hw
        refine ra_i C P p_a9 h1 dX9_throwAt_55 ?_
        refine lv_iconst (v := 2) hx hb dX9_throwAt_56 (by decide) ?_
        refine cl_i C P (run_V C P hl.1 (kd := 9) (met_X9_of (CF_n C) G H.size _ _ S7 a0 (mI S7 a9 (166 : Int32).toNatClampNeg) 2 p_a0 hw) p_a0 (by decide) rfl q_1457 q_1459 q_p34 q_10 q_1460 cd_X9_of ⟨(Nat.le_of_ble_eq_true rfl), (Nat.le_of_ble_eq_true rfl)⟩ rfl rfl (As := [.int (mI S7 a9 (166 : Int32).toNatClampNeg), .int 2]) (rest := []) rfl rfl (Nat.le_of_ble_eq_true rfl) dX9_throwAt_57 ⟨by show cells + 0 ≤ 0; omega, by show slots + 0 ≤ 0; omega⟩) (kx_out C hex (fun _ _ _ h => h) (by omega) (by omega)) (fun r11 S10 H locs P hE hw => ?_)
        have p_a0 : pI S10 9 a0 := pI_x hE p_a0
        refine lv_istore_n (lv' := [(2, .int r11), (0, .ref a0), (1, .int x1)]) hx hb dX9_throwAt_60 rfl hl (by decide) rfl (fun ls hl => ?_)
        refine lv_aload_n hx hb dX9_throwAt_61 rfl (lv_at hl 1 rfl) ?_
        obtain ⟨a12, e1, hw⟩ := hw
        have p_a12 : pI S10 12 a12 := wf_r P.2.2.2.1 p_a0 e1
        refine gf_9_1 C P p_a0 e1 q_1306 dX9_throwAt_62 ?_
        refine lv_iconst (v := 2) hx hb dX9_throwAt_65 (by decide) ?_
        refine lv_iload_n hx hb dX9_throwAt_66 rfl (lv_at hl 2 rfl) ?_
        refine lv_iadd hx hb dX9_throwAt_67 ?_
        obtain ⟨h1, hw⟩ := hw
        refine ra_i C P p_a12 h1 dX9_throwAt_68 ?_
        refine lv_iconst (v := 1) hx hb dX9_throwAt_69 (by decide) ?_
        refine lv_icmp_eq (tgt := 101) hx hb dX9_throwAt_70 (by decide) (fun hc => ?_) (fun hc => ?_)
        · have hw := hw.1 hc
          exact tX9_throwAt_101 C hr hex Q QX S10 a0 p_a0 P (lv_sub hl [1] rfl) (by omega) (by omega) hw
        · have hw := hw.2 hc
          refine lv_aload_n hx hb dX9_throwAt_73 rfl (lv_at hl 1 rfl) ?_
          refine lv_iload_n hx hb dX9_throwAt_74 rfl (lv_at hl 0 rfl) ?_
          refine lv_iload_n hx hb dX9_throwAt_75 rfl (lv_at hl 2 rfl) ?_
          refine cl_i C P (run_V C P hl.1 (kd := 9) (met_X9_apart (CF_n C) G H.size _ _ S10 a0 r11 x1 p_a0 hw) p_a0 (by decide) rfl q_1600 q_1602 q_p58 q_10 q_1603 cd_X9_apart ⟨(Nat.le_of_ble_eq_true rfl), (Nat.le_of_ble_eq_true rfl)⟩ rfl rfl (As := [.int r11, .int x1]) (rest := []) rfl rfl (Nat.le_of_ble_eq_true rfl) dX9_throwAt_76 ⟨by show cells + 0 ≤ 0; omega, by show slots + 0 ≤ 0; omega⟩) (kx_out C hex (fun _ _ _ h => h) (by omega) (by omega)) (fun r14 S13 H locs P hE hw => ?_)
          have p_a0 : pI S13 9 a0 := pI_x hE p_a0
          refine lv_iconst (v := 4) hx hb dX9_throwAt_79 (by decide) ?_
          refine lv_icmp_gt (tgt := 101) hx hb dX9_throwAt_80 (by decide) (fun hc => ?_) (fun hc => ?_)
          · have hw := hw.1 hc
            exact tX9_throwAt_101 C hr hex Q QX S13 a0 p_a0 P (lv_sub hl [1] rfl) (by omega) (by omega) hw
          · have hw := hw.2 hc
            refine lv_aload_n hx hb dX9_throwAt_83 rfl (lv_at hl 1 rfl) ?_
            refine lv_iload_n hx hb dX9_throwAt_84 rfl (lv_at hl 0 rfl) ?_
            refine lv_iload_n hx hb dX9_throwAt_85 rfl (lv_at hl 2 rfl) ?_
            refine cl_i C P (run_V C P hl.1 (kd := 9) (met_X9_sees (CF_n C) G H.size _ _ S13 a0 r11 x1 p_a0 hw) p_a0 (by decide) rfl q_1421 q_1423 q_p27 q_10 q_1424 cd_X9_sees ⟨(Nat.le_of_ble_eq_true rfl), (Nat.le_of_ble_eq_true rfl)⟩ rfl rfl (As := [.int r11, .int x1]) (rest := []) rfl rfl (Nat.le_of_ble_eq_true rfl) dX9_throwAt_86 ⟨by show cells + 0 ≤ 0; omega, by show slots + 0 ≤ 0; omega⟩) (kx_out C hex (fun _ _ _ h => h) (by omega) (by omega)) (fun r16 S15 H locs P hE hw => ?_)
            have p_a0 : pI S15 9 a0 := pI_x hE p_a0
            refine lv_if_eq (tgt := 101) hx hb dX9_throwAt_89 (by decide) (fun hc => ?_) (fun hc => ?_)
            · have hw := hw.1 hc
              exact tX9_throwAt_101 C hr hex Q QX S15 a0 p_a0 P (lv_sub hl [1] rfl) (by omega) (by omega) hw
            · have hw := hw.2 hc
              refine lv_aload_n hx hb dX9_throwAt_92 rfl (lv_at hl 1 rfl) ?_
              refine lv_iconst (v := 2) hx hb dX9_throwAt_93 (by decide) ?_
              refine lv_iload_n hx hb dX9_throwAt_94 rfl (lv_at hl 2 rfl) ?_
              refine cl_i C P (run_V C P hl.1 (kd := 9) (met_X9_carries (CF_n C) G H.size _ _ S15 a0 2 x1 p_a0 hw) p_a0 (by decide) rfl q_1630 q_1632 q_p62 q_10 q_1633 cd_X9_carries ⟨(Nat.le_of_ble_eq_true rfl), (Nat.le_of_ble_eq_true rfl)⟩ rfl rfl (As := [.int 2, .int x1]) (rest := []) rfl rfl (Nat.le_of_ble_eq_true rfl) dX9_throwAt_95 ⟨by show cells + 0 ≤ 0; omega, by show slots + 0 ≤ 0; omega⟩) (kx_out C hex (fun _ _ _ h => h) (by omega) (by omega)) (fun r18 S17 H locs P hE hw => ?_)
              have p_a0 : pI S17 9 a0 := pI_x hE p_a0
              refine lv_goto (tgt := 106) hx hb dX9_throwAt_98 (by decide) ?_
              exact e_i C hr rfl P hw (by omega) (by omega) dX9_throwAt_106
      · have hw := hw.2 hc
        exact tX9_throwAt_41 C hr hex Q QX S7 a0 p_a0 P (lv_sub hl [0] rfl) (by omega) (by omega) hw
  · have hw := hw.2 hc
    refine lv_iconst (v := 0) hx hb dX9_throwAt_12 (by decide) ?_
    exact e_i C hr rfl P hw (by omega) (by omega) dX9_throwAt_13
def wp_X9_throwAt (Q : Int32 → MS → Prop) (QX : String → MS → Prop) (S : MS) (a0 : Nat) (x1 : Int32) : Prop := wX9_throwAt_0 Q QX S a0 x1
set_option maxHeartbeats 4000000 in
set_option maxRecDepth 100000 in
theorem met_X9_throwAt {l : Launch} (hst : l.stackTraces = false) (G : GP) (sz : Nat) (Q : Int32 → MS → Prop) (QX : String → MS → Prop) (S : MS) (a0 : Nat) (x1 : Int32) (p_a0 : pI S 9 a0) (hw : wp_X9_throwAt Q QX S a0 x1) : vx_Met l yX9_throwAt (.code yX9_throwAt cX9_throwAt 3 (some .int) :: GW) rmX9_throwAt (va_Pc [.ref a0, .int x1] (PR G S sz)) (QI G S (FA G S sz) Q) (XX G S (FA G S sz) QX) 0 0 (FA G S sz) := by
  refine st_m (by decide +kernel) hst (fun p e s m below meth c C hr hnm hex P => ?_)
  refine en_m (Nat.le_of_ble_eq_true rfl) (lv := [(0, .ref a0), (1, .int x1)]) rfl (fun ls hl => ?_)
  have C : CF p l s m _ meth c "SkirmishGridModel" cX9_throwAt 3 G (FA G S sz) := C
  exact tX9_throwAt_0 C hr hex Q QX S a0 x1 p_a0 P hl (by omega) (by omega) hw
theorem cd_X9_throwAt : yX9_throwAt.cls = RX9 ∧ yX9_throwAt.cls ≠ "java/lang/invoke/MethodHandle" ∧ yX9_throwAt.cls ≠ "java/lang/invoke/VarHandle" ∧ (parseMethodDescriptor yX9_throwAt.desc).map (fun d => d.parameters.length) = some 1 := by decide +kernel
abbrev rmX9_may : Room := { frames := 4, cells := 0, slots := 0, locals := 88 }
def wX9_may_22 (Q : Int32 → MS → Prop) (QX : String → MS → Prop) (S : MS) (a0 : Nat) (z0 : Int32) (w1 : Nat) : Prop := (∀ S1, S1 = (sI S w1 0 z0) → ((¬ (mI S1 a0 0) = 0 → Q 0 S1) ∧ ((mI S1 a0 0) = 0 → Q 1 S1)))
set_option maxHeartbeats 4000000 in
set_option maxRecDepth 100000 in
theorem tX9_may_22 {p : Program} {l : Launch} {e : Env} {s : State} {m : MethodId} {args : Array Value} {below : List Frame} {meth : Method} {c : Code} {H : Heap} {locs : List Loc} {cells slots : Nat} {G : GP} {A : Nat → Prop} {S0 : MS} {ls : Array Slot} (C : CF p l s m args meth c "SkirmishGridModel" cX9_may 2 G A) (hr : meth.sig.returnType = (some .boolean)) (hex : ∀ x ∈ c.exceptionTable.toList, False) (Q : Int32 → MS → Prop) (QX : String → MS → Prop) (S : MS) (a0 : Nat) (z0 : Int32) (w1 : Nat) (p_a0 : pI S 9 a0) (p_w1 : pI S 9 w1) (P : PW G A s H locs S0 S) (hl : lv_has ls 2 [(0, .ref a0)]) (hcc : cells + 0 ≤ 0) (hss : slots + 0 ≤ 0) (hw : wX9_may_22 Q QX S a0 z0 w1) : W p l e rmX9_may s m args below meth c H locs cells slots (vx_MQ below (QI G S0 A Q) (XX G S0 A QX) args s 0 0 A) (F0 m 22 ls [.int z0, .ref w1]) := by
  have hx := CF_x C
  have hb := CF_b C
  unfold wX9_may_22 at hw
  refine pf_9_0 C P p_w1 q_1305 dX9_may_22 (fun H locs P => ?_)
  obtain ⟨S1, hS⟩ : ∃ z, z = (sI S w1 0 z0) := ⟨_, rfl⟩
  have P : PW G A s H locs S0 S1 := by rw [hS]; exact P
  have p_a0 : pI S1 9 a0 := by rw [hS]; exact pI_x ext_sI p_a0
  have p_w1 : pI S1 9 w1 := by rw [hS]; exact pI_x ext_sI p_w1
  have hw := hw S1 hS
  refine lv_aload_n hx hb dX9_may_25 rfl (lv_at hl 0 rfl) ?_
  refine gf_9_0 C P p_a0 q_1305 dX9_may_26 ?_
  refine lv_if_ne (tgt := 36) hx hb dX9_may_29 (by decide) (fun hc => ?_) (fun hc => ?_)
  · have hw := hw.1 hc
    refine lv_iconst (v := 0) hx hb dX9_may_36 (by decide) ?_
    exact e_i C hr (by decide +kernel) P hw (by omega) (by omega) dX9_may_37
  · have hw := hw.2 hc
    refine lv_iconst (v := 1) hx hb dX9_may_32 (by decide) ?_
    refine lv_goto (tgt := 37) hx hb dX9_may_33 (by decide) ?_
    exact e_i C hr (by decide +kernel) P hw (by omega) (by omega) dX9_may_37
def wX9_may_0 (Q : Int32 → MS → Prop) (QX : String → MS → Prop) (S : MS) (a0 : Nat) (x1 : Int32) : Prop := wp_X9_conditions (fun r2 S1 => ((r2 = 1 → ((¬ x1 = 0 → wX9_may_22 Q QX S1 a0 0 a0) ∧ (x1 = 0 → wX9_may_22 Q QX S1 a0 2 a0))) ∧ (¬ r2 = 1 → wX9_may_22 Q QX S1 a0 1 a0))) QX S a0
set_option maxHeartbeats 4000000 in
set_option maxRecDepth 100000 in
theorem tX9_may_0 {p : Program} {l : Launch} {e : Env} {s : State} {m : MethodId} {args : Array Value} {below : List Frame} {meth : Method} {c : Code} {H : Heap} {locs : List Loc} {cells slots : Nat} {G : GP} {A : Nat → Prop} {S0 : MS} {ls : Array Slot} (C : CF p l s m args meth c "SkirmishGridModel" cX9_may 2 G A) (hr : meth.sig.returnType = (some .boolean)) (hex : ∀ x ∈ c.exceptionTable.toList, False) (Q : Int32 → MS → Prop) (QX : String → MS → Prop) (S : MS) (a0 : Nat) (x1 : Int32) (p_a0 : pI S 9 a0) (P : PW G A s H locs S0 S) (hl : lv_has ls 2 [(0, .ref a0), (1, .int x1)]) (hcc : cells + 0 ≤ 0) (hss : slots + 0 ≤ 0) (hw : wX9_may_0 Q QX S a0 x1) : W p l e rmX9_may s m args below meth c H locs cells slots (vx_MQ below (QI G S0 A Q) (XX G S0 A QX) args s 0 0 A) (F0 m 0 ls []) := by
  have hx := CF_x C
  have hb := CF_b C
  unfold wX9_may_0 at hw
  refine lv_aload_n hx hb dX9_may_0 rfl (lv_at hl 0 rfl) ?_
  refine lv_aload_n hx hb dX9_may_1 rfl (lv_at hl 0 rfl) ?_
  refine cl_i C P (run_V C P hl.1 (kd := 9) (met_X9_conditions (CF_n C) G H.size _ _ S a0 p_a0 hw) p_a0 (by decide) rfl q_1488 q_1490 q_p38 q_10 q_1491 cd_X9_conditions ⟨(Nat.le_of_ble_eq_true rfl), (Nat.le_of_ble_eq_true rfl)⟩ rfl rfl (As := []) (rest := [.ref a0]) rfl rfl (Nat.le_of_ble_eq_true rfl) dX9_may_2 ⟨by show cells + 0 ≤ 0; omega, by show slots + 0 ≤ 0; omega⟩) (kx_out C hex (fun _ _ _ h => h) (by omega) (by omega)) (fun r2 S1 H locs P hE hw => ?_)
  have p_a0 : pI S1 9 a0 := pI_x hE p_a0
  refine lv_iconst (v := 1) hx hb dX9_may_5 (by decide) ?_
  refine lv_icmp_eq (tgt := 13) hx hb dX9_may_6 (by decide) (fun hc => ?_) (fun hc => ?_)
  · have hw := hw.1 hc
    refine lv_iload_n hx hb dX9_may_13 rfl (lv_at hl 1 rfl) ?_
    refine lv_if_ne (tgt := 21) hx hb dX9_may_14 (by decide) (fun hc => ?_) (fun hc => ?_)
    · have hw := hw.1 hc
      refine lv_iconst (v := 0) hx hb dX9_may_21 (by decide) ?_
      exact tX9_may_22 C hr hex Q QX S1 a0 0 a0 p_a0 p_a0 P (lv_sub hl [0] rfl) (by omega) (by omega) hw
    · have hw := hw.2 hc
      refine lv_iconst (v := 2) hx hb dX9_may_17 (by decide) ?_
      refine lv_goto (tgt := 22) hx hb dX9_may_18 (by decide) ?_
      exact tX9_may_22 C hr hex Q QX S1 a0 2 a0 p_a0 p_a0 P (lv_sub hl [0] rfl) (by omega) (by omega) hw
  · have hw := hw.2 hc
    refine lv_iconst (v := 1) hx hb dX9_may_9 (by decide) ?_
    refine lv_goto (tgt := 22) hx hb dX9_may_10 (by decide) ?_
    exact tX9_may_22 C hr hex Q QX S1 a0 1 a0 p_a0 p_a0 P (lv_sub hl [0] rfl) (by omega) (by omega) hw
def wp_X9_may (Q : Int32 → MS → Prop) (QX : String → MS → Prop) (S : MS) (a0 : Nat) (x1 : Int32) : Prop := wX9_may_0 Q QX S a0 x1
set_option maxHeartbeats 4000000 in
set_option maxRecDepth 100000 in
theorem met_X9_may {l : Launch} (hst : l.stackTraces = false) (G : GP) (sz : Nat) (Q : Int32 → MS → Prop) (QX : String → MS → Prop) (S : MS) (a0 : Nat) (x1 : Int32) (p_a0 : pI S 9 a0) (hw : wp_X9_may Q QX S a0 x1) : vx_Met l yX9_may (.code yX9_may cX9_may 2 (some .boolean) :: GW) rmX9_may (va_Pc [.ref a0, .int x1] (PR G S sz)) (QI G S (FA G S sz) Q) (XX G S (FA G S sz) QX) 0 0 (FA G S sz) := by
  refine st_m (by decide +kernel) hst (fun p e s m below meth c C hr hnm hex P => ?_)
  refine en_m (Nat.le_of_ble_eq_true rfl) (lv := [(0, .ref a0), (1, .int x1)]) rfl (fun ls hl => ?_)
  have C : CF p l s m _ meth c "SkirmishGridModel" cX9_may 2 G (FA G S sz) := C
  exact tX9_may_0 C hr hex Q QX S a0 x1 p_a0 P hl (by omega) (by omega) hw
theorem cd_X9_may : yX9_may.cls = RX9 ∧ yX9_may.cls ≠ "java/lang/invoke/MethodHandle" ∧ yX9_may.cls ≠ "java/lang/invoke/VarHandle" ∧ (parseMethodDescriptor yX9_may.desc).map (fun d => d.parameters.length) = some 1 := by decide +kernel
abbrev rmX9_guard : Room := { frames := 8, cells := 0, slots := 0, locals := 197 }
def wX9_guard_49 (Q : Int32 → MS → Prop) (QX : String → MS → Prop) (S : MS) (a0 : Nat) (z0 : Int32) (w1 : Nat) : Prop := wp_X9_may (fun r2 S1 => ((r2 = 0 → Q 0 S1) ∧ (¬ r2 = 0 → wp_X9_carries (fun r4 S3 => Q r4 S3) QX S1 a0 3 0))) QX S w1 z0
set_option maxHeartbeats 4000000 in
set_option maxRecDepth 100000 in
theorem tX9_guard_49 {p : Program} {l : Launch} {e : Env} {s : State} {m : MethodId} {args : Array Value} {below : List Frame} {meth : Method} {c : Code} {H : Heap} {locs : List Loc} {cells slots : Nat} {G : GP} {A : Nat → Prop} {S0 : MS} {ls : Array Slot} (C : CF p l s m args meth c "SkirmishGridModel" cX9_guard 1 G A) (hr : meth.sig.returnType = (some .int)) (hex : ∀ x ∈ c.exceptionTable.toList, False) (Q : Int32 → MS → Prop) (QX : String → MS → Prop) (S : MS) (a0 : Nat) (z0 : Int32) (w1 : Nat) (p_a0 : pI S 9 a0) (p_w1 : pI S 9 w1) (P : PW G A s H locs S0 S) (hl : lv_has ls 1 [(0, .ref a0)]) (hcc : cells + 0 ≤ 0) (hss : slots + 0 ≤ 0) (hw : wX9_guard_49 Q QX S a0 z0 w1) : W p l e rmX9_guard s m args below meth c H locs cells slots (vx_MQ below (QI G S0 A Q) (XX G S0 A QX) args s 0 0 A) (F0 m 49 ls [.int z0, .ref w1]) := by
  have hx := CF_x C
  have hb := CF_b C
  unfold wX9_guard_49 at hw
  refine cl_i C P (run_V C P hl.1 (kd := 9) (met_X9_may (CF_n C) G H.size _ _ S w1 z0 p_w1 hw) p_w1 (by decide) rfl q_1682 q_1684 q_p72 q_10 q_1685 cd_X9_may ⟨(Nat.le_of_ble_eq_true rfl), (Nat.le_of_ble_eq_true rfl)⟩ rfl rfl (As := [.int z0]) (rest := []) rfl rfl (Nat.le_of_ble_eq_true rfl) dX9_guard_49 ⟨by show cells + 0 ≤ 0; omega, by show slots + 0 ≤ 0; omega⟩) (kx_out C hex (fun _ _ _ h => h) (by omega) (by omega)) (fun r2 S1 H locs P hE hw => ?_)
  have p_a0 : pI S1 9 a0 := pI_x hE p_a0
  have p_w1 : pI S1 9 w1 := pI_x hE p_w1
  refine lv_if_eq (tgt := 64) hx hb dX9_guard_52 (by decide) (fun hc => ?_) (fun hc => ?_)
  · have hw := hw.1 hc
    refine lv_iconst (v := 0) hx hb dX9_guard_64 (by decide) ?_
    exact e_i C hr rfl P hw (by omega) (by omega) dX9_guard_65
  · have hw := hw.2 hc
    refine lv_aload_n hx hb dX9_guard_55 rfl (lv_at hl 0 rfl) ?_
    refine lv_iconst (v := 3) hx hb dX9_guard_56 (by decide) ?_
    refine lv_iconst (v := 0) hx hb dX9_guard_57 (by decide) ?_
    refine cl_i C P (run_V C P hl.1 (kd := 9) (met_X9_carries (CF_n C) G H.size _ _ S1 a0 3 0 p_a0 hw) p_a0 (by decide) rfl q_1630 q_1632 q_p62 q_10 q_1633 cd_X9_carries ⟨(Nat.le_of_ble_eq_true rfl), (Nat.le_of_ble_eq_true rfl)⟩ rfl rfl (As := [.int 3, .int 0]) (rest := []) rfl rfl (Nat.le_of_ble_eq_true rfl) dX9_guard_58 ⟨by show cells + 0 ≤ 0; omega, by show slots + 0 ≤ 0; omega⟩) (kx_out C hex (fun _ _ _ h => h) (by omega) (by omega)) (fun r4 S3 H locs P hE hw => ?_)
    have p_a0 : pI S3 9 a0 := pI_x hE p_a0
    refine lv_goto (tgt := 65) hx hb dX9_guard_61 (by decide) ?_
    exact e_i C hr rfl P hw (by omega) (by omega) dX9_guard_65
def wX9_guard_48 (Q : Int32 → MS → Prop) (QX : String → MS → Prop) (S : MS) (a0 : Nat) (w0 : Nat) : Prop := wX9_guard_49 Q QX S a0 0 w0
set_option maxHeartbeats 4000000 in
set_option maxRecDepth 100000 in
theorem tX9_guard_48 {p : Program} {l : Launch} {e : Env} {s : State} {m : MethodId} {args : Array Value} {below : List Frame} {meth : Method} {c : Code} {H : Heap} {locs : List Loc} {cells slots : Nat} {G : GP} {A : Nat → Prop} {S0 : MS} {ls : Array Slot} (C : CF p l s m args meth c "SkirmishGridModel" cX9_guard 1 G A) (hr : meth.sig.returnType = (some .int)) (hex : ∀ x ∈ c.exceptionTable.toList, False) (Q : Int32 → MS → Prop) (QX : String → MS → Prop) (S : MS) (a0 : Nat) (w0 : Nat) (p_a0 : pI S 9 a0) (p_w0 : pI S 9 w0) (P : PW G A s H locs S0 S) (hl : lv_has ls 1 [(0, .ref a0)]) (hcc : cells + 0 ≤ 0) (hss : slots + 0 ≤ 0) (hw : wX9_guard_48 Q QX S a0 w0) : W p l e rmX9_guard s m args below meth c H locs cells slots (vx_MQ below (QI G S0 A Q) (XX G S0 A QX) args s 0 0 A) (F0 m 48 ls [.ref w0]) := by
  have hx := CF_x C
  have hb := CF_b C
  unfold wX9_guard_48 at hw
  refine lv_iconst (v := 0) hx hb dX9_guard_48 (by decide) ?_
  exact tX9_guard_49 C hr hex Q QX S a0 0 w0 p_a0 p_w0 P (lv_sub hl [0] rfl) (by omega) (by omega) hw
def wX9_guard_36 (Q : Int32 → MS → Prop) (QX : String → MS → Prop) (S : MS) (a0 : Nat) (z0 : Int32) (w1 : Nat) (w2 : Nat) : Prop := wp_X9_of (fun r2 S1 => ((¬ r2 = 0 → wX9_guard_48 Q QX S1 a0 w2) ∧ (r2 = 0 → wX9_guard_49 Q QX S1 a0 1 w2))) QX S w1 z0 9
set_option maxHeartbeats 4000000 in
set_option maxRecDepth 100000 in
theorem tX9_guard_36 {p : Program} {l : Launch} {e : Env} {s : State} {m : MethodId} {args : Array Value} {below : List Frame} {meth : Method} {c : Code} {H : Heap} {locs : List Loc} {cells slots : Nat} {G : GP} {A : Nat → Prop} {S0 : MS} {ls : Array Slot} (C : CF p l s m args meth c "SkirmishGridModel" cX9_guard 1 G A) (hr : meth.sig.returnType = (some .int)) (hex : ∀ x ∈ c.exceptionTable.toList, False) (Q : Int32 → MS → Prop) (QX : String → MS → Prop) (S : MS) (a0 : Nat) (z0 : Int32) (w1 : Nat) (w2 : Nat) (p_a0 : pI S 9 a0) (p_w1 : pI S 9 w1) (p_w2 : pI S 9 w2) (P : PW G A s H locs S0 S) (hl : lv_has ls 1 [(0, .ref a0)]) (hcc : cells + 0 ≤ 0) (hss : slots + 0 ≤ 0) (hw : wX9_guard_36 Q QX S a0 z0 w1 w2) : W p l e rmX9_guard s m args below meth c H locs cells slots (vx_MQ below (QI G S0 A Q) (XX G S0 A QX) args s 0 0 A) (F0 m 36 ls [.int z0, .ref w1, .ref w2]) := by
  have hx := CF_x C
  have hb := CF_b C
  unfold wX9_guard_36 at hw
  refine lv_bipush (v := 9) hx hb dX9_guard_36 (by decide) ?_
  refine cl_i C P (run_V C P hl.1 (kd := 9) (met_X9_of (CF_n C) G H.size _ _ S w1 z0 9 p_w1 hw) p_w1 (by decide) rfl q_1457 q_1459 q_p34 q_10 q_1460 cd_X9_of ⟨(Nat.le_of_ble_eq_true rfl), (Nat.le_of_ble_eq_true rfl)⟩ rfl rfl (As := [.int z0, .int 9]) (rest := [.ref w2]) rfl rfl (Nat.le_of_ble_eq_true rfl) dX9_guard_38 ⟨by show cells + 0 ≤ 0; omega, by show slots + 0 ≤ 0; omega⟩) (kx_out C hex (fun _ _ _ h => h) (by omega) (by omega)) (fun r2 S1 H locs P hE hw => ?_)
  have p_a0 : pI S1 9 a0 := pI_x hE p_a0
  have p_w1 : pI S1 9 w1 := pI_x hE p_w1
  have p_w2 : pI S1 9 w2 := pI_x hE p_w2
  refine lv_if_ne (tgt := 48) hx hb dX9_guard_41 (by decide) (fun hc => ?_) (fun hc => ?_)
  · have hw := hw.1 hc
    exact tX9_guard_48 C hr hex Q QX S1 a0 w2 p_a0 p_w2 P (lv_sub hl [0] rfl) (by omega) (by omega) hw
  · have hw := hw.2 hc
    refine lv_iconst (v := 1) hx hb dX9_guard_44 (by decide) ?_
    refine lv_goto (tgt := 49) hx hb dX9_guard_45 (by decide) ?_
    exact tX9_guard_49 C hr hex Q QX S1 a0 1 w2 p_a0 p_w2 P (lv_sub hl [0] rfl) (by omega) (by omega) hw
def wX9_guard_0 (Q : Int32 → MS → Prop) (QX : String → MS → Prop) (S : MS) (a0 : Nat) : Prop := (∃ a1, mR S a0 1 = some a1 ∧ (vp_in 167 (mN S a1) ∧ (((mI S a1 (167 : Int32).toNatClampNeg) ≤ 0 → wX9_guard_48 Q QX S a0 a0) ∧ (¬ (mI S a1 (167 : Int32).toNatClampNeg) ≤ 0 → (∃ a2, mR S a0 1 = some a2 ∧ (vp_in 166 (mN S a2) ∧ ((0 ≤ (mI S a2 (166 : Int32).toNatClampNeg) → (∃ a3, mR S a0 1 = some a3 ∧ (vp_in 166 (mN S a3) ∧ wX9_guard_36 Q QX S a0 (mI S a3 (166 : Int32).toNatClampNeg) a0 a0))) ∧ (¬ 0 ≤ (mI S a2 (166 : Int32).toNatClampNeg) → wX9_guard_36 Q QX S a0 0 a0 a0))))))))
set_option maxHeartbeats 4000000 in
set_option maxRecDepth 100000 in
theorem tX9_guard_0 {p : Program} {l : Launch} {e : Env} {s : State} {m : MethodId} {args : Array Value} {below : List Frame} {meth : Method} {c : Code} {H : Heap} {locs : List Loc} {cells slots : Nat} {G : GP} {A : Nat → Prop} {S0 : MS} {ls : Array Slot} (C : CF p l s m args meth c "SkirmishGridModel" cX9_guard 1 G A) (hr : meth.sig.returnType = (some .int)) (hex : ∀ x ∈ c.exceptionTable.toList, False) (Q : Int32 → MS → Prop) (QX : String → MS → Prop) (S : MS) (a0 : Nat) (p_a0 : pI S 9 a0) (P : PW G A s H locs S0 S) (hl : lv_has ls 1 [(0, .ref a0)]) (hcc : cells + 0 ≤ 0) (hss : slots + 0 ≤ 0) (hw : wX9_guard_0 Q QX S a0) : W p l e rmX9_guard s m args below meth c H locs cells slots (vx_MQ below (QI G S0 A Q) (XX G S0 A QX) args s 0 0 A) (F0 m 0 ls []) := by
  have hx := CF_x C
  have hb := CF_b C
  unfold wX9_guard_0 at hw
  refine lv_aload_n hx hb dX9_guard_0 rfl (lv_at hl 0 rfl) ?_
  refine lv_aload_n hx hb dX9_guard_1 rfl (lv_at hl 0 rfl) ?_
  obtain ⟨a1, e1, hw⟩ := hw
  have p_a1 : pI S 12 a1 := wf_r P.2.2.2.1 p_a0 e1
  refine gf_9_1 C P p_a0 e1 q_1306 dX9_guard_2 ?_
  refine lv_sipush (v := 167) hx hb dX9_guard_5 (by decide) ?_
  obtain ⟨h1, hw⟩ := hw
  refine ra_i C P p_a1 h1 dX9_guard_8 ?_
  refine lv_if_le (tgt := 48) hx hb dX9_guard_9 (by decide) (fun hc => ?_) (fun hc => ?_)
  · have hw := hw.1 hc
    exact tX9_guard_48 C hr hex Q QX S a0 a0 p_a0 p_a0 P (lv_sub hl [0] rfl) (by omega) (by omega) hw
  · have hw := hw.2 hc
    refine lv_aload_n hx hb dX9_guard_12 rfl (lv_at hl 0 rfl) ?_
    refine lv_aload_n hx hb dX9_guard_13 rfl (lv_at hl 0 rfl) ?_
    obtain ⟨a2, e1, hw⟩ := hw
    have p_a2 : pI S 12 a2 := wf_r P.2.2.2.1 p_a0 e1
    refine gf_9_1 C P p_a0 e1 q_1306 dX9_guard_14 ?_
    refine lv_sipush (v := 166) hx hb dX9_guard_17 (by decide) ?_
    obtain ⟨h1, hw⟩ := hw
    refine ra_i C P p_a2 h1 dX9_guard_20 ?_
    refine lv_if_ge (tgt := 28) hx hb dX9_guard_21 (by decide) (fun hc => ?_) (fun hc => ?_)
    · have hw := hw.1 hc
      refine lv_aload_n hx hb dX9_guard_28 rfl (lv_at hl 0 rfl) ?_
      obtain ⟨a3, e1, hw⟩ := hw
      have p_a3 : pI S 12 a3 := wf_r P.2.2.2.1 p_a0 e1
      refine gf_9_1 C P p_a0 e1 q_1306 dX9_guard_29 ?_
      refine lv_sipush (v := 166) hx hb dX9_guard_32 (by decide) ?_
      obtain ⟨h1, hw⟩ := hw
      refine ra_i C P p_a3 h1 dX9_guard_35 ?_
      exact tX9_guard_36 C hr hex Q QX S a0 (mI S a3 (166 : Int32).toNatClampNeg) a0 a0 p_a0 p_a0 p_a0 P (lv_sub hl [0] rfl) (by omega) (by omega) hw
    · have hw := hw.2 hc
      refine lv_iconst (v := 0) hx hb dX9_guard_24 (by decide) ?_
      refine lv_goto (tgt := 36) hx hb dX9_guard_25 (by decide) ?_
      exact tX9_guard_36 C hr hex Q QX S a0 0 a0 a0 p_a0 p_a0 p_a0 P (lv_sub hl [0] rfl) (by omega) (by omega) hw
def wp_X9_guard (Q : Int32 → MS → Prop) (QX : String → MS → Prop) (S : MS) (a0 : Nat) : Prop := wX9_guard_0 Q QX S a0
set_option maxHeartbeats 4000000 in
set_option maxRecDepth 100000 in
theorem met_X9_guard {l : Launch} (hst : l.stackTraces = false) (G : GP) (sz : Nat) (Q : Int32 → MS → Prop) (QX : String → MS → Prop) (S : MS) (a0 : Nat) (p_a0 : pI S 9 a0) (hw : wp_X9_guard Q QX S a0) : vx_Met l yX9_guard (.code yX9_guard cX9_guard 1 (some .int) :: GW) rmX9_guard (va_Pc [.ref a0] (PR G S sz)) (QI G S (FA G S sz) Q) (XX G S (FA G S sz) QX) 0 0 (FA G S sz) := by
  refine st_m (by decide +kernel) hst (fun p e s m below meth c C hr hnm hex P => ?_)
  refine en_m (Nat.le_of_ble_eq_true rfl) (lv := [(0, .ref a0)]) rfl (fun ls hl => ?_)
  have C : CF p l s m _ meth c "SkirmishGridModel" cX9_guard 1 G (FA G S sz) := C
  exact tX9_guard_0 C hr hex Q QX S a0 p_a0 P hl (by omega) (by omega) hw
theorem cd_X9_guard : yX9_guard.cls = RX9 ∧ yX9_guard.cls ≠ "java/lang/invoke/MethodHandle" ∧ yX9_guard.cls ≠ "java/lang/invoke/VarHandle" ∧ (parseMethodDescriptor yX9_guard.desc).map (fun d => d.parameters.length) = some 0 := by decide +kernel
abbrev rmX9_watch : Room := { frames := 8, cells := 0, slots := 0, locals := 197 }
def wX9_watch_48 (Q : Int32 → MS → Prop) (QX : String → MS → Prop) (S : MS) (a0 : Nat) (z0 : Int32) (w1 : Nat) : Prop := wp_X9_may (fun r2 S1 => ((r2 = 0 → Q 0 S1) ∧ (¬ r2 = 0 → wp_X9_carries (fun r4 S3 => Q r4 S3) QX S1 a0 4 0))) QX S w1 z0
set_option maxHeartbeats 4000000 in
set_option maxRecDepth 100000 in
theorem tX9_watch_48 {p : Program} {l : Launch} {e : Env} {s : State} {m : MethodId} {args : Array Value} {below : List Frame} {meth : Method} {c : Code} {H : Heap} {locs : List Loc} {cells slots : Nat} {G : GP} {A : Nat → Prop} {S0 : MS} {ls : Array Slot} (C : CF p l s m args meth c "SkirmishGridModel" cX9_watch 1 G A) (hr : meth.sig.returnType = (some .int)) (hex : ∀ x ∈ c.exceptionTable.toList, False) (Q : Int32 → MS → Prop) (QX : String → MS → Prop) (S : MS) (a0 : Nat) (z0 : Int32) (w1 : Nat) (p_a0 : pI S 9 a0) (p_w1 : pI S 9 w1) (P : PW G A s H locs S0 S) (hl : lv_has ls 1 [(0, .ref a0)]) (hcc : cells + 0 ≤ 0) (hss : slots + 0 ≤ 0) (hw : wX9_watch_48 Q QX S a0 z0 w1) : W p l e rmX9_watch s m args below meth c H locs cells slots (vx_MQ below (QI G S0 A Q) (XX G S0 A QX) args s 0 0 A) (F0 m 48 ls [.int z0, .ref w1]) := by
  have hx := CF_x C
  have hb := CF_b C
  unfold wX9_watch_48 at hw
  refine cl_i C P (run_V C P hl.1 (kd := 9) (met_X9_may (CF_n C) G H.size _ _ S w1 z0 p_w1 hw) p_w1 (by decide) rfl q_1682 q_1684 q_p72 q_10 q_1685 cd_X9_may ⟨(Nat.le_of_ble_eq_true rfl), (Nat.le_of_ble_eq_true rfl)⟩ rfl rfl (As := [.int z0]) (rest := []) rfl rfl (Nat.le_of_ble_eq_true rfl) dX9_watch_48 ⟨by show cells + 0 ≤ 0; omega, by show slots + 0 ≤ 0; omega⟩) (kx_out C hex (fun _ _ _ h => h) (by omega) (by omega)) (fun r2 S1 H locs P hE hw => ?_)
  have p_a0 : pI S1 9 a0 := pI_x hE p_a0
  have p_w1 : pI S1 9 w1 := pI_x hE p_w1
  refine lv_if_eq (tgt := 63) hx hb dX9_watch_51 (by decide) (fun hc => ?_) (fun hc => ?_)
  · have hw := hw.1 hc
    refine lv_iconst (v := 0) hx hb dX9_watch_63 (by decide) ?_
    exact e_i C hr rfl P hw (by omega) (by omega) dX9_watch_64
  · have hw := hw.2 hc
    refine lv_aload_n hx hb dX9_watch_54 rfl (lv_at hl 0 rfl) ?_
    refine lv_iconst (v := 4) hx hb dX9_watch_55 (by decide) ?_
    refine lv_iconst (v := 0) hx hb dX9_watch_56 (by decide) ?_
    refine cl_i C P (run_V C P hl.1 (kd := 9) (met_X9_carries (CF_n C) G H.size _ _ S1 a0 4 0 p_a0 hw) p_a0 (by decide) rfl q_1630 q_1632 q_p62 q_10 q_1633 cd_X9_carries ⟨(Nat.le_of_ble_eq_true rfl), (Nat.le_of_ble_eq_true rfl)⟩ rfl rfl (As := [.int 4, .int 0]) (rest := []) rfl rfl (Nat.le_of_ble_eq_true rfl) dX9_watch_57 ⟨by show cells + 0 ≤ 0; omega, by show slots + 0 ≤ 0; omega⟩) (kx_out C hex (fun _ _ _ h => h) (by omega) (by omega)) (fun r4 S3 H locs P hE hw => ?_)
    have p_a0 : pI S3 9 a0 := pI_x hE p_a0
    refine lv_goto (tgt := 64) hx hb dX9_watch_60 (by decide) ?_
    exact e_i C hr rfl P hw (by omega) (by omega) dX9_watch_64
def wX9_watch_47 (Q : Int32 → MS → Prop) (QX : String → MS → Prop) (S : MS) (a0 : Nat) (w0 : Nat) : Prop := wX9_watch_48 Q QX S a0 0 w0
set_option maxHeartbeats 4000000 in
set_option maxRecDepth 100000 in
theorem tX9_watch_47 {p : Program} {l : Launch} {e : Env} {s : State} {m : MethodId} {args : Array Value} {below : List Frame} {meth : Method} {c : Code} {H : Heap} {locs : List Loc} {cells slots : Nat} {G : GP} {A : Nat → Prop} {S0 : MS} {ls : Array Slot} (C : CF p l s m args meth c "SkirmishGridModel" cX9_watch 1 G A) (hr : meth.sig.returnType = (some .int)) (hex : ∀ x ∈ c.exceptionTable.toList, False) (Q : Int32 → MS → Prop) (QX : String → MS → Prop) (S : MS) (a0 : Nat) (w0 : Nat) (p_a0 : pI S 9 a0) (p_w0 : pI S 9 w0) (P : PW G A s H locs S0 S) (hl : lv_has ls 1 [(0, .ref a0)]) (hcc : cells + 0 ≤ 0) (hss : slots + 0 ≤ 0) (hw : wX9_watch_47 Q QX S a0 w0) : W p l e rmX9_watch s m args below meth c H locs cells slots (vx_MQ below (QI G S0 A Q) (XX G S0 A QX) args s 0 0 A) (F0 m 47 ls [.ref w0]) := by
  have hx := CF_x C
  have hb := CF_b C
  unfold wX9_watch_47 at hw
  refine lv_iconst (v := 0) hx hb dX9_watch_47 (by decide) ?_
  exact tX9_watch_48 C hr hex Q QX S a0 0 w0 p_a0 p_w0 P (lv_sub hl [0] rfl) (by omega) (by omega) hw
def wX9_watch_36 (Q : Int32 → MS → Prop) (QX : String → MS → Prop) (S : MS) (a0 : Nat) (z0 : Int32) (w1 : Nat) (w2 : Nat) : Prop := wp_X9_of (fun r2 S1 => ((r2 ≤ 0 → wX9_watch_47 Q QX S1 a0 w2) ∧ (¬ r2 ≤ 0 → wX9_watch_48 Q QX S1 a0 1 w2))) QX S w1 z0 4
set_option maxHeartbeats 4000000 in
set_option maxRecDepth 100000 in
theorem tX9_watch_36 {p : Program} {l : Launch} {e : Env} {s : State} {m : MethodId} {args : Array Value} {below : List Frame} {meth : Method} {c : Code} {H : Heap} {locs : List Loc} {cells slots : Nat} {G : GP} {A : Nat → Prop} {S0 : MS} {ls : Array Slot} (C : CF p l s m args meth c "SkirmishGridModel" cX9_watch 1 G A) (hr : meth.sig.returnType = (some .int)) (hex : ∀ x ∈ c.exceptionTable.toList, False) (Q : Int32 → MS → Prop) (QX : String → MS → Prop) (S : MS) (a0 : Nat) (z0 : Int32) (w1 : Nat) (w2 : Nat) (p_a0 : pI S 9 a0) (p_w1 : pI S 9 w1) (p_w2 : pI S 9 w2) (P : PW G A s H locs S0 S) (hl : lv_has ls 1 [(0, .ref a0)]) (hcc : cells + 0 ≤ 0) (hss : slots + 0 ≤ 0) (hw : wX9_watch_36 Q QX S a0 z0 w1 w2) : W p l e rmX9_watch s m args below meth c H locs cells slots (vx_MQ below (QI G S0 A Q) (XX G S0 A QX) args s 0 0 A) (F0 m 36 ls [.int z0, .ref w1, .ref w2]) := by
  have hx := CF_x C
  have hb := CF_b C
  unfold wX9_watch_36 at hw
  refine lv_iconst (v := 4) hx hb dX9_watch_36 (by decide) ?_
  refine cl_i C P (run_V C P hl.1 (kd := 9) (met_X9_of (CF_n C) G H.size _ _ S w1 z0 4 p_w1 hw) p_w1 (by decide) rfl q_1457 q_1459 q_p34 q_10 q_1460 cd_X9_of ⟨(Nat.le_of_ble_eq_true rfl), (Nat.le_of_ble_eq_true rfl)⟩ rfl rfl (As := [.int z0, .int 4]) (rest := [.ref w2]) rfl rfl (Nat.le_of_ble_eq_true rfl) dX9_watch_37 ⟨by show cells + 0 ≤ 0; omega, by show slots + 0 ≤ 0; omega⟩) (kx_out C hex (fun _ _ _ h => h) (by omega) (by omega)) (fun r2 S1 H locs P hE hw => ?_)
  have p_a0 : pI S1 9 a0 := pI_x hE p_a0
  have p_w1 : pI S1 9 w1 := pI_x hE p_w1
  have p_w2 : pI S1 9 w2 := pI_x hE p_w2
  refine lv_if_le (tgt := 47) hx hb dX9_watch_40 (by decide) (fun hc => ?_) (fun hc => ?_)
  · have hw := hw.1 hc
    exact tX9_watch_47 C hr hex Q QX S1 a0 w2 p_a0 p_w2 P (lv_sub hl [0] rfl) (by omega) (by omega) hw
  · have hw := hw.2 hc
    refine lv_iconst (v := 1) hx hb dX9_watch_43 (by decide) ?_
    refine lv_goto (tgt := 48) hx hb dX9_watch_44 (by decide) ?_
    exact tX9_watch_48 C hr hex Q QX S1 a0 1 w2 p_a0 p_w2 P (lv_sub hl [0] rfl) (by omega) (by omega) hw
def wX9_watch_0 (Q : Int32 → MS → Prop) (QX : String → MS → Prop) (S : MS) (a0 : Nat) : Prop := (∃ a1, mR S a0 1 = some a1 ∧ (vp_in 167 (mN S a1) ∧ (((mI S a1 (167 : Int32).toNatClampNeg) ≤ 0 → wX9_watch_47 Q QX S a0 a0) ∧ (¬ (mI S a1 (167 : Int32).toNatClampNeg) ≤ 0 → (∃ a2, mR S a0 1 = some a2 ∧ (vp_in 166 (mN S a2) ∧ ((0 ≤ (mI S a2 (166 : Int32).toNatClampNeg) → (∃ a3, mR S a0 1 = some a3 ∧ (vp_in 166 (mN S a3) ∧ wX9_watch_36 Q QX S a0 (mI S a3 (166 : Int32).toNatClampNeg) a0 a0))) ∧ (¬ 0 ≤ (mI S a2 (166 : Int32).toNatClampNeg) → wX9_watch_36 Q QX S a0 0 a0 a0))))))))
set_option maxHeartbeats 4000000 in
set_option maxRecDepth 100000 in
theorem tX9_watch_0 {p : Program} {l : Launch} {e : Env} {s : State} {m : MethodId} {args : Array Value} {below : List Frame} {meth : Method} {c : Code} {H : Heap} {locs : List Loc} {cells slots : Nat} {G : GP} {A : Nat → Prop} {S0 : MS} {ls : Array Slot} (C : CF p l s m args meth c "SkirmishGridModel" cX9_watch 1 G A) (hr : meth.sig.returnType = (some .int)) (hex : ∀ x ∈ c.exceptionTable.toList, False) (Q : Int32 → MS → Prop) (QX : String → MS → Prop) (S : MS) (a0 : Nat) (p_a0 : pI S 9 a0) (P : PW G A s H locs S0 S) (hl : lv_has ls 1 [(0, .ref a0)]) (hcc : cells + 0 ≤ 0) (hss : slots + 0 ≤ 0) (hw : wX9_watch_0 Q QX S a0) : W p l e rmX9_watch s m args below meth c H locs cells slots (vx_MQ below (QI G S0 A Q) (XX G S0 A QX) args s 0 0 A) (F0 m 0 ls []) := by
  have hx := CF_x C
  have hb := CF_b C
  unfold wX9_watch_0 at hw
  refine lv_aload_n hx hb dX9_watch_0 rfl (lv_at hl 0 rfl) ?_
  refine lv_aload_n hx hb dX9_watch_1 rfl (lv_at hl 0 rfl) ?_
  obtain ⟨a1, e1, hw⟩ := hw
  have p_a1 : pI S 12 a1 := wf_r P.2.2.2.1 p_a0 e1
  refine gf_9_1 C P p_a0 e1 q_1306 dX9_watch_2 ?_
  refine lv_sipush (v := 167) hx hb dX9_watch_5 (by decide) ?_
  obtain ⟨h1, hw⟩ := hw
  refine ra_i C P p_a1 h1 dX9_watch_8 ?_
  refine lv_if_le (tgt := 47) hx hb dX9_watch_9 (by decide) (fun hc => ?_) (fun hc => ?_)
  · have hw := hw.1 hc
    exact tX9_watch_47 C hr hex Q QX S a0 a0 p_a0 p_a0 P (lv_sub hl [0] rfl) (by omega) (by omega) hw
  · have hw := hw.2 hc
    refine lv_aload_n hx hb dX9_watch_12 rfl (lv_at hl 0 rfl) ?_
    refine lv_aload_n hx hb dX9_watch_13 rfl (lv_at hl 0 rfl) ?_
    obtain ⟨a2, e1, hw⟩ := hw
    have p_a2 : pI S 12 a2 := wf_r P.2.2.2.1 p_a0 e1
    refine gf_9_1 C P p_a0 e1 q_1306 dX9_watch_14 ?_
    refine lv_sipush (v := 166) hx hb dX9_watch_17 (by decide) ?_
    obtain ⟨h1, hw⟩ := hw
    refine ra_i C P p_a2 h1 dX9_watch_20 ?_
    refine lv_if_ge (tgt := 28) hx hb dX9_watch_21 (by decide) (fun hc => ?_) (fun hc => ?_)
    · have hw := hw.1 hc
      refine lv_aload_n hx hb dX9_watch_28 rfl (lv_at hl 0 rfl) ?_
      obtain ⟨a3, e1, hw⟩ := hw
      have p_a3 : pI S 12 a3 := wf_r P.2.2.2.1 p_a0 e1
      refine gf_9_1 C P p_a0 e1 q_1306 dX9_watch_29 ?_
      refine lv_sipush (v := 166) hx hb dX9_watch_32 (by decide) ?_
      obtain ⟨h1, hw⟩ := hw
      refine ra_i C P p_a3 h1 dX9_watch_35 ?_
      exact tX9_watch_36 C hr hex Q QX S a0 (mI S a3 (166 : Int32).toNatClampNeg) a0 a0 p_a0 p_a0 p_a0 P (lv_sub hl [0] rfl) (by omega) (by omega) hw
    · have hw := hw.2 hc
      refine lv_iconst (v := 0) hx hb dX9_watch_24 (by decide) ?_
      refine lv_goto (tgt := 36) hx hb dX9_watch_25 (by decide) ?_
      exact tX9_watch_36 C hr hex Q QX S a0 0 a0 a0 p_a0 p_a0 p_a0 P (lv_sub hl [0] rfl) (by omega) (by omega) hw
def wp_X9_watch (Q : Int32 → MS → Prop) (QX : String → MS → Prop) (S : MS) (a0 : Nat) : Prop := wX9_watch_0 Q QX S a0
set_option maxHeartbeats 4000000 in
set_option maxRecDepth 100000 in
theorem met_X9_watch {l : Launch} (hst : l.stackTraces = false) (G : GP) (sz : Nat) (Q : Int32 → MS → Prop) (QX : String → MS → Prop) (S : MS) (a0 : Nat) (p_a0 : pI S 9 a0) (hw : wp_X9_watch Q QX S a0) : vx_Met l yX9_watch (.code yX9_watch cX9_watch 1 (some .int) :: GW) rmX9_watch (va_Pc [.ref a0] (PR G S sz)) (QI G S (FA G S sz) Q) (XX G S (FA G S sz) QX) 0 0 (FA G S sz) := by
  refine st_m (by decide +kernel) hst (fun p e s m below meth c C hr hnm hex P => ?_)
  refine en_m (Nat.le_of_ble_eq_true rfl) (lv := [(0, .ref a0)]) rfl (fun ls hl => ?_)
  have C : CF p l s m _ meth c "SkirmishGridModel" cX9_watch 1 G (FA G S sz) := C
  exact tX9_watch_0 C hr hex Q QX S a0 p_a0 P hl (by omega) (by omega) hw
theorem cd_X9_watch : yX9_watch.cls = RX9 ∧ yX9_watch.cls ≠ "java/lang/invoke/MethodHandle" ∧ yX9_watch.cls ≠ "java/lang/invoke/VarHandle" ∧ (parseMethodDescriptor yX9_watch.desc).map (fun d => d.parameters.length) = some 0 := by decide +kernel
abbrev rmX9_reload : Room := { frames := 8, cells := 0, slots := 0, locals := 197 }
def wX9_reload_17 (Q : Int32 → MS → Prop) (QX : String → MS → Prop) (S : MS) (a0 : Nat) (z0 : Int32) (w1 : Nat) : Prop := wp_X9_may (fun r2 S1 => ((r2 = 0 → Q 0 S1) ∧ (¬ r2 = 0 → wp_X9_carries (fun r4 S3 => Q r4 S3) QX S1 a0 5 0))) QX S w1 z0
set_option maxHeartbeats 4000000 in
set_option maxRecDepth 100000 in
theorem tX9_reload_17 {p : Program} {l : Launch} {e : Env} {s : State} {m : MethodId} {args : Array Value} {below : List Frame} {meth : Method} {c : Code} {H : Heap} {locs : List Loc} {cells slots : Nat} {G : GP} {A : Nat → Prop} {S0 : MS} {ls : Array Slot} (C : CF p l s m args meth c "SkirmishGridModel" cX9_reload 1 G A) (hr : meth.sig.returnType = (some .int)) (hex : ∀ x ∈ c.exceptionTable.toList, False) (Q : Int32 → MS → Prop) (QX : String → MS → Prop) (S : MS) (a0 : Nat) (z0 : Int32) (w1 : Nat) (p_a0 : pI S 9 a0) (p_w1 : pI S 9 w1) (P : PW G A s H locs S0 S) (hl : lv_has ls 1 [(0, .ref a0)]) (hcc : cells + 0 ≤ 0) (hss : slots + 0 ≤ 0) (hw : wX9_reload_17 Q QX S a0 z0 w1) : W p l e rmX9_reload s m args below meth c H locs cells slots (vx_MQ below (QI G S0 A Q) (XX G S0 A QX) args s 0 0 A) (F0 m 17 ls [.int z0, .ref w1]) := by
  have hx := CF_x C
  have hb := CF_b C
  unfold wX9_reload_17 at hw
  refine cl_i C P (run_V C P hl.1 (kd := 9) (met_X9_may (CF_n C) G H.size _ _ S w1 z0 p_w1 hw) p_w1 (by decide) rfl q_1682 q_1684 q_p72 q_10 q_1685 cd_X9_may ⟨(Nat.le_of_ble_eq_true rfl), (Nat.le_of_ble_eq_true rfl)⟩ rfl rfl (As := [.int z0]) (rest := []) rfl rfl (Nat.le_of_ble_eq_true rfl) dX9_reload_17 ⟨by show cells + 0 ≤ 0; omega, by show slots + 0 ≤ 0; omega⟩) (kx_out C hex (fun _ _ _ h => h) (by omega) (by omega)) (fun r2 S1 H locs P hE hw => ?_)
  have p_a0 : pI S1 9 a0 := pI_x hE p_a0
  have p_w1 : pI S1 9 w1 := pI_x hE p_w1
  refine lv_if_eq (tgt := 32) hx hb dX9_reload_20 (by decide) (fun hc => ?_) (fun hc => ?_)
  · have hw := hw.1 hc
    refine lv_iconst (v := 0) hx hb dX9_reload_32 (by decide) ?_
    exact e_i C hr rfl P hw (by omega) (by omega) dX9_reload_33
  · have hw := hw.2 hc
    refine lv_aload_n hx hb dX9_reload_23 rfl (lv_at hl 0 rfl) ?_
    refine lv_iconst (v := 5) hx hb dX9_reload_24 (by decide) ?_
    refine lv_iconst (v := 0) hx hb dX9_reload_25 (by decide) ?_
    refine cl_i C P (run_V C P hl.1 (kd := 9) (met_X9_carries (CF_n C) G H.size _ _ S1 a0 5 0 p_a0 hw) p_a0 (by decide) rfl q_1630 q_1632 q_p62 q_10 q_1633 cd_X9_carries ⟨(Nat.le_of_ble_eq_true rfl), (Nat.le_of_ble_eq_true rfl)⟩ rfl rfl (As := [.int 5, .int 0]) (rest := []) rfl rfl (Nat.le_of_ble_eq_true rfl) dX9_reload_26 ⟨by show cells + 0 ≤ 0; omega, by show slots + 0 ≤ 0; omega⟩) (kx_out C hex (fun _ _ _ h => h) (by omega) (by omega)) (fun r4 S3 H locs P hE hw => ?_)
    have p_a0 : pI S3 9 a0 := pI_x hE p_a0
    refine lv_goto (tgt := 33) hx hb dX9_reload_29 (by decide) ?_
    exact e_i C hr rfl P hw (by omega) (by omega) dX9_reload_33
def wX9_reload_0 (Q : Int32 → MS → Prop) (QX : String → MS → Prop) (S : MS) (a0 : Nat) : Prop := (∃ a1, mR S a0 1 = some a1 ∧ (vp_in 167 (mN S a1) ∧ (((mI S a1 (167 : Int32).toNatClampNeg) ≤ 0 → wX9_reload_17 Q QX S a0 0 a0) ∧ (¬ (mI S a1 (167 : Int32).toNatClampNeg) ≤ 0 → wX9_reload_17 Q QX S a0 1 a0))))
set_option maxHeartbeats 4000000 in
set_option maxRecDepth 100000 in
theorem tX9_reload_0 {p : Program} {l : Launch} {e : Env} {s : State} {m : MethodId} {args : Array Value} {below : List Frame} {meth : Method} {c : Code} {H : Heap} {locs : List Loc} {cells slots : Nat} {G : GP} {A : Nat → Prop} {S0 : MS} {ls : Array Slot} (C : CF p l s m args meth c "SkirmishGridModel" cX9_reload 1 G A) (hr : meth.sig.returnType = (some .int)) (hex : ∀ x ∈ c.exceptionTable.toList, False) (Q : Int32 → MS → Prop) (QX : String → MS → Prop) (S : MS) (a0 : Nat) (p_a0 : pI S 9 a0) (P : PW G A s H locs S0 S) (hl : lv_has ls 1 [(0, .ref a0)]) (hcc : cells + 0 ≤ 0) (hss : slots + 0 ≤ 0) (hw : wX9_reload_0 Q QX S a0) : W p l e rmX9_reload s m args below meth c H locs cells slots (vx_MQ below (QI G S0 A Q) (XX G S0 A QX) args s 0 0 A) (F0 m 0 ls []) := by
  have hx := CF_x C
  have hb := CF_b C
  unfold wX9_reload_0 at hw
  refine lv_aload_n hx hb dX9_reload_0 rfl (lv_at hl 0 rfl) ?_
  refine lv_aload_n hx hb dX9_reload_1 rfl (lv_at hl 0 rfl) ?_
  obtain ⟨a1, e1, hw⟩ := hw
  have p_a1 : pI S 12 a1 := wf_r P.2.2.2.1 p_a0 e1
  refine gf_9_1 C P p_a0 e1 q_1306 dX9_reload_2 ?_
  refine lv_sipush (v := 167) hx hb dX9_reload_5 (by decide) ?_
  obtain ⟨h1, hw⟩ := hw
  refine ra_i C P p_a1 h1 dX9_reload_8 ?_
  refine lv_if_le (tgt := 16) hx hb dX9_reload_9 (by decide) (fun hc => ?_) (fun hc => ?_)
  · have hw := hw.1 hc
    refine lv_iconst (v := 0) hx hb dX9_reload_16 (by decide) ?_
    exact tX9_reload_17 C hr hex Q QX S a0 0 a0 p_a0 p_a0 P (lv_sub hl [0] rfl) (by omega) (by omega) hw
  · have hw := hw.2 hc
    refine lv_iconst (v := 1) hx hb dX9_reload_12 (by decide) ?_
    refine lv_goto (tgt := 17) hx hb dX9_reload_13 (by decide) ?_
    exact tX9_reload_17 C hr hex Q QX S a0 1 a0 p_a0 p_a0 P (lv_sub hl [0] rfl) (by omega) (by omega) hw
def wp_X9_reload (Q : Int32 → MS → Prop) (QX : String → MS → Prop) (S : MS) (a0 : Nat) : Prop := wX9_reload_0 Q QX S a0
set_option maxHeartbeats 4000000 in
set_option maxRecDepth 100000 in
theorem met_X9_reload {l : Launch} (hst : l.stackTraces = false) (G : GP) (sz : Nat) (Q : Int32 → MS → Prop) (QX : String → MS → Prop) (S : MS) (a0 : Nat) (p_a0 : pI S 9 a0) (hw : wp_X9_reload Q QX S a0) : vx_Met l yX9_reload (.code yX9_reload cX9_reload 1 (some .int) :: GW) rmX9_reload (va_Pc [.ref a0] (PR G S sz)) (QI G S (FA G S sz) Q) (XX G S (FA G S sz) QX) 0 0 (FA G S sz) := by
  refine st_m (by decide +kernel) hst (fun p e s m below meth c C hr hnm hex P => ?_)
  refine en_m (Nat.le_of_ble_eq_true rfl) (lv := [(0, .ref a0)]) rfl (fun ls hl => ?_)
  have C : CF p l s m _ meth c "SkirmishGridModel" cX9_reload 1 G (FA G S sz) := C
  exact tX9_reload_0 C hr hex Q QX S a0 p_a0 P hl (by omega) (by omega) hw
theorem cd_X9_reload : yX9_reload.cls = RX9 ∧ yX9_reload.cls ≠ "java/lang/invoke/MethodHandle" ∧ yX9_reload.cls ≠ "java/lang/invoke/VarHandle" ∧ (parseMethodDescriptor yX9_reload.desc).map (fun d => d.parameters.length) = some 0 := by decide +kernel
abbrev rmX9_endTurn : Room := { frames := 8, cells := 0, slots := 0, locals := 197 }
def wX9_endTurn_0 (Q : Int32 → MS → Prop) (QX : String → MS → Prop) (S : MS) (a0 : Nat) : Prop := wp_X9_may (fun r2 S1 => ((r2 = 0 → Q 0 S1) ∧ (¬ r2 = 0 → wp_X9_carries (fun r4 S3 => Q r4 S3) QX S1 a0 6 0))) QX S a0 1
set_option maxHeartbeats 4000000 in
set_option maxRecDepth 100000 in
theorem tX9_endTurn_0 {p : Program} {l : Launch} {e : Env} {s : State} {m : MethodId} {args : Array Value} {below : List Frame} {meth : Method} {c : Code} {H : Heap} {locs : List Loc} {cells slots : Nat} {G : GP} {A : Nat → Prop} {S0 : MS} {ls : Array Slot} (C : CF p l s m args meth c "SkirmishGridModel" cX9_endTurn 1 G A) (hr : meth.sig.returnType = (some .int)) (hex : ∀ x ∈ c.exceptionTable.toList, False) (Q : Int32 → MS → Prop) (QX : String → MS → Prop) (S : MS) (a0 : Nat) (p_a0 : pI S 9 a0) (P : PW G A s H locs S0 S) (hl : lv_has ls 1 [(0, .ref a0)]) (hcc : cells + 0 ≤ 0) (hss : slots + 0 ≤ 0) (hw : wX9_endTurn_0 Q QX S a0) : W p l e rmX9_endTurn s m args below meth c H locs cells slots (vx_MQ below (QI G S0 A Q) (XX G S0 A QX) args s 0 0 A) (F0 m 0 ls []) := by
  have hx := CF_x C
  have hb := CF_b C
  unfold wX9_endTurn_0 at hw
  refine lv_aload_n hx hb dX9_endTurn_0 rfl (lv_at hl 0 rfl) ?_
  refine lv_iconst (v := 1) hx hb dX9_endTurn_1 (by decide) ?_
  refine cl_i C P (run_V C P hl.1 (kd := 9) (met_X9_may (CF_n C) G H.size _ _ S a0 1 p_a0 hw) p_a0 (by decide) rfl q_1682 q_1684 q_p72 q_10 q_1685 cd_X9_may ⟨(Nat.le_of_ble_eq_true rfl), (Nat.le_of_ble_eq_true rfl)⟩ rfl rfl (As := [.int 1]) (rest := []) rfl rfl (Nat.le_of_ble_eq_true rfl) dX9_endTurn_2 ⟨by show cells + 0 ≤ 0; omega, by show slots + 0 ≤ 0; omega⟩) (kx_out C hex (fun _ _ _ h => h) (by omega) (by omega)) (fun r2 S1 H locs P hE hw => ?_)
  have p_a0 : pI S1 9 a0 := pI_x hE p_a0
  refine lv_if_eq (tgt := 18) hx hb dX9_endTurn_5 (by decide) (fun hc => ?_) (fun hc => ?_)
  · have hw := hw.1 hc
    refine lv_iconst (v := 0) hx hb dX9_endTurn_18 (by decide) ?_
    exact e_i C hr rfl P hw (by omega) (by omega) dX9_endTurn_19
  · have hw := hw.2 hc
    refine lv_aload_n hx hb dX9_endTurn_8 rfl (lv_at hl 0 rfl) ?_
    refine lv_bipush (v := 6) hx hb dX9_endTurn_9 (by decide) ?_
    refine lv_iconst (v := 0) hx hb dX9_endTurn_11 (by decide) ?_
    refine cl_i C P (run_V C P hl.1 (kd := 9) (met_X9_carries (CF_n C) G H.size _ _ S1 a0 6 0 p_a0 hw) p_a0 (by decide) rfl q_1630 q_1632 q_p62 q_10 q_1633 cd_X9_carries ⟨(Nat.le_of_ble_eq_true rfl), (Nat.le_of_ble_eq_true rfl)⟩ rfl rfl (As := [.int 6, .int 0]) (rest := []) rfl rfl (Nat.le_of_ble_eq_true rfl) dX9_endTurn_12 ⟨by show cells + 0 ≤ 0; omega, by show slots + 0 ≤ 0; omega⟩) (kx_out C hex (fun _ _ _ h => h) (by omega) (by omega)) (fun r4 S3 H locs P hE hw => ?_)
    have p_a0 : pI S3 9 a0 := pI_x hE p_a0
    refine lv_goto (tgt := 19) hx hb dX9_endTurn_15 (by decide) ?_
    exact e_i C hr rfl P hw (by omega) (by omega) dX9_endTurn_19
def wp_X9_endTurn (Q : Int32 → MS → Prop) (QX : String → MS → Prop) (S : MS) (a0 : Nat) : Prop := wX9_endTurn_0 Q QX S a0
set_option maxHeartbeats 4000000 in
set_option maxRecDepth 100000 in
theorem met_X9_endTurn {l : Launch} (hst : l.stackTraces = false) (G : GP) (sz : Nat) (Q : Int32 → MS → Prop) (QX : String → MS → Prop) (S : MS) (a0 : Nat) (p_a0 : pI S 9 a0) (hw : wp_X9_endTurn Q QX S a0) : vx_Met l yX9_endTurn (.code yX9_endTurn cX9_endTurn 1 (some .int) :: GW) rmX9_endTurn (va_Pc [.ref a0] (PR G S sz)) (QI G S (FA G S sz) Q) (XX G S (FA G S sz) QX) 0 0 (FA G S sz) := by
  refine st_m (by decide +kernel) hst (fun p e s m below meth c C hr hnm hex P => ?_)
  refine en_m (Nat.le_of_ble_eq_true rfl) (lv := [(0, .ref a0)]) rfl (fun ls hl => ?_)
  have C : CF p l s m _ meth c "SkirmishGridModel" cX9_endTurn 1 G (FA G S sz) := C
  exact tX9_endTurn_0 C hr hex Q QX S a0 p_a0 P hl (by omega) (by omega) hw
theorem cd_X9_endTurn : yX9_endTurn.cls = RX9 ∧ yX9_endTurn.cls ≠ "java/lang/invoke/MethodHandle" ∧ yX9_endTurn.cls ≠ "java/lang/invoke/VarHandle" ∧ (parseMethodDescriptor yX9_endTurn.desc).map (fun d => d.parameters.length) = some 0 := by decide +kernel
abbrev rmX9_eventCount : Room := { frames := 0, cells := 0, slots := 0, locals := 0 }
def wX9_eventCount_0 (Q : Int32 → MS → Prop) (QX : String → MS → Prop) (S : MS) (a0 : Nat) : Prop := (∀ S1, S1 = (sI S a0 0 0) → (∃ a2, mR S1 a0 1 = some a2 ∧ (vp_in 168 (mN S1 a2) ∧ Q (mI S1 a2 (168 : Int32).toNatClampNeg) S1)))
set_option maxHeartbeats 4000000 in
set_option maxRecDepth 100000 in
theorem tX9_eventCount_0 {p : Program} {l : Launch} {e : Env} {s : State} {m : MethodId} {args : Array Value} {below : List Frame} {meth : Method} {c : Code} {H : Heap} {locs : List Loc} {cells slots : Nat} {G : GP} {A : Nat → Prop} {S0 : MS} {ls : Array Slot} (C : CF p l s m args meth c "SkirmishGridModel" cX9_eventCount 1 G A) (hr : meth.sig.returnType = (some .int)) (hex : ∀ x ∈ c.exceptionTable.toList, False) (Q : Int32 → MS → Prop) (QX : String → MS → Prop) (S : MS) (a0 : Nat) (p_a0 : pI S 9 a0) (P : PW G A s H locs S0 S) (hl : lv_has ls 1 [(0, .ref a0)]) (hcc : cells + 0 ≤ 0) (hss : slots + 0 ≤ 0) (hw : wX9_eventCount_0 Q QX S a0) : W p l e rmX9_eventCount s m args below meth c H locs cells slots (vx_MQ below (QI G S0 A Q) (XX G S0 A QX) args s 0 0 A) (F0 m 0 ls []) := by
  have hx := CF_x C
  have hb := CF_b C
  unfold wX9_eventCount_0 at hw
  refine lv_aload_n hx hb dX9_eventCount_0 rfl (lv_at hl 0 rfl) ?_
  refine lv_iconst (v := 0) hx hb dX9_eventCount_1 (by decide) ?_
  refine pf_9_0 C P p_a0 q_1305 dX9_eventCount_2 (fun H locs P => ?_)
  obtain ⟨S1, hS⟩ : ∃ z, z = (sI S a0 0 0) := ⟨_, rfl⟩
  have P : PW G A s H locs S0 S1 := by rw [hS]; exact P
  have p_a0 : pI S1 9 a0 := by rw [hS]; exact pI_x ext_sI p_a0
  have hw := hw S1 hS
  refine lv_aload_n hx hb dX9_eventCount_5 rfl (lv_at hl 0 rfl) ?_
  obtain ⟨a2, e1, hw⟩ := hw
  have p_a2 : pI S1 12 a2 := wf_r P.2.2.2.1 p_a0 e1
  refine gf_9_1 C P p_a0 e1 q_1306 dX9_eventCount_6 ?_
  refine lv_sipush (v := 168) hx hb dX9_eventCount_9 (by decide) ?_
  obtain ⟨h1, hw⟩ := hw
  refine ra_i C P p_a2 h1 dX9_eventCount_12 ?_
  exact e_i C hr rfl P hw (by omega) (by omega) dX9_eventCount_13
def wp_X9_eventCount (Q : Int32 → MS → Prop) (QX : String → MS → Prop) (S : MS) (a0 : Nat) : Prop := wX9_eventCount_0 Q QX S a0
set_option maxHeartbeats 4000000 in
set_option maxRecDepth 100000 in
theorem met_X9_eventCount {l : Launch} (hst : l.stackTraces = false) (G : GP) (sz : Nat) (Q : Int32 → MS → Prop) (QX : String → MS → Prop) (S : MS) (a0 : Nat) (p_a0 : pI S 9 a0) (hw : wp_X9_eventCount Q QX S a0) : vx_Met l yX9_eventCount (.code yX9_eventCount cX9_eventCount 1 (some .int) :: GW) rmX9_eventCount (va_Pc [.ref a0] (PR G S sz)) (QI G S (FA G S sz) Q) (XX G S (FA G S sz) QX) 0 0 (FA G S sz) := by
  refine st_m (by decide +kernel) hst (fun p e s m below meth c C hr hnm hex P => ?_)
  refine en_m (Nat.le_of_ble_eq_true rfl) (lv := [(0, .ref a0)]) rfl (fun ls hl => ?_)
  have C : CF p l s m _ meth c "SkirmishGridModel" cX9_eventCount 1 G (FA G S sz) := C
  exact tX9_eventCount_0 C hr hex Q QX S a0 p_a0 P hl (by omega) (by omega) hw
theorem cd_X9_eventCount : yX9_eventCount.cls = RX9 ∧ yX9_eventCount.cls ≠ "java/lang/invoke/MethodHandle" ∧ yX9_eventCount.cls ≠ "java/lang/invoke/VarHandle" ∧ (parseMethodDescriptor yX9_eventCount.desc).map (fun d => d.parameters.length) = some 0 := by decide +kernel
abbrev rmX9_event : Room := { frames := 1, cells := 0, slots := 0, locals := 22 }
def wX9_event_33 (Q : Int32 → MS → Prop) (QX : String → MS → Prop) (S : MS) (a0 : Nat) (y1 : Int32) (y2 : Int32) (z0 : Int32) (w1 : Nat) : Prop := (∀ S1, S1 = (sI S w1 0 z0) → ((¬ (mI S1 a0 0) = 0 → Q 0 S1) ∧ ((mI S1 a0 0) = 0 → (∃ a2, mR S1 a0 1 = some a2 ∧ (vp_in ((169 + (3 * y1)) + y2) (mN S1 a2) ∧ Q (mI S1 a2 (((169 + (3 * y1)) + y2) : Int32).toNatClampNeg) S1)))))
set_option maxHeartbeats 4000000 in
set_option maxRecDepth 100000 in
theorem tX9_event_33 {p : Program} {l : Launch} {e : Env} {s : State} {m : MethodId} {args : Array Value} {below : List Frame} {meth : Method} {c : Code} {H : Heap} {locs : List Loc} {cells slots : Nat} {G : GP} {A : Nat → Prop} {S0 : MS} {ls : Array Slot} (C : CF p l s m args meth c "SkirmishGridModel" cX9_event 3 G A) (hr : meth.sig.returnType = (some .int)) (hex : ∀ x ∈ c.exceptionTable.toList, False) (Q : Int32 → MS → Prop) (QX : String → MS → Prop) (S : MS) (a0 : Nat) (y1 : Int32) (y2 : Int32) (z0 : Int32) (w1 : Nat) (p_a0 : pI S 9 a0) (p_w1 : pI S 9 w1) (P : PW G A s H locs S0 S) (hl : lv_has ls 3 [(0, .ref a0), (1, .int y1), (2, .int y2)]) (hcc : cells + 0 ≤ 0) (hss : slots + 0 ≤ 0) (hw : wX9_event_33 Q QX S a0 y1 y2 z0 w1) : W p l e rmX9_event s m args below meth c H locs cells slots (vx_MQ below (QI G S0 A Q) (XX G S0 A QX) args s 0 0 A) (F0 m 33 ls [.int z0, .ref w1]) := by
  have hx := CF_x C
  have hb := CF_b C
  unfold wX9_event_33 at hw
  refine pf_9_0 C P p_w1 q_1305 dX9_event_33 (fun H locs P => ?_)
  obtain ⟨S1, hS⟩ : ∃ z, z = (sI S w1 0 z0) := ⟨_, rfl⟩
  have P : PW G A s H locs S0 S1 := by rw [hS]; exact P
  have p_a0 : pI S1 9 a0 := by rw [hS]; exact pI_x ext_sI p_a0
  have p_w1 : pI S1 9 w1 := by rw [hS]; exact pI_x ext_sI p_w1
  have hw := hw S1 hS
  refine lv_aload_n hx hb dX9_event_36 rfl (lv_at hl 0 rfl) ?_
  refine gf_9_0 C P p_a0 q_1305 dX9_event_37 ?_
  refine lv_if_ne (tgt := 60) hx hb dX9_event_40 (by decide) (fun hc => ?_) (fun hc => ?_)
  · have hw := hw.1 hc
    refine lv_iconst (v := 0) hx hb dX9_event_60 (by decide) ?_
    exact e_i C hr rfl P hw (by omega) (by omega) dX9_event_61
  · have hw := hw.2 hc
    refine lv_aload_n hx hb dX9_event_43 rfl (lv_at hl 0 rfl) ?_
    obtain ⟨a2, e1, hw⟩ := hw
    have p_a2 : pI S1 12 a2 := wf_r P.2.2.2.1 p_a0 e1
    refine gf_9_1 C P p_a0 e1 q_1306 dX9_event_44 ?_
    refine lv_sipush (v := 169) hx hb dX9_event_47 (by decide) ?_
    refine lv_iconst (v := 3) hx hb dX9_event_50 (by decide) ?_
    refine lv_iload_n hx hb dX9_event_51 rfl (lv_at hl 1 rfl) ?_
    refine lv_imul hx hb dX9_event_52 ?_
    refine lv_iadd hx hb dX9_event_53 ?_
    refine lv_iload_n hx hb dX9_event_54 rfl (lv_at hl 2 rfl) ?_
    refine lv_iadd hx hb dX9_event_55 ?_
    obtain ⟨h1, hw⟩ := hw
    refine ra_i C P p_a2 h1 dX9_event_56 ?_
    refine lv_goto (tgt := 61) hx hb dX9_event_57 (by decide) ?_
    exact e_i C hr rfl P hw (by omega) (by omega) dX9_event_61
def wX9_event_32 (Q : Int32 → MS → Prop) (QX : String → MS → Prop) (S : MS) (a0 : Nat) (y1 : Int32) (y2 : Int32) (w0 : Nat) : Prop := wX9_event_33 Q QX S a0 y1 y2 1 w0
set_option maxHeartbeats 4000000 in
set_option maxRecDepth 100000 in
theorem tX9_event_32 {p : Program} {l : Launch} {e : Env} {s : State} {m : MethodId} {args : Array Value} {below : List Frame} {meth : Method} {c : Code} {H : Heap} {locs : List Loc} {cells slots : Nat} {G : GP} {A : Nat → Prop} {S0 : MS} {ls : Array Slot} (C : CF p l s m args meth c "SkirmishGridModel" cX9_event 3 G A) (hr : meth.sig.returnType = (some .int)) (hex : ∀ x ∈ c.exceptionTable.toList, False) (Q : Int32 → MS → Prop) (QX : String → MS → Prop) (S : MS) (a0 : Nat) (y1 : Int32) (y2 : Int32) (w0 : Nat) (p_a0 : pI S 9 a0) (p_w0 : pI S 9 w0) (P : PW G A s H locs S0 S) (hl : lv_has ls 3 [(0, .ref a0), (1, .int y1), (2, .int y2)]) (hcc : cells + 0 ≤ 0) (hss : slots + 0 ≤ 0) (hw : wX9_event_32 Q QX S a0 y1 y2 w0) : W p l e rmX9_event s m args below meth c H locs cells slots (vx_MQ below (QI G S0 A Q) (XX G S0 A QX) args s 0 0 A) (F0 m 32 ls [.ref w0]) := by
  have hx := CF_x C
  have hb := CF_b C
  unfold wX9_event_32 at hw
  refine lv_iconst (v := 1) hx hb dX9_event_32 (by decide) ?_
  exact tX9_event_33 C hr hex Q QX S a0 y1 y2 1 w0 p_a0 p_w0 P (lv_sub hl [0, 1, 2] rfl) (by omega) (by omega) hw
def wX9_event_0 (Q : Int32 → MS → Prop) (QX : String → MS → Prop) (S : MS) (a0 : Nat) (x1 : Int32) (x2 : Int32) : Prop := (∃ a1, mR S a0 1 = some a1 ∧ (vp_in 168 (mN S a1) ∧ wp_X9_isIn (fun r3 S2 => ((r3 = 0 → wX9_event_32 Q QX S2 a0 x1 x2 a0) ∧ (¬ r3 = 0 → wp_X9_isIn (fun r5 S4 => ((r5 = 0 → wX9_event_32 Q QX S4 a0 x1 x2 a0) ∧ (¬ r5 = 0 → wX9_event_33 Q QX S4 a0 x1 x2 0 a0))) QX S2 x2 0 2))) QX S x1 0 ((mI S a1 (168 : Int32).toNatClampNeg) - 1)))
set_option maxHeartbeats 4000000 in
set_option maxRecDepth 100000 in
theorem tX9_event_0 {p : Program} {l : Launch} {e : Env} {s : State} {m : MethodId} {args : Array Value} {below : List Frame} {meth : Method} {c : Code} {H : Heap} {locs : List Loc} {cells slots : Nat} {G : GP} {A : Nat → Prop} {S0 : MS} {ls : Array Slot} (C : CF p l s m args meth c "SkirmishGridModel" cX9_event 3 G A) (hr : meth.sig.returnType = (some .int)) (hex : ∀ x ∈ c.exceptionTable.toList, False) (Q : Int32 → MS → Prop) (QX : String → MS → Prop) (S : MS) (a0 : Nat) (x1 : Int32) (x2 : Int32) (p_a0 : pI S 9 a0) (P : PW G A s H locs S0 S) (hl : lv_has ls 3 [(0, .ref a0), (1, .int x1), (2, .int x2)]) (hcc : cells + 0 ≤ 0) (hss : slots + 0 ≤ 0) (hw : wX9_event_0 Q QX S a0 x1 x2) : W p l e rmX9_event s m args below meth c H locs cells slots (vx_MQ below (QI G S0 A Q) (XX G S0 A QX) args s 0 0 A) (F0 m 0 ls []) := by
  have hx := CF_x C
  have hb := CF_b C
  unfold wX9_event_0 at hw
  refine lv_aload_n hx hb dX9_event_0 rfl (lv_at hl 0 rfl) ?_
  refine lv_iload_n hx hb dX9_event_1 rfl (lv_at hl 1 rfl) ?_
  refine lv_iconst (v := 0) hx hb dX9_event_2 (by decide) ?_
  refine lv_aload_n hx hb dX9_event_3 rfl (lv_at hl 0 rfl) ?_
  obtain ⟨a1, e1, hw⟩ := hw
  have p_a1 : pI S 12 a1 := wf_r P.2.2.2.1 p_a0 e1
  refine gf_9_1 C P p_a0 e1 q_1306 dX9_event_4 ?_
  refine lv_sipush (v := 168) hx hb dX9_event_7 (by decide) ?_
  obtain ⟨h1, hw⟩ := hw
  refine ra_i C P p_a1 h1 dX9_event_10 ?_
  refine lv_iconst (v := 1) hx hb dX9_event_11 (by decide) ?_
  refine lv_isub hx hb dX9_event_12 ?_
  refine cl_i C P (run_S C P hl.1 (met_X9_isIn (CF_n C) G H.size _ _ S x1 0 ((mI S a1 (168 : Int32).toNatClampNeg) - 1) hw) q_1383 q_1384 q_10 q_1385 cd_X9_isIn.2 ⟨(Nat.le_of_ble_eq_true rfl), (Nat.le_of_ble_eq_true rfl)⟩ rfl rfl (As := [.int x1, .int 0, .int ((mI S a1 (168 : Int32).toNatClampNeg) - 1)]) (rest := [.ref a0]) rfl rfl (Nat.le_of_ble_eq_true rfl) dX9_event_13 ⟨by show cells + 0 ≤ 0; omega, by show slots + 0 ≤ 0; omega⟩) (kx_out C hex (fun _ _ _ h => h) (by omega) (by omega)) (fun r3 S2 H locs P hE hw => ?_)
  have p_a0 : pI S2 9 a0 := pI_x hE p_a0
  refine lv_if_eq (tgt := 32) hx hb dX9_event_16 (by decide) (fun hc => ?_) (fun hc => ?_)
  · have hw := hw.1 hc
    exact tX9_event_32 C hr hex Q QX S2 a0 x1 x2 a0 p_a0 p_a0 P (lv_sub hl [0, 1, 2] rfl) (by omega) (by omega) hw
  · have hw := hw.2 hc
    refine lv_iload_n hx hb dX9_event_19 rfl (lv_at hl 2 rfl) ?_
    refine lv_iconst (v := 0) hx hb dX9_event_20 (by decide) ?_
    refine lv_iconst (v := 2) hx hb dX9_event_21 (by decide) ?_
    refine cl_i C P (run_S C P hl.1 (met_X9_isIn (CF_n C) G H.size _ _ S2 x2 0 2 hw) q_1383 q_1384 q_10 q_1385 cd_X9_isIn.2 ⟨(Nat.le_of_ble_eq_true rfl), (Nat.le_of_ble_eq_true rfl)⟩ rfl rfl (As := [.int x2, .int 0, .int 2]) (rest := [.ref a0]) rfl rfl (Nat.le_of_ble_eq_true rfl) dX9_event_22 ⟨by show cells + 0 ≤ 0; omega, by show slots + 0 ≤ 0; omega⟩) (kx_out C hex (fun _ _ _ h => h) (by omega) (by omega)) (fun r5 S4 H locs P hE hw => ?_)
    have p_a0 : pI S4 9 a0 := pI_x hE p_a0
    refine lv_if_eq (tgt := 32) hx hb dX9_event_25 (by decide) (fun hc => ?_) (fun hc => ?_)
    · have hw := hw.1 hc
      exact tX9_event_32 C hr hex Q QX S4 a0 x1 x2 a0 p_a0 p_a0 P (lv_sub hl [0, 1, 2] rfl) (by omega) (by omega) hw
    · have hw := hw.2 hc
      refine lv_iconst (v := 0) hx hb dX9_event_28 (by decide) ?_
      refine lv_goto (tgt := 33) hx hb dX9_event_29 (by decide) ?_
      exact tX9_event_33 C hr hex Q QX S4 a0 x1 x2 0 a0 p_a0 p_a0 P (lv_sub hl [0, 1, 2] rfl) (by omega) (by omega) hw
def wp_X9_event (Q : Int32 → MS → Prop) (QX : String → MS → Prop) (S : MS) (a0 : Nat) (x1 : Int32) (x2 : Int32) : Prop := wX9_event_0 Q QX S a0 x1 x2
set_option maxHeartbeats 4000000 in
set_option maxRecDepth 100000 in
theorem met_X9_event {l : Launch} (hst : l.stackTraces = false) (G : GP) (sz : Nat) (Q : Int32 → MS → Prop) (QX : String → MS → Prop) (S : MS) (a0 : Nat) (x1 : Int32) (x2 : Int32) (p_a0 : pI S 9 a0) (hw : wp_X9_event Q QX S a0 x1 x2) : vx_Met l yX9_event (.code yX9_event cX9_event 3 (some .int) :: GW) rmX9_event (va_Pc [.ref a0, .int x1, .int x2] (PR G S sz)) (QI G S (FA G S sz) Q) (XX G S (FA G S sz) QX) 0 0 (FA G S sz) := by
  refine st_m (by decide +kernel) hst (fun p e s m below meth c C hr hnm hex P => ?_)
  refine en_m (Nat.le_of_ble_eq_true rfl) (lv := [(0, .ref a0), (1, .int x1), (2, .int x2)]) rfl (fun ls hl => ?_)
  have C : CF p l s m _ meth c "SkirmishGridModel" cX9_event 3 G (FA G S sz) := C
  exact tX9_event_0 C hr hex Q QX S a0 x1 x2 p_a0 P hl (by omega) (by omega) hw
theorem cd_X9_event : yX9_event.cls = RX9 ∧ yX9_event.cls ≠ "java/lang/invoke/MethodHandle" ∧ yX9_event.cls ≠ "java/lang/invoke/VarHandle" ∧ (parseMethodDescriptor yX9_event.desc).map (fun d => d.parameters.length) = some 2 := by decide +kernel
abbrev rmX9_commandCount : Room := { frames := 0, cells := 0, slots := 0, locals := 0 }
def wX9_commandCount_0 (Q : Int32 → MS → Prop) (QX : String → MS → Prop) (S : MS) (a0 : Nat) : Prop := (∀ S1, S1 = (sI S a0 0 0) → (∃ a2, mR S1 a0 1 = some a2 ∧ (vp_in 289 (mN S1 a2) ∧ Q (mI S1 a2 (289 : Int32).toNatClampNeg) S1)))
set_option maxHeartbeats 4000000 in
set_option maxRecDepth 100000 in
theorem tX9_commandCount_0 {p : Program} {l : Launch} {e : Env} {s : State} {m : MethodId} {args : Array Value} {below : List Frame} {meth : Method} {c : Code} {H : Heap} {locs : List Loc} {cells slots : Nat} {G : GP} {A : Nat → Prop} {S0 : MS} {ls : Array Slot} (C : CF p l s m args meth c "SkirmishGridModel" cX9_commandCount 1 G A) (hr : meth.sig.returnType = (some .int)) (hex : ∀ x ∈ c.exceptionTable.toList, False) (Q : Int32 → MS → Prop) (QX : String → MS → Prop) (S : MS) (a0 : Nat) (p_a0 : pI S 9 a0) (P : PW G A s H locs S0 S) (hl : lv_has ls 1 [(0, .ref a0)]) (hcc : cells + 0 ≤ 0) (hss : slots + 0 ≤ 0) (hw : wX9_commandCount_0 Q QX S a0) : W p l e rmX9_commandCount s m args below meth c H locs cells slots (vx_MQ below (QI G S0 A Q) (XX G S0 A QX) args s 0 0 A) (F0 m 0 ls []) := by
  have hx := CF_x C
  have hb := CF_b C
  unfold wX9_commandCount_0 at hw
  refine lv_aload_n hx hb dX9_commandCount_0 rfl (lv_at hl 0 rfl) ?_
  refine lv_iconst (v := 0) hx hb dX9_commandCount_1 (by decide) ?_
  refine pf_9_0 C P p_a0 q_1305 dX9_commandCount_2 (fun H locs P => ?_)
  obtain ⟨S1, hS⟩ : ∃ z, z = (sI S a0 0 0) := ⟨_, rfl⟩
  have P : PW G A s H locs S0 S1 := by rw [hS]; exact P
  have p_a0 : pI S1 9 a0 := by rw [hS]; exact pI_x ext_sI p_a0
  have hw := hw S1 hS
  refine lv_aload_n hx hb dX9_commandCount_5 rfl (lv_at hl 0 rfl) ?_
  obtain ⟨a2, e1, hw⟩ := hw
  have p_a2 : pI S1 12 a2 := wf_r P.2.2.2.1 p_a0 e1
  refine gf_9_1 C P p_a0 e1 q_1306 dX9_commandCount_6 ?_
  refine lv_sipush (v := 289) hx hb dX9_commandCount_9 (by decide) ?_
  obtain ⟨h1, hw⟩ := hw
  refine ra_i C P p_a2 h1 dX9_commandCount_12 ?_
  exact e_i C hr rfl P hw (by omega) (by omega) dX9_commandCount_13
def wp_X9_commandCount (Q : Int32 → MS → Prop) (QX : String → MS → Prop) (S : MS) (a0 : Nat) : Prop := wX9_commandCount_0 Q QX S a0
set_option maxHeartbeats 4000000 in
set_option maxRecDepth 100000 in
theorem met_X9_commandCount {l : Launch} (hst : l.stackTraces = false) (G : GP) (sz : Nat) (Q : Int32 → MS → Prop) (QX : String → MS → Prop) (S : MS) (a0 : Nat) (p_a0 : pI S 9 a0) (hw : wp_X9_commandCount Q QX S a0) : vx_Met l yX9_commandCount (.code yX9_commandCount cX9_commandCount 1 (some .int) :: GW) rmX9_commandCount (va_Pc [.ref a0] (PR G S sz)) (QI G S (FA G S sz) Q) (XX G S (FA G S sz) QX) 0 0 (FA G S sz) := by
  refine st_m (by decide +kernel) hst (fun p e s m below meth c C hr hnm hex P => ?_)
  refine en_m (Nat.le_of_ble_eq_true rfl) (lv := [(0, .ref a0)]) rfl (fun ls hl => ?_)
  have C : CF p l s m _ meth c "SkirmishGridModel" cX9_commandCount 1 G (FA G S sz) := C
  exact tX9_commandCount_0 C hr hex Q QX S a0 p_a0 P hl (by omega) (by omega) hw
theorem cd_X9_commandCount : yX9_commandCount.cls = RX9 ∧ yX9_commandCount.cls ≠ "java/lang/invoke/MethodHandle" ∧ yX9_commandCount.cls ≠ "java/lang/invoke/VarHandle" ∧ (parseMethodDescriptor yX9_commandCount.desc).map (fun d => d.parameters.length) = some 0 := by decide +kernel
abbrev rmX9_undo : Room := { frames := 0, cells := 0, slots := 0, locals := 0 }
def wX9_undo_38 (Q : Int32 → MS → Prop) (QX : String → MS → Prop) (k38 : MS → Nat → Int32 → Prop) (S : MS) (a0 : Nat) (y1 : Int32) : Prop := ((290 ≤ y1 → Q (mI S a0 9) S) ∧ (¬ 290 ≤ y1 → (∃ a1, mR S a0 1 = some a1 ∧ (∃ a2, mR S a0 6 = some a2 ∧ (vp_in (((mI S a0 9) * 290) + y1) (mN S a2) ∧ (vp_in y1 (mN S a1) ∧ (∀ S3, S3 = (sI S a1 (y1 : Int32).toNatClampNeg (mI S a2 ((((mI S a0 9) * 290) + y1) : Int32).toNatClampNeg)) → k38 S3 a0 (y1 + 1))))))))
set_option maxHeartbeats 4000000 in
set_option maxRecDepth 100000 in
theorem tX9_undo_38 {p : Program} {l : Launch} {e : Env} {s : State} {m : MethodId} {args : Array Value} {below : List Frame} {meth : Method} {c : Code} {H : Heap} {locs : List Loc} {cells slots : Nat} {G : GP} {A : Nat → Prop} {S0 : MS} {ls : Array Slot} (C : CF p l s m args meth c "SkirmishGridModel" cX9_undo 2 G A) (hr : meth.sig.returnType = (some .int)) (hex : ∀ x ∈ c.exceptionTable.toList, False) (Q : Int32 → MS → Prop) (QX : String → MS → Prop) (k38 : MS → Nat → Int32 → Prop) (kh38 : ∀ (S : MS) (a0 : Nat) (y1 : Int32) (cells slots : Nat) (H : Heap) (locs : List Loc) (ls : Array Slot), pI S 9 a0 → PW G A s H locs S0 S → lv_has ls 2 [(0, .ref a0), (1, .int y1)] → cells + 0 ≤ 0 → slots + 0 ≤ 0 → k38 S a0 y1 → W p l e rmX9_undo s m args below meth c H locs cells slots (vx_MQ below (QI G S0 A Q) (XX G S0 A QX) args s 0 0 A) (F0 m 38 ls [])) (S : MS) (a0 : Nat) (y1 : Int32) (p_a0 : pI S 9 a0) (P : PW G A s H locs S0 S) (hl : lv_has ls 2 [(0, .ref a0), (1, .int y1)]) (hcc : cells + 0 ≤ 0) (hss : slots + 0 ≤ 0) (hw : wX9_undo_38 Q QX k38 S a0 y1) : W p l e rmX9_undo s m args below meth c H locs cells slots (vx_MQ below (QI G S0 A Q) (XX G S0 A QX) args s 0 0 A) (F0 m 38 ls []) := by
  have hx := CF_x C
  have hb := CF_b C
  unfold wX9_undo_38 at hw
  refine lv_iload_n hx hb dX9_undo_38 rfl (lv_at hl 1 rfl) ?_
  refine lv_sipush (v := 290) hx hb dX9_undo_39 (by decide) ?_
  refine lv_icmp_ge (tgt := 72) hx hb dX9_undo_42 (by decide) (fun hc => ?_) (fun hc => ?_)
  · have hw := hw.1 hc
    refine lv_aload_n hx hb dX9_undo_72 rfl (lv_at hl 0 rfl) ?_
    refine gf_9_9 C P p_a0 q_1314 dX9_undo_73 ?_
    exact e_i C hr rfl P hw (by omega) (by omega) dX9_undo_76
  · have hw := hw.2 hc
    refine lv_aload_n hx hb dX9_undo_45 rfl (lv_at hl 0 rfl) ?_
    obtain ⟨a1, e1, hw⟩ := hw
    have p_a1 : pI S 12 a1 := wf_r P.2.2.2.1 p_a0 e1
    refine gf_9_1 C P p_a0 e1 q_1306 dX9_undo_46 ?_
    refine lv_iload_n hx hb dX9_undo_49 rfl (lv_at hl 1 rfl) ?_
    refine lv_aload_n hx hb dX9_undo_50 rfl (lv_at hl 0 rfl) ?_
    obtain ⟨a2, e1, hw⟩ := hw
    have p_a2 : pI S 12 a2 := wf_r P.2.2.2.1 p_a0 e1
    refine gf_9_6 C P p_a0 e1 q_1311 dX9_undo_51 ?_
    refine lv_aload_n hx hb dX9_undo_54 rfl (lv_at hl 0 rfl) ?_
    refine gf_9_9 C P p_a0 q_1314 dX9_undo_55 ?_
    refine lv_sipush (v := 290) hx hb dX9_undo_58 (by decide) ?_
    refine lv_imul hx hb dX9_undo_61 ?_
    refine lv_iload_n hx hb dX9_undo_62 rfl (lv_at hl 1 rfl) ?_
    refine lv_iadd hx hb dX9_undo_63 ?_
    obtain ⟨h1, hw⟩ := hw
    refine ra_i C P p_a2 h1 dX9_undo_64 ?_
    obtain ⟨h1, hw⟩ := hw
    refine rs_i C P p_a1 h1 dX9_undo_65 (fun H locs P => ?_)
    obtain ⟨S3, hS⟩ : ∃ z, z = (sI S a1 (y1 : Int32).toNatClampNeg (mI S a2 ((((mI S a0 9) * 290) + y1) : Int32).toNatClampNeg)) := ⟨_, rfl⟩
    have P : PW G A s H locs S0 S3 := by rw [hS]; exact P
    have p_a0 : pI S3 9 a0 := by rw [hS]; exact pI_x ext_sI p_a0
    have p_a1 : pI S3 12 a1 := by rw [hS]; exact pI_x ext_sI p_a1
    have hw := hw S3 hS
    refine lv_iinc (v := (y1 + 1)) (lv' := [(1, .int (y1 + 1)), (0, .ref a0)]) hx hb dX9_undo_66 hl (k := 1) rfl (by rfl) (by decide) rfl (fun ls hl => ?_)
    refine lv_goto (tgt := 38) hx hb dX9_undo_69 (by decide) ?_
    exact kh38 S3 a0 (y1 + 1) _ _ _ _ _ p_a0 P (lv_sub hl [1, 0] rfl) (by omega) (by omega) hw
def lX9_undo_38 (Q : Int32 → MS → Prop) (QX : String → MS → Prop) : Nat → MS → Nat → Int32 → Prop
  | 0 => fun _ _ _ => False
  | n + 1 => fun S a0 y1 => wX9_undo_38 Q QX (lX9_undo_38 Q QX n) S a0 y1
theorem tlX9_undo_38 {p : Program} {l : Launch} {e : Env} {s : State} {m : MethodId} {args : Array Value} {below : List Frame} {meth : Method} {c : Code} {G : GP} {A : Nat → Prop} {S0 : MS} (C : CF p l s m args meth c "SkirmishGridModel" cX9_undo 2 G A) (hr : meth.sig.returnType = (some .int)) (hex : ∀ x ∈ c.exceptionTable.toList, False) (Q : Int32 → MS → Prop) (QX : String → MS → Prop) : ∀ (n : Nat), ∀ (S : MS) (a0 : Nat) (y1 : Int32) (cells slots : Nat) (H : Heap) (locs : List Loc) (ls : Array Slot), pI S 9 a0 → PW G A s H locs S0 S → lv_has ls 2 [(0, .ref a0), (1, .int y1)] → cells + 0 ≤ 0 → slots + 0 ≤ 0 → lX9_undo_38 Q QX n S a0 y1 → W p l e rmX9_undo s m args below meth c H locs cells slots (vx_MQ below (QI G S0 A Q) (XX G S0 A QX) args s 0 0 A) (F0 m 38 ls []) := by
  intro n
  induction n with
  | zero => intro S a0 y1 cells slots H locs ls p_a0 P hl hcc hss hw; exact hw.elim
  | succ n ih => intro S a0 y1 cells slots H locs ls p_a0 P hl hcc hss hw; exact tX9_undo_38 C hr hex Q QX (lX9_undo_38 Q QX n) ih S a0 y1 p_a0 P hl hcc hss hw
def wX9_undo_13 (Q : Int32 → MS → Prop) (QX : String → MS → Prop) (S : MS) (a0 : Nat) (z0 : Int32) (w1 : Nat) : Prop := (∀ S1, S1 = (sI S w1 0 z0) → ((¬ (mI S1 a0 0) = 1 → (∀ S2, S2 = (sI S1 a0 9 ((mI S1 a0 9) - 1)) → (∃ n, lX9_undo_38 Q QX n S2 a0 0))) ∧ ((mI S1 a0 0) = 1 → Q 0 S1)))
set_option maxHeartbeats 4000000 in
set_option maxRecDepth 100000 in
theorem tX9_undo_13 {p : Program} {l : Launch} {e : Env} {s : State} {m : MethodId} {args : Array Value} {below : List Frame} {meth : Method} {c : Code} {H : Heap} {locs : List Loc} {cells slots : Nat} {G : GP} {A : Nat → Prop} {S0 : MS} {ls : Array Slot} (C : CF p l s m args meth c "SkirmishGridModel" cX9_undo 2 G A) (hr : meth.sig.returnType = (some .int)) (hex : ∀ x ∈ c.exceptionTable.toList, False) (Q : Int32 → MS → Prop) (QX : String → MS → Prop) (S : MS) (a0 : Nat) (z0 : Int32) (w1 : Nat) (p_a0 : pI S 9 a0) (p_w1 : pI S 9 w1) (P : PW G A s H locs S0 S) (hl : lv_has ls 2 [(0, .ref a0)]) (hcc : cells + 0 ≤ 0) (hss : slots + 0 ≤ 0) (hw : wX9_undo_13 Q QX S a0 z0 w1) : W p l e rmX9_undo s m args below meth c H locs cells slots (vx_MQ below (QI G S0 A Q) (XX G S0 A QX) args s 0 0 A) (F0 m 13 ls [.int z0, .ref w1]) := by
  have hx := CF_x C
  have hb := CF_b C
  unfold wX9_undo_13 at hw
  refine pf_9_0 C P p_w1 q_1305 dX9_undo_13 (fun H locs P => ?_)
  obtain ⟨S1, hS⟩ : ∃ z, z = (sI S w1 0 z0) := ⟨_, rfl⟩
  have P : PW G A s H locs S0 S1 := by rw [hS]; exact P
  have p_a0 : pI S1 9 a0 := by rw [hS]; exact pI_x ext_sI p_a0
  have p_w1 : pI S1 9 w1 := by rw [hS]; exact pI_x ext_sI p_w1
  have hw := hw S1 hS
  refine lv_aload_n hx hb dX9_undo_16 rfl (lv_at hl 0 rfl) ?_
  refine gf_9_0 C P p_a0 q_1305 dX9_undo_17 ?_
  refine lv_iconst (v := 1) hx hb dX9_undo_20 (by decide) ?_
  refine lv_icmp_ne (tgt := 26) hx hb dX9_undo_21 (by decide) (fun hc => ?_) (fun hc => ?_)
  · have hw := hw.1 hc
    refine lv_aload_n hx hb dX9_undo_26 rfl (lv_at hl 0 rfl) ?_
    refine lv_dup hx hb dX9_undo_27 rfl ?_
    refine gf_9_9 C P p_a0 q_1314 dX9_undo_28 ?_
    refine lv_iconst (v := 1) hx hb dX9_undo_31 (by decide) ?_
    refine lv_isub hx hb dX9_undo_32 ?_
    refine pf_9_9 C P p_a0 q_1314 dX9_undo_33 (fun H locs P => ?_)
    obtain ⟨S2, hS⟩ : ∃ z, z = (sI S1 a0 9 ((mI S1 a0 9) - 1)) := ⟨_, rfl⟩
    have P : PW G A s H locs S0 S2 := by rw [hS]; exact P
    have p_a0 : pI S2 9 a0 := by rw [hS]; exact pI_x ext_sI p_a0
    have hw := hw S2 hS
    refine lv_iconst (v := 0) hx hb dX9_undo_36 (by decide) ?_
    refine lv_istore_n (lv' := [(1, .int 0), (0, .ref a0)]) hx hb dX9_undo_37 rfl hl (by decide) rfl (fun ls hl => ?_)
    obtain ⟨n, hw⟩ := hw
    exact tlX9_undo_38 C hr hex Q QX n S2 a0 0 _ _ _ _ _ p_a0 P (lv_sub hl [1, 0] rfl) (by omega) (by omega) hw
  · have hw := hw.2 hc
    refine lv_iconst (v := 0) hx hb dX9_undo_24 (by decide) ?_
    exact e_i C hr rfl P hw (by omega) (by omega) dX9_undo_25
def wX9_undo_0 (Q : Int32 → MS → Prop) (QX : String → MS → Prop) (S : MS) (a0 : Nat) : Prop := ((¬ (mI S a0 9) = 0 → wX9_undo_13 Q QX S a0 0 a0) ∧ ((mI S a0 9) = 0 → wX9_undo_13 Q QX S a0 1 a0))
set_option maxHeartbeats 4000000 in
set_option maxRecDepth 100000 in
theorem tX9_undo_0 {p : Program} {l : Launch} {e : Env} {s : State} {m : MethodId} {args : Array Value} {below : List Frame} {meth : Method} {c : Code} {H : Heap} {locs : List Loc} {cells slots : Nat} {G : GP} {A : Nat → Prop} {S0 : MS} {ls : Array Slot} (C : CF p l s m args meth c "SkirmishGridModel" cX9_undo 2 G A) (hr : meth.sig.returnType = (some .int)) (hex : ∀ x ∈ c.exceptionTable.toList, False) (Q : Int32 → MS → Prop) (QX : String → MS → Prop) (S : MS) (a0 : Nat) (p_a0 : pI S 9 a0) (P : PW G A s H locs S0 S) (hl : lv_has ls 2 [(0, .ref a0)]) (hcc : cells + 0 ≤ 0) (hss : slots + 0 ≤ 0) (hw : wX9_undo_0 Q QX S a0) : W p l e rmX9_undo s m args below meth c H locs cells slots (vx_MQ below (QI G S0 A Q) (XX G S0 A QX) args s 0 0 A) (F0 m 0 ls []) := by
  have hx := CF_x C
  have hb := CF_b C
  unfold wX9_undo_0 at hw
  refine lv_aload_n hx hb dX9_undo_0 rfl (lv_at hl 0 rfl) ?_
  refine lv_aload_n hx hb dX9_undo_1 rfl (lv_at hl 0 rfl) ?_
  refine gf_9_9 C P p_a0 q_1314 dX9_undo_2 ?_
  refine lv_if_ne (tgt := 12) hx hb dX9_undo_5 (by decide) (fun hc => ?_) (fun hc => ?_)
  · have hw := hw.1 hc
    refine lv_iconst (v := 0) hx hb dX9_undo_12 (by decide) ?_
    exact tX9_undo_13 C hr hex Q QX S a0 0 a0 p_a0 p_a0 P (lv_sub hl [0] rfl) (by omega) (by omega) hw
  · have hw := hw.2 hc
    refine lv_iconst (v := 1) hx hb dX9_undo_8 (by decide) ?_
    refine lv_goto (tgt := 13) hx hb dX9_undo_9 (by decide) ?_
    exact tX9_undo_13 C hr hex Q QX S a0 1 a0 p_a0 p_a0 P (lv_sub hl [0] rfl) (by omega) (by omega) hw
def wp_X9_undo (Q : Int32 → MS → Prop) (QX : String → MS → Prop) (S : MS) (a0 : Nat) : Prop := wX9_undo_0 Q QX S a0
set_option maxHeartbeats 4000000 in
set_option maxRecDepth 100000 in
theorem met_X9_undo {l : Launch} (hst : l.stackTraces = false) (G : GP) (sz : Nat) (Q : Int32 → MS → Prop) (QX : String → MS → Prop) (S : MS) (a0 : Nat) (p_a0 : pI S 9 a0) (hw : wp_X9_undo Q QX S a0) : vx_Met l yX9_undo (.code yX9_undo cX9_undo 2 (some .int) :: GW) rmX9_undo (va_Pc [.ref a0] (PR G S sz)) (QI G S (FA G S sz) Q) (XX G S (FA G S sz) QX) 0 0 (FA G S sz) := by
  refine st_m (by decide +kernel) hst (fun p e s m below meth c C hr hnm hex P => ?_)
  refine en_m (Nat.le_of_ble_eq_true rfl) (lv := [(0, .ref a0)]) rfl (fun ls hl => ?_)
  have C : CF p l s m _ meth c "SkirmishGridModel" cX9_undo 2 G (FA G S sz) := C
  exact tX9_undo_0 C hr hex Q QX S a0 p_a0 P hl (by omega) (by omega) hw
theorem cd_X9_undo : yX9_undo.cls = RX9 ∧ yX9_undo.cls ≠ "java/lang/invoke/MethodHandle" ∧ yX9_undo.cls ≠ "java/lang/invoke/VarHandle" ∧ (parseMethodDescriptor yX9_undo.desc).map (fun d => d.parameters.length) = some 0 := by decide +kernel
abbrev rmX9_isReplayed : Room := { frames := 7, cells := 0, slots := 0, locals := 173 }
def wX9_isReplayed_161 (Q : Int32 → MS → Prop) (QX : String → MS → Prop) (k108 : MS → Nat → Int32 → Int32 → Prop) (S : MS) (a0 : Nat) (y2 : Int32) (z0 : Int32) (z1 : Int32) : Prop := k108 S a0 (z1 &&& z0) (y2 + 1)
set_option maxHeartbeats 4000000 in
set_option maxRecDepth 100000 in
theorem tX9_isReplayed_161 {p : Program} {l : Launch} {e : Env} {s : State} {m : MethodId} {args : Array Value} {below : List Frame} {meth : Method} {c : Code} {H : Heap} {locs : List Loc} {cells slots : Nat} {G : GP} {A : Nat → Prop} {S0 : MS} {ls : Array Slot} (C : CF p l s m args meth c "SkirmishGridModel" cX9_isReplayed 3 G A) (hr : meth.sig.returnType = (some .boolean)) (hex : ∀ x ∈ c.exceptionTable.toList, False) (Q : Int32 → MS → Prop) (QX : String → MS → Prop) (k108 : MS → Nat → Int32 → Int32 → Prop) (kh108 : ∀ (S : MS) (a0 : Nat) (y1 : Int32) (y2 : Int32) (cells slots : Nat) (H : Heap) (locs : List Loc) (ls : Array Slot), pI S 9 a0 → PW G A s H locs S0 S → lv_has ls 3 [(0, .ref a0), (1, .int y1), (2, .int y2)] → cells + 0 ≤ 0 → slots + 0 ≤ 0 → k108 S a0 y1 y2 → W p l e rmX9_isReplayed s m args below meth c H locs cells slots (vx_MQ below (QI G S0 A Q) (XX G S0 A QX) args s 0 0 A) (F0 m 108 ls [])) (S : MS) (a0 : Nat) (y2 : Int32) (z0 : Int32) (z1 : Int32) (p_a0 : pI S 9 a0) (P : PW G A s H locs S0 S) (hl : lv_has ls 3 [(0, .ref a0), (2, .int y2)]) (hcc : cells + 0 ≤ 0) (hss : slots + 0 ≤ 0) (hw : wX9_isReplayed_161 Q QX k108 S a0 y2 z0 z1) : W p l e rmX9_isReplayed s m args below meth c H locs cells slots (vx_MQ below (QI G S0 A Q) (XX G S0 A QX) args s 0 0 A) (F0 m 161 ls [.int z0, .int z1]) := by
  have hx := CF_x C
  have hb := CF_b C
  unfold wX9_isReplayed_161 at hw
  refine lv_iand hx hb dX9_isReplayed_161 ?_
  refine lv_istore_n (lv' := [(1, .int (z1 &&& z0)), (0, .ref a0), (2, .int y2)]) hx hb dX9_isReplayed_162 rfl hl (by decide) rfl (fun ls hl => ?_)
  refine lv_iinc (v := (y2 + 1)) (lv' := [(2, .int (y2 + 1)), (1, .int (z1 &&& z0)), (0, .ref a0)]) hx hb dX9_isReplayed_163 hl (k := 2) rfl (by rfl) (by decide) rfl (fun ls hl => ?_)
  refine lv_goto (tgt := 108) hx hb dX9_isReplayed_166 (by decide) ?_
  exact kh108 S a0 (z1 &&& z0) (y2 + 1) _ _ _ _ _ p_a0 P (lv_sub hl [2, 1, 0] rfl) (by omega) (by omega) hw
def wX9_isReplayed_156 (Q : Int32 → MS → Prop) (QX : String → MS → Prop) (k108 : MS → Nat → Int32 → Int32 → Prop) (S : MS) (a0 : Nat) (y2 : Int32) (z0 : Int32) : Prop := wX9_isReplayed_161 Q QX k108 S a0 y2 1 z0
set_option maxHeartbeats 4000000 in
set_option maxRecDepth 100000 in
theorem tX9_isReplayed_156 {p : Program} {l : Launch} {e : Env} {s : State} {m : MethodId} {args : Array Value} {below : List Frame} {meth : Method} {c : Code} {H : Heap} {locs : List Loc} {cells slots : Nat} {G : GP} {A : Nat → Prop} {S0 : MS} {ls : Array Slot} (C : CF p l s m args meth c "SkirmishGridModel" cX9_isReplayed 3 G A) (hr : meth.sig.returnType = (some .boolean)) (hex : ∀ x ∈ c.exceptionTable.toList, False) (Q : Int32 → MS → Prop) (QX : String → MS → Prop) (k108 : MS → Nat → Int32 → Int32 → Prop) (kh108 : ∀ (S : MS) (a0 : Nat) (y1 : Int32) (y2 : Int32) (cells slots : Nat) (H : Heap) (locs : List Loc) (ls : Array Slot), pI S 9 a0 → PW G A s H locs S0 S → lv_has ls 3 [(0, .ref a0), (1, .int y1), (2, .int y2)] → cells + 0 ≤ 0 → slots + 0 ≤ 0 → k108 S a0 y1 y2 → W p l e rmX9_isReplayed s m args below meth c H locs cells slots (vx_MQ below (QI G S0 A Q) (XX G S0 A QX) args s 0 0 A) (F0 m 108 ls [])) (S : MS) (a0 : Nat) (y2 : Int32) (z0 : Int32) (p_a0 : pI S 9 a0) (P : PW G A s H locs S0 S) (hl : lv_has ls 3 [(0, .ref a0), (2, .int y2)]) (hcc : cells + 0 ≤ 0) (hss : slots + 0 ≤ 0) (hw : wX9_isReplayed_156 Q QX k108 S a0 y2 z0) : W p l e rmX9_isReplayed s m args below meth c H locs cells slots (vx_MQ below (QI G S0 A Q) (XX G S0 A QX) args s 0 0 A) (F0 m 156 ls [.int z0]) := by
  have hx := CF_x C
  have hb := CF_b C
  unfold wX9_isReplayed_156 at hw
  refine lv_iconst (v := 1) hx hb dX9_isReplayed_156 (by decide) ?_
  refine lv_goto (tgt := 161) hx hb dX9_isReplayed_157 (by decide) ?_
  exact tX9_isReplayed_161 C hr hex Q QX k108 kh108 S a0 y2 1 z0 p_a0 P (lv_sub hl [0, 1] rfl) (by omega) (by omega) hw
def wX9_isReplayed_160 (Q : Int32 → MS → Prop) (QX : String → MS → Prop) (k108 : MS → Nat → Int32 → Int32 → Prop) (S : MS) (a0 : Nat) (y2 : Int32) (z0 : Int32) : Prop := wX9_isReplayed_161 Q QX k108 S a0 y2 0 z0
set_option maxHeartbeats 4000000 in
set_option maxRecDepth 100000 in
theorem tX9_isReplayed_160 {p : Program} {l : Launch} {e : Env} {s : State} {m : MethodId} {args : Array Value} {below : List Frame} {meth : Method} {c : Code} {H : Heap} {locs : List Loc} {cells slots : Nat} {G : GP} {A : Nat → Prop} {S0 : MS} {ls : Array Slot} (C : CF p l s m args meth c "SkirmishGridModel" cX9_isReplayed 3 G A) (hr : meth.sig.returnType = (some .boolean)) (hex : ∀ x ∈ c.exceptionTable.toList, False) (Q : Int32 → MS → Prop) (QX : String → MS → Prop) (k108 : MS → Nat → Int32 → Int32 → Prop) (kh108 : ∀ (S : MS) (a0 : Nat) (y1 : Int32) (y2 : Int32) (cells slots : Nat) (H : Heap) (locs : List Loc) (ls : Array Slot), pI S 9 a0 → PW G A s H locs S0 S → lv_has ls 3 [(0, .ref a0), (1, .int y1), (2, .int y2)] → cells + 0 ≤ 0 → slots + 0 ≤ 0 → k108 S a0 y1 y2 → W p l e rmX9_isReplayed s m args below meth c H locs cells slots (vx_MQ below (QI G S0 A Q) (XX G S0 A QX) args s 0 0 A) (F0 m 108 ls [])) (S : MS) (a0 : Nat) (y2 : Int32) (z0 : Int32) (p_a0 : pI S 9 a0) (P : PW G A s H locs S0 S) (hl : lv_has ls 3 [(0, .ref a0), (2, .int y2)]) (hcc : cells + 0 ≤ 0) (hss : slots + 0 ≤ 0) (hw : wX9_isReplayed_160 Q QX k108 S a0 y2 z0) : W p l e rmX9_isReplayed s m args below meth c H locs cells slots (vx_MQ below (QI G S0 A Q) (XX G S0 A QX) args s 0 0 A) (F0 m 160 ls [.int z0]) := by
  have hx := CF_x C
  have hb := CF_b C
  unfold wX9_isReplayed_160 at hw
  refine lv_iconst (v := 0) hx hb dX9_isReplayed_160 (by decide) ?_
  exact tX9_isReplayed_161 C hr hex Q QX k108 kh108 S a0 y2 0 z0 p_a0 P (lv_sub hl [0, 1] rfl) (by omega) (by omega) hw
def wX9_isReplayed_108 (Q : Int32 → MS → Prop) (QX : String → MS → Prop) (k108 : MS → Nat → Int32 → Int32 → Prop) (S : MS) (a0 : Nat) (y1 : Int32) (y2 : Int32) : Prop := ((290 ≤ y2 → (∃ a1, mR S a0 5 = some a1 ∧ (∃ a2, mR S a0 1 = some a2 ∧ wp_X9_copies (fun S3 => (isZ y1 ∧ Q y1 S3)) QX S a1 a2 290))) ∧ (¬ 290 ≤ y2 → (∃ a4, mR S a0 1 = some a4 ∧ (vp_in y2 (mN S a4) ∧ (∃ a5, mR S a0 5 = some a5 ∧ (vp_in y2 (mN S a5) ∧ (((mI S a4 (y2 : Int32).toNatClampNeg) = (mI S a5 (y2 : Int32).toNatClampNeg) → wX9_isReplayed_156 Q QX k108 S a0 y2 y1) ∧ (¬ (mI S a4 (y2 : Int32).toNatClampNeg) = (mI S a5 (y2 : Int32).toNatClampNeg) → (∃ a6, mR S a0 1 = some a6 ∧ (vp_in 168 (mN S a6) ∧ ((y2 < (169 + (3 * (mI S a6 (168 : Int32).toNatClampNeg))) → wX9_isReplayed_160 Q QX k108 S a0 y2 y1) ∧ (¬ y2 < (169 + (3 * (mI S a6 (168 : Int32).toNatClampNeg))) → ((289 ≤ y2 → wX9_isReplayed_160 Q QX k108 S a0 y2 y1) ∧ (¬ 289 ≤ y2 → wX9_isReplayed_156 Q QX k108 S a0 y2 y1))))))))))))))
set_option maxHeartbeats 4000000 in
set_option maxRecDepth 100000 in
theorem tX9_isReplayed_108 {p : Program} {l : Launch} {e : Env} {s : State} {m : MethodId} {args : Array Value} {below : List Frame} {meth : Method} {c : Code} {H : Heap} {locs : List Loc} {cells slots : Nat} {G : GP} {A : Nat → Prop} {S0 : MS} {ls : Array Slot} (C : CF p l s m args meth c "SkirmishGridModel" cX9_isReplayed 3 G A) (hr : meth.sig.returnType = (some .boolean)) (hex : ∀ x ∈ c.exceptionTable.toList, False) (Q : Int32 → MS → Prop) (QX : String → MS → Prop) (k108 : MS → Nat → Int32 → Int32 → Prop) (kh108 : ∀ (S : MS) (a0 : Nat) (y1 : Int32) (y2 : Int32) (cells slots : Nat) (H : Heap) (locs : List Loc) (ls : Array Slot), pI S 9 a0 → PW G A s H locs S0 S → lv_has ls 3 [(0, .ref a0), (1, .int y1), (2, .int y2)] → cells + 0 ≤ 0 → slots + 0 ≤ 0 → k108 S a0 y1 y2 → W p l e rmX9_isReplayed s m args below meth c H locs cells slots (vx_MQ below (QI G S0 A Q) (XX G S0 A QX) args s 0 0 A) (F0 m 108 ls [])) (S : MS) (a0 : Nat) (y1 : Int32) (y2 : Int32) (p_a0 : pI S 9 a0) (P : PW G A s H locs S0 S) (hl : lv_has ls 3 [(0, .ref a0), (1, .int y1), (2, .int y2)]) (hcc : cells + 0 ≤ 0) (hss : slots + 0 ≤ 0) (hw : wX9_isReplayed_108 Q QX k108 S a0 y1 y2) : W p l e rmX9_isReplayed s m args below meth c H locs cells slots (vx_MQ below (QI G S0 A Q) (XX G S0 A QX) args s 0 0 A) (F0 m 108 ls []) := by
  have hx := CF_x C
  have hb := CF_b C
  unfold wX9_isReplayed_108 at hw
  refine lv_iload_n hx hb dX9_isReplayed_108 rfl (lv_at hl 2 rfl) ?_
  refine lv_sipush (v := 290) hx hb dX9_isReplayed_109 (by decide) ?_
  refine lv_icmp_ge (tgt := 169) hx hb dX9_isReplayed_112 (by decide) (fun hc => ?_) (fun hc => ?_)
  · have hw := hw.1 hc
    refine lv_aload_n hx hb dX9_isReplayed_169 rfl (lv_at hl 0 rfl) ?_
    obtain ⟨a1, e1, hw⟩ := hw
    have p_a1 : pI S 12 a1 := wf_r P.2.2.2.1 p_a0 e1
    refine gf_9_5 C P p_a0 e1 q_1310 dX9_isReplayed_170 ?_
    refine lv_aload_n hx hb dX9_isReplayed_173 rfl (lv_at hl 0 rfl) ?_
    obtain ⟨a2, e1, hw⟩ := hw
    have p_a2 : pI S 12 a2 := wf_r P.2.2.2.1 p_a0 e1
    refine gf_9_1 C P p_a0 e1 q_1306 dX9_isReplayed_174 ?_
    refine lv_sipush (v := 290) hx hb dX9_isReplayed_177 (by decide) ?_
    refine cl_v C P (run_S C P hl.1 (met_X9_copies (CF_n C) G H.size _ _ S a1 a2 290 p_a1 p_a2 hw) q_1512 q_1513 q_10 q_1514 cd_X9_copies.2 ⟨(Nat.le_of_ble_eq_true rfl), (Nat.le_of_ble_eq_true rfl)⟩ rfl rfl (As := [.ref a1, .ref a2, .int 290]) (rest := []) rfl rfl (Nat.le_of_ble_eq_true rfl) dX9_isReplayed_180 ⟨by show cells + 0 ≤ 0; omega, by show slots + 0 ≤ 0; omega⟩) (kx_out C hex (fun _ _ _ h => h) (by omega) (by omega)) (fun S3 H locs P hE hw => ?_)
    have p_a1 : pI S3 12 a1 := pI_x hE p_a1
    have p_a2 : pI S3 12 a2 := pI_x hE p_a2
    refine lv_iload_n hx hb dX9_isReplayed_183 rfl (lv_at hl 1 rfl) ?_
    obtain ⟨h1, hw⟩ := hw
    exact e_i C hr (nz h1) P hw (by omega) (by omega) dX9_isReplayed_184
  · have hw := hw.2 hc
    refine lv_iload_n hx hb dX9_isReplayed_115 rfl (lv_at hl 1 rfl) ?_
    refine lv_aload_n hx hb dX9_isReplayed_116 rfl (lv_at hl 0 rfl) ?_
    obtain ⟨a4, e1, hw⟩ := hw
    have p_a4 : pI S 12 a4 := wf_r P.2.2.2.1 p_a0 e1
    refine gf_9_1 C P p_a0 e1 q_1306 dX9_isReplayed_117 ?_
    refine lv_iload_n hx hb dX9_isReplayed_120 rfl (lv_at hl 2 rfl) ?_
    obtain ⟨h1, hw⟩ := hw
    refine ra_i C P p_a4 h1 dX9_isReplayed_121 ?_
    refine lv_aload_n hx hb dX9_isReplayed_122 rfl (lv_at hl 0 rfl) ?_
    obtain ⟨a5, e1, hw⟩ := hw
    have p_a5 : pI S 12 a5 := wf_r P.2.2.2.1 p_a0 e1
    refine gf_9_5 C P p_a0 e1 q_1310 dX9_isReplayed_123 ?_
    refine lv_iload_n hx hb dX9_isReplayed_126 rfl (lv_at hl 2 rfl) ?_
    obtain ⟨h1, hw⟩ := hw
    refine ra_i C P p_a5 h1 dX9_isReplayed_127 ?_
    refine lv_icmp_eq (tgt := 156) hx hb dX9_isReplayed_128 (by decide) (fun hc => ?_) (fun hc => ?_)
    · have hw := hw.1 hc
      exact tX9_isReplayed_156 C hr hex Q QX k108 kh108 S a0 y2 y1 p_a0 P (lv_sub hl [0, 2] rfl) (by omega) (by omega) hw
    · have hw := hw.2 hc
      refine lv_iload_n hx hb dX9_isReplayed_131 rfl (lv_at hl 2 rfl) ?_
      refine lv_sipush (v := 169) hx hb dX9_isReplayed_132 (by decide) ?_
      refine lv_iconst (v := 3) hx hb dX9_isReplayed_135 (by decide) ?_
      refine lv_aload_n hx hb dX9_isReplayed_136 rfl (lv_at hl 0 rfl) ?_
      obtain ⟨a6, e1, hw⟩ := hw
      have p_a6 : pI S 12 a6 := wf_r P.2.2.2.1 p_a0 e1
      refine gf_9_1 C P p_a0 e1 q_1306 dX9_isReplayed_137 ?_
      refine lv_sipush (v := 168) hx hb dX9_isReplayed_140 (by decide) ?_
      obtain ⟨h1, hw⟩ := hw
      refine ra_i C P p_a6 h1 dX9_isReplayed_143 ?_
      refine lv_imul hx hb dX9_isReplayed_144 ?_
      refine lv_iadd hx hb dX9_isReplayed_145 ?_
      refine lv_icmp_lt (tgt := 160) hx hb dX9_isReplayed_146 (by decide) (fun hc => ?_) (fun hc => ?_)
      · have hw := hw.1 hc
        exact tX9_isReplayed_160 C hr hex Q QX k108 kh108 S a0 y2 y1 p_a0 P (lv_sub hl [0, 2] rfl) (by omega) (by omega) hw
      · have hw := hw.2 hc
        refine lv_iload_n hx hb dX9_isReplayed_149 rfl (lv_at hl 2 rfl) ?_
        refine lv_sipush (v := 289) hx hb dX9_isReplayed_150 (by decide) ?_
        refine lv_icmp_ge (tgt := 160) hx hb dX9_isReplayed_153 (by decide) (fun hc => ?_) (fun hc => ?_)
        · have hw := hw.1 hc
          exact tX9_isReplayed_160 C hr hex Q QX k108 kh108 S a0 y2 y1 p_a0 P (lv_sub hl [0, 2] rfl) (by omega) (by omega) hw
        · have hw := hw.2 hc
          exact tX9_isReplayed_156 C hr hex Q QX k108 kh108 S a0 y2 y1 p_a0 P (lv_sub hl [0, 2] rfl) (by omega) (by omega) hw
def lX9_isReplayed_108 (Q : Int32 → MS → Prop) (QX : String → MS → Prop) : Nat → MS → Nat → Int32 → Int32 → Prop
  | 0 => fun _ _ _ _ => False
  | n + 1 => fun S a0 y1 y2 => wX9_isReplayed_108 Q QX (lX9_isReplayed_108 Q QX n) S a0 y1 y2
theorem tlX9_isReplayed_108 {p : Program} {l : Launch} {e : Env} {s : State} {m : MethodId} {args : Array Value} {below : List Frame} {meth : Method} {c : Code} {G : GP} {A : Nat → Prop} {S0 : MS} (C : CF p l s m args meth c "SkirmishGridModel" cX9_isReplayed 3 G A) (hr : meth.sig.returnType = (some .boolean)) (hex : ∀ x ∈ c.exceptionTable.toList, False) (Q : Int32 → MS → Prop) (QX : String → MS → Prop) : ∀ (n : Nat), ∀ (S : MS) (a0 : Nat) (y1 : Int32) (y2 : Int32) (cells slots : Nat) (H : Heap) (locs : List Loc) (ls : Array Slot), pI S 9 a0 → PW G A s H locs S0 S → lv_has ls 3 [(0, .ref a0), (1, .int y1), (2, .int y2)] → cells + 0 ≤ 0 → slots + 0 ≤ 0 → lX9_isReplayed_108 Q QX n S a0 y1 y2 → W p l e rmX9_isReplayed s m args below meth c H locs cells slots (vx_MQ below (QI G S0 A Q) (XX G S0 A QX) args s 0 0 A) (F0 m 108 ls []) := by
  intro n
  induction n with
  | zero => intro S a0 y1 y2 cells slots H locs ls p_a0 P hl hcc hss hw; exact hw.elim
  | succ n ih => intro S a0 y1 y2 cells slots H locs ls p_a0 P hl hcc hss hw; exact tX9_isReplayed_108 C hr hex Q QX (lX9_isReplayed_108 Q QX n) ih S a0 y1 y2 p_a0 P hl hcc hss hw
def wX9_isReplayed_60 (Q : Int32 → MS → Prop) (QX : String → MS → Prop) (k60 : MS → Nat → Int32 → Prop) (S : MS) (a0 : Nat) (y1 : Int32) : Prop := (∃ a1, mR S a0 5 = some a1 ∧ (vp_in 289 (mN S a1) ∧ (((mI S a1 (289 : Int32).toNatClampNeg) ≤ y1 → (∃ n, lX9_isReplayed_108 Q QX n S a0 1 0)) ∧ (¬ (mI S a1 (289 : Int32).toNatClampNeg) ≤ y1 → (∃ a2, mR S a0 7 = some a2 ∧ (vp_in (2 * y1) (mN S a2) ∧ (∃ a3, mR S a0 7 = some a3 ∧ (vp_in ((2 * y1) + 1) (mN S a3) ∧ wp_X9_does (fun r5 S4 => (∀ S6, S6 = (sI S4 a0 18 r5) → k60 S6 a0 (y1 + 1))) QX S a0 (mI S a2 ((2 * y1) : Int32).toNatClampNeg) (mI S a3 (((2 * y1) + 1) : Int32).toNatClampNeg)))))))))
set_option maxHeartbeats 4000000 in
set_option maxRecDepth 100000 in
theorem tX9_isReplayed_60 {p : Program} {l : Launch} {e : Env} {s : State} {m : MethodId} {args : Array Value} {below : List Frame} {meth : Method} {c : Code} {H : Heap} {locs : List Loc} {cells slots : Nat} {G : GP} {A : Nat → Prop} {S0 : MS} {ls : Array Slot} (C : CF p l s m args meth c "SkirmishGridModel" cX9_isReplayed 3 G A) (hr : meth.sig.returnType = (some .boolean)) (hex : ∀ x ∈ c.exceptionTable.toList, False) (Q : Int32 → MS → Prop) (QX : String → MS → Prop) (k60 : MS → Nat → Int32 → Prop) (kh60 : ∀ (S : MS) (a0 : Nat) (y1 : Int32) (cells slots : Nat) (H : Heap) (locs : List Loc) (ls : Array Slot), pI S 9 a0 → PW G A s H locs S0 S → lv_has ls 3 [(0, .ref a0), (1, .int y1)] → cells + 0 ≤ 0 → slots + 0 ≤ 0 → k60 S a0 y1 → W p l e rmX9_isReplayed s m args below meth c H locs cells slots (vx_MQ below (QI G S0 A Q) (XX G S0 A QX) args s 0 0 A) (F0 m 60 ls [])) (S : MS) (a0 : Nat) (y1 : Int32) (p_a0 : pI S 9 a0) (P : PW G A s H locs S0 S) (hl : lv_has ls 3 [(0, .ref a0), (1, .int y1)]) (hcc : cells + 0 ≤ 0) (hss : slots + 0 ≤ 0) (hw : wX9_isReplayed_60 Q QX k60 S a0 y1) : W p l e rmX9_isReplayed s m args below meth c H locs cells slots (vx_MQ below (QI G S0 A Q) (XX G S0 A QX) args s 0 0 A) (F0 m 60 ls []) := by
  have hx := CF_x C
  have hb := CF_b C
  unfold wX9_isReplayed_60 at hw
  refine lv_iload_n hx hb dX9_isReplayed_60 rfl (lv_at hl 1 rfl) ?_
  refine lv_aload_n hx hb dX9_isReplayed_61 rfl (lv_at hl 0 rfl) ?_
  obtain ⟨a1, e1, hw⟩ := hw
  have p_a1 : pI S 12 a1 := wf_r P.2.2.2.1 p_a0 e1
  refine gf_9_5 C P p_a0 e1 q_1310 dX9_isReplayed_62 ?_
  refine lv_sipush (v := 289) hx hb dX9_isReplayed_65 (by decide) ?_
  obtain ⟨h1, hw⟩ := hw
  refine ra_i C P p_a1 h1 dX9_isReplayed_68 ?_
  refine lv_icmp_ge (tgt := 104) hx hb dX9_isReplayed_69 (by decide) (fun hc => ?_) (fun hc => ?_)
  · have hw := hw.1 hc
    refine lv_iconst (v := 1) hx hb dX9_isReplayed_104 (by decide) ?_
    refine lv_istore_n (lv' := [(1, .int 1), (0, .ref a0)]) hx hb dX9_isReplayed_105 rfl hl (by decide) rfl (fun ls hl => ?_)
    refine lv_iconst (v := 0) hx hb dX9_isReplayed_106 (by decide) ?_
    refine lv_istore_n (lv' := [(2, .int 0), (1, .int 1), (0, .ref a0)]) hx hb dX9_isReplayed_107 rfl hl (by decide) rfl (fun ls hl => ?_)
    obtain ⟨n, hw⟩ := hw
    exact tlX9_isReplayed_108 C hr hex Q QX n S a0 1 0 _ _ _ _ _ p_a0 P (lv_sub hl [2, 1, 0] rfl) (by omega) (by omega) hw
  · have hw := hw.2 hc
    refine lv_aload_n hx hb dX9_isReplayed_72 rfl (lv_at hl 0 rfl) ?_
    refine lv_aload_n hx hb dX9_isReplayed_73 rfl (lv_at hl 0 rfl) ?_
    refine lv_aload_n hx hb dX9_isReplayed_74 rfl (lv_at hl 0 rfl) ?_
    obtain ⟨a2, e1, hw⟩ := hw
    have p_a2 : pI S 12 a2 := wf_r P.2.2.2.1 p_a0 e1
    refine gf_9_7 C P p_a0 e1 q_1312 dX9_isReplayed_75 ?_
    refine lv_iconst (v := 2) hx hb dX9_isReplayed_78 (by decide) ?_
    refine lv_iload_n hx hb dX9_isReplayed_79 rfl (lv_at hl 1 rfl) ?_
    refine lv_imul hx hb dX9_isReplayed_80 ?_
    obtain ⟨h1, hw⟩ := hw
    refine ra_i C P p_a2 h1 dX9_isReplayed_81 ?_
    refine lv_aload_n hx hb dX9_isReplayed_82 rfl (lv_at hl 0 rfl) ?_
    obtain ⟨a3, e1, hw⟩ := hw
    have p_a3 : pI S 12 a3 := wf_r P.2.2.2.1 p_a0 e1
    refine gf_9_7 C P p_a0 e1 q_1312 dX9_isReplayed_83 ?_
    refine lv_iconst (v := 2) hx hb dX9_isReplayed_86 (by decide) ?_
    refine lv_iload_n hx hb dX9_isReplayed_87 rfl (lv_at hl 1 rfl) ?_
    refine lv_imul hx hb dX9_isReplayed_88 ?_
    refine lv_iconst (v := 1) hx hb dX9_isReplayed_89 (by decide) ?_
    refine lv_iadd hx hb dX9_isReplayed_90 ?_
    obtain ⟨h1, hw⟩ := hw
    refine ra_i C P p_a3 h1 dX9_isReplayed_91 ?_
    refine cl_i C P (run_V C P hl.1 (kd := 9) (met_X9_does (CF_n C) G H.size _ _ S a0 (mI S a2 ((2 * y1) : Int32).toNatClampNeg) (mI S a3 (((2 * y1) + 1) : Int32).toNatClampNeg) p_a0 hw) p_a0 (by decide) rfl q_1638 q_1640 q_p64 q_10 q_1641 cd_X9_does ⟨(Nat.le_of_ble_eq_true rfl), (Nat.le_of_ble_eq_true rfl)⟩ rfl rfl (As := [.int (mI S a2 ((2 * y1) : Int32).toNatClampNeg), .int (mI S a3 (((2 * y1) + 1) : Int32).toNatClampNeg)]) (rest := [.ref a0]) rfl rfl (Nat.le_of_ble_eq_true rfl) dX9_isReplayed_92 ⟨by show cells + 0 ≤ 0; omega, by show slots + 0 ≤ 0; omega⟩) (kx_out C hex (fun _ _ _ h => h) (by omega) (by omega)) (fun r5 S4 H locs P hE hw => ?_)
    have p_a0 : pI S4 9 a0 := pI_x hE p_a0
    refine pf_9_18 C P p_a0 q_1323 dX9_isReplayed_95 (fun H locs P => ?_)
    obtain ⟨S6, hS⟩ : ∃ z, z = (sI S4 a0 18 r5) := ⟨_, rfl⟩
    have P : PW G A s H locs S0 S6 := by rw [hS]; exact P
    have p_a0 : pI S6 9 a0 := by rw [hS]; exact pI_x ext_sI p_a0
    have hw := hw S6 hS
    refine lv_iinc (v := (y1 + 1)) (lv' := [(1, .int (y1 + 1)), (0, .ref a0)]) hx hb dX9_isReplayed_98 hl (k := 1) rfl (by rfl) (by decide) rfl (fun ls hl => ?_)
    refine lv_goto (tgt := 60) hx hb dX9_isReplayed_101 (by decide) ?_
    exact kh60 S6 a0 (y1 + 1) _ _ _ _ _ p_a0 P (lv_sub hl [1, 0] rfl) (by omega) (by omega) hw
def lX9_isReplayed_60 (Q : Int32 → MS → Prop) (QX : String → MS → Prop) : Nat → MS → Nat → Int32 → Prop
  | 0 => fun _ _ _ => False
  | n + 1 => fun S a0 y1 => wX9_isReplayed_60 Q QX (lX9_isReplayed_60 Q QX n) S a0 y1
theorem tlX9_isReplayed_60 {p : Program} {l : Launch} {e : Env} {s : State} {m : MethodId} {args : Array Value} {below : List Frame} {meth : Method} {c : Code} {G : GP} {A : Nat → Prop} {S0 : MS} (C : CF p l s m args meth c "SkirmishGridModel" cX9_isReplayed 3 G A) (hr : meth.sig.returnType = (some .boolean)) (hex : ∀ x ∈ c.exceptionTable.toList, False) (Q : Int32 → MS → Prop) (QX : String → MS → Prop) : ∀ (n : Nat), ∀ (S : MS) (a0 : Nat) (y1 : Int32) (cells slots : Nat) (H : Heap) (locs : List Loc) (ls : Array Slot), pI S 9 a0 → PW G A s H locs S0 S → lv_has ls 3 [(0, .ref a0), (1, .int y1)] → cells + 0 ≤ 0 → slots + 0 ≤ 0 → lX9_isReplayed_60 Q QX n S a0 y1 → W p l e rmX9_isReplayed s m args below meth c H locs cells slots (vx_MQ below (QI G S0 A Q) (XX G S0 A QX) args s 0 0 A) (F0 m 60 ls []) := by
  intro n
  induction n with
  | zero => intro S a0 y1 cells slots H locs ls p_a0 P hl hcc hss hw; exact hw.elim
  | succ n ih => intro S a0 y1 cells slots H locs ls p_a0 P hl hcc hss hw; exact tX9_isReplayed_60 C hr hex Q QX (lX9_isReplayed_60 Q QX n) ih S a0 y1 p_a0 P hl hcc hss hw
def wX9_isReplayed_13 (Q : Int32 → MS → Prop) (QX : String → MS → Prop) (S : MS) (a0 : Nat) (z0 : Int32) (w1 : Nat) : Prop := (∀ S1, S1 = (sI S w1 0 z0) → ((¬ (mI S1 a0 0) = 1 → (∃ a2, mR S1 a0 1 = some a2 ∧ (∃ a3, mR S1 a0 5 = some a3 ∧ wp_X9_copies (fun S4 => (∃ a5, mR S4 a0 2 = some a5 ∧ (∃ a6, mR S4 a0 1 = some a6 ∧ wp_X9_copies (fun S7 => wp_X9_fights (fun S8 => (∃ n, lX9_isReplayed_60 Q QX n S8 a0 0)) QX S7 a0) QX S4 a5 a6 290))) QX S1 a2 a3 290))) ∧ ((mI S1 a0 0) = 1 → Q 0 S1)))
set_option maxHeartbeats 4000000 in
set_option maxRecDepth 100000 in
theorem tX9_isReplayed_13 {p : Program} {l : Launch} {e : Env} {s : State} {m : MethodId} {args : Array Value} {below : List Frame} {meth : Method} {c : Code} {H : Heap} {locs : List Loc} {cells slots : Nat} {G : GP} {A : Nat → Prop} {S0 : MS} {ls : Array Slot} (C : CF p l s m args meth c "SkirmishGridModel" cX9_isReplayed 3 G A) (hr : meth.sig.returnType = (some .boolean)) (hex : ∀ x ∈ c.exceptionTable.toList, False) (Q : Int32 → MS → Prop) (QX : String → MS → Prop) (S : MS) (a0 : Nat) (z0 : Int32) (w1 : Nat) (p_a0 : pI S 9 a0) (p_w1 : pI S 9 w1) (P : PW G A s H locs S0 S) (hl : lv_has ls 3 [(0, .ref a0)]) (hcc : cells + 0 ≤ 0) (hss : slots + 0 ≤ 0) (hw : wX9_isReplayed_13 Q QX S a0 z0 w1) : W p l e rmX9_isReplayed s m args below meth c H locs cells slots (vx_MQ below (QI G S0 A Q) (XX G S0 A QX) args s 0 0 A) (F0 m 13 ls [.int z0, .ref w1]) := by
  have hx := CF_x C
  have hb := CF_b C
  unfold wX9_isReplayed_13 at hw
  refine pf_9_0 C P p_w1 q_1305 dX9_isReplayed_13 (fun H locs P => ?_)
  obtain ⟨S1, hS⟩ : ∃ z, z = (sI S w1 0 z0) := ⟨_, rfl⟩
  have P : PW G A s H locs S0 S1 := by rw [hS]; exact P
  have p_a0 : pI S1 9 a0 := by rw [hS]; exact pI_x ext_sI p_a0
  have p_w1 : pI S1 9 w1 := by rw [hS]; exact pI_x ext_sI p_w1
  have hw := hw S1 hS
  refine lv_aload_n hx hb dX9_isReplayed_16 rfl (lv_at hl 0 rfl) ?_
  refine gf_9_0 C P p_a0 q_1305 dX9_isReplayed_17 ?_
  refine lv_iconst (v := 1) hx hb dX9_isReplayed_20 (by decide) ?_
  refine lv_icmp_ne (tgt := 26) hx hb dX9_isReplayed_21 (by decide) (fun hc => ?_) (fun hc => ?_)
  · have hw := hw.1 hc
    refine lv_aload_n hx hb dX9_isReplayed_26 rfl (lv_at hl 0 rfl) ?_
    obtain ⟨a2, e1, hw⟩ := hw
    have p_a2 : pI S1 12 a2 := wf_r P.2.2.2.1 p_a0 e1
    refine gf_9_1 C P p_a0 e1 q_1306 dX9_isReplayed_27 ?_
    refine lv_aload_n hx hb dX9_isReplayed_30 rfl (lv_at hl 0 rfl) ?_
    obtain ⟨a3, e1, hw⟩ := hw
    have p_a3 : pI S1 12 a3 := wf_r P.2.2.2.1 p_a0 e1
    refine gf_9_5 C P p_a0 e1 q_1310 dX9_isReplayed_31 ?_
    refine lv_sipush (v := 290) hx hb dX9_isReplayed_34 (by decide) ?_
    refine cl_v C P (run_S C P hl.1 (met_X9_copies (CF_n C) G H.size _ _ S1 a2 a3 290 p_a2 p_a3 hw) q_1512 q_1513 q_10 q_1514 cd_X9_copies.2 ⟨(Nat.le_of_ble_eq_true rfl), (Nat.le_of_ble_eq_true rfl)⟩ rfl rfl (As := [.ref a2, .ref a3, .int 290]) (rest := []) rfl rfl (Nat.le_of_ble_eq_true rfl) dX9_isReplayed_37 ⟨by show cells + 0 ≤ 0; omega, by show slots + 0 ≤ 0; omega⟩) (kx_out C hex (fun _ _ _ h => h) (by omega) (by omega)) (fun S4 H locs P hE hw => ?_)
    have p_a0 : pI S4 9 a0 := pI_x hE p_a0
    have p_a2 : pI S4 12 a2 := pI_x hE p_a2
    have p_a3 : pI S4 12 a3 := pI_x hE p_a3
    refine lv_aload_n hx hb dX9_isReplayed_40 rfl (lv_at hl 0 rfl) ?_
    obtain ⟨a5, e1, hw⟩ := hw
    have p_a5 : pI S4 12 a5 := wf_r P.2.2.2.1 p_a0 e1
    refine gf_9_2 C P p_a0 e1 q_1307 dX9_isReplayed_41 ?_
    refine lv_aload_n hx hb dX9_isReplayed_44 rfl (lv_at hl 0 rfl) ?_
    obtain ⟨a6, e1, hw⟩ := hw
    have p_a6 : pI S4 12 a6 := wf_r P.2.2.2.1 p_a0 e1
    refine gf_9_1 C P p_a0 e1 q_1306 dX9_isReplayed_45 ?_
    refine lv_sipush (v := 290) hx hb dX9_isReplayed_48 (by decide) ?_
    refine cl_v C P (run_S C P hl.1 (met_X9_copies (CF_n C) G H.size _ _ S4 a5 a6 290 p_a5 p_a6 hw) q_1512 q_1513 q_10 q_1514 cd_X9_copies.2 ⟨(Nat.le_of_ble_eq_true rfl), (Nat.le_of_ble_eq_true rfl)⟩ rfl rfl (As := [.ref a5, .ref a6, .int 290]) (rest := []) rfl rfl (Nat.le_of_ble_eq_true rfl) dX9_isReplayed_51 ⟨by show cells + 0 ≤ 0; omega, by show slots + 0 ≤ 0; omega⟩) (kx_out C hex (fun _ _ _ h => h) (by omega) (by omega)) (fun S7 H locs P hE hw => ?_)
    have p_a0 : pI S7 9 a0 := pI_x hE p_a0
    have p_a5 : pI S7 12 a5 := pI_x hE p_a5
    have p_a6 : pI S7 12 a6 := pI_x hE p_a6
    refine lv_aload_n hx hb dX9_isReplayed_54 rfl (lv_at hl 0 rfl) ?_
    refine cl_v C P (run_V C P hl.1 (kd := 9) (met_X9_fights (CF_n C) G H.size _ _ S7 a0 p_a0 hw) p_a0 (by decide) rfl q_1515 q_1517 q_p40 q_10 q_1518 cd_X9_fights ⟨(Nat.le_of_ble_eq_true rfl), (Nat.le_of_ble_eq_true rfl)⟩ rfl rfl (As := []) (rest := []) rfl rfl (Nat.le_of_ble_eq_true rfl) dX9_isReplayed_55 ⟨by show cells + 0 ≤ 0; omega, by show slots + 0 ≤ 0; omega⟩) (kx_out C hex (fun _ _ _ h => h) (by omega) (by omega)) (fun S8 H locs P hE hw => ?_)
    have p_a0 : pI S8 9 a0 := pI_x hE p_a0
    refine lv_iconst (v := 0) hx hb dX9_isReplayed_58 (by decide) ?_
    refine lv_istore_n (lv' := [(1, .int 0), (0, .ref a0)]) hx hb dX9_isReplayed_59 rfl hl (by decide) rfl (fun ls hl => ?_)
    obtain ⟨n, hw⟩ := hw
    exact tlX9_isReplayed_60 C hr hex Q QX n S8 a0 0 _ _ _ _ _ p_a0 P (lv_sub hl [1, 0] rfl) (by omega) (by omega) hw
  · have hw := hw.2 hc
    refine lv_iconst (v := 0) hx hb dX9_isReplayed_24 (by decide) ?_
    exact e_i C hr (by decide +kernel) P hw (by omega) (by omega) dX9_isReplayed_25
def wX9_isReplayed_0 (Q : Int32 → MS → Prop) (QX : String → MS → Prop) (S : MS) (a0 : Nat) : Prop := wp_X9_hasBegun (fun r2 S1 => ((r2 = 0 → wX9_isReplayed_13 Q QX S1 a0 1 a0) ∧ (¬ r2 = 0 → wX9_isReplayed_13 Q QX S1 a0 0 a0))) QX S a0
set_option maxHeartbeats 4000000 in
set_option maxRecDepth 100000 in
theorem tX9_isReplayed_0 {p : Program} {l : Launch} {e : Env} {s : State} {m : MethodId} {args : Array Value} {below : List Frame} {meth : Method} {c : Code} {H : Heap} {locs : List Loc} {cells slots : Nat} {G : GP} {A : Nat → Prop} {S0 : MS} {ls : Array Slot} (C : CF p l s m args meth c "SkirmishGridModel" cX9_isReplayed 3 G A) (hr : meth.sig.returnType = (some .boolean)) (hex : ∀ x ∈ c.exceptionTable.toList, False) (Q : Int32 → MS → Prop) (QX : String → MS → Prop) (S : MS) (a0 : Nat) (p_a0 : pI S 9 a0) (P : PW G A s H locs S0 S) (hl : lv_has ls 3 [(0, .ref a0)]) (hcc : cells + 0 ≤ 0) (hss : slots + 0 ≤ 0) (hw : wX9_isReplayed_0 Q QX S a0) : W p l e rmX9_isReplayed s m args below meth c H locs cells slots (vx_MQ below (QI G S0 A Q) (XX G S0 A QX) args s 0 0 A) (F0 m 0 ls []) := by
  have hx := CF_x C
  have hb := CF_b C
  unfold wX9_isReplayed_0 at hw
  refine lv_aload_n hx hb dX9_isReplayed_0 rfl (lv_at hl 0 rfl) ?_
  refine lv_aload_n hx hb dX9_isReplayed_1 rfl (lv_at hl 0 rfl) ?_
  refine cl_i C P (run_V C P hl.1 (kd := 9) (met_X9_hasBegun (CF_n C) G H.size _ _ S a0 p_a0 hw) p_a0 (by decide) rfl q_1461 q_1463 q_p35 q_10 q_1464 cd_X9_hasBegun ⟨(Nat.le_of_ble_eq_true rfl), (Nat.le_of_ble_eq_true rfl)⟩ rfl rfl (As := []) (rest := [.ref a0]) rfl rfl (Nat.le_of_ble_eq_true rfl) dX9_isReplayed_2 ⟨by show cells + 0 ≤ 0; omega, by show slots + 0 ≤ 0; omega⟩) (kx_out C hex (fun _ _ _ h => h) (by omega) (by omega)) (fun r2 S1 H locs P hE hw => ?_)
  have p_a0 : pI S1 9 a0 := pI_x hE p_a0
  refine lv_if_eq (tgt := 12) hx hb dX9_isReplayed_5 (by decide) (fun hc => ?_) (fun hc => ?_)
  · have hw := hw.1 hc
    refine lv_iconst (v := 1) hx hb dX9_isReplayed_12 (by decide) ?_
    exact tX9_isReplayed_13 C hr hex Q QX S1 a0 1 a0 p_a0 p_a0 P (lv_sub hl [0] rfl) (by omega) (by omega) hw
  · have hw := hw.2 hc
    refine lv_iconst (v := 0) hx hb dX9_isReplayed_8 (by decide) ?_
    refine lv_goto (tgt := 13) hx hb dX9_isReplayed_9 (by decide) ?_
    exact tX9_isReplayed_13 C hr hex Q QX S1 a0 0 a0 p_a0 p_a0 P (lv_sub hl [0] rfl) (by omega) (by omega) hw
def wp_X9_isReplayed (Q : Int32 → MS → Prop) (QX : String → MS → Prop) (S : MS) (a0 : Nat) : Prop := wX9_isReplayed_0 Q QX S a0
set_option maxHeartbeats 4000000 in
set_option maxRecDepth 100000 in
theorem met_X9_isReplayed {l : Launch} (hst : l.stackTraces = false) (G : GP) (sz : Nat) (Q : Int32 → MS → Prop) (QX : String → MS → Prop) (S : MS) (a0 : Nat) (p_a0 : pI S 9 a0) (hw : wp_X9_isReplayed Q QX S a0) : vx_Met l yX9_isReplayed (.code yX9_isReplayed cX9_isReplayed 3 (some .boolean) :: GW) rmX9_isReplayed (va_Pc [.ref a0] (PR G S sz)) (QI G S (FA G S sz) Q) (XX G S (FA G S sz) QX) 0 0 (FA G S sz) := by
  refine st_m (by decide +kernel) hst (fun p e s m below meth c C hr hnm hex P => ?_)
  refine en_m (Nat.le_of_ble_eq_true rfl) (lv := [(0, .ref a0)]) rfl (fun ls hl => ?_)
  have C : CF p l s m _ meth c "SkirmishGridModel" cX9_isReplayed 3 G (FA G S sz) := C
  exact tX9_isReplayed_0 C hr hex Q QX S a0 p_a0 P hl (by omega) (by omega) hw
theorem cd_X9_isReplayed : yX9_isReplayed.cls = RX9 ∧ yX9_isReplayed.cls ≠ "java/lang/invoke/MethodHandle" ∧ yX9_isReplayed.cls ≠ "java/lang/invoke/VarHandle" ∧ (parseMethodDescriptor yX9_isReplayed.desc).map (fun d => d.parameters.length) = some 0 := by decide +kernel
abbrev rmX9_meanHealth : Room := { frames := 1, cells := 0, slots := 0, locals := 22 }
def wX9_meanHealth_86 (Q : UInt32 → MS → Prop) (QX : String → MS → Prop) (S : MS) (a0 : Nat) (y2 : Int32) (y3 : Int32) : Prop := (((mI S a0 0) ≤ 0 → (vf_n32 (FP.fdiv (FP.i2f y2) (FP.i2f y3)) ∧ Q (FP.fdiv (FP.i2f y2) (FP.i2f y3)) S)) ∧ (¬ (mI S a0 0) ≤ 0 → Q FP.fconst0 S))
set_option maxHeartbeats 4000000 in
set_option maxRecDepth 100000 in
theorem tX9_meanHealth_86 {p : Program} {l : Launch} {e : Env} {s : State} {m : MethodId} {args : Array Value} {below : List Frame} {meth : Method} {c : Code} {H : Heap} {locs : List Loc} {cells slots : Nat} {G : GP} {A : Nat → Prop} {S0 : MS} {ls : Array Slot} (C : CF p l s m args meth c "SkirmishGridModel" cX9_meanHealth 5 G A) (hr : meth.sig.returnType = (some .float)) (hex : ∀ x ∈ c.exceptionTable.toList, False) (Q : UInt32 → MS → Prop) (QX : String → MS → Prop) (S : MS) (a0 : Nat) (y2 : Int32) (y3 : Int32) (p_a0 : pI S 9 a0) (P : PW G A s H locs S0 S) (hl : lv_has ls 5 [(0, .ref a0), (2, .int y2), (3, .int y3)]) (hcc : cells + 0 ≤ 0) (hss : slots + 0 ≤ 0) (hw : wX9_meanHealth_86 Q QX S a0 y2 y3) : W p l e rmX9_meanHealth s m args below meth c H locs cells slots (vx_MQ below (QF G S0 A Q) (XX G S0 A QX) args s 0 0 A) (F0 m 86 ls []) := by
  have hx := CF_x C
  have hb := CF_b C
  unfold wX9_meanHealth_86 at hw
  refine lv_aload_n hx hb dX9_meanHealth_86 rfl (lv_at hl 0 rfl) ?_
  refine gf_9_0 C P p_a0 q_1305 dX9_meanHealth_87 ?_
  refine lv_if_le (tgt := 97) hx hb dX9_meanHealth_90 (by decide) (fun hc => ?_) (fun hc => ?_)
  · have hw := hw.1 hc
    refine lv_iload_n hx hb dX9_meanHealth_97 rfl (lv_at hl 1 rfl) ?_
    refine lv_i2f hx hb dX9_meanHealth_98 ?_
    refine lv_iload_n hx hb dX9_meanHealth_99 rfl (lv_at hl 2 rfl) ?_
    refine lv_i2f hx hb dX9_meanHealth_100 ?_
    obtain ⟨h1, hw⟩ := hw
    refine lv_fdiv hx hb dX9_meanHealth_101 h1 ?_
    exact e_f C hr P hw (by omega) (by omega) dX9_meanHealth_102
  · have hw := hw.2 hc
    refine lv_fconst0 hx hb dX9_meanHealth_93 ?_
    refine lv_goto (tgt := 102) hx hb dX9_meanHealth_94 (by decide) ?_
    exact e_f C hr P hw (by omega) (by omega) dX9_meanHealth_102
def wX9_meanHealth_25 (Q : UInt32 → MS → Prop) (QX : String → MS → Prop) (k25 : MS → Nat → Int32 → Int32 → Int32 → Int32 → Prop) (S : MS) (a0 : Nat) (y1 : Int32) (y2 : Int32) (y3 : Int32) (y4 : Int32) : Prop := (∃ a1, mR S a0 1 = some a1 ∧ (vp_in 66 (mN S a1) ∧ (((mI S a1 (66 : Int32).toNatClampNeg) ≤ y4 → ((¬ (mI S a0 0) = 0 → wX9_meanHealth_86 Q QX S a0 y2 y3) ∧ ((mI S a0 0) = 0 → ((¬ y3 = 0 → wX9_meanHealth_86 Q QX S a0 y2 y3) ∧ (y3 = 0 → (∀ S2, S2 = (sI S a0 0 2) → wX9_meanHealth_86 Q QX S2 a0 y2 y3)))))) ∧ (¬ (mI S a1 (66 : Int32).toNatClampNeg) ≤ y4 → wp_X9_of (fun r4 S3 => ((r4 = y1 → wp_X9_of (fun r6 S5 => k25 S5 a0 y1 (y2 + r6) (y3 + 1) (y4 + 1)) QX S3 a0 y4 3) ∧ (¬ r4 = y1 → k25 S3 a0 y1 y2 y3 (y4 + 1)))) QX S a0 y4 0))))
set_option maxHeartbeats 4000000 in
set_option maxRecDepth 100000 in
theorem tX9_meanHealth_25 {p : Program} {l : Launch} {e : Env} {s : State} {m : MethodId} {args : Array Value} {below : List Frame} {meth : Method} {c : Code} {H : Heap} {locs : List Loc} {cells slots : Nat} {G : GP} {A : Nat → Prop} {S0 : MS} {ls : Array Slot} (C : CF p l s m args meth c "SkirmishGridModel" cX9_meanHealth 5 G A) (hr : meth.sig.returnType = (some .float)) (hex : ∀ x ∈ c.exceptionTable.toList, False) (Q : UInt32 → MS → Prop) (QX : String → MS → Prop) (k25 : MS → Nat → Int32 → Int32 → Int32 → Int32 → Prop) (kh25 : ∀ (S : MS) (a0 : Nat) (y1 : Int32) (y2 : Int32) (y3 : Int32) (y4 : Int32) (cells slots : Nat) (H : Heap) (locs : List Loc) (ls : Array Slot), pI S 9 a0 → PW G A s H locs S0 S → lv_has ls 5 [(0, .ref a0), (1, .int y1), (2, .int y2), (3, .int y3), (4, .int y4)] → cells + 0 ≤ 0 → slots + 0 ≤ 0 → k25 S a0 y1 y2 y3 y4 → W p l e rmX9_meanHealth s m args below meth c H locs cells slots (vx_MQ below (QF G S0 A Q) (XX G S0 A QX) args s 0 0 A) (F0 m 25 ls [])) (S : MS) (a0 : Nat) (y1 : Int32) (y2 : Int32) (y3 : Int32) (y4 : Int32) (p_a0 : pI S 9 a0) (P : PW G A s H locs S0 S) (hl : lv_has ls 5 [(0, .ref a0), (1, .int y1), (2, .int y2), (3, .int y3), (4, .int y4)]) (hcc : cells + 0 ≤ 0) (hss : slots + 0 ≤ 0) (hw : wX9_meanHealth_25 Q QX k25 S a0 y1 y2 y3 y4) : W p l e rmX9_meanHealth s m args below meth c H locs cells slots (vx_MQ below (QF G S0 A Q) (XX G S0 A QX) args s 0 0 A) (F0 m 25 ls []) := by
  have hx := CF_x C
  have hb := CF_b C
  unfold wX9_meanHealth_25 at hw
  refine lv_iload hx hb dX9_meanHealth_25 (lv_at hl 4 rfl) ?_
  refine lv_aload_n hx hb dX9_meanHealth_27 rfl (lv_at hl 0 rfl) ?_
  obtain ⟨a1, e1, hw⟩ := hw
  have p_a1 : pI S 12 a1 := wf_r P.2.2.2.1 p_a0 e1
  refine gf_9_1 C P p_a0 e1 q_1306 dX9_meanHealth_28 ?_
  refine lv_bipush (v := 66) hx hb dX9_meanHealth_31 (by decide) ?_
  obtain ⟨h1, hw⟩ := hw
  refine ra_i C P p_a1 h1 dX9_meanHealth_33 ?_
  refine lv_icmp_ge (tgt := 70) hx hb dX9_meanHealth_34 (by decide) (fun hc => ?_) (fun hc => ?_)
  · have hw := hw.1 hc
    refine lv_aload_n hx hb dX9_meanHealth_70 rfl (lv_at hl 0 rfl) ?_
    refine gf_9_0 C P p_a0 q_1305 dX9_meanHealth_71 ?_
    refine lv_if_ne (tgt := 86) hx hb dX9_meanHealth_74 (by decide) (fun hc => ?_) (fun hc => ?_)
    · have hw := hw.1 hc
      exact tX9_meanHealth_86 C hr hex Q QX S a0 y2 y3 p_a0 P (lv_sub hl [0, 2, 3] rfl) (by omega) (by omega) hw
    · have hw := hw.2 hc
      refine lv_iload_n hx hb dX9_meanHealth_77 rfl (lv_at hl 3 rfl) ?_
      refine lv_if_ne (tgt := 86) hx hb dX9_meanHealth_78 (by decide) (fun hc => ?_) (fun hc => ?_)
      · have hw := hw.1 hc
        exact tX9_meanHealth_86 C hr hex Q QX S a0 y2 y3 p_a0 P (lv_sub hl [0, 2, 3] rfl) (by omega) (by omega) hw
      · have hw := hw.2 hc
        refine lv_aload_n hx hb dX9_meanHealth_81 rfl (lv_at hl 0 rfl) ?_
        refine lv_iconst (v := 2) hx hb dX9_meanHealth_82 (by decide) ?_
        refine pf_9_0 C P p_a0 q_1305 dX9_meanHealth_83 (fun H locs P => ?_)
        obtain ⟨S2, hS⟩ : ∃ z, z = (sI S a0 0 2) := ⟨_, rfl⟩
        have P : PW G A s H locs S0 S2 := by rw [hS]; exact P
        have p_a0 : pI S2 9 a0 := by rw [hS]; exact pI_x ext_sI p_a0
        have hw := hw S2 hS
        exact tX9_meanHealth_86 C hr hex Q QX S2 a0 y2 y3 p_a0 P (lv_sub hl [0, 2, 3] rfl) (by omega) (by omega) hw
  · have hw := hw.2 hc
    refine lv_aload_n hx hb dX9_meanHealth_37 rfl (lv_at hl 0 rfl) ?_
    refine lv_iload hx hb dX9_meanHealth_38 (lv_at hl 4 rfl) ?_
    refine lv_iconst (v := 0) hx hb dX9_meanHealth_40 (by decide) ?_
    refine cl_i C P (run_V C P hl.1 (kd := 9) (met_X9_of (CF_n C) G H.size _ _ S a0 y4 0 p_a0 hw) p_a0 (by decide) rfl q_1457 q_1459 q_p34 q_10 q_1460 cd_X9_of ⟨(Nat.le_of_ble_eq_true rfl), (Nat.le_of_ble_eq_true rfl)⟩ rfl rfl (As := [.int y4, .int 0]) (rest := []) rfl rfl (Nat.le_of_ble_eq_true rfl) dX9_meanHealth_41 ⟨by show cells + 0 ≤ 0; omega, by show slots + 0 ≤ 0; omega⟩) (kx_out C hex (fun _ _ _ h => h) (by omega) (by omega)) (fun r4 S3 H locs P hE hw => ?_)
    have p_a0 : pI S3 9 a0 := pI_x hE p_a0
    refine lv_iload_n hx hb dX9_meanHealth_44 rfl (lv_at hl 1 rfl) ?_
    refine lv_icmp_eq (tgt := 51) hx hb dX9_meanHealth_45 (by decide) (fun hc => ?_) (fun hc => ?_)
    · have hw := hw.1 hc
      refine lv_iload_n hx hb dX9_meanHealth_51 rfl (lv_at hl 2 rfl) ?_
      refine lv_aload_n hx hb dX9_meanHealth_52 rfl (lv_at hl 0 rfl) ?_
      refine lv_iload hx hb dX9_meanHealth_53 (lv_at hl 4 rfl) ?_
      refine lv_iconst (v := 3) hx hb dX9_meanHealth_55 (by decide) ?_
      refine cl_i C P (run_V C P hl.1 (kd := 9) (met_X9_of (CF_n C) G H.size _ _ S3 a0 y4 3 p_a0 hw) p_a0 (by decide) rfl q_1457 q_1459 q_p34 q_10 q_1460 cd_X9_of ⟨(Nat.le_of_ble_eq_true rfl), (Nat.le_of_ble_eq_true rfl)⟩ rfl rfl (As := [.int y4, .int 3]) (rest := [.int y2]) rfl rfl (Nat.le_of_ble_eq_true rfl) dX9_meanHealth_56 ⟨by show cells + 0 ≤ 0; omega, by show slots + 0 ≤ 0; omega⟩) (kx_out C hex (fun _ _ _ h => h) (by omega) (by omega)) (fun r6 S5 H locs P hE hw => ?_)
      have p_a0 : pI S5 9 a0 := pI_x hE p_a0
      refine lv_iadd hx hb dX9_meanHealth_59 ?_
      refine lv_istore_n (lv' := [(2, .int (y2 + r6)), (0, .ref a0), (1, .int y1), (3, .int y3), (4, .int y4)]) hx hb dX9_meanHealth_60 rfl hl (by decide) rfl (fun ls hl => ?_)
      refine lv_iinc (v := (y3 + 1)) (lv' := [(3, .int (y3 + 1)), (2, .int (y2 + r6)), (0, .ref a0), (1, .int y1), (4, .int y4)]) hx hb dX9_meanHealth_61 hl (k := 3) rfl (by rfl) (by decide) rfl (fun ls hl => ?_)
      refine lv_iinc (v := (y4 + 1)) (lv' := [(4, .int (y4 + 1)), (3, .int (y3 + 1)), (2, .int (y2 + r6)), (0, .ref a0), (1, .int y1)]) hx hb dX9_meanHealth_64 hl (k := 4) rfl (by rfl) (by decide) rfl (fun ls hl => ?_)
      refine lv_goto (tgt := 25) hx hb dX9_meanHealth_67 (by decide) ?_
      exact kh25 S5 a0 y1 (y2 + r6) (y3 + 1) (y4 + 1) _ _ _ _ _ p_a0 P (lv_sub hl [3, 4, 2, 1, 0] rfl) (by omega) (by omega) hw
    · have hw := hw.2 hc
      refine lv_goto (tgt := 64) hx hb dX9_meanHealth_48 (by decide) ?_
      refine lv_iinc (v := (y4 + 1)) (lv' := [(4, .int (y4 + 1)), (0, .ref a0), (1, .int y1), (2, .int y2), (3, .int y3)]) hx hb dX9_meanHealth_64 hl (k := 4) rfl (by rfl) (by decide) rfl (fun ls hl => ?_)
      refine lv_goto (tgt := 25) hx hb dX9_meanHealth_67 (by decide) ?_
      exact kh25 S3 a0 y1 y2 y3 (y4 + 1) _ _ _ _ _ p_a0 P (lv_sub hl [1, 2, 3, 4, 0] rfl) (by omega) (by omega) hw
def lX9_meanHealth_25 (Q : UInt32 → MS → Prop) (QX : String → MS → Prop) : Nat → MS → Nat → Int32 → Int32 → Int32 → Int32 → Prop
  | 0 => fun _ _ _ _ _ _ => False
  | n + 1 => fun S a0 y1 y2 y3 y4 => wX9_meanHealth_25 Q QX (lX9_meanHealth_25 Q QX n) S a0 y1 y2 y3 y4
theorem tlX9_meanHealth_25 {p : Program} {l : Launch} {e : Env} {s : State} {m : MethodId} {args : Array Value} {below : List Frame} {meth : Method} {c : Code} {G : GP} {A : Nat → Prop} {S0 : MS} (C : CF p l s m args meth c "SkirmishGridModel" cX9_meanHealth 5 G A) (hr : meth.sig.returnType = (some .float)) (hex : ∀ x ∈ c.exceptionTable.toList, False) (Q : UInt32 → MS → Prop) (QX : String → MS → Prop) : ∀ (n : Nat), ∀ (S : MS) (a0 : Nat) (y1 : Int32) (y2 : Int32) (y3 : Int32) (y4 : Int32) (cells slots : Nat) (H : Heap) (locs : List Loc) (ls : Array Slot), pI S 9 a0 → PW G A s H locs S0 S → lv_has ls 5 [(0, .ref a0), (1, .int y1), (2, .int y2), (3, .int y3), (4, .int y4)] → cells + 0 ≤ 0 → slots + 0 ≤ 0 → lX9_meanHealth_25 Q QX n S a0 y1 y2 y3 y4 → W p l e rmX9_meanHealth s m args below meth c H locs cells slots (vx_MQ below (QF G S0 A Q) (XX G S0 A QX) args s 0 0 A) (F0 m 25 ls []) := by
  intro n
  induction n with
  | zero => intro S a0 y1 y2 y3 y4 cells slots H locs ls p_a0 P hl hcc hss hw; exact hw.elim
  | succ n ih => intro S a0 y1 y2 y3 y4 cells slots H locs ls p_a0 P hl hcc hss hw; exact tX9_meanHealth_25 C hr hex Q QX (lX9_meanHealth_25 Q QX n) ih S a0 y1 y2 y3 y4 p_a0 P hl hcc hss hw
def wX9_meanHealth_15 (Q : UInt32 → MS → Prop) (QX : String → MS → Prop) (S : MS) (a0 : Nat) (y1 : Int32) (z0 : Int32) (w1 : Nat) : Prop := (∀ S1, S1 = (sI S w1 0 z0) → (∃ n, lX9_meanHealth_25 Q QX n S1 a0 y1 0 0 0))
set_option maxHeartbeats 4000000 in
set_option maxRecDepth 100000 in
theorem tX9_meanHealth_15 {p : Program} {l : Launch} {e : Env} {s : State} {m : MethodId} {args : Array Value} {below : List Frame} {meth : Method} {c : Code} {H : Heap} {locs : List Loc} {cells slots : Nat} {G : GP} {A : Nat → Prop} {S0 : MS} {ls : Array Slot} (C : CF p l s m args meth c "SkirmishGridModel" cX9_meanHealth 5 G A) (hr : meth.sig.returnType = (some .float)) (hex : ∀ x ∈ c.exceptionTable.toList, False) (Q : UInt32 → MS → Prop) (QX : String → MS → Prop) (S : MS) (a0 : Nat) (y1 : Int32) (z0 : Int32) (w1 : Nat) (p_a0 : pI S 9 a0) (p_w1 : pI S 9 w1) (P : PW G A s H locs S0 S) (hl : lv_has ls 5 [(0, .ref a0), (1, .int y1)]) (hcc : cells + 0 ≤ 0) (hss : slots + 0 ≤ 0) (hw : wX9_meanHealth_15 Q QX S a0 y1 z0 w1) : W p l e rmX9_meanHealth s m args below meth c H locs cells slots (vx_MQ below (QF G S0 A Q) (XX G S0 A QX) args s 0 0 A) (F0 m 15 ls [.int z0, .ref w1]) := by
  have hx := CF_x C
  have hb := CF_b C
  unfold wX9_meanHealth_15 at hw
  refine pf_9_0 C P p_w1 q_1305 dX9_meanHealth_15 (fun H locs P => ?_)
  obtain ⟨S1, hS⟩ : ∃ z, z = (sI S w1 0 z0) := ⟨_, rfl⟩
  have P : PW G A s H locs S0 S1 := by rw [hS]; exact P
  have p_a0 : pI S1 9 a0 := by rw [hS]; exact pI_x ext_sI p_a0
  have p_w1 : pI S1 9 w1 := by rw [hS]; exact pI_x ext_sI p_w1
  have hw := hw S1 hS
  refine lv_iconst (v := 0) hx hb dX9_meanHealth_18 (by decide) ?_
  refine lv_istore_n (lv' := [(2, .int 0), (0, .ref a0), (1, .int y1)]) hx hb dX9_meanHealth_19 rfl hl (by decide) rfl (fun ls hl => ?_)
  refine lv_iconst (v := 0) hx hb dX9_meanHealth_20 (by decide) ?_
  refine lv_istore_n (lv' := [(3, .int 0), (2, .int 0), (0, .ref a0), (1, .int y1)]) hx hb dX9_meanHealth_21 rfl hl (by decide) rfl (fun ls hl => ?_)
  refine lv_iconst (v := 0) hx hb dX9_meanHealth_22 (by decide) ?_
  refine lv_istore (lv' := [(4, .int 0), (3, .int 0), (2, .int 0), (0, .ref a0), (1, .int y1)]) hx hb dX9_meanHealth_23 hl (by decide) rfl (fun ls hl => ?_)
  obtain ⟨n, hw⟩ := hw
  exact tlX9_meanHealth_25 C hr hex Q QX n S1 a0 y1 0 0 0 _ _ _ _ _ p_a0 P (lv_sub hl [3, 4, 2, 1, 0] rfl) (by omega) (by omega) hw
def wX9_meanHealth_0 (Q : UInt32 → MS → Prop) (QX : String → MS → Prop) (S : MS) (a0 : Nat) (x1 : Int32) : Prop := wp_X9_isIn (fun r2 S1 => ((r2 = 0 → wX9_meanHealth_15 Q QX S1 a0 x1 1 a0) ∧ (¬ r2 = 0 → wX9_meanHealth_15 Q QX S1 a0 x1 0 a0))) QX S x1 0 1
set_option maxHeartbeats 4000000 in
set_option maxRecDepth 100000 in
theorem tX9_meanHealth_0 {p : Program} {l : Launch} {e : Env} {s : State} {m : MethodId} {args : Array Value} {below : List Frame} {meth : Method} {c : Code} {H : Heap} {locs : List Loc} {cells slots : Nat} {G : GP} {A : Nat → Prop} {S0 : MS} {ls : Array Slot} (C : CF p l s m args meth c "SkirmishGridModel" cX9_meanHealth 5 G A) (hr : meth.sig.returnType = (some .float)) (hex : ∀ x ∈ c.exceptionTable.toList, False) (Q : UInt32 → MS → Prop) (QX : String → MS → Prop) (S : MS) (a0 : Nat) (x1 : Int32) (p_a0 : pI S 9 a0) (P : PW G A s H locs S0 S) (hl : lv_has ls 5 [(0, .ref a0), (1, .int x1)]) (hcc : cells + 0 ≤ 0) (hss : slots + 0 ≤ 0) (hw : wX9_meanHealth_0 Q QX S a0 x1) : W p l e rmX9_meanHealth s m args below meth c H locs cells slots (vx_MQ below (QF G S0 A Q) (XX G S0 A QX) args s 0 0 A) (F0 m 0 ls []) := by
  have hx := CF_x C
  have hb := CF_b C
  unfold wX9_meanHealth_0 at hw
  refine lv_aload_n hx hb dX9_meanHealth_0 rfl (lv_at hl 0 rfl) ?_
  refine lv_iload_n hx hb dX9_meanHealth_1 rfl (lv_at hl 1 rfl) ?_
  refine lv_iconst (v := 0) hx hb dX9_meanHealth_2 (by decide) ?_
  refine lv_iconst (v := 1) hx hb dX9_meanHealth_3 (by decide) ?_
  refine cl_i C P (run_S C P hl.1 (met_X9_isIn (CF_n C) G H.size _ _ S x1 0 1 hw) q_1383 q_1384 q_10 q_1385 cd_X9_isIn.2 ⟨(Nat.le_of_ble_eq_true rfl), (Nat.le_of_ble_eq_true rfl)⟩ rfl rfl (As := [.int x1, .int 0, .int 1]) (rest := [.ref a0]) rfl rfl (Nat.le_of_ble_eq_true rfl) dX9_meanHealth_4 ⟨by show cells + 0 ≤ 0; omega, by show slots + 0 ≤ 0; omega⟩) (kx_out C hex (fun _ _ _ h => h) (by omega) (by omega)) (fun r2 S1 H locs P hE hw => ?_)
  have p_a0 : pI S1 9 a0 := pI_x hE p_a0
  refine lv_if_eq (tgt := 14) hx hb dX9_meanHealth_7 (by decide) (fun hc => ?_) (fun hc => ?_)
  · have hw := hw.1 hc
    refine lv_iconst (v := 1) hx hb dX9_meanHealth_14 (by decide) ?_
    exact tX9_meanHealth_15 C hr hex Q QX S1 a0 x1 1 a0 p_a0 p_a0 P (lv_sub hl [0, 1] rfl) (by omega) (by omega) hw
  · have hw := hw.2 hc
    refine lv_iconst (v := 0) hx hb dX9_meanHealth_10 (by decide) ?_
    refine lv_goto (tgt := 15) hx hb dX9_meanHealth_11 (by decide) ?_
    exact tX9_meanHealth_15 C hr hex Q QX S1 a0 x1 0 a0 p_a0 p_a0 P (lv_sub hl [0, 1] rfl) (by omega) (by omega) hw
def wp_X9_meanHealth (Q : UInt32 → MS → Prop) (QX : String → MS → Prop) (S : MS) (a0 : Nat) (x1 : Int32) : Prop := wX9_meanHealth_0 Q QX S a0 x1
set_option maxHeartbeats 4000000 in
set_option maxRecDepth 100000 in
theorem met_X9_meanHealth {l : Launch} (hst : l.stackTraces = false) (G : GP) (sz : Nat) (Q : UInt32 → MS → Prop) (QX : String → MS → Prop) (S : MS) (a0 : Nat) (x1 : Int32) (p_a0 : pI S 9 a0) (hw : wp_X9_meanHealth Q QX S a0 x1) : vx_Met l yX9_meanHealth (.code yX9_meanHealth cX9_meanHealth 5 (some .float) :: GW) rmX9_meanHealth (va_Pc [.ref a0, .int x1] (PR G S sz)) (QF G S (FA G S sz) Q) (XX G S (FA G S sz) QX) 0 0 (FA G S sz) := by
  refine st_m (by decide +kernel) hst (fun p e s m below meth c C hr hnm hex P => ?_)
  refine en_m (Nat.le_of_ble_eq_true rfl) (lv := [(0, .ref a0), (1, .int x1)]) rfl (fun ls hl => ?_)
  have C : CF p l s m _ meth c "SkirmishGridModel" cX9_meanHealth 5 G (FA G S sz) := C
  exact tX9_meanHealth_0 C hr hex Q QX S a0 x1 p_a0 P hl (by omega) (by omega) hw
theorem cd_X9_meanHealth : yX9_meanHealth.cls = RX9 ∧ yX9_meanHealth.cls ≠ "java/lang/invoke/MethodHandle" ∧ yX9_meanHealth.cls ≠ "java/lang/invoke/VarHandle" ∧ (parseMethodDescriptor yX9_meanHealth.desc).map (fun d => d.parameters.length) = some 1 := by decide +kernel
