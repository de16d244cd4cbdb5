theorem q_1315 : Cond.fieldLink "SkirmishGridModel" 264 "SkirmishGridModel" "hasImage" "Z" ∈ GW := gw_t 1315 (by decide +kernel) (by decide +kernel)
theorem q_1734 : Cond.methodLink "SkirmishGridModel" 258 yJxf58ca_floatToIntBits_5c35a ∈ GW := gw_t 1734 (by decide +kernel) (by decide +kernel)
theorem q_1735 : Cond.static yJxf58ca_floatToIntBits_5c35a ∈ GW := gw_t 1735 (by decide +kernel) (by decide +kernel)
theorem q_1736 : Cond.code yJxf58ca_floatToIntBits_5c35a cJxf58ca_floatToIntBits_5c35a 1 (some .int) ∈ GW := gw_t 1736 (by decide +kernel) (by decide +kernel)
theorem dX9_storeHealths_0 : decode cX9_storeHealths 0 = .ok (.aload_n 0, 1) := by decide +kernel
theorem dX9_storeHealths_1 : decode cX9_storeHealths 1 = .ok (.iload_n 1, 1) := by decide +kernel
theorem dX9_storeHealths_2 : decode cX9_storeHealths 2 = .ok (.iconst 0, 1) := by decide +kernel
theorem dX9_storeHealths_3 : decode cX9_storeHealths 3 = .ok (.iconst 1, 1) := by decide +kernel
theorem dX9_storeHealths_4 : decode cX9_storeHealths 4 = .ok (.invokestatic 67, 3) := by decide +kernel
theorem dX9_storeHealths_7 : decode cX9_storeHealths 7 = .ok (.ifCond .eq 7, 3) := by decide +kernel
theorem dX9_storeHealths_10 : decode cX9_storeHealths 10 = .ok (.iconst 0, 1) := by decide +kernel
theorem dX9_storeHealths_11 : decode cX9_storeHealths 11 = .ok (.goto 4, 3) := by decide +kernel
theorem dX9_storeHealths_14 : decode cX9_storeHealths 14 = .ok (.iconst 1, 1) := by decide +kernel
theorem dX9_storeHealths_15 : decode cX9_storeHealths 15 = .ok (.putfield 57, 3) := by decide +kernel
theorem dX9_storeHealths_18 : decode cX9_storeHealths 18 = .ok (.aload_n 0, 1) := by decide +kernel
theorem dX9_storeHealths_19 : decode cX9_storeHealths 19 = .ok (.getfield 57, 3) := by decide +kernel
theorem dX9_storeHealths_22 : decode cX9_storeHealths 22 = .ok (.iconst 1, 1) := by decide +kernel
theorem dX9_storeHealths_23 : decode cX9_storeHealths 23 = .ok (.if_icmp .ne 5, 3) := by decide +kernel
theorem dX9_storeHealths_26 : decode cX9_storeHealths 26 = .ok (.iconst 0, 1) := by decide +kernel
theorem dX9_storeHealths_27 : decode cX9_storeHealths 27 = .ok (.ireturn, 1) := by decide +kernel
theorem dX9_storeHealths_28 : decode cX9_storeHealths 28 = .ok (.aload_n 0, 1) := by decide +kernel
theorem dX9_storeHealths_29 : decode cX9_storeHealths 29 = .ok (.getfield 50, 3) := by decide +kernel
theorem dX9_storeHealths_32 : decode cX9_storeHealths 32 = .ok (.iload_n 1, 1) := by decide +kernel
theorem dX9_storeHealths_33 : decode cX9_storeHealths 33 = .ok (.iload_n 2, 1) := by decide +kernel
theorem dX9_storeHealths_34 : decode cX9_storeHealths 34 = .ok (.ifCond .eq 7, 3) := by decide +kernel
theorem dX9_storeHealths_37 : decode cX9_storeHealths 37 = .ok (.iconst 1, 1) := by decide +kernel
theorem dX9_storeHealths_38 : decode cX9_storeHealths 38 = .ok (.goto 4, 3) := by decide +kernel
theorem dX9_storeHealths_41 : decode cX9_storeHealths 41 = .ok (.iconst 2, 1) := by decide +kernel
theorem dX9_storeHealths_42 : decode cX9_storeHealths 42 = .ok (.iastore, 1) := by decide +kernel
theorem dX9_storeHealths_43 : decode cX9_storeHealths 43 = .ok (.aload_n 0, 1) := by decide +kernel
theorem dX9_storeHealths_44 : decode cX9_storeHealths 44 = .ok (.getfield 47, 3) := by decide +kernel
theorem dX9_storeHealths_47 : decode cX9_storeHealths 47 = .ok (.iload_n 1, 1) := by decide +kernel
theorem dX9_storeHealths_48 : decode cX9_storeHealths 48 = .ok (.aload_n 0, 1) := by decide +kernel
theorem dX9_storeHealths_49 : decode cX9_storeHealths 49 = .ok (.getfield 9, 3) := by decide +kernel
theorem dX9_storeHealths_52 : decode cX9_storeHealths 52 = .ok (.bipush 66, 2) := by decide +kernel
theorem dX9_storeHealths_54 : decode cX9_storeHealths 54 = .ok (.iaload, 1) := by decide +kernel
theorem dX9_storeHealths_55 : decode cX9_storeHealths 55 = .ok (.iastore, 1) := by decide +kernel
theorem dX9_storeHealths_56 : decode cX9_storeHealths 56 = .ok (.iconst 0, 1) := by decide +kernel
theorem dX9_storeHealths_57 : decode cX9_storeHealths 57 = .ok (.istore_n 3, 1) := by decide +kernel
theorem dX9_storeHealths_58 : decode cX9_storeHealths 58 = .ok (.iload_n 3, 1) := by decide +kernel
theorem dX9_storeHealths_59 : decode cX9_storeHealths 59 = .ok (.aload_n 0, 1) := by decide +kernel
theorem dX9_storeHealths_60 : decode cX9_storeHealths 60 = .ok (.getfield 9, 3) := by decide +kernel
theorem dX9_storeHealths_63 : decode cX9_storeHealths 63 = .ok (.bipush 66, 2) := by decide +kernel
theorem dX9_storeHealths_65 : decode cX9_storeHealths 65 = .ok (.iaload, 1) := by decide +kernel
theorem dX9_storeHealths_66 : decode cX9_storeHealths 66 = .ok (.if_icmp .ge 52, 3) := by decide +kernel
theorem dX9_storeHealths_69 : decode cX9_storeHealths 69 = .ok (.aload_n 0, 1) := by decide +kernel
theorem dX9_storeHealths_70 : decode cX9_storeHealths 70 = .ok (.getfield 44, 3) := by decide +kernel
theorem dX9_storeHealths_73 : decode cX9_storeHealths 73 = .ok (.bipush 8, 2) := by decide +kernel
theorem dX9_storeHealths_75 : decode cX9_storeHealths 75 = .ok (.iload_n 1, 1) := by decide +kernel
theorem dX9_storeHealths_76 : decode cX9_storeHealths 76 = .ok (.imul, 1) := by decide +kernel
theorem dX9_storeHealths_77 : decode cX9_storeHealths 77 = .ok (.iload_n 3, 1) := by decide +kernel
theorem dX9_storeHealths_78 : decode cX9_storeHealths 78 = .ok (.iadd, 1) := by decide +kernel
theorem dX9_storeHealths_79 : decode cX9_storeHealths 79 = .ok (.aload_n 0, 1) := by decide +kernel
theorem dX9_storeHealths_80 : decode cX9_storeHealths 80 = .ok (.iload_n 3, 1) := by decide +kernel
theorem dX9_storeHealths_81 : decode cX9_storeHealths 81 = .ok (.iconst 3, 1) := by decide +kernel
theorem dX9_storeHealths_82 : decode cX9_storeHealths 82 = .ok (.invokevirtual 60, 3) := by decide +kernel
theorem dX9_storeHealths_85 : decode cX9_storeHealths 85 = .ok (.iastore, 1) := by decide +kernel
theorem dX9_storeHealths_86 : decode cX9_storeHealths 86 = .ok (.aload_n 0, 1) := by decide +kernel
theorem dX9_storeHealths_87 : decode cX9_storeHealths 87 = .ok (.getfield 53, 3) := by decide +kernel
theorem dX9_storeHealths_90 : decode cX9_storeHealths 90 = .ok (.bipush 8, 2) := by decide +kernel
theorem dX9_storeHealths_92 : decode cX9_storeHealths 92 = .ok (.iload_n 1, 1) := by decide +kernel
theorem dX9_storeHealths_93 : decode cX9_storeHealths 93 = .ok (.imul, 1) := by decide +kernel
theorem dX9_storeHealths_94 : decode cX9_storeHealths 94 = .ok (.iload_n 3, 1) := by decide +kernel
theorem dX9_storeHealths_95 : decode cX9_storeHealths 95 = .ok (.iadd, 1) := by decide +kernel
theorem dX9_storeHealths_96 : decode cX9_storeHealths 96 = .ok (.aload_n 0, 1) := by decide +kernel
theorem dX9_storeHealths_97 : decode cX9_storeHealths 97 = .ok (.iload_n 3, 1) := by decide +kernel
theorem dX9_storeHealths_98 : decode cX9_storeHealths 98 = .ok (.iconst 3, 1) := by decide +kernel
theorem dX9_storeHealths_99 : decode cX9_storeHealths 99 = .ok (.invokevirtual 60, 3) := by decide +kernel
theorem dX9_storeHealths_102 : decode cX9_storeHealths 102 = .ok (.i2f, 1) := by decide +kernel
theorem dX9_storeHealths_103 : decode cX9_storeHealths 103 = .ok (.aload_n 0, 1) := by decide +kernel
theorem dX9_storeHealths_104 : decode cX9_storeHealths 104 = .ok (.iload_n 3, 1) := by decide +kernel
theorem dX9_storeHealths_105 : decode cX9_storeHealths 105 = .ok (.iconst 0, 1) := by decide +kernel
theorem dX9_storeHealths_106 : decode cX9_storeHealths 106 = .ok (.invokevirtual 147, 3) := by decide +kernel
theorem dX9_storeHealths_109 : decode cX9_storeHealths 109 = .ok (.i2f, 1) := by decide +kernel
theorem dX9_storeHealths_110 : decode cX9_storeHealths 110 = .ok (.fdiv, 1) := by decide +kernel
theorem dX9_storeHealths_111 : decode cX9_storeHealths 111 = .ok (.fastore, 1) := by decide +kernel
theorem dX9_storeHealths_112 : decode cX9_storeHealths 112 = .ok (.iinc 3 1, 3) := by decide +kernel
theorem dX9_storeHealths_115 : decode cX9_storeHealths 115 = .ok (.goto (-57), 3) := by decide +kernel
theorem dX9_storeHealths_118 : decode cX9_storeHealths 118 = .ok (.aload_n 0, 1) := by decide +kernel
theorem dX9_storeHealths_119 : decode cX9_storeHealths 119 = .ok (.getfield 9, 3) := by decide +kernel
theorem dX9_storeHealths_122 : decode cX9_storeHealths 122 = .ok (.bipush 66, 2) := by decide +kernel
theorem dX9_storeHealths_124 : decode cX9_storeHealths 124 = .ok (.iaload, 1) := by decide +kernel
theorem dX9_storeHealths_125 : decode cX9_storeHealths 125 = .ok (.ireturn, 1) := by decide +kernel
theorem dX9_copyHealths_0 : decode cX9_copyHealths 0 = .ok (.aload_n 0, 1) := by decide +kernel
theorem dX9_copyHealths_1 : decode cX9_copyHealths 1 = .ok (.iload_n 1, 1) := by decide +kernel
theorem dX9_copyHealths_2 : decode cX9_copyHealths 2 = .ok (.iconst 0, 1) := by decide +kernel
theorem dX9_copyHealths_3 : decode cX9_copyHealths 3 = .ok (.iconst 1, 1) := by decide +kernel
theorem dX9_copyHealths_4 : decode cX9_copyHealths 4 = .ok (.invokestatic 67, 3) := by decide +kernel
theorem dX9_copyHealths_7 : decode cX9_copyHealths 7 = .ok (.ifCond .ne 7, 3) := by decide +kernel
theorem dX9_copyHealths_10 : decode cX9_copyHealths 10 = .ok (.iconst 1, 1) := by decide +kernel
theorem dX9_copyHealths_11 : decode cX9_copyHealths 11 = .ok (.goto 73, 3) := by decide +kernel
theorem dX9_copyHealths_14 : decode cX9_copyHealths 14 = .ok (.aload_n 0, 1) := by decide +kernel
theorem dX9_copyHealths_15 : decode cX9_copyHealths 15 = .ok (.getfield 50, 3) := by decide +kernel
theorem dX9_copyHealths_18 : decode cX9_copyHealths 18 = .ok (.iconst 0, 1) := by decide +kernel
theorem dX9_copyHealths_19 : decode cX9_copyHealths 19 = .ok (.iaload, 1) := by decide +kernel
theorem dX9_copyHealths_20 : decode cX9_copyHealths 20 = .ok (.ifCond .eq 12, 3) := by decide +kernel
theorem dX9_copyHealths_23 : decode cX9_copyHealths 23 = .ok (.aload_n 0, 1) := by decide +kernel
theorem dX9_copyHealths_24 : decode cX9_copyHealths 24 = .ok (.getfield 50, 3) := by decide +kernel
theorem dX9_copyHealths_27 : decode cX9_copyHealths 27 = .ok (.iconst 1, 1) := by decide +kernel
theorem dX9_copyHealths_28 : decode cX9_copyHealths 28 = .ok (.iaload, 1) := by decide +kernel
theorem dX9_copyHealths_29 : decode cX9_copyHealths 29 = .ok (.ifCond .ne 7, 3) := by decide +kernel
theorem dX9_copyHealths_32 : decode cX9_copyHealths 32 = .ok (.iconst 2, 1) := by decide +kernel
theorem dX9_copyHealths_33 : decode cX9_copyHealths 33 = .ok (.goto 51, 3) := by decide +kernel
theorem dX9_copyHealths_36 : decode cX9_copyHealths 36 = .ok (.aload_n 0, 1) := by decide +kernel
theorem dX9_copyHealths_37 : decode cX9_copyHealths 37 = .ok (.getfield 50, 3) := by decide +kernel
theorem dX9_copyHealths_40 : decode cX9_copyHealths 40 = .ok (.iconst 0, 1) := by decide +kernel
theorem dX9_copyHealths_41 : decode cX9_copyHealths 41 = .ok (.iaload, 1) := by decide +kernel
theorem dX9_copyHealths_42 : decode cX9_copyHealths 42 = .ok (.aload_n 0, 1) := by decide +kernel
theorem dX9_copyHealths_43 : decode cX9_copyHealths 43 = .ok (.getfield 50, 3) := by decide +kernel
theorem dX9_copyHealths_46 : decode cX9_copyHealths 46 = .ok (.iconst 1, 1) := by decide +kernel
theorem dX9_copyHealths_47 : decode cX9_copyHealths 47 = .ok (.iaload, 1) := by decide +kernel
theorem dX9_copyHealths_48 : decode cX9_copyHealths 48 = .ok (.if_icmp .eq 7, 3) := by decide +kernel
theorem dX9_copyHealths_51 : decode cX9_copyHealths 51 = .ok (.iconst 3, 1) := by decide +kernel
theorem dX9_copyHealths_52 : decode cX9_copyHealths 52 = .ok (.goto 32, 3) := by decide +kernel
theorem dX9_copyHealths_55 : decode cX9_copyHealths 55 = .ok (.iload_n 2, 1) := by decide +kernel
theorem dX9_copyHealths_56 : decode cX9_copyHealths 56 = .ok (.ifCond .lt 23, 3) := by decide +kernel
theorem dX9_copyHealths_59 : decode cX9_copyHealths 59 = .ok (.iload_n 2, 1) := by decide +kernel
theorem dX9_copyHealths_60 : decode cX9_copyHealths 60 = .ok (.aload_n 0, 1) := by decide +kernel
theorem dX9_copyHealths_61 : decode cX9_copyHealths 61 = .ok (.getfield 47, 3) := by decide +kernel
theorem dX9_copyHealths_64 : decode cX9_copyHealths 64 = .ok (.iconst 0, 1) := by decide +kernel
theorem dX9_copyHealths_65 : decode cX9_copyHealths 65 = .ok (.iaload, 1) := by decide +kernel
theorem dX9_copyHealths_66 : decode cX9_copyHealths 66 = .ok (.if_icmp .gt 13, 3) := by decide +kernel
theorem dX9_copyHealths_69 : decode cX9_copyHealths 69 = .ok (.iload_n 2, 1) := by decide +kernel
theorem dX9_copyHealths_70 : decode cX9_copyHealths 70 = .ok (.aload_n 0, 1) := by decide +kernel
theorem dX9_copyHealths_71 : decode cX9_copyHealths 71 = .ok (.getfield 47, 3) := by decide +kernel
theorem dX9_copyHealths_74 : decode cX9_copyHealths 74 = .ok (.iconst 1, 1) := by decide +kernel
theorem dX9_copyHealths_75 : decode cX9_copyHealths 75 = .ok (.iaload, 1) := by decide +kernel
theorem dX9_copyHealths_76 : decode cX9_copyHealths 76 = .ok (.if_icmp .le 7, 3) := by decide +kernel
theorem dX9_copyHealths_79 : decode cX9_copyHealths 79 = .ok (.iconst 4, 1) := by decide +kernel
theorem dX9_copyHealths_80 : decode cX9_copyHealths 80 = .ok (.goto 4, 3) := by decide +kernel
theorem dX9_copyHealths_83 : decode cX9_copyHealths 83 = .ok (.iconst 0, 1) := by decide +kernel
theorem dX9_copyHealths_84 : decode cX9_copyHealths 84 = .ok (.putfield 57, 3) := by decide +kernel
theorem dX9_copyHealths_87 : decode cX9_copyHealths 87 = .ok (.aload_n 0, 1) := by decide +kernel
theorem dX9_copyHealths_88 : decode cX9_copyHealths 88 = .ok (.getfield 57, 3) := by decide +kernel
theorem dX9_copyHealths_91 : decode cX9_copyHealths 91 = .ok (.ifCond .le 5, 3) := by decide +kernel
theorem dX9_copyHealths_94 : decode cX9_copyHealths 94 = .ok (.iconst 0, 1) := by decide +kernel
theorem dX9_copyHealths_95 : decode cX9_copyHealths 95 = .ok (.ireturn, 1) := by decide +kernel
theorem dX9_copyHealths_96 : decode cX9_copyHealths 96 = .ok (.iconst 0, 1) := by decide +kernel
theorem dX9_copyHealths_97 : decode cX9_copyHealths 97 = .ok (.istore_n 3, 1) := by decide +kernel
theorem dX9_copyHealths_98 : decode cX9_copyHealths 98 = .ok (.iconst 0, 1) := by decide +kernel
theorem dX9_copyHealths_99 : decode cX9_copyHealths 99 = .ok (.istore 4, 2) := by decide +kernel
theorem dX9_copyHealths_101 : decode cX9_copyHealths 101 = .ok (.iload 4, 2) := by decide +kernel
theorem dX9_copyHealths_103 : decode cX9_copyHealths 103 = .ok (.iload_n 2, 1) := by decide +kernel
theorem dX9_copyHealths_104 : decode cX9_copyHealths 104 = .ok (.if_icmp .ge 118, 3) := by decide +kernel
theorem dX9_copyHealths_107 : decode cX9_copyHealths 107 = .ok (.bipush 8, 2) := by decide +kernel
theorem dX9_copyHealths_109 : decode cX9_copyHealths 109 = .ok (.iload_n 1, 1) := by decide +kernel
theorem dX9_copyHealths_110 : decode cX9_copyHealths 110 = .ok (.imul, 1) := by decide +kernel
theorem dX9_copyHealths_111 : decode cX9_copyHealths 111 = .ok (.iload 4, 2) := by decide +kernel
theorem dX9_copyHealths_113 : decode cX9_copyHealths 113 = .ok (.iadd, 1) := by decide +kernel
theorem dX9_copyHealths_114 : decode cX9_copyHealths 114 = .ok (.istore 5, 2) := by decide +kernel
theorem dX9_copyHealths_116 : decode cX9_copyHealths 116 = .ok (.bipush 8, 2) := by decide +kernel
theorem dX9_copyHealths_118 : decode cX9_copyHealths 118 = .ok (.iconst 1, 1) := by decide +kernel
theorem dX9_copyHealths_119 : decode cX9_copyHealths 119 = .ok (.iload_n 1, 1) := by decide +kernel
theorem dX9_copyHealths_120 : decode cX9_copyHealths 120 = .ok (.isub, 1) := by decide +kernel
theorem dX9_copyHealths_121 : decode cX9_copyHealths 121 = .ok (.imul, 1) := by decide +kernel
theorem dX9_copyHealths_122 : decode cX9_copyHealths 122 = .ok (.iload 4, 2) := by decide +kernel
theorem dX9_copyHealths_124 : decode cX9_copyHealths 124 = .ok (.iadd, 1) := by decide +kernel
theorem dX9_copyHealths_125 : decode cX9_copyHealths 125 = .ok (.istore 6, 2) := by decide +kernel
theorem dX9_copyHealths_127 : decode cX9_copyHealths 127 = .ok (.iload_n 3, 1) := by decide +kernel
theorem dX9_copyHealths_128 : decode cX9_copyHealths 128 = .ok (.aload_n 0, 1) := by decide +kernel
theorem dX9_copyHealths_129 : decode cX9_copyHealths 129 = .ok (.getfield 50, 3) := by decide +kernel
theorem dX9_copyHealths_132 : decode cX9_copyHealths 132 = .ok (.iconst 0, 1) := by decide +kernel
theorem dX9_copyHealths_133 : decode cX9_copyHealths 133 = .ok (.iaload, 1) := by decide +kernel
theorem dX9_copyHealths_134 : decode cX9_copyHealths 134 = .ok (.iconst 1, 1) := by decide +kernel
theorem dX9_copyHealths_135 : decode cX9_copyHealths 135 = .ok (.if_icmp .ne 28, 3) := by decide +kernel
theorem dX9_copyHealths_138 : decode cX9_copyHealths 138 = .ok (.aload_n 0, 1) := by decide +kernel
theorem dX9_copyHealths_139 : decode cX9_copyHealths 139 = .ok (.getfield 44, 3) := by decide +kernel
theorem dX9_copyHealths_142 : decode cX9_copyHealths 142 = .ok (.iload 5, 2) := by decide +kernel
theorem dX9_copyHealths_144 : decode cX9_copyHealths 144 = .ok (.iaload, 1) := by decide +kernel
theorem dX9_copyHealths_145 : decode cX9_copyHealths 145 = .ok (.aload_n 0, 1) := by decide +kernel
theorem dX9_copyHealths_146 : decode cX9_copyHealths 146 = .ok (.getfield 44, 3) := by decide +kernel
theorem dX9_copyHealths_149 : decode cX9_copyHealths 149 = .ok (.iload 6, 2) := by decide +kernel
theorem dX9_copyHealths_151 : decode cX9_copyHealths 151 = .ok (.iaload, 1) := by decide +kernel
theorem dX9_copyHealths_152 : decode cX9_copyHealths 152 = .ok (.if_icmp .eq 7, 3) := by decide +kernel
theorem dX9_copyHealths_155 : decode cX9_copyHealths 155 = .ok (.iconst 1, 1) := by decide +kernel
theorem dX9_copyHealths_156 : decode cX9_copyHealths 156 = .ok (.goto 30, 3) := by decide +kernel
theorem dX9_copyHealths_159 : decode cX9_copyHealths 159 = .ok (.iconst 0, 1) := by decide +kernel
theorem dX9_copyHealths_160 : decode cX9_copyHealths 160 = .ok (.goto 26, 3) := by decide +kernel
theorem dX9_copyHealths_163 : decode cX9_copyHealths 163 = .ok (.aload_n 0, 1) := by decide +kernel
theorem dX9_copyHealths_164 : decode cX9_copyHealths 164 = .ok (.getfield 53, 3) := by decide +kernel
theorem dX9_copyHealths_167 : decode cX9_copyHealths 167 = .ok (.iload 5, 2) := by decide +kernel
theorem dX9_copyHealths_169 : decode cX9_copyHealths 169 = .ok (.faload, 1) := by decide +kernel
theorem dX9_copyHealths_170 : decode cX9_copyHealths 170 = .ok (.aload_n 0, 1) := by decide +kernel
theorem dX9_copyHealths_171 : decode cX9_copyHealths 171 = .ok (.getfield 53, 3) := by decide +kernel
theorem dX9_copyHealths_174 : decode cX9_copyHealths 174 = .ok (.iload 6, 2) := by decide +kernel
theorem dX9_copyHealths_176 : decode cX9_copyHealths 176 = .ok (.faload, 1) := by decide +kernel
theorem dX9_copyHealths_177 : decode cX9_copyHealths 177 = .ok (.fcmp .l, 1) := by decide +kernel
theorem dX9_copyHealths_178 : decode cX9_copyHealths 178 = .ok (.ifCond .eq 7, 3) := by decide +kernel
theorem dX9_copyHealths_181 : decode cX9_copyHealths 181 = .ok (.iconst 1, 1) := by decide +kernel
theorem dX9_copyHealths_182 : decode cX9_copyHealths 182 = .ok (.goto 4, 3) := by decide +kernel
theorem dX9_copyHealths_185 : decode cX9_copyHealths 185 = .ok (.iconst 0, 1) := by decide +kernel
theorem dX9_copyHealths_186 : decode cX9_copyHealths 186 = .ok (.ior, 1) := by decide +kernel
theorem dX9_copyHealths_187 : decode cX9_copyHealths 187 = .ok (.istore_n 3, 1) := by decide +kernel
theorem dX9_copyHealths_188 : decode cX9_copyHealths 188 = .ok (.aload_n 0, 1) := by decide +kernel
theorem dX9_copyHealths_189 : decode cX9_copyHealths 189 = .ok (.getfield 44, 3) := by decide +kernel
theorem dX9_copyHealths_192 : decode cX9_copyHealths 192 = .ok (.iload 6, 2) := by decide +kernel
theorem dX9_copyHealths_194 : decode cX9_copyHealths 194 = .ok (.aload_n 0, 1) := by decide +kernel
theorem dX9_copyHealths_195 : decode cX9_copyHealths 195 = .ok (.getfield 44, 3) := by decide +kernel
theorem dX9_copyHealths_198 : decode cX9_copyHealths 198 = .ok (.iload 5, 2) := by decide +kernel
theorem dX9_copyHealths_200 : decode cX9_copyHealths 200 = .ok (.iaload, 1) := by decide +kernel
theorem dX9_copyHealths_201 : decode cX9_copyHealths 201 = .ok (.iastore, 1) := by decide +kernel
theorem dX9_copyHealths_202 : decode cX9_copyHealths 202 = .ok (.aload_n 0, 1) := by decide +kernel
theorem dX9_copyHealths_203 : decode cX9_copyHealths 203 = .ok (.getfield 53, 3) := by decide +kernel
theorem dX9_copyHealths_206 : decode cX9_copyHealths 206 = .ok (.iload 6, 2) := by decide +kernel
theorem dX9_copyHealths_208 : decode cX9_copyHealths 208 = .ok (.aload_n 0, 1) := by decide +kernel
theorem dX9_copyHealths_209 : decode cX9_copyHealths 209 = .ok (.getfield 53, 3) := by decide +kernel
theorem dX9_copyHealths_212 : decode cX9_copyHealths 212 = .ok (.iload 5, 2) := by decide +kernel
theorem dX9_copyHealths_214 : decode cX9_copyHealths 214 = .ok (.faload, 1) := by decide +kernel
theorem dX9_copyHealths_215 : decode cX9_copyHealths 215 = .ok (.fastore, 1) := by decide +kernel
theorem dX9_copyHealths_216 : decode cX9_copyHealths 216 = .ok (.iinc 4 1, 3) := by decide +kernel
theorem dX9_copyHealths_219 : decode cX9_copyHealths 219 = .ok (.goto (-118), 3) := by decide +kernel
theorem dX9_copyHealths_222 : decode cX9_copyHealths 222 = .ok (.iload_n 3, 1) := by decide +kernel
theorem dX9_copyHealths_223 : decode cX9_copyHealths 223 = .ok (.ireturn, 1) := by decide +kernel
theorem dX9_snapshot_0 : decode cX9_snapshot 0 = .ok (.aload_n 0, 1) := by decide +kernel
theorem dX9_snapshot_1 : decode cX9_snapshot 1 = .ok (.iconst 0, 1) := by decide +kernel
theorem dX9_snapshot_2 : decode cX9_snapshot 2 = .ok (.putfield 57, 3) := by decide +kernel
theorem dX9_snapshot_5 : decode cX9_snapshot 5 = .ok (.aload_n 0, 1) := by decide +kernel
theorem dX9_snapshot_6 : decode cX9_snapshot 6 = .ok (.getfield 9, 3) := by decide +kernel
theorem dX9_snapshot_9 : decode cX9_snapshot 9 = .ok (.aload_n 0, 1) := by decide +kernel
theorem dX9_snapshot_10 : decode cX9_snapshot 10 = .ok (.getfield 16, 3) := by decide +kernel
theorem dX9_snapshot_13 : decode cX9_snapshot 13 = .ok (.sipush 290, 3) := by decide +kernel
theorem dX9_snapshot_16 : decode cX9_snapshot 16 = .ok (.invokestatic 173, 3) := by decide +kernel
theorem dX9_snapshot_19 : decode cX9_snapshot 19 = .ok (.aload_n 0, 1) := by decide +kernel
theorem dX9_snapshot_20 : decode cX9_snapshot 20 = .ok (.getfield 13, 3) := by decide +kernel
theorem dX9_snapshot_23 : decode cX9_snapshot 23 = .ok (.aload_n 0, 1) := by decide +kernel
theorem dX9_snapshot_24 : decode cX9_snapshot 24 = .ok (.getfield 19, 3) := by decide +kernel
theorem dX9_snapshot_27 : decode cX9_snapshot 27 = .ok (.sipush 290, 3) := by decide +kernel
theorem dX9_snapshot_30 : decode cX9_snapshot 30 = .ok (.invokestatic 173, 3) := by decide +kernel
theorem dX9_snapshot_33 : decode cX9_snapshot 33 = .ok (.aload_n 0, 1) := by decide +kernel
theorem dX9_snapshot_34 : decode cX9_snapshot 34 = .ok (.getfield 28, 3) := by decide +kernel
theorem dX9_snapshot_37 : decode cX9_snapshot 37 = .ok (.aload_n 0, 1) := by decide +kernel
theorem dX9_snapshot_38 : decode cX9_snapshot 38 = .ok (.getfield 31, 3) := by decide +kernel
theorem dX9_snapshot_41 : decode cX9_snapshot 41 = .ok (.iconst 2, 1) := by decide +kernel
theorem dX9_snapshot_42 : decode cX9_snapshot 42 = .ok (.aload_n 0, 1) := by decide +kernel
theorem dX9_snapshot_43 : decode cX9_snapshot 43 = .ok (.getfield 9, 3) := by decide +kernel
theorem dX9_snapshot_46 : decode cX9_snapshot 46 = .ok (.sipush 289, 3) := by decide +kernel
theorem dX9_snapshot_49 : decode cX9_snapshot 49 = .ok (.iaload, 1) := by decide +kernel
theorem dX9_snapshot_50 : decode cX9_snapshot 50 = .ok (.imul, 1) := by decide +kernel
theorem dX9_snapshot_51 : decode cX9_snapshot 51 = .ok (.invokestatic 173, 3) := by decide +kernel
theorem dX9_snapshot_54 : decode cX9_snapshot 54 = .ok (.aload_n 0, 1) := by decide +kernel
theorem dX9_snapshot_55 : decode cX9_snapshot 55 = .ok (.iconst 1, 1) := by decide +kernel
theorem dX9_snapshot_56 : decode cX9_snapshot 56 = .ok (.putfield 264, 3) := by decide +kernel
theorem dX9_snapshot_59 : decode cX9_snapshot 59 = .ok (.aload_n 0, 1) := by decide +kernel
theorem dX9_snapshot_60 : decode cX9_snapshot 60 = .ok (.getfield 9, 3) := by decide +kernel
theorem dX9_snapshot_63 : decode cX9_snapshot 63 = .ok (.bipush 66, 2) := by decide +kernel
theorem dX9_snapshot_65 : decode cX9_snapshot 65 = .ok (.iaload, 1) := by decide +kernel
theorem dX9_snapshot_66 : decode cX9_snapshot 66 = .ok (.ireturn, 1) := by decide +kernel
theorem dX9_restore_0 : decode cX9_restore 0 = .ok (.aload_n 0, 1) := by decide +kernel
theorem dX9_restore_1 : decode cX9_restore 1 = .ok (.aload_n 0, 1) := by decide +kernel
theorem dX9_restore_2 : decode cX9_restore 2 = .ok (.getfield 264, 3) := by decide +kernel
theorem dX9_restore_5 : decode cX9_restore 5 = .ok (.ifCond .eq 7, 3) := by decide +kernel
theorem dX9_restore_8 : decode cX9_restore 8 = .ok (.iconst 0, 1) := by decide +kernel
theorem dX9_restore_9 : decode cX9_restore 9 = .ok (.goto 4, 3) := by decide +kernel
theorem dX9_restore_12 : decode cX9_restore 12 = .ok (.iconst 1, 1) := by decide +kernel
theorem dX9_restore_13 : decode cX9_restore 13 = .ok (.putfield 57, 3) := by decide +kernel
theorem dX9_restore_16 : decode cX9_restore 16 = .ok (.aload_n 0, 1) := by decide +kernel
theorem dX9_restore_17 : decode cX9_restore 17 = .ok (.getfield 264, 3) := by decide +kernel
theorem dX9_restore_20 : decode cX9_restore 20 = .ok (.ifCond .ne 5, 3) := by decide +kernel
theorem dX9_restore_23 : decode cX9_restore 23 = .ok (.iconst 0, 1) := by decide +kernel
theorem dX9_restore_24 : decode cX9_restore 24 = .ok (.ireturn, 1) := by decide +kernel
theorem dX9_restore_25 : decode cX9_restore 25 = .ok (.aload_n 0, 1) := by decide +kernel
theorem dX9_restore_26 : decode cX9_restore 26 = .ok (.getfield 16, 3) := by decide +kernel
theorem dX9_restore_29 : decode cX9_restore 29 = .ok (.aload_n 0, 1) := by decide +kernel
theorem dX9_restore_30 : decode cX9_restore 30 = .ok (.getfield 9, 3) := by decide +kernel
theorem dX9_restore_33 : decode cX9_restore 33 = .ok (.sipush 290, 3) := by decide +kernel
theorem dX9_restore_36 : decode cX9_restore 36 = .ok (.invokestatic 173, 3) := by decide +kernel
theorem dX9_restore_39 : decode cX9_restore 39 = .ok (.aload_n 0, 1) := by decide +kernel
theorem dX9_restore_40 : decode cX9_restore 40 = .ok (.getfield 19, 3) := by decide +kernel
theorem dX9_restore_43 : decode cX9_restore 43 = .ok (.aload_n 0, 1) := by decide +kernel
theorem dX9_restore_44 : decode cX9_restore 44 = .ok (.getfield 13, 3) := by decide +kernel
theorem dX9_restore_47 : decode cX9_restore 47 = .ok (.sipush 290, 3) := by decide +kernel
theorem dX9_restore_50 : decode cX9_restore 50 = .ok (.invokestatic 173, 3) := by decide +kernel
theorem dX9_restore_53 : decode cX9_restore 53 = .ok (.aload_n 0, 1) := by decide +kernel
theorem dX9_restore_54 : decode cX9_restore 54 = .ok (.getfield 31, 3) := by decide +kernel
theorem dX9_restore_57 : decode cX9_restore 57 = .ok (.aload_n 0, 1) := by decide +kernel
theorem dX9_restore_58 : decode cX9_restore 58 = .ok (.getfield 28, 3) := by decide +kernel
theorem dX9_restore_61 : decode cX9_restore 61 = .ok (.iconst 2, 1) := by decide +kernel
theorem dX9_restore_62 : decode cX9_restore 62 = .ok (.aload_n 0, 1) := by decide +kernel
theorem dX9_restore_63 : decode cX9_restore 63 = .ok (.getfield 9, 3) := by decide +kernel
theorem dX9_restore_66 : decode cX9_restore 66 = .ok (.sipush 289, 3) := by decide +kernel
theorem dX9_restore_69 : decode cX9_restore 69 = .ok (.iaload, 1) := by decide +kernel
theorem dX9_restore_70 : decode cX9_restore 70 = .ok (.imul, 1) := by decide +kernel
theorem dX9_restore_71 : decode cX9_restore 71 = .ok (.invokestatic 173, 3) := by decide +kernel
theorem dX9_restore_74 : decode cX9_restore 74 = .ok (.aload_n 0, 1) := by decide +kernel
theorem dX9_restore_75 : decode cX9_restore 75 = .ok (.iconst 0, 1) := by decide +kernel
theorem dX9_restore_76 : decode cX9_restore 76 = .ok (.putfield 97, 3) := by decide +kernel
theorem dX9_restore_79 : decode cX9_restore 79 = .ok (.aload_n 0, 1) := by decide +kernel
theorem dX9_restore_80 : decode cX9_restore 80 = .ok (.getfield 9, 3) := by decide +kernel
theorem dX9_restore_83 : decode cX9_restore 83 = .ok (.bipush 66, 2) := by decide +kernel
theorem dX9_restore_85 : decode cX9_restore 85 = .ok (.iaload, 1) := by decide +kernel
theorem dX9_restore_86 : decode cX9_restore 86 = .ok (.ireturn, 1) := by decide +kernel
theorem dX9_storedBits_0 : decode cX9_storedBits 0 = .ok (.aload_n 0, 1) := by decide +kernel
theorem dX9_storedBits_1 : decode cX9_storedBits 1 = .ok (.iload_n 1, 1) := by decide +kernel
theorem dX9_storedBits_2 : decode cX9_storedBits 2 = .ok (.iconst 0, 1) := by decide +kernel
theorem dX9_storedBits_3 : decode cX9_storedBits 3 = .ok (.iconst 1, 1) := by decide +kernel
theorem dX9_storedBits_4 : decode cX9_storedBits 4 = .ok (.invokestatic 67, 3) := by decide +kernel
theorem dX9_storedBits_7 : decode cX9_storedBits 7 = .ok (.ifCond .ne 7, 3) := by decide +kernel
theorem dX9_storedBits_10 : decode cX9_storedBits 10 = .ok (.iconst 1, 1) := by decide +kernel
theorem dX9_storedBits_11 : decode cX9_storedBits 11 = .ok (.goto 33, 3) := by decide +kernel
theorem dX9_storedBits_14 : decode cX9_storedBits 14 = .ok (.aload_n 0, 1) := by decide +kernel
theorem dX9_storedBits_15 : decode cX9_storedBits 15 = .ok (.getfield 50, 3) := by decide +kernel
theorem dX9_storedBits_18 : decode cX9_storedBits 18 = .ok (.iload_n 1, 1) := by decide +kernel
theorem dX9_storedBits_19 : decode cX9_storedBits 19 = .ok (.iaload, 1) := by decide +kernel
theorem dX9_storedBits_20 : decode cX9_storedBits 20 = .ok (.ifCond .eq 19, 3) := by decide +kernel
theorem dX9_storedBits_23 : decode cX9_storedBits 23 = .ok (.iload_n 2, 1) := by decide +kernel
theorem dX9_storedBits_24 : decode cX9_storedBits 24 = .ok (.iconst 0, 1) := by decide +kernel
theorem dX9_storedBits_25 : decode cX9_storedBits 25 = .ok (.aload_n 0, 1) := by decide +kernel
theorem dX9_storedBits_26 : decode cX9_storedBits 26 = .ok (.getfield 47, 3) := by decide +kernel
theorem dX9_storedBits_29 : decode cX9_storedBits 29 = .ok (.iload_n 1, 1) := by decide +kernel
theorem dX9_storedBits_30 : decode cX9_storedBits 30 = .ok (.iaload, 1) := by decide +kernel
theorem dX9_storedBits_31 : decode cX9_storedBits 31 = .ok (.iconst 1, 1) := by decide +kernel
theorem dX9_storedBits_32 : decode cX9_storedBits 32 = .ok (.isub, 1) := by decide +kernel
theorem dX9_storedBits_33 : decode cX9_storedBits 33 = .ok (.invokestatic 67, 3) := by decide +kernel
theorem dX9_storedBits_36 : decode cX9_storedBits 36 = .ok (.ifCond .ne 7, 3) := by decide +kernel
theorem dX9_storedBits_39 : decode cX9_storedBits 39 = .ok (.iconst 2, 1) := by decide +kernel
theorem dX9_storedBits_40 : decode cX9_storedBits 40 = .ok (.goto 4, 3) := by decide +kernel
theorem dX9_storedBits_43 : decode cX9_storedBits 43 = .ok (.iconst 0, 1) := by decide +kernel
theorem dX9_storedBits_44 : decode cX9_storedBits 44 = .ok (.putfield 57, 3) := by decide +kernel
theorem dX9_storedBits_47 : decode cX9_storedBits 47 = .ok (.aload_n 0, 1) := by decide +kernel
theorem dX9_storedBits_48 : decode cX9_storedBits 48 = .ok (.getfield 57, 3) := by decide +kernel
theorem dX9_storedBits_51 : decode cX9_storedBits 51 = .ok (.ifCond .le 5, 3) := by decide +kernel
theorem dX9_storedBits_54 : decode cX9_storedBits 54 = .ok (.iconst 0, 1) := by decide +kernel
theorem dX9_storedBits_55 : decode cX9_storedBits 55 = .ok (.ireturn, 1) := by decide +kernel
theorem dX9_storedBits_56 : decode cX9_storedBits 56 = .ok (.aload_n 0, 1) := by decide +kernel
theorem dX9_storedBits_57 : decode cX9_storedBits 57 = .ok (.getfield 50, 3) := by decide +kernel
theorem dX9_storedBits_60 : decode cX9_storedBits 60 = .ok (.iload_n 1, 1) := by decide +kernel
theorem dX9_storedBits_61 : decode cX9_storedBits 61 = .ok (.iaload, 1) := by decide +kernel
theorem dX9_storedBits_62 : decode cX9_storedBits 62 = .ok (.iconst 1, 1) := by decide +kernel
theorem dX9_storedBits_63 : decode cX9_storedBits 63 = .ok (.if_icmp .ne 18, 3) := by decide +kernel
theorem dX9_storedBits_66 : decode cX9_storedBits 66 = .ok (.aload_n 0, 1) := by decide +kernel
theorem dX9_storedBits_67 : decode cX9_storedBits 67 = .ok (.getfield 44, 3) := by decide +kernel
theorem dX9_storedBits_70 : decode cX9_storedBits 70 = .ok (.bipush 8, 2) := by decide +kernel
theorem dX9_storedBits_72 : decode cX9_storedBits 72 = .ok (.iload_n 1, 1) := by decide +kernel
theorem dX9_storedBits_73 : decode cX9_storedBits 73 = .ok (.imul, 1) := by decide +kernel
theorem dX9_storedBits_74 : decode cX9_storedBits 74 = .ok (.iload_n 2, 1) := by decide +kernel
theorem dX9_storedBits_75 : decode cX9_storedBits 75 = .ok (.iadd, 1) := by decide +kernel
theorem dX9_storedBits_76 : decode cX9_storedBits 76 = .ok (.iaload, 1) := by decide +kernel
theorem dX9_storedBits_77 : decode cX9_storedBits 77 = .ok (.i2f, 1) := by decide +kernel
theorem dX9_storedBits_78 : decode cX9_storedBits 78 = .ok (.goto 14, 3) := by decide +kernel
theorem dX9_storedBits_81 : decode cX9_storedBits 81 = .ok (.aload_n 0, 1) := by decide +kernel
theorem dX9_storedBits_82 : decode cX9_storedBits 82 = .ok (.getfield 53, 3) := by decide +kernel
theorem dX9_storedBits_85 : decode cX9_storedBits 85 = .ok (.bipush 8, 2) := by decide +kernel
theorem dX9_storedBits_87 : decode cX9_storedBits 87 = .ok (.iload_n 1, 1) := by decide +kernel
theorem dX9_storedBits_88 : decode cX9_storedBits 88 = .ok (.imul, 1) := by decide +kernel
theorem dX9_storedBits_89 : decode cX9_storedBits 89 = .ok (.iload_n 2, 1) := by decide +kernel
theorem dX9_storedBits_90 : decode cX9_storedBits 90 = .ok (.iadd, 1) := by decide +kernel
theorem dX9_storedBits_91 : decode cX9_storedBits 91 = .ok (.faload, 1) := by decide +kernel
theorem dX9_storedBits_92 : decode cX9_storedBits 92 = .ok (.invokestatic 258, 3) := by decide +kernel
theorem dX9_storedBits_95 : decode cX9_storedBits 95 = .ok (.ireturn, 1) := by decide +kernel
abbrev rmX9_storeHealths : Room := { frames := 2, cells := 0, slots := 0, locals := 44 }
def wX9_storeHealths_58 (Q : Int32 → MS → Prop) (QX : String → MS → Prop) (k58 : MS → Nat → Int32 → Int32 → Prop) (S : MS) (a0 : Nat) (y1 : Int32) (y3 : Int32) : Prop := (∃ a1, mR S a0 1 = some a1 ∧ (vp_in 66 (mN S a1) ∧ (((mI S a1 (66 : Int32).toNatClampNeg) ≤ y3 → (∃ a2, mR S a0 1 = some a2 ∧ (vp_in 66 (mN S a2) ∧ Q (mI S a2 (66 : Int32).toNatClampNeg) S))) ∧ (¬ (mI S a1 (66 : Int32).toNatClampNeg) ≤ y3 → (∃ a3, mR S a0 19 = some a3 ∧ wp_X9_of (fun r5 S4 => (vp_in ((8 * y1) + y3) (mN S4 a3) ∧ (∀ S6, S6 = (sI S4 a3 (((8 * y1) + y3) : Int32).toNatClampNeg r5) → (∃ a7, mR S6 a0 22 = some a7 ∧ wp_X9_of (fun r9 S8 => wp_X9_kindly (fun r11 S10 => (vf_n32 (FP.fdiv (FP.i2f r9) (FP.i2f r11)) ∧ (vp_in ((8 * y1) + y3) (mN S10 a7) ∧ (∀ S12, S12 = (sF S10 a7 (((8 * y1) + y3) : Int32).toNatClampNeg (FP.fdiv (FP.i2f r9) (FP.i2f r11))) → k58 S12 a0 y1 (y3 + 1))))) QX S8 a0 y3 0) QX S6 a0 y3 3)))) QX S a0 y3 3)))))
set_option maxHeartbeats 4000000 in
set_option maxRecDepth 100000 in
theorem tX9_storeHealths_58 {p : Program} {l : Launch} {e : Env} {s : State} {m : MethodId} {args : Array Value} {below : List Frame} {meth : Method} {c : Code} {H : Heap} {locs : List Loc} {cells slots : Nat} {G : GP} {A : Nat → Prop} {S0 : MS} {ls : Array Slot} (C : CF p l s m args meth c "SkirmishGridModel" cX9_storeHealths 4 G A) (hr : meth.sig.returnType = (some .int)) (hex : ∀ x ∈ c.exceptionTable.toList, False) (Q : Int32 → MS → Prop) (QX : String → MS → Prop) (k58 : MS → Nat → Int32 → Int32 → Prop) (kh58 : ∀ (S : MS) (a0 : Nat) (y1 : Int32) (y3 : Int32) (cells slots : Nat) (H : Heap) (locs : List Loc) (ls : Array Slot), pI S 9 a0 → PW G A s H locs S0 S → lv_has ls 4 [(0, .ref a0), (1, .int y1), (3, .int y3)] → cells + 0 ≤ 0 → slots + 0 ≤ 0 → k58 S a0 y1 y3 → W p l e rmX9_storeHealths s m args below meth c H locs cells slots (vx_MQ below (QI G S0 A Q) (XX G S0 A QX) args s 0 0 A) (F0 m 58 ls [])) (S : MS) (a0 : Nat) (y1 : Int32) (y3 : Int32) (p_a0 : pI S 9 a0) (P : PW G A s H locs S0 S) (hl : lv_has ls 4 [(0, .ref a0), (1, .int y1), (3, .int y3)]) (hcc : cells + 0 ≤ 0) (hss : slots + 0 ≤ 0) (hw : wX9_storeHealths_58 Q QX k58 S a0 y1 y3) : W p l e rmX9_storeHealths s m args below meth c H locs cells slots (vx_MQ below (QI G S0 A Q) (XX G S0 A QX) args s 0 0 A) (F0 m 58 ls []) := by
  have hx := CF_x C
  have hb := CF_b C
  unfold wX9_storeHealths_58 at hw
  refine lv_iload_n hx hb dX9_storeHealths_58 rfl (lv_at hl 2 rfl) ?_
  refine lv_aload_n hx hb dX9_storeHealths_59 rfl (lv_at hl 0 rfl) ?_
  obtain ⟨a1, e1, hw⟩ := hw
  have p_a1 : pI S 12 a1 := wf_r P.2.2.2.1 p_a0 e1
  refine gf_9_1 C P p_a0 e1 q_1306 dX9_storeHealths_60 ?_
  refine lv_bipush (v := 66) hx hb dX9_storeHealths_63 (by decide) ?_
  obtain ⟨h1, hw⟩ := hw
  refine ra_i C P p_a1 h1 dX9_storeHealths_65 ?_
  refine lv_icmp_ge (tgt := 118) hx hb dX9_storeHealths_66 (by decide) (fun hc => ?_) (fun hc => ?_)
  · have hw := hw.1 hc
    refine lv_aload_n hx hb dX9_storeHealths_118 rfl (lv_at hl 0 rfl) ?_
    obtain ⟨a2, e1, hw⟩ := hw
    have p_a2 : pI S 12 a2 := wf_r P.2.2.2.1 p_a0 e1
    refine gf_9_1 C P p_a0 e1 q_1306 dX9_storeHealths_119 ?_
    refine lv_bipush (v := 66) hx hb dX9_storeHealths_122 (by decide) ?_
    obtain ⟨h1, hw⟩ := hw
    refine ra_i C P p_a2 h1 dX9_storeHealths_124 ?_
    exact e_i C hr rfl P hw (by omega) (by omega) dX9_storeHealths_125
  · have hw := hw.2 hc
    refine lv_aload_n hx hb dX9_storeHealths_69 rfl (lv_at hl 0 rfl) ?_
    obtain ⟨a3, e1, hw⟩ := hw
    have p_a3 : pI S 12 a3 := wf_r P.2.2.2.1 p_a0 e1
    refine gf_9_19 C P p_a0 e1 q_1324 dX9_storeHealths_70 ?_
    refine lv_bipush (v := 8) hx hb dX9_storeHealths_73 (by decide) ?_
    refine lv_iload_n hx hb dX9_storeHealths_75 rfl (lv_at hl 1 rfl) ?_
    refine lv_imul hx hb dX9_storeHealths_76 ?_
    refine lv_iload_n hx hb dX9_storeHealths_77 rfl (lv_at hl 2 rfl) ?_
    refine lv_iadd hx hb dX9_storeHealths_78 ?_
    refine lv_aload_n hx hb dX9_storeHealths_79 rfl (lv_at hl 0 rfl) ?_
    refine lv_iload_n hx hb dX9_storeHealths_80 rfl (lv_at hl 2 rfl) ?_
    refine lv_iconst (v := 3) hx hb dX9_storeHealths_81 (by decide) ?_
    refine cl_i C P (run_V C P hl.1 (kd := 9) (met_X9_of (CF_n C) G H.size _ _ S a0 y3 3 p_a0 hw) p_a0 (by decide) rfl q_1457 q_1459 q_p34 q_10 q_1460 cd_X9_of ⟨(Nat.le_of_ble_eq_true rfl), (Nat.le_of_ble_eq_true rfl)⟩ rfl rfl (As := [.int y3, .int 3]) (rest := [.int ((8 * y1) + y3), .ref a3]) rfl rfl (Nat.le_of_ble_eq_true rfl) dX9_storeHealths_82 ⟨by show cells + 0 ≤ 0; omega, by show slots + 0 ≤ 0; omega⟩) (kx_out C hex (fun _ _ _ h => h) (by omega) (by omega)) (fun r5 S4 H locs P hE hw => ?_)
    have p_a0 : pI S4 9 a0 := pI_x hE p_a0
    have p_a3 : pI S4 12 a3 := pI_x hE p_a3
    obtain ⟨h1, hw⟩ := hw
    refine rs_i C P p_a3 h1 dX9_storeHealths_85 (fun H locs P => ?_)
    obtain ⟨S6, hS⟩ : ∃ z, z = (sI S4 a3 (((8 * y1) + y3) : Int32).toNatClampNeg r5) := ⟨_, rfl⟩
    have P : PW G A s H locs S0 S6 := by rw [hS]; exact P
    have p_a0 : pI S6 9 a0 := by rw [hS]; exact pI_x ext_sI p_a0
    have p_a3 : pI S6 12 a3 := by rw [hS]; exact pI_x ext_sI p_a3
    have hw := hw S6 hS
    refine lv_aload_n hx hb dX9_storeHealths_86 rfl (lv_at hl 0 rfl) ?_
    obtain ⟨a7, e1, hw⟩ := hw
    have p_a7 : pI S6 11 a7 := wf_r P.2.2.2.1 p_a0 e1
    refine gf_9_22 C P p_a0 e1 q_1327 dX9_storeHealths_87 ?_
    refine lv_bipush (v := 8) hx hb dX9_storeHealths_90 (by decide) ?_
    refine lv_iload_n hx hb dX9_storeHealths_92 rfl (lv_at hl 1 rfl) ?_
    refine lv_imul hx hb dX9_storeHealths_93 ?_
    refine lv_iload_n hx hb dX9_storeHealths_94 rfl (lv_at hl 2 rfl) ?_
    refine lv_iadd hx hb dX9_storeHealths_95 ?_
    refine lv_aload_n hx hb dX9_storeHealths_96 rfl (lv_at hl 0 rfl) ?_
    refine lv_iload_n hx hb dX9_storeHealths_97 rfl (lv_at hl 2 rfl) ?_
    refine lv_iconst (v := 3) hx hb dX9_storeHealths_98 (by decide) ?_
    refine cl_i C P (run_V C P hl.1 (kd := 9) (met_X9_of (CF_n C) G H.size _ _ S6 a0 y3 3 p_a0 hw) p_a0 (by decide) rfl q_1457 q_1459 q_p34 q_10 q_1460 cd_X9_of ⟨(Nat.le_of_ble_eq_true rfl), (Nat.le_of_ble_eq_true rfl)⟩ rfl rfl (As := [.int y3, .int 3]) (rest := [.int ((8 * y1) + y3), .ref a7]) rfl rfl (Nat.le_of_ble_eq_true rfl) dX9_storeHealths_99 ⟨by show cells + 0 ≤ 0; omega, by show slots + 0 ≤ 0; omega⟩) (kx_out C hex (fun _ _ _ h => h) (by omega) (by omega)) (fun r9 S8 H locs P hE hw => ?_)
    have p_a0 : pI S8 9 a0 := pI_x hE p_a0
    have p_a7 : pI S8 11 a7 := pI_x hE p_a7
    refine lv_i2f hx hb dX9_storeHealths_102 ?_
    refine lv_aload_n hx hb dX9_storeHealths_103 rfl (lv_at hl 0 rfl) ?_
    refine lv_iload_n hx hb dX9_storeHealths_104 rfl (lv_at hl 2 rfl) ?_
    refine lv_iconst (v := 0) hx hb dX9_storeHealths_105 (by decide) ?_
    refine cl_i C P (run_V C P hl.1 (kd := 9) (met_X9_kindly (CF_n C) G H.size _ _ S8 a0 y3 0 p_a0 hw) p_a0 (by decide) rfl q_1532 q_1534 q_p44 q_10 q_1535 cd_X9_kindly ⟨(Nat.le_of_ble_eq_true rfl), (Nat.le_of_ble_eq_true rfl)⟩ rfl rfl (As := [.int y3, .int 0]) (rest := [.float (FP.i2f r9), .int ((8 * y1) + y3), .ref a7]) rfl rfl (Nat.le_of_ble_eq_true rfl) dX9_storeHealths_106 ⟨by show cells + 0 ≤ 0; omega, by show slots + 0 ≤ 0; omega⟩) (kx_out C hex (fun _ _ _ h => h) (by omega) (by omega)) (fun r11 S10 H locs P hE hw => ?_)
    have p_a0 : pI S10 9 a0 := pI_x hE p_a0
    have p_a7 : pI S10 11 a7 := pI_x hE p_a7
    refine lv_i2f hx hb dX9_storeHealths_109 ?_
    obtain ⟨h1, hw⟩ := hw
    refine lv_fdiv hx hb dX9_storeHealths_110 h1 ?_
    obtain ⟨h1, hw⟩ := hw
    refine rs_f C P p_a7 h1 dX9_storeHealths_111 (fun H locs P => ?_)
    obtain ⟨S12, hS⟩ : ∃ z, z = (sF S10 a7 (((8 * y1) + y3) : Int32).toNatClampNeg (FP.fdiv (FP.i2f r9) (FP.i2f r11))) := ⟨_, rfl⟩
    have P : PW G A s H locs S0 S12 := by rw [hS]; exact P
    have p_a0 : pI S12 9 a0 := by rw [hS]; exact pI_x ext_sF p_a0
    have p_a7 : pI S12 11 a7 := by rw [hS]; exact pI_x ext_sF p_a7
    have hw := hw S12 hS
    refine lv_iinc (v := (y3 + 1)) (lv' := [(3, .int (y3 + 1)), (0, .ref a0), (1, .int y1)]) hx hb dX9_storeHealths_112 hl (k := 2) rfl (by rfl) (by decide) rfl (fun ls hl => ?_)
    refine lv_goto (tgt := 58) hx hb dX9_storeHealths_115 (by decide) ?_
    exact kh58 S12 a0 y1 (y3 + 1) _ _ _ _ _ p_a0 P (lv_sub hl [1, 2, 0] rfl) (by omega) (by omega) hw
def lX9_storeHealths_58 (Q : Int32 → MS → Prop) (QX : String → MS → Prop) : Nat → MS → Nat → Int32 → Int32 → Prop
  | 0 => fun _ _ _ _ => False
  | n + 1 => fun S a0 y1 y3 => wX9_storeHealths_58 Q QX (lX9_storeHealths_58 Q QX n) S a0 y1 y3
theorem tlX9_storeHealths_58 {p : Program} {l : Launch} {e : Env} {s : State} {m : MethodId} {args : Array Value} {below : List Frame} {meth : Method} {c : Code} {G : GP} {A : Nat → Prop} {S0 : MS} (C : CF p l s m args meth c "SkirmishGridModel" cX9_storeHealths 4 G A) (hr : meth.sig.returnType = (some .int)) (hex : ∀ x ∈ c.exceptionTable.toList, False) (Q : Int32 → MS → Prop) (QX : String → MS → Prop) : ∀ (n : Nat), ∀ (S : MS) (a0 : Nat) (y1 : Int32) (y3 : Int32) (cells slots : Nat) (H : Heap) (locs : List Loc) (ls : Array Slot), pI S 9 a0 → PW G A s H locs S0 S → lv_has ls 4 [(0, .ref a0), (1, .int y1), (3, .int y3)] → cells + 0 ≤ 0 → slots + 0 ≤ 0 → lX9_storeHealths_58 Q QX n S a0 y1 y3 → W p l e rmX9_storeHealths s m args below meth c H locs cells slots (vx_MQ below (QI G S0 A Q) (XX G S0 A QX) args s 0 0 A) (F0 m 58 ls []) := by
  intro n
  induction n with
  | zero => intro S a0 y1 y3 cells slots H locs ls p_a0 P hl hcc hss hw; exact hw.elim
  | succ n ih => intro S a0 y1 y3 cells slots H locs ls p_a0 P hl hcc hss hw; exact tX9_storeHealths_58 C hr hex Q QX (lX9_storeHealths_58 Q QX n) ih S a0 y1 y3 p_a0 P hl hcc hss hw
def wX9_storeHealths_42 (Q : Int32 → MS → Prop) (QX : String → MS → Prop) (S : MS) (a0 : Nat) (y1 : Int32) (z0 : Int32) (z1 : Int32) (w2 : Nat) : Prop := (vp_in z1 (mN S w2) ∧ (∀ S1, S1 = (sI S w2 (z1 : Int32).toNatClampNeg z0) → (∃ a2, mR S1 a0 20 = some a2 ∧ (∃ a3, mR S1 a0 1 = some a3 ∧ (vp_in 66 (mN S1 a3) ∧ (vp_in y1 (mN S1 a2) ∧ (∀ S4, S4 = (sI S1 a2 (y1 : Int32).toNatClampNeg (mI S1 a3 (66 : Int32).toNatClampNeg)) → (∃ n, lX9_storeHealths_58 Q QX n S4 a0 y1 0))))))))
set_option maxHeartbeats 4000000 in
set_option maxRecDepth 100000 in
theorem tX9_storeHealths_42 {p : Program} {l : Launch} {e : Env} {s : State} {m : MethodId} {args : Array Value} {below : List Frame} {meth : Method} {c : Code} {H : Heap} {locs : List Loc} {cells slots : Nat} {G : GP} {A : Nat → Prop} {S0 : MS} {ls : Array Slot} (C : CF p l s m args meth c "SkirmishGridModel" cX9_storeHealths 4 G A) (hr : meth.sig.returnType = (some .int)) (hex : ∀ x ∈ c.exceptionTable.toList, False) (Q : Int32 → MS → Prop) (QX : String → MS → Prop) (S : MS) (a0 : Nat) (y1 : Int32) (z0 : Int32) (z1 : Int32) (w2 : Nat) (p_a0 : pI S 9 a0) (p_w2 : pI S 12 w2) (P : PW G A s H locs S0 S) (hl : lv_has ls 4 [(0, .ref a0), (1, .int y1)]) (hcc : cells + 0 ≤ 0) (hss : slots + 0 ≤ 0) (hw : wX9_storeHealths_42 Q QX S a0 y1 z0 z1 w2) : W p l e rmX9_storeHealths s m args below meth c H locs cells slots (vx_MQ below (QI G S0 A Q) (XX G S0 A QX) args s 0 0 A) (F0 m 42 ls [.int z0, .int z1, .ref w2]) := by
  have hx := CF_x C
  have hb := CF_b C
  unfold wX9_storeHealths_42 at hw
  obtain ⟨h1, hw⟩ := hw
  refine rs_i C P p_w2 h1 dX9_storeHealths_42 (fun H locs P => ?_)
  obtain ⟨S1, hS⟩ : ∃ z, z = (sI S w2 (z1 : Int32).toNatClampNeg z0) := ⟨_, rfl⟩
  have P : PW G A s H locs S0 S1 := by rw [hS]; exact P
  have p_a0 : pI S1 9 a0 := by rw [hS]; exact pI_x ext_sI p_a0
  have p_w2 : pI S1 12 w2 := by rw [hS]; exact pI_x ext_sI p_w2
  have hw := hw S1 hS
  refine lv_aload_n hx hb dX9_storeHealths_43 rfl (lv_at hl 0 rfl) ?_
  obtain ⟨a2, e1, hw⟩ := hw
  have p_a2 : pI S1 12 a2 := wf_r P.2.2.2.1 p_a0 e1
  refine gf_9_20 C P p_a0 e1 q_1325 dX9_storeHealths_44 ?_
  refine lv_iload_n hx hb dX9_storeHealths_47 rfl (lv_at hl 1 rfl) ?_
  refine lv_aload_n hx hb dX9_storeHealths_48 rfl (lv_at hl 0 rfl) ?_
  obtain ⟨a3, e1, hw⟩ := hw
  have p_a3 : pI S1 12 a3 := wf_r P.2.2.2.1 p_a0 e1
  refine gf_9_1 C P p_a0 e1 q_1306 dX9_storeHealths_49 ?_
  refine lv_bipush (v := 66) hx hb dX9_storeHealths_52 (by decide) ?_
  obtain ⟨h1, hw⟩ := hw
  refine ra_i C P p_a3 h1 dX9_storeHealths_54 ?_
  obtain ⟨h1, hw⟩ := hw
  refine rs_i C P p_a2 h1 dX9_storeHealths_55 (fun H locs P => ?_)
  obtain ⟨S4, hS⟩ : ∃ z, z = (sI S1 a2 (y1 : Int32).toNatClampNeg (mI S1 a3 (66 : Int32).toNatClampNeg)) := ⟨_, rfl⟩
  have P : PW G A s H locs S0 S4 := by rw [hS]; exact P
  have p_a0 : pI S4 9 a0 := by rw [hS]; exact pI_x ext_sI p_a0
  have p_a2 : pI S4 12 a2 := by rw [hS]; exact pI_x ext_sI p_a2
  have hw := hw S4 hS
  refine lv_iconst (v := 0) hx hb dX9_storeHealths_56 (by decide) ?_
  refine lv_istore_n (lv' := [(3, .int 0), (0, .ref a0), (1, .int y1)]) hx hb dX9_storeHealths_57 rfl hl (by decide) rfl (fun ls hl => ?_)
  obtain ⟨n, hw⟩ := hw
  exact tlX9_storeHealths_58 C hr hex Q QX n S4 a0 y1 0 _ _ _ _ _ p_a0 P (lv_sub hl [1, 2, 0] rfl) (by omega) (by omega) hw
def wX9_storeHealths_15 (Q : Int32 → MS → Prop) (QX : String → MS → Prop) (S : MS) (a0 : Nat) (y1 : Int32) (y2 : Int32) (z0 : Int32) (w1 : Nat) : Prop := (∀ S1, S1 = (sI S w1 0 z0) → ((¬ (mI S1 a0 0) = 1 → (∃ a2, mR S1 a0 21 = some a2 ∧ ((y2 = 0 → wX9_storeHealths_42 Q QX S1 a0 y1 2 y1 a2) ∧ (¬ y2 = 0 → wX9_storeHealths_42 Q QX S1 a0 y1 1 y1 a2)))) ∧ ((mI S1 a0 0) = 1 → Q 0 S1)))
set_option maxHeartbeats 4000000 in
set_option maxRecDepth 100000 in
theorem tX9_storeHealths_15 {p : Program} {l : Launch} {e : Env} {s : State} {m : MethodId} {args : Array Value} {below : List Frame} {meth : Method} {c : Code} {H : Heap} {locs : List Loc} {cells slots : Nat} {G : GP} {A : Nat → Prop} {S0 : MS} {ls : Array Slot} (C : CF p l s m args meth c "SkirmishGridModel" cX9_storeHealths 4 G A) (hr : meth.sig.returnType = (some .int)) (hex : ∀ x ∈ c.exceptionTable.toList, False) (Q : Int32 → MS → Prop) (QX : String → MS → Prop) (S : MS) (a0 : Nat) (y1 : Int32) (y2 : Int32) (z0 : Int32) (w1 : Nat) (p_a0 : pI S 9 a0) (p_w1 : pI S 9 w1) (P : PW G A s H locs S0 S) (hl : lv_has ls 4 [(0, .ref a0), (1, .int y1), (2, .int y2)]) (hcc : cells + 0 ≤ 0) (hss : slots + 0 ≤ 0) (hw : wX9_storeHealths_15 Q QX S a0 y1 y2 z0 w1) : W p l e rmX9_storeHealths s m args below meth c H locs cells slots (vx_MQ below (QI G S0 A Q) (XX G S0 A QX) args s 0 0 A) (F0 m 15 ls [.int z0, .ref w1]) := by
  have hx := CF_x C
  have hb := CF_b C
  unfold wX9_storeHealths_15 at hw
  refine pf_9_0 C P p_w1 q_1305 dX9_storeHealths_15 (fun H locs P => ?_)
  obtain ⟨S1, hS⟩ : ∃ z, z = (sI S w1 0 z0) := ⟨_, rfl⟩
  have P : PW G A s H locs S0 S1 := by rw [hS]; exact P
  have p_a0 : pI S1 9 a0 := by rw [hS]; exact pI_x ext_sI p_a0
  have p_w1 : pI S1 9 w1 := by rw [hS]; exact pI_x ext_sI p_w1
  have hw := hw S1 hS
  refine lv_aload_n hx hb dX9_storeHealths_18 rfl (lv_at hl 0 rfl) ?_
  refine gf_9_0 C P p_a0 q_1305 dX9_storeHealths_19 ?_
  refine lv_iconst (v := 1) hx hb dX9_storeHealths_22 (by decide) ?_
  refine lv_icmp_ne (tgt := 28) hx hb dX9_storeHealths_23 (by decide) (fun hc => ?_) (fun hc => ?_)
  · have hw := hw.1 hc
    refine lv_aload_n hx hb dX9_storeHealths_28 rfl (lv_at hl 0 rfl) ?_
    obtain ⟨a2, e1, hw⟩ := hw
    have p_a2 : pI S1 12 a2 := wf_r P.2.2.2.1 p_a0 e1
    refine gf_9_21 C P p_a0 e1 q_1326 dX9_storeHealths_29 ?_
    refine lv_iload_n hx hb dX9_storeHealths_32 rfl (lv_at hl 1 rfl) ?_
    refine lv_iload_n hx hb dX9_storeHealths_33 rfl (lv_at hl 2 rfl) ?_
    refine lv_if_eq (tgt := 41) hx hb dX9_storeHealths_34 (by decide) (fun hc => ?_) (fun hc => ?_)
    · have hw := hw.1 hc
      refine lv_iconst (v := 2) hx hb dX9_storeHealths_41 (by decide) ?_
      exact tX9_storeHealths_42 C hr hex Q QX S1 a0 y1 2 y1 a2 p_a0 p_a2 P (lv_sub hl [0, 1] rfl) (by omega) (by omega) hw
    · have hw := hw.2 hc
      refine lv_iconst (v := 1) hx hb dX9_storeHealths_37 (by decide) ?_
      refine lv_goto (tgt := 42) hx hb dX9_storeHealths_38 (by decide) ?_
      exact tX9_storeHealths_42 C hr hex Q QX S1 a0 y1 1 y1 a2 p_a0 p_a2 P (lv_sub hl [0, 1] rfl) (by omega) (by omega) hw
  · have hw := hw.2 hc
    refine lv_iconst (v := 0) hx hb dX9_storeHealths_26 (by decide) ?_
    exact e_i C hr rfl P hw (by omega) (by omega) dX9_storeHealths_27
def wX9_storeHealths_0 (Q : Int32 → MS → Prop) (QX : String → MS → Prop) (S : MS) (a0 : Nat) (x1 : Int32) (x2 : Int32) : Prop := wp_X9_isIn (fun r2 S1 => ((r2 = 0 → wX9_storeHealths_15 Q QX S1 a0 x1 x2 1 a0) ∧ (¬ r2 = 0 → wX9_storeHealths_15 Q QX S1 a0 x1 x2 0 a0))) QX S x1 0 1
set_option maxHeartbeats 4000000 in
set_option maxRecDepth 100000 in
theorem tX9_storeHealths_0 {p : Program} {l : Launch} {e : Env} {s : State} {m : MethodId} {args : Array Value} {below : List Frame} {meth : Method} {c : Code} {H : Heap} {locs : List Loc} {cells slots : Nat} {G : GP} {A : Nat → Prop} {S0 : MS} {ls : Array Slot} (C : CF p l s m args meth c "SkirmishGridModel" cX9_storeHealths 4 G A) (hr : meth.sig.returnType = (some .int)) (hex : ∀ x ∈ c.exceptionTable.toList, False) (Q : Int32 → MS → Prop) (QX : String → MS → Prop) (S : MS) (a0 : Nat) (x1 : Int32) (x2 : Int32) (p_a0 : pI S 9 a0) (P : PW G A s H locs S0 S) (hl : lv_has ls 4 [(0, .ref a0), (1, .int x1), (2, .int x2)]) (hcc : cells + 0 ≤ 0) (hss : slots + 0 ≤ 0) (hw : wX9_storeHealths_0 Q QX S a0 x1 x2) : W p l e rmX9_storeHealths s m args below meth c H locs cells slots (vx_MQ below (QI G S0 A Q) (XX G S0 A QX) args s 0 0 A) (F0 m 0 ls []) := by
  have hx := CF_x C
  have hb := CF_b C
  unfold wX9_storeHealths_0 at hw
  refine lv_aload_n hx hb dX9_storeHealths_0 rfl (lv_at hl 0 rfl) ?_
  refine lv_iload_n hx hb dX9_storeHealths_1 rfl (lv_at hl 1 rfl) ?_
  refine lv_iconst (v := 0) hx hb dX9_storeHealths_2 (by decide) ?_
  refine lv_iconst (v := 1) hx hb dX9_storeHealths_3 (by decide) ?_
  refine cl_i C P (run_S C P hl.1 (met_X9_isIn (CF_n C) G H.size _ _ S x1 0 1 hw) q_1383 q_1384 q_10 q_1385 cd_X9_isIn.2 ⟨(Nat.le_of_ble_eq_true rfl), (Nat.le_of_ble_eq_true rfl)⟩ rfl rfl (As := [.int x1, .int 0, .int 1]) (rest := [.ref a0]) rfl rfl (Nat.le_of_ble_eq_true rfl) dX9_storeHealths_4 ⟨by show cells + 0 ≤ 0; omega, by show slots + 0 ≤ 0; omega⟩) (kx_out C hex (fun _ _ _ h => h) (by omega) (by omega)) (fun r2 S1 H locs P hE hw => ?_)
  have p_a0 : pI S1 9 a0 := pI_x hE p_a0
  refine lv_if_eq (tgt := 14) hx hb dX9_storeHealths_7 (by decide) (fun hc => ?_) (fun hc => ?_)
  · have hw := hw.1 hc
    refine lv_iconst (v := 1) hx hb dX9_storeHealths_14 (by decide) ?_
    exact tX9_storeHealths_15 C hr hex Q QX S1 a0 x1 x2 1 a0 p_a0 p_a0 P (lv_sub hl [0, 1, 2] rfl) (by omega) (by omega) hw
  · have hw := hw.2 hc
    refine lv_iconst (v := 0) hx hb dX9_storeHealths_10 (by decide) ?_
    refine lv_goto (tgt := 15) hx hb dX9_storeHealths_11 (by decide) ?_
    exact tX9_storeHealths_15 C hr hex Q QX S1 a0 x1 x2 0 a0 p_a0 p_a0 P (lv_sub hl [0, 1, 2] rfl) (by omega) (by omega) hw
def wp_X9_storeHealths (Q : Int32 → MS → Prop) (QX : String → MS → Prop) (S : MS) (a0 : Nat) (x1 : Int32) (x2 : Int32) : Prop := wX9_storeHealths_0 Q QX S a0 x1 x2
set_option maxHeartbeats 4000000 in
set_option maxRecDepth 100000 in
theorem met_X9_storeHealths {l : Launch} (hst : l.stackTraces = false) (G : GP) (sz : Nat) (Q : Int32 → MS → Prop) (QX : String → MS → Prop) (S : MS) (a0 : Nat) (x1 : Int32) (x2 : Int32) (p_a0 : pI S 9 a0) (hw : wp_X9_storeHealths Q QX S a0 x1 x2) : vx_Met l yX9_storeHealths (.code yX9_storeHealths cX9_storeHealths 4 (some .int) :: GW) rmX9_storeHealths (va_Pc [.ref a0, .int x1, .int x2] (PR G S sz)) (QI G S (FA G S sz) Q) (XX G S (FA G S sz) QX) 0 0 (FA G S sz) := by
  refine st_m (by decide +kernel) hst (fun p e s m below meth c C hr hnm hex P => ?_)
  refine en_m (Nat.le_of_ble_eq_true rfl) (lv := [(0, .ref a0), (1, .int x1), (2, .int x2)]) rfl (fun ls hl => ?_)
  have C : CF p l s m _ meth c "SkirmishGridModel" cX9_storeHealths 4 G (FA G S sz) := C
  exact tX9_storeHealths_0 C hr hex Q QX S a0 x1 x2 p_a0 P hl (by omega) (by omega) hw
theorem cd_X9_storeHealths : yX9_storeHealths.cls = RX9 ∧ yX9_storeHealths.cls ≠ "java/lang/invoke/MethodHandle" ∧ yX9_storeHealths.cls ≠ "java/lang/invoke/VarHandle" ∧ (parseMethodDescriptor yX9_storeHealths.desc).map (fun d => d.parameters.length) = some 2 := by decide +kernel
abbrev rmX9_copyHealths : Room := { frames := 1, cells := 0, slots := 0, locals := 22 }
def wX9_copyHealths_186 (Q : Int32 → MS → Prop) (QX : String → MS → Prop) (k101 : MS → Nat → Int32 → Int32 → Int32 → Int32 → Prop) (S : MS) (a0 : Nat) (y1 : Int32) (y2 : Int32) (y4 : Int32) (y5 : Int32) (y6 : Int32) (z0 : Int32) (z1 : Int32) : Prop := (∃ a1, mR S a0 19 = some a1 ∧ (∃ a2, mR S a0 19 = some a2 ∧ (vp_in y5 (mN S a2) ∧ (vp_in y6 (mN S a1) ∧ (∀ S3, S3 = (sI S a1 (y6 : Int32).toNatClampNeg (mI S a2 (y5 : Int32).toNatClampNeg)) → (∃ a4, mR S3 a0 22 = some a4 ∧ (∃ a5, mR S3 a0 22 = some a5 ∧ (vp_in y5 (mN S3 a5) ∧ (vp_in y6 (mN S3 a4) ∧ (∀ S6, S6 = (sF S3 a4 (y6 : Int32).toNatClampNeg (mF S3 a5 (y5 : Int32).toNatClampNeg)) → k101 S6 a0 y1 y2 (z1 ||| z0) (y4 + 1)))))))))))
set_option maxHeartbeats 4000000 in
set_option maxRecDepth 100000 in
theorem tX9_copyHealths_186 {p : Program} {l : Launch} {e : Env} {s : State} {m : MethodId} {args : Array Value} {below : List Frame} {meth : Method} {c : Code} {H : Heap} {locs : List Loc} {cells slots : Nat} {G : GP} {A : Nat → Prop} {S0 : MS} {ls : Array Slot} (C : CF p l s m args meth c "SkirmishGridModel" cX9_copyHealths 7 G A) (hr : meth.sig.returnType = (some .boolean)) (hex : ∀ x ∈ c.exceptionTable.toList, False) (Q : Int32 → MS → Prop) (QX : String → MS → Prop) (k101 : MS → Nat → Int32 → Int32 → Int32 → Int32 → Prop) (kh101 : ∀ (S : MS) (a0 : Nat) (y1 : Int32) (y2 : Int32) (y3 : Int32) (y4 : Int32) (cells slots : Nat) (H : Heap) (locs : List Loc) (ls : Array Slot), pI S 9 a0 → PW G A s H locs S0 S → lv_has ls 7 [(0, .ref a0), (1, .int y1), (2, .int y2), (3, .int y3), (4, .int y4)] → cells + 0 ≤ 0 → slots + 0 ≤ 0 → k101 S a0 y1 y2 y3 y4 → W p l e rmX9_copyHealths s m args below meth c H locs cells slots (vx_MQ below (QI G S0 A Q) (XX G S0 A QX) args s 0 0 A) (F0 m 101 ls [])) (S : MS) (a0 : Nat) (y1 : Int32) (y2 : Int32) (y4 : Int32) (y5 : Int32) (y6 : Int32) (z0 : Int32) (z1 : Int32) (p_a0 : pI S 9 a0) (P : PW G A s H locs S0 S) (hl : lv_has ls 7 [(0, .ref a0), (1, .int y1), (2, .int y2), (4, .int y4), (5, .int y5), (6, .int y6)]) (hcc : cells + 0 ≤ 0) (hss : slots + 0 ≤ 0) (hw : wX9_copyHealths_186 Q QX k101 S a0 y1 y2 y4 y5 y6 z0 z1) : W p l e rmX9_copyHealths s m args below meth c H locs cells slots (vx_MQ below (QI G S0 A Q) (XX G S0 A QX) args s 0 0 A) (F0 m 186 ls [.int z0, .int z1]) := by
  have hx := CF_x C
  have hb := CF_b C
  unfold wX9_copyHealths_186 at hw
  refine lv_ior hx hb dX9_copyHealths_186 ?_
  refine lv_istore_n (lv' := [(3, .int (z1 ||| z0)), (0, .ref a0), (1, .int y1), (2, .int y2), (4, .int y4), (5, .int y5), (6, .int y6)]) hx hb dX9_copyHealths_187 rfl hl (by decide) rfl (fun ls hl => ?_)
  refine lv_aload_n hx hb dX9_copyHealths_188 rfl (lv_at hl 1 rfl) ?_
  obtain ⟨a1, e1, hw⟩ := hw
  have p_a1 : pI S 12 a1 := wf_r P.2.2.2.1 p_a0 e1
  refine gf_9_19 C P p_a0 e1 q_1324 dX9_copyHealths_189 ?_
  refine lv_iload hx hb dX9_copyHealths_192 (lv_at hl 6 rfl) ?_
  refine lv_aload_n hx hb dX9_copyHealths_194 rfl (lv_at hl 1 rfl) ?_
  obtain ⟨a2, e1, hw⟩ := hw
  have p_a2 : pI S 12 a2 := wf_r P.2.2.2.1 p_a0 e1
  refine gf_9_19 C P p_a0 e1 q_1324 dX9_copyHealths_195 ?_
  refine lv_iload hx hb dX9_copyHealths_198 (lv_at hl 5 rfl) ?_
  obtain ⟨h1, hw⟩ := hw
  refine ra_i C P p_a2 h1 dX9_copyHealths_200 ?_
  obtain ⟨h1, hw⟩ := hw
  refine rs_i C P p_a1 h1 dX9_copyHealths_201 (fun H locs P => ?_)
  obtain ⟨S3, hS⟩ : ∃ z, z = (sI S a1 (y6 : Int32).toNatClampNeg (mI S a2 (y5 : Int32).toNatClampNeg)) := ⟨_, rfl⟩
  have P : PW G A s H locs S0 S3 := by rw [hS]; exact P
  have p_a0 : pI S3 9 a0 := by rw [hS]; exact pI_x ext_sI p_a0
  have p_a1 : pI S3 12 a1 := by rw [hS]; exact pI_x ext_sI p_a1
  have hw := hw S3 hS
  refine lv_aload_n hx hb dX9_copyHealths_202 rfl (lv_at hl 1 rfl) ?_
  obtain ⟨a4, e1, hw⟩ := hw
  have p_a4 : pI S3 11 a4 := wf_r P.2.2.2.1 p_a0 e1
  refine gf_9_22 C P p_a0 e1 q_1327 dX9_copyHealths_203 ?_
  refine lv_iload hx hb dX9_copyHealths_206 (lv_at hl 6 rfl) ?_
  refine lv_aload_n hx hb dX9_copyHealths_208 rfl (lv_at hl 1 rfl) ?_
  obtain ⟨a5, e1, hw⟩ := hw
  have p_a5 : pI S3 11 a5 := wf_r P.2.2.2.1 p_a0 e1
  refine gf_9_22 C P p_a0 e1 q_1327 dX9_copyHealths_209 ?_
  refine lv_iload hx hb dX9_copyHealths_212 (lv_at hl 5 rfl) ?_
  obtain ⟨h1, hw⟩ := hw
  refine ra_f C P p_a5 h1 dX9_copyHealths_214 ?_
  obtain ⟨h1, hw⟩ := hw
  refine rs_f C P p_a4 h1 dX9_copyHealths_215 (fun H locs P => ?_)
  obtain ⟨S6, hS⟩ : ∃ z, z = (sF S3 a4 (y6 : Int32).toNatClampNeg (mF S3 a5 (y5 : Int32).toNatClampNeg)) := ⟨_, rfl⟩
  have P : PW G A s H locs S0 S6 := by rw [hS]; exact P
  have p_a0 : pI S6 9 a0 := by rw [hS]; exact pI_x ext_sF p_a0
  have p_a4 : pI S6 11 a4 := by rw [hS]; exact pI_x ext_sF p_a4
  have hw := hw S6 hS
  refine lv_iinc (v := (y4 + 1)) (lv' := [(4, .int (y4 + 1)), (3, .int (z1 ||| z0)), (0, .ref a0), (1, .int y1), (2, .int y2), (5, .int y5), (6, .int y6)]) hx hb dX9_copyHealths_216 hl (k := 4) rfl (by rfl) (by decide) rfl (fun ls hl => ?_)
  refine lv_goto (tgt := 101) hx hb dX9_copyHealths_219 (by decide) ?_
  exact kh101 S6 a0 y1 y2 (z1 ||| z0) (y4 + 1) _ _ _ _ _ p_a0 P (lv_sub hl [2, 3, 4, 1, 0] rfl) (by omega) (by omega) hw
def wX9_copyHealths_101 (Q : Int32 → MS → Prop) (QX : String → MS → Prop) (k101 : MS → Nat → Int32 → Int32 → Int32 → Int32 → Prop) (S : MS) (a0 : Nat) (y1 : Int32) (y2 : Int32) (y3 : Int32) (y4 : Int32) : Prop := ((y2 ≤ y4 → (isZ y3 ∧ Q y3 S)) ∧ (¬ y2 ≤ y4 → (∃ a1, mR S a0 21 = some a1 ∧ (vp_in 0 (mN S a1) ∧ ((¬ (mI S a1 (0 : Int32).toNatClampNeg) = 1 → (∃ a2, mR S a0 22 = some a2 ∧ (vp_in ((8 * y1) + y4) (mN S a2) ∧ (∃ a3, mR S a0 22 = some a3 ∧ (vp_in ((8 * (1 - y1)) + y4) (mN S a3) ∧ (((Op.cmpValue (FP.fcmp (mF S a2 (((8 * y1) + y4) : Int32).toNatClampNeg) (mF S a3 (((8 * (1 - y1)) + y4) : Int32).toNatClampNeg)) CmpOp.l) = 0 → wX9_copyHealths_186 Q QX k101 S a0 y1 y2 y4 ((8 * y1) + y4) ((8 * (1 - y1)) + y4) 0 y3) ∧ (¬ (Op.cmpValue (FP.fcmp (mF S a2 (((8 * y1) + y4) : Int32).toNatClampNeg) (mF S a3 (((8 * (1 - y1)) + y4) : Int32).toNatClampNeg)) CmpOp.l) = 0 → wX9_copyHealths_186 Q QX k101 S a0 y1 y2 y4 ((8 * y1) + y4) ((8 * (1 - y1)) + y4) 1 y3))))))) ∧ ((mI S a1 (0 : Int32).toNatClampNeg) = 1 → (∃ a4, mR S a0 19 = some a4 ∧ (vp_in ((8 * y1) + y4) (mN S a4) ∧ (∃ a5, mR S a0 19 = some a5 ∧ (vp_in ((8 * (1 - y1)) + y4) (mN S a5) ∧ (((mI S a4 (((8 * y1) + y4) : Int32).toNatClampNeg) = (mI S a5 (((8 * (1 - y1)) + y4) : Int32).toNatClampNeg) → wX9_copyHealths_186 Q QX k101 S a0 y1 y2 y4 ((8 * y1) + y4) ((8 * (1 - y1)) + y4) 0 y3) ∧ (¬ (mI S a4 (((8 * y1) + y4) : Int32).toNatClampNeg) = (mI S a5 (((8 * (1 - y1)) + y4) : Int32).toNatClampNeg) → wX9_copyHealths_186 Q QX k101 S a0 y1 y2 y4 ((8 * y1) + y4) ((8 * (1 - y1)) + y4) 1 y3))))))))))))
set_option maxHeartbeats 4000000 in
set_option maxRecDepth 100000 in
theorem tX9_copyHealths_101 {p : Program} {l : Launch} {e : Env} {s : State} {m : MethodId} {args : Array Value} {below : List Frame} {meth : Method} {c : Code} {H : Heap} {locs : List Loc} {cells slots : Nat} {G : GP} {A : Nat → Prop} {S0 : MS} {ls : Array Slot} (C : CF p l s m args meth c "SkirmishGridModel" cX9_copyHealths 7 G A) (hr : meth.sig.returnType = (some .boolean)) (hex : ∀ x ∈ c.exceptionTable.toList, False) (Q : Int32 → MS → Prop) (QX : String → MS → Prop) (k101 : MS → Nat → Int32 → Int32 → Int32 → Int32 → Prop) (kh101 : ∀ (S : MS) (a0 : Nat) (y1 : Int32) (y2 : Int32) (y3 : Int32) (y4 : Int32) (cells slots : Nat) (H : Heap) (locs : List Loc) (ls : Array Slot), pI S 9 a0 → PW G A s H locs S0 S → lv_has ls 7 [(0, .ref a0), (1, .int y1), (2, .int y2), (3, .int y3), (4, .int y4)] → cells + 0 ≤ 0 → slots + 0 ≤ 0 → k101 S a0 y1 y2 y3 y4 → W p l e rmX9_copyHealths s m args below meth c H locs cells slots (vx_MQ below (QI G S0 A Q) (XX G S0 A QX) args s 0 0 A) (F0 m 101 ls [])) (S : MS) (a0 : Nat) (y1 : Int32) (y2 : Int32) (y3 : Int32) (y4 : Int32) (p_a0 : pI S 9 a0) (P : PW G A s H locs S0 S) (hl : lv_has ls 7 [(0, .ref a0), (1, .int y1), (2, .int y2), (3, .int y3), (4, .int y4)]) (hcc : cells + 0 ≤ 0) (hss : slots + 0 ≤ 0) (hw : wX9_copyHealths_101 Q QX k101 S a0 y1 y2 y3 y4) : W p l e rmX9_copyHealths s m args below meth c H locs cells slots (vx_MQ below (QI G S0 A Q) (XX G S0 A QX) args s 0 0 A) (F0 m 101 ls []) := by
  have hx := CF_x C
  have hb := CF_b C
  unfold wX9_copyHealths_101 at hw
  refine lv_iload hx hb dX9_copyHealths_101 (lv_at hl 4 rfl) ?_
  refine lv_iload_n hx hb dX9_copyHealths_103 rfl (lv_at hl 2 rfl) ?_
  refine lv_icmp_ge (tgt := 222) hx hb dX9_copyHealths_104 (by decide) (fun hc => ?_) (fun hc => ?_)
  · have hw := hw.1 hc
    refine lv_iload_n hx hb dX9_copyHealths_222 rfl (lv_at hl 3 rfl) ?_
    obtain ⟨h1, hw⟩ := hw
    exact e_i C hr (nz h1) P hw (by omega) (by omega) dX9_copyHealths_223
  · have hw := hw.2 hc
    refine lv_bipush (v := 8) hx hb dX9_copyHealths_107 (by decide) ?_
    refine lv_iload_n hx hb dX9_copyHealths_109 rfl (lv_at hl 1 rfl) ?_
    refine lv_imul hx hb dX9_copyHealths_110 ?_
    refine lv_iload hx hb dX9_copyHealths_111 (lv_at hl 4 rfl) ?_
    refine lv_iadd hx hb dX9_copyHealths_113 ?_
    refine lv_istore (lv' := [(5, .int ((8 * y1) + y4)), (0, .ref a0), (1, .int y1), (2, .int y2), (3, .int y3), (4, .int y4)]) hx hb dX9_copyHealths_114 hl (by decide) rfl (fun ls hl => ?_)
    refine lv_bipush (v := 8) hx hb dX9_copyHealths_116 (by decide) ?_
    refine lv_iconst (v := 1) hx hb dX9_copyHealths_118 (by decide) ?_
    refine lv_iload_n hx hb dX9_copyHealths_119 rfl (lv_at hl 2 rfl) ?_
    refine lv_isub hx hb dX9_copyHealths_120 ?_
    refine lv_imul hx hb dX9_copyHealths_121 ?_
    refine lv_iload hx hb dX9_copyHealths_122 (lv_at hl 5 rfl) ?_
    refine lv_iadd hx hb dX9_copyHealths_124 ?_
    refine lv_istore (lv' := [(6, .int ((8 * (1 - y1)) + y4)), (5, .int ((8 * y1) + y4)), (0, .ref a0), (1, .int y1), (2, .int y2), (3, .int y3), (4, .int y4)]) hx hb dX9_copyHealths_125 hl (by decide) rfl (fun ls hl => ?_)
    refine lv_iload_n hx hb dX9_copyHealths_127 rfl (lv_at hl 5 rfl) ?_
    refine lv_aload_n hx hb dX9_copyHealths_128 rfl (lv_at hl 2 rfl) ?_
    obtain ⟨a1, e1, hw⟩ := hw
    have p_a1 : pI S 12 a1 := wf_r P.2.2.2.1 p_a0 e1
    refine gf_9_21 C P p_a0 e1 q_1326 dX9_copyHealths_129 ?_
    refine lv_iconst (v := 0) hx hb dX9_copyHealths_132 (by decide) ?_
    obtain ⟨h1, hw⟩ := hw
    refine ra_i C P p_a1 h1 dX9_copyHealths_133 ?_
    refine lv_iconst (v := 1) hx hb dX9_copyHealths_134 (by decide) ?_
    refine lv_icmp_ne (tgt := 163) hx hb dX9_copyHealths_135 (by decide) (fun hc => ?_) (fun hc => ?_)
    · have hw := hw.1 hc
      refine lv_aload_n hx hb dX9_copyHealths_163 rfl (lv_at hl 2 rfl) ?_
      obtain ⟨a2, e1, hw⟩ := hw
      have p_a2 : pI S 11 a2 := wf_r P.2.2.2.1 p_a0 e1
      refine gf_9_22 C P p_a0 e1 q_1327 dX9_copyHealths_164 ?_
      refine lv_iload hx hb dX9_copyHealths_167 (lv_at hl 1 rfl) ?_
      obtain ⟨h1, hw⟩ := hw
      refine ra_f C P p_a2 h1 dX9_copyHealths_169 ?_
      refine lv_aload_n hx hb dX9_copyHealths_170 rfl (lv_at hl 2 rfl) ?_
      obtain ⟨a3, e1, hw⟩ := hw
      have p_a3 : pI S 11 a3 := wf_r P.2.2.2.1 p_a0 e1
      refine gf_9_22 C P p_a0 e1 q_1327 dX9_copyHealths_171 ?_
      refine lv_iload hx hb dX9_copyHealths_174 (lv_at hl 0 rfl) ?_
      obtain ⟨h1, hw⟩ := hw
      refine ra_f C P p_a3 h1 dX9_copyHealths_176 ?_
      refine lv_fcmp hx hb dX9_copyHealths_177 ?_
      refine lv_if_eq (tgt := 185) hx hb dX9_copyHealths_178 (by decide) (fun hc => ?_) (fun hc => ?_)
      · have hw := hw.1 hc
        refine lv_iconst (v := 0) hx hb dX9_copyHealths_185 (by decide) ?_
        exact tX9_copyHealths_186 C hr hex Q QX k101 kh101 S a0 y1 y2 y4 ((8 * y1) + y4) ((8 * (1 - y1)) + y4) 0 y3 p_a0 P (lv_sub hl [2, 3, 4, 6, 1, 0] rfl) (by omega) (by omega) hw
      · have hw := hw.2 hc
        refine lv_iconst (v := 1) hx hb dX9_copyHealths_181 (by decide) ?_
        refine lv_goto (tgt := 186) hx hb dX9_copyHealths_182 (by decide) ?_
        exact tX9_copyHealths_186 C hr hex Q QX k101 kh101 S a0 y1 y2 y4 ((8 * y1) + y4) ((8 * (1 - y1)) + y4) 1 y3 p_a0 P (lv_sub hl [2, 3, 4, 6, 1, 0] rfl) (by omega) (by omega) hw
    · have hw := hw.2 hc
      refine lv_aload_n hx hb dX9_copyHealths_138 rfl (lv_at hl 2 rfl) ?_
      obtain ⟨a4, e1, hw⟩ := hw
      have p_a4 : pI S 12 a4 := wf_r P.2.2.2.1 p_a0 e1
      refine gf_9_19 C P p_a0 e1 q_1324 dX9_copyHealths_139 ?_
      refine lv_iload hx hb dX9_copyHealths_142 (lv_at hl 1 rfl) ?_
      obtain ⟨h1, hw⟩ := hw
      refine ra_i C P p_a4 h1 dX9_copyHealths_144 ?_
      refine lv_aload_n hx hb dX9_copyHealths_145 rfl (lv_at hl 2 rfl) ?_
      obtain ⟨a5, e1, hw⟩ := hw
      have p_a5 : pI S 12 a5 := wf_r P.2.2.2.1 p_a0 e1
      refine gf_9_19 C P p_a0 e1 q_1324 dX9_copyHealths_146 ?_
      refine lv_iload hx hb dX9_copyHealths_149 (lv_at hl 0 rfl) ?_
      obtain ⟨h1, hw⟩ := hw
      refine ra_i C P p_a5 h1 dX9_copyHealths_151 ?_
      refine lv_icmp_eq (tgt := 159) hx hb dX9_copyHealths_152 (by decide) (fun hc => ?_) (fun hc => ?_)
      · have hw := hw.1 hc
        refine lv_iconst (v := 0) hx hb dX9_copyHealths_159 (by decide) ?_
        refine lv_goto (tgt := 186) hx hb dX9_copyHealths_160 (by decide) ?_
        exact tX9_copyHealths_186 C hr hex Q QX k101 kh101 S a0 y1 y2 y4 ((8 * y1) + y4) ((8 * (1 - y1)) + y4) 0 y3 p_a0 P (lv_sub hl [2, 3, 4, 6, 1, 0] rfl) (by omega) (by omega) hw
      · have hw := hw.2 hc
        refine lv_iconst (v := 1) hx hb dX9_copyHealths_155 (by decide) ?_
        refine lv_goto (tgt := 186) hx hb dX9_copyHealths_156 (by decide) ?_
        exact tX9_copyHealths_186 C hr hex Q QX k101 kh101 S a0 y1 y2 y4 ((8 * y1) + y4) ((8 * (1 - y1)) + y4) 1 y3 p_a0 P (lv_sub hl [2, 3, 4, 6, 1, 0] rfl) (by omega) (by omega) hw
def lX9_copyHealths_101 (Q : Int32 → MS → Prop) (QX : String → MS → Prop) : Nat → MS → Nat → Int32 → Int32 → Int32 → Int32 → Prop
  | 0 => fun _ _ _ _ _ _ => False
  | n + 1 => fun S a0 y1 y2 y3 y4 => wX9_copyHealths_101 Q QX (lX9_copyHealths_101 Q QX n) S a0 y1 y2 y3 y4
theorem tlX9_copyHealths_101 {p : Program} {l : Launch} {e : Env} {s : State} {m : MethodId} {args : Array Value} {below : List Frame} {meth : Method} {c : Code} {G : GP} {A : Nat → Prop} {S0 : MS} (C : CF p l s m args meth c "SkirmishGridModel" cX9_copyHealths 7 G A) (hr : meth.sig.returnType = (some .boolean)) (hex : ∀ x ∈ c.exceptionTable.toList, False) (Q : Int32 → MS → Prop) (QX : String → MS → Prop) : ∀ (n : Nat), ∀ (S : MS) (a0 : Nat) (y1 : Int32) (y2 : Int32) (y3 : Int32) (y4 : Int32) (cells slots : Nat) (H : Heap) (locs : List Loc) (ls : Array Slot), pI S 9 a0 → PW G A s H locs S0 S → lv_has ls 7 [(0, .ref a0), (1, .int y1), (2, .int y2), (3, .int y3), (4, .int y4)] → cells + 0 ≤ 0 → slots + 0 ≤ 0 → lX9_copyHealths_101 Q QX n S a0 y1 y2 y3 y4 → W p l e rmX9_copyHealths s m args below meth c H locs cells slots (vx_MQ below (QI G S0 A Q) (XX G S0 A QX) args s 0 0 A) (F0 m 101 ls []) := by
  intro n
  induction n with
  | zero => intro S a0 y1 y2 y3 y4 cells slots H locs ls p_a0 P hl hcc hss hw; exact hw.elim
  | succ n ih => intro S a0 y1 y2 y3 y4 cells slots H locs ls p_a0 P hl hcc hss hw; exact tX9_copyHealths_101 C hr hex Q QX (lX9_copyHealths_101 Q QX n) ih S a0 y1 y2 y3 y4 p_a0 P hl hcc hss hw
def wX9_copyHealths_84 (Q : Int32 → MS → Prop) (QX : String → MS → Prop) (S : MS) (a0 : Nat) (y1 : Int32) (y2 : Int32) (z0 : Int32) (w1 : Nat) : Prop := (∀ S1, S1 = (sI S w1 0 z0) → (((mI S1 a0 0) ≤ 0 → (∃ n, lX9_copyHealths_101 Q QX n S1 a0 y1 y2 0 0)) ∧ (¬ (mI S1 a0 0) ≤ 0 → Q 0 S1)))
set_option maxHeartbeats 4000000 in
set_option maxRecDepth 100000 in
theorem tX9_copyHealths_84 {p : Program} {l : Launch} {e : Env} {s : State} {m : MethodId} {args : Array Value} {below : List Frame} {meth : Method} {c : Code} {H : Heap} {locs : List Loc} {cells slots : Nat} {G : GP} {A : Nat → Prop} {S0 : MS} {ls : Array Slot} (C : CF p l s m args meth c "SkirmishGridModel" cX9_copyHealths 7 G A) (hr : meth.sig.returnType = (some .boolean)) (hex : ∀ x ∈ c.exceptionTable.toList, False) (Q : Int32 → MS → Prop) (QX : String → MS → Prop) (S : MS) (a0 : Nat) (y1 : Int32) (y2 : Int32) (z0 : Int32) (w1 : Nat) (p_a0 : pI S 9 a0) (p_w1 : pI S 9 w1) (P : PW G A s H locs S0 S) (hl : lv_has ls 7 [(0, .ref a0), (1, .int y1), (2, .int y2)]) (hcc : cells + 0 ≤ 0) (hss : slots + 0 ≤ 0) (hw : wX9_copyHealths_84 Q QX S a0 y1 y2 z0 w1) : W p l e rmX9_copyHealths s m args below meth c H locs cells slots (vx_MQ below (QI G S0 A Q) (XX G S0 A QX) args s 0 0 A) (F0 m 84 ls [.int z0, .ref w1]) := by
  have hx := CF_x C
  have hb := CF_b C
  unfold wX9_copyHealths_84 at hw
  refine pf_9_0 C P p_w1 q_1305 dX9_copyHealths_84 (fun H locs P => ?_)
  obtain ⟨S1, hS⟩ : ∃ z, z = (sI S w1 0 z0) := ⟨_, rfl⟩
  have P : PW G A s H locs S0 S1 := by rw [hS]; exact P
  have p_a0 : pI S1 9 a0 := by rw [hS]; exact pI_x ext_sI p_a0
  have p_w1 : pI S1 9 w1 := by rw [hS]; exact pI_x ext_sI p_w1
  have hw := hw S1 hS
  refine lv_aload_n hx hb dX9_copyHealths_87 rfl (lv_at hl 0 rfl) ?_
  refine gf_9_0 C P p_a0 q_1305 dX9_copyHealths_88 ?_
  refine lv_if_le (tgt := 96) hx hb dX9_copyHealths_91 (by decide) (fun hc => ?_) (fun hc => ?_)
  · have hw := hw.1 hc
    refine lv_iconst (v := 0) hx hb dX9_copyHealths_96 (by decide) ?_
    refine lv_istore_n (lv' := [(3, .int 0), (0, .ref a0), (1, .int y1), (2, .int y2)]) hx hb dX9_copyHealths_97 rfl hl (by decide) rfl (fun ls hl => ?_)
    refine lv_iconst (v := 0) hx hb dX9_copyHealths_98 (by decide) ?_
    refine lv_istore (lv' := [(4, .int 0), (3, .int 0), (0, .ref a0), (1, .int y1), (2, .int y2)]) hx hb dX9_copyHealths_99 hl (by decide) rfl (fun ls hl => ?_)
    obtain ⟨n, hw⟩ := hw
    exact tlX9_copyHealths_101 C hr hex Q QX n S1 a0 y1 y2 0 0 _ _ _ _ _ p_a0 P (lv_sub hl [2, 3, 4, 1, 0] rfl) (by omega) (by omega) hw
  · have hw := hw.2 hc
    refine lv_iconst (v := 0) hx hb dX9_copyHealths_94 (by decide) ?_
    exact e_i C hr (by decide +kernel) P hw (by omega) (by omega) dX9_copyHealths_95
def wX9_copyHealths_32 (Q : Int32 → MS → Prop) (QX : String → MS → Prop) (S : MS) (a0 : Nat) (y1 : Int32) (y2 : Int32) (w0 : Nat) : Prop := wX9_copyHealths_84 Q QX S a0 y1 y2 2 w0
set_option maxHeartbeats 4000000 in
set_option maxRecDepth 100000 in
theorem tX9_copyHealths_32 {p : Program} {l : Launch} {e : Env} {s : State} {m : MethodId} {args : Array Value} {below : List Frame} {meth : Method} {c : Code} {H : Heap} {locs : List Loc} {cells slots : Nat} {G : GP} {A : Nat → Prop} {S0 : MS} {ls : Array Slot} (C : CF p l s m args meth c "SkirmishGridModel" cX9_copyHealths 7 G A) (hr : meth.sig.returnType = (some .boolean)) (hex : ∀ x ∈ c.exceptionTable.toList, False) (Q : Int32 → MS → Prop) (QX : String → MS → Prop) (S : MS) (a0 : Nat) (y1 : Int32) (y2 : Int32) (w0 : Nat) (p_a0 : pI S 9 a0) (p_w0 : pI S 9 w0) (P : PW G A s H locs S0 S) (hl : lv_has ls 7 [(0, .ref a0), (1, .int y1), (2, .int y2)]) (hcc : cells + 0 ≤ 0) (hss : slots + 0 ≤ 0) (hw : wX9_copyHealths_32 Q QX S a0 y1 y2 w0) : W p l e rmX9_copyHealths s m args below meth c H locs cells slots (vx_MQ below (QI G S0 A Q) (XX G S0 A QX) args s 0 0 A) (F0 m 32 ls [.ref w0]) := by
  have hx := CF_x C
  have hb := CF_b C
  unfold wX9_copyHealths_32 at hw
  refine lv_iconst (v := 2) hx hb dX9_copyHealths_32 (by decide) ?_
  refine lv_goto (tgt := 84) hx hb dX9_copyHealths_33 (by decide) ?_
  exact tX9_copyHealths_84 C hr hex Q QX S a0 y1 y2 2 w0 p_a0 p_w0 P (lv_sub hl [0, 1, 2] rfl) (by omega) (by omega) hw
def wX9_copyHealths_79 (Q : Int32 → MS → Prop) (QX : String → MS → Prop) (S : MS) (a0 : Nat) (y1 : Int32) (y2 : Int32) (w0 : Nat) : Prop := wX9_copyHealths_84 Q QX S a0 y1 y2 4 w0
set_option maxHeartbeats 4000000 in
set_option maxRecDepth 100000 in
theorem tX9_copyHealths_79 {p : Program} {l : Launch} {e : Env} {s : State} {m : MethodId} {args : Array Value} {below : List Frame} {meth : Method} {c : Code} {H : Heap} {locs : List Loc} {cells slots : Nat} {G : GP} {A : Nat → Prop} {S0 : MS} {ls : Array Slot} (C : CF p l s m args meth c "SkirmishGridModel" cX9_copyHealths 7 G A) (hr : meth.sig.returnType = (some .boolean)) (hex : ∀ x ∈ c.exceptionTable.toList, False) (Q : Int32 → MS → Prop) (QX : String → MS → Prop) (S : MS) (a0 : Nat) (y1 : Int32) (y2 : Int32) (w0 : Nat) (p_a0 : pI S 9 a0) (p_w0 : pI S 9 w0) (P : PW G A s H locs S0 S) (hl : lv_has ls 7 [(0, .ref a0), (1, .int y1), (2, .int y2)]) (hcc : cells + 0 ≤ 0) (hss : slots + 0 ≤ 0) (hw : wX9_copyHealths_79 Q QX S a0 y1 y2 w0) : W p l e rmX9_copyHealths s m args below meth c H locs cells slots (vx_MQ below (QI G S0 A Q) (XX G S0 A QX) args s 0 0 A) (F0 m 79 ls [.ref w0]) := by
  have hx := CF_x C
  have hb := CF_b C
  unfold wX9_copyHealths_79 at hw
  refine lv_iconst (v := 4) hx hb dX9_copyHealths_79 (by decide) ?_
  refine lv_goto (tgt := 84) hx hb dX9_copyHealths_80 (by decide) ?_
  exact tX9_copyHealths_84 C hr hex Q QX S a0 y1 y2 4 w0 p_a0 p_w0 P (lv_sub hl [0, 1, 2] rfl) (by omega) (by omega) hw
def wX9_copyHealths_0 (Q : Int32 → MS → Prop) (QX : String → MS → Prop) (S : MS) (a0 : Nat) (x1 : Int32) (x2 : Int32) : Prop := wp_X9_isIn (fun r2 S1 => ((¬ r2 = 0 → (∃ a3, mR S1 a0 21 = some a3 ∧ (vp_in 0 (mN S1 a3) ∧ (((mI S1 a3 (0 : Int32).toNatClampNeg) = 0 → wX9_copyHealths_32 Q QX S1 a0 x1 x2 a0) ∧ (¬ (mI S1 a3 (0 : Int32).toNatClampNeg) = 0 → (∃ a4, mR S1 a0 21 = some a4 ∧ (vp_in 1 (mN S1 a4) ∧ ((¬ (mI S1 a4 (1 : Int32).toNatClampNeg) = 0 → (∃ a5, mR S1 a0 21 = some a5 ∧ (vp_in 0 (mN S1 a5) ∧ (∃ a6, mR S1 a0 21 = some a6 ∧ (vp_in 1 (mN S1 a6) ∧ (((mI S1 a5 (0 : Int32).toNatClampNeg) = (mI S1 a6 (1 : Int32).toNatClampNeg) → ((x2 < 0 → wX9_copyHealths_79 Q QX S1 a0 x1 x2 a0) ∧ (¬ x2 < 0 → (∃ a7, mR S1 a0 20 = some a7 ∧ (vp_in 0 (mN S1 a7) ∧ (((mI S1 a7 (0 : Int32).toNatClampNeg) < x2 → wX9_copyHealths_79 Q QX S1 a0 x1 x2 a0) ∧ (¬ (mI S1 a7 (0 : Int32).toNatClampNeg) < x2 → (∃ a8, mR S1 a0 20 = some a8 ∧ (vp_in 1 (mN S1 a8) ∧ ((x2 ≤ (mI S1 a8 (1 : Int32).toNatClampNeg) → wX9_copyHealths_84 Q QX S1 a0 x1 x2 0 a0) ∧ (¬ x2 ≤ (mI S1 a8 (1 : Int32).toNatClampNeg) → wX9_copyHealths_79 Q QX S1 a0 x1 x2 a0))))))))))) ∧ (¬ (mI S1 a5 (0 : Int32).toNatClampNeg) = (mI S1 a6 (1 : Int32).toNatClampNeg) → wX9_copyHealths_84 Q QX S1 a0 x1 x2 3 a0))))))) ∧ ((mI S1 a4 (1 : Int32).toNatClampNeg) = 0 → wX9_copyHealths_32 Q QX S1 a0 x1 x2 a0))))))))) ∧ (r2 = 0 → wX9_copyHealths_84 Q QX S1 a0 x1 x2 1 a0))) QX S x1 0 1
set_option maxHeartbeats 4000000 in
set_option maxRecDepth 100000 in
theorem tX9_copyHealths_0 {p : Program} {l : Launch} {e : Env} {s : State} {m : MethodId} {args : Array Value} {below : List Frame} {meth : Method} {c : Code} {H : Heap} {locs : List Loc} {cells slots : Nat} {G : GP} {A : Nat → Prop} {S0 : MS} {ls : Array Slot} (C : CF p l s m args meth c "SkirmishGridModel" cX9_copyHealths 7 G A) (hr : meth.sig.returnType = (some .boolean)) (hex : ∀ x ∈ c.exceptionTable.toList, False) (Q : Int32 → MS → Prop) (QX : String → MS → Prop) (S : MS) (a0 : Nat) (x1 : Int32) (x2 : Int32) (p_a0 : pI S 9 a0) (P : PW G A s H locs S0 S) (hl : lv_has ls 7 [(0, .ref a0), (1, .int x1), (2, .int x2)]) (hcc : cells + 0 ≤ 0) (hss : slots + 0 ≤ 0) (hw : wX9_copyHealths_0 Q QX S a0 x1 x2) : W p l e rmX9_copyHealths s m args below meth c H locs cells slots (vx_MQ below (QI G S0 A Q) (XX G S0 A QX) args s 0 0 A) (F0 m 0 ls []) := by
  have hx := CF_x C
  have hb := CF_b C
  unfold wX9_copyHealths_0 at hw
  refine lv_aload_n hx hb dX9_copyHealths_0 rfl (lv_at hl 0 rfl) ?_
  refine lv_iload_n hx hb dX9_copyHealths_1 rfl (lv_at hl 1 rfl) ?_
  refine lv_iconst (v := 0) hx hb dX9_copyHealths_2 (by decide) ?_
  refine lv_iconst (v := 1) hx hb dX9_copyHealths_3 (by decide) ?_
  refine cl_i C P (run_S C P hl.1 (met_X9_isIn (CF_n C) G H.size _ _ S x1 0 1 hw) q_1383 q_1384 q_10 q_1385 cd_X9_isIn.2 ⟨(Nat.le_of_ble_eq_true rfl), (Nat.le_of_ble_eq_true rfl)⟩ rfl rfl (As := [.int x1, .int 0, .int 1]) (rest := [.ref a0]) rfl rfl (Nat.le_of_ble_eq_true rfl) dX9_copyHealths_4 ⟨by show cells + 0 ≤ 0; omega, by show slots + 0 ≤ 0; omega⟩) (kx_out C hex (fun _ _ _ h => h) (by omega) (by omega)) (fun r2 S1 H locs P hE hw => ?_)
  have p_a0 : pI S1 9 a0 := pI_x hE p_a0
  refine lv_if_ne (tgt := 14) hx hb dX9_copyHealths_7 (by decide) (fun hc => ?_) (fun hc => ?_)
  · have hw := hw.1 hc
    refine lv_aload_n hx hb dX9_copyHealths_14 rfl (lv_at hl 0 rfl) ?_
    obtain ⟨a3, e1, hw⟩ := hw
    have p_a3 : pI S1 12 a3 := wf_r P.2.2.2.1 p_a0 e1
    refine gf_9_21 C P p_a0 e1 q_1326 dX9_copyHealths_15 ?_
    refine lv_iconst (v := 0) hx hb dX9_copyHealths_18 (by decide) ?_
    obtain ⟨h1, hw⟩ := hw
    refine ra_i C P p_a3 h1 dX9_copyHealths_19 ?_
    refine lv_if_eq (tgt := 32) hx hb dX9_copyHealths_20 (by decide) (fun hc => ?_) (fun hc => ?_)
    · have hw := hw.1 hc
      exact tX9_copyHealths_32 C hr hex Q QX S1 a0 x1 x2 a0 p_a0 p_a0 P (lv_sub hl [0, 1, 2] rfl) (by omega) (by omega) hw
    · have hw := hw.2 hc
      refine lv_aload_n hx hb dX9_copyHealths_23 rfl (lv_at hl 0 rfl) ?_
      obtain ⟨a4, e1, hw⟩ := hw
      have p_a4 : pI S1 12 a4 := wf_r P.2.2.2.1 p_a0 e1
      refine gf_9_21 C P p_a0 e1 q_1326 dX9_copyHealths_24 ?_
      refine lv_iconst (v := 1) hx hb dX9_copyHealths_27 (by decide) ?_
      obtain ⟨h1, hw⟩ := hw
      refine ra_i C P p_a4 h1 dX9_copyHealths_28 ?_
      refine lv_if_ne (tgt := 36) hx hb dX9_copyHealths_29 (by decide) (fun hc => ?_) (fun hc => ?_)
      · have hw := hw.1 hc
        refine lv_aload_n hx hb dX9_copyHealths_36 rfl (lv_at hl 0 rfl) ?_
        obtain ⟨a5, e1, hw⟩ := hw
        have p_a5 : pI S1 12 a5 := wf_r P.2.2.2.1 p_a0 e1
        refine gf_9_21 C P p_a0 e1 q_1326 dX9_copyHealths_37 ?_
        refine lv_iconst (v := 0) hx hb dX9_copyHealths_40 (by decide) ?_
        obtain ⟨h1, hw⟩ := hw
        refine ra_i C P p_a5 h1 dX9_copyHealths_41 ?_
        refine lv_aload_n hx hb dX9_copyHealths_42 rfl (lv_at hl 0 rfl) ?_
        obtain ⟨a6, e1, hw⟩ := hw
        have p_a6 : pI S1 12 a6 := wf_r P.2.2.2.1 p_a0 e1
        refine gf_9_21 C P p_a0 e1 q_1326 dX9_copyHealths_43 ?_
        refine lv_iconst (v := 1) hx hb dX9_copyHealths_46 (by decide) ?_
        obtain ⟨h1, hw⟩ := hw
        refine ra_i C P p_a6 h1 dX9_copyHealths_47 ?_
        refine lv_icmp_eq (tgt := 55) hx hb dX9_copyHealths_48 (by decide) (fun hc => ?_) (fun hc => ?_)
        · have hw := hw.1 hc
          refine lv_iload_n hx hb dX9_copyHealths_55 rfl (lv_at hl 2 rfl) ?_
          refine lv_if_lt (tgt := 79) hx hb dX9_copyHealths_56 (by decide) (fun hc => ?_) (fun hc => ?_)
          · have hw := hw.1 hc
            exact tX9_copyHealths_79 C hr hex Q QX S1 a0 x1 x2 a0 p_a0 p_a0 P (lv_sub hl [0, 1, 2] rfl) (by omega) (by omega) hw
          · have hw := hw.2 hc
            refine lv_iload_n hx hb dX9_copyHealths_59 rfl (lv_at hl 2 rfl) ?_
            refine lv_aload_n hx hb dX9_copyHealths_60 rfl (lv_at hl 0 rfl) ?_
            obtain ⟨a7, e1, hw⟩ := hw
            have p_a7 : pI S1 12 a7 := wf_r P.2.2.2.1 p_a0 e1
            refine gf_9_20 C P p_a0 e1 q_1325 dX9_copyHealths_61 ?_
            refine lv_iconst (v := 0) hx hb dX9_copyHealths_64 (by decide) ?_
            obtain ⟨h1, hw⟩ := hw
            refine ra_i C P p_a7 h1 dX9_copyHealths_65 ?_
            refine lv_icmp_gt (tgt := 79) hx hb dX9_copyHealths_66 (by decide) (fun hc => ?_) (fun hc => ?_)
            · have hw := hw.1 hc
              exact tX9_copyHealths_79 C hr hex Q QX S1 a0 x1 x2 a0 p_a0 p_a0 P (lv_sub hl [0, 1, 2] rfl) (by omega) (by omega) hw
            · have hw := hw.2 hc
              refine lv_iload_n hx hb dX9_copyHealths_69 rfl (lv_at hl 2 rfl) ?_
              refine lv_aload_n hx hb dX9_copyHealths_70 rfl (lv_at hl 0 rfl) ?_
              obtain ⟨a8, e1, hw⟩ := hw
              have p_a8 : pI S1 12 a8 := wf_r P.2.2.2.1 p_a0 e1
              refine gf_9_20 C P p_a0 e1 q_1325 dX9_copyHealths_71 ?_
              refine lv_iconst (v := 1) hx hb dX9_copyHealths_74 (by decide) ?_
              obtain ⟨h1, hw⟩ := hw
              refine ra_i C P p_a8 h1 dX9_copyHealths_75 ?_
              refine lv_icmp_le (tgt := 83) hx hb dX9_copyHealths_76 (by decide) (fun hc => ?_) (fun hc => ?_)
              · have hw := hw.1 hc
                refine lv_iconst (v := 0) hx hb dX9_copyHealths_83 (by decide) ?_
                exact tX9_copyHealths_84 C hr hex Q QX S1 a0 x1 x2 0 a0 p_a0 p_a0 P (lv_sub hl [0, 1, 2] rfl) (by omega) (by omega) hw
              · have hw := hw.2 hc
                exact tX9_copyHealths_79 C hr hex Q QX S1 a0 x1 x2 a0 p_a0 p_a0 P (lv_sub hl [0, 1, 2] rfl) (by omega) (by omega) hw
        · have hw := hw.2 hc
          refine lv_iconst (v := 3) hx hb dX9_copyHealths_51 (by decide) ?_
          refine lv_goto (tgt := 84) hx hb dX9_copyHealths_52 (by decide) ?_
          exact tX9_copyHealths_84 C hr hex Q QX S1 a0 x1 x2 3 a0 p_a0 p_a0 P (lv_sub hl [0, 1, 2] rfl) (by omega) (by omega) hw
      · have hw := hw.2 hc
        exact tX9_copyHealths_32 C hr hex Q QX S1 a0 x1 x2 a0 p_a0 p_a0 P (lv_sub hl [0, 1, 2] rfl) (by omega) (by omega) hw
  · have hw := hw.2 hc
    refine lv_iconst (v := 1) hx hb dX9_copyHealths_10 (by decide) ?_
    refine lv_goto (tgt := 84) hx hb dX9_copyHealths_11 (by decide) ?_
    exact tX9_copyHealths_84 C hr hex Q QX S1 a0 x1 x2 1 a0 p_a0 p_a0 P (lv_sub hl [0, 1, 2] rfl) (by omega) (by omega) hw
def wp_X9_copyHealths (Q : Int32 → MS → Prop) (QX : String → MS → Prop) (S : MS) (a0 : Nat) (x1 : Int32) (x2 : Int32) : Prop := wX9_copyHealths_0 Q QX S a0 x1 x2
set_option maxHeartbeats 4000000 in
set_option maxRecDepth 100000 in
theorem met_X9_copyHealths {l : Launch} (hst : l.stackTraces = false) (G : GP) (sz : Nat) (Q : Int32 → MS → Prop) (QX : String → MS → Prop) (S : MS) (a0 : Nat) (x1 : Int32) (x2 : Int32) (p_a0 : pI S 9 a0) (hw : wp_X9_copyHealths Q QX S a0 x1 x2) : vx_Met l yX9_copyHealths (.code yX9_copyHealths cX9_copyHealths 7 (some .boolean) :: GW) rmX9_copyHealths (va_Pc [.ref a0, .int x1, .int x2] (PR G S sz)) (QI G S (FA G S sz) Q) (XX G S (FA G S sz) QX) 0 0 (FA G S sz) := by
  refine st_m (by decide +kernel) hst (fun p e s m below meth c C hr hnm hex P => ?_)
  refine en_m (Nat.le_of_ble_eq_true rfl) (lv := [(0, .ref a0), (1, .int x1), (2, .int x2)]) rfl (fun ls hl => ?_)
  have C : CF p l s m _ meth c "SkirmishGridModel" cX9_copyHealths 7 G (FA G S sz) := C
  exact tX9_copyHealths_0 C hr hex Q QX S a0 x1 x2 p_a0 P hl (by omega) (by omega) hw
theorem cd_X9_copyHealths : yX9_copyHealths.cls = RX9 ∧ yX9_copyHealths.cls ≠ "java/lang/invoke/MethodHandle" ∧ yX9_copyHealths.cls ≠ "java/lang/invoke/VarHandle" ∧ (parseMethodDescriptor yX9_copyHealths.desc).map (fun d => d.parameters.length) = some 2 := by decide +kernel
abbrev rmX9_snapshot : Room := { frames := 1, cells := 0, slots := 0, locals := 23 }
def wX9_snapshot_0 (Q : Int32 → MS → Prop) (QX : String → MS → Prop) (S : MS) (a0 : Nat) : Prop := (∀ S1, S1 = (sI S a0 0 0) → (∃ a2, mR S1 a0 1 = some a2 ∧ (∃ a3, mR S1 a0 3 = some a3 ∧ wp_X9_copies (fun S4 => (∃ a5, mR S4 a0 2 = some a5 ∧ (∃ a6, mR S4 a0 4 = some a6 ∧ wp_X9_copies (fun S7 => (∃ a8, mR S7 a0 7 = some a8 ∧ (∃ a9, mR S7 a0 8 = some a9 ∧ (∃ a10, mR S7 a0 1 = some a10 ∧ (vp_in 289 (mN S7 a10) ∧ wp_X9_copies (fun S11 => (∀ S12, S12 = (sI S11 a0 10 1) → (∃ a13, mR S12 a0 1 = some a13 ∧ (vp_in 66 (mN S12 a13) ∧ Q (mI S12 a13 (66 : Int32).toNatClampNeg) S12)))) QX S7 a8 a9 (2 * (mI S7 a10 (289 : Int32).toNatClampNeg))))))) QX S4 a5 a6 290))) QX S1 a2 a3 290)))
set_option maxHeartbeats 4000000 in
set_option maxRecDepth 100000 in
theorem tX9_snapshot_0 {p : Program} {l : Launch} {e : Env} {s : State} {m : MethodId} {args : Array Value} {below : List Frame} {meth : Method} {c : Code} {H : Heap} {locs : List Loc} {cells slots : Nat} {G : GP} {A : Nat → Prop} {S0 : MS} {ls : Array Slot} (C : CF p l s m args meth c "SkirmishGridModel" cX9_snapshot 1 G A) (hr : meth.sig.returnType = (some .int)) (hex : ∀ x ∈ c.exceptionTable.toList, False) (Q : Int32 → MS → Prop) (QX : String → MS → Prop) (S : MS) (a0 : Nat) (p_a0 : pI S 9 a0) (P : PW G A s H locs S0 S) (hl : lv_has ls 1 [(0, .ref a0)]) (hcc : cells + 0 ≤ 0) (hss : slots + 0 ≤ 0) (hw : wX9_snapshot_0 Q QX S a0) : W p l e rmX9_snapshot s m args below meth c H locs cells slots (vx_MQ below (QI G S0 A Q) (XX G S0 A QX) args s 0 0 A) (F0 m 0 ls []) := by
  have hx := CF_x C
  have hb := CF_b C
  unfold wX9_snapshot_0 at hw
  refine lv_aload_n hx hb dX9_snapshot_0 rfl (lv_at hl 0 rfl) ?_
  refine lv_iconst (v := 0) hx hb dX9_snapshot_1 (by decide) ?_
  refine pf_9_0 C P p_a0 q_1305 dX9_snapshot_2 (fun H locs P => ?_)
  obtain ⟨S1, hS⟩ : ∃ z, z = (sI S a0 0 0) := ⟨_, rfl⟩
  have P : PW G A s H locs S0 S1 := by rw [hS]; exact P
  have p_a0 : pI S1 9 a0 := by rw [hS]; exact pI_x ext_sI p_a0
  have hw := hw S1 hS
  refine lv_aload_n hx hb dX9_snapshot_5 rfl (lv_at hl 0 rfl) ?_
  obtain ⟨a2, e1, hw⟩ := hw
  have p_a2 : pI S1 12 a2 := wf_r P.2.2.2.1 p_a0 e1
  refine gf_9_1 C P p_a0 e1 q_1306 dX9_snapshot_6 ?_
  refine lv_aload_n hx hb dX9_snapshot_9 rfl (lv_at hl 0 rfl) ?_
  obtain ⟨a3, e1, hw⟩ := hw
  have p_a3 : pI S1 12 a3 := wf_r P.2.2.2.1 p_a0 e1
  refine gf_9_3 C P p_a0 e1 q_1308 dX9_snapshot_10 ?_
  refine lv_sipush (v := 290) hx hb dX9_snapshot_13 (by decide) ?_
  refine cl_v C P (run_S C P hl.1 (met_X9_copies (CF_n C) G H.size _ _ S1 a2 a3 290 p_a2 p_a3 hw) q_1512 q_1513 q_10 q_1514 cd_X9_copies.2 ⟨(Nat.le_of_ble_eq_true rfl), (Nat.le_of_ble_eq_true rfl)⟩ rfl rfl (As := [.ref a2, .ref a3, .int 290]) (rest := []) rfl rfl (Nat.le_of_ble_eq_true rfl) dX9_snapshot_16 ⟨by show cells + 0 ≤ 0; omega, by show slots + 0 ≤ 0; omega⟩) (kx_out C hex (fun _ _ _ h => h) (by omega) (by omega)) (fun S4 H locs P hE hw => ?_)
  have p_a0 : pI S4 9 a0 := pI_x hE p_a0
  have p_a2 : pI S4 12 a2 := pI_x hE p_a2
  have p_a3 : pI S4 12 a3 := pI_x hE p_a3
  refine lv_aload_n hx hb dX9_snapshot_19 rfl (lv_at hl 0 rfl) ?_
  obtain ⟨a5, e1, hw⟩ := hw
  have p_a5 : pI S4 12 a5 := wf_r P.2.2.2.1 p_a0 e1
  refine gf_9_2 C P p_a0 e1 q_1307 dX9_snapshot_20 ?_
  refine lv_aload_n hx hb dX9_snapshot_23 rfl (lv_at hl 0 rfl) ?_
  obtain ⟨a6, e1, hw⟩ := hw
  have p_a6 : pI S4 12 a6 := wf_r P.2.2.2.1 p_a0 e1
  refine gf_9_4 C P p_a0 e1 q_1309 dX9_snapshot_24 ?_
  refine lv_sipush (v := 290) hx hb dX9_snapshot_27 (by decide) ?_
  refine cl_v C P (run_S C P hl.1 (met_X9_copies (CF_n C) G H.size _ _ S4 a5 a6 290 p_a5 p_a6 hw) q_1512 q_1513 q_10 q_1514 cd_X9_copies.2 ⟨(Nat.le_of_ble_eq_true rfl), (Nat.le_of_ble_eq_true rfl)⟩ rfl rfl (As := [.ref a5, .ref a6, .int 290]) (rest := []) rfl rfl (Nat.le_of_ble_eq_true rfl) dX9_snapshot_30 ⟨by show cells + 0 ≤ 0; omega, by show slots + 0 ≤ 0; omega⟩) (kx_out C hex (fun _ _ _ h => h) (by omega) (by omega)) (fun S7 H locs P hE hw => ?_)
  have p_a0 : pI S7 9 a0 := pI_x hE p_a0
  have p_a5 : pI S7 12 a5 := pI_x hE p_a5
  have p_a6 : pI S7 12 a6 := pI_x hE p_a6
  refine lv_aload_n hx hb dX9_snapshot_33 rfl (lv_at hl 0 rfl) ?_
  obtain ⟨a8, e1, hw⟩ := hw
  have p_a8 : pI S7 12 a8 := wf_r P.2.2.2.1 p_a0 e1
  refine gf_9_7 C P p_a0 e1 q_1312 dX9_snapshot_34 ?_
  refine lv_aload_n hx hb dX9_snapshot_37 rfl (lv_at hl 0 rfl) ?_
  obtain ⟨a9, e1, hw⟩ := hw
  have p_a9 : pI S7 12 a9 := wf_r P.2.2.2.1 p_a0 e1
  refine gf_9_8 C P p_a0 e1 q_1313 dX9_snapshot_38 ?_
  refine lv_iconst (v := 2) hx hb dX9_snapshot_41 (by decide) ?_
  refine lv_aload_n hx hb dX9_snapshot_42 rfl (lv_at hl 0 rfl) ?_
  obtain ⟨a10, e1, hw⟩ := hw
  have p_a10 : pI S7 12 a10 := wf_r P.2.2.2.1 p_a0 e1
  refine gf_9_1 C P p_a0 e1 q_1306 dX9_snapshot_43 ?_
  refine lv_sipush (v := 289) hx hb dX9_snapshot_46 (by decide) ?_
  obtain ⟨h1, hw⟩ := hw
  refine ra_i C P p_a10 h1 dX9_snapshot_49 ?_
  refine lv_imul hx hb dX9_snapshot_50 ?_
  refine cl_v C P (run_S C P hl.1 (met_X9_copies (CF_n C) G H.size _ _ S7 a8 a9 (2 * (mI S7 a10 (289 : Int32).toNatClampNeg)) p_a8 p_a9 hw) q_1512 q_1513 q_10 q_1514 cd_X9_copies.2 ⟨(Nat.le_of_ble_eq_true rfl), (Nat.le_of_ble_eq_true rfl)⟩ rfl rfl (As := [.ref a8, .ref a9, .int (2 * (mI S7 a10 (289 : Int32).toNatClampNeg))]) (rest := []) rfl rfl (Nat.le_of_ble_eq_true rfl) dX9_snapshot_51 ⟨by show cells + 0 ≤ 0; omega, by show slots + 0 ≤ 0; omega⟩) (kx_out C hex (fun _ _ _ h => h) (by omega) (by omega)) (fun S11 H locs P hE hw => ?_)
  have p_a0 : pI S11 9 a0 := pI_x hE p_a0
  have p_a8 : pI S11 12 a8 := pI_x hE p_a8
  have p_a9 : pI S11 12 a9 := pI_x hE p_a9
  refine lv_aload_n hx hb dX9_snapshot_54 rfl (lv_at hl 0 rfl) ?_
  refine lv_iconst (v := 1) hx hb dX9_snapshot_55 (by decide) ?_
  refine pf_9_10 C P p_a0 (isZ_dec (by decide)) q_1315 dX9_snapshot_56 (fun H locs P => ?_)
  obtain ⟨S12, hS⟩ : ∃ z, z = (sI S11 a0 10 1) := ⟨_, rfl⟩
  have P : PW G A s H locs S0 S12 := by rw [hS]; exact P
  have p_a0 : pI S12 9 a0 := by rw [hS]; exact pI_x ext_sI p_a0
  have hw := hw S12 hS
  refine lv_aload_n hx hb dX9_snapshot_59 rfl (lv_at hl 0 rfl) ?_
  obtain ⟨a13, e1, hw⟩ := hw
  have p_a13 : pI S12 12 a13 := wf_r P.2.2.2.1 p_a0 e1
  refine gf_9_1 C P p_a0 e1 q_1306 dX9_snapshot_60 ?_
  refine lv_bipush (v := 66) hx hb dX9_snapshot_63 (by decide) ?_
  obtain ⟨h1, hw⟩ := hw
  refine ra_i C P p_a13 h1 dX9_snapshot_65 ?_
  exact e_i C hr rfl P hw (by omega) (by omega) dX9_snapshot_66
def wp_X9_snapshot (Q : Int32 → MS → Prop) (QX : String → MS → Prop) (S : MS) (a0 : Nat) : Prop := wX9_snapshot_0 Q QX S a0
set_option maxHeartbeats 4000000 in
set_option maxRecDepth 100000 in
theorem met_X9_snapshot {l : Launch} (hst : l.stackTraces = false) (G : GP) (sz : Nat) (Q : Int32 → MS → Prop) (QX : String → MS → Prop) (S : MS) (a0 : Nat) (p_a0 : pI S 9 a0) (hw : wp_X9_snapshot Q QX S a0) : vx_Met l yX9_snapshot (.code yX9_snapshot cX9_snapshot 1 (some .int) :: GW) rmX9_snapshot (va_Pc [.ref a0] (PR G S sz)) (QI G S (FA G S sz) Q) (XX G S (FA G S sz) QX) 0 0 (FA G S sz) := by
  refine st_m (by decide +kernel) hst (fun p e s m below meth c C hr hnm hex P => ?_)
  refine en_m (Nat.le_of_ble_eq_true rfl) (lv := [(0, .ref a0)]) rfl (fun ls hl => ?_)
  have C : CF p l s m _ meth c "SkirmishGridModel" cX9_snapshot 1 G (FA G S sz) := C
  exact tX9_snapshot_0 C hr hex Q QX S a0 p_a0 P hl (by omega) (by omega) hw
theorem cd_X9_snapshot : yX9_snapshot.cls = RX9 ∧ yX9_snapshot.cls ≠ "java/lang/invoke/MethodHandle" ∧ yX9_snapshot.cls ≠ "java/lang/invoke/VarHandle" ∧ (parseMethodDescriptor yX9_snapshot.desc).map (fun d => d.parameters.length) = some 0 := by decide +kernel
abbrev rmX9_restore : Room := { frames := 1, cells := 0, slots := 0, locals := 23 }
def wX9_restore_13 (Q : Int32 → MS → Prop) (QX : String → MS → Prop) (S : MS) (a0 : Nat) (z0 : Int32) (w1 : Nat) : Prop := (∀ S1, S1 = (sI S w1 0 z0) → ((¬ (mI S1 a0 10) = 0 → (∃ a2, mR S1 a0 3 = some a2 ∧ (∃ a3, mR S1 a0 1 = some a3 ∧ wp_X9_copies (fun S4 => (∃ a5, mR S4 a0 4 = some a5 ∧ (∃ a6, mR S4 a0 2 = some a6 ∧ wp_X9_copies (fun S7 => (∃ a8, mR S7 a0 8 = some a8 ∧ (∃ a9, mR S7 a0 7 = some a9 ∧ (∃ a10, mR S7 a0 1 = some a10 ∧ (vp_in 289 (mN S7 a10) ∧ wp_X9_copies (fun S11 => (∀ S12, S12 = (sI S11 a0 9 0) → (∃ a13, mR S12 a0 1 = some a13 ∧ (vp_in 66 (mN S12 a13) ∧ Q (mI S12 a13 (66 : Int32).toNatClampNeg) S12)))) QX S7 a8 a9 (2 * (mI S7 a10 (289 : Int32).toNatClampNeg))))))) QX S4 a5 a6 290))) QX S1 a2 a3 290))) ∧ ((mI S1 a0 10) = 0 → Q 0 S1)))
set_option maxHeartbeats 4000000 in
set_option maxRecDepth 100000 in
theorem tX9_restore_13 {p : Program} {l : Launch} {e : Env} {s : State} {m : MethodId} {args : Array Value} {below : List Frame} {meth : Method} {c : Code} {H : Heap} {locs : List Loc} {cells slots : Nat} {G : GP} {A : Nat → Prop} {S0 : MS} {ls : Array Slot} (C : CF p l s m args meth c "SkirmishGridModel" cX9_restore 1 G A) (hr : meth.sig.returnType = (some .int)) (hex : ∀ x ∈ c.exceptionTable.toList, False) (Q : Int32 → MS → Prop) (QX : String → MS → Prop) (S : MS) (a0 : Nat) (z0 : Int32) (w1 : Nat) (p_a0 : pI S 9 a0) (p_w1 : pI S 9 w1) (P : PW G A s H locs S0 S) (hl : lv_has ls 1 [(0, .ref a0)]) (hcc : cells + 0 ≤ 0) (hss : slots + 0 ≤ 0) (hw : wX9_restore_13 Q QX S a0 z0 w1) : W p l e rmX9_restore s m args below meth c H locs cells slots (vx_MQ below (QI G S0 A Q) (XX G S0 A QX) args s 0 0 A) (F0 m 13 ls [.int z0, .ref w1]) := by
  have hx := CF_x C
  have hb := CF_b C
  unfold wX9_restore_13 at hw
  refine pf_9_0 C P p_w1 q_1305 dX9_restore_13 (fun H locs P => ?_)
  obtain ⟨S1, hS⟩ : ∃ z, z = (sI S w1 0 z0) := ⟨_, rfl⟩
  have P : PW G A s H locs S0 S1 := by rw [hS]; exact P
  have p_a0 : pI S1 9 a0 := by rw [hS]; exact pI_x ext_sI p_a0
  have p_w1 : pI S1 9 w1 := by rw [hS]; exact pI_x ext_sI p_w1
  have hw := hw S1 hS
  refine lv_aload_n hx hb dX9_restore_16 rfl (lv_at hl 0 rfl) ?_
  refine gf_9_10 C P p_a0 q_1315 dX9_restore_17 ?_
  refine lv_if_ne (tgt := 25) hx hb dX9_restore_20 (by decide) (fun hc => ?_) (fun hc => ?_)
  · have hw := hw.1 hc
    refine lv_aload_n hx hb dX9_restore_25 rfl (lv_at hl 0 rfl) ?_
    obtain ⟨a2, e1, hw⟩ := hw
    have p_a2 : pI S1 12 a2 := wf_r P.2.2.2.1 p_a0 e1
    refine gf_9_3 C P p_a0 e1 q_1308 dX9_restore_26 ?_
    refine lv_aload_n hx hb dX9_restore_29 rfl (lv_at hl 0 rfl) ?_
    obtain ⟨a3, e1, hw⟩ := hw
    have p_a3 : pI S1 12 a3 := wf_r P.2.2.2.1 p_a0 e1
    refine gf_9_1 C P p_a0 e1 q_1306 dX9_restore_30 ?_
    refine lv_sipush (v := 290) hx hb dX9_restore_33 (by decide) ?_
    refine cl_v C P (run_S C P hl.1 (met_X9_copies (CF_n C) G H.size _ _ S1 a2 a3 290 p_a2 p_a3 hw) q_1512 q_1513 q_10 q_1514 cd_X9_copies.2 ⟨(Nat.le_of_ble_eq_true rfl), (Nat.le_of_ble_eq_true rfl)⟩ rfl rfl (As := [.ref a2, .ref a3, .int 290]) (rest := []) rfl rfl (Nat.le_of_ble_eq_true rfl) dX9_restore_36 ⟨by show cells + 0 ≤ 0; omega, by show slots + 0 ≤ 0; omega⟩) (kx_out C hex (fun _ _ _ h => h) (by omega) (by omega)) (fun S4 H locs P hE hw => ?_)
    have p_a0 : pI S4 9 a0 := pI_x hE p_a0
    have p_a2 : pI S4 12 a2 := pI_x hE p_a2
    have p_a3 : pI S4 12 a3 := pI_x hE p_a3
    refine lv_aload_n hx hb dX9_restore_39 rfl (lv_at hl 0 rfl) ?_
    obtain ⟨a5, e1, hw⟩ := hw
    have p_a5 : pI S4 12 a5 := wf_r P.2.2.2.1 p_a0 e1
    refine gf_9_4 C P p_a0 e1 q_1309 dX9_restore_40 ?_
    refine lv_aload_n hx hb dX9_restore_43 rfl (lv_at hl 0 rfl) ?_
    obtain ⟨a6, e1, hw⟩ := hw
    have p_a6 : pI S4 12 a6 := wf_r P.2.2.2.1 p_a0 e1
    refine gf_9_2 C P p_a0 e1 q_1307 dX9_restore_44 ?_
    refine lv_sipush (v := 290) hx hb dX9_restore_47 (by decide) ?_
    refine cl_v C P (run_S C P hl.1 (met_X9_copies (CF_n C) G H.size _ _ S4 a5 a6 290 p_a5 p_a6 hw) q_1512 q_1513 q_10 q_1514 cd_X9_copies.2 ⟨(Nat.le_of_ble_eq_true rfl), (Nat.le_of_ble_eq_true rfl)⟩ rfl rfl (As := [.ref a5, .ref a6, .int 290]) (rest := []) rfl rfl (Nat.le_of_ble_eq_true rfl) dX9_restore_50 ⟨by show cells + 0 ≤ 0; omega, by show slots + 0 ≤ 0; omega⟩) (kx_out C hex (fun _ _ _ h => h) (by omega) (by omega)) (fun S7 H locs P hE hw => ?_)
    have p_a0 : pI S7 9 a0 := pI_x hE p_a0
    have p_a5 : pI S7 12 a5 := pI_x hE p_a5
    have p_a6 : pI S7 12 a6 := pI_x hE p_a6
    refine lv_aload_n hx hb dX9_restore_53 rfl (lv_at hl 0 rfl) ?_
    obtain ⟨a8, e1, hw⟩ := hw
    have p_a8 : pI S7 12 a8 := wf_r P.2.2.2.1 p_a0 e1
    refine gf_9_8 C P p_a0 e1 q_1313 dX9_restore_54 ?_
    refine lv_aload_n hx hb dX9_restore_57 rfl (lv_at hl 0 rfl) ?_
    obtain ⟨a9, e1, hw⟩ := hw
    have p_a9 : pI S7 12 a9 := wf_r P.2.2.2.1 p_a0 e1
    refine gf_9_7 C P p_a0 e1 q_1312 dX9_restore_58 ?_
    refine lv_iconst (v := 2) hx hb dX9_restore_61 (by decide) ?_
    refine lv_aload_n hx hb dX9_restore_62 rfl (lv_at hl 0 rfl) ?_
    obtain ⟨a10, e1, hw⟩ := hw
    have p_a10 : pI S7 12 a10 := wf_r P.2.2.2.1 p_a0 e1
    refine gf_9_1 C P p_a0 e1 q_1306 dX9_restore_63 ?_
    refine lv_sipush (v := 289) hx hb dX9_restore_66 (by decide) ?_
    obtain ⟨h1, hw⟩ := hw
    refine ra_i C P p_a10 h1 dX9_restore_69 ?_
    refine lv_imul hx hb dX9_restore_70 ?_
    refine cl_v C P (run_S C P hl.1 (met_X9_copies (CF_n C) G H.size _ _ S7 a8 a9 (2 * (mI S7 a10 (289 : Int32).toNatClampNeg)) p_a8 p_a9 hw) q_1512 q_1513 q_10 q_1514 cd_X9_copies.2 ⟨(Nat.le_of_ble_eq_true rfl), (Nat.le_of_ble_eq_true rfl)⟩ rfl rfl (As := [.ref a8, .ref a9, .int (2 * (mI S7 a10 (289 : Int32).toNatClampNeg))]) (rest := []) rfl rfl (Nat.le_of_ble_eq_true rfl) dX9_restore_71 ⟨by show cells + 0 ≤ 0; omega, by show slots + 0 ≤ 0; omega⟩) (kx_out C hex (fun _ _ _ h => h) (by omega) (by omega)) (fun S11 H locs P hE hw => ?_)
    have p_a0 : pI S11 9 a0 := pI_x hE p_a0
    have p_a8 : pI S11 12 a8 := pI_x hE p_a8
    have p_a9 : pI S11 12 a9 := pI_x hE p_a9
    refine lv_aload_n hx hb dX9_restore_74 rfl (lv_at hl 0 rfl) ?_
    refine lv_iconst (v := 0) hx hb dX9_restore_75 (by decide) ?_
    refine pf_9_9 C P p_a0 q_1314 dX9_restore_76 (fun H locs P => ?_)
    obtain ⟨S12, hS⟩ : ∃ z, z = (sI S11 a0 9 0) := ⟨_, rfl⟩
    have P : PW G A s H locs S0 S12 := by rw [hS]; exact P
    have p_a0 : pI S12 9 a0 := by rw [hS]; exact pI_x ext_sI p_a0
    have hw := hw S12 hS
    refine lv_aload_n hx hb dX9_restore_79 rfl (lv_at hl 0 rfl) ?_
    obtain ⟨a13, e1, hw⟩ := hw
    have p_a13 : pI S12 12 a13 := wf_r P.2.2.2.1 p_a0 e1
    refine gf_9_1 C P p_a0 e1 q_1306 dX9_restore_80 ?_
    refine lv_bipush (v := 66) hx hb dX9_restore_83 (by decide) ?_
    obtain ⟨h1, hw⟩ := hw
    refine ra_i C P p_a13 h1 dX9_restore_85 ?_
    exact e_i C hr rfl P hw (by omega) (by omega) dX9_restore_86
  · have hw := hw.2 hc
    refine lv_iconst (v := 0) hx hb dX9_restore_23 (by decide) ?_
    exact e_i C hr rfl P hw (by omega) (by omega) dX9_restore_24
def wX9_restore_0 (Q : Int32 → MS → Prop) (QX : String → MS → Prop) (S : MS) (a0 : Nat) : Prop := (((mI S a0 10) = 0 → wX9_restore_13 Q QX S a0 1 a0) ∧ (¬ (mI S a0 10) = 0 → wX9_restore_13 Q QX S a0 0 a0))
set_option maxHeartbeats 4000000 in
set_option maxRecDepth 100000 in
theorem tX9_restore_0 {p : Program} {l : Launch} {e : Env} {s : State} {m : MethodId} {args : Array Value} {below : List Frame} {meth : Method} {c : Code} {H : Heap} {locs : List Loc} {cells slots : Nat} {G : GP} {A : Nat → Prop} {S0 : MS} {ls : Array Slot} (C : CF p l s m args meth c "SkirmishGridModel" cX9_restore 1 G A) (hr : meth.sig.returnType = (some .int)) (hex : ∀ x ∈ c.exceptionTable.toList, False) (Q : Int32 → MS → Prop) (QX : String → MS → Prop) (S : MS) (a0 : Nat) (p_a0 : pI S 9 a0) (P : PW G A s H locs S0 S) (hl : lv_has ls 1 [(0, .ref a0)]) (hcc : cells + 0 ≤ 0) (hss : slots + 0 ≤ 0) (hw : wX9_restore_0 Q QX S a0) : W p l e rmX9_restore s m args below meth c H locs cells slots (vx_MQ below (QI G S0 A Q) (XX G S0 A QX) args s 0 0 A) (F0 m 0 ls []) := by
  have hx := CF_x C
  have hb := CF_b C
  unfold wX9_restore_0 at hw
  refine lv_aload_n hx hb dX9_restore_0 rfl (lv_at hl 0 rfl) ?_
  refine lv_aload_n hx hb dX9_restore_1 rfl (lv_at hl 0 rfl) ?_
  refine gf_9_10 C P p_a0 q_1315 dX9_restore_2 ?_
  refine lv_if_eq (tgt := 12) hx hb dX9_restore_5 (by decide) (fun hc => ?_) (fun hc => ?_)
  · have hw := hw.1 hc
    refine lv_iconst (v := 1) hx hb dX9_restore_12 (by decide) ?_
    exact tX9_restore_13 C hr hex Q QX S a0 1 a0 p_a0 p_a0 P (lv_sub hl [0] rfl) (by omega) (by omega) hw
  · have hw := hw.2 hc
    refine lv_iconst (v := 0) hx hb dX9_restore_8 (by decide) ?_
    refine lv_goto (tgt := 13) hx hb dX9_restore_9 (by decide) ?_
    exact tX9_restore_13 C hr hex Q QX S a0 0 a0 p_a0 p_a0 P (lv_sub hl [0] rfl) (by omega) (by omega) hw
def wp_X9_restore (Q : Int32 → MS → Prop) (QX : String → MS → Prop) (S : MS) (a0 : Nat) : Prop := wX9_restore_0 Q QX S a0
set_option maxHeartbeats 4000000 in
set_option maxRecDepth 100000 in
theorem met_X9_restore {l : Launch} (hst : l.stackTraces = false) (G : GP) (sz : Nat) (Q : Int32 → MS → Prop) (QX : String → MS → Prop) (S : MS) (a0 : Nat) (p_a0 : pI S 9 a0) (hw : wp_X9_restore Q QX S a0) : vx_Met l yX9_restore (.code yX9_restore cX9_restore 1 (some .int) :: GW) rmX9_restore (va_Pc [.ref a0] (PR G S sz)) (QI G S (FA G S sz) Q) (XX G S (FA G S sz) QX) 0 0 (FA G S sz) := by
  refine st_m (by decide +kernel) hst (fun p e s m below meth c C hr hnm hex P => ?_)
  refine en_m (Nat.le_of_ble_eq_true rfl) (lv := [(0, .ref a0)]) rfl (fun ls hl => ?_)
  have C : CF p l s m _ meth c "SkirmishGridModel" cX9_restore 1 G (FA G S sz) := C
  exact tX9_restore_0 C hr hex Q QX S a0 p_a0 P hl (by omega) (by omega) hw
theorem cd_X9_restore : yX9_restore.cls = RX9 ∧ yX9_restore.cls ≠ "java/lang/invoke/MethodHandle" ∧ yX9_restore.cls ≠ "java/lang/invoke/VarHandle" ∧ (parseMethodDescriptor yX9_restore.desc).map (fun d => d.parameters.length) = some 0 := by decide +kernel
abbrev rmX9_storedBits : Room := { frames := 2, cells := 0, slots := 0, locals := 80 }
def wX9_storedBits_92 (Q : Int32 → MS → Prop) (QX : String → MS → Prop) (S : MS) (z0 : UInt32) : Prop := wp_Jxf58ca_floatToIntBits_5c35a (fun r2 S1 => Q r2 S1) QX S z0
set_option maxHeartbeats 4000000 in
set_option maxRecDepth 100000 in
theorem tX9_storedBits_92 {p : Program} {l : Launch} {e : Env} {s : State} {m : MethodId} {args : Array Value} {below : List Frame} {meth : Method} {c : Code} {H : Heap} {locs : List Loc} {cells slots : Nat} {G : GP} {A : Nat → Prop} {S0 : MS} {ls : Array Slot} (C : CF p l s m args meth c "SkirmishGridModel" cX9_storedBits 3 G A) (hr : meth.sig.returnType = (some .int)) (hex : ∀ x ∈ c.exceptionTable.toList, False) (Q : Int32 → MS → Prop) (QX : String → MS → Prop) (S : MS) (z0 : UInt32) (P : PW G A s H locs S0 S) (hl : lv_has ls 3 []) (hcc : cells + 0 ≤ 0) (hss : slots + 0 ≤ 0) (hw : wX9_storedBits_92 Q QX S z0) : W p l e rmX9_storedBits s m args below meth c H locs cells slots (vx_MQ below (QI G S0 A Q) (XX G S0 A QX) args s 0 0 A) (F0 m 92 ls [.float z0]) := by
  have hx := CF_x C
  have hb := CF_b C
  unfold wX9_storedBits_92 at hw
  refine cl_i C P (run_S C P hl.1 (met_Jxf58ca_floatToIntBits_5c35a (CF_n C) G H.size _ _ S z0 hw) q_1734 q_1735 q_29 q_1736 cd_Jxf58ca_floatToIntBits_5c35a.2 ⟨(Nat.le_of_ble_eq_true rfl), (Nat.le_of_ble_eq_true rfl)⟩ rfl rfl (As := [.float z0]) (rest := []) rfl rfl (Nat.le_of_ble_eq_true rfl) dX9_storedBits_92 ⟨by show cells + 0 ≤ 0; omega, by show slots + 0 ≤ 0; omega⟩) (kx_out C hex (fun _ _ _ h => h) (by omega) (by omega)) (fun r2 S1 H locs P hE hw => ?_)
  exact e_i C hr rfl P hw (by omega) (by omega) dX9_storedBits_95
def wX9_storedBits_44 (Q : Int32 → MS → Prop) (QX : String → MS → Prop) (S : MS) (a0 : Nat) (y1 : Int32) (y2 : Int32) (z0 : Int32) (w1 : Nat) : Prop := (∀ S1, S1 = (sI S w1 0 z0) → (((mI S1 a0 0) ≤ 0 → (∃ a2, mR S1 a0 21 = some a2 ∧ (vp_in y1 (mN S1 a2) ∧ ((¬ (mI S1 a2 (y1 : Int32).toNatClampNeg) = 1 → (∃ a3, mR S1 a0 22 = some a3 ∧ (vp_in ((8 * y1) + y2) (mN S1 a3) ∧ wX9_storedBits_92 Q QX S1 (mF S1 a3 (((8 * y1) + y2) : Int32).toNatClampNeg)))) ∧ ((mI S1 a2 (y1 : Int32).toNatClampNeg) = 1 → (∃ a4, mR S1 a0 19 = some a4 ∧ (vp_in ((8 * y1) + y2) (mN S1 a4) ∧ wX9_storedBits_92 Q QX S1 (FP.i2f (mI S1 a4 (((8 * y1) + y2) : Int32).toNatClampNeg))))))))) ∧ (¬ (mI S1 a0 0) ≤ 0 → Q 0 S1)))
set_option maxHeartbeats 4000000 in
set_option maxRecDepth 100000 in
theorem tX9_storedBits_44 {p : Program} {l : Launch} {e : Env} {s : State} {m : MethodId} {args : Array Value} {below : List Frame} {meth : Method} {c : Code} {H : Heap} {locs : List Loc} {cells slots : Nat} {G : GP} {A : Nat → Prop} {S0 : MS} {ls : Array Slot} (C : CF p l s m args meth c "SkirmishGridModel" cX9_storedBits 3 G A) (hr : meth.sig.returnType = (some .int)) (hex : ∀ x ∈ c.exceptionTable.toList, False) (Q : Int32 → MS → Prop) (QX : String → MS → Prop) (S : MS) (a0 : Nat) (y1 : Int32) (y2 : Int32) (z0 : Int32) (w1 : Nat) (p_a0 : pI S 9 a0) (p_w1 : pI S 9 w1) (P : PW G A s H locs S0 S) (hl : lv_has ls 3 [(0, .ref a0), (1, .int y1), (2, .int y2)]) (hcc : cells + 0 ≤ 0) (hss : slots + 0 ≤ 0) (hw : wX9_storedBits_44 Q QX S a0 y1 y2 z0 w1) : W p l e rmX9_storedBits s m args below meth c H locs cells slots (vx_MQ below (QI G S0 A Q) (XX G S0 A QX) args s 0 0 A) (F0 m 44 ls [.int z0, .ref w1]) := by
  have hx := CF_x C
  have hb := CF_b C
  unfold wX9_storedBits_44 at hw
  refine pf_9_0 C P p_w1 q_1305 dX9_storedBits_44 (fun H locs P => ?_)
  obtain ⟨S1, hS⟩ : ∃ z, z = (sI S w1 0 z0) := ⟨_, rfl⟩
  have P : PW G A s H locs S0 S1 := by rw [hS]; exact P
  have p_a0 : pI S1 9 a0 := by rw [hS]; exact pI_x ext_sI p_a0
  have p_w1 : pI S1 9 w1 := by rw [hS]; exact pI_x ext_sI p_w1
  have hw := hw S1 hS
  refine lv_aload_n hx hb dX9_storedBits_47 rfl (lv_at hl 0 rfl) ?_
  refine gf_9_0 C P p_a0 q_1305 dX9_storedBits_48 ?_
  refine lv_if_le (tgt := 56) hx hb dX9_storedBits_51 (by decide) (fun hc => ?_) (fun hc => ?_)
  · have hw := hw.1 hc
    refine lv_aload_n hx hb dX9_storedBits_56 rfl (lv_at hl 0 rfl) ?_
    obtain ⟨a2, e1, hw⟩ := hw
    have p_a2 : pI S1 12 a2 := wf_r P.2.2.2.1 p_a0 e1
    refine gf_9_21 C P p_a0 e1 q_1326 dX9_storedBits_57 ?_
    refine lv_iload_n hx hb dX9_storedBits_60 rfl (lv_at hl 1 rfl) ?_
    obtain ⟨h1, hw⟩ := hw
    refine ra_i C P p_a2 h1 dX9_storedBits_61 ?_
    refine lv_iconst (v := 1) hx hb dX9_storedBits_62 (by decide) ?_
    refine lv_icmp_ne (tgt := 81) hx hb dX9_storedBits_63 (by decide) (fun hc => ?_) (fun hc => ?_)
    · have hw := hw.1 hc
      refine lv_aload_n hx hb dX9_storedBits_81 rfl (lv_at hl 0 rfl) ?_
      obtain ⟨a3, e1, hw⟩ := hw
      have p_a3 : pI S1 11 a3 := wf_r P.2.2.2.1 p_a0 e1
      refine gf_9_22 C P p_a0 e1 q_1327 dX9_storedBits_82 ?_
      refine lv_bipush (v := 8) hx hb dX9_storedBits_85 (by decide) ?_
      refine lv_iload_n hx hb dX9_storedBits_87 rfl (lv_at hl 1 rfl) ?_
      refine lv_imul hx hb dX9_storedBits_88 ?_
      refine lv_iload_n hx hb dX9_storedBits_89 rfl (lv_at hl 2 rfl) ?_
      refine lv_iadd hx hb dX9_storedBits_90 ?_
      obtain ⟨h1, hw⟩ := hw
      refine ra_f C P p_a3 h1 dX9_storedBits_91 ?_
      exact tX9_storedBits_92 C hr hex Q QX S1 (mF S1 a3 (((8 * y1) + y2) : Int32).toNatClampNeg) P (lv_sub hl [] rfl) (by omega) (by omega) hw
    · have hw := hw.2 hc
      refine lv_aload_n hx hb dX9_storedBits_66 rfl (lv_at hl 0 rfl) ?_
      obtain ⟨a4, e1, hw⟩ := hw
      have p_a4 : pI S1 12 a4 := wf_r P.2.2.2.1 p_a0 e1
      refine gf_9_19 C P p_a0 e1 q_1324 dX9_storedBits_67 ?_
      refine lv_bipush (v := 8) hx hb dX9_storedBits_70 (by decide) ?_
      refine lv_iload_n hx hb dX9_storedBits_72 rfl (lv_at hl 1 rfl) ?_
      refine lv_imul hx hb dX9_storedBits_73 ?_
      refine lv_iload_n hx hb dX9_storedBits_74 rfl (lv_at hl 2 rfl) ?_
      refine lv_iadd hx hb dX9_storedBits_75 ?_
      obtain ⟨h1, hw⟩ := hw
      refine ra_i C P p_a4 h1 dX9_storedBits_76 ?_
      refine lv_i2f hx hb dX9_storedBits_77 ?_
      refine lv_goto (tgt := 92) hx hb dX9_storedBits_78 (by decide) ?_
      exact tX9_storedBits_92 C hr hex Q QX S1 (FP.i2f (mI S1 a4 (((8 * y1) + y2) : Int32).toNatClampNeg)) P (lv_sub hl [] rfl) (by omega) (by omega) hw
  · have hw := hw.2 hc
    refine lv_iconst (v := 0) hx hb dX9_storedBits_54 (by decide) ?_
    exact e_i C hr rfl P hw (by omega) (by omega) dX9_storedBits_55
def wX9_storedBits_39 (Q : Int32 → MS → Prop) (QX : String → MS → Prop) (S : MS) (a0 : Nat) (y1 : Int32) (y2 : Int32) (w0 : Nat) : Prop := wX9_storedBits_44 Q QX S a0 y1 y2 2 w0
set_option maxHeartbeats 4000000 in
set_option maxRecDepth 100000 in
theorem tX9_storedBits_39 {p : Program} {l : Launch} {e : Env} {s : State} {m : MethodId} {args : Array Value} {below : List Frame} {meth : Method} {c : Code} {H : Heap} {locs : List Loc} {cells slots : Nat} {G : GP} {A : Nat → Prop} {S0 : MS} {ls : Array Slot} (C : CF p l s m args meth c "SkirmishGridModel" cX9_storedBits 3 G A) (hr : meth.sig.returnType = (some .int)) (hex : ∀ x ∈ c.exceptionTable.toList, False) (Q : Int32 → MS → Prop) (QX : String → MS → Prop) (S : MS) (a0 : Nat) (y1 : Int32) (y2 : Int32) (w0 : Nat) (p_a0 : pI S 9 a0) (p_w0 : pI S 9 w0) (P : PW G A s H locs S0 S) (hl : lv_has ls 3 [(0, .ref a0), (1, .int y1), (2, .int y2)]) (hcc : cells + 0 ≤ 0) (hss : slots + 0 ≤ 0) (hw : wX9_storedBits_39 Q QX S a0 y1 y2 w0) : W p l e rmX9_storedBits s m args below meth c H locs cells slots (vx_MQ below (QI G S0 A Q) (XX G S0 A QX) args s 0 0 A) (F0 m 39 ls [.ref w0]) := by
  have hx := CF_x C
  have hb := CF_b C
  unfold wX9_storedBits_39 at hw
  refine lv_iconst (v := 2) hx hb dX9_storedBits_39 (by decide) ?_
  refine lv_goto (tgt := 44) hx hb dX9_storedBits_40 (by decide) ?_
  exact tX9_storedBits_44 C hr hex Q QX S a0 y1 y2 2 w0 p_a0 p_w0 P (lv_sub hl [0, 1, 2] rfl) (by omega) (by omega) hw
def wX9_storedBits_0 (Q : Int32 → MS → Prop) (QX : String → MS → Prop) (S : MS) (a0 : Nat) (x1 : Int32) (x2 : Int32) : Prop := wp_X9_isIn (fun r2 S1 => ((¬ r2 = 0 → (∃ a3, mR S1 a0 21 = some a3 ∧ (vp_in x1 (mN S1 a3) ∧ (((mI S1 a3 (x1 : Int32).toNatClampNeg) = 0 → wX9_storedBits_39 Q QX S1 a0 x1 x2 a0) ∧ (¬ (mI S1 a3 (x1 : Int32).toNatClampNeg) = 0 → (∃ a4, mR S1 a0 20 = some a4 ∧ (vp_in x1 (mN S1 a4) ∧ wp_X9_isIn (fun r6 S5 => ((¬ r6 = 0 → wX9_storedBits_44 Q QX S5 a0 x1 x2 0 a0) ∧ (r6 = 0 → wX9_storedBits_39 Q QX S5 a0 x1 x2 a0))) QX S1 x2 0 ((mI S1 a4 (x1 : Int32).toNatClampNeg) - 1)))))))) ∧ (r2 = 0 → wX9_storedBits_44 Q QX S1 a0 x1 x2 1 a0))) QX S x1 0 1
set_option maxHeartbeats 4000000 in
set_option maxRecDepth 100000 in
theorem tX9_storedBits_0 {p : Program} {l : Launch} {e : Env} {s : State} {m : MethodId} {args : Array Value} {below : List Frame} {meth : Method} {c : Code} {H : Heap} {locs : List Loc} {cells slots : Nat} {G : GP} {A : Nat → Prop} {S0 : MS} {ls : Array Slot} (C : CF p l s m args meth c "SkirmishGridModel" cX9_storedBits 3 G A) (hr : meth.sig.returnType = (some .int)) (hex : ∀ x ∈ c.exceptionTable.toList, False) (Q : Int32 → MS → Prop) (QX : String → MS → Prop) (S : MS) (a0 : Nat) (x1 : Int32) (x2 : Int32) (p_a0 : pI S 9 a0) (P : PW G A s H locs S0 S) (hl : lv_has ls 3 [(0, .ref a0), (1, .int x1), (2, .int x2)]) (hcc : cells + 0 ≤ 0) (hss : slots + 0 ≤ 0) (hw : wX9_storedBits_0 Q QX S a0 x1 x2) : W p l e rmX9_storedBits s m args below meth c H locs cells slots (vx_MQ below (QI G S0 A Q) (XX G S0 A QX) args s 0 0 A) (F0 m 0 ls []) := by
  have hx := CF_x C
  have hb := CF_b C
  unfold wX9_storedBits_0 at hw
  refine lv_aload_n hx hb dX9_storedBits_0 rfl (lv_at hl 0 rfl) ?_
  refine lv_iload_n hx hb dX9_storedBits_1 rfl (lv_at hl 1 rfl) ?_
  refine lv_iconst (v := 0) hx hb dX9_storedBits_2 (by decide) ?_
  refine lv_iconst (v := 1) hx hb dX9_storedBits_3 (by decide) ?_
  refine cl_i C P (run_S C P hl.1 (met_X9_isIn (CF_n C) G H.size _ _ S x1 0 1 hw) q_1383 q_1384 q_10 q_1385 cd_X9_isIn.2 ⟨(Nat.le_of_ble_eq_true rfl), (Nat.le_of_ble_eq_true rfl)⟩ rfl rfl (As := [.int x1, .int 0, .int 1]) (rest := [.ref a0]) rfl rfl (Nat.le_of_ble_eq_true rfl) dX9_storedBits_4 ⟨by show cells + 0 ≤ 0; omega, by show slots + 0 ≤ 0; omega⟩) (kx_out C hex (fun _ _ _ h => h) (by omega) (by omega)) (fun r2 S1 H locs P hE hw => ?_)
  have p_a0 : pI S1 9 a0 := pI_x hE p_a0
  refine lv_if_ne (tgt := 14) hx hb dX9_storedBits_7 (by decide) (fun hc => ?_) (fun hc => ?_)
  · have hw := hw.1 hc
    refine lv_aload_n hx hb dX9_storedBits_14 rfl (lv_at hl 0 rfl) ?_
    obtain ⟨a3, e1, hw⟩ := hw
    have p_a3 : pI S1 12 a3 := wf_r P.2.2.2.1 p_a0 e1
    refine gf_9_21 C P p_a0 e1 q_1326 dX9_storedBits_15 ?_
    refine lv_iload_n hx hb dX9_storedBits_18 rfl (lv_at hl 1 rfl) ?_
    obtain ⟨h1, hw⟩ := hw
    refine ra_i C P p_a3 h1 dX9_storedBits_19 ?_
    refine lv_if_eq (tgt := 39) hx hb dX9_storedBits_20 (by decide) (fun hc => ?_) (fun hc => ?_)
    · have hw := hw.1 hc
      exact tX9_storedBits_39 C hr hex Q QX S1 a0 x1 x2 a0 p_a0 p_a0 P (lv_sub hl [0, 1, 2] rfl) (by omega) (by omega) hw
    · have hw := hw.2 hc
      refine lv_iload_n hx hb dX9_storedBits_23 rfl (lv_at hl 2 rfl) ?_
      refine lv_iconst (v := 0) hx hb dX9_storedBits_24 (by decide) ?_
      refine lv_aload_n hx hb dX9_storedBits_25 rfl (lv_at hl 0 rfl) ?_
      obtain ⟨a4, e1, hw⟩ := hw
      have p_a4 : pI S1 12 a4 := wf_r P.2.2.2.1 p_a0 e1
      refine gf_9_20 C P p_a0 e1 q_1325 dX9_storedBits_26 ?_
      refine lv_iload_n hx hb dX9_storedBits_29 rfl (lv_at hl 1 rfl) ?_
      obtain ⟨h1, hw⟩ := hw
      refine ra_i C P p_a4 h1 dX9_storedBits_30 ?_
      refine lv_iconst (v := 1) hx hb dX9_storedBits_31 (by decide) ?_
      refine lv_isub hx hb dX9_storedBits_32 ?_
      refine cl_i C P (run_S C P hl.1 (met_X9_isIn (CF_n C) G H.size _ _ S1 x2 0 ((mI S1 a4 (x1 : Int32).toNatClampNeg) - 1) hw) q_1383 q_1384 q_10 q_1385 cd_X9_isIn.2 ⟨(Nat.le_of_ble_eq_true rfl), (Nat.le_of_ble_eq_true rfl)⟩ rfl rfl (As := [.int x2, .int 0, .int ((mI S1 a4 (x1 : Int32).toNatClampNeg) - 1)]) (rest := [.ref a0]) rfl rfl (Nat.le_of_ble_eq_true rfl) dX9_storedBits_33 ⟨by show cells + 0 ≤ 0; omega, by show slots + 0 ≤ 0; omega⟩) (kx_out C hex (fun _ _ _ h => h) (by omega) (by omega)) (fun r6 S5 H locs P hE hw => ?_)
      have p_a0 : pI S5 9 a0 := pI_x hE p_a0
      refine lv_if_ne (tgt := 43) hx hb dX9_storedBits_36 (by decide) (fun hc => ?_) (fun hc => ?_)
      · have hw := hw.1 hc
        refine lv_iconst (v := 0) hx hb dX9_storedBits_43 (by decide) ?_
        exact tX9_storedBits_44 C hr hex Q QX S5 a0 x1 x2 0 a0 p_a0 p_a0 P (lv_sub hl [0, 1, 2] rfl) (by omega) (by omega) hw
      · have hw := hw.2 hc
        exact tX9_storedBits_39 C hr hex Q QX S5 a0 x1 x2 a0 p_a0 p_a0 P (lv_sub hl [0, 1, 2] rfl) (by omega) (by omega) hw
  · have hw := hw.2 hc
    refine lv_iconst (v := 1) hx hb dX9_storedBits_10 (by decide) ?_
    refine lv_goto (tgt := 44) hx hb dX9_storedBits_11 (by decide) ?_
    exact tX9_storedBits_44 C hr hex Q QX S1 a0 x1 x2 1 a0 p_a0 p_a0 P (lv_sub hl [0, 1, 2] rfl) (by omega) (by omega) hw
def wp_X9_storedBits (Q : Int32 → MS → Prop) (QX : String → MS → Prop) (S : MS) (a0 : Nat) (x1 : Int32) (x2 : Int32) : Prop := wX9_storedBits_0 Q QX S a0 x1 x2
set_option maxHeartbeats 4000000 in
set_option maxRecDepth 100000 in
theorem met_X9_storedBits {l : Launch} (hst : l.stackTraces = false) (G : GP) (sz : Nat) (Q : Int32 → MS → Prop) (QX : String → MS → Prop) (S : MS) (a0 : Nat) (x1 : Int32) (x2 : Int32) (p_a0 : pI S 9 a0) (hw : wp_X9_storedBits Q QX S a0 x1 x2) : vx_Met l yX9_storedBits (.code yX9_storedBits cX9_storedBits 3 (some .int) :: GW) rmX9_storedBits (va_Pc [.ref a0, .int x1, .int x2] (PR G S sz)) (QI G S (FA G S sz) Q) (XX G S (FA G S sz) QX) 0 0 (FA G S sz) := by
  refine st_m (by decide +kernel) hst (fun p e s m below meth c C hr hnm hex P => ?_)
  refine en_m (Nat.le_of_ble_eq_true rfl) (lv := [(0, .ref a0), (1, .int x1), (2, .int x2)]) rfl (fun ls hl => ?_)
  have C : CF p l s m _ meth c "SkirmishGridModel" cX9_storedBits 3 G (FA G S sz) := C
  exact tX9_storedBits_0 C hr hex Q QX S a0 x1 x2 p_a0 P hl (by omega) (by omega) hw
theorem cd_X9_storedBits : yX9_storedBits.cls = RX9 ∧ yX9_storedBits.cls ≠ "java/lang/invoke/MethodHandle" ∧ yX9_storedBits.cls ≠ "java/lang/invoke/VarHandle" ∧ (parseMethodDescriptor yX9_storedBits.desc).map (fun d => d.parameters.length) = some 2 := by decide +kernel
