theorem dX7_peek_45 : decode cX7_peek 45 = .ok (.laload, 1) := by decide +kernel
theorem dX7_peek_46 : decode cX7_peek 46 = .ok (.goto 6, 3) := by decide +kernel
theorem dX7_peek_49 : decode cX7_peek 49 = .ok (.ldc2_w 230, 3) := by decide +kernel
theorem dX7_peek_52 : decode cX7_peek 52 = .ok (.lreturn, 1) := by decide +kernel
theorem dX7_shift_0 : decode cX7_shift 0 = .ok (.iload_n 1, 1) := by decide +kernel
theorem dX7_shift_1 : decode cX7_shift 1 = .ok (.invokestatic 253, 3) := by decide +kernel
theorem dX7_shift_4 : decode cX7_shift 4 = .ok (.ifCond .eq 10, 3) := by decide +kernel
theorem dX7_shift_7 : decode cX7_shift 7 = .ok (.iload_n 3, 1) := by decide +kernel
theorem dX7_shift_8 : decode cX7_shift 8 = .ok (.invokestatic 253, 3) := by decide +kernel
theorem dX7_shift_11 : decode cX7_shift 11 = .ok (.ifCond .ne 5, 3) := by decide +kernel
theorem dX7_shift_14 : decode cX7_shift 14 = .ok (.iconst (-1), 1) := by decide +kernel
theorem dX7_shift_15 : decode cX7_shift 15 = .ok (.ireturn, 1) := by decide +kernel
theorem dX7_shift_16 : decode cX7_shift 16 = .ok (.aload_n 0, 1) := by decide +kernel
theorem dX7_shift_17 : decode cX7_shift 17 = .ok (.getfield 70, 3) := by decide +kernel
theorem dX7_shift_20 : decode cX7_shift 20 = .ok (.iload_n 1, 1) := by decide +kernel
theorem dX7_shift_21 : decode cX7_shift 21 = .ok (.iaload, 1) := by decide +kernel
theorem dX7_shift_22 : decode cX7_shift 22 = .ok (.iconst (-1), 1) := by decide +kernel
theorem dX7_shift_23 : decode cX7_shift 23 = .ok (.if_icmp .eq 13, 3) := by decide +kernel
theorem dX7_shift_26 : decode cX7_shift 26 = .ok (.aload_n 0, 1) := by decide +kernel
theorem dX7_shift_27 : decode cX7_shift 27 = .ok (.getfield 70, 3) := by decide +kernel
theorem dX7_shift_30 : decode cX7_shift 30 = .ok (.iload_n 3, 1) := by decide +kernel
theorem dX7_shift_31 : decode cX7_shift 31 = .ok (.iaload, 1) := by decide +kernel
theorem dX7_shift_32 : decode cX7_shift 32 = .ok (.iconst (-1), 1) := by decide +kernel
theorem dX7_shift_33 : decode cX7_shift 33 = .ok (.if_icmp .ne 6, 3) := by decide +kernel
theorem dX7_shift_36 : decode cX7_shift 36 = .ok (.bipush (-11), 2) := by decide +kernel
theorem dX7_shift_38 : decode cX7_shift 38 = .ok (.ireturn, 1) := by decide +kernel
theorem dX7_shift_39 : decode cX7_shift 39 = .ok (.aload_n 0, 1) := by decide +kernel
theorem dX7_shift_40 : decode cX7_shift 40 = .ok (.getfield 70, 3) := by decide +kernel
theorem dX7_shift_43 : decode cX7_shift 43 = .ok (.iload_n 1, 1) := by decide +kernel
theorem dX7_shift_44 : decode cX7_shift 44 = .ok (.iaload, 1) := by decide +kernel
theorem dX7_shift_45 : decode cX7_shift 45 = .ok (.aload_n 0, 1) := by decide +kernel
theorem dX7_shift_46 : decode cX7_shift 46 = .ok (.getfield 70, 3) := by decide +kernel
theorem dX7_shift_49 : decode cX7_shift 49 = .ok (.iload_n 3, 1) := by decide +kernel
theorem dX7_shift_50 : decode cX7_shift 50 = .ok (.iaload, 1) := by decide +kernel
theorem dX7_shift_51 : decode cX7_shift 51 = .ok (.if_icmp .eq 6, 3) := by decide +kernel
theorem dX7_shift_54 : decode cX7_shift 54 = .ok (.bipush (-12), 2) := by decide +kernel
theorem dX7_shift_56 : decode cX7_shift 56 = .ok (.ireturn, 1) := by decide +kernel
theorem dX7_shift_57 : decode cX7_shift 57 = .ok (.iload 5, 2) := by decide +kernel
theorem dX7_shift_59 : decode cX7_shift 59 = .ok (.ifCond .lt 39, 3) := by decide +kernel
theorem dX7_shift_62 : decode cX7_shift 62 = .ok (.iload_n 2, 1) := by decide +kernel
theorem dX7_shift_63 : decode cX7_shift 63 = .ok (.ifCond .lt 35, 3) := by decide +kernel
theorem dX7_shift_66 : decode cX7_shift 66 = .ok (.iload 4, 2) := by decide +kernel
theorem dX7_shift_68 : decode cX7_shift 68 = .ok (.ifCond .lt 30, 3) := by decide +kernel
theorem dX7_shift_71 : decode cX7_shift 71 = .ok (.iload_n 2, 1) := by decide +kernel
theorem dX7_shift_72 : decode cX7_shift 72 = .ok (.aload_n 0, 1) := by decide +kernel
theorem dX7_shift_73 : decode cX7_shift 73 = .ok (.getfield 73, 3) := by decide +kernel
theorem dX7_shift_76 : decode cX7_shift 76 = .ok (.iload_n 1, 1) := by decide +kernel
theorem dX7_shift_77 : decode cX7_shift 77 = .ok (.iaload, 1) := by decide +kernel
theorem dX7_shift_78 : decode cX7_shift 78 = .ok (.iload 5, 2) := by decide +kernel
theorem dX7_shift_80 : decode cX7_shift 80 = .ok (.isub, 1) := by decide +kernel
theorem dX7_shift_81 : decode cX7_shift 81 = .ok (.if_icmp .gt 17, 3) := by decide +kernel
theorem dX7_shift_84 : decode cX7_shift 84 = .ok (.iload 4, 2) := by decide +kernel
theorem dX7_shift_86 : decode cX7_shift 86 = .ok (.aload_n 0, 1) := by decide +kernel
theorem dX7_shift_87 : decode cX7_shift 87 = .ok (.getfield 73, 3) := by decide +kernel
theorem dX7_shift_90 : decode cX7_shift 90 = .ok (.iload_n 3, 1) := by decide +kernel
theorem dX7_shift_91 : decode cX7_shift 91 = .ok (.iaload, 1) := by decide +kernel
theorem dX7_shift_92 : decode cX7_shift 92 = .ok (.iload 5, 2) := by decide +kernel
theorem dX7_shift_94 : decode cX7_shift 94 = .ok (.isub, 1) := by decide +kernel
theorem dX7_shift_95 : decode cX7_shift 95 = .ok (.if_icmp .le 6, 3) := by decide +kernel
theorem dX7_shift_98 : decode cX7_shift 98 = .ok (.bipush (-13), 2) := by decide +kernel
theorem dX7_shift_100 : decode cX7_shift 100 = .ok (.ireturn, 1) := by decide +kernel
theorem dX7_shift_101 : decode cX7_shift 101 = .ok (.iload_n 1, 1) := by decide +kernel
theorem dX7_shift_102 : decode cX7_shift 102 = .ok (.iload_n 3, 1) := by decide +kernel
theorem dX7_shift_103 : decode cX7_shift 103 = .ok (.if_icmp .ne 13, 3) := by decide +kernel
theorem dX7_shift_106 : decode cX7_shift 106 = .ok (.iload_n 2, 1) := by decide +kernel
theorem dX7_shift_107 : decode cX7_shift 107 = .ok (.iload 4, 2) := by decide +kernel
theorem dX7_shift_109 : decode cX7_shift 109 = .ok (.if_icmp .ge 7, 3) := by decide +kernel
theorem dX7_shift_112 : decode cX7_shift 112 = .ok (.iconst 1, 1) := by decide +kernel
theorem dX7_shift_113 : decode cX7_shift 113 = .ok (.goto 4, 3) := by decide +kernel
theorem dX7_shift_116 : decode cX7_shift 116 = .ok (.iconst 0, 1) := by decide +kernel
theorem dX7_shift_117 : decode cX7_shift 117 = .ok (.istore 6, 2) := by decide +kernel
theorem dX7_shift_119 : decode cX7_shift 119 = .ok (.iconst 0, 1) := by decide +kernel
theorem dX7_shift_120 : decode cX7_shift 120 = .ok (.istore 7, 2) := by decide +kernel
theorem dX7_shift_122 : decode cX7_shift 122 = .ok (.iload 7, 2) := by decide +kernel
theorem dX7_shift_124 : decode cX7_shift 124 = .ok (.iload 5, 2) := by decide +kernel
theorem dX7_shift_126 : decode cX7_shift 126 = .ok (.if_icmp .ge 57, 3) := by decide +kernel
theorem dX7_shift_129 : decode cX7_shift 129 = .ok (.iload 6, 2) := by decide +kernel
theorem dX7_shift_131 : decode cX7_shift 131 = .ok (.ifCond .eq 13, 3) := by decide +kernel
theorem dX7_shift_134 : decode cX7_shift 134 = .ok (.iload 5, 2) := by decide +kernel
theorem dX7_shift_136 : decode cX7_shift 136 = .ok (.iconst 1, 1) := by decide +kernel
theorem dX7_shift_137 : decode cX7_shift 137 = .ok (.isub, 1) := by decide +kernel
theorem dX7_shift_138 : decode cX7_shift 138 = .ok (.iload 7, 2) := by decide +kernel
theorem dX7_shift_140 : decode cX7_shift 140 = .ok (.isub, 1) := by decide +kernel
theorem dX7_shift_141 : decode cX7_shift 141 = .ok (.goto 5, 3) := by decide +kernel
theorem dX7_shift_144 : decode cX7_shift 144 = .ok (.iload 7, 2) := by decide +kernel
theorem dX7_shift_146 : decode cX7_shift 146 = .ok (.istore 8, 2) := by decide +kernel
theorem dX7_shift_148 : decode cX7_shift 148 = .ok (.aload_n 0, 1) := by decide +kernel
theorem dX7_shift_149 : decode cX7_shift 149 = .ok (.getfield 76, 3) := by decide +kernel
theorem dX7_shift_152 : decode cX7_shift 152 = .ok (.bipush 60, 2) := by decide +kernel
theorem dX7_shift_154 : decode cX7_shift 154 = .ok (.iload_n 3, 1) := by decide +kernel
theorem dX7_shift_155 : decode cX7_shift 155 = .ok (.imul, 1) := by decide +kernel
theorem dX7_shift_156 : decode cX7_shift 156 = .ok (.iload 4, 2) := by decide +kernel
theorem dX7_shift_158 : decode cX7_shift 158 = .ok (.iadd, 1) := by decide +kernel
theorem dX7_shift_159 : decode cX7_shift 159 = .ok (.iload 8, 2) := by decide +kernel
theorem dX7_shift_161 : decode cX7_shift 161 = .ok (.iadd, 1) := by decide +kernel
theorem dX7_shift_162 : decode cX7_shift 162 = .ok (.aload_n 0, 1) := by decide +kernel
theorem dX7_shift_163 : decode cX7_shift 163 = .ok (.getfield 76, 3) := by decide +kernel
theorem dX7_shift_166 : decode cX7_shift 166 = .ok (.bipush 60, 2) := by decide +kernel
theorem dX7_shift_168 : decode cX7_shift 168 = .ok (.iload_n 1, 1) := by decide +kernel
theorem dX7_shift_169 : decode cX7_shift 169 = .ok (.imul, 1) := by decide +kernel
theorem dX7_shift_170 : decode cX7_shift 170 = .ok (.iload_n 2, 1) := by decide +kernel
theorem dX7_shift_171 : decode cX7_shift 171 = .ok (.iadd, 1) := by decide +kernel
theorem dX7_shift_172 : decode cX7_shift 172 = .ok (.iload 8, 2) := by decide +kernel
theorem dX7_shift_174 : decode cX7_shift 174 = .ok (.iadd, 1) := by decide +kernel
theorem dX7_shift_175 : decode cX7_shift 175 = .ok (.laload, 1) := by decide +kernel
theorem dX7_shift_176 : decode cX7_shift 176 = .ok (.lastore, 1) := by decide +kernel
theorem dX7_shift_177 : decode cX7_shift 177 = .ok (.iinc 7 1, 3) := by decide +kernel
theorem dX7_shift_180 : decode cX7_shift 180 = .ok (.goto (-58), 3) := by decide +kernel
theorem dX7_shift_183 : decode cX7_shift 183 = .ok (.iload 5, 2) := by decide +kernel
theorem dX7_shift_185 : decode cX7_shift 185 = .ok (.ireturn, 1) := by decide +kernel
theorem dJ6_bitCount_0f7a4_0 : decode cJ6_bitCount_0f7a4 0 = .ok (.iload_n 0, 1) := by decide +kernel
theorem dJ6_bitCount_0f7a4_1 : decode cJ6_bitCount_0f7a4 1 = .ok (.iload_n 0, 1) := by decide +kernel
theorem dJ6_bitCount_0f7a4_2 : decode cJ6_bitCount_0f7a4 2 = .ok (.iconst 1, 1) := by decide +kernel
theorem dJ6_bitCount_0f7a4_3 : decode cJ6_bitCount_0f7a4 3 = .ok (.iushr, 1) := by decide +kernel
theorem dJ6_bitCount_0f7a4_4 : decode cJ6_bitCount_0f7a4 4 = .ok (.ldc_w 265, 3) := by decide +kernel
theorem dJ6_bitCount_0f7a4_7 : decode cJ6_bitCount_0f7a4 7 = .ok (.iand, 1) := by decide +kernel
theorem dJ6_bitCount_0f7a4_8 : decode cJ6_bitCount_0f7a4 8 = .ok (.isub, 1) := by decide +kernel
theorem dJ6_bitCount_0f7a4_9 : decode cJ6_bitCount_0f7a4 9 = .ok (.istore_n 0, 1) := by decide +kernel
theorem dJ6_bitCount_0f7a4_10 : decode cJ6_bitCount_0f7a4 10 = .ok (.iload_n 0, 1) := by decide +kernel
theorem dJ6_bitCount_0f7a4_11 : decode cJ6_bitCount_0f7a4 11 = .ok (.ldc_w 266, 3) := by decide +kernel
theorem dJ6_bitCount_0f7a4_14 : decode cJ6_bitCount_0f7a4 14 = .ok (.iand, 1) := by decide +kernel
theorem dJ6_bitCount_0f7a4_15 : decode cJ6_bitCount_0f7a4 15 = .ok (.iload_n 0, 1) := by decide +kernel
theorem dJ6_bitCount_0f7a4_16 : decode cJ6_bitCount_0f7a4 16 = .ok (.iconst 2, 1) := by decide +kernel
theorem dJ6_bitCount_0f7a4_17 : decode cJ6_bitCount_0f7a4 17 = .ok (.iushr, 1) := by decide +kernel
theorem dJ6_bitCount_0f7a4_18 : decode cJ6_bitCount_0f7a4 18 = .ok (.ldc_w 266, 3) := by decide +kernel
theorem dJ6_bitCount_0f7a4_21 : decode cJ6_bitCount_0f7a4 21 = .ok (.iand, 1) := by decide +kernel
theorem dJ6_bitCount_0f7a4_22 : decode cJ6_bitCount_0f7a4 22 = .ok (.iadd, 1) := by decide +kernel
theorem dJ6_bitCount_0f7a4_23 : decode cJ6_bitCount_0f7a4 23 = .ok (.istore_n 0, 1) := by decide +kernel
theorem dJ6_bitCount_0f7a4_24 : decode cJ6_bitCount_0f7a4 24 = .ok (.iload_n 0, 1) := by decide +kernel
theorem dJ6_bitCount_0f7a4_25 : decode cJ6_bitCount_0f7a4 25 = .ok (.iload_n 0, 1) := by decide +kernel
theorem dJ6_bitCount_0f7a4_26 : decode cJ6_bitCount_0f7a4 26 = .ok (.iconst 4, 1) := by decide +kernel
theorem dJ6_bitCount_0f7a4_27 : decode cJ6_bitCount_0f7a4 27 = .ok (.iushr, 1) := by decide +kernel
theorem dJ6_bitCount_0f7a4_28 : decode cJ6_bitCount_0f7a4 28 = .ok (.iadd, 1) := by decide +kernel
theorem dJ6_bitCount_0f7a4_29 : decode cJ6_bitCount_0f7a4 29 = .ok (.ldc_w 267, 3) := by decide +kernel
theorem dJ6_bitCount_0f7a4_32 : decode cJ6_bitCount_0f7a4 32 = .ok (.iand, 1) := by decide +kernel
theorem dJ6_bitCount_0f7a4_33 : decode cJ6_bitCount_0f7a4 33 = .ok (.istore_n 0, 1) := by decide +kernel
theorem dJ6_bitCount_0f7a4_34 : decode cJ6_bitCount_0f7a4 34 = .ok (.iload_n 0, 1) := by decide +kernel
theorem dJ6_bitCount_0f7a4_35 : decode cJ6_bitCount_0f7a4 35 = .ok (.iload_n 0, 1) := by decide +kernel
theorem dJ6_bitCount_0f7a4_36 : decode cJ6_bitCount_0f7a4 36 = .ok (.bipush 8, 2) := by decide +kernel
theorem dJ6_bitCount_0f7a4_38 : decode cJ6_bitCount_0f7a4 38 = .ok (.iushr, 1) := by decide +kernel
theorem dJ6_bitCount_0f7a4_39 : decode cJ6_bitCount_0f7a4 39 = .ok (.iadd, 1) := by decide +kernel
theorem dJ6_bitCount_0f7a4_40 : decode cJ6_bitCount_0f7a4 40 = .ok (.istore_n 0, 1) := by decide +kernel
theorem dJ6_bitCount_0f7a4_41 : decode cJ6_bitCount_0f7a4 41 = .ok (.iload_n 0, 1) := by decide +kernel
theorem dJ6_bitCount_0f7a4_42 : decode cJ6_bitCount_0f7a4 42 = .ok (.iload_n 0, 1) := by decide +kernel
theorem dJ6_bitCount_0f7a4_43 : decode cJ6_bitCount_0f7a4 43 = .ok (.bipush 16, 2) := by decide +kernel
theorem dJ6_bitCount_0f7a4_45 : decode cJ6_bitCount_0f7a4 45 = .ok (.iushr, 1) := by decide +kernel
theorem dJ6_bitCount_0f7a4_46 : decode cJ6_bitCount_0f7a4 46 = .ok (.iadd, 1) := by decide +kernel
theorem dJ6_bitCount_0f7a4_47 : decode cJ6_bitCount_0f7a4 47 = .ok (.istore_n 0, 1) := by decide +kernel
theorem dJ6_bitCount_0f7a4_48 : decode cJ6_bitCount_0f7a4 48 = .ok (.iload_n 0, 1) := by decide +kernel
theorem dJ6_bitCount_0f7a4_49 : decode cJ6_bitCount_0f7a4 49 = .ok (.bipush 63, 2) := by decide +kernel
theorem dJ6_bitCount_0f7a4_51 : decode cJ6_bitCount_0f7a4 51 = .ok (.iand, 1) := by decide +kernel
theorem dJ6_bitCount_0f7a4_52 : decode cJ6_bitCount_0f7a4 52 = .ok (.ireturn, 1) := by decide +kernel
theorem dJ9_max_7cf53_0 : decode cJ9_max_7cf53 0 = .ok (.iload_n 0, 1) := by decide +kernel
theorem dJ9_max_7cf53_1 : decode cJ9_max_7cf53 1 = .ok (.iload_n 1, 1) := by decide +kernel
theorem dJ9_max_7cf53_2 : decode cJ9_max_7cf53 2 = .ok (.if_icmp .lt 7, 3) := by decide +kernel
theorem dJ9_max_7cf53_5 : decode cJ9_max_7cf53 5 = .ok (.iload_n 0, 1) := by decide +kernel
theorem dJ9_max_7cf53_6 : decode cJ9_max_7cf53 6 = .ok (.goto 4, 3) := by decide +kernel
theorem dJ9_max_7cf53_9 : decode cJ9_max_7cf53 9 = .ok (.iload_n 1, 1) := by decide +kernel
theorem dJ9_max_7cf53_10 : decode cJ9_max_7cf53 10 = .ok (.ireturn, 1) := by decide +kernel
theorem dJ9_min_7cf53_0 : decode cJ9_min_7cf53 0 = .ok (.iload_n 0, 1) := by decide +kernel
theorem dJ9_min_7cf53_1 : decode cJ9_min_7cf53 1 = .ok (.iload_n 1, 1) := by decide +kernel
theorem dJ9_min_7cf53_2 : decode cJ9_min_7cf53 2 = .ok (.if_icmp .gt 7, 3) := by decide +kernel
theorem dJ9_min_7cf53_5 : decode cJ9_min_7cf53 5 = .ok (.iload_n 0, 1) := by decide +kernel
theorem dJ9_min_7cf53_6 : decode cJ9_min_7cf53 6 = .ok (.goto 4, 3) := by decide +kernel
theorem dJ9_min_7cf53_9 : decode cJ9_min_7cf53 9 = .ok (.iload_n 1, 1) := by decide +kernel
theorem dJ9_min_7cf53_10 : decode cJ9_min_7cf53 10 = .ok (.ireturn, 1) := by decide +kernel
