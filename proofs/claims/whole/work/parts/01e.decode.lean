theorem dX6_addAmount_27 : decode cX6_addAmount 27 = .ok (.ifCond .lt 9, 3) := by decide +kernel
theorem dX6_addAmount_30 : decode cX6_addAmount 30 = .ok (.iload_n 3, 1) := by decide +kernel
theorem dX6_addAmount_31 : decode cX6_addAmount 31 = .ok (.bipush 99, 2) := by decide +kernel
theorem dX6_addAmount_33 : decode cX6_addAmount 33 = .ok (.if_icmp .le 6, 3) := by decide +kernel
theorem dX6_addAmount_36 : decode cX6_addAmount 36 = .ok (.bipush (-2), 2) := by decide +kernel
theorem dX6_addAmount_38 : decode cX6_addAmount 38 = .ok (.ireturn, 1) := by decide +kernel
theorem dX6_addAmount_39 : decode cX6_addAmount 39 = .ok (.aload_n 1, 1) := by decide +kernel
theorem dX6_addAmount_40 : decode cX6_addAmount 40 = .ok (.iload_n 2, 1) := by decide +kernel
theorem dX6_addAmount_41 : decode cX6_addAmount 41 = .ok (.iload_n 3, 1) := by decide +kernel
theorem dX6_addAmount_42 : decode cX6_addAmount 42 = .ok (.invokevirtual 207, 3) := by decide +kernel
theorem dX6_addAmount_45 : decode cX6_addAmount 45 = .ok (.ireturn, 1) := by decide +kernel
theorem dX6_planRefusal_0 : decode cX6_planRefusal 0 = .ok (.iload_n 1, 1) := by decide +kernel
theorem dX6_planRefusal_1 : decode cX6_planRefusal 1 = .ok (.tableswitch 86 0 3 #[31, 49, 49, 69], 31) := by decide +kernel
theorem dX6_planRefusal_32 : decode cX6_planRefusal 32 = .ok (.iload_n 2, 1) := by decide +kernel
theorem dX6_planRefusal_33 : decode cX6_planRefusal 33 = .ok (.ifCond .lt 10, 3) := by decide +kernel
theorem dX6_planRefusal_36 : decode cX6_planRefusal 36 = .ok (.iload_n 2, 1) := by decide +kernel
theorem dX6_planRefusal_37 : decode cX6_planRefusal 37 = .ok (.sipush 300, 3) := by decide +kernel
theorem dX6_planRefusal_40 : decode cX6_planRefusal 40 = .ok (.if_icmp .le 8, 3) := by decide +kernel
theorem dX6_planRefusal_43 : decode cX6_planRefusal 43 = .ok (.bipush (-2), 2) := by decide +kernel
theorem dX6_planRefusal_45 : decode cX6_planRefusal 45 = .ok (.goto 4, 3) := by decide +kernel
theorem dX6_planRefusal_48 : decode cX6_planRefusal 48 = .ok (.iconst 0, 1) := by decide +kernel
theorem dX6_planRefusal_49 : decode cX6_planRefusal 49 = .ok (.ireturn, 1) := by decide +kernel
theorem dX6_planRefusal_50 : decode cX6_planRefusal 50 = .ok (.aload_n 0, 1) := by decide +kernel
theorem dX6_planRefusal_51 : decode cX6_planRefusal 51 = .ok (.getfield 12, 3) := by decide +kernel
theorem dX6_planRefusal_54 : decode cX6_planRefusal 54 = .ok (.getfield 27, 3) := by decide +kernel
theorem dX6_planRefusal_57 : decode cX6_planRefusal 57 = .ok (.iload_n 2, 1) := by decide +kernel
theorem dX6_planRefusal_58 : decode cX6_planRefusal 58 = .ok (.invokevirtual 76, 3) := by decide +kernel
theorem dX6_planRefusal_61 : decode cX6_planRefusal 61 = .ok (.ifCond .eq 7, 3) := by decide +kernel
theorem dX6_planRefusal_64 : decode cX6_planRefusal 64 = .ok (.iconst 0, 1) := by decide +kernel
theorem dX6_planRefusal_65 : decode cX6_planRefusal 65 = .ok (.goto 4, 3) := by decide +kernel
theorem dX6_planRefusal_68 : decode cX6_planRefusal 68 = .ok (.iconst (-1), 1) := by decide +kernel
theorem dX6_planRefusal_69 : decode cX6_planRefusal 69 = .ok (.ireturn, 1) := by decide +kernel
theorem dX6_planRefusal_70 : decode cX6_planRefusal 70 = .ok (.iload_n 2, 1) := by decide +kernel
theorem dX6_planRefusal_71 : decode cX6_planRefusal 71 = .ok (.ifCond .lt 9, 3) := by decide +kernel
theorem dX6_planRefusal_74 : decode cX6_planRefusal 74 = .ok (.iload_n 2, 1) := by decide +kernel
theorem dX6_planRefusal_75 : decode cX6_planRefusal 75 = .ok (.bipush 20, 2) := by decide +kernel
theorem dX6_planRefusal_77 : decode cX6_planRefusal 77 = .ok (.if_icmp .le 8, 3) := by decide +kernel
theorem dX6_planRefusal_80 : decode cX6_planRefusal 80 = .ok (.bipush (-2), 2) := by decide +kernel
theorem dX6_planRefusal_82 : decode cX6_planRefusal 82 = .ok (.goto 4, 3) := by decide +kernel
theorem dX6_planRefusal_85 : decode cX6_planRefusal 85 = .ok (.iconst 0, 1) := by decide +kernel
theorem dX6_planRefusal_86 : decode cX6_planRefusal 86 = .ok (.ireturn, 1) := by decide +kernel
theorem dX6_planRefusal_87 : decode cX6_planRefusal 87 = .ok (.iconst (-1), 1) := by decide +kernel
theorem dX6_planRefusal_88 : decode cX6_planRefusal 88 = .ok (.ireturn, 1) := by decide +kernel
theorem dX6_fractionPart_0 : decode cX6_fractionPart 0 = .ok (.iload_n 1, 1) := by decide +kernel
theorem dX6_fractionPart_1 : decode cX6_fractionPart 1 = .ok (.ifCond .le 12, 3) := by decide +kernel
theorem dX6_fractionPart_4 : decode cX6_fractionPart 4 = .ok (.iload_n 2, 1) := by decide +kernel
theorem dX6_fractionPart_5 : decode cX6_fractionPart 5 = .ok (.ifCond .lt 8, 3) := by decide +kernel
theorem dX6_fractionPart_8 : decode cX6_fractionPart 8 = .ok (.iload_n 2, 1) := by decide +kernel
theorem dX6_fractionPart_9 : decode cX6_fractionPart 9 = .ok (.iconst 1, 1) := by decide +kernel
theorem dX6_fractionPart_10 : decode cX6_fractionPart 10 = .ok (.if_icmp .le 7, 3) := by decide +kernel
theorem dX6_fractionPart_13 : decode cX6_fractionPart 13 = .ok (.ldc2_w 173, 3) := by decide +kernel
theorem dX6_fractionPart_16 : decode cX6_fractionPart 16 = .ok (.lreturn, 1) := by decide +kernel
theorem dX6_fractionPart_17 : decode cX6_fractionPart 17 = .ok (.iload_n 0, 1) := by decide +kernel
theorem dX6_fractionPart_18 : decode cX6_fractionPart 18 = .ok (.iload_n 1, 1) := by decide +kernel
theorem dX6_fractionPart_19 : decode cX6_fractionPart 19 = .ok (.invokestatic 268, 3) := by decide +kernel
theorem dX6_fractionPart_22 : decode cX6_fractionPart 22 = .ok (.istore_n 3, 1) := by decide +kernel
theorem dX6_fractionPart_23 : decode cX6_fractionPart 23 = .ok (.iload_n 2, 1) := by decide +kernel
theorem dX6_fractionPart_24 : decode cX6_fractionPart 24 = .ok (.ifCond .ne 7, 3) := by decide +kernel
theorem dX6_fractionPart_27 : decode cX6_fractionPart 27 = .ok (.iload_n 0, 1) := by decide +kernel
theorem dX6_fractionPart_28 : decode cX6_fractionPart 28 = .ok (.goto 4, 3) := by decide +kernel
theorem dX6_fractionPart_31 : decode cX6_fractionPart 31 = .ok (.iload_n 1, 1) := by decide +kernel
theorem dX6_fractionPart_32 : decode cX6_fractionPart 32 = .ok (.istore 4, 2) := by decide +kernel
theorem dX6_fractionPart_34 : decode cX6_fractionPart 34 = .ok (.iload_n 3, 1) := by decide +kernel
theorem dX6_fractionPart_35 : decode cX6_fractionPart 35 = .ok (.ifCond .gt 9, 3) := by decide +kernel
theorem dX6_fractionPart_38 : decode cX6_fractionPart 38 = .ok (.ldc2_w 173, 3) := by decide +kernel
theorem dX6_fractionPart_41 : decode cX6_fractionPart 41 = .ok (.goto 8, 3) := by decide +kernel
theorem dX6_fractionPart_44 : decode cX6_fractionPart 44 = .ok (.iload 4, 2) := by decide +kernel
theorem dX6_fractionPart_46 : decode cX6_fractionPart 46 = .ok (.iload_n 3, 1) := by decide +kernel
theorem dX6_fractionPart_47 : decode cX6_fractionPart 47 = .ok (.idiv, 1) := by decide +kernel
theorem dX6_fractionPart_48 : decode cX6_fractionPart 48 = .ok (.i2l, 1) := by decide +kernel
theorem dX6_fractionPart_49 : decode cX6_fractionPart 49 = .ok (.lreturn, 1) := by decide +kernel
theorem dX6_commonDivisor_0 : decode cX6_commonDivisor 0 = .ok (.iload_n 0, 1) := by decide +kernel
theorem dX6_commonDivisor_1 : decode cX6_commonDivisor 1 = .ok (.istore_n 2, 1) := by decide +kernel
theorem dX6_commonDivisor_2 : decode cX6_commonDivisor 2 = .ok (.iload_n 1, 1) := by decide +kernel
theorem dX6_commonDivisor_3 : decode cX6_commonDivisor 3 = .ok (.istore_n 3, 1) := by decide +kernel
theorem dX6_commonDivisor_4 : decode cX6_commonDivisor 4 = .ok (.iconst 0, 1) := by decide +kernel
theorem dX6_commonDivisor_5 : decode cX6_commonDivisor 5 = .ok (.istore 4, 2) := by decide +kernel
theorem dX6_commonDivisor_7 : decode cX6_commonDivisor 7 = .ok (.iload 4, 2) := by decide +kernel
theorem dX6_commonDivisor_9 : decode cX6_commonDivisor 9 = .ok (.bipush 100, 2) := by decide +kernel
theorem dX6_commonDivisor_11 : decode cX6_commonDivisor 11 = .ok (.if_icmp .ge 23, 3) := by decide +kernel
theorem dX6_commonDivisor_14 : decode cX6_commonDivisor 14 = .ok (.iload_n 3, 1) := by decide +kernel
theorem dX6_commonDivisor_15 : decode cX6_commonDivisor 15 = .ok (.ifCond .eq 19, 3) := by decide +kernel
theorem dX6_commonDivisor_18 : decode cX6_commonDivisor 18 = .ok (.iload_n 2, 1) := by decide +kernel
theorem dX6_commonDivisor_19 : decode cX6_commonDivisor 19 = .ok (.iload_n 3, 1) := by decide +kernel
theorem dX6_commonDivisor_20 : decode cX6_commonDivisor 20 = .ok (.irem, 1) := by decide +kernel
theorem dX6_commonDivisor_21 : decode cX6_commonDivisor 21 = .ok (.istore 5, 2) := by decide +kernel
theorem dX6_commonDivisor_23 : decode cX6_commonDivisor 23 = .ok (.iload_n 3, 1) := by decide +kernel
theorem dX6_commonDivisor_24 : decode cX6_commonDivisor 24 = .ok (.istore_n 2, 1) := by decide +kernel
theorem dX6_commonDivisor_25 : decode cX6_commonDivisor 25 = .ok (.iload 5, 2) := by decide +kernel
theorem dX6_commonDivisor_27 : decode cX6_commonDivisor 27 = .ok (.istore_n 3, 1) := by decide +kernel
theorem dX6_commonDivisor_28 : decode cX6_commonDivisor 28 = .ok (.iinc 4 1, 3) := by decide +kernel
theorem dX6_commonDivisor_31 : decode cX6_commonDivisor 31 = .ok (.goto (-24), 3) := by decide +kernel
theorem dX6_commonDivisor_34 : decode cX6_commonDivisor 34 = .ok (.iload_n 2, 1) := by decide +kernel
theorem dX6_commonDivisor_35 : decode cX6_commonDivisor 35 = .ok (.ireturn, 1) := by decide +kernel
theorem dX7_in_0 : decode cX7_in 0 = .ok (.lload_n 0, 1) := by decide +kernel
theorem dX7_in_1 : decode cX7_in 1 = .ok (.lload_n 2, 1) := by decide +kernel
theorem dX7_in_2 : decode cX7_in 2 = .ok (.lcmp, 1) := by decide +kernel
theorem dX7_in_3 : decode cX7_in 3 = .ok (.ifCond .lt 14, 3) := by decide +kernel
theorem dX7_in_6 : decode cX7_in 6 = .ok (.lload_n 0, 1) := by decide +kernel
theorem dX7_in_7 : decode cX7_in 7 = .ok (.lload 4, 2) := by decide +kernel
theorem dX7_in_9 : decode cX7_in 9 = .ok (.lcmp, 1) := by decide +kernel
theorem dX7_in_10 : decode cX7_in 10 = .ok (.ifCond .gt 7, 3) := by decide +kernel
theorem dX7_in_13 : decode cX7_in 13 = .ok (.iconst 1, 1) := by decide +kernel
theorem dX7_in_14 : decode cX7_in 14 = .ok (.goto 4, 3) := by decide +kernel
theorem dX7_in_17 : decode cX7_in 17 = .ok (.iconst 0, 1) := by decide +kernel
theorem dX7_in_18 : decode cX7_in 18 = .ok (.ireturn, 1) := by decide +kernel
theorem dX7_init_0 : decode cX7_init 0 = .ok (.aload_n 0, 1) := by decide +kernel
theorem dX7_init_1 : decode cX7_init 1 = .ok (.invokespecial 9, 3) := by decide +kernel
theorem dX7_init_4 : decode cX7_init 4 = .ok (.aload_n 0, 1) := by decide +kernel
theorem dX7_init_5 : decode cX7_init 5 = .ok (.bipush 85, 2) := by decide +kernel
theorem dX7_init_7 : decode cX7_init 7 = .ok (.newarray .int, 2) := by decide +kernel
theorem dX7_init_9 : decode cX7_init 9 = .ok (.putfield 15, 3) := by decide +kernel
theorem dX7_init_12 : decode cX7_init 12 = .ok (.aload_n 0, 1) := by decide +kernel
theorem dX7_init_13 : decode cX7_init 13 = .ok (.bipush 85, 2) := by decide +kernel
theorem dX7_init_15 : decode cX7_init 15 = .ok (.newarray .int, 2) := by decide +kernel
theorem dX7_init_17 : decode cX7_init 17 = .ok (.putfield 19, 3) := by decide +kernel
theorem dX7_init_20 : decode cX7_init 20 = .ok (.aload_n 0, 1) := by decide +kernel
theorem dX7_init_21 : decode cX7_init 21 = .ok (.bipush 85, 2) := by decide +kernel
theorem dX7_init_23 : decode cX7_init 23 = .ok (.newarray .int, 2) := by decide +kernel
theorem dX7_init_25 : decode cX7_init 25 = .ok (.putfield 22, 3) := by decide +kernel
theorem dX7_init_28 : decode cX7_init 28 = .ok (.aload_n 0, 1) := by decide +kernel
theorem dX7_init_29 : decode cX7_init 29 = .ok (.bipush 6, 2) := by decide +kernel
theorem dX7_init_31 : decode cX7_init 31 = .ok (.newarray .int, 2) := by decide +kernel
theorem dX7_init_33 : decode cX7_init 33 = .ok (.putfield 25, 3) := by decide +kernel
theorem dX7_init_36 : decode cX7_init 36 = .ok (.aload_n 0, 1) := by decide +kernel
theorem dX7_init_37 : decode cX7_init 37 = .ok (.bipush 6, 2) := by decide +kernel
theorem dX7_init_39 : decode cX7_init 39 = .ok (.newarray .int, 2) := by decide +kernel
theorem dX7_init_41 : decode cX7_init 41 = .ok (.putfield 28, 3) := by decide +kernel
theorem dX7_init_44 : decode cX7_init 44 = .ok (.aload_n 0, 1) := by decide +kernel
theorem dX7_init_45 : decode cX7_init 45 = .ok (.bipush 6, 2) := by decide +kernel
theorem dX7_init_47 : decode cX7_init 47 = .ok (.newarray .int, 2) := by decide +kernel
theorem dX7_init_49 : decode cX7_init 49 = .ok (.putfield 31, 3) := by decide +kernel
theorem dX7_init_52 : decode cX7_init 52 = .ok (.aload_n 0, 1) := by decide +kernel
theorem dX7_init_53 : decode cX7_init 53 = .ok (.bipush 6, 2) := by decide +kernel
theorem dX7_init_55 : decode cX7_init 55 = .ok (.newarray .int, 2) := by decide +kernel
theorem dX7_init_57 : decode cX7_init 57 = .ok (.putfield 34, 3) := by decide +kernel
theorem dX7_init_60 : decode cX7_init 60 = .ok (.aload_n 0, 1) := by decide +kernel
theorem dX7_init_61 : decode cX7_init 61 = .ok (.bipush 6, 2) := by decide +kernel
theorem dX7_init_63 : decode cX7_init 63 = .ok (.newarray .int, 2) := by decide +kernel
theorem dX7_init_65 : decode cX7_init 65 = .ok (.putfield 37, 3) := by decide +kernel
theorem dX7_init_68 : decode cX7_init 68 = .ok (.aload_n 0, 1) := by decide +kernel
theorem dX7_init_69 : decode cX7_init 69 = .ok (.bipush 6, 2) := by decide +kernel
theorem dX7_init_71 : decode cX7_init 71 = .ok (.newarray .int, 2) := by decide +kernel
theorem dX7_init_73 : decode cX7_init 73 = .ok (.putfield 40, 3) := by decide +kernel
theorem dX7_init_76 : decode cX7_init 76 = .ok (.aload_n 0, 1) := by decide +kernel
theorem dX7_init_77 : decode cX7_init 77 = .ok (.bipush 6, 2) := by decide +kernel
theorem dX7_init_79 : decode cX7_init 79 = .ok (.newarray .int, 2) := by decide +kernel
theorem dX7_init_81 : decode cX7_init 81 = .ok (.putfield 43, 3) := by decide +kernel
theorem dX7_init_84 : decode cX7_init 84 = .ok (.aload_n 0, 1) := by decide +kernel
theorem dX7_init_85 : decode cX7_init 85 = .ok (.bipush 6, 2) := by decide +kernel
theorem dX7_init_87 : decode cX7_init 87 = .ok (.newarray .int, 2) := by decide +kernel
theorem dX7_init_89 : decode cX7_init 89 = .ok (.putfield 46, 3) := by decide +kernel
theorem dX7_init_92 : decode cX7_init 92 = .ok (.aload_n 0, 1) := by decide +kernel
theorem dX7_init_93 : decode cX7_init 93 = .ok (.bipush 100, 2) := by decide +kernel
theorem dX7_init_95 : decode cX7_init 95 = .ok (.newarray .int, 2) := by decide +kernel
theorem dX7_init_97 : decode cX7_init 97 = .ok (.putfield 49, 3) := by decide +kernel
theorem dX7_init_100 : decode cX7_init 100 = .ok (.aload_n 0, 1) := by decide +kernel
theorem dX7_init_101 : decode cX7_init 101 = .ok (.bipush 12, 2) := by decide +kernel
theorem dX7_init_103 : decode cX7_init 103 = .ok (.newarray .int, 2) := by decide +kernel
theorem dX7_init_105 : decode cX7_init 105 = .ok (.putfield 52, 3) := by decide +kernel
theorem dX7_init_108 : decode cX7_init 108 = .ok (.aload_n 0, 1) := by decide +kernel
theorem dX7_init_109 : decode cX7_init 109 = .ok (.bipush 12, 2) := by decide +kernel
theorem dX7_init_111 : decode cX7_init 111 = .ok (.newarray .int, 2) := by decide +kernel
theorem dX7_init_113 : decode cX7_init 113 = .ok (.putfield 55, 3) := by decide +kernel
theorem dX7_init_116 : decode cX7_init 116 = .ok (.aload_n 0, 1) := by decide +kernel
theorem dX7_init_117 : decode cX7_init 117 = .ok (.bipush 12, 2) := by decide +kernel
theorem dX7_init_119 : decode cX7_init 119 = .ok (.newarray .int, 2) := by decide +kernel
theorem dX7_init_121 : decode cX7_init 121 = .ok (.putfield 58, 3) := by decide +kernel
theorem dX7_init_124 : decode cX7_init 124 = .ok (.aload_n 0, 1) := by decide +kernel
theorem dX7_init_125 : decode cX7_init 125 = .ok (.bipush 12, 2) := by decide +kernel
theorem dX7_init_127 : decode cX7_init 127 = .ok (.newarray .int, 2) := by decide +kernel
theorem dX7_init_129 : decode cX7_init 129 = .ok (.putfield 61, 3) := by decide +kernel
theorem dX7_init_132 : decode cX7_init 132 = .ok (.aload_n 0, 1) := by decide +kernel
theorem dX7_init_133 : decode cX7_init 133 = .ok (.iconst 3, 1) := by decide +kernel
theorem dX7_init_134 : decode cX7_init 134 = .ok (.newarray .int, 2) := by decide +kernel
theorem dX7_init_136 : decode cX7_init 136 = .ok (.putfield 64, 3) := by decide +kernel
theorem dX7_init_139 : decode cX7_init 139 = .ok (.aload_n 0, 1) := by decide +kernel
theorem dX7_init_140 : decode cX7_init 140 = .ok (.bipush 6, 2) := by decide +kernel
theorem dX7_init_142 : decode cX7_init 142 = .ok (.newarray .int, 2) := by decide +kernel
theorem dX7_init_144 : decode cX7_init 144 = .ok (.putfield 67, 3) := by decide +kernel
theorem dX7_init_147 : decode cX7_init 147 = .ok (.aload_n 0, 1) := by decide +kernel
theorem dX7_init_148 : decode cX7_init 148 = .ok (.bipush 6, 2) := by decide +kernel
theorem dX7_init_150 : decode cX7_init 150 = .ok (.newarray .int, 2) := by decide +kernel
theorem dX7_init_152 : decode cX7_init 152 = .ok (.dup, 1) := by decide +kernel
theorem dX7_init_153 : decode cX7_init 153 = .ok (.iconst 0, 1) := by decide +kernel
theorem dX7_init_154 : decode cX7_init 154 = .ok (.iconst (-1), 1) := by decide +kernel
theorem dX7_init_155 : decode cX7_init 155 = .ok (.iastore, 1) := by decide +kernel
theorem dX7_init_156 : decode cX7_init 156 = .ok (.dup, 1) := by decide +kernel
theorem dX7_init_157 : decode cX7_init 157 = .ok (.iconst 1, 1) := by decide +kernel
theorem dX7_init_158 : decode cX7_init 158 = .ok (.iconst (-1), 1) := by decide +kernel
theorem dX7_init_159 : decode cX7_init 159 = .ok (.iastore, 1) := by decide +kernel
theorem dX7_init_160 : decode cX7_init 160 = .ok (.dup, 1) := by decide +kernel
theorem dX7_init_161 : decode cX7_init 161 = .ok (.iconst 2, 1) := by decide +kernel
theorem dX7_init_162 : decode cX7_init 162 = .ok (.iconst (-1), 1) := by decide +kernel
theorem dX7_init_163 : decode cX7_init 163 = .ok (.iastore, 1) := by decide +kernel
theorem dX7_init_164 : decode cX7_init 164 = .ok (.dup, 1) := by decide +kernel
theorem dX7_init_165 : decode cX7_init 165 = .ok (.iconst 3, 1) := by decide +kernel
theorem dX7_init_166 : decode cX7_init 166 = .ok (.iconst (-1), 1) := by decide +kernel
theorem dX7_init_167 : decode cX7_init 167 = .ok (.iastore, 1) := by decide +kernel
theorem dX7_init_168 : decode cX7_init 168 = .ok (.dup, 1) := by decide +kernel
theorem dX7_init_169 : decode cX7_init 169 = .ok (.iconst 4, 1) := by decide +kernel
theorem dX7_init_170 : decode cX7_init 170 = .ok (.iconst (-1), 1) := by decide +kernel
theorem dX7_init_171 : decode cX7_init 171 = .ok (.iastore, 1) := by decide +kernel
theorem dX7_init_172 : decode cX7_init 172 = .ok (.dup, 1) := by decide +kernel
theorem dX7_init_173 : decode cX7_init 173 = .ok (.iconst 5, 1) := by decide +kernel
theorem dX7_init_174 : decode cX7_init 174 = .ok (.iconst (-1), 1) := by decide +kernel
theorem dX7_init_175 : decode cX7_init 175 = .ok (.iastore, 1) := by decide +kernel
theorem dX7_init_176 : decode cX7_init 176 = .ok (.putfield 70, 3) := by decide +kernel
theorem dX7_init_179 : decode cX7_init 179 = .ok (.aload_n 0, 1) := by decide +kernel
theorem dX7_init_180 : decode cX7_init 180 = .ok (.bipush 6, 2) := by decide +kernel
theorem dX7_init_182 : decode cX7_init 182 = .ok (.newarray .int, 2) := by decide +kernel
theorem dX7_init_184 : decode cX7_init 184 = .ok (.putfield 73, 3) := by decide +kernel
theorem dX7_init_187 : decode cX7_init 187 = .ok (.aload_n 0, 1) := by decide +kernel
theorem dX7_init_188 : decode cX7_init 188 = .ok (.sipush 360, 3) := by decide +kernel
theorem dX7_init_191 : decode cX7_init 191 = .ok (.newarray .long, 2) := by decide +kernel
theorem dX7_init_193 : decode cX7_init 193 = .ok (.putfield 76, 3) := by decide +kernel
theorem dX7_init_196 : decode cX7_init 196 = .ok (.return_, 1) := by decide +kernel
theorem dX7_copies_0 : decode cX7_copies 0 = .ok (.iconst 0, 1) := by decide +kernel
theorem dX7_copies_1 : decode cX7_copies 1 = .ok (.istore_n 2, 1) := by decide +kernel
theorem dX7_copies_2 : decode cX7_copies 2 = .ok (.iload_n 2, 1) := by decide +kernel
theorem dX7_copies_3 : decode cX7_copies 3 = .ok (.bipush 85, 2) := by decide +kernel
theorem dX7_copies_5 : decode cX7_copies 5 = .ok (.if_icmp .ge 15, 3) := by decide +kernel
theorem dX7_copies_8 : decode cX7_copies 8 = .ok (.aload_n 1, 1) := by decide +kernel
theorem dX7_copies_9 : decode cX7_copies 9 = .ok (.iload_n 2, 1) := by decide +kernel
theorem dX7_copies_10 : decode cX7_copies 10 = .ok (.aload_n 0, 1) := by decide +kernel
theorem dX7_copies_11 : decode cX7_copies 11 = .ok (.iload_n 2, 1) := by decide +kernel
theorem dX7_copies_12 : decode cX7_copies 12 = .ok (.iaload, 1) := by decide +kernel
theorem dX7_copies_13 : decode cX7_copies 13 = .ok (.iastore, 1) := by decide +kernel
theorem dX7_copies_14 : decode cX7_copies 14 = .ok (.iinc 2 1, 3) := by decide +kernel
theorem dX7_copies_17 : decode cX7_copies 17 = .ok (.goto (-15), 3) := by decide +kernel
theorem dX7_copies_20 : decode cX7_copies 20 = .ok (.return_, 1) := by decide +kernel
theorem dX7_isOne_0 : decode cX7_isOne 0 = .ok (.iload_n 1, 1) := by decide +kernel
theorem dX7_isOne_1 : decode cX7_isOne 1 = .ok (.i2l, 1) := by decide +kernel
theorem dX7_isOne_2 : decode cX7_isOne 2 = .ok (.lconst 0, 1) := by decide +kernel
theorem dX7_isOne_3 : decode cX7_isOne 3 = .ok (.aload_n 0, 1) := by decide +kernel
theorem dX7_isOne_4 : decode cX7_isOne 4 = .ok (.getfield 15, 3) := by decide +kernel
theorem dX7_isOne_7 : decode cX7_isOne 7 = .ok (.iconst 0, 1) := by decide +kernel
theorem dX7_isOne_8 : decode cX7_isOne 8 = .ok (.iaload, 1) := by decide +kernel
theorem dX7_isOne_9 : decode cX7_isOne 9 = .ok (.iconst 1, 1) := by decide +kernel
theorem dX7_isOne_10 : decode cX7_isOne 10 = .ok (.isub, 1) := by decide +kernel
theorem dX7_isOne_11 : decode cX7_isOne 11 = .ok (.i2l, 1) := by decide +kernel
theorem dX7_isOne_12 : decode cX7_isOne 12 = .ok (.invokestatic 80, 3) := by decide +kernel
theorem dX7_isOne_15 : decode cX7_isOne 15 = .ok (.ireturn, 1) := by decide +kernel
theorem dX7_bits_0 : decode cX7_bits 0 = .ok (.iconst 0, 1) := by decide +kernel
theorem dX7_bits_1 : decode cX7_bits 1 = .ok (.istore_n 1, 1) := by decide +kernel
theorem dX7_bits_2 : decode cX7_bits 2 = .ok (.iload_n 0, 1) := by decide +kernel
theorem dX7_bits_3 : decode cX7_bits 3 = .ok (.istore_n 2, 1) := by decide +kernel
theorem dX7_bits_4 : decode cX7_bits 4 = .ok (.iload_n 2, 1) := by decide +kernel
theorem dX7_bits_5 : decode cX7_bits 5 = .ok (.ifCond .eq 15, 3) := by decide +kernel
theorem dX7_bits_8 : decode cX7_bits 8 = .ok (.iinc 1 1, 3) := by decide +kernel
theorem dX7_bits_11 : decode cX7_bits 11 = .ok (.iload_n 2, 1) := by decide +kernel
theorem dX7_bits_12 : decode cX7_bits 12 = .ok (.iload_n 2, 1) := by decide +kernel
theorem dX7_bits_13 : decode cX7_bits 13 = .ok (.iconst 1, 1) := by decide +kernel
theorem dX7_bits_14 : decode cX7_bits 14 = .ok (.isub, 1) := by decide +kernel
theorem dX7_bits_15 : decode cX7_bits 15 = .ok (.iand, 1) := by decide +kernel
theorem dX7_bits_16 : decode cX7_bits 16 = .ok (.istore_n 2, 1) := by decide +kernel
theorem dX7_bits_17 : decode cX7_bits 17 = .ok (.goto (-13), 3) := by decide +kernel
theorem dX7_bits_20 : decode cX7_bits 20 = .ok (.iload_n 1, 1) := by decide +kernel
theorem dX7_bits_21 : decode cX7_bits 21 = .ok (.ireturn, 1) := by decide +kernel
theorem dX7_has_0 : decode cX7_has 0 = .ok (.iload_n 0, 1) := by decide +kernel
theorem dX7_has_1 : decode cX7_has 1 = .ok (.iload_n 1, 1) := by decide +kernel
theorem dX7_has_2 : decode cX7_has 2 = .ok (.ishr, 1) := by decide +kernel
theorem dX7_has_3 : decode cX7_has 3 = .ok (.iconst 1, 1) := by decide +kernel
theorem dX7_has_4 : decode cX7_has 4 = .ok (.iand, 1) := by decide +kernel
theorem dX7_has_5 : decode cX7_has 5 = .ok (.iconst 1, 1) := by decide +kernel
theorem dX7_has_6 : decode cX7_has 6 = .ok (.if_icmp .ne 7, 3) := by decide +kernel
theorem dX7_has_9 : decode cX7_has 9 = .ok (.iconst 1, 1) := by decide +kernel
theorem dX7_has_10 : decode cX7_has 10 = .ok (.goto 4, 3) := by decide +kernel
theorem dX7_has_13 : decode cX7_has 13 = .ok (.iconst 0, 1) := by decide +kernel
theorem dX7_has_14 : decode cX7_has 14 = .ok (.ireturn, 1) := by decide +kernel
theorem dX7_contract_0 : decode cX7_contract 0 = .ok (.iload_n 1, 1) := by decide +kernel
theorem dX7_contract_1 : decode cX7_contract 1 = .ok (.i2l, 1) := by decide +kernel
theorem dX7_contract_2 : decode cX7_contract 2 = .ok (.lconst 0, 1) := by decide +kernel
theorem dX7_contract_3 : decode cX7_contract 3 = .ok (.ldc2_w 84, 3) := by decide +kernel
theorem dX7_contract_6 : decode cX7_contract 6 = .ok (.invokestatic 80, 3) := by decide +kernel
theorem dX7_contract_9 : decode cX7_contract 9 = .ok (.ifCond .eq 27, 3) := by decide +kernel
theorem dX7_contract_12 : decode cX7_contract 12 = .ok (.iload_n 2, 1) := by decide +kernel
theorem dX7_contract_13 : decode cX7_contract 13 = .ok (.i2l, 1) := by decide +kernel
theorem dX7_contract_14 : decode cX7_contract 14 = .ok (.lconst 0, 1) := by decide +kernel
theorem dX7_contract_15 : decode cX7_contract 15 = .ok (.ldc2_w 86, 3) := by decide +kernel
theorem dX7_contract_18 : decode cX7_contract 18 = .ok (.invokestatic 80, 3) := by decide +kernel
theorem dX7_contract_21 : decode cX7_contract 21 = .ok (.ifCond .eq 15, 3) := by decide +kernel
theorem dX7_contract_24 : decode cX7_contract 24 = .ok (.iload_n 3, 1) := by decide +kernel
theorem dX7_contract_25 : decode cX7_contract 25 = .ok (.i2l, 1) := by decide +kernel
theorem dX7_contract_26 : decode cX7_contract 26 = .ok (.lconst 0, 1) := by decide +kernel
theorem dX7_contract_27 : decode cX7_contract 27 = .ok (.ldc2_w 88, 3) := by decide +kernel
theorem dX7_contract_30 : decode cX7_contract 30 = .ok (.invokestatic 80, 3) := by decide +kernel
theorem dX7_contract_33 : decode cX7_contract 33 = .ok (.ifCond .ne 6, 3) := by decide +kernel
theorem dX7_contract_36 : decode cX7_contract 36 = .ok (.bipush (-2), 2) := by decide +kernel
theorem dX7_contract_38 : decode cX7_contract 38 = .ok (.ireturn, 1) := by decide +kernel
theorem dX7_contract_39 : decode cX7_contract 39 = .ok (.aload_n 0, 1) := by decide +kernel
theorem dX7_contract_40 : decode cX7_contract 40 = .ok (.getfield 15, 3) := by decide +kernel
theorem dX7_contract_43 : decode cX7_contract 43 = .ok (.iconst 0, 1) := by decide +kernel
theorem dX7_contract_44 : decode cX7_contract 44 = .ok (.iaload, 1) := by decide +kernel
theorem dX7_contract_45 : decode cX7_contract 45 = .ok (.bipush 6, 2) := by decide +kernel
theorem dX7_contract_47 : decode cX7_contract 47 = .ok (.if_icmp .ne 6, 3) := by decide +kernel
theorem dX7_contract_50 : decode cX7_contract 50 = .ok (.bipush (-4), 2) := by decide +kernel
theorem dX7_contract_52 : decode cX7_contract 52 = .ok (.ireturn, 1) := by decide +kernel
theorem dX7_contract_53 : decode cX7_contract 53 = .ok (.aload_n 0, 1) := by decide +kernel
theorem dX7_contract_54 : decode cX7_contract 54 = .ok (.getfield 15, 3) := by decide +kernel
theorem dX7_contract_57 : decode cX7_contract 57 = .ok (.iconst 0, 1) := by decide +kernel
theorem dX7_contract_58 : decode cX7_contract 58 = .ok (.iaload, 1) := by decide +kernel
theorem dX7_contract_59 : decode cX7_contract 59 = .ok (.istore 4, 2) := by decide +kernel
theorem dX7_contract_61 : decode cX7_contract 61 = .ok (.aload_n 0, 1) := by decide +kernel
theorem dX7_contract_62 : decode cX7_contract 62 = .ok (.getfield 15, 3) := by decide +kernel
theorem dX7_contract_65 : decode cX7_contract 65 = .ok (.iconst 5, 1) := by decide +kernel
theorem dX7_contract_66 : decode cX7_contract 66 = .ok (.iload 4, 2) := by decide +kernel
theorem dX7_contract_68 : decode cX7_contract 68 = .ok (.iadd, 1) := by decide +kernel
theorem dX7_contract_69 : decode cX7_contract 69 = .ok (.iload_n 1, 1) := by decide +kernel
theorem dX7_contract_70 : decode cX7_contract 70 = .ok (.iastore, 1) := by decide +kernel
theorem dX7_contract_71 : decode cX7_contract 71 = .ok (.aload_n 0, 1) := by decide +kernel
theorem dX7_contract_72 : decode cX7_contract 72 = .ok (.getfield 15, 3) := by decide +kernel
theorem dX7_contract_75 : decode cX7_contract 75 = .ok (.bipush 11, 2) := by decide +kernel
theorem dX7_contract_77 : decode cX7_contract 77 = .ok (.iload 4, 2) := by decide +kernel
theorem dX7_contract_79 : decode cX7_contract 79 = .ok (.iadd, 1) := by decide +kernel
theorem dX7_contract_80 : decode cX7_contract 80 = .ok (.iload_n 2, 1) := by decide +kernel
theorem dX7_contract_81 : decode cX7_contract 81 = .ok (.iastore, 1) := by decide +kernel
theorem dX7_contract_82 : decode cX7_contract 82 = .ok (.aload_n 0, 1) := by decide +kernel
theorem dX7_contract_83 : decode cX7_contract 83 = .ok (.getfield 15, 3) := by decide +kernel
theorem dX7_contract_86 : decode cX7_contract 86 = .ok (.bipush 17, 2) := by decide +kernel
theorem dX7_contract_88 : decode cX7_contract 88 = .ok (.iload 4, 2) := by decide +kernel
theorem dX7_contract_90 : decode cX7_contract 90 = .ok (.iadd, 1) := by decide +kernel
theorem dX7_contract_91 : decode cX7_contract 91 = .ok (.iload_n 3, 1) := by decide +kernel
theorem dX7_contract_92 : decode cX7_contract 92 = .ok (.iastore, 1) := by decide +kernel
theorem dX7_contract_93 : decode cX7_contract 93 = .ok (.aload_n 0, 1) := by decide +kernel
theorem dX7_contract_94 : decode cX7_contract 94 = .ok (.getfield 15, 3) := by decide +kernel
theorem dX7_contract_97 : decode cX7_contract 97 = .ok (.bipush 23, 2) := by decide +kernel
theorem dX7_contract_99 : decode cX7_contract 99 = .ok (.iload 4, 2) := by decide +kernel
theorem dX7_contract_101 : decode cX7_contract 101 = .ok (.iadd, 1) := by decide +kernel
theorem dX7_contract_102 : decode cX7_contract 102 = .ok (.bipush 100, 2) := by decide +kernel
theorem dX7_contract_104 : decode cX7_contract 104 = .ok (.iastore, 1) := by decide +kernel
theorem dX7_contract_105 : decode cX7_contract 105 = .ok (.aload_n 0, 1) := by decide +kernel
theorem dX7_contract_106 : decode cX7_contract 106 = .ok (.getfield 15, 3) := by decide +kernel
theorem dX7_contract_109 : decode cX7_contract 109 = .ok (.bipush 29, 2) := by decide +kernel
theorem dX7_contract_111 : decode cX7_contract 111 = .ok (.iload 4, 2) := by decide +kernel
theorem dX7_contract_113 : decode cX7_contract 113 = .ok (.iadd, 1) := by decide +kernel
theorem dX7_contract_114 : decode cX7_contract 114 = .ok (.iconst 0, 1) := by decide +kernel
theorem dX7_contract_115 : decode cX7_contract 115 = .ok (.iastore, 1) := by decide +kernel
theorem dX7_contract_116 : decode cX7_contract 116 = .ok (.aload_n 0, 1) := by decide +kernel
theorem dX7_contract_117 : decode cX7_contract 117 = .ok (.getfield 15, 3) := by decide +kernel
theorem dX7_contract_120 : decode cX7_contract 120 = .ok (.iconst 0, 1) := by decide +kernel
theorem dX7_contract_121 : decode cX7_contract 121 = .ok (.dup2, 1) := by decide +kernel
theorem dX7_contract_122 : decode cX7_contract 122 = .ok (.iaload, 1) := by decide +kernel
theorem dX7_contract_123 : decode cX7_contract 123 = .ok (.iconst 1, 1) := by decide +kernel
theorem dX7_contract_124 : decode cX7_contract 124 = .ok (.iadd, 1) := by decide +kernel
theorem dX7_contract_125 : decode cX7_contract 125 = .ok (.iastore, 1) := by decide +kernel
theorem dX7_contract_126 : decode cX7_contract 126 = .ok (.iload 4, 2) := by decide +kernel
theorem dX7_contract_128 : decode cX7_contract 128 = .ok (.ireturn, 1) := by decide +kernel
theorem dX7_may_0 : decode cX7_may 0 = .ok (.iload_n 0, 1) := by decide +kernel
theorem dX7_may_1 : decode cX7_may 1 = .ok (.ifCond .ne 13, 3) := by decide +kernel
theorem dX7_may_4 : decode cX7_may 4 = .ok (.iload_n 1, 1) := by decide +kernel
theorem dX7_may_5 : decode cX7_may 5 = .ok (.i2l, 1) := by decide +kernel
theorem dX7_may_6 : decode cX7_may 6 = .ok (.lconst 0, 1) := by decide +kernel
theorem dX7_may_7 : decode cX7_may 7 = .ok (.ldc2_w 84, 3) := by decide +kernel
theorem dX7_may_10 : decode cX7_may 10 = .ok (.invokestatic 80, 3) := by decide +kernel
theorem dX7_may_13 : decode cX7_may 13 = .ok (.ireturn, 1) := by decide +kernel
theorem dX7_may_14 : decode cX7_may 14 = .ok (.iload_n 0, 1) := by decide +kernel
theorem dX7_may_15 : decode cX7_may 15 = .ok (.iconst 1, 1) := by decide +kernel
theorem dX7_may_16 : decode cX7_may 16 = .ok (.if_icmp .ne 13, 3) := by decide +kernel
theorem dX7_may_19 : decode cX7_may 19 = .ok (.iload_n 1, 1) := by decide +kernel
theorem dX7_may_20 : decode cX7_may 20 = .ok (.i2l, 1) := by decide +kernel
theorem dX7_may_21 : decode cX7_may 21 = .ok (.lconst 0, 1) := by decide +kernel
theorem dX7_may_22 : decode cX7_may 22 = .ok (.ldc2_w 86, 3) := by decide +kernel
theorem dX7_may_25 : decode cX7_may 25 = .ok (.invokestatic 80, 3) := by decide +kernel
theorem dX7_may_28 : decode cX7_may 28 = .ok (.ireturn, 1) := by decide +kernel
theorem dX7_may_29 : decode cX7_may 29 = .ok (.iload_n 0, 1) := by decide +kernel
theorem dX7_may_30 : decode cX7_may 30 = .ok (.iconst 2, 1) := by decide +kernel
theorem dX7_may_31 : decode cX7_may 31 = .ok (.if_icmp .ne 15, 3) := by decide +kernel
theorem dX7_may_34 : decode cX7_may 34 = .ok (.iload_n 1, 1) := by decide +kernel
theorem dX7_may_35 : decode cX7_may 35 = .ok (.i2l, 1) := by decide +kernel
theorem dX7_may_36 : decode cX7_may 36 = .ok (.lconst 0, 1) := by decide +kernel
theorem dX7_may_37 : decode cX7_may 37 = .ok (.ldc2_w 88, 3) := by decide +kernel
theorem dX7_may_40 : decode cX7_may 40 = .ok (.invokestatic 80, 3) := by decide +kernel
theorem dX7_may_43 : decode cX7_may 43 = .ok (.goto 12, 3) := by decide +kernel
theorem dX7_may_46 : decode cX7_may 46 = .ok (.iload_n 1, 1) := by decide +kernel
theorem dX7_may_47 : decode cX7_may 47 = .ok (.i2l, 1) := by decide +kernel
theorem dX7_may_48 : decode cX7_may 48 = .ok (.lconst 1, 1) := by decide +kernel
theorem dX7_may_49 : decode cX7_may 49 = .ok (.ldc2_w 90, 3) := by decide +kernel
theorem dX7_may_52 : decode cX7_may 52 = .ok (.invokestatic 80, 3) := by decide +kernel
theorem dX7_may_55 : decode cX7_may 55 = .ok (.ireturn, 1) := by decide +kernel
theorem dX7_renew_0 : decode cX7_renew 0 = .ok (.aload_n 0, 1) := by decide +kernel
theorem dX7_renew_1 : decode cX7_renew 1 = .ok (.iload_n 1, 1) := by decide +kernel
theorem dX7_renew_2 : decode cX7_renew 2 = .ok (.invokevirtual 92, 3) := by decide +kernel
theorem dX7_renew_5 : decode cX7_renew 5 = .ok (.ifCond .eq 15, 3) := by decide +kernel
theorem dX7_renew_8 : decode cX7_renew 8 = .ok (.iload_n 2, 1) := by decide +kernel
theorem dX7_renew_9 : decode cX7_renew 9 = .ok (.i2l, 1) := by decide +kernel
theorem dX7_renew_10 : decode cX7_renew 10 = .ok (.lconst 0, 1) := by decide +kernel
theorem dX7_renew_11 : decode cX7_renew 11 = .ok (.ldc2_w 84, 3) := by decide +kernel
theorem dX7_renew_14 : decode cX7_renew 14 = .ok (.invokestatic 80, 3) := by decide +kernel
theorem dX7_renew_17 : decode cX7_renew 17 = .ok (.ifCond .ne 5, 3) := by decide +kernel
theorem dX7_renew_20 : decode cX7_renew 20 = .ok (.iconst (-1), 1) := by decide +kernel
theorem dX7_renew_21 : decode cX7_renew 21 = .ok (.ireturn, 1) := by decide +kernel
theorem dX7_renew_22 : decode cX7_renew 22 = .ok (.iload_n 2, 1) := by decide +kernel
theorem dX7_renew_23 : decode cX7_renew 23 = .ok (.iload_n 3, 1) := by decide +kernel
theorem dX7_renew_24 : decode cX7_renew 24 = .ok (.invokestatic 96, 3) := by decide +kernel
theorem dX7_renew_27 : decode cX7_renew 27 = .ok (.ifCond .ne 6, 3) := by decide +kernel
theorem dX7_renew_30 : decode cX7_renew 30 = .ok (.bipush (-2), 2) := by decide +kernel
theorem dX7_renew_32 : decode cX7_renew 32 = .ok (.ireturn, 1) := by decide +kernel
theorem dX7_renew_33 : decode cX7_renew 33 = .ok (.iload_n 2, 1) := by decide +kernel
theorem dX7_renew_34 : decode cX7_renew 34 = .ok (.ifCond .ne 7, 3) := by decide +kernel
theorem dX7_renew_37 : decode cX7_renew 37 = .ok (.iconst 5, 1) := by decide +kernel
theorem dX7_renew_38 : decode cX7_renew 38 = .ok (.goto 25, 3) := by decide +kernel
theorem dX7_renew_41 : decode cX7_renew 41 = .ok (.iload_n 2, 1) := by decide +kernel
theorem dX7_renew_42 : decode cX7_renew 42 = .ok (.iconst 1, 1) := by decide +kernel
theorem dX7_renew_43 : decode cX7_renew 43 = .ok (.if_icmp .ne 8, 3) := by decide +kernel
theorem dX7_renew_46 : decode cX7_renew 46 = .ok (.bipush 11, 2) := by decide +kernel
theorem dX7_renew_48 : decode cX7_renew 48 = .ok (.goto 15, 3) := by decide +kernel
theorem dX7_renew_51 : decode cX7_renew 51 = .ok (.iload_n 2, 1) := by decide +kernel
theorem dX7_renew_52 : decode cX7_renew 52 = .ok (.iconst 2, 1) := by decide +kernel
theorem dX7_renew_53 : decode cX7_renew 53 = .ok (.if_icmp .ne 8, 3) := by decide +kernel
theorem dX7_renew_56 : decode cX7_renew 56 = .ok (.bipush 17, 2) := by decide +kernel
theorem dX7_renew_58 : decode cX7_renew 58 = .ok (.goto 5, 3) := by decide +kernel
theorem dX7_renew_61 : decode cX7_renew 61 = .ok (.bipush 23, 2) := by decide +kernel
theorem dX7_renew_63 : decode cX7_renew 63 = .ok (.iload_n 1, 1) := by decide +kernel
theorem dX7_renew_64 : decode cX7_renew 64 = .ok (.iadd, 1) := by decide +kernel
theorem dX7_renew_65 : decode cX7_renew 65 = .ok (.istore 4, 2) := by decide +kernel
theorem dX7_renew_67 : decode cX7_renew 67 = .ok (.aload_n 0, 1) := by decide +kernel
theorem dX7_renew_68 : decode cX7_renew 68 = .ok (.getfield 15, 3) := by decide +kernel
theorem dX7_renew_71 : decode cX7_renew 71 = .ok (.iload 4, 2) := by decide +kernel
theorem dX7_renew_73 : decode cX7_renew 73 = .ok (.iaload, 1) := by decide +kernel
theorem dX7_renew_74 : decode cX7_renew 74 = .ok (.istore 5, 2) := by decide +kernel
theorem dX7_renew_76 : decode cX7_renew 76 = .ok (.aload_n 0, 1) := by decide +kernel
theorem dX7_renew_77 : decode cX7_renew 77 = .ok (.getfield 15, 3) := by decide +kernel
theorem dX7_renew_80 : decode cX7_renew 80 = .ok (.iload 4, 2) := by decide +kernel
theorem dX7_renew_82 : decode cX7_renew 82 = .ok (.iload_n 3, 1) := by decide +kernel
theorem dX7_renew_83 : decode cX7_renew 83 = .ok (.iastore, 1) := by decide +kernel
theorem dX7_renew_84 : decode cX7_renew 84 = .ok (.iload 5, 2) := by decide +kernel
theorem dX7_renew_86 : decode cX7_renew 86 = .ok (.ireturn, 1) := by decide +kernel
theorem dX7_refer_0 : decode cX7_refer 0 = .ok (.aload_n 0, 1) := by decide +kernel
theorem dX7_refer_1 : decode cX7_refer 1 = .ok (.iload_n 1, 1) := by decide +kernel
theorem dX7_refer_2 : decode cX7_refer 2 = .ok (.invokevirtual 92, 3) := by decide +kernel
theorem dX7_refer_5 : decode cX7_refer 5 = .ok (.ifCond .eq 16, 3) := by decide +kernel
theorem dX7_refer_8 : decode cX7_refer 8 = .ok (.aload_n 0, 1) := by decide +kernel
theorem dX7_refer_9 : decode cX7_refer 9 = .ok (.iload_n 2, 1) := by decide +kernel
theorem dX7_refer_10 : decode cX7_refer 10 = .ok (.invokevirtual 92, 3) := by decide +kernel
theorem dX7_refer_13 : decode cX7_refer 13 = .ok (.ifCond .eq 8, 3) := by decide +kernel
theorem dX7_refer_16 : decode cX7_refer 16 = .ok (.iload_n 1, 1) := by decide +kernel
theorem dX7_refer_17 : decode cX7_refer 17 = .ok (.iload_n 2, 1) := by decide +kernel
theorem dX7_refer_18 : decode cX7_refer 18 = .ok (.if_icmp .ne 5, 3) := by decide +kernel
theorem dX7_refer_21 : decode cX7_refer 21 = .ok (.iconst (-1), 1) := by decide +kernel
theorem dX7_refer_22 : decode cX7_refer 22 = .ok (.ireturn, 1) := by decide +kernel
theorem dX7_refer_23 : decode cX7_refer 23 = .ok (.aload_n 0, 1) := by decide +kernel
theorem dX7_refer_24 : decode cX7_refer 24 = .ok (.getfield 15, 3) := by decide +kernel
theorem dX7_refer_27 : decode cX7_refer 27 = .ok (.bipush 29, 2) := by decide +kernel
theorem dX7_refer_29 : decode cX7_refer 29 = .ok (.iload_n 1, 1) := by decide +kernel
theorem dX7_refer_30 : decode cX7_refer 30 = .ok (.iadd, 1) := by decide +kernel
theorem dX7_refer_31 : decode cX7_refer 31 = .ok (.iaload, 1) := by decide +kernel
theorem dX7_refer_32 : decode cX7_refer 32 = .ok (.iload_n 2, 1) := by decide +kernel
theorem dX7_refer_33 : decode cX7_refer 33 = .ok (.ishr, 1) := by decide +kernel
theorem dX7_refer_34 : decode cX7_refer 34 = .ok (.iconst 1, 1) := by decide +kernel
theorem dX7_refer_35 : decode cX7_refer 35 = .ok (.iand, 1) := by decide +kernel
theorem dX7_refer_36 : decode cX7_refer 36 = .ok (.istore 4, 2) := by decide +kernel
theorem dX7_refer_38 : decode cX7_refer 38 = .ok (.aload_n 0, 1) := by decide +kernel
theorem dX7_refer_39 : decode cX7_refer 39 = .ok (.getfield 15, 3) := by decide +kernel
theorem dX7_refer_42 : decode cX7_refer 42 = .ok (.bipush 29, 2) := by decide +kernel
theorem dX7_refer_44 : decode cX7_refer 44 = .ok (.iload_n 1, 1) := by decide +kernel
theorem dX7_refer_45 : decode cX7_refer 45 = .ok (.iadd, 1) := by decide +kernel
theorem dX7_refer_46 : decode cX7_refer 46 = .ok (.aload_n 0, 1) := by decide +kernel
theorem dX7_refer_47 : decode cX7_refer 47 = .ok (.getfield 15, 3) := by decide +kernel
theorem dX7_refer_50 : decode cX7_refer 50 = .ok (.bipush 29, 2) := by decide +kernel
theorem dX7_refer_52 : decode cX7_refer 52 = .ok (.iload_n 1, 1) := by decide +kernel
theorem dX7_refer_53 : decode cX7_refer 53 = .ok (.iadd, 1) := by decide +kernel
theorem dX7_refer_54 : decode cX7_refer 54 = .ok (.iaload, 1) := by decide +kernel
theorem dX7_refer_55 : decode cX7_refer 55 = .ok (.iconst 1, 1) := by decide +kernel
theorem dX7_refer_56 : decode cX7_refer 56 = .ok (.iload_n 2, 1) := by decide +kernel
theorem dX7_refer_57 : decode cX7_refer 57 = .ok (.ishl, 1) := by decide +kernel
theorem dX7_refer_58 : decode cX7_refer 58 = .ok (.iconst (-1), 1) := by decide +kernel
theorem dX7_refer_59 : decode cX7_refer 59 = .ok (.ixor, 1) := by decide +kernel
theorem dX7_refer_60 : decode cX7_refer 60 = .ok (.iand, 1) := by decide +kernel
theorem dX7_refer_61 : decode cX7_refer 61 = .ok (.iload_n 3, 1) := by decide +kernel
theorem dX7_refer_62 : decode cX7_refer 62 = .ok (.ifCond .eq 9, 3) := by decide +kernel
theorem dX7_refer_65 : decode cX7_refer 65 = .ok (.iconst 1, 1) := by decide +kernel
theorem dX7_refer_66 : decode cX7_refer 66 = .ok (.iload_n 2, 1) := by decide +kernel
theorem dX7_refer_67 : decode cX7_refer 67 = .ok (.ishl, 1) := by decide +kernel
theorem dX7_refer_68 : decode cX7_refer 68 = .ok (.goto 4, 3) := by decide +kernel
theorem dX7_refer_71 : decode cX7_refer 71 = .ok (.iconst 0, 1) := by decide +kernel
theorem dX7_refer_72 : decode cX7_refer 72 = .ok (.ior, 1) := by decide +kernel
theorem dX7_refer_73 : decode cX7_refer 73 = .ok (.iastore, 1) := by decide +kernel
theorem dX7_refer_74 : decode cX7_refer 74 = .ok (.iload 4, 2) := by decide +kernel
theorem dX7_refer_76 : decode cX7_refer 76 = .ok (.ireturn, 1) := by decide +kernel
theorem dX7_loss_0 : decode cX7_loss 0 = .ok (.iload_n 1, 1) := by decide +kernel
theorem dX7_loss_1 : decode cX7_loss 1 = .ok (.i2l, 1) := by decide +kernel
theorem dX7_loss_2 : decode cX7_loss 2 = .ok (.lconst 0, 1) := by decide +kernel
theorem dX7_loss_3 : decode cX7_loss 3 = .ok (.ldc2_w 100, 3) := by decide +kernel
theorem dX7_loss_6 : decode cX7_loss 6 = .ok (.invokestatic 80, 3) := by decide +kernel
theorem dX7_loss_9 : decode cX7_loss 9 = .ok (.ifCond .ne 6, 3) := by decide +kernel
theorem dX7_loss_12 : decode cX7_loss 12 = .ok (.bipush (-2), 2) := by decide +kernel
theorem dX7_loss_14 : decode cX7_loss 14 = .ok (.ireturn, 1) := by decide +kernel
theorem dX7_loss_15 : decode cX7_loss 15 = .ok (.aload_n 0, 1) := by decide +kernel
theorem dX7_loss_16 : decode cX7_loss 16 = .ok (.getfield 15, 3) := by decide +kernel
theorem dX7_loss_19 : decode cX7_loss 19 = .ok (.iconst 1, 1) := by decide +kernel
theorem dX7_loss_20 : decode cX7_loss 20 = .ok (.iaload, 1) := by decide +kernel
theorem dX7_loss_21 : decode cX7_loss 21 = .ok (.istore_n 2, 1) := by decide +kernel
theorem dX7_loss_22 : decode cX7_loss 22 = .ok (.aload_n 0, 1) := by decide +kernel
theorem dX7_loss_23 : decode cX7_loss 23 = .ok (.getfield 15, 3) := by decide +kernel
theorem dX7_loss_26 : decode cX7_loss 26 = .ok (.iconst 1, 1) := by decide +kernel
theorem dX7_loss_27 : decode cX7_loss 27 = .ok (.iload_n 1, 1) := by decide +kernel
theorem dX7_loss_28 : decode cX7_loss 28 = .ok (.iastore, 1) := by decide +kernel
theorem dX7_loss_29 : decode cX7_loss 29 = .ok (.iload_n 2, 1) := by decide +kernel
theorem dX7_loss_30 : decode cX7_loss 30 = .ok (.ireturn, 1) := by decide +kernel
theorem dX7_reach_0 : decode cX7_reach 0 = .ok (.iconst 0, 1) := by decide +kernel
theorem dX7_reach_1 : decode cX7_reach 1 = .ok (.istore_n 1, 1) := by decide +kernel
theorem dX7_reach_2 : decode cX7_reach 2 = .ok (.iload_n 1, 1) := by decide +kernel
theorem dX7_reach_3 : decode cX7_reach 3 = .ok (.aload_n 0, 1) := by decide +kernel
theorem dX7_reach_4 : decode cX7_reach 4 = .ok (.getfield 15, 3) := by decide +kernel
theorem dX7_reach_7 : decode cX7_reach 7 = .ok (.iconst 0, 1) := by decide +kernel
theorem dX7_reach_8 : decode cX7_reach 8 = .ok (.iaload, 1) := by decide +kernel
theorem dX7_reach_9 : decode cX7_reach 9 = .ok (.if_icmp .ge 24, 3) := by decide +kernel
theorem dX7_reach_12 : decode cX7_reach 12 = .ok (.aload_n 0, 1) := by decide +kernel
theorem dX7_reach_13 : decode cX7_reach 13 = .ok (.getfield 25, 3) := by decide +kernel
theorem dX7_reach_16 : decode cX7_reach 16 = .ok (.iload_n 1, 1) := by decide +kernel
theorem dX7_reach_17 : decode cX7_reach 17 = .ok (.aload_n 0, 1) := by decide +kernel
theorem dX7_reach_18 : decode cX7_reach 18 = .ok (.getfield 15, 3) := by decide +kernel
theorem dX7_reach_21 : decode cX7_reach 21 = .ok (.bipush 29, 2) := by decide +kernel
theorem dX7_reach_23 : decode cX7_reach 23 = .ok (.iload_n 1, 1) := by decide +kernel
theorem dX7_reach_24 : decode cX7_reach 24 = .ok (.iadd, 1) := by decide +kernel
theorem dX7_reach_25 : decode cX7_reach 25 = .ok (.iaload, 1) := by decide +kernel
theorem dX7_reach_26 : decode cX7_reach 26 = .ok (.iastore, 1) := by decide +kernel
theorem dX7_reach_27 : decode cX7_reach 27 = .ok (.iinc 1 1, 3) := by decide +kernel
theorem dX7_reach_30 : decode cX7_reach 30 = .ok (.goto (-28), 3) := by decide +kernel
theorem dX7_reach_33 : decode cX7_reach 33 = .ok (.iconst 0, 1) := by decide +kernel
theorem dX7_reach_34 : decode cX7_reach 34 = .ok (.istore_n 1, 1) := by decide +kernel
theorem dX7_reach_35 : decode cX7_reach 35 = .ok (.iload_n 1, 1) := by decide +kernel
theorem dX7_reach_36 : decode cX7_reach 36 = .ok (.bipush 6, 2) := by decide +kernel
theorem dX7_reach_38 : decode cX7_reach 38 = .ok (.if_icmp .ge 77, 3) := by decide +kernel
theorem dX7_reach_41 : decode cX7_reach 41 = .ok (.iconst 0, 1) := by decide +kernel
theorem dX7_reach_42 : decode cX7_reach 42 = .ok (.istore_n 2, 1) := by decide +kernel
theorem dX7_reach_43 : decode cX7_reach 43 = .ok (.iload_n 2, 1) := by decide +kernel
theorem dX7_reach_44 : decode cX7_reach 44 = .ok (.aload_n 0, 1) := by decide +kernel
theorem dX7_reach_45 : decode cX7_reach 45 = .ok (.getfield 15, 3) := by decide +kernel
theorem dX7_reach_48 : decode cX7_reach 48 = .ok (.iconst 0, 1) := by decide +kernel
theorem dX7_reach_49 : decode cX7_reach 49 = .ok (.iaload, 1) := by decide +kernel
theorem dX7_reach_50 : decode cX7_reach 50 = .ok (.if_icmp .ge 59, 3) := by decide +kernel
theorem dX7_reach_53 : decode cX7_reach 53 = .ok (.iconst 0, 1) := by decide +kernel
theorem dX7_reach_54 : decode cX7_reach 54 = .ok (.istore_n 3, 1) := by decide +kernel
theorem dX7_reach_55 : decode cX7_reach 55 = .ok (.iload_n 3, 1) := by decide +kernel
theorem dX7_reach_56 : decode cX7_reach 56 = .ok (.aload_n 0, 1) := by decide +kernel
theorem dX7_reach_57 : decode cX7_reach 57 = .ok (.getfield 15, 3) := by decide +kernel
theorem dX7_reach_60 : decode cX7_reach 60 = .ok (.iconst 0, 1) := by decide +kernel
theorem dX7_reach_61 : decode cX7_reach 61 = .ok (.iaload, 1) := by decide +kernel
theorem dX7_reach_62 : decode cX7_reach 62 = .ok (.if_icmp .ge 41, 3) := by decide +kernel
theorem dX7_reach_65 : decode cX7_reach 65 = .ok (.aload_n 0, 1) := by decide +kernel
theorem dX7_reach_66 : decode cX7_reach 66 = .ok (.getfield 25, 3) := by decide +kernel
theorem dX7_reach_69 : decode cX7_reach 69 = .ok (.iload_n 2, 1) := by decide +kernel
theorem dX7_reach_70 : decode cX7_reach 70 = .ok (.dup2, 1) := by decide +kernel
theorem dX7_reach_71 : decode cX7_reach 71 = .ok (.iaload, 1) := by decide +kernel
theorem dX7_reach_72 : decode cX7_reach 72 = .ok (.aload_n 0, 1) := by decide +kernel
theorem dX7_reach_73 : decode cX7_reach 73 = .ok (.getfield 25, 3) := by decide +kernel
theorem dX7_reach_76 : decode cX7_reach 76 = .ok (.iload_n 2, 1) := by decide +kernel
theorem dX7_reach_77 : decode cX7_reach 77 = .ok (.iaload, 1) := by decide +kernel
theorem dX7_reach_78 : decode cX7_reach 78 = .ok (.iload_n 3, 1) := by decide +kernel
theorem dX7_reach_79 : decode cX7_reach 79 = .ok (.invokestatic 102, 3) := by decide +kernel
theorem dX7_reach_82 : decode cX7_reach 82 = .ok (.ifCond .eq 12, 3) := by decide +kernel
theorem dX7_reach_85 : decode cX7_reach 85 = .ok (.aload_n 0, 1) := by decide +kernel
theorem dX7_reach_86 : decode cX7_reach 86 = .ok (.getfield 25, 3) := by decide +kernel
theorem dX7_reach_89 : decode cX7_reach 89 = .ok (.iload_n 3, 1) := by decide +kernel
theorem dX7_reach_90 : decode cX7_reach 90 = .ok (.iaload, 1) := by decide +kernel
theorem dX7_reach_91 : decode cX7_reach 91 = .ok (.goto 4, 3) := by decide +kernel
theorem dX7_reach_94 : decode cX7_reach 94 = .ok (.iconst 0, 1) := by decide +kernel
theorem dX7_reach_95 : decode cX7_reach 95 = .ok (.ior, 1) := by decide +kernel
theorem dX7_reach_96 : decode cX7_reach 96 = .ok (.iastore, 1) := by decide +kernel
theorem dX7_reach_97 : decode cX7_reach 97 = .ok (.iinc 3 1, 3) := by decide +kernel
theorem dX7_reach_100 : decode cX7_reach 100 = .ok (.goto (-45), 3) := by decide +kernel
theorem dX7_reach_103 : decode cX7_reach 103 = .ok (.iinc 2 1, 3) := by decide +kernel
theorem dX7_reach_106 : decode cX7_reach 106 = .ok (.goto (-63), 3) := by decide +kernel
theorem dX7_reach_109 : decode cX7_reach 109 = .ok (.iinc 1 1, 3) := by decide +kernel
theorem dX7_reach_112 : decode cX7_reach 112 = .ok (.goto (-77), 3) := by decide +kernel
theorem dX7_reach_115 : decode cX7_reach 115 = .ok (.iconst 0, 1) := by decide +kernel
theorem dX7_reach_116 : decode cX7_reach 116 = .ok (.istore_n 1, 1) := by decide +kernel
theorem dX7_reach_117 : decode cX7_reach 117 = .ok (.iload_n 1, 1) := by decide +kernel
theorem dX7_reach_118 : decode cX7_reach 118 = .ok (.aload_n 0, 1) := by decide +kernel
theorem dX7_reach_119 : decode cX7_reach 119 = .ok (.getfield 15, 3) := by decide +kernel
theorem dX7_reach_122 : decode cX7_reach 122 = .ok (.iconst 0, 1) := by decide +kernel
theorem dX7_reach_123 : decode cX7_reach 123 = .ok (.iaload, 1) := by decide +kernel
theorem dX7_reach_124 : decode cX7_reach 124 = .ok (.if_icmp .ge 74, 3) := by decide +kernel
theorem dX7_reach_127 : decode cX7_reach 127 = .ok (.aload_n 0, 1) := by decide +kernel
theorem dX7_reach_128 : decode cX7_reach 128 = .ok (.getfield 28, 3) := by decide +kernel
theorem dX7_reach_131 : decode cX7_reach 131 = .ok (.iload_n 1, 1) := by decide +kernel
theorem dX7_reach_132 : decode cX7_reach 132 = .ok (.iconst 1, 1) := by decide +kernel
theorem dX7_reach_133 : decode cX7_reach 133 = .ok (.iload_n 1, 1) := by decide +kernel
theorem dX7_reach_134 : decode cX7_reach 134 = .ok (.ishl, 1) := by decide +kernel
theorem dX7_reach_135 : decode cX7_reach 135 = .ok (.iastore, 1) := by decide +kernel
theorem dX7_reach_136 : decode cX7_reach 136 = .ok (.iconst 0, 1) := by decide +kernel
theorem dX7_reach_137 : decode cX7_reach 137 = .ok (.istore_n 2, 1) := by decide +kernel
theorem dX7_reach_138 : decode cX7_reach 138 = .ok (.iload_n 2, 1) := by decide +kernel
theorem dX7_reach_139 : decode cX7_reach 139 = .ok (.aload_n 0, 1) := by decide +kernel
theorem dX7_reach_140 : decode cX7_reach 140 = .ok (.getfield 15, 3) := by decide +kernel
theorem dX7_reach_143 : decode cX7_reach 143 = .ok (.iconst 0, 1) := by decide +kernel
theorem dX7_reach_144 : decode cX7_reach 144 = .ok (.iaload, 1) := by decide +kernel
theorem dX7_reach_145 : decode cX7_reach 145 = .ok (.if_icmp .ge 47, 3) := by decide +kernel
theorem dX7_reach_148 : decode cX7_reach 148 = .ok (.aload_n 0, 1) := by decide +kernel
theorem dX7_reach_149 : decode cX7_reach 149 = .ok (.getfield 25, 3) := by decide +kernel
theorem dX7_reach_152 : decode cX7_reach 152 = .ok (.iload_n 1, 1) := by decide +kernel
theorem dX7_reach_153 : decode cX7_reach 153 = .ok (.iaload, 1) := by decide +kernel
theorem dX7_reach_154 : decode cX7_reach 154 = .ok (.iload_n 2, 1) := by decide +kernel
theorem dX7_reach_155 : decode cX7_reach 155 = .ok (.invokestatic 102, 3) := by decide +kernel
theorem dX7_reach_158 : decode cX7_reach 158 = .ok (.ifCond .eq 28, 3) := by decide +kernel
theorem dX7_reach_161 : decode cX7_reach 161 = .ok (.aload_n 0, 1) := by decide +kernel
theorem dX7_reach_162 : decode cX7_reach 162 = .ok (.getfield 25, 3) := by decide +kernel
theorem dX7_reach_165 : decode cX7_reach 165 = .ok (.iload_n 2, 1) := by decide +kernel
theorem dX7_reach_166 : decode cX7_reach 166 = .ok (.iaload, 1) := by decide +kernel
theorem dX7_reach_167 : decode cX7_reach 167 = .ok (.iload_n 1, 1) := by decide +kernel
theorem dX7_reach_168 : decode cX7_reach 168 = .ok (.invokestatic 102, 3) := by decide +kernel
theorem dX7_reach_171 : decode cX7_reach 171 = .ok (.ifCond .eq 15, 3) := by decide +kernel
theorem dX7_reach_174 : decode cX7_reach 174 = .ok (.aload_n 0, 1) := by decide +kernel
theorem dX7_reach_175 : decode cX7_reach 175 = .ok (.getfield 28, 3) := by decide +kernel
theorem dX7_reach_178 : decode cX7_reach 178 = .ok (.iload_n 1, 1) := by decide +kernel
theorem dX7_reach_179 : decode cX7_reach 179 = .ok (.dup2, 1) := by decide +kernel
theorem dX7_reach_180 : decode cX7_reach 180 = .ok (.iaload, 1) := by decide +kernel
theorem dX7_reach_181 : decode cX7_reach 181 = .ok (.iconst 1, 1) := by decide +kernel
theorem dX7_reach_182 : decode cX7_reach 182 = .ok (.iload_n 2, 1) := by decide +kernel
theorem dX7_reach_183 : decode cX7_reach 183 = .ok (.ishl, 1) := by decide +kernel
theorem dX7_reach_184 : decode cX7_reach 184 = .ok (.ior, 1) := by decide +kernel
theorem dX7_reach_185 : decode cX7_reach 185 = .ok (.iastore, 1) := by decide +kernel
theorem dX7_reach_186 : decode cX7_reach 186 = .ok (.iinc 2 1, 3) := by decide +kernel
theorem dX7_reach_189 : decode cX7_reach 189 = .ok (.goto (-51), 3) := by decide +kernel
theorem dX7_reach_192 : decode cX7_reach 192 = .ok (.iinc 1 1, 3) := by decide +kernel
theorem dX7_reach_195 : decode cX7_reach 195 = .ok (.goto (-78), 3) := by decide +kernel
theorem dX7_reach_198 : decode cX7_reach 198 = .ok (.return_, 1) := by decide +kernel
theorem dX7_climb_0 : decode cX7_climb 0 = .ok (.iconst 0, 1) := by decide +kernel
theorem dX7_climb_1 : decode cX7_climb 1 = .ok (.istore_n 1, 1) := by decide +kernel
theorem dX7_climb_2 : decode cX7_climb 2 = .ok (.iload_n 1, 1) := by decide +kernel
theorem dX7_climb_3 : decode cX7_climb 3 = .ok (.aload_n 0, 1) := by decide +kernel
theorem dX7_climb_4 : decode cX7_climb 4 = .ok (.getfield 15, 3) := by decide +kernel
theorem dX7_climb_7 : decode cX7_climb 7 = .ok (.iconst 0, 1) := by decide +kernel
theorem dX7_climb_8 : decode cX7_climb 8 = .ok (.iaload, 1) := by decide +kernel
theorem dX7_climb_9 : decode cX7_climb 9 = .ok (.if_icmp .ge 16, 3) := by decide +kernel
theorem dX7_climb_12 : decode cX7_climb 12 = .ok (.aload_n 0, 1) := by decide +kernel
theorem dX7_climb_13 : decode cX7_climb 13 = .ok (.getfield 31, 3) := by decide +kernel
theorem dX7_climb_16 : decode cX7_climb 16 = .ok (.iload_n 1, 1) := by decide +kernel
theorem dX7_climb_17 : decode cX7_climb 17 = .ok (.iconst 0, 1) := by decide +kernel
theorem dX7_climb_18 : decode cX7_climb 18 = .ok (.iastore, 1) := by decide +kernel
theorem dX7_climb_19 : decode cX7_climb 19 = .ok (.iinc 1 1, 3) := by decide +kernel
theorem dX7_climb_22 : decode cX7_climb 22 = .ok (.goto (-20), 3) := by decide +kernel
theorem dX7_climb_25 : decode cX7_climb 25 = .ok (.iconst 0, 1) := by decide +kernel
theorem dX7_climb_26 : decode cX7_climb 26 = .ok (.istore_n 1, 1) := by decide +kernel
theorem dX7_climb_27 : decode cX7_climb 27 = .ok (.iload_n 1, 1) := by decide +kernel
theorem dX7_climb_28 : decode cX7_climb 28 = .ok (.bipush 6, 2) := by decide +kernel
theorem dX7_climb_30 : decode cX7_climb 30 = .ok (.if_icmp .gt 51, 3) := by decide +kernel
theorem dX7_climb_33 : decode cX7_climb 33 = .ok (.iconst 0, 1) := by decide +kernel
theorem dX7_climb_34 : decode cX7_climb 34 = .ok (.istore_n 2, 1) := by decide +kernel
theorem dX7_climb_35 : decode cX7_climb 35 = .ok (.iload_n 2, 1) := by decide +kernel
theorem dX7_climb_36 : decode cX7_climb 36 = .ok (.aload_n 0, 1) := by decide +kernel
theorem dX7_climb_37 : decode cX7_climb 37 = .ok (.getfield 15, 3) := by decide +kernel
theorem dX7_climb_40 : decode cX7_climb 40 = .ok (.iconst 0, 1) := by decide +kernel
theorem dX7_climb_41 : decode cX7_climb 41 = .ok (.iaload, 1) := by decide +kernel
theorem dX7_climb_42 : decode cX7_climb 42 = .ok (.if_icmp .ge 33, 3) := by decide +kernel
theorem dX7_climb_45 : decode cX7_climb 45 = .ok (.iconst 0, 1) := by decide +kernel
theorem dX7_climb_46 : decode cX7_climb 46 = .ok (.istore_n 3, 1) := by decide +kernel
theorem dX7_climb_47 : decode cX7_climb 47 = .ok (.iload_n 3, 1) := by decide +kernel
theorem dX7_climb_48 : decode cX7_climb 48 = .ok (.aload_n 0, 1) := by decide +kernel
theorem dX7_climb_49 : decode cX7_climb 49 = .ok (.getfield 15, 3) := by decide +kernel
theorem dX7_climb_52 : decode cX7_climb 52 = .ok (.iconst 0, 1) := by decide +kernel
theorem dX7_climb_53 : decode cX7_climb 53 = .ok (.iaload, 1) := by decide +kernel
theorem dX7_climb_54 : decode cX7_climb 54 = .ok (.if_icmp .ge 15, 3) := by decide +kernel
theorem dX7_climb_57 : decode cX7_climb 57 = .ok (.aload_n 0, 1) := by decide +kernel
theorem dX7_climb_58 : decode cX7_climb 58 = .ok (.iload_n 2, 1) := by decide +kernel
theorem dX7_climb_59 : decode cX7_climb 59 = .ok (.iload_n 3, 1) := by decide +kernel
theorem dX7_climb_60 : decode cX7_climb 60 = .ok (.invokevirtual 105, 3) := by decide +kernel
theorem dX7_climb_63 : decode cX7_climb 63 = .ok (.iinc 3 1, 3) := by decide +kernel
theorem dX7_climb_66 : decode cX7_climb 66 = .ok (.goto (-19), 3) := by decide +kernel
theorem dX7_climb_69 : decode cX7_climb 69 = .ok (.iinc 2 1, 3) := by decide +kernel
theorem dX7_climb_72 : decode cX7_climb 72 = .ok (.goto (-37), 3) := by decide +kernel
theorem dX7_climb_75 : decode cX7_climb 75 = .ok (.iinc 1 1, 3) := by decide +kernel
theorem dX7_climb_78 : decode cX7_climb 78 = .ok (.goto (-51), 3) := by decide +kernel
theorem dX7_climb_81 : decode cX7_climb 81 = .ok (.return_, 1) := by decide +kernel
theorem dX7_rise_0 : decode cX7_rise 0 = .ok (.aload_n 0, 1) := by decide +kernel
theorem dX7_rise_1 : decode cX7_rise 1 = .ok (.getfield 15, 3) := by decide +kernel
theorem dX7_rise_4 : decode cX7_rise 4 = .ok (.bipush 29, 2) := by decide +kernel
theorem dX7_rise_6 : decode cX7_rise 6 = .ok (.iload_n 1, 1) := by decide +kernel
theorem dX7_rise_7 : decode cX7_rise 7 = .ok (.iadd, 1) := by decide +kernel
theorem dX7_rise_8 : decode cX7_rise 8 = .ok (.iaload, 1) := by decide +kernel
theorem dX7_rise_9 : decode cX7_rise 9 = .ok (.iload_n 2, 1) := by decide +kernel
theorem dX7_rise_10 : decode cX7_rise 10 = .ok (.invokestatic 102, 3) := by decide +kernel
theorem dX7_rise_13 : decode cX7_rise 13 = .ok (.ifCond .eq 31, 3) := by decide +kernel
theorem dX7_rise_16 : decode cX7_rise 16 = .ok (.aload_n 0, 1) := by decide +kernel
theorem dX7_rise_17 : decode cX7_rise 17 = .ok (.getfield 28, 3) := by decide +kernel
theorem dX7_rise_20 : decode cX7_rise 20 = .ok (.iload_n 1, 1) := by decide +kernel
theorem dX7_rise_21 : decode cX7_rise 21 = .ok (.iaload, 1) := by decide +kernel
theorem dX7_rise_22 : decode cX7_rise 22 = .ok (.iload_n 2, 1) := by decide +kernel
theorem dX7_rise_23 : decode cX7_rise 23 = .ok (.invokestatic 102, 3) := by decide +kernel
theorem dX7_rise_26 : decode cX7_rise 26 = .ok (.ifCond .ne 18, 3) := by decide +kernel
theorem dX7_rise_29 : decode cX7_rise 29 = .ok (.aload_n 0, 1) := by decide +kernel
theorem dX7_rise_30 : decode cX7_rise 30 = .ok (.getfield 31, 3) := by decide +kernel
theorem dX7_rise_33 : decode cX7_rise 33 = .ok (.iload_n 1, 1) := by decide +kernel
theorem dX7_rise_34 : decode cX7_rise 34 = .ok (.iaload, 1) := by decide +kernel
theorem dX7_rise_35 : decode cX7_rise 35 = .ok (.aload_n 0, 1) := by decide +kernel
theorem dX7_rise_36 : decode cX7_rise 36 = .ok (.getfield 31, 3) := by decide +kernel
theorem dX7_rise_39 : decode cX7_rise 39 = .ok (.iload_n 2, 1) := by decide +kernel
theorem dX7_rise_40 : decode cX7_rise 40 = .ok (.iaload, 1) := by decide +kernel
theorem dX7_rise_41 : decode cX7_rise 41 = .ok (.if_icmp .le 4, 3) := by decide +kernel
theorem dX7_rise_44 : decode cX7_rise 44 = .ok (.return_, 1) := by decide +kernel
theorem dX7_rise_45 : decode cX7_rise 45 = .ok (.iconst 0, 1) := by decide +kernel
theorem dX7_rise_46 : decode cX7_rise 46 = .ok (.istore_n 3, 1) := by decide +kernel
theorem dX7_rise_47 : decode cX7_rise 47 = .ok (.iload_n 3, 1) := by decide +kernel
theorem dX7_rise_48 : decode cX7_rise 48 = .ok (.aload_n 0, 1) := by decide +kernel
theorem dX7_rise_49 : decode cX7_rise 49 = .ok (.getfield 15, 3) := by decide +kernel
theorem dX7_rise_52 : decode cX7_rise 52 = .ok (.iconst 0, 1) := by decide +kernel
theorem dX7_rise_53 : decode cX7_rise 53 = .ok (.iaload, 1) := by decide +kernel
theorem dX7_rise_54 : decode cX7_rise 54 = .ok (.if_icmp .ge 36, 3) := by decide +kernel
theorem dX7_rise_57 : decode cX7_rise 57 = .ok (.aload_n 0, 1) := by decide +kernel
theorem dX7_rise_58 : decode cX7_rise 58 = .ok (.getfield 28, 3) := by decide +kernel
theorem dX7_rise_61 : decode cX7_rise 61 = .ok (.iload_n 1, 1) := by decide +kernel
theorem dX7_rise_62 : decode cX7_rise 62 = .ok (.iaload, 1) := by decide +kernel
theorem dX7_rise_63 : decode cX7_rise 63 = .ok (.iload_n 3, 1) := by decide +kernel
theorem dX7_rise_64 : decode cX7_rise 64 = .ok (.invokestatic 102, 3) := by decide +kernel
theorem dX7_rise_67 : decode cX7_rise 67 = .ok (.ifCond .eq 17, 3) := by decide +kernel
theorem dX7_rise_70 : decode cX7_rise 70 = .ok (.aload_n 0, 1) := by decide +kernel
theorem dX7_rise_71 : decode cX7_rise 71 = .ok (.getfield 31, 3) := by decide +kernel
theorem dX7_rise_74 : decode cX7_rise 74 = .ok (.iload_n 3, 1) := by decide +kernel
theorem dX7_rise_75 : decode cX7_rise 75 = .ok (.aload_n 0, 1) := by decide +kernel
theorem dX7_rise_76 : decode cX7_rise 76 = .ok (.getfield 31, 3) := by decide +kernel
theorem dX7_rise_79 : decode cX7_rise 79 = .ok (.iload_n 2, 1) := by decide +kernel
theorem dX7_rise_80 : decode cX7_rise 80 = .ok (.iaload, 1) := by decide +kernel
theorem dX7_rise_81 : decode cX7_rise 81 = .ok (.iconst 1, 1) := by decide +kernel
theorem dX7_rise_82 : decode cX7_rise 82 = .ok (.iadd, 1) := by decide +kernel
theorem dX7_rise_83 : decode cX7_rise 83 = .ok (.iastore, 1) := by decide +kernel
theorem dX7_rise_84 : decode cX7_rise 84 = .ok (.iinc 3 1, 3) := by decide +kernel
theorem dX7_rise_87 : decode cX7_rise 87 = .ok (.goto (-40), 3) := by decide +kernel
theorem dX7_rise_90 : decode cX7_rise 90 = .ok (.return_, 1) := by decide +kernel
theorem dX7_ladder_0 : decode cX7_ladder 0 = .ok (.aload_n 0, 1) := by decide +kernel
theorem dX7_ladder_1 : decode cX7_ladder 1 = .ok (.invokevirtual 109, 3) := by decide +kernel
theorem dX7_ladder_4 : decode cX7_ladder 4 = .ok (.aload_n 0, 1) := by decide +kernel
theorem dX7_ladder_5 : decode cX7_ladder 5 = .ok (.invokevirtual 112, 3) := by decide +kernel
theorem dX7_ladder_8 : decode cX7_ladder 8 = .ok (.aload_n 0, 1) := by decide +kernel
theorem dX7_ladder_9 : decode cX7_ladder 9 = .ok (.iconst 0, 1) := by decide +kernel
theorem dX7_ladder_10 : decode cX7_ladder 10 = .ok (.putfield 115, 3) := by decide +kernel
theorem dX7_ladder_13 : decode cX7_ladder 13 = .ok (.iconst 0, 1) := by decide +kernel
theorem dX7_ladder_14 : decode cX7_ladder 14 = .ok (.istore_n 1, 1) := by decide +kernel
theorem dX7_ladder_15 : decode cX7_ladder 15 = .ok (.iload_n 1, 1) := by decide +kernel
theorem dX7_ladder_16 : decode cX7_ladder 16 = .ok (.bipush 6, 2) := by decide +kernel
theorem dX7_ladder_18 : decode cX7_ladder 18 = .ok (.if_icmp .ge 90, 3) := by decide +kernel
theorem dX7_ladder_21 : decode cX7_ladder 21 = .ok (.iconst 0, 1) := by decide +kernel
theorem dX7_ladder_22 : decode cX7_ladder 22 = .ok (.istore_n 2, 1) := by decide +kernel
theorem dX7_ladder_23 : decode cX7_ladder 23 = .ok (.iload_n 2, 1) := by decide +kernel
theorem dX7_ladder_24 : decode cX7_ladder 24 = .ok (.aload_n 0, 1) := by decide +kernel
theorem dX7_ladder_25 : decode cX7_ladder 25 = .ok (.getfield 15, 3) := by decide +kernel
theorem dX7_ladder_28 : decode cX7_ladder 28 = .ok (.iconst 0, 1) := by decide +kernel
theorem dX7_ladder_29 : decode cX7_ladder 29 = .ok (.iaload, 1) := by decide +kernel
theorem dX7_ladder_30 : decode cX7_ladder 30 = .ok (.if_icmp .ge 72, 3) := by decide +kernel
theorem dX7_ladder_33 : decode cX7_ladder 33 = .ok (.aload_n 0, 1) := by decide +kernel
theorem dX7_ladder_34 : decode cX7_ladder 34 = .ok (.getfield 28, 3) := by decide +kernel
theorem dX7_ladder_37 : decode cX7_ladder 37 = .ok (.iload_n 2, 1) := by decide +kernel
theorem dX7_ladder_38 : decode cX7_ladder 38 = .ok (.iaload, 1) := by decide +kernel
theorem dX7_ladder_39 : decode cX7_ladder 39 = .ok (.iconst 1, 1) := by decide +kernel
theorem dX7_ladder_40 : decode cX7_ladder 40 = .ok (.iload_n 2, 1) := by decide +kernel
theorem dX7_ladder_41 : decode cX7_ladder 41 = .ok (.ishl, 1) := by decide +kernel
theorem dX7_ladder_42 : decode cX7_ladder 42 = .ok (.iconst 1, 1) := by decide +kernel
theorem dX7_ladder_43 : decode cX7_ladder 43 = .ok (.isub, 1) := by decide +kernel
theorem dX7_ladder_44 : decode cX7_ladder 44 = .ok (.iand, 1) := by decide +kernel
theorem dX7_ladder_45 : decode cX7_ladder 45 = .ok (.ifCond .ne 7, 3) := by decide +kernel
theorem dX7_ladder_48 : decode cX7_ladder 48 = .ok (.iconst 1, 1) := by decide +kernel
theorem dX7_ladder_49 : decode cX7_ladder 49 = .ok (.goto 4, 3) := by decide +kernel
theorem dX7_ladder_52 : decode cX7_ladder 52 = .ok (.iconst 0, 1) := by decide +kernel
theorem dX7_ladder_53 : decode cX7_ladder 53 = .ok (.istore_n 3, 1) := by decide +kernel
theorem dX7_ladder_54 : decode cX7_ladder 54 = .ok (.aload_n 0, 1) := by decide +kernel
theorem dX7_ladder_55 : decode cX7_ladder 55 = .ok (.getfield 31, 3) := by decide +kernel
theorem dX7_ladder_58 : decode cX7_ladder 58 = .ok (.iload_n 2, 1) := by decide +kernel
theorem dX7_ladder_59 : decode cX7_ladder 59 = .ok (.iaload, 1) := by decide +kernel
theorem dX7_ladder_60 : decode cX7_ladder 60 = .ok (.iload_n 1, 1) := by decide +kernel
theorem dX7_ladder_61 : decode cX7_ladder 61 = .ok (.if_icmp .ne 35, 3) := by decide +kernel
theorem dX7_ladder_64 : decode cX7_ladder 64 = .ok (.iload_n 3, 1) := by decide +kernel
theorem dX7_ladder_65 : decode cX7_ladder 65 = .ok (.ifCond .ne 6, 3) := by decide +kernel
theorem dX7_ladder_68 : decode cX7_ladder 68 = .ok (.goto 28, 3) := by decide +kernel
theorem dX7_ladder_71 : decode cX7_ladder 71 = .ok (.aload_n 0, 1) := by decide +kernel
theorem dX7_ladder_72 : decode cX7_ladder 72 = .ok (.getfield 34, 3) := by decide +kernel
theorem dX7_ladder_75 : decode cX7_ladder 75 = .ok (.aload_n 0, 1) := by decide +kernel
theorem dX7_ladder_76 : decode cX7_ladder 76 = .ok (.getfield 115, 3) := by decide +kernel
theorem dX7_ladder_79 : decode cX7_ladder 79 = .ok (.aload_n 0, 1) := by decide +kernel
theorem dX7_ladder_80 : decode cX7_ladder 80 = .ok (.getfield 28, 3) := by decide +kernel
theorem dX7_ladder_83 : decode cX7_ladder 83 = .ok (.iload_n 2, 1) := by decide +kernel
theorem dX7_ladder_84 : decode cX7_ladder 84 = .ok (.iaload, 1) := by decide +kernel
theorem dX7_ladder_85 : decode cX7_ladder 85 = .ok (.iastore, 1) := by decide +kernel
theorem dX7_ladder_86 : decode cX7_ladder 86 = .ok (.aload_n 0, 1) := by decide +kernel
theorem dX7_ladder_87 : decode cX7_ladder 87 = .ok (.dup, 1) := by decide +kernel
theorem dX7_ladder_88 : decode cX7_ladder 88 = .ok (.getfield 115, 3) := by decide +kernel
theorem dX7_ladder_91 : decode cX7_ladder 91 = .ok (.iconst 1, 1) := by decide +kernel
theorem dX7_ladder_92 : decode cX7_ladder 92 = .ok (.iadd, 1) := by decide +kernel
theorem dX7_ladder_93 : decode cX7_ladder 93 = .ok (.putfield 115, 3) := by decide +kernel
theorem dX7_ladder_96 : decode cX7_ladder 96 = .ok (.iinc 2 1, 3) := by decide +kernel
theorem dX7_ladder_99 : decode cX7_ladder 99 = .ok (.goto (-76), 3) := by decide +kernel
theorem dX7_ladder_102 : decode cX7_ladder 102 = .ok (.iinc 1 1, 3) := by decide +kernel
theorem dX7_ladder_105 : decode cX7_ladder 105 = .ok (.goto (-90), 3) := by decide +kernel
theorem dX7_ladder_108 : decode cX7_ladder 108 = .ok (.return_, 1) := by decide +kernel
theorem dX7_least_0 : decode cX7_least 0 = .ok (.iload_n 1, 1) := by decide +kernel
theorem dX7_least_1 : decode cX7_least 1 = .ok (.iload_n 2, 1) := by decide +kernel
theorem dX7_least_2 : decode cX7_least 2 = .ok (.if_icmp .ge 7, 3) := by decide +kernel
theorem dX7_least_5 : decode cX7_least 5 = .ok (.iload_n 1, 1) := by decide +kernel
theorem dX7_least_6 : decode cX7_least 6 = .ok (.goto 4, 3) := by decide +kernel
theorem dX7_least_9 : decode cX7_least 9 = .ok (.iload_n 2, 1) := by decide +kernel
theorem dX7_least_10 : decode cX7_least 10 = .ok (.ireturn, 1) := by decide +kernel
theorem dX7_stead_0 : decode cX7_stead 0 = .ok (.aload_n 0, 1) := by decide +kernel
theorem dX7_stead_1 : decode cX7_stead 1 = .ok (.getfield 15, 3) := by decide +kernel
theorem dX7_stead_4 : decode cX7_stead 4 = .ok (.iconst 5, 1) := by decide +kernel
theorem dX7_stead_5 : decode cX7_stead 5 = .ok (.iload_n 1, 1) := by decide +kernel
theorem dX7_stead_6 : decode cX7_stead 6 = .ok (.iadd, 1) := by decide +kernel
theorem dX7_stead_7 : decode cX7_stead 7 = .ok (.iaload, 1) := by decide +kernel
theorem dX7_stead_8 : decode cX7_stead 8 = .ok (.iconst 1, 1) := by decide +kernel
theorem dX7_stead_9 : decode cX7_stead 9 = .ok (.if_icmp .ne 20, 3) := by decide +kernel
theorem dX7_stead_12 : decode cX7_stead 12 = .ok (.iload_n 2, 1) := by decide +kernel
theorem dX7_stead_13 : decode cX7_stead 13 = .ok (.aload_n 0, 1) := by decide +kernel
theorem dX7_stead_14 : decode cX7_stead 14 = .ok (.getfield 15, 3) := by decide +kernel
theorem dX7_stead_17 : decode cX7_stead 17 = .ok (.bipush 23, 2) := by decide +kernel
theorem dX7_stead_19 : decode cX7_stead 19 = .ok (.iload_n 1, 1) := by decide +kernel
theorem dX7_stead_20 : decode cX7_stead 20 = .ok (.iadd, 1) := by decide +kernel
theorem dX7_stead_21 : decode cX7_stead 21 = .ok (.iaload, 1) := by decide +kernel
theorem dX7_stead_22 : decode cX7_stead 22 = .ok (.imul, 1) := by decide +kernel
theorem dX7_stead_23 : decode cX7_stead 23 = .ok (.bipush 100, 2) := by decide +kernel
theorem dX7_stead_25 : decode cX7_stead 25 = .ok (.idiv, 1) := by decide +kernel
theorem dX7_stead_26 : decode cX7_stead 26 = .ok (.goto 4, 3) := by decide +kernel
theorem dX7_stead_29 : decode cX7_stead 29 = .ok (.iload_n 2, 1) := by decide +kernel
theorem dX7_stead_30 : decode cX7_stead 30 = .ok (.ireturn, 1) := by decide +kernel
theorem dX7_plain_0 : decode cX7_plain 0 = .ok (.iload_n 2, 1) := by decide +kernel
theorem dX7_plain_1 : decode cX7_plain 1 = .ok (.aload_n 0, 1) := by decide +kernel
theorem dX7_plain_2 : decode cX7_plain 2 = .ok (.getfield 15, 3) := by decide +kernel
theorem dX7_plain_5 : decode cX7_plain 5 = .ok (.bipush 17, 2) := by decide +kernel
theorem dX7_plain_7 : decode cX7_plain 7 = .ok (.iload_n 1, 1) := by decide +kernel
theorem dX7_plain_8 : decode cX7_plain 8 = .ok (.iadd, 1) := by decide +kernel
theorem dX7_plain_9 : decode cX7_plain 9 = .ok (.iaload, 1) := by decide +kernel
theorem dX7_plain_10 : decode cX7_plain 10 = .ok (.isub, 1) := by decide +kernel
theorem dX7_plain_11 : decode cX7_plain 11 = .ok (.istore_n 3, 1) := by decide +kernel
theorem dX7_plain_12 : decode cX7_plain 12 = .ok (.iload_n 3, 1) := by decide +kernel
theorem dX7_plain_13 : decode cX7_plain 13 = .ok (.ifCond .ge 7, 3) := by decide +kernel
theorem dX7_plain_16 : decode cX7_plain 16 = .ok (.iconst 0, 1) := by decide +kernel
theorem dX7_plain_17 : decode cX7_plain 17 = .ok (.goto 17, 3) := by decide +kernel
theorem dX7_plain_20 : decode cX7_plain 20 = .ok (.aload_n 0, 1) := by decide +kernel
theorem dX7_plain_21 : decode cX7_plain 21 = .ok (.iload_n 3, 1) := by decide +kernel
theorem dX7_plain_22 : decode cX7_plain 22 = .ok (.aload_n 0, 1) := by decide +kernel
theorem dX7_plain_23 : decode cX7_plain 23 = .ok (.getfield 15, 3) := by decide +kernel
theorem dX7_plain_26 : decode cX7_plain 26 = .ok (.bipush 11, 2) := by decide +kernel
theorem dX7_plain_28 : decode cX7_plain 28 = .ok (.iload_n 1, 1) := by decide +kernel
theorem dX7_plain_29 : decode cX7_plain 29 = .ok (.iadd, 1) := by decide +kernel
theorem dX7_plain_30 : decode cX7_plain 30 = .ok (.iaload, 1) := by decide +kernel
theorem dX7_plain_31 : decode cX7_plain 31 = .ok (.invokevirtual 118, 3) := by decide +kernel
theorem dX7_plain_34 : decode cX7_plain 34 = .ok (.ireturn, 1) := by decide +kernel
theorem dX7_payer_0 : decode cX7_payer 0 = .ok (.iconst 0, 1) := by decide +kernel
theorem dX7_payer_1 : decode cX7_payer 1 = .ok (.istore_n 2, 1) := by decide +kernel
theorem dX7_payer_2 : decode cX7_payer 2 = .ok (.iload_n 2, 1) := by decide +kernel
theorem dX7_payer_3 : decode cX7_payer 3 = .ok (.aload_n 0, 1) := by decide +kernel
theorem dX7_payer_4 : decode cX7_payer 4 = .ok (.getfield 15, 3) := by decide +kernel
theorem dX7_payer_7 : decode cX7_payer 7 = .ok (.iconst 0, 1) := by decide +kernel
theorem dX7_payer_8 : decode cX7_payer 8 = .ok (.iaload, 1) := by decide +kernel
theorem dX7_payer_9 : decode cX7_payer 9 = .ok (.if_icmp .ge 36, 3) := by decide +kernel
theorem dX7_payer_12 : decode cX7_payer 12 = .ok (.aload_n 0, 1) := by decide +kernel
theorem dX7_payer_13 : decode cX7_payer 13 = .ok (.getfield 15, 3) := by decide +kernel
theorem dX7_payer_16 : decode cX7_payer 16 = .ok (.bipush 29, 2) := by decide +kernel
theorem dX7_payer_18 : decode cX7_payer 18 = .ok (.iload_n 1, 1) := by decide +kernel
theorem dX7_payer_19 : decode cX7_payer 19 = .ok (.iadd, 1) := by decide +kernel
theorem dX7_payer_20 : decode cX7_payer 20 = .ok (.iaload, 1) := by decide +kernel
theorem dX7_payer_21 : decode cX7_payer 21 = .ok (.iload_n 2, 1) := by decide +kernel
theorem dX7_payer_22 : decode cX7_payer 22 = .ok (.invokestatic 102, 3) := by decide +kernel
theorem dX7_payer_25 : decode cX7_payer 25 = .ok (.ifCond .eq 14, 3) := by decide +kernel
theorem dX7_payer_28 : decode cX7_payer 28 = .ok (.aload_n 0, 1) := by decide +kernel
theorem dX7_payer_29 : decode cX7_payer 29 = .ok (.getfield 37, 3) := by decide +kernel
theorem dX7_payer_32 : decode cX7_payer 32 = .ok (.iload_n 2, 1) := by decide +kernel
theorem dX7_payer_33 : decode cX7_payer 33 = .ok (.iaload, 1) := by decide +kernel
theorem dX7_payer_34 : decode cX7_payer 34 = .ok (.ifCond .le 5, 3) := by decide +kernel
theorem dX7_payer_37 : decode cX7_payer 37 = .ok (.iload_n 2, 1) := by decide +kernel
theorem dX7_payer_38 : decode cX7_payer 38 = .ok (.ireturn, 1) := by decide +kernel
theorem dX7_payer_39 : decode cX7_payer 39 = .ok (.iinc 2 1, 3) := by decide +kernel
theorem dX7_payer_42 : decode cX7_payer 42 = .ok (.goto (-40), 3) := by decide +kernel
theorem dX7_payer_45 : decode cX7_payer 45 = .ok (.iconst (-1), 1) := by decide +kernel
theorem dX7_payer_46 : decode cX7_payer 46 = .ok (.ireturn, 1) := by decide +kernel
theorem dX7_most_0 : decode cX7_most 0 = .ok (.aload_n 0, 1) := by decide +kernel
theorem dX7_most_1 : decode cX7_most 1 = .ok (.iload_n 1, 1) := by decide +kernel
theorem dX7_most_2 : decode cX7_most 2 = .ok (.aload_n 0, 1) := by decide +kernel
theorem dX7_most_3 : decode cX7_most 3 = .ok (.iload_n 1, 1) := by decide +kernel
theorem dX7_most_4 : decode cX7_most 4 = .ok (.iload_n 2, 1) := by decide +kernel
theorem dX7_most_5 : decode cX7_most 5 = .ok (.invokevirtual 122, 3) := by decide +kernel
theorem dX7_most_8 : decode cX7_most 8 = .ok (.invokevirtual 125, 3) := by decide +kernel
theorem dX7_most_11 : decode cX7_most 11 = .ok (.istore 4, 2) := by decide +kernel
theorem dX7_most_13 : decode cX7_most 13 = .ok (.aload_n 0, 1) := by decide +kernel
theorem dX7_most_14 : decode cX7_most 14 = .ok (.getfield 15, 3) := by decide +kernel
theorem dX7_most_17 : decode cX7_most 17 = .ok (.iconst 5, 1) := by decide +kernel
theorem dX7_most_18 : decode cX7_most 18 = .ok (.iload_n 1, 1) := by decide +kernel
theorem dX7_most_19 : decode cX7_most 19 = .ok (.iadd, 1) := by decide +kernel
theorem dX7_most_20 : decode cX7_most 20 = .ok (.iaload, 1) := by decide +kernel
theorem dX7_most_21 : decode cX7_most 21 = .ok (.iconst 3, 1) := by decide +kernel
theorem dX7_most_22 : decode cX7_most 22 = .ok (.if_icmp .ne 27, 3) := by decide +kernel
theorem dX7_most_25 : decode cX7_most 25 = .ok (.iload 4, 2) := by decide +kernel
theorem dX7_most_27 : decode cX7_most 27 = .ok (.ifCond .le 20, 3) := by decide +kernel
theorem dX7_most_30 : decode cX7_most 30 = .ok (.aload_n 0, 1) := by decide +kernel
theorem dX7_most_31 : decode cX7_most 31 = .ok (.iload_n 2, 1) := by decide +kernel
theorem dX7_most_32 : decode cX7_most 32 = .ok (.aload_n 0, 1) := by decide +kernel
theorem dX7_most_33 : decode cX7_most 33 = .ok (.getfield 15, 3) := by decide +kernel
theorem dX7_most_36 : decode cX7_most 36 = .ok (.bipush 11, 2) := by decide +kernel
theorem dX7_most_38 : decode cX7_most 38 = .ok (.iload_n 1, 1) := by decide +kernel
theorem dX7_most_39 : decode cX7_most 39 = .ok (.iadd, 1) := by decide +kernel
theorem dX7_most_40 : decode cX7_most 40 = .ok (.iaload, 1) := by decide +kernel
theorem dX7_most_41 : decode cX7_most 41 = .ok (.invokevirtual 118, 3) := by decide +kernel
theorem dX7_most_44 : decode cX7_most 44 = .ok (.goto 4, 3) := by decide +kernel
theorem dX7_most_47 : decode cX7_most 47 = .ok (.iconst 0, 1) := by decide +kernel
theorem dX7_most_48 : decode cX7_most 48 = .ok (.ireturn, 1) := by decide +kernel
theorem dX7_most_49 : decode cX7_most 49 = .ok (.iload_n 3, 1) := by decide +kernel
theorem dX7_most_50 : decode cX7_most 50 = .ok (.ifCond .eq 28, 3) := by decide +kernel
theorem dX7_most_53 : decode cX7_most 53 = .ok (.aload_n 0, 1) := by decide +kernel
theorem dX7_most_54 : decode cX7_most 54 = .ok (.getfield 15, 3) := by decide +kernel
theorem dX7_most_57 : decode cX7_most 57 = .ok (.iconst 5, 1) := by decide +kernel
theorem dX7_most_58 : decode cX7_most 58 = .ok (.iload_n 1, 1) := by decide +kernel
theorem dX7_most_59 : decode cX7_most 59 = .ok (.iadd, 1) := by decide +kernel
theorem dX7_most_60 : decode cX7_most 60 = .ok (.iaload, 1) := by decide +kernel
theorem dX7_most_61 : decode cX7_most 61 = .ok (.iconst 2, 1) := by decide +kernel
theorem dX7_most_62 : decode cX7_most 62 = .ok (.if_icmp .ne 16, 3) := by decide +kernel
theorem dX7_most_65 : decode cX7_most 65 = .ok (.aload_n 0, 1) := by decide +kernel
theorem dX7_most_66 : decode cX7_most 66 = .ok (.iload_n 1, 1) := by decide +kernel
theorem dX7_most_67 : decode cX7_most 67 = .ok (.invokevirtual 128, 3) := by decide +kernel
theorem dX7_most_70 : decode cX7_most 70 = .ok (.iconst (-1), 1) := by decide +kernel
theorem dX7_most_71 : decode cX7_most 71 = .ok (.if_icmp .eq 7, 3) := by decide +kernel
theorem dX7_most_74 : decode cX7_most 74 = .ok (.iconst 0, 1) := by decide +kernel
theorem dX7_most_75 : decode cX7_most 75 = .ok (.goto 5, 3) := by decide +kernel
theorem dX7_most_78 : decode cX7_most 78 = .ok (.iload 4, 2) := by decide +kernel
theorem dX7_most_80 : decode cX7_most 80 = .ok (.ireturn, 1) := by decide +kernel
theorem dX7_payRing_0 : decode cX7_payRing 0 = .ok (.aload_n 0, 1) := by decide +kernel
theorem dX7_payRing_1 : decode cX7_payRing 1 = .ok (.getfield 34, 3) := by decide +kernel
theorem dX7_payRing_4 : decode cX7_payRing 4 = .ok (.iload_n 1, 1) := by decide +kernel
theorem dX7_payRing_5 : decode cX7_payRing 5 = .ok (.iaload, 1) := by decide +kernel
theorem dX7_payRing_6 : decode cX7_payRing 6 = .ok (.istore_n 3, 1) := by decide +kernel
theorem dX7_payRing_7 : decode cX7_payRing 7 = .ok (.iload_n 3, 1) := by decide +kernel
theorem dX7_payRing_8 : decode cX7_payRing 8 = .ok (.invokestatic 132, 3) := by decide +kernel
theorem dX7_payRing_11 : decode cX7_payRing 11 = .ok (.iconst 1, 1) := by decide +kernel
theorem dX7_payRing_12 : decode cX7_payRing 12 = .ok (.if_icmp .ne 7, 3) := by decide +kernel
theorem dX7_payRing_15 : decode cX7_payRing 15 = .ok (.iconst 1, 1) := by decide +kernel
theorem dX7_payRing_16 : decode cX7_payRing 16 = .ok (.goto 4, 3) := by decide +kernel
theorem dX7_payRing_19 : decode cX7_payRing 19 = .ok (.iconst 0, 1) := by decide +kernel
theorem dX7_payRing_20 : decode cX7_payRing 20 = .ok (.istore 4, 2) := by decide +kernel
theorem dX7_payRing_22 : decode cX7_payRing 22 = .ok (.iconst 0, 1) := by decide +kernel
theorem dX7_payRing_23 : decode cX7_payRing 23 = .ok (.istore 5, 2) := by decide +kernel
theorem dX7_payRing_25 : decode cX7_payRing 25 = .ok (.iload 5, 2) := by decide +kernel
theorem dX7_payRing_27 : decode cX7_payRing 27 = .ok (.aload_n 0, 1) := by decide +kernel
theorem dX7_payRing_28 : decode cX7_payRing 28 = .ok (.getfield 15, 3) := by decide +kernel
theorem dX7_payRing_31 : decode cX7_payRing 31 = .ok (.iconst 0, 1) := by decide +kernel
theorem dX7_payRing_32 : decode cX7_payRing 32 = .ok (.iaload, 1) := by decide +kernel
theorem dX7_payRing_33 : decode cX7_payRing 33 = .ok (.if_icmp .ge 60, 3) := by decide +kernel
theorem dX7_payRing_36 : decode cX7_payRing 36 = .ok (.iload_n 3, 1) := by decide +kernel
theorem dX7_payRing_37 : decode cX7_payRing 37 = .ok (.iload 5, 2) := by decide +kernel
theorem dX7_payRing_39 : decode cX7_payRing 39 = .ok (.invokestatic 102, 3) := by decide +kernel
theorem dX7_payRing_42 : decode cX7_payRing 42 = .ok (.ifCond .ne 6, 3) := by decide +kernel
theorem dX7_payRing_45 : decode cX7_payRing 45 = .ok (.goto 42, 3) := by decide +kernel
theorem dX7_payRing_48 : decode cX7_payRing 48 = .ok (.aload_n 0, 1) := by decide +kernel
theorem dX7_payRing_49 : decode cX7_payRing 49 = .ok (.getfield 46, 3) := by decide +kernel
theorem dX7_payRing_52 : decode cX7_payRing 52 = .ok (.iload 5, 2) := by decide +kernel
theorem dX7_payRing_54 : decode cX7_payRing 54 = .ok (.aload_n 0, 1) := by decide +kernel
theorem dX7_payRing_55 : decode cX7_payRing 55 = .ok (.iload 5, 2) := by decide +kernel
theorem dX7_payRing_57 : decode cX7_payRing 57 = .ok (.iload_n 2, 1) := by decide +kernel
theorem dX7_payRing_58 : decode cX7_payRing 58 = .ok (.iload 4, 2) := by decide +kernel
theorem dX7_payRing_60 : decode cX7_payRing 60 = .ok (.invokevirtual 135, 3) := by decide +kernel
theorem dX7_payRing_63 : decode cX7_payRing 63 = .ok (.iastore, 1) := by decide +kernel
theorem dX7_payRing_64 : decode cX7_payRing 64 = .ok (.aload_n 0, 1) := by decide +kernel
theorem dX7_payRing_65 : decode cX7_payRing 65 = .ok (.getfield 37, 3) := by decide +kernel
theorem dX7_payRing_68 : decode cX7_payRing 68 = .ok (.iload 5, 2) := by decide +kernel
theorem dX7_payRing_70 : decode cX7_payRing 70 = .ok (.iload 4, 2) := by decide +kernel
theorem dX7_payRing_72 : decode cX7_payRing 72 = .ok (.ifCond .eq 13, 3) := by decide +kernel
theorem dX7_payRing_75 : decode cX7_payRing 75 = .ok (.aload_n 0, 1) := by decide +kernel
theorem dX7_payRing_76 : decode cX7_payRing 76 = .ok (.getfield 46, 3) := by decide +kernel
theorem dX7_payRing_79 : decode cX7_payRing 79 = .ok (.iload 5, 2) := by decide +kernel
theorem dX7_payRing_81 : decode cX7_payRing 81 = .ok (.iaload, 1) := by decide +kernel
theorem dX7_payRing_82 : decode cX7_payRing 82 = .ok (.goto 4, 3) := by decide +kernel
theorem dX7_payRing_85 : decode cX7_payRing 85 = .ok (.iconst 0, 1) := by decide +kernel
theorem dX7_payRing_86 : decode cX7_payRing 86 = .ok (.iastore, 1) := by decide +kernel
theorem dX7_payRing_87 : decode cX7_payRing 87 = .ok (.iinc 5 1, 3) := by decide +kernel
theorem dX7_payRing_90 : decode cX7_payRing 90 = .ok (.goto (-65), 3) := by decide +kernel
theorem dX7_payRing_93 : decode cX7_payRing 93 = .ok (.iload 4, 2) := by decide +kernel
theorem dX7_payRing_95 : decode cX7_payRing 95 = .ok (.ifCond .eq 7, 3) := by decide +kernel
theorem dX7_payRing_98 : decode cX7_payRing 98 = .ok (.iconst 0, 1) := by decide +kernel
theorem dX7_payRing_99 : decode cX7_payRing 99 = .ok (.goto 4, 3) := by decide +kernel
theorem dX7_payRing_102 : decode cX7_payRing 102 = .ok (.iload_n 2, 1) := by decide +kernel
theorem dX7_payRing_103 : decode cX7_payRing 103 = .ok (.istore 5, 2) := by decide +kernel
theorem dX7_payRing_105 : decode cX7_payRing 105 = .ok (.iload 5, 2) := by decide +kernel
theorem dX7_payRing_107 : decode cX7_payRing 107 = .ok (.ifCond .le 7, 3) := by decide +kernel
theorem dX7_payRing_110 : decode cX7_payRing 110 = .ok (.iconst 1, 1) := by decide +kernel
theorem dX7_payRing_111 : decode cX7_payRing 111 = .ok (.goto 4, 3) := by decide +kernel
theorem dX7_payRing_114 : decode cX7_payRing 114 = .ok (.iconst 0, 1) := by decide +kernel
theorem dX7_payRing_115 : decode cX7_payRing 115 = .ok (.istore 6, 2) := by decide +kernel
theorem dX7_payRing_117 : decode cX7_payRing 117 = .ok (.iload 6, 2) := by decide +kernel
theorem dX7_payRing_119 : decode cX7_payRing 119 = .ok (.ifCond .eq 80, 3) := by decide +kernel
theorem dX7_payRing_122 : decode cX7_payRing 122 = .ok (.iconst 0, 1) := by decide +kernel
theorem dX7_payRing_123 : decode cX7_payRing 123 = .ok (.istore 6, 2) := by decide +kernel
theorem dX7_payRing_125 : decode cX7_payRing 125 = .ok (.iconst 0, 1) := by decide +kernel
theorem dX7_payRing_126 : decode cX7_payRing 126 = .ok (.istore 7, 2) := by decide +kernel
theorem dX7_payRing_128 : decode cX7_payRing 128 = .ok (.iload 7, 2) := by decide +kernel
theorem dX7_payRing_130 : decode cX7_payRing 130 = .ok (.aload_n 0, 1) := by decide +kernel
theorem dX7_payRing_131 : decode cX7_payRing 131 = .ok (.getfield 15, 3) := by decide +kernel
theorem dX7_payRing_134 : decode cX7_payRing 134 = .ok (.iconst 0, 1) := by decide +kernel
theorem dX7_payRing_135 : decode cX7_payRing 135 = .ok (.iaload, 1) := by decide +kernel
theorem dX7_payRing_136 : decode cX7_payRing 136 = .ok (.if_icmp .ge 60, 3) := by decide +kernel
theorem dX7_payRing_139 : decode cX7_payRing 139 = .ok (.iload 5, 2) := by decide +kernel
theorem dX7_payRing_141 : decode cX7_payRing 141 = .ok (.ifCond .eq 49, 3) := by decide +kernel
theorem dX7_payRing_144 : decode cX7_payRing 144 = .ok (.iload_n 3, 1) := by decide +kernel
theorem dX7_payRing_145 : decode cX7_payRing 145 = .ok (.iload 7, 2) := by decide +kernel
theorem dX7_payRing_147 : decode cX7_payRing 147 = .ok (.invokestatic 102, 3) := by decide +kernel
theorem dX7_payRing_150 : decode cX7_payRing 150 = .ok (.ifCond .eq 40, 3) := by decide +kernel
theorem dX7_payRing_153 : decode cX7_payRing 153 = .ok (.aload_n 0, 1) := by decide +kernel
theorem dX7_payRing_154 : decode cX7_payRing 154 = .ok (.getfield 37, 3) := by decide +kernel
theorem dX7_payRing_157 : decode cX7_payRing 157 = .ok (.iload 7, 2) := by decide +kernel
theorem dX7_payRing_159 : decode cX7_payRing 159 = .ok (.iaload, 1) := by decide +kernel
theorem dX7_payRing_160 : decode cX7_payRing 160 = .ok (.aload_n 0, 1) := by decide +kernel
theorem dX7_payRing_161 : decode cX7_payRing 161 = .ok (.getfield 46, 3) := by decide +kernel
theorem dX7_payRing_164 : decode cX7_payRing 164 = .ok (.iload 7, 2) := by decide +kernel
theorem dX7_payRing_166 : decode cX7_payRing 166 = .ok (.iaload, 1) := by decide +kernel
theorem dX7_payRing_167 : decode cX7_payRing 167 = .ok (.if_icmp .ne 6, 3) := by decide +kernel
