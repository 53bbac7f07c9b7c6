theorem dX7_payRing_170 : decode cX7_payRing 170 = .ok (.goto 20, 3) := by decide +kernel
theorem dX7_payRing_173 : decode cX7_payRing 173 = .ok (.aload_n 0, 1) := by decide +kernel
theorem dX7_payRing_174 : decode cX7_payRing 174 = .ok (.getfield 37, 3) := by decide +kernel
theorem dX7_payRing_177 : decode cX7_payRing 177 = .ok (.iload 7, 2) := by decide +kernel
theorem dX7_payRing_179 : decode cX7_payRing 179 = .ok (.dup2, 1) := by decide +kernel
theorem dX7_payRing_180 : decode cX7_payRing 180 = .ok (.iaload, 1) := by decide +kernel
theorem dX7_payRing_181 : decode cX7_payRing 181 = .ok (.iconst 1, 1) := by decide +kernel
theorem dX7_payRing_182 : decode cX7_payRing 182 = .ok (.iadd, 1) := by decide +kernel
theorem dX7_payRing_183 : decode cX7_payRing 183 = .ok (.iastore, 1) := by decide +kernel
theorem dX7_payRing_184 : decode cX7_payRing 184 = .ok (.iinc 5 (-1), 3) := by decide +kernel
theorem dX7_payRing_187 : decode cX7_payRing 187 = .ok (.iconst 1, 1) := by decide +kernel
theorem dX7_payRing_188 : decode cX7_payRing 188 = .ok (.istore 6, 2) := by decide +kernel
theorem dX7_payRing_190 : decode cX7_payRing 190 = .ok (.iinc 7 1, 3) := by decide +kernel
theorem dX7_payRing_193 : decode cX7_payRing 193 = .ok (.goto (-65), 3) := by decide +kernel
theorem dX7_payRing_196 : decode cX7_payRing 196 = .ok (.goto (-79), 3) := by decide +kernel
theorem dX7_payRing_199 : decode cX7_payRing 199 = .ok (.return_, 1) := by decide +kernel
theorem dX7_pay_0 : decode cX7_pay 0 = .ok (.aload_n 0, 1) := by decide +kernel
theorem dX7_pay_1 : decode cX7_pay 1 = .ok (.invokevirtual 139, 3) := by decide +kernel
theorem dX7_pay_4 : decode cX7_pay 4 = .ok (.aload_n 0, 1) := by decide +kernel
theorem dX7_pay_5 : decode cX7_pay 5 = .ok (.iconst 0, 1) := by decide +kernel
theorem dX7_pay_6 : decode cX7_pay 6 = .ok (.putfield 142, 3) := by decide +kernel
theorem dX7_pay_9 : decode cX7_pay 9 = .ok (.iconst 0, 1) := by decide +kernel
theorem dX7_pay_10 : decode cX7_pay 10 = .ok (.istore_n 1, 1) := by decide +kernel
theorem dX7_pay_11 : decode cX7_pay 11 = .ok (.iload_n 1, 1) := by decide +kernel
theorem dX7_pay_12 : decode cX7_pay 12 = .ok (.bipush 6, 2) := by decide +kernel
theorem dX7_pay_14 : decode cX7_pay 14 = .ok (.if_icmp .ge 16, 3) := by decide +kernel
theorem dX7_pay_17 : decode cX7_pay 17 = .ok (.aload_n 0, 1) := by decide +kernel
theorem dX7_pay_18 : decode cX7_pay 18 = .ok (.getfield 37, 3) := by decide +kernel
theorem dX7_pay_21 : decode cX7_pay 21 = .ok (.iload_n 1, 1) := by decide +kernel
theorem dX7_pay_22 : decode cX7_pay 22 = .ok (.iconst 0, 1) := by decide +kernel
theorem dX7_pay_23 : decode cX7_pay 23 = .ok (.iastore, 1) := by decide +kernel
theorem dX7_pay_24 : decode cX7_pay 24 = .ok (.iinc 1 1, 3) := by decide +kernel
theorem dX7_pay_27 : decode cX7_pay 27 = .ok (.goto (-16), 3) := by decide +kernel
theorem dX7_pay_30 : decode cX7_pay 30 = .ok (.iconst 0, 1) := by decide +kernel
theorem dX7_pay_31 : decode cX7_pay 31 = .ok (.istore_n 1, 1) := by decide +kernel
theorem dX7_pay_32 : decode cX7_pay 32 = .ok (.iload_n 1, 1) := by decide +kernel
theorem dX7_pay_33 : decode cX7_pay 33 = .ok (.aload_n 0, 1) := by decide +kernel
theorem dX7_pay_34 : decode cX7_pay 34 = .ok (.getfield 115, 3) := by decide +kernel
theorem dX7_pay_37 : decode cX7_pay 37 = .ok (.if_icmp .ge 109, 3) := by decide +kernel
theorem dX7_pay_40 : decode cX7_pay 40 = .ok (.aload_n 0, 1) := by decide +kernel
theorem dX7_pay_41 : decode cX7_pay 41 = .ok (.getfield 40, 3) := by decide +kernel
theorem dX7_pay_44 : decode cX7_pay 44 = .ok (.iload_n 1, 1) := by decide +kernel
theorem dX7_pay_45 : decode cX7_pay 45 = .ok (.aload_n 0, 1) := by decide +kernel
theorem dX7_pay_46 : decode cX7_pay 46 = .ok (.getfield 15, 3) := by decide +kernel
theorem dX7_pay_49 : decode cX7_pay 49 = .ok (.iconst 1, 1) := by decide +kernel
theorem dX7_pay_50 : decode cX7_pay 50 = .ok (.iaload, 1) := by decide +kernel
theorem dX7_pay_51 : decode cX7_pay 51 = .ok (.aload_n 0, 1) := by decide +kernel
theorem dX7_pay_52 : decode cX7_pay 52 = .ok (.getfield 142, 3) := by decide +kernel
theorem dX7_pay_55 : decode cX7_pay 55 = .ok (.isub, 1) := by decide +kernel
theorem dX7_pay_56 : decode cX7_pay 56 = .ok (.iastore, 1) := by decide +kernel
theorem dX7_pay_57 : decode cX7_pay 57 = .ok (.aload_n 0, 1) := by decide +kernel
theorem dX7_pay_58 : decode cX7_pay 58 = .ok (.iload_n 1, 1) := by decide +kernel
theorem dX7_pay_59 : decode cX7_pay 59 = .ok (.aload_n 0, 1) := by decide +kernel
theorem dX7_pay_60 : decode cX7_pay 60 = .ok (.getfield 40, 3) := by decide +kernel
theorem dX7_pay_63 : decode cX7_pay 63 = .ok (.iload_n 1, 1) := by decide +kernel
theorem dX7_pay_64 : decode cX7_pay 64 = .ok (.iaload, 1) := by decide +kernel
theorem dX7_pay_65 : decode cX7_pay 65 = .ok (.invokevirtual 145, 3) := by decide +kernel
theorem dX7_pay_68 : decode cX7_pay 68 = .ok (.aload_n 0, 1) := by decide +kernel
theorem dX7_pay_69 : decode cX7_pay 69 = .ok (.getfield 43, 3) := by decide +kernel
theorem dX7_pay_72 : decode cX7_pay 72 = .ok (.iload_n 1, 1) := by decide +kernel
theorem dX7_pay_73 : decode cX7_pay 73 = .ok (.iconst 0, 1) := by decide +kernel
theorem dX7_pay_74 : decode cX7_pay 74 = .ok (.iastore, 1) := by decide +kernel
theorem dX7_pay_75 : decode cX7_pay 75 = .ok (.iconst 0, 1) := by decide +kernel
theorem dX7_pay_76 : decode cX7_pay 76 = .ok (.istore_n 2, 1) := by decide +kernel
theorem dX7_pay_77 : decode cX7_pay 77 = .ok (.iload_n 2, 1) := by decide +kernel
theorem dX7_pay_78 : decode cX7_pay 78 = .ok (.aload_n 0, 1) := by decide +kernel
theorem dX7_pay_79 : decode cX7_pay 79 = .ok (.getfield 15, 3) := by decide +kernel
theorem dX7_pay_82 : decode cX7_pay 82 = .ok (.iconst 0, 1) := by decide +kernel
theorem dX7_pay_83 : decode cX7_pay 83 = .ok (.iaload, 1) := by decide +kernel
theorem dX7_pay_84 : decode cX7_pay 84 = .ok (.if_icmp .ge 41, 3) := by decide +kernel
theorem dX7_pay_87 : decode cX7_pay 87 = .ok (.aload_n 0, 1) := by decide +kernel
theorem dX7_pay_88 : decode cX7_pay 88 = .ok (.getfield 43, 3) := by decide +kernel
theorem dX7_pay_91 : decode cX7_pay 91 = .ok (.iload_n 1, 1) := by decide +kernel
theorem dX7_pay_92 : decode cX7_pay 92 = .ok (.dup2, 1) := by decide +kernel
theorem dX7_pay_93 : decode cX7_pay 93 = .ok (.iaload, 1) := by decide +kernel
theorem dX7_pay_94 : decode cX7_pay 94 = .ok (.aload_n 0, 1) := by decide +kernel
theorem dX7_pay_95 : decode cX7_pay 95 = .ok (.getfield 34, 3) := by decide +kernel
theorem dX7_pay_98 : decode cX7_pay 98 = .ok (.iload_n 1, 1) := by decide +kernel
theorem dX7_pay_99 : decode cX7_pay 99 = .ok (.iaload, 1) := by decide +kernel
theorem dX7_pay_100 : decode cX7_pay 100 = .ok (.iload_n 2, 1) := by decide +kernel
theorem dX7_pay_101 : decode cX7_pay 101 = .ok (.invokestatic 102, 3) := by decide +kernel
theorem dX7_pay_104 : decode cX7_pay 104 = .ok (.ifCond .eq 12, 3) := by decide +kernel
theorem dX7_pay_107 : decode cX7_pay 107 = .ok (.aload_n 0, 1) := by decide +kernel
theorem dX7_pay_108 : decode cX7_pay 108 = .ok (.getfield 37, 3) := by decide +kernel
theorem dX7_pay_111 : decode cX7_pay 111 = .ok (.iload_n 2, 1) := by decide +kernel
theorem dX7_pay_112 : decode cX7_pay 112 = .ok (.iaload, 1) := by decide +kernel
theorem dX7_pay_113 : decode cX7_pay 113 = .ok (.goto 4, 3) := by decide +kernel
theorem dX7_pay_116 : decode cX7_pay 116 = .ok (.iconst 0, 1) := by decide +kernel
theorem dX7_pay_117 : decode cX7_pay 117 = .ok (.iadd, 1) := by decide +kernel
theorem dX7_pay_118 : decode cX7_pay 118 = .ok (.iastore, 1) := by decide +kernel
theorem dX7_pay_119 : decode cX7_pay 119 = .ok (.iinc 2 1, 3) := by decide +kernel
theorem dX7_pay_122 : decode cX7_pay 122 = .ok (.goto (-45), 3) := by decide +kernel
theorem dX7_pay_125 : decode cX7_pay 125 = .ok (.aload_n 0, 1) := by decide +kernel
theorem dX7_pay_126 : decode cX7_pay 126 = .ok (.dup, 1) := by decide +kernel
theorem dX7_pay_127 : decode cX7_pay 127 = .ok (.getfield 142, 3) := by decide +kernel
theorem dX7_pay_130 : decode cX7_pay 130 = .ok (.aload_n 0, 1) := by decide +kernel
theorem dX7_pay_131 : decode cX7_pay 131 = .ok (.getfield 43, 3) := by decide +kernel
theorem dX7_pay_134 : decode cX7_pay 134 = .ok (.iload_n 1, 1) := by decide +kernel
theorem dX7_pay_135 : decode cX7_pay 135 = .ok (.iaload, 1) := by decide +kernel
theorem dX7_pay_136 : decode cX7_pay 136 = .ok (.iadd, 1) := by decide +kernel
theorem dX7_pay_137 : decode cX7_pay 137 = .ok (.putfield 142, 3) := by decide +kernel
theorem dX7_pay_140 : decode cX7_pay 140 = .ok (.iinc 1 1, 3) := by decide +kernel
theorem dX7_pay_143 : decode cX7_pay 143 = .ok (.goto (-111), 3) := by decide +kernel
theorem dX7_pay_146 : decode cX7_pay 146 = .ok (.return_, 1) := by decide +kernel
theorem dX7_rungAt_0 : decode cX7_rungAt 0 = .ok (.iconst 0, 1) := by decide +kernel
theorem dX7_rungAt_1 : decode cX7_rungAt 1 = .ok (.istore_n 2, 1) := by decide +kernel
theorem dX7_rungAt_2 : decode cX7_rungAt 2 = .ok (.iload_n 2, 1) := by decide +kernel
theorem dX7_rungAt_3 : decode cX7_rungAt 3 = .ok (.aload_n 0, 1) := by decide +kernel
theorem dX7_rungAt_4 : decode cX7_rungAt 4 = .ok (.getfield 115, 3) := by decide +kernel
theorem dX7_rungAt_7 : decode cX7_rungAt 7 = .ok (.if_icmp .ge 24, 3) := by decide +kernel
theorem dX7_rungAt_10 : decode cX7_rungAt 10 = .ok (.aload_n 0, 1) := by decide +kernel
theorem dX7_rungAt_11 : decode cX7_rungAt 11 = .ok (.getfield 34, 3) := by decide +kernel
theorem dX7_rungAt_14 : decode cX7_rungAt 14 = .ok (.iload_n 2, 1) := by decide +kernel
theorem dX7_rungAt_15 : decode cX7_rungAt 15 = .ok (.iaload, 1) := by decide +kernel
theorem dX7_rungAt_16 : decode cX7_rungAt 16 = .ok (.iload_n 1, 1) := by decide +kernel
theorem dX7_rungAt_17 : decode cX7_rungAt 17 = .ok (.invokestatic 102, 3) := by decide +kernel
theorem dX7_rungAt_20 : decode cX7_rungAt 20 = .ok (.ifCond .eq 5, 3) := by decide +kernel
theorem dX7_rungAt_23 : decode cX7_rungAt 23 = .ok (.iload_n 2, 1) := by decide +kernel
theorem dX7_rungAt_24 : decode cX7_rungAt 24 = .ok (.ireturn, 1) := by decide +kernel
theorem dX7_rungAt_25 : decode cX7_rungAt 25 = .ok (.iinc 2 1, 3) := by decide +kernel
theorem dX7_rungAt_28 : decode cX7_rungAt 28 = .ok (.goto (-26), 3) := by decide +kernel
theorem dX7_rungAt_31 : decode cX7_rungAt 31 = .ok (.iconst (-1), 1) := by decide +kernel
theorem dX7_rungAt_32 : decode cX7_rungAt 32 = .ok (.ireturn, 1) := by decide +kernel
theorem dX7_of_0 : decode cX7_of 0 = .ok (.aload_n 0, 1) := by decide +kernel
theorem dX7_of_1 : decode cX7_of 1 = .ok (.iload_n 1, 1) := by decide +kernel
theorem dX7_of_2 : decode cX7_of 2 = .ok (.invokevirtual 92, 3) := by decide +kernel
theorem dX7_of_5 : decode cX7_of 5 = .ok (.ifCond .ne 5, 3) := by decide +kernel
theorem dX7_of_8 : decode cX7_of 8 = .ok (.iconst (-1), 1) := by decide +kernel
theorem dX7_of_9 : decode cX7_of 9 = .ok (.ireturn, 1) := by decide +kernel
theorem dX7_of_10 : decode cX7_of 10 = .ok (.aload_n 0, 1) := by decide +kernel
theorem dX7_of_11 : decode cX7_of 11 = .ok (.invokevirtual 148, 3) := by decide +kernel
theorem dX7_of_14 : decode cX7_of 14 = .ok (.iload_n 2, 1) := by decide +kernel
theorem dX7_of_15 : decode cX7_of 15 = .ok (.tableswitch 147 0 9 #[53, 62, 72, 82, 92, 102, 115, 122, 129, 140], 53) := by decide +kernel
theorem dX7_of_68 : decode cX7_of 68 = .ok (.aload_n 0, 1) := by decide +kernel
theorem dX7_of_69 : decode cX7_of 69 = .ok (.getfield 15, 3) := by decide +kernel
theorem dX7_of_72 : decode cX7_of 72 = .ok (.iconst 5, 1) := by decide +kernel
theorem dX7_of_73 : decode cX7_of 73 = .ok (.iload_n 1, 1) := by decide +kernel
theorem dX7_of_74 : decode cX7_of 74 = .ok (.iadd, 1) := by decide +kernel
theorem dX7_of_75 : decode cX7_of 75 = .ok (.iaload, 1) := by decide +kernel
theorem dX7_of_76 : decode cX7_of 76 = .ok (.ireturn, 1) := by decide +kernel
theorem dX7_of_77 : decode cX7_of 77 = .ok (.aload_n 0, 1) := by decide +kernel
theorem dX7_of_78 : decode cX7_of 78 = .ok (.getfield 15, 3) := by decide +kernel
theorem dX7_of_81 : decode cX7_of 81 = .ok (.bipush 11, 2) := by decide +kernel
theorem dX7_of_83 : decode cX7_of 83 = .ok (.iload_n 1, 1) := by decide +kernel
theorem dX7_of_84 : decode cX7_of 84 = .ok (.iadd, 1) := by decide +kernel
theorem dX7_of_85 : decode cX7_of 85 = .ok (.iaload, 1) := by decide +kernel
theorem dX7_of_86 : decode cX7_of 86 = .ok (.ireturn, 1) := by decide +kernel
theorem dX7_of_87 : decode cX7_of 87 = .ok (.aload_n 0, 1) := by decide +kernel
theorem dX7_of_88 : decode cX7_of 88 = .ok (.getfield 15, 3) := by decide +kernel
theorem dX7_of_91 : decode cX7_of 91 = .ok (.bipush 17, 2) := by decide +kernel
theorem dX7_of_93 : decode cX7_of 93 = .ok (.iload_n 1, 1) := by decide +kernel
theorem dX7_of_94 : decode cX7_of 94 = .ok (.iadd, 1) := by decide +kernel
theorem dX7_of_95 : decode cX7_of 95 = .ok (.iaload, 1) := by decide +kernel
theorem dX7_of_96 : decode cX7_of 96 = .ok (.ireturn, 1) := by decide +kernel
theorem dX7_of_97 : decode cX7_of 97 = .ok (.aload_n 0, 1) := by decide +kernel
theorem dX7_of_98 : decode cX7_of 98 = .ok (.getfield 15, 3) := by decide +kernel
theorem dX7_of_101 : decode cX7_of 101 = .ok (.bipush 23, 2) := by decide +kernel
theorem dX7_of_103 : decode cX7_of 103 = .ok (.iload_n 1, 1) := by decide +kernel
theorem dX7_of_104 : decode cX7_of 104 = .ok (.iadd, 1) := by decide +kernel
theorem dX7_of_105 : decode cX7_of 105 = .ok (.iaload, 1) := by decide +kernel
theorem dX7_of_106 : decode cX7_of 106 = .ok (.ireturn, 1) := by decide +kernel
theorem dX7_of_107 : decode cX7_of 107 = .ok (.aload_n 0, 1) := by decide +kernel
theorem dX7_of_108 : decode cX7_of 108 = .ok (.getfield 15, 3) := by decide +kernel
theorem dX7_of_111 : decode cX7_of 111 = .ok (.bipush 29, 2) := by decide +kernel
theorem dX7_of_113 : decode cX7_of 113 = .ok (.iload_n 1, 1) := by decide +kernel
theorem dX7_of_114 : decode cX7_of 114 = .ok (.iadd, 1) := by decide +kernel
theorem dX7_of_115 : decode cX7_of 115 = .ok (.iaload, 1) := by decide +kernel
theorem dX7_of_116 : decode cX7_of 116 = .ok (.ireturn, 1) := by decide +kernel
theorem dX7_of_117 : decode cX7_of 117 = .ok (.aload_n 0, 1) := by decide +kernel
theorem dX7_of_118 : decode cX7_of 118 = .ok (.getfield 25, 3) := by decide +kernel
theorem dX7_of_121 : decode cX7_of 121 = .ok (.iload_n 1, 1) := by decide +kernel
theorem dX7_of_122 : decode cX7_of 122 = .ok (.iaload, 1) := by decide +kernel
theorem dX7_of_123 : decode cX7_of 123 = .ok (.iconst 1, 1) := by decide +kernel
theorem dX7_of_124 : decode cX7_of 124 = .ok (.iload_n 1, 1) := by decide +kernel
theorem dX7_of_125 : decode cX7_of 125 = .ok (.ishl, 1) := by decide +kernel
theorem dX7_of_126 : decode cX7_of 126 = .ok (.iconst (-1), 1) := by decide +kernel
theorem dX7_of_127 : decode cX7_of 127 = .ok (.ixor, 1) := by decide +kernel
theorem dX7_of_128 : decode cX7_of 128 = .ok (.iand, 1) := by decide +kernel
theorem dX7_of_129 : decode cX7_of 129 = .ok (.ireturn, 1) := by decide +kernel
theorem dX7_of_130 : decode cX7_of 130 = .ok (.aload_n 0, 1) := by decide +kernel
theorem dX7_of_131 : decode cX7_of 131 = .ok (.getfield 28, 3) := by decide +kernel
theorem dX7_of_134 : decode cX7_of 134 = .ok (.iload_n 1, 1) := by decide +kernel
theorem dX7_of_135 : decode cX7_of 135 = .ok (.iaload, 1) := by decide +kernel
theorem dX7_of_136 : decode cX7_of 136 = .ok (.ireturn, 1) := by decide +kernel
theorem dX7_of_137 : decode cX7_of 137 = .ok (.aload_n 0, 1) := by decide +kernel
theorem dX7_of_138 : decode cX7_of 138 = .ok (.getfield 31, 3) := by decide +kernel
theorem dX7_of_141 : decode cX7_of 141 = .ok (.iload_n 1, 1) := by decide +kernel
theorem dX7_of_142 : decode cX7_of 142 = .ok (.iaload, 1) := by decide +kernel
theorem dX7_of_143 : decode cX7_of 143 = .ok (.ireturn, 1) := by decide +kernel
theorem dX7_of_144 : decode cX7_of 144 = .ok (.aload_n 0, 1) := by decide +kernel
theorem dX7_of_145 : decode cX7_of 145 = .ok (.getfield 40, 3) := by decide +kernel
theorem dX7_of_148 : decode cX7_of 148 = .ok (.aload_n 0, 1) := by decide +kernel
theorem dX7_of_149 : decode cX7_of 149 = .ok (.iload_n 1, 1) := by decide +kernel
theorem dX7_of_150 : decode cX7_of 150 = .ok (.invokevirtual 151, 3) := by decide +kernel
theorem dX7_of_153 : decode cX7_of 153 = .ok (.iaload, 1) := by decide +kernel
theorem dX7_of_154 : decode cX7_of 154 = .ok (.ireturn, 1) := by decide +kernel
theorem dX7_of_155 : decode cX7_of 155 = .ok (.aload_n 0, 1) := by decide +kernel
theorem dX7_of_156 : decode cX7_of 156 = .ok (.getfield 37, 3) := by decide +kernel
theorem dX7_of_159 : decode cX7_of 159 = .ok (.iload_n 1, 1) := by decide +kernel
theorem dX7_of_160 : decode cX7_of 160 = .ok (.iaload, 1) := by decide +kernel
theorem dX7_of_161 : decode cX7_of 161 = .ok (.ireturn, 1) := by decide +kernel
theorem dX7_of_162 : decode cX7_of 162 = .ok (.iconst (-1), 1) := by decide +kernel
theorem dX7_of_163 : decode cX7_of 163 = .ok (.ireturn, 1) := by decide +kernel
theorem dX7_feed_0 : decode cX7_feed 0 = .ok (.iload_n 1, 1) := by decide +kernel
theorem dX7_feed_1 : decode cX7_feed 1 = .ok (.i2l, 1) := by decide +kernel
theorem dX7_feed_2 : decode cX7_feed 2 = .ok (.lconst 0, 1) := by decide +kernel
theorem dX7_feed_3 : decode cX7_feed 3 = .ok (.ldc2_w 154, 3) := by decide +kernel
theorem dX7_feed_6 : decode cX7_feed 6 = .ok (.invokestatic 80, 3) := by decide +kernel
theorem dX7_feed_9 : decode cX7_feed 9 = .ok (.ifCond .ne 6, 3) := by decide +kernel
theorem dX7_feed_12 : decode cX7_feed 12 = .ok (.bipush (-2), 2) := by decide +kernel
theorem dX7_feed_14 : decode cX7_feed 14 = .ok (.ireturn, 1) := by decide +kernel
theorem dX7_feed_15 : decode cX7_feed 15 = .ok (.aload_n 0, 1) := by decide +kernel
theorem dX7_feed_16 : decode cX7_feed 16 = .ok (.getfield 156, 3) := by decide +kernel
theorem dX7_feed_19 : decode cX7_feed 19 = .ok (.bipush 100, 2) := by decide +kernel
theorem dX7_feed_21 : decode cX7_feed 21 = .ok (.if_icmp .ne 6, 3) := by decide +kernel
theorem dX7_feed_24 : decode cX7_feed 24 = .ok (.bipush (-4), 2) := by decide +kernel
theorem dX7_feed_26 : decode cX7_feed 26 = .ok (.ireturn, 1) := by decide +kernel
theorem dX7_feed_27 : decode cX7_feed 27 = .ok (.aload_n 0, 1) := by decide +kernel
theorem dX7_feed_28 : decode cX7_feed 28 = .ok (.getfield 49, 3) := by decide +kernel
theorem dX7_feed_31 : decode cX7_feed 31 = .ok (.aload_n 0, 1) := by decide +kernel
theorem dX7_feed_32 : decode cX7_feed 32 = .ok (.getfield 156, 3) := by decide +kernel
theorem dX7_feed_35 : decode cX7_feed 35 = .ok (.iload_n 1, 1) := by decide +kernel
theorem dX7_feed_36 : decode cX7_feed 36 = .ok (.iastore, 1) := by decide +kernel
theorem dX7_feed_37 : decode cX7_feed 37 = .ok (.aload_n 0, 1) := by decide +kernel
theorem dX7_feed_38 : decode cX7_feed 38 = .ok (.dup, 1) := by decide +kernel
theorem dX7_feed_39 : decode cX7_feed 39 = .ok (.getfield 156, 3) := by decide +kernel
theorem dX7_feed_42 : decode cX7_feed 42 = .ok (.iconst 1, 1) := by decide +kernel
theorem dX7_feed_43 : decode cX7_feed 43 = .ok (.iadd, 1) := by decide +kernel
theorem dX7_feed_44 : decode cX7_feed 44 = .ok (.putfield 156, 3) := by decide +kernel
theorem dX7_feed_47 : decode cX7_feed 47 = .ok (.aload_n 0, 1) := by decide +kernel
theorem dX7_feed_48 : decode cX7_feed 48 = .ok (.getfield 156, 3) := by decide +kernel
theorem dX7_feed_51 : decode cX7_feed 51 = .ok (.ireturn, 1) := by decide +kernel
theorem dX7_here_0 : decode cX7_here 0 = .ok (.aload_n 0, 1) := by decide +kernel
theorem dX7_here_1 : decode cX7_here 1 = .ok (.getfield 159, 3) := by decide +kernel
theorem dX7_here_4 : decode cX7_here 4 = .ok (.aload_n 0, 1) := by decide +kernel
theorem dX7_here_5 : decode cX7_here 5 = .ok (.getfield 156, 3) := by decide +kernel
theorem dX7_here_8 : decode cX7_here 8 = .ok (.if_icmp .ge 15, 3) := by decide +kernel
theorem dX7_here_11 : decode cX7_here 11 = .ok (.aload_n 0, 1) := by decide +kernel
theorem dX7_here_12 : decode cX7_here 12 = .ok (.getfield 49, 3) := by decide +kernel
theorem dX7_here_15 : decode cX7_here 15 = .ok (.aload_n 0, 1) := by decide +kernel
theorem dX7_here_16 : decode cX7_here 16 = .ok (.getfield 159, 3) := by decide +kernel
theorem dX7_here_19 : decode cX7_here 19 = .ok (.iaload, 1) := by decide +kernel
theorem dX7_here_20 : decode cX7_here 20 = .ok (.goto 4, 3) := by decide +kernel
theorem dX7_here_23 : decode cX7_here 23 = .ok (.iconst (-1), 1) := by decide +kernel
theorem dX7_here_24 : decode cX7_here 24 = .ok (.ireturn, 1) := by decide +kernel
theorem dX7_number_0 : decode cX7_number 0 = .ok (.iconst 0, 1) := by decide +kernel
theorem dX7_number_1 : decode cX7_number 1 = .ok (.istore_n 2, 1) := by decide +kernel
theorem dX7_number_2 : decode cX7_number 2 = .ok (.iconst 0, 1) := by decide +kernel
theorem dX7_number_3 : decode cX7_number 3 = .ok (.istore_n 3, 1) := by decide +kernel
theorem dX7_number_4 : decode cX7_number 4 = .ok (.aload_n 0, 1) := by decide +kernel
theorem dX7_number_5 : decode cX7_number 5 = .ok (.getfield 162, 3) := by decide +kernel
theorem dX7_number_8 : decode cX7_number 8 = .ok (.ifCond .ne 59, 3) := by decide +kernel
theorem dX7_number_11 : decode cX7_number 11 = .ok (.iload_n 3, 1) := by decide +kernel
theorem dX7_number_12 : decode cX7_number 12 = .ok (.iload_n 1, 1) := by decide +kernel
theorem dX7_number_13 : decode cX7_number 13 = .ok (.if_icmp .ge 54, 3) := by decide +kernel
theorem dX7_number_16 : decode cX7_number 16 = .ok (.aload_n 0, 1) := by decide +kernel
theorem dX7_number_17 : decode cX7_number 17 = .ok (.invokevirtual 166, 3) := by decide +kernel
theorem dX7_number_20 : decode cX7_number 20 = .ok (.i2l, 1) := by decide +kernel
theorem dX7_number_21 : decode cX7_number 21 = .ok (.ldc2_w 170, 3) := by decide +kernel
theorem dX7_number_24 : decode cX7_number 24 = .ok (.ldc2_w 172, 3) := by decide +kernel
theorem dX7_number_27 : decode cX7_number 27 = .ok (.invokestatic 80, 3) := by decide +kernel
theorem dX7_number_30 : decode cX7_number 30 = .ok (.ifCond .eq 37, 3) := by decide +kernel
theorem dX7_number_33 : decode cX7_number 33 = .ok (.bipush 10, 2) := by decide +kernel
theorem dX7_number_35 : decode cX7_number 35 = .ok (.iload_n 2, 1) := by decide +kernel
theorem dX7_number_36 : decode cX7_number 36 = .ok (.imul, 1) := by decide +kernel
theorem dX7_number_37 : decode cX7_number 37 = .ok (.aload_n 0, 1) := by decide +kernel
theorem dX7_number_38 : decode cX7_number 38 = .ok (.getfield 49, 3) := by decide +kernel
theorem dX7_number_41 : decode cX7_number 41 = .ok (.aload_n 0, 1) := by decide +kernel
theorem dX7_number_42 : decode cX7_number 42 = .ok (.getfield 159, 3) := by decide +kernel
theorem dX7_number_45 : decode cX7_number 45 = .ok (.iaload, 1) := by decide +kernel
theorem dX7_number_46 : decode cX7_number 46 = .ok (.iadd, 1) := by decide +kernel
theorem dX7_number_47 : decode cX7_number 47 = .ok (.bipush 48, 2) := by decide +kernel
theorem dX7_number_49 : decode cX7_number 49 = .ok (.isub, 1) := by decide +kernel
theorem dX7_number_50 : decode cX7_number 50 = .ok (.istore_n 2, 1) := by decide +kernel
theorem dX7_number_51 : decode cX7_number 51 = .ok (.aload_n 0, 1) := by decide +kernel
theorem dX7_number_52 : decode cX7_number 52 = .ok (.dup, 1) := by decide +kernel
theorem dX7_number_53 : decode cX7_number 53 = .ok (.getfield 159, 3) := by decide +kernel
theorem dX7_number_56 : decode cX7_number 56 = .ok (.iconst 1, 1) := by decide +kernel
theorem dX7_number_57 : decode cX7_number 57 = .ok (.iadd, 1) := by decide +kernel
theorem dX7_number_58 : decode cX7_number 58 = .ok (.putfield 159, 3) := by decide +kernel
theorem dX7_number_61 : decode cX7_number 61 = .ok (.iinc 3 1, 3) := by decide +kernel
theorem dX7_number_64 : decode cX7_number 64 = .ok (.goto (-60), 3) := by decide +kernel
theorem dX7_number_67 : decode cX7_number 67 = .ok (.aload_n 0, 1) := by decide +kernel
theorem dX7_number_68 : decode cX7_number 68 = .ok (.aload_n 0, 1) := by decide +kernel
theorem dX7_number_69 : decode cX7_number 69 = .ok (.getfield 162, 3) := by decide +kernel
theorem dX7_number_72 : decode cX7_number 72 = .ok (.ifCond .ne 7, 3) := by decide +kernel
theorem dX7_number_75 : decode cX7_number 75 = .ok (.iload_n 3, 1) := by decide +kernel
theorem dX7_number_76 : decode cX7_number 76 = .ok (.ifCond .ne 7, 3) := by decide +kernel
theorem dX7_number_79 : decode cX7_number 79 = .ok (.iconst 1, 1) := by decide +kernel
theorem dX7_number_80 : decode cX7_number 80 = .ok (.goto 4, 3) := by decide +kernel
theorem dX7_number_83 : decode cX7_number 83 = .ok (.iconst 0, 1) := by decide +kernel
theorem dX7_number_84 : decode cX7_number 84 = .ok (.putfield 162, 3) := by decide +kernel
theorem dX7_number_87 : decode cX7_number 87 = .ok (.iload_n 2, 1) := by decide +kernel
theorem dX7_number_88 : decode cX7_number 88 = .ok (.ireturn, 1) := by decide +kernel
theorem dX7_comma_0 : decode cX7_comma 0 = .ok (.aload_n 0, 1) := by decide +kernel
theorem dX7_comma_1 : decode cX7_comma 1 = .ok (.getfield 162, 3) := by decide +kernel
theorem dX7_comma_4 : decode cX7_comma 4 = .ok (.ifCond .ne 12, 3) := by decide +kernel
theorem dX7_comma_7 : decode cX7_comma 7 = .ok (.aload_n 0, 1) := by decide +kernel
theorem dX7_comma_8 : decode cX7_comma 8 = .ok (.invokevirtual 166, 3) := by decide +kernel
theorem dX7_comma_11 : decode cX7_comma 11 = .ok (.bipush 44, 2) := by decide +kernel
theorem dX7_comma_13 : decode cX7_comma 13 = .ok (.if_icmp .eq 9, 3) := by decide +kernel
theorem dX7_comma_16 : decode cX7_comma 16 = .ok (.aload_n 0, 1) := by decide +kernel
theorem dX7_comma_17 : decode cX7_comma 17 = .ok (.iconst 1, 1) := by decide +kernel
theorem dX7_comma_18 : decode cX7_comma 18 = .ok (.putfield 162, 3) := by decide +kernel
theorem dX7_comma_21 : decode cX7_comma 21 = .ok (.return_, 1) := by decide +kernel
theorem dX7_comma_22 : decode cX7_comma 22 = .ok (.aload_n 0, 1) := by decide +kernel
theorem dX7_comma_23 : decode cX7_comma 23 = .ok (.dup, 1) := by decide +kernel
theorem dX7_comma_24 : decode cX7_comma 24 = .ok (.getfield 159, 3) := by decide +kernel
theorem dX7_comma_27 : decode cX7_comma 27 = .ok (.iconst 1, 1) := by decide +kernel
theorem dX7_comma_28 : decode cX7_comma 28 = .ok (.iadd, 1) := by decide +kernel
theorem dX7_comma_29 : decode cX7_comma 29 = .ok (.putfield 159, 3) := by decide +kernel
theorem dX7_comma_32 : decode cX7_comma 32 = .ok (.return_, 1) := by decide +kernel
theorem dX7_clause_0 : decode cX7_clause 0 = .ok (.aload_n 0, 1) := by decide +kernel
theorem dX7_clause_1 : decode cX7_clause 1 = .ok (.invokevirtual 166, 3) := by decide +kernel
theorem dX7_clause_4 : decode cX7_clause 4 = .ok (.istore_n 1, 1) := by decide +kernel
theorem dX7_clause_5 : decode cX7_clause 5 = .ok (.aload_n 0, 1) := by decide +kernel
theorem dX7_clause_6 : decode cX7_clause 6 = .ok (.getfield 174, 3) := by decide +kernel
theorem dX7_clause_9 : decode cX7_clause 9 = .ok (.bipush 12, 2) := by decide +kernel
theorem dX7_clause_11 : decode cX7_clause 11 = .ok (.if_icmp .eq 33, 3) := by decide +kernel
theorem dX7_clause_14 : decode cX7_clause 14 = .ok (.iload_n 1, 1) := by decide +kernel
theorem dX7_clause_15 : decode cX7_clause 15 = .ok (.bipush 99, 2) := by decide +kernel
theorem dX7_clause_17 : decode cX7_clause 17 = .ok (.if_icmp .eq 33, 3) := by decide +kernel
theorem dX7_clause_20 : decode cX7_clause 20 = .ok (.iload_n 1, 1) := by decide +kernel
theorem dX7_clause_21 : decode cX7_clause 21 = .ok (.bipush 114, 2) := by decide +kernel
theorem dX7_clause_23 : decode cX7_clause 23 = .ok (.if_icmp .eq 27, 3) := by decide +kernel
theorem dX7_clause_26 : decode cX7_clause 26 = .ok (.iload_n 1, 1) := by decide +kernel
theorem dX7_clause_27 : decode cX7_clause 27 = .ok (.bipush 110, 2) := by decide +kernel
theorem dX7_clause_29 : decode cX7_clause 29 = .ok (.if_icmp .eq 21, 3) := by decide +kernel
theorem dX7_clause_32 : decode cX7_clause 32 = .ok (.iload_n 1, 1) := by decide +kernel
theorem dX7_clause_33 : decode cX7_clause 33 = .ok (.bipush 113, 2) := by decide +kernel
theorem dX7_clause_35 : decode cX7_clause 35 = .ok (.if_icmp .eq 15, 3) := by decide +kernel
theorem dX7_clause_38 : decode cX7_clause 38 = .ok (.iload_n 1, 1) := by decide +kernel
theorem dX7_clause_39 : decode cX7_clause 39 = .ok (.bipush 108, 2) := by decide +kernel
theorem dX7_clause_41 : decode cX7_clause 41 = .ok (.if_icmp .eq 9, 3) := by decide +kernel
theorem dX7_clause_44 : decode cX7_clause 44 = .ok (.aload_n 0, 1) := by decide +kernel
theorem dX7_clause_45 : decode cX7_clause 45 = .ok (.iconst 1, 1) := by decide +kernel
theorem dX7_clause_46 : decode cX7_clause 46 = .ok (.putfield 162, 3) := by decide +kernel
theorem dX7_clause_49 : decode cX7_clause 49 = .ok (.return_, 1) := by decide +kernel
theorem dX7_clause_50 : decode cX7_clause 50 = .ok (.aload_n 0, 1) := by decide +kernel
theorem dX7_clause_51 : decode cX7_clause 51 = .ok (.dup, 1) := by decide +kernel
theorem dX7_clause_52 : decode cX7_clause 52 = .ok (.getfield 159, 3) := by decide +kernel
theorem dX7_clause_55 : decode cX7_clause 55 = .ok (.iconst 1, 1) := by decide +kernel
theorem dX7_clause_56 : decode cX7_clause 56 = .ok (.iadd, 1) := by decide +kernel
theorem dX7_clause_57 : decode cX7_clause 57 = .ok (.putfield 159, 3) := by decide +kernel
theorem dX7_clause_60 : decode cX7_clause 60 = .ok (.aload_n 0, 1) := by decide +kernel
theorem dX7_clause_61 : decode cX7_clause 61 = .ok (.getfield 52, 3) := by decide +kernel
theorem dX7_clause_64 : decode cX7_clause 64 = .ok (.aload_n 0, 1) := by decide +kernel
theorem dX7_clause_65 : decode cX7_clause 65 = .ok (.getfield 174, 3) := by decide +kernel
theorem dX7_clause_68 : decode cX7_clause 68 = .ok (.iload_n 1, 1) := by decide +kernel
theorem dX7_clause_69 : decode cX7_clause 69 = .ok (.iastore, 1) := by decide +kernel
theorem dX7_clause_70 : decode cX7_clause 70 = .ok (.aload_n 0, 1) := by decide +kernel
theorem dX7_clause_71 : decode cX7_clause 71 = .ok (.getfield 55, 3) := by decide +kernel
theorem dX7_clause_74 : decode cX7_clause 74 = .ok (.aload_n 0, 1) := by decide +kernel
theorem dX7_clause_75 : decode cX7_clause 75 = .ok (.getfield 174, 3) := by decide +kernel
theorem dX7_clause_78 : decode cX7_clause 78 = .ok (.aload_n 0, 1) := by decide +kernel
theorem dX7_clause_79 : decode cX7_clause 79 = .ok (.iload_n 1, 1) := by decide +kernel
theorem dX7_clause_80 : decode cX7_clause 80 = .ok (.bipush 108, 2) := by decide +kernel
theorem dX7_clause_82 : decode cX7_clause 82 = .ok (.if_icmp .ne 7, 3) := by decide +kernel
theorem dX7_clause_85 : decode cX7_clause 85 = .ok (.iconst 3, 1) := by decide +kernel
theorem dX7_clause_86 : decode cX7_clause 86 = .ok (.goto 4, 3) := by decide +kernel
theorem dX7_clause_89 : decode cX7_clause 89 = .ok (.iconst 1, 1) := by decide +kernel
theorem dX7_clause_90 : decode cX7_clause 90 = .ok (.invokevirtual 177, 3) := by decide +kernel
theorem dX7_clause_93 : decode cX7_clause 93 = .ok (.iastore, 1) := by decide +kernel
theorem dX7_clause_94 : decode cX7_clause 94 = .ok (.aload_n 0, 1) := by decide +kernel
theorem dX7_clause_95 : decode cX7_clause 95 = .ok (.getfield 58, 3) := by decide +kernel
theorem dX7_clause_98 : decode cX7_clause 98 = .ok (.aload_n 0, 1) := by decide +kernel
theorem dX7_clause_99 : decode cX7_clause 99 = .ok (.getfield 174, 3) := by decide +kernel
theorem dX7_clause_102 : decode cX7_clause 102 = .ok (.iload_n 1, 1) := by decide +kernel
theorem dX7_clause_103 : decode cX7_clause 103 = .ok (.bipush 108, 2) := by decide +kernel
theorem dX7_clause_105 : decode cX7_clause 105 = .ok (.if_icmp .ne 7, 3) := by decide +kernel
theorem dX7_clause_108 : decode cX7_clause 108 = .ok (.iconst 0, 1) := by decide +kernel
theorem dX7_clause_109 : decode cX7_clause 109 = .ok (.goto 28, 3) := by decide +kernel
theorem dX7_clause_112 : decode cX7_clause 112 = .ok (.aload_n 0, 1) := by decide +kernel
theorem dX7_clause_113 : decode cX7_clause 113 = .ok (.iload_n 1, 1) := by decide +kernel
theorem dX7_clause_114 : decode cX7_clause 114 = .ok (.bipush 99, 2) := by decide +kernel
theorem dX7_clause_116 : decode cX7_clause 116 = .ok (.if_icmp .ne 7, 3) := by decide +kernel
theorem dX7_clause_119 : decode cX7_clause 119 = .ok (.iconst 2, 1) := by decide +kernel
theorem dX7_clause_120 : decode cX7_clause 120 = .ok (.goto 14, 3) := by decide +kernel
theorem dX7_clause_123 : decode cX7_clause 123 = .ok (.iload_n 1, 1) := by decide +kernel
theorem dX7_clause_124 : decode cX7_clause 124 = .ok (.bipush 113, 2) := by decide +kernel
theorem dX7_clause_126 : decode cX7_clause 126 = .ok (.if_icmp .ne 7, 3) := by decide +kernel
theorem dX7_clause_129 : decode cX7_clause 129 = .ok (.iconst 3, 1) := by decide +kernel
theorem dX7_clause_130 : decode cX7_clause 130 = .ok (.goto 4, 3) := by decide +kernel
theorem dX7_clause_133 : decode cX7_clause 133 = .ok (.iconst 1, 1) := by decide +kernel
theorem dX7_clause_134 : decode cX7_clause 134 = .ok (.invokevirtual 177, 3) := by decide +kernel
theorem dX7_clause_137 : decode cX7_clause 137 = .ok (.iastore, 1) := by decide +kernel
theorem dX7_clause_138 : decode cX7_clause 138 = .ok (.iload_n 1, 1) := by decide +kernel
theorem dX7_clause_139 : decode cX7_clause 139 = .ok (.bipush 99, 2) := by decide +kernel
theorem dX7_clause_141 : decode cX7_clause 141 = .ok (.if_icmp .ne 7, 3) := by decide +kernel
theorem dX7_clause_144 : decode cX7_clause 144 = .ok (.aload_n 0, 1) := by decide +kernel
theorem dX7_clause_145 : decode cX7_clause 145 = .ok (.invokevirtual 180, 3) := by decide +kernel
theorem dX7_clause_148 : decode cX7_clause 148 = .ok (.aload_n 0, 1) := by decide +kernel
theorem dX7_clause_149 : decode cX7_clause 149 = .ok (.getfield 61, 3) := by decide +kernel
theorem dX7_clause_152 : decode cX7_clause 152 = .ok (.aload_n 0, 1) := by decide +kernel
theorem dX7_clause_153 : decode cX7_clause 153 = .ok (.getfield 174, 3) := by decide +kernel
theorem dX7_clause_156 : decode cX7_clause 156 = .ok (.iload_n 1, 1) := by decide +kernel
theorem dX7_clause_157 : decode cX7_clause 157 = .ok (.bipush 99, 2) := by decide +kernel
theorem dX7_clause_159 : decode cX7_clause 159 = .ok (.if_icmp .ne 11, 3) := by decide +kernel
theorem dX7_clause_162 : decode cX7_clause 162 = .ok (.aload_n 0, 1) := by decide +kernel
theorem dX7_clause_163 : decode cX7_clause 163 = .ok (.iconst 2, 1) := by decide +kernel
theorem dX7_clause_164 : decode cX7_clause 164 = .ok (.invokevirtual 177, 3) := by decide +kernel
theorem dX7_clause_167 : decode cX7_clause 167 = .ok (.goto 4, 3) := by decide +kernel
theorem dX7_clause_170 : decode cX7_clause 170 = .ok (.iconst 0, 1) := by decide +kernel
theorem dX7_clause_171 : decode cX7_clause 171 = .ok (.iastore, 1) := by decide +kernel
theorem dX7_clause_172 : decode cX7_clause 172 = .ok (.aload_n 0, 1) := by decide +kernel
theorem dX7_clause_173 : decode cX7_clause 173 = .ok (.dup, 1) := by decide +kernel
theorem dX7_clause_174 : decode cX7_clause 174 = .ok (.getfield 174, 3) := by decide +kernel
theorem dX7_clause_177 : decode cX7_clause 177 = .ok (.iconst 1, 1) := by decide +kernel
theorem dX7_clause_178 : decode cX7_clause 178 = .ok (.iadd, 1) := by decide +kernel
theorem dX7_clause_179 : decode cX7_clause 179 = .ok (.putfield 174, 3) := by decide +kernel
theorem dX7_clause_182 : decode cX7_clause 182 = .ok (.return_, 1) := by decide +kernel
theorem dX7_isDone_0 : decode cX7_isDone 0 = .ok (.aload_n 0, 1) := by decide +kernel
theorem dX7_isDone_1 : decode cX7_isDone 1 = .ok (.getfield 52, 3) := by decide +kernel
theorem dX7_isDone_4 : decode cX7_isDone 4 = .ok (.iload_n 1, 1) := by decide +kernel
theorem dX7_isDone_5 : decode cX7_isDone 5 = .ok (.iaload, 1) := by decide +kernel
theorem dX7_isDone_6 : decode cX7_isDone 6 = .ok (.lookupswitch 151 #[(99, 42), (110, 99), (113, 125), (114, 73)], 42) := by decide +kernel
theorem dX7_isDone_48 : decode cX7_isDone 48 = .ok (.aload_n 0, 1) := by decide +kernel
theorem dX7_isDone_49 : decode cX7_isDone 49 = .ok (.aload_n 0, 1) := by decide +kernel
theorem dX7_isDone_50 : decode cX7_isDone 50 = .ok (.getfield 55, 3) := by decide +kernel
theorem dX7_isDone_53 : decode cX7_isDone 53 = .ok (.iload_n 1, 1) := by decide +kernel
theorem dX7_isDone_54 : decode cX7_isDone 54 = .ok (.iaload, 1) := by decide +kernel
theorem dX7_isDone_55 : decode cX7_isDone 55 = .ok (.aload_n 0, 1) := by decide +kernel
theorem dX7_isDone_56 : decode cX7_isDone 56 = .ok (.getfield 58, 3) := by decide +kernel
theorem dX7_isDone_59 : decode cX7_isDone 59 = .ok (.iload_n 1, 1) := by decide +kernel
theorem dX7_isDone_60 : decode cX7_isDone 60 = .ok (.iaload, 1) := by decide +kernel
theorem dX7_isDone_61 : decode cX7_isDone 61 = .ok (.aload_n 0, 1) := by decide +kernel
theorem dX7_isDone_62 : decode cX7_isDone 62 = .ok (.getfield 61, 3) := by decide +kernel
theorem dX7_isDone_65 : decode cX7_isDone 65 = .ok (.iload_n 1, 1) := by decide +kernel
theorem dX7_isDone_66 : decode cX7_isDone 66 = .ok (.iaload, 1) := by decide +kernel
theorem dX7_isDone_67 : decode cX7_isDone 67 = .ok (.invokevirtual 183, 3) := by decide +kernel
theorem dX7_isDone_70 : decode cX7_isDone 70 = .ok (.ifCond .lt 7, 3) := by decide +kernel
theorem dX7_isDone_73 : decode cX7_isDone 73 = .ok (.iconst 1, 1) := by decide +kernel
theorem dX7_isDone_74 : decode cX7_isDone 74 = .ok (.goto 4, 3) := by decide +kernel
theorem dX7_isDone_77 : decode cX7_isDone 77 = .ok (.iconst 0, 1) := by decide +kernel
theorem dX7_isDone_78 : decode cX7_isDone 78 = .ok (.ireturn, 1) := by decide +kernel
theorem dX7_isDone_79 : decode cX7_isDone 79 = .ok (.aload_n 0, 1) := by decide +kernel
theorem dX7_isDone_80 : decode cX7_isDone 80 = .ok (.aload_n 0, 1) := by decide +kernel
theorem dX7_isDone_81 : decode cX7_isDone 81 = .ok (.getfield 55, 3) := by decide +kernel
theorem dX7_isDone_84 : decode cX7_isDone 84 = .ok (.iload_n 1, 1) := by decide +kernel
theorem dX7_isDone_85 : decode cX7_isDone 85 = .ok (.iaload, 1) := by decide +kernel
theorem dX7_isDone_86 : decode cX7_isDone 86 = .ok (.aload_n 0, 1) := by decide +kernel
theorem dX7_isDone_87 : decode cX7_isDone 87 = .ok (.getfield 58, 3) := by decide +kernel
theorem dX7_isDone_90 : decode cX7_isDone 90 = .ok (.iload_n 1, 1) := by decide +kernel
theorem dX7_isDone_91 : decode cX7_isDone 91 = .ok (.iaload, 1) := by decide +kernel
theorem dX7_isDone_92 : decode cX7_isDone 92 = .ok (.iconst 1, 1) := by decide +kernel
theorem dX7_isDone_93 : decode cX7_isDone 93 = .ok (.invokevirtual 187, 3) := by decide +kernel
theorem dX7_isDone_96 : decode cX7_isDone 96 = .ok (.ifCond .lt 7, 3) := by decide +kernel
theorem dX7_isDone_99 : decode cX7_isDone 99 = .ok (.iconst 1, 1) := by decide +kernel
theorem dX7_isDone_100 : decode cX7_isDone 100 = .ok (.goto 4, 3) := by decide +kernel
theorem dX7_isDone_103 : decode cX7_isDone 103 = .ok (.iconst 0, 1) := by decide +kernel
theorem dX7_isDone_104 : decode cX7_isDone 104 = .ok (.ireturn, 1) := by decide +kernel
theorem dX7_isDone_105 : decode cX7_isDone 105 = .ok (.aload_n 0, 1) := by decide +kernel
theorem dX7_isDone_106 : decode cX7_isDone 106 = .ok (.aload_n 0, 1) := by decide +kernel
theorem dX7_isDone_107 : decode cX7_isDone 107 = .ok (.getfield 55, 3) := by decide +kernel
theorem dX7_isDone_110 : decode cX7_isDone 110 = .ok (.iload_n 1, 1) := by decide +kernel
theorem dX7_isDone_111 : decode cX7_isDone 111 = .ok (.iaload, 1) := by decide +kernel
theorem dX7_isDone_112 : decode cX7_isDone 112 = .ok (.aload_n 0, 1) := by decide +kernel
theorem dX7_isDone_113 : decode cX7_isDone 113 = .ok (.getfield 58, 3) := by decide +kernel
theorem dX7_isDone_116 : decode cX7_isDone 116 = .ok (.iload_n 1, 1) := by decide +kernel
theorem dX7_isDone_117 : decode cX7_isDone 117 = .ok (.iaload, 1) := by decide +kernel
theorem dX7_isDone_118 : decode cX7_isDone 118 = .ok (.iconst 0, 1) := by decide +kernel
theorem dX7_isDone_119 : decode cX7_isDone 119 = .ok (.invokevirtual 187, 3) := by decide +kernel
theorem dX7_isDone_122 : decode cX7_isDone 122 = .ok (.ifCond .lt 7, 3) := by decide +kernel
theorem dX7_isDone_125 : decode cX7_isDone 125 = .ok (.iconst 1, 1) := by decide +kernel
theorem dX7_isDone_126 : decode cX7_isDone 126 = .ok (.goto 4, 3) := by decide +kernel
theorem dX7_isDone_129 : decode cX7_isDone 129 = .ok (.iconst 0, 1) := by decide +kernel
theorem dX7_isDone_130 : decode cX7_isDone 130 = .ok (.ireturn, 1) := by decide +kernel
theorem dX7_isDone_131 : decode cX7_isDone 131 = .ok (.aload_n 0, 1) := by decide +kernel
theorem dX7_isDone_132 : decode cX7_isDone 132 = .ok (.aload_n 0, 1) := by decide +kernel
theorem dX7_isDone_133 : decode cX7_isDone 133 = .ok (.getfield 55, 3) := by decide +kernel
theorem dX7_isDone_136 : decode cX7_isDone 136 = .ok (.iload_n 1, 1) := by decide +kernel
theorem dX7_isDone_137 : decode cX7_isDone 137 = .ok (.iaload, 1) := by decide +kernel
theorem dX7_isDone_138 : decode cX7_isDone 138 = .ok (.iconst 3, 1) := by decide +kernel
theorem dX7_isDone_139 : decode cX7_isDone 139 = .ok (.aload_n 0, 1) := by decide +kernel
theorem dX7_isDone_140 : decode cX7_isDone 140 = .ok (.getfield 58, 3) := by decide +kernel
theorem dX7_isDone_143 : decode cX7_isDone 143 = .ok (.iload_n 1, 1) := by decide +kernel
theorem dX7_isDone_144 : decode cX7_isDone 144 = .ok (.iaload, 1) := by decide +kernel
theorem dX7_isDone_145 : decode cX7_isDone 145 = .ok (.invokevirtual 190, 3) := by decide +kernel
theorem dX7_isDone_148 : decode cX7_isDone 148 = .ok (.ifCond .lt 7, 3) := by decide +kernel
theorem dX7_isDone_151 : decode cX7_isDone 151 = .ok (.iconst 1, 1) := by decide +kernel
theorem dX7_isDone_152 : decode cX7_isDone 152 = .ok (.goto 4, 3) := by decide +kernel
theorem dX7_isDone_155 : decode cX7_isDone 155 = .ok (.iconst 0, 1) := by decide +kernel
theorem dX7_isDone_156 : decode cX7_isDone 156 = .ok (.ireturn, 1) := by decide +kernel
theorem dX7_isDone_157 : decode cX7_isDone 157 = .ok (.aload_n 0, 1) := by decide +kernel
theorem dX7_isDone_158 : decode cX7_isDone 158 = .ok (.aload_n 0, 1) := by decide +kernel
theorem dX7_isDone_159 : decode cX7_isDone 159 = .ok (.getfield 55, 3) := by decide +kernel
theorem dX7_isDone_162 : decode cX7_isDone 162 = .ok (.iload_n 1, 1) := by decide +kernel
theorem dX7_isDone_163 : decode cX7_isDone 163 = .ok (.iaload, 1) := by decide +kernel
theorem dX7_isDone_164 : decode cX7_isDone 164 = .ok (.invokevirtual 193, 3) := by decide +kernel
theorem dX7_isDone_167 : decode cX7_isDone 167 = .ok (.ifCond .lt 7, 3) := by decide +kernel
theorem dX7_isDone_170 : decode cX7_isDone 170 = .ok (.iconst 1, 1) := by decide +kernel
theorem dX7_isDone_171 : decode cX7_isDone 171 = .ok (.goto 4, 3) := by decide +kernel
theorem dX7_isDone_174 : decode cX7_isDone 174 = .ok (.iconst 0, 1) := by decide +kernel
theorem dX7_isDone_175 : decode cX7_isDone 175 = .ok (.ireturn, 1) := by decide +kernel
theorem dX7_read_0 : decode cX7_read 0 = .ok (.aload_n 0, 1) := by decide +kernel
theorem dX7_read_1 : decode cX7_read 1 = .ok (.iconst 0, 1) := by decide +kernel
theorem dX7_read_2 : decode cX7_read 2 = .ok (.putfield 159, 3) := by decide +kernel
theorem dX7_read_5 : decode cX7_read 5 = .ok (.aload_n 0, 1) := by decide +kernel
theorem dX7_read_6 : decode cX7_read 6 = .ok (.iconst 0, 1) := by decide +kernel
theorem dX7_read_7 : decode cX7_read 7 = .ok (.putfield 162, 3) := by decide +kernel
theorem dX7_read_10 : decode cX7_read 10 = .ok (.aload_n 0, 1) := by decide +kernel
theorem dX7_read_11 : decode cX7_read 11 = .ok (.iconst 0, 1) := by decide +kernel
theorem dX7_read_12 : decode cX7_read 12 = .ok (.putfield 174, 3) := by decide +kernel
theorem dX7_read_15 : decode cX7_read 15 = .ok (.aload_n 0, 1) := by decide +kernel
theorem dX7_read_16 : decode cX7_read 16 = .ok (.invokevirtual 196, 3) := by decide +kernel
theorem dX7_read_19 : decode cX7_read 19 = .ok (.aload_n 0, 1) := by decide +kernel
theorem dX7_read_20 : decode cX7_read 20 = .ok (.getfield 162, 3) := by decide +kernel
theorem dX7_read_23 : decode cX7_read 23 = .ok (.ifCond .ne 38, 3) := by decide +kernel
theorem dX7_read_26 : decode cX7_read 26 = .ok (.aload_n 0, 1) := by decide +kernel
theorem dX7_read_27 : decode cX7_read 27 = .ok (.invokevirtual 166, 3) := by decide +kernel
theorem dX7_read_30 : decode cX7_read 30 = .ok (.bipush 59, 2) := by decide +kernel
theorem dX7_read_32 : decode cX7_read 32 = .ok (.if_icmp .ne 29, 3) := by decide +kernel
theorem dX7_read_35 : decode cX7_read 35 = .ok (.aload_n 0, 1) := by decide +kernel
theorem dX7_read_36 : decode cX7_read 36 = .ok (.getfield 174, 3) := by decide +kernel
theorem dX7_read_39 : decode cX7_read 39 = .ok (.bipush 12, 2) := by decide +kernel
theorem dX7_read_41 : decode cX7_read 41 = .ok (.if_icmp .ge 20, 3) := by decide +kernel
theorem dX7_read_44 : decode cX7_read 44 = .ok (.aload_n 0, 1) := by decide +kernel
theorem dX7_read_45 : decode cX7_read 45 = .ok (.dup, 1) := by decide +kernel
theorem dX7_read_46 : decode cX7_read 46 = .ok (.getfield 159, 3) := by decide +kernel
theorem dX7_read_49 : decode cX7_read 49 = .ok (.iconst 1, 1) := by decide +kernel
theorem dX7_read_50 : decode cX7_read 50 = .ok (.iadd, 1) := by decide +kernel
theorem dX7_read_51 : decode cX7_read 51 = .ok (.putfield 159, 3) := by decide +kernel
theorem dX7_read_54 : decode cX7_read 54 = .ok (.aload_n 0, 1) := by decide +kernel
theorem dX7_read_55 : decode cX7_read 55 = .ok (.invokevirtual 196, 3) := by decide +kernel
theorem dX7_read_58 : decode cX7_read 58 = .ok (.goto (-39), 3) := by decide +kernel
theorem dX7_read_61 : decode cX7_read 61 = .ok (.aload_n 0, 1) := by decide +kernel
theorem dX7_read_62 : decode cX7_read 62 = .ok (.aload_n 0, 1) := by decide +kernel
theorem dX7_read_63 : decode cX7_read 63 = .ok (.getfield 162, 3) := by decide +kernel
theorem dX7_read_66 : decode cX7_read 66 = .ok (.ifCond .ne 14, 3) := by decide +kernel
theorem dX7_read_69 : decode cX7_read 69 = .ok (.aload_n 0, 1) := by decide +kernel
theorem dX7_read_70 : decode cX7_read 70 = .ok (.getfield 159, 3) := by decide +kernel
theorem dX7_read_73 : decode cX7_read 73 = .ok (.aload_n 0, 1) := by decide +kernel
theorem dX7_read_74 : decode cX7_read 74 = .ok (.getfield 156, 3) := by decide +kernel
theorem dX7_read_77 : decode cX7_read 77 = .ok (.if_icmp .ge 7, 3) := by decide +kernel
theorem dX7_read_80 : decode cX7_read 80 = .ok (.iconst 1, 1) := by decide +kernel
theorem dX7_read_81 : decode cX7_read 81 = .ok (.goto 4, 3) := by decide +kernel
theorem dX7_read_84 : decode cX7_read 84 = .ok (.iconst 0, 1) := by decide +kernel
theorem dX7_read_85 : decode cX7_read 85 = .ok (.putfield 162, 3) := by decide +kernel
theorem dX7_read_88 : decode cX7_read 88 = .ok (.aload_n 0, 1) := by decide +kernel
theorem dX7_read_89 : decode cX7_read 89 = .ok (.iconst 0, 1) := by decide +kernel
theorem dX7_read_90 : decode cX7_read 90 = .ok (.putfield 156, 3) := by decide +kernel
theorem dX7_read_93 : decode cX7_read 93 = .ok (.aload_n 0, 1) := by decide +kernel
theorem dX7_read_94 : decode cX7_read 94 = .ok (.getfield 162, 3) := by decide +kernel
theorem dX7_read_97 : decode cX7_read 97 = .ok (.ifCond .eq 11, 3) := by decide +kernel
theorem dX7_read_100 : decode cX7_read 100 = .ok (.bipush (-10), 2) := by decide +kernel
theorem dX7_read_102 : decode cX7_read 102 = .ok (.aload_n 0, 1) := by decide +kernel
theorem dX7_read_103 : decode cX7_read 103 = .ok (.getfield 159, 3) := by decide +kernel
theorem dX7_read_106 : decode cX7_read 106 = .ok (.isub, 1) := by decide +kernel
theorem dX7_read_107 : decode cX7_read 107 = .ok (.ireturn, 1) := by decide +kernel
theorem dX7_read_108 : decode cX7_read 108 = .ok (.iconst 0, 1) := by decide +kernel
theorem dX7_read_109 : decode cX7_read 109 = .ok (.istore_n 1, 1) := by decide +kernel
theorem dX7_read_110 : decode cX7_read 110 = .ok (.iconst 0, 1) := by decide +kernel
theorem dX7_read_111 : decode cX7_read 111 = .ok (.istore_n 2, 1) := by decide +kernel
theorem dX7_read_112 : decode cX7_read 112 = .ok (.iload_n 2, 1) := by decide +kernel
theorem dX7_read_113 : decode cX7_read 113 = .ok (.aload_n 0, 1) := by decide +kernel
theorem dX7_read_114 : decode cX7_read 114 = .ok (.getfield 174, 3) := by decide +kernel
theorem dX7_read_117 : decode cX7_read 117 = .ok (.if_icmp .ge 20, 3) := by decide +kernel
theorem dX7_read_120 : decode cX7_read 120 = .ok (.aload_n 0, 1) := by decide +kernel
theorem dX7_read_121 : decode cX7_read 121 = .ok (.iload_n 2, 1) := by decide +kernel
theorem dX7_read_122 : decode cX7_read 122 = .ok (.invokevirtual 199, 3) := by decide +kernel
theorem dX7_read_125 : decode cX7_read 125 = .ok (.ifCond .eq 6, 3) := by decide +kernel
theorem dX7_read_128 : decode cX7_read 128 = .ok (.iinc 1 1, 3) := by decide +kernel
theorem dX7_read_131 : decode cX7_read 131 = .ok (.iinc 2 1, 3) := by decide +kernel
theorem dX7_read_134 : decode cX7_read 134 = .ok (.goto (-22), 3) := by decide +kernel
theorem dX7_read_137 : decode cX7_read 137 = .ok (.iload_n 1, 1) := by decide +kernel
theorem dX7_read_138 : decode cX7_read 138 = .ok (.ireturn, 1) := by decide +kernel
theorem dX7_ring_0 : decode cX7_ring 0 = .ok (.aload_n 0, 1) := by decide +kernel
theorem dX7_ring_1 : decode cX7_ring 1 = .ok (.invokevirtual 148, 3) := by decide +kernel
theorem dX7_ring_4 : decode cX7_ring 4 = .ok (.iload_n 1, 1) := by decide +kernel
theorem dX7_ring_5 : decode cX7_ring 5 = .ok (.i2l, 1) := by decide +kernel
theorem dX7_ring_6 : decode cX7_ring 6 = .ok (.lconst 0, 1) := by decide +kernel
theorem dX7_ring_7 : decode cX7_ring 7 = .ok (.aload_n 0, 1) := by decide +kernel
theorem dX7_ring_8 : decode cX7_ring 8 = .ok (.getfield 115, 3) := by decide +kernel
theorem dX7_ring_11 : decode cX7_ring 11 = .ok (.iconst 1, 1) := by decide +kernel
theorem dX7_ring_12 : decode cX7_ring 12 = .ok (.isub, 1) := by decide +kernel
theorem dX7_ring_13 : decode cX7_ring 13 = .ok (.i2l, 1) := by decide +kernel
theorem dX7_ring_14 : decode cX7_ring 14 = .ok (.invokestatic 80, 3) := by decide +kernel
theorem dX7_ring_17 : decode cX7_ring 17 = .ok (.ifCond .eq 15, 3) := by decide +kernel
theorem dX7_ring_20 : decode cX7_ring 20 = .ok (.iload_n 2, 1) := by decide +kernel
theorem dX7_ring_21 : decode cX7_ring 21 = .ok (.i2l, 1) := by decide +kernel
theorem dX7_ring_22 : decode cX7_ring 22 = .ok (.lconst 0, 1) := by decide +kernel
theorem dX7_ring_23 : decode cX7_ring 23 = .ok (.ldc2_w 84, 3) := by decide +kernel
theorem dX7_ring_26 : decode cX7_ring 26 = .ok (.invokestatic 80, 3) := by decide +kernel
theorem dX7_ring_29 : decode cX7_ring 29 = .ok (.ifCond .ne 5, 3) := by decide +kernel
theorem dX7_ring_32 : decode cX7_ring 32 = .ok (.iconst (-1), 1) := by decide +kernel
theorem dX7_ring_33 : decode cX7_ring 33 = .ok (.ireturn, 1) := by decide +kernel
theorem dX7_ring_34 : decode cX7_ring 34 = .ok (.iload_n 2, 1) := by decide +kernel
theorem dX7_ring_35 : decode cX7_ring 35 = .ok (.ifCond .ne 10, 3) := by decide +kernel
theorem dX7_ring_38 : decode cX7_ring 38 = .ok (.aload_n 0, 1) := by decide +kernel
theorem dX7_ring_39 : decode cX7_ring 39 = .ok (.getfield 34, 3) := by decide +kernel
theorem dX7_ring_42 : decode cX7_ring 42 = .ok (.iload_n 1, 1) := by decide +kernel
theorem dX7_ring_43 : decode cX7_ring 43 = .ok (.iaload, 1) := by decide +kernel
theorem dX7_ring_44 : decode cX7_ring 44 = .ok (.ireturn, 1) := by decide +kernel
theorem dX7_ring_45 : decode cX7_ring 45 = .ok (.iload_n 2, 1) := by decide +kernel
theorem dX7_ring_46 : decode cX7_ring 46 = .ok (.iconst 1, 1) := by decide +kernel
theorem dX7_ring_47 : decode cX7_ring 47 = .ok (.if_icmp .le 24, 3) := by decide +kernel
theorem dX7_ring_50 : decode cX7_ring 50 = .ok (.iload_n 2, 1) := by decide +kernel
theorem dX7_ring_51 : decode cX7_ring 51 = .ok (.iconst 2, 1) := by decide +kernel
theorem dX7_ring_52 : decode cX7_ring 52 = .ok (.if_icmp .ne 12, 3) := by decide +kernel
theorem dX7_ring_55 : decode cX7_ring 55 = .ok (.aload_n 0, 1) := by decide +kernel
theorem dX7_ring_56 : decode cX7_ring 56 = .ok (.getfield 40, 3) := by decide +kernel
theorem dX7_ring_59 : decode cX7_ring 59 = .ok (.iload_n 1, 1) := by decide +kernel
theorem dX7_ring_60 : decode cX7_ring 60 = .ok (.iaload, 1) := by decide +kernel
theorem dX7_ring_61 : decode cX7_ring 61 = .ok (.goto 9, 3) := by decide +kernel
theorem dX7_ring_64 : decode cX7_ring 64 = .ok (.aload_n 0, 1) := by decide +kernel
theorem dX7_ring_65 : decode cX7_ring 65 = .ok (.getfield 43, 3) := by decide +kernel
theorem dX7_ring_68 : decode cX7_ring 68 = .ok (.iload_n 1, 1) := by decide +kernel
theorem dX7_ring_69 : decode cX7_ring 69 = .ok (.iaload, 1) := by decide +kernel
theorem dX7_ring_70 : decode cX7_ring 70 = .ok (.ireturn, 1) := by decide +kernel
theorem dX7_ring_71 : decode cX7_ring 71 = .ok (.iconst 0, 1) := by decide +kernel
theorem dX7_ring_72 : decode cX7_ring 72 = .ok (.istore_n 3, 1) := by decide +kernel
theorem dX7_ring_73 : decode cX7_ring 73 = .ok (.iload_n 3, 1) := by decide +kernel
theorem dX7_ring_74 : decode cX7_ring 74 = .ok (.aload_n 0, 1) := by decide +kernel
theorem dX7_ring_75 : decode cX7_ring 75 = .ok (.getfield 15, 3) := by decide +kernel
theorem dX7_ring_78 : decode cX7_ring 78 = .ok (.iconst 0, 1) := by decide +kernel
theorem dX7_ring_79 : decode cX7_ring 79 = .ok (.iaload, 1) := by decide +kernel
theorem dX7_ring_80 : decode cX7_ring 80 = .ok (.if_icmp .ge 29, 3) := by decide +kernel
theorem dX7_ring_83 : decode cX7_ring 83 = .ok (.aload_n 0, 1) := by decide +kernel
theorem dX7_ring_84 : decode cX7_ring 84 = .ok (.getfield 34, 3) := by decide +kernel
theorem dX7_ring_87 : decode cX7_ring 87 = .ok (.iload_n 1, 1) := by decide +kernel
theorem dX7_ring_88 : decode cX7_ring 88 = .ok (.iaload, 1) := by decide +kernel
theorem dX7_ring_89 : decode cX7_ring 89 = .ok (.iload_n 3, 1) := by decide +kernel
theorem dX7_ring_90 : decode cX7_ring 90 = .ok (.invokestatic 102, 3) := by decide +kernel
theorem dX7_ring_93 : decode cX7_ring 93 = .ok (.ifCond .eq 10, 3) := by decide +kernel
theorem dX7_ring_96 : decode cX7_ring 96 = .ok (.aload_n 0, 1) := by decide +kernel
theorem dX7_ring_97 : decode cX7_ring 97 = .ok (.getfield 31, 3) := by decide +kernel
theorem dX7_ring_100 : decode cX7_ring 100 = .ok (.iload_n 3, 1) := by decide +kernel
theorem dX7_ring_101 : decode cX7_ring 101 = .ok (.iaload, 1) := by decide +kernel
theorem dX7_ring_102 : decode cX7_ring 102 = .ok (.ireturn, 1) := by decide +kernel
theorem dX7_ring_103 : decode cX7_ring 103 = .ok (.iinc 3 1, 3) := by decide +kernel
theorem dX7_ring_106 : decode cX7_ring 106 = .ok (.goto (-33), 3) := by decide +kernel
theorem dX7_ring_109 : decode cX7_ring 109 = .ok (.iconst (-1), 1) := by decide +kernel
theorem dX7_ring_110 : decode cX7_ring 110 = .ok (.ireturn, 1) := by decide +kernel
theorem dX7_pays_0 : decode cX7_pays 0 = .ok (.aload_n 0, 1) := by decide +kernel
theorem dX7_pays_1 : decode cX7_pays 1 = .ok (.iload_n 1, 1) := by decide +kernel
theorem dX7_pays_2 : decode cX7_pays 2 = .ok (.bipush 9, 2) := by decide +kernel
theorem dX7_pays_4 : decode cX7_pays 4 = .ok (.invokevirtual 202, 3) := by decide +kernel
theorem dX7_pays_7 : decode cX7_pays 7 = .ok (.ireturn, 1) := by decide +kernel
theorem dX7_payers_0 : decode cX7_payers 0 = .ok (.iconst 0, 1) := by decide +kernel
theorem dX7_payers_1 : decode cX7_payers 1 = .ok (.istore_n 1, 1) := by decide +kernel
theorem dX7_payers_2 : decode cX7_payers 2 = .ok (.iconst 0, 1) := by decide +kernel
theorem dX7_payers_3 : decode cX7_payers 3 = .ok (.istore_n 2, 1) := by decide +kernel
theorem dX7_payers_4 : decode cX7_payers 4 = .ok (.iload_n 2, 1) := by decide +kernel
theorem dX7_payers_5 : decode cX7_payers 5 = .ok (.aload_n 0, 1) := by decide +kernel
theorem dX7_payers_6 : decode cX7_payers 6 = .ok (.getfield 15, 3) := by decide +kernel
theorem dX7_payers_9 : decode cX7_payers 9 = .ok (.iconst 0, 1) := by decide +kernel
theorem dX7_payers_10 : decode cX7_payers 10 = .ok (.iaload, 1) := by decide +kernel
theorem dX7_payers_11 : decode cX7_payers 11 = .ok (.if_icmp .ge 21, 3) := by decide +kernel
theorem dX7_payers_14 : decode cX7_payers 14 = .ok (.aload_n 0, 1) := by decide +kernel
theorem dX7_payers_15 : decode cX7_payers 15 = .ok (.getfield 37, 3) := by decide +kernel
theorem dX7_payers_18 : decode cX7_payers 18 = .ok (.iload_n 2, 1) := by decide +kernel
theorem dX7_payers_19 : decode cX7_payers 19 = .ok (.iaload, 1) := by decide +kernel
theorem dX7_payers_20 : decode cX7_payers 20 = .ok (.ifCond .le 6, 3) := by decide +kernel
theorem dX7_payers_23 : decode cX7_payers 23 = .ok (.iinc 1 1, 3) := by decide +kernel
theorem dX7_payers_26 : decode cX7_payers 26 = .ok (.iinc 2 1, 3) := by decide +kernel
theorem dX7_payers_29 : decode cX7_payers 29 = .ok (.goto (-25), 3) := by decide +kernel
theorem dX7_payers_32 : decode cX7_payers 32 = .ok (.iload_n 1, 1) := by decide +kernel
theorem dX7_payers_33 : decode cX7_payers 33 = .ok (.ireturn, 1) := by decide +kernel
theorem dX7_severals_0 : decode cX7_severals 0 = .ok (.iconst 0, 1) := by decide +kernel
theorem dX7_severals_1 : decode cX7_severals 1 = .ok (.istore_n 1, 1) := by decide +kernel
theorem dX7_severals_2 : decode cX7_severals 2 = .ok (.iconst 0, 1) := by decide +kernel
theorem dX7_severals_3 : decode cX7_severals 3 = .ok (.istore_n 2, 1) := by decide +kernel
theorem dX7_severals_4 : decode cX7_severals 4 = .ok (.iload_n 2, 1) := by decide +kernel
theorem dX7_severals_5 : decode cX7_severals 5 = .ok (.aload_n 0, 1) := by decide +kernel
theorem dX7_severals_6 : decode cX7_severals 6 = .ok (.getfield 115, 3) := by decide +kernel
theorem dX7_severals_9 : decode cX7_severals 9 = .ok (.if_icmp .ge 25, 3) := by decide +kernel
theorem dX7_severals_12 : decode cX7_severals 12 = .ok (.aload_n 0, 1) := by decide +kernel
theorem dX7_severals_13 : decode cX7_severals 13 = .ok (.getfield 34, 3) := by decide +kernel
theorem dX7_severals_16 : decode cX7_severals 16 = .ok (.iload_n 2, 1) := by decide +kernel
theorem dX7_severals_17 : decode cX7_severals 17 = .ok (.iaload, 1) := by decide +kernel
theorem dX7_severals_18 : decode cX7_severals 18 = .ok (.invokestatic 132, 3) := by decide +kernel
theorem dX7_severals_21 : decode cX7_severals 21 = .ok (.iconst 1, 1) := by decide +kernel
theorem dX7_severals_22 : decode cX7_severals 22 = .ok (.if_icmp .le 6, 3) := by decide +kernel
theorem dX7_severals_25 : decode cX7_severals 25 = .ok (.iinc 1 1, 3) := by decide +kernel
theorem dX7_severals_28 : decode cX7_severals 28 = .ok (.iinc 2 1, 3) := by decide +kernel
theorem dX7_severals_31 : decode cX7_severals 31 = .ok (.goto (-27), 3) := by decide +kernel
theorem dX7_severals_34 : decode cX7_severals 34 = .ok (.iload_n 1, 1) := by decide +kernel
theorem dX7_severals_35 : decode cX7_severals 35 = .ok (.ireturn, 1) := by decide +kernel
theorem dX7_greatestRung_0 : decode cX7_greatestRung 0 = .ok (.bipush (-5), 2) := by decide +kernel
theorem dX7_greatestRung_2 : decode cX7_greatestRung 2 = .ok (.istore_n 1, 1) := by decide +kernel
theorem dX7_greatestRung_3 : decode cX7_greatestRung 3 = .ok (.iconst 0, 1) := by decide +kernel
theorem dX7_greatestRung_4 : decode cX7_greatestRung 4 = .ok (.istore_n 2, 1) := by decide +kernel
theorem dX7_greatestRung_5 : decode cX7_greatestRung 5 = .ok (.iload_n 2, 1) := by decide +kernel
theorem dX7_greatestRung_6 : decode cX7_greatestRung 6 = .ok (.aload_n 0, 1) := by decide +kernel
theorem dX7_greatestRung_7 : decode cX7_greatestRung 7 = .ok (.getfield 15, 3) := by decide +kernel
theorem dX7_greatestRung_10 : decode cX7_greatestRung 10 = .ok (.iconst 0, 1) := by decide +kernel
theorem dX7_greatestRung_11 : decode cX7_greatestRung 11 = .ok (.iaload, 1) := by decide +kernel
theorem dX7_greatestRung_12 : decode cX7_greatestRung 12 = .ok (.if_icmp .ge 30, 3) := by decide +kernel
theorem dX7_greatestRung_15 : decode cX7_greatestRung 15 = .ok (.aload_n 0, 1) := by decide +kernel
theorem dX7_greatestRung_16 : decode cX7_greatestRung 16 = .ok (.getfield 31, 3) := by decide +kernel
theorem dX7_greatestRung_19 : decode cX7_greatestRung 19 = .ok (.iload_n 2, 1) := by decide +kernel
theorem dX7_greatestRung_20 : decode cX7_greatestRung 20 = .ok (.iaload, 1) := by decide +kernel
theorem dX7_greatestRung_21 : decode cX7_greatestRung 21 = .ok (.iload_n 1, 1) := by decide +kernel
theorem dX7_greatestRung_22 : decode cX7_greatestRung 22 = .ok (.if_icmp .le 12, 3) := by decide +kernel
theorem dX7_greatestRung_25 : decode cX7_greatestRung 25 = .ok (.aload_n 0, 1) := by decide +kernel
theorem dX7_greatestRung_26 : decode cX7_greatestRung 26 = .ok (.getfield 31, 3) := by decide +kernel
theorem dX7_greatestRung_29 : decode cX7_greatestRung 29 = .ok (.iload_n 2, 1) := by decide +kernel
theorem dX7_greatestRung_30 : decode cX7_greatestRung 30 = .ok (.iaload, 1) := by decide +kernel
theorem dX7_greatestRung_31 : decode cX7_greatestRung 31 = .ok (.goto 4, 3) := by decide +kernel
theorem dX7_greatestRung_34 : decode cX7_greatestRung 34 = .ok (.iload_n 1, 1) := by decide +kernel
theorem dX7_greatestRung_35 : decode cX7_greatestRung 35 = .ok (.istore_n 1, 1) := by decide +kernel
theorem dX7_greatestRung_36 : decode cX7_greatestRung 36 = .ok (.iinc 2 1, 3) := by decide +kernel
theorem dX7_greatestRung_39 : decode cX7_greatestRung 39 = .ok (.goto (-34), 3) := by decide +kernel
theorem dX7_greatestRung_42 : decode cX7_greatestRung 42 = .ok (.iload_n 1, 1) := by decide +kernel
theorem dX7_greatestRung_43 : decode cX7_greatestRung 43 = .ok (.ireturn, 1) := by decide +kernel
theorem dX7_references_0 : decode cX7_references 0 = .ok (.iconst 0, 1) := by decide +kernel
theorem dX7_references_1 : decode cX7_references 1 = .ok (.istore_n 1, 1) := by decide +kernel
theorem dX7_references_2 : decode cX7_references 2 = .ok (.iconst 0, 1) := by decide +kernel
theorem dX7_references_3 : decode cX7_references 3 = .ok (.istore_n 2, 1) := by decide +kernel
theorem dX7_references_4 : decode cX7_references 4 = .ok (.iload_n 2, 1) := by decide +kernel
theorem dX7_references_5 : decode cX7_references 5 = .ok (.aload_n 0, 1) := by decide +kernel
theorem dX7_references_6 : decode cX7_references 6 = .ok (.getfield 15, 3) := by decide +kernel
theorem dX7_references_9 : decode cX7_references 9 = .ok (.iconst 0, 1) := by decide +kernel
theorem dX7_references_10 : decode cX7_references 10 = .ok (.iaload, 1) := by decide +kernel
theorem dX7_references_11 : decode cX7_references 11 = .ok (.if_icmp .ge 24, 3) := by decide +kernel
theorem dX7_references_14 : decode cX7_references 14 = .ok (.iload_n 1, 1) := by decide +kernel
theorem dX7_references_15 : decode cX7_references 15 = .ok (.aload_n 0, 1) := by decide +kernel
theorem dX7_references_16 : decode cX7_references 16 = .ok (.getfield 15, 3) := by decide +kernel
theorem dX7_references_19 : decode cX7_references 19 = .ok (.bipush 29, 2) := by decide +kernel
theorem dX7_references_21 : decode cX7_references 21 = .ok (.iload_n 2, 1) := by decide +kernel
theorem dX7_references_22 : decode cX7_references 22 = .ok (.iadd, 1) := by decide +kernel
theorem dX7_references_23 : decode cX7_references 23 = .ok (.iaload, 1) := by decide +kernel
theorem dX7_references_24 : decode cX7_references 24 = .ok (.invokestatic 132, 3) := by decide +kernel
theorem dX7_references_27 : decode cX7_references 27 = .ok (.iadd, 1) := by decide +kernel
theorem dX7_references_28 : decode cX7_references 28 = .ok (.istore_n 1, 1) := by decide +kernel
theorem dX7_references_29 : decode cX7_references 29 = .ok (.iinc 2 1, 3) := by decide +kernel
theorem dX7_references_32 : decode cX7_references 32 = .ok (.goto (-28), 3) := by decide +kernel
theorem dX7_references_35 : decode cX7_references 35 = .ok (.iload_n 1, 1) := by decide +kernel
theorem dX7_references_36 : decode cX7_references 36 = .ok (.ireturn, 1) := by decide +kernel
theorem dX7_told_0 : decode cX7_told 0 = .ok (.aload_n 0, 1) := by decide +kernel
theorem dX7_told_1 : decode cX7_told 1 = .ok (.invokevirtual 148, 3) := by decide +kernel
theorem dX7_told_4 : decode cX7_told 4 = .ok (.iload_n 1, 1) := by decide +kernel
theorem dX7_told_5 : decode cX7_told 5 = .ok (.tableswitch 107 0 8 #[51, 58, 65, 70, 82, 87, 92, 97, 102], 51) := by decide +kernel
theorem dX7_told_56 : decode cX7_told 56 = .ok (.aload_n 0, 1) := by decide +kernel
theorem dX7_told_57 : decode cX7_told 57 = .ok (.getfield 15, 3) := by decide +kernel
theorem dX7_told_60 : decode cX7_told 60 = .ok (.iconst 0, 1) := by decide +kernel
theorem dX7_told_61 : decode cX7_told 61 = .ok (.iaload, 1) := by decide +kernel
theorem dX7_told_62 : decode cX7_told 62 = .ok (.ireturn, 1) := by decide +kernel
theorem dX7_told_63 : decode cX7_told 63 = .ok (.aload_n 0, 1) := by decide +kernel
theorem dX7_told_64 : decode cX7_told 64 = .ok (.getfield 15, 3) := by decide +kernel
theorem dX7_told_67 : decode cX7_told 67 = .ok (.iconst 1, 1) := by decide +kernel
theorem dX7_told_68 : decode cX7_told 68 = .ok (.iaload, 1) := by decide +kernel
theorem dX7_told_69 : decode cX7_told 69 = .ok (.ireturn, 1) := by decide +kernel
theorem dX7_told_70 : decode cX7_told 70 = .ok (.aload_n 0, 1) := by decide +kernel
theorem dX7_told_71 : decode cX7_told 71 = .ok (.getfield 142, 3) := by decide +kernel
theorem dX7_told_74 : decode cX7_told 74 = .ok (.ireturn, 1) := by decide +kernel
theorem dX7_told_75 : decode cX7_told 75 = .ok (.aload_n 0, 1) := by decide +kernel
theorem dX7_told_76 : decode cX7_told 76 = .ok (.getfield 15, 3) := by decide +kernel
theorem dX7_told_79 : decode cX7_told 79 = .ok (.iconst 1, 1) := by decide +kernel
theorem dX7_told_80 : decode cX7_told 80 = .ok (.iaload, 1) := by decide +kernel
theorem dX7_told_81 : decode cX7_told 81 = .ok (.aload_n 0, 1) := by decide +kernel
theorem dX7_told_82 : decode cX7_told 82 = .ok (.getfield 142, 3) := by decide +kernel
theorem dX7_told_85 : decode cX7_told 85 = .ok (.isub, 1) := by decide +kernel
theorem dX7_told_86 : decode cX7_told 86 = .ok (.ireturn, 1) := by decide +kernel
theorem dX7_told_87 : decode cX7_told 87 = .ok (.aload_n 0, 1) := by decide +kernel
theorem dX7_told_88 : decode cX7_told 88 = .ok (.getfield 115, 3) := by decide +kernel
theorem dX7_told_91 : decode cX7_told 91 = .ok (.ireturn, 1) := by decide +kernel
theorem dX7_told_92 : decode cX7_told 92 = .ok (.aload_n 0, 1) := by decide +kernel
theorem dX7_told_93 : decode cX7_told 93 = .ok (.invokevirtual 205, 3) := by decide +kernel
theorem dX7_told_96 : decode cX7_told 96 = .ok (.ireturn, 1) := by decide +kernel
theorem dX7_told_97 : decode cX7_told 97 = .ok (.aload_n 0, 1) := by decide +kernel
theorem dX7_told_98 : decode cX7_told 98 = .ok (.invokevirtual 208, 3) := by decide +kernel
theorem dX7_told_101 : decode cX7_told 101 = .ok (.ireturn, 1) := by decide +kernel
theorem dX7_told_102 : decode cX7_told 102 = .ok (.aload_n 0, 1) := by decide +kernel
theorem dX7_told_103 : decode cX7_told 103 = .ok (.invokevirtual 211, 3) := by decide +kernel
theorem dX7_told_106 : decode cX7_told 106 = .ok (.ireturn, 1) := by decide +kernel
theorem dX7_told_107 : decode cX7_told 107 = .ok (.aload_n 0, 1) := by decide +kernel
theorem dX7_told_108 : decode cX7_told 108 = .ok (.invokevirtual 214, 3) := by decide +kernel
theorem dX7_told_111 : decode cX7_told 111 = .ok (.ireturn, 1) := by decide +kernel
theorem dX7_told_112 : decode cX7_told 112 = .ok (.iconst (-1), 1) := by decide +kernel
theorem dX7_told_113 : decode cX7_told 113 = .ok (.ireturn, 1) := by decide +kernel
theorem dX7_because_0 : decode cX7_because 0 = .ok (.aload_n 0, 1) := by decide +kernel
theorem dX7_because_1 : decode cX7_because 1 = .ok (.getfield 64, 3) := by decide +kernel
theorem dX7_because_4 : decode cX7_because 4 = .ok (.iconst 0, 1) := by decide +kernel
theorem dX7_because_5 : decode cX7_because 5 = .ok (.iload_n 1, 1) := by decide +kernel
theorem dX7_because_6 : decode cX7_because 6 = .ok (.iastore, 1) := by decide +kernel
theorem dX7_because_7 : decode cX7_because 7 = .ok (.aload_n 0, 1) := by decide +kernel
theorem dX7_because_8 : decode cX7_because 8 = .ok (.getfield 64, 3) := by decide +kernel
theorem dX7_because_11 : decode cX7_because 11 = .ok (.iconst 1, 1) := by decide +kernel
theorem dX7_because_12 : decode cX7_because 12 = .ok (.iload_n 2, 1) := by decide +kernel
theorem dX7_because_13 : decode cX7_because 13 = .ok (.iastore, 1) := by decide +kernel
theorem dX7_because_14 : decode cX7_because 14 = .ok (.aload_n 0, 1) := by decide +kernel
theorem dX7_because_15 : decode cX7_because 15 = .ok (.getfield 64, 3) := by decide +kernel
theorem dX7_because_18 : decode cX7_because 18 = .ok (.iconst 2, 1) := by decide +kernel
theorem dX7_because_19 : decode cX7_because 19 = .ok (.iload_n 3, 1) := by decide +kernel
theorem dX7_because_20 : decode cX7_because 20 = .ok (.iastore, 1) := by decide +kernel
theorem dX7_because_21 : decode cX7_because 21 = .ok (.return_, 1) := by decide +kernel
theorem dX7_lastAhead_0 : decode cX7_lastAhead 0 = .ok (.iconst (-1), 1) := by decide +kernel
theorem dX7_lastAhead_1 : decode cX7_lastAhead 1 = .ok (.istore_n 2, 1) := by decide +kernel
theorem dX7_lastAhead_2 : decode cX7_lastAhead 2 = .ok (.iconst 0, 1) := by decide +kernel
theorem dX7_lastAhead_3 : decode cX7_lastAhead 3 = .ok (.istore_n 3, 1) := by decide +kernel
theorem dX7_lastAhead_4 : decode cX7_lastAhead 4 = .ok (.iload_n 3, 1) := by decide +kernel
theorem dX7_lastAhead_5 : decode cX7_lastAhead 5 = .ok (.iload_n 1, 1) := by decide +kernel
theorem dX7_lastAhead_6 : decode cX7_lastAhead 6 = .ok (.if_icmp .ge 56, 3) := by decide +kernel
theorem dX7_lastAhead_9 : decode cX7_lastAhead 9 = .ok (.iconst 0, 1) := by decide +kernel
theorem dX7_lastAhead_10 : decode cX7_lastAhead 10 = .ok (.istore 4, 2) := by decide +kernel
theorem dX7_lastAhead_12 : decode cX7_lastAhead 12 = .ok (.iload 4, 2) := by decide +kernel
theorem dX7_lastAhead_14 : decode cX7_lastAhead 14 = .ok (.aload_n 0, 1) := by decide +kernel
theorem dX7_lastAhead_15 : decode cX7_lastAhead 15 = .ok (.getfield 15, 3) := by decide +kernel
theorem dX7_lastAhead_18 : decode cX7_lastAhead 18 = .ok (.iconst 0, 1) := by decide +kernel
theorem dX7_lastAhead_19 : decode cX7_lastAhead 19 = .ok (.iaload, 1) := by decide +kernel
theorem dX7_lastAhead_20 : decode cX7_lastAhead 20 = .ok (.if_icmp .ge 36, 3) := by decide +kernel
theorem dX7_lastAhead_23 : decode cX7_lastAhead 23 = .ok (.aload_n 0, 1) := by decide +kernel
theorem dX7_lastAhead_24 : decode cX7_lastAhead 24 = .ok (.getfield 34, 3) := by decide +kernel
theorem dX7_lastAhead_27 : decode cX7_lastAhead 27 = .ok (.iload_n 3, 1) := by decide +kernel
theorem dX7_lastAhead_28 : decode cX7_lastAhead 28 = .ok (.iaload, 1) := by decide +kernel
theorem dX7_lastAhead_29 : decode cX7_lastAhead 29 = .ok (.iload 4, 2) := by decide +kernel
theorem dX7_lastAhead_31 : decode cX7_lastAhead 31 = .ok (.invokestatic 102, 3) := by decide +kernel
theorem dX7_lastAhead_34 : decode cX7_lastAhead 34 = .ok (.ifCond .eq 16, 3) := by decide +kernel
theorem dX7_lastAhead_37 : decode cX7_lastAhead 37 = .ok (.aload_n 0, 1) := by decide +kernel
theorem dX7_lastAhead_38 : decode cX7_lastAhead 38 = .ok (.getfield 37, 3) := by decide +kernel
theorem dX7_lastAhead_41 : decode cX7_lastAhead 41 = .ok (.iload 4, 2) := by decide +kernel
theorem dX7_lastAhead_43 : decode cX7_lastAhead 43 = .ok (.iaload, 1) := by decide +kernel
theorem dX7_lastAhead_44 : decode cX7_lastAhead 44 = .ok (.ifCond .le 6, 3) := by decide +kernel
theorem dX7_lastAhead_47 : decode cX7_lastAhead 47 = .ok (.iload 4, 2) := by decide +kernel
theorem dX7_lastAhead_49 : decode cX7_lastAhead 49 = .ok (.istore_n 2, 1) := by decide +kernel
theorem dX7_lastAhead_50 : decode cX7_lastAhead 50 = .ok (.iinc 4 1, 3) := by decide +kernel
theorem dX7_lastAhead_53 : decode cX7_lastAhead 53 = .ok (.goto (-41), 3) := by decide +kernel
theorem dX7_lastAhead_56 : decode cX7_lastAhead 56 = .ok (.iinc 3 1, 3) := by decide +kernel
theorem dX7_lastAhead_59 : decode cX7_lastAhead 59 = .ok (.goto (-55), 3) := by decide +kernel
theorem dX7_lastAhead_62 : decode cX7_lastAhead 62 = .ok (.iload_n 2, 1) := by decide +kernel
theorem dX7_lastAhead_63 : decode cX7_lastAhead 63 = .ok (.ireturn, 1) := by decide +kernel
theorem dX7_tellsWhy_0 : decode cX7_tellsWhy 0 = .ok (.aload_n 0, 1) := by decide +kernel
theorem dX7_tellsWhy_1 : decode cX7_tellsWhy 1 = .ok (.iload_n 1, 1) := by decide +kernel
theorem dX7_tellsWhy_2 : decode cX7_tellsWhy 2 = .ok (.invokevirtual 151, 3) := by decide +kernel
theorem dX7_tellsWhy_5 : decode cX7_tellsWhy 5 = .ok (.istore_n 2, 1) := by decide +kernel
theorem dX7_tellsWhy_6 : decode cX7_tellsWhy 6 = .ok (.aload_n 0, 1) := by decide +kernel
theorem dX7_tellsWhy_7 : decode cX7_tellsWhy 7 = .ok (.getfield 40, 3) := by decide +kernel
theorem dX7_tellsWhy_10 : decode cX7_tellsWhy 10 = .ok (.iload_n 2, 1) := by decide +kernel
theorem dX7_tellsWhy_11 : decode cX7_tellsWhy 11 = .ok (.iaload, 1) := by decide +kernel
theorem dX7_tellsWhy_12 : decode cX7_tellsWhy 12 = .ok (.istore_n 3, 1) := by decide +kernel
theorem dX7_tellsWhy_13 : decode cX7_tellsWhy 13 = .ok (.aload_n 0, 1) := by decide +kernel
theorem dX7_tellsWhy_14 : decode cX7_tellsWhy 14 = .ok (.getfield 34, 3) := by decide +kernel
theorem dX7_tellsWhy_17 : decode cX7_tellsWhy 17 = .ok (.iload_n 2, 1) := by decide +kernel
theorem dX7_tellsWhy_18 : decode cX7_tellsWhy 18 = .ok (.iaload, 1) := by decide +kernel
theorem dX7_tellsWhy_19 : decode cX7_tellsWhy 19 = .ok (.invokestatic 132, 3) := by decide +kernel
theorem dX7_tellsWhy_22 : decode cX7_tellsWhy 22 = .ok (.iconst 1, 1) := by decide +kernel
theorem dX7_tellsWhy_23 : decode cX7_tellsWhy 23 = .ok (.if_icmp .ne 7, 3) := by decide +kernel
theorem dX7_tellsWhy_26 : decode cX7_tellsWhy 26 = .ok (.iconst 1, 1) := by decide +kernel
theorem dX7_tellsWhy_27 : decode cX7_tellsWhy 27 = .ok (.goto 4, 3) := by decide +kernel
theorem dX7_tellsWhy_30 : decode cX7_tellsWhy 30 = .ok (.iconst 0, 1) := by decide +kernel
theorem dX7_tellsWhy_31 : decode cX7_tellsWhy 31 = .ok (.istore 4, 2) := by decide +kernel
theorem dX7_tellsWhy_33 : decode cX7_tellsWhy 33 = .ok (.aload_n 0, 1) := by decide +kernel
theorem dX7_tellsWhy_34 : decode cX7_tellsWhy 34 = .ok (.iconst 0, 1) := by decide +kernel
theorem dX7_tellsWhy_35 : decode cX7_tellsWhy 35 = .ok (.bipush (-5), 2) := by decide +kernel
theorem dX7_tellsWhy_37 : decode cX7_tellsWhy 37 = .ok (.bipush (-5), 2) := by decide +kernel
theorem dX7_tellsWhy_39 : decode cX7_tellsWhy 39 = .ok (.invokevirtual 217, 3) := by decide +kernel
theorem dX7_tellsWhy_42 : decode cX7_tellsWhy 42 = .ok (.iload_n 3, 1) := by decide +kernel
theorem dX7_tellsWhy_43 : decode cX7_tellsWhy 43 = .ok (.ifCond .ne 58, 3) := by decide +kernel
theorem dX7_tellsWhy_46 : decode cX7_tellsWhy 46 = .ok (.aload_n 0, 1) := by decide +kernel
theorem dX7_tellsWhy_47 : decode cX7_tellsWhy 47 = .ok (.iload_n 2, 1) := by decide +kernel
theorem dX7_tellsWhy_48 : decode cX7_tellsWhy 48 = .ok (.invokevirtual 221, 3) := by decide +kernel
theorem dX7_tellsWhy_51 : decode cX7_tellsWhy 51 = .ok (.istore 5, 2) := by decide +kernel
theorem dX7_tellsWhy_53 : decode cX7_tellsWhy 53 = .ok (.aload_n 0, 1) := by decide +kernel
theorem dX7_tellsWhy_54 : decode cX7_tellsWhy 54 = .ok (.iconst 1, 1) := by decide +kernel
theorem dX7_tellsWhy_55 : decode cX7_tellsWhy 55 = .ok (.aload_n 0, 1) := by decide +kernel
theorem dX7_tellsWhy_56 : decode cX7_tellsWhy 56 = .ok (.getfield 15, 3) := by decide +kernel
theorem dX7_tellsWhy_59 : decode cX7_tellsWhy 59 = .ok (.iconst 1, 1) := by decide +kernel
theorem dX7_tellsWhy_60 : decode cX7_tellsWhy 60 = .ok (.iaload, 1) := by decide +kernel
theorem dX7_tellsWhy_61 : decode cX7_tellsWhy 61 = .ok (.ifCond .ne 8, 3) := by decide +kernel
theorem dX7_tellsWhy_64 : decode cX7_tellsWhy 64 = .ok (.bipush 99, 2) := by decide +kernel
theorem dX7_tellsWhy_66 : decode cX7_tellsWhy 66 = .ok (.goto 5, 3) := by decide +kernel
theorem dX7_tellsWhy_69 : decode cX7_tellsWhy 69 = .ok (.iload 5, 2) := by decide +kernel
theorem dX7_tellsWhy_71 : decode cX7_tellsWhy 71 = .ok (.aload_n 0, 1) := by decide +kernel
theorem dX7_tellsWhy_72 : decode cX7_tellsWhy 72 = .ok (.getfield 15, 3) := by decide +kernel
theorem dX7_tellsWhy_75 : decode cX7_tellsWhy 75 = .ok (.iconst 1, 1) := by decide +kernel
theorem dX7_tellsWhy_76 : decode cX7_tellsWhy 76 = .ok (.iaload, 1) := by decide +kernel
theorem dX7_tellsWhy_77 : decode cX7_tellsWhy 77 = .ok (.ifCond .eq 9, 3) := by decide +kernel
theorem dX7_tellsWhy_80 : decode cX7_tellsWhy 80 = .ok (.iload 5, 2) := by decide +kernel
theorem dX7_tellsWhy_82 : decode cX7_tellsWhy 82 = .ok (.iconst (-1), 1) := by decide +kernel
theorem dX7_tellsWhy_83 : decode cX7_tellsWhy 83 = .ok (.if_icmp .ne 7, 3) := by decide +kernel
theorem dX7_tellsWhy_86 : decode cX7_tellsWhy 86 = .ok (.iconst 0, 1) := by decide +kernel
theorem dX7_tellsWhy_87 : decode cX7_tellsWhy 87 = .ok (.goto 10, 3) := by decide +kernel
theorem dX7_tellsWhy_90 : decode cX7_tellsWhy 90 = .ok (.aload_n 0, 1) := by decide +kernel
theorem dX7_tellsWhy_91 : decode cX7_tellsWhy 91 = .ok (.getfield 37, 3) := by decide +kernel
theorem dX7_tellsWhy_94 : decode cX7_tellsWhy 94 = .ok (.iload 5, 2) := by decide +kernel
theorem dX7_tellsWhy_96 : decode cX7_tellsWhy 96 = .ok (.iaload, 1) := by decide +kernel
theorem dX7_tellsWhy_97 : decode cX7_tellsWhy 97 = .ok (.invokevirtual 217, 3) := by decide +kernel
theorem dX7_tellsWhy_100 : decode cX7_tellsWhy 100 = .ok (.return_, 1) := by decide +kernel
theorem dX7_tellsWhy_101 : decode cX7_tellsWhy 101 = .ok (.aload_n 0, 1) := by decide +kernel
theorem dX7_tellsWhy_102 : decode cX7_tellsWhy 102 = .ok (.getfield 37, 3) := by decide +kernel
theorem dX7_tellsWhy_105 : decode cX7_tellsWhy 105 = .ok (.iload_n 1, 1) := by decide +kernel
theorem dX7_tellsWhy_106 : decode cX7_tellsWhy 106 = .ok (.iaload, 1) := by decide +kernel
theorem dX7_tellsWhy_107 : decode cX7_tellsWhy 107 = .ok (.iload_n 3, 1) := by decide +kernel
theorem dX7_tellsWhy_108 : decode cX7_tellsWhy 108 = .ok (.if_icmp .lt 4, 3) := by decide +kernel
theorem dX7_tellsWhy_111 : decode cX7_tellsWhy 111 = .ok (.return_, 1) := by decide +kernel
theorem dX7_tellsWhy_112 : decode cX7_tellsWhy 112 = .ok (.aload_n 0, 1) := by decide +kernel
theorem dX7_tellsWhy_113 : decode cX7_tellsWhy 113 = .ok (.getfield 15, 3) := by decide +kernel
theorem dX7_tellsWhy_116 : decode cX7_tellsWhy 116 = .ok (.iconst 5, 1) := by decide +kernel
theorem dX7_tellsWhy_117 : decode cX7_tellsWhy 117 = .ok (.iload_n 1, 1) := by decide +kernel
theorem dX7_tellsWhy_118 : decode cX7_tellsWhy 118 = .ok (.iadd, 1) := by decide +kernel
theorem dX7_tellsWhy_119 : decode cX7_tellsWhy 119 = .ok (.iaload, 1) := by decide +kernel
theorem dX7_tellsWhy_120 : decode cX7_tellsWhy 120 = .ok (.iconst 2, 1) := by decide +kernel
theorem dX7_tellsWhy_121 : decode cX7_tellsWhy 121 = .ok (.if_icmp .ne 40, 3) := by decide +kernel
theorem dX7_tellsWhy_124 : decode cX7_tellsWhy 124 = .ok (.iload 4, 2) := by decide +kernel
theorem dX7_tellsWhy_126 : decode cX7_tellsWhy 126 = .ok (.ifCond .eq 35, 3) := by decide +kernel
theorem dX7_tellsWhy_129 : decode cX7_tellsWhy 129 = .ok (.aload_n 0, 1) := by decide +kernel
theorem dX7_tellsWhy_130 : decode cX7_tellsWhy 130 = .ok (.iload_n 1, 1) := by decide +kernel
theorem dX7_tellsWhy_131 : decode cX7_tellsWhy 131 = .ok (.invokevirtual 128, 3) := by decide +kernel
theorem dX7_tellsWhy_134 : decode cX7_tellsWhy 134 = .ok (.iconst (-1), 1) := by decide +kernel
theorem dX7_tellsWhy_135 : decode cX7_tellsWhy 135 = .ok (.if_icmp .eq 26, 3) := by decide +kernel
theorem dX7_tellsWhy_138 : decode cX7_tellsWhy 138 = .ok (.aload_n 0, 1) := by decide +kernel
theorem dX7_tellsWhy_139 : decode cX7_tellsWhy 139 = .ok (.iconst 2, 1) := by decide +kernel
theorem dX7_tellsWhy_140 : decode cX7_tellsWhy 140 = .ok (.aload_n 0, 1) := by decide +kernel
theorem dX7_tellsWhy_141 : decode cX7_tellsWhy 141 = .ok (.iload_n 1, 1) := by decide +kernel
theorem dX7_tellsWhy_142 : decode cX7_tellsWhy 142 = .ok (.invokevirtual 128, 3) := by decide +kernel
theorem dX7_tellsWhy_145 : decode cX7_tellsWhy 145 = .ok (.aload_n 0, 1) := by decide +kernel
theorem dX7_tellsWhy_146 : decode cX7_tellsWhy 146 = .ok (.getfield 37, 3) := by decide +kernel
theorem dX7_tellsWhy_149 : decode cX7_tellsWhy 149 = .ok (.aload_n 0, 1) := by decide +kernel
theorem dX7_tellsWhy_150 : decode cX7_tellsWhy 150 = .ok (.iload_n 1, 1) := by decide +kernel
theorem dX7_tellsWhy_151 : decode cX7_tellsWhy 151 = .ok (.invokevirtual 128, 3) := by decide +kernel
theorem dX7_tellsWhy_154 : decode cX7_tellsWhy 154 = .ok (.iaload, 1) := by decide +kernel
theorem dX7_tellsWhy_155 : decode cX7_tellsWhy 155 = .ok (.invokevirtual 217, 3) := by decide +kernel
theorem dX7_tellsWhy_158 : decode cX7_tellsWhy 158 = .ok (.goto 122, 3) := by decide +kernel
theorem dX7_tellsWhy_161 : decode cX7_tellsWhy 161 = .ok (.aload_n 0, 1) := by decide +kernel
theorem dX7_tellsWhy_162 : decode cX7_tellsWhy 162 = .ok (.iload_n 1, 1) := by decide +kernel
theorem dX7_tellsWhy_163 : decode cX7_tellsWhy 163 = .ok (.iload_n 3, 1) := by decide +kernel
theorem dX7_tellsWhy_164 : decode cX7_tellsWhy 164 = .ok (.invokevirtual 122, 3) := by decide +kernel
theorem dX7_tellsWhy_167 : decode cX7_tellsWhy 167 = .ok (.aload_n 0, 1) := by decide +kernel
theorem dX7_tellsWhy_168 : decode cX7_tellsWhy 168 = .ok (.getfield 15, 3) := by decide +kernel
theorem dX7_tellsWhy_171 : decode cX7_tellsWhy 171 = .ok (.bipush 17, 2) := by decide +kernel
theorem dX7_tellsWhy_173 : decode cX7_tellsWhy 173 = .ok (.iload_n 1, 1) := by decide +kernel
theorem dX7_tellsWhy_174 : decode cX7_tellsWhy 174 = .ok (.iadd, 1) := by decide +kernel
theorem dX7_tellsWhy_175 : decode cX7_tellsWhy 175 = .ok (.iaload, 1) := by decide +kernel
theorem dX7_tellsWhy_176 : decode cX7_tellsWhy 176 = .ok (.if_icmp .gt 26, 3) := by decide +kernel
theorem dX7_tellsWhy_179 : decode cX7_tellsWhy 179 = .ok (.aload_n 0, 1) := by decide +kernel
theorem dX7_tellsWhy_180 : decode cX7_tellsWhy 180 = .ok (.iconst 3, 1) := by decide +kernel
theorem dX7_tellsWhy_181 : decode cX7_tellsWhy 181 = .ok (.aload_n 0, 1) := by decide +kernel
theorem dX7_tellsWhy_182 : decode cX7_tellsWhy 182 = .ok (.iload_n 1, 1) := by decide +kernel
theorem dX7_tellsWhy_183 : decode cX7_tellsWhy 183 = .ok (.iload_n 3, 1) := by decide +kernel
theorem dX7_tellsWhy_184 : decode cX7_tellsWhy 184 = .ok (.invokevirtual 122, 3) := by decide +kernel
theorem dX7_tellsWhy_187 : decode cX7_tellsWhy 187 = .ok (.aload_n 0, 1) := by decide +kernel
theorem dX7_tellsWhy_188 : decode cX7_tellsWhy 188 = .ok (.getfield 15, 3) := by decide +kernel
theorem dX7_tellsWhy_191 : decode cX7_tellsWhy 191 = .ok (.bipush 17, 2) := by decide +kernel
theorem dX7_tellsWhy_193 : decode cX7_tellsWhy 193 = .ok (.iload_n 1, 1) := by decide +kernel
theorem dX7_tellsWhy_194 : decode cX7_tellsWhy 194 = .ok (.iadd, 1) := by decide +kernel
theorem dX7_tellsWhy_195 : decode cX7_tellsWhy 195 = .ok (.iaload, 1) := by decide +kernel
theorem dX7_tellsWhy_196 : decode cX7_tellsWhy 196 = .ok (.invokevirtual 217, 3) := by decide +kernel
theorem dX7_tellsWhy_199 : decode cX7_tellsWhy 199 = .ok (.goto 81, 3) := by decide +kernel
theorem dX7_tellsWhy_202 : decode cX7_tellsWhy 202 = .ok (.aload_n 0, 1) := by decide +kernel
theorem dX7_tellsWhy_203 : decode cX7_tellsWhy 203 = .ok (.getfield 37, 3) := by decide +kernel
theorem dX7_tellsWhy_206 : decode cX7_tellsWhy 206 = .ok (.iload_n 1, 1) := by decide +kernel
theorem dX7_tellsWhy_207 : decode cX7_tellsWhy 207 = .ok (.iaload, 1) := by decide +kernel
theorem dX7_tellsWhy_208 : decode cX7_tellsWhy 208 = .ok (.aload_n 0, 1) := by decide +kernel
theorem dX7_tellsWhy_209 : decode cX7_tellsWhy 209 = .ok (.getfield 15, 3) := by decide +kernel
theorem dX7_tellsWhy_212 : decode cX7_tellsWhy 212 = .ok (.bipush 11, 2) := by decide +kernel
theorem dX7_tellsWhy_214 : decode cX7_tellsWhy 214 = .ok (.iload_n 1, 1) := by decide +kernel
theorem dX7_tellsWhy_215 : decode cX7_tellsWhy 215 = .ok (.iadd, 1) := by decide +kernel
theorem dX7_tellsWhy_216 : decode cX7_tellsWhy 216 = .ok (.iaload, 1) := by decide +kernel
theorem dX7_tellsWhy_217 : decode cX7_tellsWhy 217 = .ok (.if_icmp .ne 22, 3) := by decide +kernel
theorem dX7_tellsWhy_220 : decode cX7_tellsWhy 220 = .ok (.aload_n 0, 1) := by decide +kernel
theorem dX7_tellsWhy_221 : decode cX7_tellsWhy 221 = .ok (.iconst 4, 1) := by decide +kernel
theorem dX7_tellsWhy_222 : decode cX7_tellsWhy 222 = .ok (.aload_n 0, 1) := by decide +kernel
theorem dX7_tellsWhy_223 : decode cX7_tellsWhy 223 = .ok (.getfield 15, 3) := by decide +kernel
theorem dX7_tellsWhy_226 : decode cX7_tellsWhy 226 = .ok (.bipush 11, 2) := by decide +kernel
theorem dX7_tellsWhy_228 : decode cX7_tellsWhy 228 = .ok (.iload_n 1, 1) := by decide +kernel
theorem dX7_tellsWhy_229 : decode cX7_tellsWhy 229 = .ok (.iadd, 1) := by decide +kernel
theorem dX7_tellsWhy_230 : decode cX7_tellsWhy 230 = .ok (.iaload, 1) := by decide +kernel
theorem dX7_tellsWhy_231 : decode cX7_tellsWhy 231 = .ok (.bipush (-5), 2) := by decide +kernel
theorem dX7_tellsWhy_233 : decode cX7_tellsWhy 233 = .ok (.invokevirtual 217, 3) := by decide +kernel
theorem dX7_tellsWhy_236 : decode cX7_tellsWhy 236 = .ok (.goto 44, 3) := by decide +kernel
theorem dX7_tellsWhy_239 : decode cX7_tellsWhy 239 = .ok (.iload 4, 2) := by decide +kernel
theorem dX7_tellsWhy_241 : decode cX7_tellsWhy 241 = .ok (.ifCond .ne 23, 3) := by decide +kernel
theorem dX7_tellsWhy_244 : decode cX7_tellsWhy 244 = .ok (.aload_n 0, 1) := by decide +kernel
theorem dX7_tellsWhy_245 : decode cX7_tellsWhy 245 = .ok (.iconst 5, 1) := by decide +kernel
theorem dX7_tellsWhy_246 : decode cX7_tellsWhy 246 = .ok (.aload_n 0, 1) := by decide +kernel
theorem dX7_tellsWhy_247 : decode cX7_tellsWhy 247 = .ok (.getfield 34, 3) := by decide +kernel
theorem dX7_tellsWhy_250 : decode cX7_tellsWhy 250 = .ok (.iload_n 2, 1) := by decide +kernel
theorem dX7_tellsWhy_251 : decode cX7_tellsWhy 251 = .ok (.iaload, 1) := by decide +kernel
theorem dX7_tellsWhy_252 : decode cX7_tellsWhy 252 = .ok (.aload_n 0, 1) := by decide +kernel
theorem dX7_tellsWhy_253 : decode cX7_tellsWhy 253 = .ok (.getfield 43, 3) := by decide +kernel
theorem dX7_tellsWhy_256 : decode cX7_tellsWhy 256 = .ok (.iload_n 2, 1) := by decide +kernel
theorem dX7_tellsWhy_257 : decode cX7_tellsWhy 257 = .ok (.iaload, 1) := by decide +kernel
theorem dX7_tellsWhy_258 : decode cX7_tellsWhy 258 = .ok (.invokevirtual 217, 3) := by decide +kernel
theorem dX7_tellsWhy_261 : decode cX7_tellsWhy 261 = .ok (.goto 19, 3) := by decide +kernel
theorem dX7_tellsWhy_264 : decode cX7_tellsWhy 264 = .ok (.aload_n 0, 1) := by decide +kernel
theorem dX7_tellsWhy_265 : decode cX7_tellsWhy 265 = .ok (.bipush 6, 2) := by decide +kernel
theorem dX7_tellsWhy_267 : decode cX7_tellsWhy 267 = .ok (.iload_n 3, 1) := by decide +kernel
theorem dX7_tellsWhy_268 : decode cX7_tellsWhy 268 = .ok (.aload_n 0, 1) := by decide +kernel
theorem dX7_tellsWhy_269 : decode cX7_tellsWhy 269 = .ok (.getfield 37, 3) := by decide +kernel
theorem dX7_tellsWhy_272 : decode cX7_tellsWhy 272 = .ok (.iload_n 1, 1) := by decide +kernel
theorem dX7_tellsWhy_273 : decode cX7_tellsWhy 273 = .ok (.iaload, 1) := by decide +kernel
theorem dX7_tellsWhy_274 : decode cX7_tellsWhy 274 = .ok (.isub, 1) := by decide +kernel
theorem dX7_tellsWhy_275 : decode cX7_tellsWhy 275 = .ok (.bipush (-5), 2) := by decide +kernel
theorem dX7_tellsWhy_277 : decode cX7_tellsWhy 277 = .ok (.invokevirtual 217, 3) := by decide +kernel
theorem dX7_tellsWhy_280 : decode cX7_tellsWhy 280 = .ok (.return_, 1) := by decide +kernel
theorem dX7_why_0 : decode cX7_why 0 = .ok (.aload_n 0, 1) := by decide +kernel
theorem dX7_why_1 : decode cX7_why 1 = .ok (.iload_n 1, 1) := by decide +kernel
theorem dX7_why_2 : decode cX7_why 2 = .ok (.invokevirtual 92, 3) := by decide +kernel
theorem dX7_why_5 : decode cX7_why 5 = .ok (.ifCond .eq 7, 3) := by decide +kernel
theorem dX7_why_8 : decode cX7_why 8 = .ok (.iload_n 2, 1) := by decide +kernel
theorem dX7_why_9 : decode cX7_why 9 = .ok (.ifCond .ge 5, 3) := by decide +kernel
theorem dX7_why_12 : decode cX7_why 12 = .ok (.iconst (-1), 1) := by decide +kernel
theorem dX7_why_13 : decode cX7_why 13 = .ok (.ireturn, 1) := by decide +kernel
theorem dX7_why_14 : decode cX7_why 14 = .ok (.aload_n 0, 1) := by decide +kernel
theorem dX7_why_15 : decode cX7_why 15 = .ok (.invokevirtual 148, 3) := by decide +kernel
theorem dX7_why_18 : decode cX7_why 18 = .ok (.aload_n 0, 1) := by decide +kernel
theorem dX7_why_19 : decode cX7_why 19 = .ok (.iload_n 1, 1) := by decide +kernel
theorem dX7_why_20 : decode cX7_why 20 = .ok (.invokevirtual 224, 3) := by decide +kernel
theorem dX7_why_23 : decode cX7_why 23 = .ok (.iload_n 2, 1) := by decide +kernel
