theorem dX7_why_24 : decode cX7_why 24 = .ok (.iconst 3, 1) := by decide +kernel
theorem dX7_why_25 : decode cX7_why 25 = .ok (.if_icmp .ge 12, 3) := by decide +kernel
theorem dX7_why_28 : decode cX7_why 28 = .ok (.aload_n 0, 1) := by decide +kernel
theorem dX7_why_29 : decode cX7_why 29 = .ok (.getfield 64, 3) := by decide +kernel
theorem dX7_why_32 : decode cX7_why 32 = .ok (.iload_n 2, 1) := by decide +kernel
theorem dX7_why_33 : decode cX7_why 33 = .ok (.iaload, 1) := by decide +kernel
theorem dX7_why_34 : decode cX7_why 34 = .ok (.goto 5, 3) := by decide +kernel
theorem dX7_why_37 : decode cX7_why 37 = .ok (.bipush (-5), 2) := by decide +kernel
theorem dX7_why_39 : decode cX7_why 39 = .ok (.ireturn, 1) := by decide +kernel
theorem dX7_net_0 : decode cX7_net 0 = .ok (.aload_n 0, 1) := by decide +kernel
theorem dX7_net_1 : decode cX7_net 1 = .ok (.iload_n 1, 1) := by decide +kernel
theorem dX7_net_2 : decode cX7_net 2 = .ok (.invokevirtual 92, 3) := by decide +kernel
theorem dX7_net_5 : decode cX7_net 5 = .ok (.ifCond .ne 5, 3) := by decide +kernel
theorem dX7_net_8 : decode cX7_net 8 = .ok (.iconst (-1), 1) := by decide +kernel
theorem dX7_net_9 : decode cX7_net 9 = .ok (.ireturn, 1) := by decide +kernel
theorem dX7_net_10 : decode cX7_net 10 = .ok (.iload_n 2, 1) := by decide +kernel
theorem dX7_net_11 : decode cX7_net 11 = .ok (.i2l, 1) := by decide +kernel
theorem dX7_net_12 : decode cX7_net 12 = .ok (.lconst 0, 1) := by decide +kernel
theorem dX7_net_13 : decode cX7_net 13 = .ok (.ldc2_w 228, 3) := by decide +kernel
theorem dX7_net_16 : decode cX7_net 16 = .ok (.invokestatic 80, 3) := by decide +kernel
theorem dX7_net_19 : decode cX7_net 19 = .ok (.ifCond .ne 6, 3) := by decide +kernel
theorem dX7_net_22 : decode cX7_net 22 = .ok (.bipush (-2), 2) := by decide +kernel
theorem dX7_net_24 : decode cX7_net 24 = .ok (.ireturn, 1) := by decide +kernel
theorem dX7_net_25 : decode cX7_net 25 = .ok (.aload_n 0, 1) := by decide +kernel
theorem dX7_net_26 : decode cX7_net 26 = .ok (.invokevirtual 148, 3) := by decide +kernel
theorem dX7_net_29 : decode cX7_net 29 = .ok (.iload_n 2, 1) := by decide +kernel
theorem dX7_net_30 : decode cX7_net 30 = .ok (.istore_n 3, 1) := by decide +kernel
theorem dX7_net_31 : decode cX7_net 31 = .ok (.iconst 0, 1) := by decide +kernel
theorem dX7_net_32 : decode cX7_net 32 = .ok (.istore 4, 2) := by decide +kernel
theorem dX7_net_34 : decode cX7_net 34 = .ok (.iload 4, 2) := by decide +kernel
theorem dX7_net_36 : decode cX7_net 36 = .ok (.bipush 6, 2) := by decide +kernel
theorem dX7_net_38 : decode cX7_net 38 = .ok (.if_icmp .ge 17, 3) := by decide +kernel
theorem dX7_net_41 : decode cX7_net 41 = .ok (.aload_n 0, 1) := by decide +kernel
theorem dX7_net_42 : decode cX7_net 42 = .ok (.getfield 67, 3) := by decide +kernel
theorem dX7_net_45 : decode cX7_net 45 = .ok (.iload 4, 2) := by decide +kernel
theorem dX7_net_47 : decode cX7_net 47 = .ok (.iconst 0, 1) := by decide +kernel
theorem dX7_net_48 : decode cX7_net 48 = .ok (.iastore, 1) := by decide +kernel
theorem dX7_net_49 : decode cX7_net 49 = .ok (.iinc 4 1, 3) := by decide +kernel
theorem dX7_net_52 : decode cX7_net 52 = .ok (.goto (-18), 3) := by decide +kernel
theorem dX7_net_55 : decode cX7_net 55 = .ok (.aload_n 0, 1) := by decide +kernel
theorem dX7_net_56 : decode cX7_net 56 = .ok (.getfield 115, 3) := by decide +kernel
theorem dX7_net_59 : decode cX7_net 59 = .ok (.iconst 1, 1) := by decide +kernel
theorem dX7_net_60 : decode cX7_net 60 = .ok (.isub, 1) := by decide +kernel
theorem dX7_net_61 : decode cX7_net 61 = .ok (.istore 4, 2) := by decide +kernel
theorem dX7_net_63 : decode cX7_net 63 = .ok (.iload 4, 2) := by decide +kernel
theorem dX7_net_65 : decode cX7_net 65 = .ok (.ifCond .lt 99, 3) := by decide +kernel
theorem dX7_net_68 : decode cX7_net 68 = .ok (.iconst 1, 1) := by decide +kernel
theorem dX7_net_69 : decode cX7_net 69 = .ok (.istore 5, 2) := by decide +kernel
theorem dX7_net_71 : decode cX7_net 71 = .ok (.iload 5, 2) := by decide +kernel
theorem dX7_net_73 : decode cX7_net 73 = .ok (.ifCond .eq 85, 3) := by decide +kernel
theorem dX7_net_76 : decode cX7_net 76 = .ok (.iconst 0, 1) := by decide +kernel
theorem dX7_net_77 : decode cX7_net 77 = .ok (.istore 5, 2) := by decide +kernel
theorem dX7_net_79 : decode cX7_net 79 = .ok (.iconst 0, 1) := by decide +kernel
theorem dX7_net_80 : decode cX7_net 80 = .ok (.istore 6, 2) := by decide +kernel
theorem dX7_net_82 : decode cX7_net 82 = .ok (.iload 6, 2) := by decide +kernel
theorem dX7_net_84 : decode cX7_net 84 = .ok (.aload_n 0, 1) := by decide +kernel
theorem dX7_net_85 : decode cX7_net 85 = .ok (.getfield 15, 3) := by decide +kernel
theorem dX7_net_88 : decode cX7_net 88 = .ok (.iconst 0, 1) := by decide +kernel
theorem dX7_net_89 : decode cX7_net 89 = .ok (.iaload, 1) := by decide +kernel
theorem dX7_net_90 : decode cX7_net 90 = .ok (.if_icmp .ge 65, 3) := by decide +kernel
theorem dX7_net_93 : decode cX7_net 93 = .ok (.iload_n 3, 1) := by decide +kernel
theorem dX7_net_94 : decode cX7_net 94 = .ok (.ifCond .eq 55, 3) := by decide +kernel
theorem dX7_net_97 : decode cX7_net 97 = .ok (.aload_n 0, 1) := by decide +kernel
theorem dX7_net_98 : decode cX7_net 98 = .ok (.getfield 34, 3) := by decide +kernel
theorem dX7_net_101 : decode cX7_net 101 = .ok (.iload 4, 2) := by decide +kernel
theorem dX7_net_103 : decode cX7_net 103 = .ok (.iaload, 1) := by decide +kernel
theorem dX7_net_104 : decode cX7_net 104 = .ok (.iload 6, 2) := by decide +kernel
theorem dX7_net_106 : decode cX7_net 106 = .ok (.invokestatic 102, 3) := by decide +kernel
theorem dX7_net_109 : decode cX7_net 109 = .ok (.ifCond .eq 40, 3) := by decide +kernel
theorem dX7_net_112 : decode cX7_net 112 = .ok (.aload_n 0, 1) := by decide +kernel
theorem dX7_net_113 : decode cX7_net 113 = .ok (.getfield 67, 3) := by decide +kernel
theorem dX7_net_116 : decode cX7_net 116 = .ok (.iload 6, 2) := by decide +kernel
theorem dX7_net_118 : decode cX7_net 118 = .ok (.iaload, 1) := by decide +kernel
theorem dX7_net_119 : decode cX7_net 119 = .ok (.aload_n 0, 1) := by decide +kernel
theorem dX7_net_120 : decode cX7_net 120 = .ok (.getfield 37, 3) := by decide +kernel
theorem dX7_net_123 : decode cX7_net 123 = .ok (.iload 6, 2) := by decide +kernel
theorem dX7_net_125 : decode cX7_net 125 = .ok (.iaload, 1) := by decide +kernel
theorem dX7_net_126 : decode cX7_net 126 = .ok (.if_icmp .ne 6, 3) := by decide +kernel
theorem dX7_net_129 : decode cX7_net 129 = .ok (.goto 20, 3) := by decide +kernel
theorem dX7_net_132 : decode cX7_net 132 = .ok (.aload_n 0, 1) := by decide +kernel
theorem dX7_net_133 : decode cX7_net 133 = .ok (.getfield 67, 3) := by decide +kernel
theorem dX7_net_136 : decode cX7_net 136 = .ok (.iload 6, 2) := by decide +kernel
theorem dX7_net_138 : decode cX7_net 138 = .ok (.dup2, 1) := by decide +kernel
theorem dX7_net_139 : decode cX7_net 139 = .ok (.iaload, 1) := by decide +kernel
theorem dX7_net_140 : decode cX7_net 140 = .ok (.iconst 1, 1) := by decide +kernel
theorem dX7_net_141 : decode cX7_net 141 = .ok (.iadd, 1) := by decide +kernel
theorem dX7_net_142 : decode cX7_net 142 = .ok (.iastore, 1) := by decide +kernel
theorem dX7_net_143 : decode cX7_net 143 = .ok (.iinc 3 (-1), 3) := by decide +kernel
theorem dX7_net_146 : decode cX7_net 146 = .ok (.iconst 1, 1) := by decide +kernel
theorem dX7_net_147 : decode cX7_net 147 = .ok (.istore 5, 2) := by decide +kernel
theorem dX7_net_149 : decode cX7_net 149 = .ok (.iinc 6 1, 3) := by decide +kernel
theorem dX7_net_152 : decode cX7_net 152 = .ok (.goto (-70), 3) := by decide +kernel
theorem dX7_net_155 : decode cX7_net 155 = .ok (.goto (-84), 3) := by decide +kernel
theorem dX7_net_158 : decode cX7_net 158 = .ok (.iinc 4 (-1), 3) := by decide +kernel
theorem dX7_net_161 : decode cX7_net 161 = .ok (.goto (-98), 3) := by decide +kernel
theorem dX7_net_164 : decode cX7_net 164 = .ok (.aload_n 0, 1) := by decide +kernel
theorem dX7_net_165 : decode cX7_net 165 = .ok (.getfield 37, 3) := by decide +kernel
theorem dX7_net_168 : decode cX7_net 168 = .ok (.iload_n 1, 1) := by decide +kernel
theorem dX7_net_169 : decode cX7_net 169 = .ok (.iaload, 1) := by decide +kernel
theorem dX7_net_170 : decode cX7_net 170 = .ok (.aload_n 0, 1) := by decide +kernel
theorem dX7_net_171 : decode cX7_net 171 = .ok (.getfield 67, 3) := by decide +kernel
theorem dX7_net_174 : decode cX7_net 174 = .ok (.iload_n 1, 1) := by decide +kernel
theorem dX7_net_175 : decode cX7_net 175 = .ok (.iaload, 1) := by decide +kernel
theorem dX7_net_176 : decode cX7_net 176 = .ok (.isub, 1) := by decide +kernel
theorem dX7_net_177 : decode cX7_net 177 = .ok (.ireturn, 1) := by decide +kernel
theorem dX7_paidBy_0 : decode cX7_paidBy 0 = .ok (.aload_n 0, 1) := by decide +kernel
theorem dX7_paidBy_1 : decode cX7_paidBy 1 = .ok (.getfield 15, 3) := by decide +kernel
theorem dX7_paidBy_4 : decode cX7_paidBy 4 = .ok (.iconst 1, 1) := by decide +kernel
theorem dX7_paidBy_5 : decode cX7_paidBy 5 = .ok (.iaload, 1) := by decide +kernel
theorem dX7_paidBy_6 : decode cX7_paidBy 6 = .ok (.istore_n 3, 1) := by decide +kernel
theorem dX7_paidBy_7 : decode cX7_paidBy 7 = .ok (.aload_n 0, 1) := by decide +kernel
theorem dX7_paidBy_8 : decode cX7_paidBy 8 = .ok (.getfield 15, 3) := by decide +kernel
theorem dX7_paidBy_11 : decode cX7_paidBy 11 = .ok (.iconst 1, 1) := by decide +kernel
theorem dX7_paidBy_12 : decode cX7_paidBy 12 = .ok (.iload_n 2, 1) := by decide +kernel
theorem dX7_paidBy_13 : decode cX7_paidBy 13 = .ok (.iastore, 1) := by decide +kernel
theorem dX7_paidBy_14 : decode cX7_paidBy 14 = .ok (.aload_n 0, 1) := by decide +kernel
theorem dX7_paidBy_15 : decode cX7_paidBy 15 = .ok (.invokevirtual 148, 3) := by decide +kernel
theorem dX7_paidBy_18 : decode cX7_paidBy 18 = .ok (.aload_n 0, 1) := by decide +kernel
theorem dX7_paidBy_19 : decode cX7_paidBy 19 = .ok (.getfield 15, 3) := by decide +kernel
theorem dX7_paidBy_22 : decode cX7_paidBy 22 = .ok (.iconst 1, 1) := by decide +kernel
theorem dX7_paidBy_23 : decode cX7_paidBy 23 = .ok (.iload_n 3, 1) := by decide +kernel
theorem dX7_paidBy_24 : decode cX7_paidBy 24 = .ok (.iastore, 1) := by decide +kernel
theorem dX7_paidBy_25 : decode cX7_paidBy 25 = .ok (.aload_n 0, 1) := by decide +kernel
theorem dX7_paidBy_26 : decode cX7_paidBy 26 = .ok (.getfield 37, 3) := by decide +kernel
theorem dX7_paidBy_29 : decode cX7_paidBy 29 = .ok (.iload_n 1, 1) := by decide +kernel
theorem dX7_paidBy_30 : decode cX7_paidBy 30 = .ok (.iaload, 1) := by decide +kernel
theorem dX7_paidBy_31 : decode cX7_paidBy 31 = .ok (.ireturn, 1) := by decide +kernel
theorem dX7_more_0 : decode cX7_more 0 = .ok (.aload_n 0, 1) := by decide +kernel
theorem dX7_more_1 : decode cX7_more 1 = .ok (.iload_n 1, 1) := by decide +kernel
theorem dX7_more_2 : decode cX7_more 2 = .ok (.invokevirtual 92, 3) := by decide +kernel
theorem dX7_more_5 : decode cX7_more 5 = .ok (.ifCond .ne 7, 3) := by decide +kernel
theorem dX7_more_8 : decode cX7_more 8 = .ok (.ldc2_w 230, 3) := by decide +kernel
theorem dX7_more_11 : decode cX7_more 11 = .ok (.lreturn, 1) := by decide +kernel
theorem dX7_more_12 : decode cX7_more 12 = .ok (.aload_n 0, 1) := by decide +kernel
theorem dX7_more_13 : decode cX7_more 13 = .ok (.iload_n 1, 1) := by decide +kernel
theorem dX7_more_14 : decode cX7_more 14 = .ok (.aload_n 0, 1) := by decide +kernel
theorem dX7_more_15 : decode cX7_more 15 = .ok (.getfield 15, 3) := by decide +kernel
theorem dX7_more_18 : decode cX7_more 18 = .ok (.iconst 1, 1) := by decide +kernel
theorem dX7_more_19 : decode cX7_more 19 = .ok (.iaload, 1) := by decide +kernel
theorem dX7_more_20 : decode cX7_more 20 = .ok (.iconst 1, 1) := by decide +kernel
theorem dX7_more_21 : decode cX7_more 21 = .ok (.iadd, 1) := by decide +kernel
theorem dX7_more_22 : decode cX7_more 22 = .ok (.invokevirtual 232, 3) := by decide +kernel
theorem dX7_more_25 : decode cX7_more 25 = .ok (.istore_n 2, 1) := by decide +kernel
theorem dX7_more_26 : decode cX7_more 26 = .ok (.iload_n 2, 1) := by decide +kernel
theorem dX7_more_27 : decode cX7_more 27 = .ok (.i2l, 1) := by decide +kernel
theorem dX7_more_28 : decode cX7_more 28 = .ok (.aload_n 0, 1) := by decide +kernel
theorem dX7_more_29 : decode cX7_more 29 = .ok (.iload_n 1, 1) := by decide +kernel
theorem dX7_more_30 : decode cX7_more 30 = .ok (.aload_n 0, 1) := by decide +kernel
theorem dX7_more_31 : decode cX7_more 31 = .ok (.getfield 15, 3) := by decide +kernel
theorem dX7_more_34 : decode cX7_more 34 = .ok (.iconst 1, 1) := by decide +kernel
theorem dX7_more_35 : decode cX7_more 35 = .ok (.iaload, 1) := by decide +kernel
theorem dX7_more_36 : decode cX7_more 36 = .ok (.invokevirtual 232, 3) := by decide +kernel
theorem dX7_more_39 : decode cX7_more 39 = .ok (.i2l, 1) := by decide +kernel
theorem dX7_more_40 : decode cX7_more 40 = .ok (.lsub, 1) := by decide +kernel
theorem dX7_more_41 : decode cX7_more 41 = .ok (.lreturn, 1) := by decide +kernel
theorem dX7_from_0 : decode cX7_from 0 = .ok (.aload_n 0, 1) := by decide +kernel
theorem dX7_from_1 : decode cX7_from 1 = .ok (.iload_n 1, 1) := by decide +kernel
theorem dX7_from_2 : decode cX7_from 2 = .ok (.invokevirtual 92, 3) := by decide +kernel
theorem dX7_from_5 : decode cX7_from 5 = .ok (.ifCond .ne 5, 3) := by decide +kernel
theorem dX7_from_8 : decode cX7_from 8 = .ok (.iconst (-1), 1) := by decide +kernel
theorem dX7_from_9 : decode cX7_from 9 = .ok (.ireturn, 1) := by decide +kernel
theorem dX7_from_10 : decode cX7_from 10 = .ok (.iconst 0, 1) := by decide +kernel
theorem dX7_from_11 : decode cX7_from 11 = .ok (.istore_n 2, 1) := by decide +kernel
theorem dX7_from_12 : decode cX7_from 12 = .ok (.iload_n 2, 1) := by decide +kernel
theorem dX7_from_13 : decode cX7_from 13 = .ok (.sipush 300, 3) := by decide +kernel
theorem dX7_from_16 : decode cX7_from 16 = .ok (.if_icmp .gt 20, 3) := by decide +kernel
theorem dX7_from_19 : decode cX7_from 19 = .ok (.aload_n 0, 1) := by decide +kernel
theorem dX7_from_20 : decode cX7_from 20 = .ok (.iload_n 1, 1) := by decide +kernel
theorem dX7_from_21 : decode cX7_from 21 = .ok (.iload_n 2, 1) := by decide +kernel
theorem dX7_from_22 : decode cX7_from 22 = .ok (.invokevirtual 232, 3) := by decide +kernel
theorem dX7_from_25 : decode cX7_from 25 = .ok (.ifCond .le 5, 3) := by decide +kernel
theorem dX7_from_28 : decode cX7_from 28 = .ok (.iload_n 2, 1) := by decide +kernel
theorem dX7_from_29 : decode cX7_from 29 = .ok (.ireturn, 1) := by decide +kernel
theorem dX7_from_30 : decode cX7_from 30 = .ok (.iinc 2 1, 3) := by decide +kernel
theorem dX7_from_33 : decode cX7_from 33 = .ok (.goto (-21), 3) := by decide +kernel
theorem dX7_from_36 : decode cX7_from 36 = .ok (.bipush (-5), 2) := by decide +kernel
theorem dX7_from_38 : decode cX7_from 38 = .ok (.ireturn, 1) := by decide +kernel
theorem dX7_see_0 : decode cX7_see 0 = .ok (.iload_n 1, 1) := by decide +kernel
theorem dX7_see_1 : decode cX7_see 1 = .ok (.iconst (-1), 1) := by decide +kernel
theorem dX7_see_2 : decode cX7_see 2 = .ok (.if_icmp .ne 12, 3) := by decide +kernel
theorem dX7_see_5 : decode cX7_see 5 = .ok (.aload_n 0, 1) := by decide +kernel
theorem dX7_see_6 : decode cX7_see 6 = .ok (.getfield 15, 3) := by decide +kernel
theorem dX7_see_9 : decode cX7_see 9 = .ok (.iconst 2, 1) := by decide +kernel
theorem dX7_see_10 : decode cX7_see 10 = .ok (.iconst 0, 1) := by decide +kernel
theorem dX7_see_11 : decode cX7_see 11 = .ok (.iastore, 1) := by decide +kernel
theorem dX7_see_12 : decode cX7_see 12 = .ok (.iconst 0, 1) := by decide +kernel
theorem dX7_see_13 : decode cX7_see 13 = .ok (.ireturn, 1) := by decide +kernel
theorem dX7_see_14 : decode cX7_see 14 = .ok (.aload_n 0, 1) := by decide +kernel
theorem dX7_see_15 : decode cX7_see 15 = .ok (.iload_n 1, 1) := by decide +kernel
theorem dX7_see_16 : decode cX7_see 16 = .ok (.invokevirtual 92, 3) := by decide +kernel
theorem dX7_see_19 : decode cX7_see 19 = .ok (.ifCond .ne 5, 3) := by decide +kernel
theorem dX7_see_22 : decode cX7_see 22 = .ok (.iconst (-1), 1) := by decide +kernel
theorem dX7_see_23 : decode cX7_see 23 = .ok (.ireturn, 1) := by decide +kernel
theorem dX7_see_24 : decode cX7_see 24 = .ok (.iload_n 2, 1) := by decide +kernel
theorem dX7_see_25 : decode cX7_see 25 = .ok (.i2l, 1) := by decide +kernel
theorem dX7_see_26 : decode cX7_see 26 = .ok (.lconst 0, 1) := by decide +kernel
theorem dX7_see_27 : decode cX7_see 27 = .ok (.ldc2_w 86, 3) := by decide +kernel
theorem dX7_see_30 : decode cX7_see 30 = .ok (.invokestatic 80, 3) := by decide +kernel
theorem dX7_see_33 : decode cX7_see 33 = .ok (.ifCond .ne 6, 3) := by decide +kernel
theorem dX7_see_36 : decode cX7_see 36 = .ok (.bipush (-2), 2) := by decide +kernel
theorem dX7_see_38 : decode cX7_see 38 = .ok (.ireturn, 1) := by decide +kernel
theorem dX7_see_39 : decode cX7_see 39 = .ok (.aload_n 0, 1) := by decide +kernel
theorem dX7_see_40 : decode cX7_see 40 = .ok (.getfield 15, 3) := by decide +kernel
theorem dX7_see_43 : decode cX7_see 43 = .ok (.iconst 2, 1) := by decide +kernel
theorem dX7_see_44 : decode cX7_see 44 = .ok (.iaload, 1) := by decide +kernel
theorem dX7_see_45 : decode cX7_see 45 = .ok (.iconst 5, 1) := by decide +kernel
theorem dX7_see_46 : decode cX7_see 46 = .ok (.if_icmp .ne 6, 3) := by decide +kernel
theorem dX7_see_49 : decode cX7_see 49 = .ok (.bipush (-4), 2) := by decide +kernel
theorem dX7_see_51 : decode cX7_see 51 = .ok (.ireturn, 1) := by decide +kernel
theorem dX7_see_52 : decode cX7_see 52 = .ok (.aload_n 0, 1) := by decide +kernel
theorem dX7_see_53 : decode cX7_see 53 = .ok (.getfield 15, 3) := by decide +kernel
theorem dX7_see_56 : decode cX7_see 56 = .ok (.bipush 35, 2) := by decide +kernel
theorem dX7_see_58 : decode cX7_see 58 = .ok (.aload_n 0, 1) := by decide +kernel
theorem dX7_see_59 : decode cX7_see 59 = .ok (.getfield 15, 3) := by decide +kernel
theorem dX7_see_62 : decode cX7_see 62 = .ok (.iconst 2, 1) := by decide +kernel
theorem dX7_see_63 : decode cX7_see 63 = .ok (.iaload, 1) := by decide +kernel
theorem dX7_see_64 : decode cX7_see 64 = .ok (.iadd, 1) := by decide +kernel
theorem dX7_see_65 : decode cX7_see 65 = .ok (.iload_n 1, 1) := by decide +kernel
theorem dX7_see_66 : decode cX7_see 66 = .ok (.iastore, 1) := by decide +kernel
theorem dX7_see_67 : decode cX7_see 67 = .ok (.aload_n 0, 1) := by decide +kernel
theorem dX7_see_68 : decode cX7_see 68 = .ok (.getfield 15, 3) := by decide +kernel
theorem dX7_see_71 : decode cX7_see 71 = .ok (.bipush 40, 2) := by decide +kernel
theorem dX7_see_73 : decode cX7_see 73 = .ok (.aload_n 0, 1) := by decide +kernel
theorem dX7_see_74 : decode cX7_see 74 = .ok (.getfield 15, 3) := by decide +kernel
theorem dX7_see_77 : decode cX7_see 77 = .ok (.iconst 2, 1) := by decide +kernel
theorem dX7_see_78 : decode cX7_see 78 = .ok (.iaload, 1) := by decide +kernel
theorem dX7_see_79 : decode cX7_see 79 = .ok (.iadd, 1) := by decide +kernel
theorem dX7_see_80 : decode cX7_see 80 = .ok (.iload_n 2, 1) := by decide +kernel
theorem dX7_see_81 : decode cX7_see 81 = .ok (.iastore, 1) := by decide +kernel
theorem dX7_see_82 : decode cX7_see 82 = .ok (.aload_n 0, 1) := by decide +kernel
theorem dX7_see_83 : decode cX7_see 83 = .ok (.getfield 15, 3) := by decide +kernel
theorem dX7_see_86 : decode cX7_see 86 = .ok (.iconst 2, 1) := by decide +kernel
theorem dX7_see_87 : decode cX7_see 87 = .ok (.dup2, 1) := by decide +kernel
theorem dX7_see_88 : decode cX7_see 88 = .ok (.iaload, 1) := by decide +kernel
theorem dX7_see_89 : decode cX7_see 89 = .ok (.iconst 1, 1) := by decide +kernel
theorem dX7_see_90 : decode cX7_see 90 = .ok (.iadd, 1) := by decide +kernel
theorem dX7_see_91 : decode cX7_see 91 = .ok (.iastore, 1) := by decide +kernel
theorem dX7_see_92 : decode cX7_see 92 = .ok (.aload_n 0, 1) := by decide +kernel
theorem dX7_see_93 : decode cX7_see 93 = .ok (.getfield 15, 3) := by decide +kernel
theorem dX7_see_96 : decode cX7_see 96 = .ok (.iconst 2, 1) := by decide +kernel
theorem dX7_see_97 : decode cX7_see 97 = .ok (.iaload, 1) := by decide +kernel
theorem dX7_see_98 : decode cX7_see 98 = .ok (.ireturn, 1) := by decide +kernel
theorem dX7_fitsBy_0 : decode cX7_fitsBy 0 = .ok (.aload_n 0, 1) := by decide +kernel
theorem dX7_fitsBy_1 : decode cX7_fitsBy 1 = .ok (.getfield 15, 3) := by decide +kernel
theorem dX7_fitsBy_4 : decode cX7_fitsBy 4 = .ok (.iconst 1, 1) := by decide +kernel
theorem dX7_fitsBy_5 : decode cX7_fitsBy 5 = .ok (.iaload, 1) := by decide +kernel
theorem dX7_fitsBy_6 : decode cX7_fitsBy 6 = .ok (.istore_n 2, 1) := by decide +kernel
theorem dX7_fitsBy_7 : decode cX7_fitsBy 7 = .ok (.aload_n 0, 1) := by decide +kernel
theorem dX7_fitsBy_8 : decode cX7_fitsBy 8 = .ok (.getfield 15, 3) := by decide +kernel
theorem dX7_fitsBy_11 : decode cX7_fitsBy 11 = .ok (.iconst 1, 1) := by decide +kernel
theorem dX7_fitsBy_12 : decode cX7_fitsBy 12 = .ok (.iload_n 1, 1) := by decide +kernel
theorem dX7_fitsBy_13 : decode cX7_fitsBy 13 = .ok (.iastore, 1) := by decide +kernel
theorem dX7_fitsBy_14 : decode cX7_fitsBy 14 = .ok (.aload_n 0, 1) := by decide +kernel
theorem dX7_fitsBy_15 : decode cX7_fitsBy 15 = .ok (.invokevirtual 148, 3) := by decide +kernel
theorem dX7_fitsBy_18 : decode cX7_fitsBy 18 = .ok (.aload_n 0, 1) := by decide +kernel
theorem dX7_fitsBy_19 : decode cX7_fitsBy 19 = .ok (.getfield 15, 3) := by decide +kernel
theorem dX7_fitsBy_22 : decode cX7_fitsBy 22 = .ok (.iconst 1, 1) := by decide +kernel
theorem dX7_fitsBy_23 : decode cX7_fitsBy 23 = .ok (.iload_n 2, 1) := by decide +kernel
theorem dX7_fitsBy_24 : decode cX7_fitsBy 24 = .ok (.iastore, 1) := by decide +kernel
theorem dX7_fitsBy_25 : decode cX7_fitsBy 25 = .ok (.iconst 0, 1) := by decide +kernel
theorem dX7_fitsBy_26 : decode cX7_fitsBy 26 = .ok (.istore_n 3, 1) := by decide +kernel
theorem dX7_fitsBy_27 : decode cX7_fitsBy 27 = .ok (.iload_n 3, 1) := by decide +kernel
theorem dX7_fitsBy_28 : decode cX7_fitsBy 28 = .ok (.aload_n 0, 1) := by decide +kernel
theorem dX7_fitsBy_29 : decode cX7_fitsBy 29 = .ok (.getfield 15, 3) := by decide +kernel
theorem dX7_fitsBy_32 : decode cX7_fitsBy 32 = .ok (.iconst 2, 1) := by decide +kernel
theorem dX7_fitsBy_33 : decode cX7_fitsBy 33 = .ok (.iaload, 1) := by decide +kernel
theorem dX7_fitsBy_34 : decode cX7_fitsBy 34 = .ok (.if_icmp .ge 37, 3) := by decide +kernel
theorem dX7_fitsBy_37 : decode cX7_fitsBy 37 = .ok (.aload_n 0, 1) := by decide +kernel
theorem dX7_fitsBy_38 : decode cX7_fitsBy 38 = .ok (.getfield 37, 3) := by decide +kernel
theorem dX7_fitsBy_41 : decode cX7_fitsBy 41 = .ok (.aload_n 0, 1) := by decide +kernel
theorem dX7_fitsBy_42 : decode cX7_fitsBy 42 = .ok (.getfield 15, 3) := by decide +kernel
theorem dX7_fitsBy_45 : decode cX7_fitsBy 45 = .ok (.bipush 35, 2) := by decide +kernel
theorem dX7_fitsBy_47 : decode cX7_fitsBy 47 = .ok (.iload_n 3, 1) := by decide +kernel
theorem dX7_fitsBy_48 : decode cX7_fitsBy 48 = .ok (.iadd, 1) := by decide +kernel
theorem dX7_fitsBy_49 : decode cX7_fitsBy 49 = .ok (.iaload, 1) := by decide +kernel
theorem dX7_fitsBy_50 : decode cX7_fitsBy 50 = .ok (.iaload, 1) := by decide +kernel
theorem dX7_fitsBy_51 : decode cX7_fitsBy 51 = .ok (.aload_n 0, 1) := by decide +kernel
theorem dX7_fitsBy_52 : decode cX7_fitsBy 52 = .ok (.getfield 15, 3) := by decide +kernel
theorem dX7_fitsBy_55 : decode cX7_fitsBy 55 = .ok (.bipush 40, 2) := by decide +kernel
theorem dX7_fitsBy_57 : decode cX7_fitsBy 57 = .ok (.iload_n 3, 1) := by decide +kernel
theorem dX7_fitsBy_58 : decode cX7_fitsBy 58 = .ok (.iadd, 1) := by decide +kernel
theorem dX7_fitsBy_59 : decode cX7_fitsBy 59 = .ok (.iaload, 1) := by decide +kernel
theorem dX7_fitsBy_60 : decode cX7_fitsBy 60 = .ok (.if_icmp .eq 5, 3) := by decide +kernel
theorem dX7_fitsBy_63 : decode cX7_fitsBy 63 = .ok (.iconst 0, 1) := by decide +kernel
theorem dX7_fitsBy_64 : decode cX7_fitsBy 64 = .ok (.ireturn, 1) := by decide +kernel
theorem dX7_fitsBy_65 : decode cX7_fitsBy 65 = .ok (.iinc 3 1, 3) := by decide +kernel
theorem dX7_fitsBy_68 : decode cX7_fitsBy 68 = .ok (.goto (-41), 3) := by decide +kernel
theorem dX7_fitsBy_71 : decode cX7_fitsBy 71 = .ok (.iconst 1, 1) := by decide +kernel
theorem dX7_fitsBy_72 : decode cX7_fitsBy 72 = .ok (.ireturn, 1) := by decide +kernel
theorem dX7_fits_0 : decode cX7_fits 0 = .ok (.iload_n 1, 1) := by decide +kernel
theorem dX7_fits_1 : decode cX7_fits 1 = .ok (.i2l, 1) := by decide +kernel
theorem dX7_fits_2 : decode cX7_fits 2 = .ok (.lconst 0, 1) := by decide +kernel
theorem dX7_fits_3 : decode cX7_fits 3 = .ok (.lconst 1, 1) := by decide +kernel
theorem dX7_fits_4 : decode cX7_fits 4 = .ok (.invokestatic 80, 3) := by decide +kernel
theorem dX7_fits_7 : decode cX7_fits 7 = .ok (.ifCond .ne 5, 3) := by decide +kernel
theorem dX7_fits_10 : decode cX7_fits 10 = .ok (.iconst (-1), 1) := by decide +kernel
theorem dX7_fits_11 : decode cX7_fits 11 = .ok (.ireturn, 1) := by decide +kernel
theorem dX7_fits_12 : decode cX7_fits 12 = .ok (.iconst 0, 1) := by decide +kernel
theorem dX7_fits_13 : decode cX7_fits 13 = .ok (.istore_n 2, 1) := by decide +kernel
theorem dX7_fits_14 : decode cX7_fits 14 = .ok (.bipush (-5), 2) := by decide +kernel
theorem dX7_fits_16 : decode cX7_fits 16 = .ok (.istore_n 3, 1) := by decide +kernel
theorem dX7_fits_17 : decode cX7_fits 17 = .ok (.iconst 0, 1) := by decide +kernel
theorem dX7_fits_18 : decode cX7_fits 18 = .ok (.istore 4, 2) := by decide +kernel
theorem dX7_fits_20 : decode cX7_fits 20 = .ok (.iload 4, 2) := by decide +kernel
theorem dX7_fits_22 : decode cX7_fits 22 = .ok (.sipush 300, 3) := by decide +kernel
theorem dX7_fits_25 : decode cX7_fits 25 = .ok (.if_icmp .gt 31, 3) := by decide +kernel
theorem dX7_fits_28 : decode cX7_fits 28 = .ok (.aload_n 0, 1) := by decide +kernel
theorem dX7_fits_29 : decode cX7_fits 29 = .ok (.iload 4, 2) := by decide +kernel
theorem dX7_fits_31 : decode cX7_fits 31 = .ok (.invokevirtual 235, 3) := by decide +kernel
theorem dX7_fits_34 : decode cX7_fits 34 = .ok (.ifCond .ne 6, 3) := by decide +kernel
theorem dX7_fits_37 : decode cX7_fits 37 = .ok (.goto 13, 3) := by decide +kernel
theorem dX7_fits_40 : decode cX7_fits 40 = .ok (.iload_n 2, 1) := by decide +kernel
theorem dX7_fits_41 : decode cX7_fits 41 = .ok (.ifCond .ne 6, 3) := by decide +kernel
theorem dX7_fits_44 : decode cX7_fits 44 = .ok (.iload 4, 2) := by decide +kernel
theorem dX7_fits_46 : decode cX7_fits 46 = .ok (.istore_n 3, 1) := by decide +kernel
theorem dX7_fits_47 : decode cX7_fits 47 = .ok (.iinc 2 1, 3) := by decide +kernel
theorem dX7_fits_50 : decode cX7_fits 50 = .ok (.iinc 4 1, 3) := by decide +kernel
theorem dX7_fits_53 : decode cX7_fits 53 = .ok (.goto (-33), 3) := by decide +kernel
theorem dX7_fits_56 : decode cX7_fits 56 = .ok (.iload_n 1, 1) := by decide +kernel
theorem dX7_fits_57 : decode cX7_fits 57 = .ok (.ifCond .ne 7, 3) := by decide +kernel
theorem dX7_fits_60 : decode cX7_fits 60 = .ok (.iload_n 2, 1) := by decide +kernel
theorem dX7_fits_61 : decode cX7_fits 61 = .ok (.goto 4, 3) := by decide +kernel
theorem dX7_fits_64 : decode cX7_fits 64 = .ok (.iload_n 3, 1) := by decide +kernel
theorem dX7_fits_65 : decode cX7_fits 65 = .ok (.ireturn, 1) := by decide +kernel
theorem dX7_lowest_0 : decode cX7_lowest 0 = .ok (.lload_n 0, 1) := by decide +kernel
theorem dX7_lowest_1 : decode cX7_lowest 1 = .ok (.lstore 5, 2) := by decide +kernel
theorem dX7_lowest_3 : decode cX7_lowest 3 = .ok (.lload_n 2, 1) := by decide +kernel
theorem dX7_lowest_4 : decode cX7_lowest 4 = .ok (.lstore 7, 2) := by decide +kernel
theorem dX7_lowest_6 : decode cX7_lowest 6 = .ok (.lload 7, 2) := by decide +kernel
theorem dX7_lowest_8 : decode cX7_lowest 8 = .ok (.lconst 0, 1) := by decide +kernel
theorem dX7_lowest_9 : decode cX7_lowest 9 = .ok (.lcmp, 1) := by decide +kernel
theorem dX7_lowest_10 : decode cX7_lowest 10 = .ok (.ifCond .eq 21, 3) := by decide +kernel
theorem dX7_lowest_13 : decode cX7_lowest 13 = .ok (.lload 5, 2) := by decide +kernel
theorem dX7_lowest_15 : decode cX7_lowest 15 = .ok (.lload 7, 2) := by decide +kernel
theorem dX7_lowest_17 : decode cX7_lowest 17 = .ok (.lrem, 1) := by decide +kernel
theorem dX7_lowest_18 : decode cX7_lowest 18 = .ok (.lstore 9, 2) := by decide +kernel
theorem dX7_lowest_20 : decode cX7_lowest 20 = .ok (.lload 7, 2) := by decide +kernel
theorem dX7_lowest_22 : decode cX7_lowest 22 = .ok (.lstore 5, 2) := by decide +kernel
theorem dX7_lowest_24 : decode cX7_lowest 24 = .ok (.lload 9, 2) := by decide +kernel
theorem dX7_lowest_26 : decode cX7_lowest 26 = .ok (.lstore 7, 2) := by decide +kernel
theorem dX7_lowest_28 : decode cX7_lowest 28 = .ok (.goto (-22), 3) := by decide +kernel
theorem dX7_lowest_31 : decode cX7_lowest 31 = .ok (.iload 4, 2) := by decide +kernel
theorem dX7_lowest_33 : decode cX7_lowest 33 = .ok (.ifCond .ne 10, 3) := by decide +kernel
theorem dX7_lowest_36 : decode cX7_lowest 36 = .ok (.lload_n 0, 1) := by decide +kernel
theorem dX7_lowest_37 : decode cX7_lowest 37 = .ok (.lload 5, 2) := by decide +kernel
theorem dX7_lowest_39 : decode cX7_lowest 39 = .ok (.ldiv, 1) := by decide +kernel
theorem dX7_lowest_40 : decode cX7_lowest 40 = .ok (.goto 7, 3) := by decide +kernel
theorem dX7_lowest_43 : decode cX7_lowest 43 = .ok (.lload_n 2, 1) := by decide +kernel
theorem dX7_lowest_44 : decode cX7_lowest 44 = .ok (.lload 5, 2) := by decide +kernel
theorem dX7_lowest_46 : decode cX7_lowest 46 = .ok (.ldiv, 1) := by decide +kernel
theorem dX7_lowest_47 : decode cX7_lowest 47 = .ok (.lreturn, 1) := by decide +kernel
theorem dX7_odds_0 : decode cX7_odds 0 = .ok (.aload_n 0, 1) := by decide +kernel
theorem dX7_odds_1 : decode cX7_odds 1 = .ok (.iload_n 1, 1) := by decide +kernel
theorem dX7_odds_2 : decode cX7_odds 2 = .ok (.invokevirtual 92, 3) := by decide +kernel
theorem dX7_odds_5 : decode cX7_odds 5 = .ok (.ifCond .eq 13, 3) := by decide +kernel
theorem dX7_odds_8 : decode cX7_odds 8 = .ok (.iload_n 2, 1) := by decide +kernel
theorem dX7_odds_9 : decode cX7_odds 9 = .ok (.i2l, 1) := by decide +kernel
theorem dX7_odds_10 : decode cX7_odds 10 = .ok (.lconst 0, 1) := by decide +kernel
theorem dX7_odds_11 : decode cX7_odds 11 = .ok (.lconst 1, 1) := by decide +kernel
theorem dX7_odds_12 : decode cX7_odds 12 = .ok (.invokestatic 80, 3) := by decide +kernel
theorem dX7_odds_15 : decode cX7_odds 15 = .ok (.ifCond .ne 7, 3) := by decide +kernel
theorem dX7_odds_18 : decode cX7_odds 18 = .ok (.ldc2_w 230, 3) := by decide +kernel
theorem dX7_odds_21 : decode cX7_odds 21 = .ok (.lreturn, 1) := by decide +kernel
theorem dX7_odds_22 : decode cX7_odds 22 = .ok (.iconst 0, 1) := by decide +kernel
theorem dX7_odds_23 : decode cX7_odds 23 = .ok (.istore_n 3, 1) := by decide +kernel
theorem dX7_odds_24 : decode cX7_odds 24 = .ok (.iconst 1, 1) := by decide +kernel
theorem dX7_odds_25 : decode cX7_odds 25 = .ok (.istore 4, 2) := by decide +kernel
theorem dX7_odds_27 : decode cX7_odds 27 = .ok (.iload 4, 2) := by decide +kernel
theorem dX7_odds_29 : decode cX7_odds 29 = .ok (.bipush 10, 2) := by decide +kernel
theorem dX7_odds_31 : decode cX7_odds 31 = .ok (.if_icmp .gt 25, 3) := by decide +kernel
theorem dX7_odds_34 : decode cX7_odds 34 = .ok (.aload_n 0, 1) := by decide +kernel
theorem dX7_odds_35 : decode cX7_odds 35 = .ok (.iload_n 1, 1) := by decide +kernel
theorem dX7_odds_36 : decode cX7_odds 36 = .ok (.bipush 10, 2) := by decide +kernel
theorem dX7_odds_38 : decode cX7_odds 38 = .ok (.iload 4, 2) := by decide +kernel
theorem dX7_odds_40 : decode cX7_odds 40 = .ok (.imul, 1) := by decide +kernel
theorem dX7_odds_41 : decode cX7_odds 41 = .ok (.invokevirtual 232, 3) := by decide +kernel
theorem dX7_odds_44 : decode cX7_odds 44 = .ok (.ifCond .le 6, 3) := by decide +kernel
theorem dX7_odds_47 : decode cX7_odds 47 = .ok (.iinc 3 1, 3) := by decide +kernel
theorem dX7_odds_50 : decode cX7_odds 50 = .ok (.iinc 4 1, 3) := by decide +kernel
theorem dX7_odds_53 : decode cX7_odds 53 = .ok (.goto (-26), 3) := by decide +kernel
theorem dX7_odds_56 : decode cX7_odds 56 = .ok (.iload_n 3, 1) := by decide +kernel
theorem dX7_odds_57 : decode cX7_odds 57 = .ok (.i2l, 1) := by decide +kernel
theorem dX7_odds_58 : decode cX7_odds 58 = .ok (.ldc2_w 238, 3) := by decide +kernel
theorem dX7_odds_61 : decode cX7_odds 61 = .ok (.iload_n 2, 1) := by decide +kernel
theorem dX7_odds_62 : decode cX7_odds 62 = .ok (.invokestatic 240, 3) := by decide +kernel
theorem dX7_odds_65 : decode cX7_odds 65 = .ok (.lreturn, 1) := by decide +kernel
theorem dX7_mean_0 : decode cX7_mean 0 = .ok (.iload_n 1, 1) := by decide +kernel
theorem dX7_mean_1 : decode cX7_mean 1 = .ok (.i2l, 1) := by decide +kernel
theorem dX7_mean_2 : decode cX7_mean 2 = .ok (.lconst 0, 1) := by decide +kernel
theorem dX7_mean_3 : decode cX7_mean 3 = .ok (.lconst 1, 1) := by decide +kernel
theorem dX7_mean_4 : decode cX7_mean 4 = .ok (.invokestatic 80, 3) := by decide +kernel
theorem dX7_mean_7 : decode cX7_mean 7 = .ok (.ifCond .ne 7, 3) := by decide +kernel
theorem dX7_mean_10 : decode cX7_mean 10 = .ok (.ldc2_w 230, 3) := by decide +kernel
theorem dX7_mean_13 : decode cX7_mean 13 = .ok (.lreturn, 1) := by decide +kernel
theorem dX7_mean_14 : decode cX7_mean 14 = .ok (.aload_n 0, 1) := by decide +kernel
theorem dX7_mean_15 : decode cX7_mean 15 = .ok (.invokevirtual 148, 3) := by decide +kernel
theorem dX7_mean_18 : decode cX7_mean 18 = .ok (.aload_n 0, 1) := by decide +kernel
theorem dX7_mean_19 : decode cX7_mean 19 = .ok (.invokevirtual 211, 3) := by decide +kernel
theorem dX7_mean_22 : decode cX7_mean 22 = .ok (.ifCond .ne 9, 3) := by decide +kernel
theorem dX7_mean_25 : decode cX7_mean 25 = .ok (.ldc2_w 230, 3) := by decide +kernel
theorem dX7_mean_28 : decode cX7_mean 28 = .ok (.goto 17, 3) := by decide +kernel
theorem dX7_mean_31 : decode cX7_mean 31 = .ok (.aload_n 0, 1) := by decide +kernel
theorem dX7_mean_32 : decode cX7_mean 32 = .ok (.getfield 142, 3) := by decide +kernel
theorem dX7_mean_35 : decode cX7_mean 35 = .ok (.i2l, 1) := by decide +kernel
theorem dX7_mean_36 : decode cX7_mean 36 = .ok (.aload_n 0, 1) := by decide +kernel
theorem dX7_mean_37 : decode cX7_mean 37 = .ok (.invokevirtual 211, 3) := by decide +kernel
theorem dX7_mean_40 : decode cX7_mean 40 = .ok (.i2l, 1) := by decide +kernel
theorem dX7_mean_41 : decode cX7_mean 41 = .ok (.iload_n 1, 1) := by decide +kernel
theorem dX7_mean_42 : decode cX7_mean 42 = .ok (.invokestatic 240, 3) := by decide +kernel
theorem dX7_mean_45 : decode cX7_mean 45 = .ok (.lreturn, 1) := by decide +kernel
theorem dX7_plan_0 : decode cX7_plan 0 = .ok (.iload_n 1, 1) := by decide +kernel
theorem dX7_plan_1 : decode cX7_plan 1 = .ok (.iconst (-1), 1) := by decide +kernel
theorem dX7_plan_2 : decode cX7_plan 2 = .ok (.if_icmp .ne 12, 3) := by decide +kernel
theorem dX7_plan_5 : decode cX7_plan 5 = .ok (.aload_n 0, 1) := by decide +kernel
theorem dX7_plan_6 : decode cX7_plan 6 = .ok (.getfield 15, 3) := by decide +kernel
theorem dX7_plan_9 : decode cX7_plan 9 = .ok (.iconst 3, 1) := by decide +kernel
theorem dX7_plan_10 : decode cX7_plan 10 = .ok (.iconst 0, 1) := by decide +kernel
theorem dX7_plan_11 : decode cX7_plan 11 = .ok (.iastore, 1) := by decide +kernel
theorem dX7_plan_12 : decode cX7_plan 12 = .ok (.iconst 0, 1) := by decide +kernel
theorem dX7_plan_13 : decode cX7_plan 13 = .ok (.ireturn, 1) := by decide +kernel
theorem dX7_plan_14 : decode cX7_plan 14 = .ok (.iload_n 1, 1) := by decide +kernel
theorem dX7_plan_15 : decode cX7_plan 15 = .ok (.i2l, 1) := by decide +kernel
theorem dX7_plan_16 : decode cX7_plan 16 = .ok (.lconst 0, 1) := by decide +kernel
theorem dX7_plan_17 : decode cX7_plan 17 = .ok (.ldc2_w 84, 3) := by decide +kernel
theorem dX7_plan_20 : decode cX7_plan 20 = .ok (.invokestatic 80, 3) := by decide +kernel
theorem dX7_plan_23 : decode cX7_plan 23 = .ok (.ifCond .eq 23, 3) := by decide +kernel
theorem dX7_plan_26 : decode cX7_plan 26 = .ok (.iload_n 1, 1) := by decide +kernel
theorem dX7_plan_27 : decode cX7_plan 27 = .ok (.i2l, 1) := by decide +kernel
theorem dX7_plan_28 : decode cX7_plan 28 = .ok (.lconst 1, 1) := by decide +kernel
theorem dX7_plan_29 : decode cX7_plan 29 = .ok (.ldc2_w 244, 3) := by decide +kernel
theorem dX7_plan_32 : decode cX7_plan 32 = .ok (.invokestatic 80, 3) := by decide +kernel
theorem dX7_plan_35 : decode cX7_plan 35 = .ok (.ifCond .eq 13, 3) := by decide +kernel
theorem dX7_plan_38 : decode cX7_plan 38 = .ok (.aload_n 0, 1) := by decide +kernel
theorem dX7_plan_39 : decode cX7_plan 39 = .ok (.iload_n 2, 1) := by decide +kernel
theorem dX7_plan_40 : decode cX7_plan 40 = .ok (.invokevirtual 92, 3) := by decide +kernel
theorem dX7_plan_43 : decode cX7_plan 43 = .ok (.ifCond .ne 5, 3) := by decide +kernel
theorem dX7_plan_46 : decode cX7_plan 46 = .ok (.iconst (-1), 1) := by decide +kernel
theorem dX7_plan_47 : decode cX7_plan 47 = .ok (.ireturn, 1) := by decide +kernel
theorem dX7_plan_48 : decode cX7_plan 48 = .ok (.iload_n 1, 1) := by decide +kernel
theorem dX7_plan_49 : decode cX7_plan 49 = .ok (.ifCond .ne 15, 3) := by decide +kernel
theorem dX7_plan_52 : decode cX7_plan 52 = .ok (.iload_n 2, 1) := by decide +kernel
theorem dX7_plan_53 : decode cX7_plan 53 = .ok (.i2l, 1) := by decide +kernel
theorem dX7_plan_54 : decode cX7_plan 54 = .ok (.lconst 0, 1) := by decide +kernel
theorem dX7_plan_55 : decode cX7_plan 55 = .ok (.ldc2_w 100, 3) := by decide +kernel
theorem dX7_plan_58 : decode cX7_plan 58 = .ok (.invokestatic 80, 3) := by decide +kernel
theorem dX7_plan_61 : decode cX7_plan 61 = .ok (.ifCond .eq 20, 3) := by decide +kernel
theorem dX7_plan_64 : decode cX7_plan 64 = .ok (.iload_n 1, 1) := by decide +kernel
theorem dX7_plan_65 : decode cX7_plan 65 = .ok (.iconst 3, 1) := by decide +kernel
theorem dX7_plan_66 : decode cX7_plan 66 = .ok (.if_icmp .ne 18, 3) := by decide +kernel
theorem dX7_plan_69 : decode cX7_plan 69 = .ok (.iload_n 2, 1) := by decide +kernel
theorem dX7_plan_70 : decode cX7_plan 70 = .ok (.i2l, 1) := by decide +kernel
theorem dX7_plan_71 : decode cX7_plan 71 = .ok (.lconst 0, 1) := by decide +kernel
theorem dX7_plan_72 : decode cX7_plan 72 = .ok (.ldc2_w 88, 3) := by decide +kernel
theorem dX7_plan_75 : decode cX7_plan 75 = .ok (.invokestatic 80, 3) := by decide +kernel
theorem dX7_plan_78 : decode cX7_plan 78 = .ok (.ifCond .ne 6, 3) := by decide +kernel
theorem dX7_plan_81 : decode cX7_plan 81 = .ok (.bipush (-2), 2) := by decide +kernel
theorem dX7_plan_83 : decode cX7_plan 83 = .ok (.ireturn, 1) := by decide +kernel
theorem dX7_plan_84 : decode cX7_plan 84 = .ok (.aload_n 0, 1) := by decide +kernel
theorem dX7_plan_85 : decode cX7_plan 85 = .ok (.getfield 15, 3) := by decide +kernel
theorem dX7_plan_88 : decode cX7_plan 88 = .ok (.iconst 3, 1) := by decide +kernel
theorem dX7_plan_89 : decode cX7_plan 89 = .ok (.iaload, 1) := by decide +kernel
theorem dX7_plan_90 : decode cX7_plan 90 = .ok (.bipush 8, 2) := by decide +kernel
theorem dX7_plan_92 : decode cX7_plan 92 = .ok (.if_icmp .ne 6, 3) := by decide +kernel
theorem dX7_plan_95 : decode cX7_plan 95 = .ok (.bipush (-4), 2) := by decide +kernel
theorem dX7_plan_97 : decode cX7_plan 97 = .ok (.ireturn, 1) := by decide +kernel
theorem dX7_plan_98 : decode cX7_plan 98 = .ok (.aload_n 0, 1) := by decide +kernel
theorem dX7_plan_99 : decode cX7_plan 99 = .ok (.getfield 15, 3) := by decide +kernel
theorem dX7_plan_102 : decode cX7_plan 102 = .ok (.bipush 45, 2) := by decide +kernel
theorem dX7_plan_104 : decode cX7_plan 104 = .ok (.aload_n 0, 1) := by decide +kernel
theorem dX7_plan_105 : decode cX7_plan 105 = .ok (.getfield 15, 3) := by decide +kernel
theorem dX7_plan_108 : decode cX7_plan 108 = .ok (.iconst 3, 1) := by decide +kernel
theorem dX7_plan_109 : decode cX7_plan 109 = .ok (.iaload, 1) := by decide +kernel
theorem dX7_plan_110 : decode cX7_plan 110 = .ok (.iadd, 1) := by decide +kernel
theorem dX7_plan_111 : decode cX7_plan 111 = .ok (.iload_n 1, 1) := by decide +kernel
theorem dX7_plan_112 : decode cX7_plan 112 = .ok (.iastore, 1) := by decide +kernel
theorem dX7_plan_113 : decode cX7_plan 113 = .ok (.aload_n 0, 1) := by decide +kernel
theorem dX7_plan_114 : decode cX7_plan 114 = .ok (.getfield 15, 3) := by decide +kernel
theorem dX7_plan_117 : decode cX7_plan 117 = .ok (.bipush 53, 2) := by decide +kernel
theorem dX7_plan_119 : decode cX7_plan 119 = .ok (.aload_n 0, 1) := by decide +kernel
theorem dX7_plan_120 : decode cX7_plan 120 = .ok (.getfield 15, 3) := by decide +kernel
theorem dX7_plan_123 : decode cX7_plan 123 = .ok (.iconst 3, 1) := by decide +kernel
theorem dX7_plan_124 : decode cX7_plan 124 = .ok (.iaload, 1) := by decide +kernel
theorem dX7_plan_125 : decode cX7_plan 125 = .ok (.iadd, 1) := by decide +kernel
theorem dX7_plan_126 : decode cX7_plan 126 = .ok (.iload_n 2, 1) := by decide +kernel
theorem dX7_plan_127 : decode cX7_plan 127 = .ok (.iastore, 1) := by decide +kernel
theorem dX7_plan_128 : decode cX7_plan 128 = .ok (.aload_n 0, 1) := by decide +kernel
theorem dX7_plan_129 : decode cX7_plan 129 = .ok (.getfield 15, 3) := by decide +kernel
theorem dX7_plan_132 : decode cX7_plan 132 = .ok (.iconst 3, 1) := by decide +kernel
theorem dX7_plan_133 : decode cX7_plan 133 = .ok (.dup2, 1) := by decide +kernel
theorem dX7_plan_134 : decode cX7_plan 134 = .ok (.iaload, 1) := by decide +kernel
theorem dX7_plan_135 : decode cX7_plan 135 = .ok (.iconst 1, 1) := by decide +kernel
theorem dX7_plan_136 : decode cX7_plan 136 = .ok (.iadd, 1) := by decide +kernel
theorem dX7_plan_137 : decode cX7_plan 137 = .ok (.iastore, 1) := by decide +kernel
theorem dX7_plan_138 : decode cX7_plan 138 = .ok (.aload_n 0, 1) := by decide +kernel
theorem dX7_plan_139 : decode cX7_plan 139 = .ok (.getfield 15, 3) := by decide +kernel
theorem dX7_plan_142 : decode cX7_plan 142 = .ok (.iconst 3, 1) := by decide +kernel
theorem dX7_plan_143 : decode cX7_plan 143 = .ok (.iaload, 1) := by decide +kernel
theorem dX7_plan_144 : decode cX7_plan 144 = .ok (.ireturn, 1) := by decide +kernel
theorem dX7_goes_0 : decode cX7_goes 0 = .ok (.iload_n 1, 1) := by decide +kernel
theorem dX7_goes_1 : decode cX7_goes 1 = .ok (.ifCond .ne 13, 3) := by decide +kernel
theorem dX7_goes_4 : decode cX7_goes 4 = .ok (.aload_n 0, 1) := by decide +kernel
theorem dX7_goes_5 : decode cX7_goes 5 = .ok (.getfield 15, 3) := by decide +kernel
theorem dX7_goes_8 : decode cX7_goes 8 = .ok (.iconst 1, 1) := by decide +kernel
theorem dX7_goes_9 : decode cX7_goes 9 = .ok (.iload_n 2, 1) := by decide +kernel
theorem dX7_goes_10 : decode cX7_goes 10 = .ok (.iastore, 1) := by decide +kernel
theorem dX7_goes_11 : decode cX7_goes 11 = .ok (.goto 59, 3) := by decide +kernel
theorem dX7_goes_14 : decode cX7_goes 14 = .ok (.iload_n 1, 1) := by decide +kernel
theorem dX7_goes_15 : decode cX7_goes 15 = .ok (.iconst 3, 1) := by decide +kernel
theorem dX7_goes_16 : decode cX7_goes 16 = .ok (.if_icmp .ge 26, 3) := by decide +kernel
theorem dX7_goes_19 : decode cX7_goes 19 = .ok (.aload_n 0, 1) := by decide +kernel
theorem dX7_goes_20 : decode cX7_goes 20 = .ok (.getfield 15, 3) := by decide +kernel
theorem dX7_goes_23 : decode cX7_goes 23 = .ok (.iload_n 1, 1) := by decide +kernel
theorem dX7_goes_24 : decode cX7_goes 24 = .ok (.iconst 1, 1) := by decide +kernel
theorem dX7_goes_25 : decode cX7_goes 25 = .ok (.if_icmp .ne 8, 3) := by decide +kernel
theorem dX7_goes_28 : decode cX7_goes 28 = .ok (.bipush 11, 2) := by decide +kernel
theorem dX7_goes_30 : decode cX7_goes 30 = .ok (.goto 5, 3) := by decide +kernel
theorem dX7_goes_33 : decode cX7_goes 33 = .ok (.bipush 29, 2) := by decide +kernel
theorem dX7_goes_35 : decode cX7_goes 35 = .ok (.iload_n 2, 1) := by decide +kernel
theorem dX7_goes_36 : decode cX7_goes 36 = .ok (.iadd, 1) := by decide +kernel
theorem dX7_goes_37 : decode cX7_goes 37 = .ok (.iconst 0, 1) := by decide +kernel
theorem dX7_goes_38 : decode cX7_goes 38 = .ok (.iastore, 1) := by decide +kernel
theorem dX7_goes_39 : decode cX7_goes 39 = .ok (.goto 31, 3) := by decide +kernel
theorem dX7_goes_42 : decode cX7_goes 42 = .ok (.iconst 0, 1) := by decide +kernel
theorem dX7_goes_43 : decode cX7_goes 43 = .ok (.istore_n 3, 1) := by decide +kernel
theorem dX7_goes_44 : decode cX7_goes 44 = .ok (.iload_n 3, 1) := by decide +kernel
theorem dX7_goes_45 : decode cX7_goes 45 = .ok (.aload_n 0, 1) := by decide +kernel
theorem dX7_goes_46 : decode cX7_goes 46 = .ok (.getfield 15, 3) := by decide +kernel
theorem dX7_goes_49 : decode cX7_goes 49 = .ok (.iconst 0, 1) := by decide +kernel
theorem dX7_goes_50 : decode cX7_goes 50 = .ok (.iaload, 1) := by decide +kernel
theorem dX7_goes_51 : decode cX7_goes 51 = .ok (.if_icmp .ge 19, 3) := by decide +kernel
theorem dX7_goes_54 : decode cX7_goes 54 = .ok (.aload_n 0, 1) := by decide +kernel
theorem dX7_goes_55 : decode cX7_goes 55 = .ok (.getfield 15, 3) := by decide +kernel
theorem dX7_goes_58 : decode cX7_goes 58 = .ok (.bipush 17, 2) := by decide +kernel
theorem dX7_goes_60 : decode cX7_goes 60 = .ok (.iload_n 3, 1) := by decide +kernel
theorem dX7_goes_61 : decode cX7_goes 61 = .ok (.iadd, 1) := by decide +kernel
theorem dX7_goes_62 : decode cX7_goes 62 = .ok (.iload_n 2, 1) := by decide +kernel
theorem dX7_goes_63 : decode cX7_goes 63 = .ok (.iastore, 1) := by decide +kernel
theorem dX7_goes_64 : decode cX7_goes 64 = .ok (.iinc 3 1, 3) := by decide +kernel
theorem dX7_goes_67 : decode cX7_goes 67 = .ok (.goto (-23), 3) := by decide +kernel
theorem dX7_goes_70 : decode cX7_goes 70 = .ok (.return_, 1) := by decide +kernel
theorem dX7_ends_0 : decode cX7_ends 0 = .ok (.iload_n 1, 1) := by decide +kernel
theorem dX7_ends_1 : decode cX7_ends 1 = .ok (.i2l, 1) := by decide +kernel
theorem dX7_ends_2 : decode cX7_ends 2 = .ok (.lconst 0, 1) := by decide +kernel
theorem dX7_ends_3 : decode cX7_ends 3 = .ok (.ldc2_w 244, 3) := by decide +kernel
theorem dX7_ends_6 : decode cX7_ends 6 = .ok (.invokestatic 80, 3) := by decide +kernel
theorem dX7_ends_9 : decode cX7_ends 9 = .ok (.ifCond .ne 5, 3) := by decide +kernel
theorem dX7_ends_12 : decode cX7_ends 12 = .ok (.iconst (-1), 1) := by decide +kernel
theorem dX7_ends_13 : decode cX7_ends 13 = .ok (.ireturn, 1) := by decide +kernel
theorem dX7_ends_14 : decode cX7_ends 14 = .ok (.aload_n 0, 1) := by decide +kernel
theorem dX7_ends_15 : decode cX7_ends 15 = .ok (.getfield 15, 3) := by decide +kernel
theorem dX7_ends_18 : decode cX7_ends 18 = .ok (.aload_n 0, 1) := by decide +kernel
theorem dX7_ends_19 : decode cX7_ends 19 = .ok (.getfield 22, 3) := by decide +kernel
theorem dX7_ends_22 : decode cX7_ends 22 = .ok (.invokestatic 246, 3) := by decide +kernel
theorem dX7_ends_25 : decode cX7_ends 25 = .ok (.iconst 0, 1) := by decide +kernel
theorem dX7_ends_26 : decode cX7_ends 26 = .ok (.istore_n 2, 1) := by decide +kernel
theorem dX7_ends_27 : decode cX7_ends 27 = .ok (.iload_n 2, 1) := by decide +kernel
theorem dX7_ends_28 : decode cX7_ends 28 = .ok (.aload_n 0, 1) := by decide +kernel
theorem dX7_ends_29 : decode cX7_ends 29 = .ok (.getfield 22, 3) := by decide +kernel
theorem dX7_ends_32 : decode cX7_ends 32 = .ok (.iconst 3, 1) := by decide +kernel
theorem dX7_ends_33 : decode cX7_ends 33 = .ok (.iaload, 1) := by decide +kernel
theorem dX7_ends_34 : decode cX7_ends 34 = .ok (.if_icmp .ge 31, 3) := by decide +kernel
theorem dX7_ends_37 : decode cX7_ends 37 = .ok (.aload_n 0, 1) := by decide +kernel
theorem dX7_ends_38 : decode cX7_ends 38 = .ok (.aload_n 0, 1) := by decide +kernel
theorem dX7_ends_39 : decode cX7_ends 39 = .ok (.getfield 22, 3) := by decide +kernel
theorem dX7_ends_42 : decode cX7_ends 42 = .ok (.bipush 45, 2) := by decide +kernel
theorem dX7_ends_44 : decode cX7_ends 44 = .ok (.iload_n 2, 1) := by decide +kernel
theorem dX7_ends_45 : decode cX7_ends 45 = .ok (.iadd, 1) := by decide +kernel
theorem dX7_ends_46 : decode cX7_ends 46 = .ok (.iaload, 1) := by decide +kernel
theorem dX7_ends_47 : decode cX7_ends 47 = .ok (.aload_n 0, 1) := by decide +kernel
theorem dX7_ends_48 : decode cX7_ends 48 = .ok (.getfield 22, 3) := by decide +kernel
theorem dX7_ends_51 : decode cX7_ends 51 = .ok (.bipush 53, 2) := by decide +kernel
theorem dX7_ends_53 : decode cX7_ends 53 = .ok (.iload_n 2, 1) := by decide +kernel
theorem dX7_ends_54 : decode cX7_ends 54 = .ok (.iadd, 1) := by decide +kernel
theorem dX7_ends_55 : decode cX7_ends 55 = .ok (.iaload, 1) := by decide +kernel
theorem dX7_ends_56 : decode cX7_ends 56 = .ok (.invokevirtual 250, 3) := by decide +kernel
theorem dX7_ends_59 : decode cX7_ends 59 = .ok (.iinc 2 1, 3) := by decide +kernel
theorem dX7_ends_62 : decode cX7_ends 62 = .ok (.goto (-35), 3) := by decide +kernel
theorem dX7_ends_65 : decode cX7_ends 65 = .ok (.aload_n 0, 1) := by decide +kernel
theorem dX7_ends_66 : decode cX7_ends 66 = .ok (.invokevirtual 148, 3) := by decide +kernel
theorem dX7_ends_69 : decode cX7_ends 69 = .ok (.iload_n 1, 1) := by decide +kernel
theorem dX7_ends_70 : decode cX7_ends 70 = .ok (.ifCond .ne 10, 3) := by decide +kernel
theorem dX7_ends_73 : decode cX7_ends 73 = .ok (.aload_n 0, 1) := by decide +kernel
theorem dX7_ends_74 : decode cX7_ends 74 = .ok (.getfield 142, 3) := by decide +kernel
theorem dX7_ends_77 : decode cX7_ends 77 = .ok (.goto 26, 3) := by decide +kernel
theorem dX7_ends_80 : decode cX7_ends 80 = .ok (.iload_n 1, 1) := by decide +kernel
theorem dX7_ends_81 : decode cX7_ends 81 = .ok (.iconst 1, 1) := by decide +kernel
theorem dX7_ends_82 : decode cX7_ends 82 = .ok (.if_icmp .ne 17, 3) := by decide +kernel
theorem dX7_ends_85 : decode cX7_ends 85 = .ok (.aload_n 0, 1) := by decide +kernel
theorem dX7_ends_86 : decode cX7_ends 86 = .ok (.getfield 15, 3) := by decide +kernel
theorem dX7_ends_89 : decode cX7_ends 89 = .ok (.iconst 1, 1) := by decide +kernel
theorem dX7_ends_90 : decode cX7_ends 90 = .ok (.iaload, 1) := by decide +kernel
theorem dX7_ends_91 : decode cX7_ends 91 = .ok (.aload_n 0, 1) := by decide +kernel
theorem dX7_ends_92 : decode cX7_ends 92 = .ok (.getfield 142, 3) := by decide +kernel
theorem dX7_ends_95 : decode cX7_ends 95 = .ok (.isub, 1) := by decide +kernel
theorem dX7_ends_96 : decode cX7_ends 96 = .ok (.goto 7, 3) := by decide +kernel
theorem dX7_ends_99 : decode cX7_ends 99 = .ok (.aload_n 0, 1) := by decide +kernel
theorem dX7_ends_100 : decode cX7_ends 100 = .ok (.getfield 115, 3) := by decide +kernel
theorem dX7_ends_103 : decode cX7_ends 103 = .ok (.istore_n 2, 1) := by decide +kernel
theorem dX7_ends_104 : decode cX7_ends 104 = .ok (.aload_n 0, 1) := by decide +kernel
theorem dX7_ends_105 : decode cX7_ends 105 = .ok (.getfield 22, 3) := by decide +kernel
theorem dX7_ends_108 : decode cX7_ends 108 = .ok (.aload_n 0, 1) := by decide +kernel
theorem dX7_ends_109 : decode cX7_ends 109 = .ok (.getfield 15, 3) := by decide +kernel
theorem dX7_ends_112 : decode cX7_ends 112 = .ok (.invokestatic 246, 3) := by decide +kernel
theorem dX7_ends_115 : decode cX7_ends 115 = .ok (.iload_n 2, 1) := by decide +kernel
theorem dX7_ends_116 : decode cX7_ends 116 = .ok (.ireturn, 1) := by decide +kernel
theorem dX7_book_0 : decode cX7_book 0 = .ok (.iload_n 1, 1) := by decide +kernel
theorem dX7_book_1 : decode cX7_book 1 = .ok (.iconst (-1), 1) := by decide +kernel
theorem dX7_book_2 : decode cX7_book 2 = .ok (.if_icmp .ne 12, 3) := by decide +kernel
theorem dX7_book_5 : decode cX7_book 5 = .ok (.aload_n 0, 1) := by decide +kernel
theorem dX7_book_6 : decode cX7_book 6 = .ok (.getfield 15, 3) := by decide +kernel
theorem dX7_book_9 : decode cX7_book 9 = .ok (.iconst 4, 1) := by decide +kernel
theorem dX7_book_10 : decode cX7_book 10 = .ok (.iconst 0, 1) := by decide +kernel
theorem dX7_book_11 : decode cX7_book 11 = .ok (.iastore, 1) := by decide +kernel
theorem dX7_book_12 : decode cX7_book 12 = .ok (.iconst 0, 1) := by decide +kernel
theorem dX7_book_13 : decode cX7_book 13 = .ok (.ireturn, 1) := by decide +kernel
theorem dX7_book_14 : decode cX7_book 14 = .ok (.aload_n 0, 1) := by decide +kernel
theorem dX7_book_15 : decode cX7_book 15 = .ok (.iload_n 1, 1) := by decide +kernel
theorem dX7_book_16 : decode cX7_book 16 = .ok (.invokevirtual 92, 3) := by decide +kernel
theorem dX7_book_19 : decode cX7_book 19 = .ok (.ifCond .ne 5, 3) := by decide +kernel
theorem dX7_book_22 : decode cX7_book 22 = .ok (.iconst (-1), 1) := by decide +kernel
theorem dX7_book_23 : decode cX7_book 23 = .ok (.ireturn, 1) := by decide +kernel
theorem dX7_book_24 : decode cX7_book 24 = .ok (.iload_n 2, 1) := by decide +kernel
theorem dX7_book_25 : decode cX7_book 25 = .ok (.i2l, 1) := by decide +kernel
theorem dX7_book_26 : decode cX7_book 26 = .ok (.lconst 0, 1) := by decide +kernel
theorem dX7_book_27 : decode cX7_book 27 = .ok (.ldc2_w 86, 3) := by decide +kernel
theorem dX7_book_30 : decode cX7_book 30 = .ok (.invokestatic 80, 3) := by decide +kernel
theorem dX7_book_33 : decode cX7_book 33 = .ok (.ifCond .ne 6, 3) := by decide +kernel
theorem dX7_book_36 : decode cX7_book 36 = .ok (.bipush (-2), 2) := by decide +kernel
theorem dX7_book_38 : decode cX7_book 38 = .ok (.ireturn, 1) := by decide +kernel
theorem dX7_book_39 : decode cX7_book 39 = .ok (.aload_n 0, 1) := by decide +kernel
theorem dX7_book_40 : decode cX7_book 40 = .ok (.getfield 15, 3) := by decide +kernel
theorem dX7_book_43 : decode cX7_book 43 = .ok (.iconst 4, 1) := by decide +kernel
theorem dX7_book_44 : decode cX7_book 44 = .ok (.iaload, 1) := by decide +kernel
theorem dX7_book_45 : decode cX7_book 45 = .ok (.bipush 8, 2) := by decide +kernel
theorem dX7_book_47 : decode cX7_book 47 = .ok (.if_icmp .ne 6, 3) := by decide +kernel
theorem dX7_book_50 : decode cX7_book 50 = .ok (.bipush (-4), 2) := by decide +kernel
theorem dX7_book_52 : decode cX7_book 52 = .ok (.ireturn, 1) := by decide +kernel
theorem dX7_book_53 : decode cX7_book 53 = .ok (.aload_n 0, 1) := by decide +kernel
theorem dX7_book_54 : decode cX7_book 54 = .ok (.getfield 15, 3) := by decide +kernel
theorem dX7_book_57 : decode cX7_book 57 = .ok (.bipush 61, 2) := by decide +kernel
theorem dX7_book_59 : decode cX7_book 59 = .ok (.aload_n 0, 1) := by decide +kernel
theorem dX7_book_60 : decode cX7_book 60 = .ok (.getfield 15, 3) := by decide +kernel
theorem dX7_book_63 : decode cX7_book 63 = .ok (.iconst 4, 1) := by decide +kernel
theorem dX7_book_64 : decode cX7_book 64 = .ok (.iaload, 1) := by decide +kernel
theorem dX7_book_65 : decode cX7_book 65 = .ok (.iadd, 1) := by decide +kernel
theorem dX7_book_66 : decode cX7_book 66 = .ok (.iload_n 1, 1) := by decide +kernel
theorem dX7_book_67 : decode cX7_book 67 = .ok (.iastore, 1) := by decide +kernel
theorem dX7_book_68 : decode cX7_book 68 = .ok (.aload_n 0, 1) := by decide +kernel
theorem dX7_book_69 : decode cX7_book 69 = .ok (.getfield 15, 3) := by decide +kernel
theorem dX7_book_72 : decode cX7_book 72 = .ok (.bipush 69, 2) := by decide +kernel
theorem dX7_book_74 : decode cX7_book 74 = .ok (.aload_n 0, 1) := by decide +kernel
theorem dX7_book_75 : decode cX7_book 75 = .ok (.getfield 15, 3) := by decide +kernel
theorem dX7_book_78 : decode cX7_book 78 = .ok (.iconst 4, 1) := by decide +kernel
theorem dX7_book_79 : decode cX7_book 79 = .ok (.iaload, 1) := by decide +kernel
theorem dX7_book_80 : decode cX7_book 80 = .ok (.iadd, 1) := by decide +kernel
theorem dX7_book_81 : decode cX7_book 81 = .ok (.iload_n 2, 1) := by decide +kernel
theorem dX7_book_82 : decode cX7_book 82 = .ok (.iastore, 1) := by decide +kernel
theorem dX7_book_83 : decode cX7_book 83 = .ok (.aload_n 0, 1) := by decide +kernel
theorem dX7_book_84 : decode cX7_book 84 = .ok (.getfield 15, 3) := by decide +kernel
theorem dX7_book_87 : decode cX7_book 87 = .ok (.iconst 4, 1) := by decide +kernel
theorem dX7_book_88 : decode cX7_book 88 = .ok (.dup2, 1) := by decide +kernel
theorem dX7_book_89 : decode cX7_book 89 = .ok (.iaload, 1) := by decide +kernel
theorem dX7_book_90 : decode cX7_book 90 = .ok (.iconst 1, 1) := by decide +kernel
theorem dX7_book_91 : decode cX7_book 91 = .ok (.iadd, 1) := by decide +kernel
theorem dX7_book_92 : decode cX7_book 92 = .ok (.iastore, 1) := by decide +kernel
theorem dX7_book_93 : decode cX7_book 93 = .ok (.aload_n 0, 1) := by decide +kernel
theorem dX7_book_94 : decode cX7_book 94 = .ok (.getfield 15, 3) := by decide +kernel
theorem dX7_book_97 : decode cX7_book 97 = .ok (.iconst 4, 1) := by decide +kernel
theorem dX7_book_98 : decode cX7_book 98 = .ok (.iaload, 1) := by decide +kernel
theorem dX7_book_99 : decode cX7_book 99 = .ok (.ireturn, 1) := by decide +kernel
theorem dX7_looked_0 : decode cX7_looked 0 = .ok (.aload_n 0, 1) := by decide +kernel
theorem dX7_looked_1 : decode cX7_looked 1 = .ok (.invokevirtual 148, 3) := by decide +kernel
theorem dX7_looked_4 : decode cX7_looked 4 = .ok (.iconst 0, 1) := by decide +kernel
theorem dX7_looked_5 : decode cX7_looked 5 = .ok (.istore_n 1, 1) := by decide +kernel
theorem dX7_looked_6 : decode cX7_looked 6 = .ok (.iload_n 1, 1) := by decide +kernel
theorem dX7_looked_7 : decode cX7_looked 7 = .ok (.aload_n 0, 1) := by decide +kernel
theorem dX7_looked_8 : decode cX7_looked 8 = .ok (.getfield 15, 3) := by decide +kernel
theorem dX7_looked_11 : decode cX7_looked 11 = .ok (.iconst 4, 1) := by decide +kernel
theorem dX7_looked_12 : decode cX7_looked 12 = .ok (.iaload, 1) := by decide +kernel
theorem dX7_looked_13 : decode cX7_looked 13 = .ok (.if_icmp .ge 37, 3) := by decide +kernel
theorem dX7_looked_16 : decode cX7_looked 16 = .ok (.aload_n 0, 1) := by decide +kernel
theorem dX7_looked_17 : decode cX7_looked 17 = .ok (.getfield 37, 3) := by decide +kernel
theorem dX7_looked_20 : decode cX7_looked 20 = .ok (.aload_n 0, 1) := by decide +kernel
theorem dX7_looked_21 : decode cX7_looked 21 = .ok (.getfield 15, 3) := by decide +kernel
theorem dX7_looked_24 : decode cX7_looked 24 = .ok (.bipush 61, 2) := by decide +kernel
theorem dX7_looked_26 : decode cX7_looked 26 = .ok (.iload_n 1, 1) := by decide +kernel
theorem dX7_looked_27 : decode cX7_looked 27 = .ok (.iadd, 1) := by decide +kernel
theorem dX7_looked_28 : decode cX7_looked 28 = .ok (.iaload, 1) := by decide +kernel
theorem dX7_looked_29 : decode cX7_looked 29 = .ok (.iaload, 1) := by decide +kernel
theorem dX7_looked_30 : decode cX7_looked 30 = .ok (.aload_n 0, 1) := by decide +kernel
theorem dX7_looked_31 : decode cX7_looked 31 = .ok (.getfield 15, 3) := by decide +kernel
theorem dX7_looked_34 : decode cX7_looked 34 = .ok (.bipush 69, 2) := by decide +kernel
theorem dX7_looked_36 : decode cX7_looked 36 = .ok (.iload_n 1, 1) := by decide +kernel
theorem dX7_looked_37 : decode cX7_looked 37 = .ok (.iadd, 1) := by decide +kernel
theorem dX7_looked_38 : decode cX7_looked 38 = .ok (.iaload, 1) := by decide +kernel
theorem dX7_looked_39 : decode cX7_looked 39 = .ok (.if_icmp .eq 5, 3) := by decide +kernel
theorem dX7_looked_42 : decode cX7_looked 42 = .ok (.iload_n 1, 1) := by decide +kernel
theorem dX7_looked_43 : decode cX7_looked 43 = .ok (.ireturn, 1) := by decide +kernel
theorem dX7_looked_44 : decode cX7_looked 44 = .ok (.iinc 1 1, 3) := by decide +kernel
theorem dX7_looked_47 : decode cX7_looked 47 = .ok (.goto (-41), 3) := by decide +kernel
theorem dX7_looked_50 : decode cX7_looked 50 = .ok (.bipush (-5), 2) := by decide +kernel
theorem dX7_looked_52 : decode cX7_looked 52 = .ok (.ireturn, 1) := by decide +kernel
theorem dX7_judge_0 : decode cX7_judge 0 = .ok (.iload_n 1, 1) := by decide +kernel
theorem dX7_judge_1 : decode cX7_judge 1 = .ok (.invokestatic 253, 3) := by decide +kernel
theorem dX7_judge_4 : decode cX7_judge 4 = .ok (.ifCond .ne 5, 3) := by decide +kernel
theorem dX7_judge_7 : decode cX7_judge 7 = .ok (.iconst (-1), 1) := by decide +kernel
theorem dX7_judge_8 : decode cX7_judge 8 = .ok (.ireturn, 1) := by decide +kernel
theorem dX7_judge_9 : decode cX7_judge 9 = .ok (.aload_n 0, 1) := by decide +kernel
theorem dX7_judge_10 : decode cX7_judge 10 = .ok (.getfield 70, 3) := by decide +kernel
theorem dX7_judge_13 : decode cX7_judge 13 = .ok (.iload_n 1, 1) := by decide +kernel
theorem dX7_judge_14 : decode cX7_judge 14 = .ok (.iaload, 1) := by decide +kernel
theorem dX7_judge_15 : decode cX7_judge 15 = .ok (.iconst (-1), 1) := by decide +kernel
theorem dX7_judge_16 : decode cX7_judge 16 = .ok (.if_icmp .eq 16, 3) := by decide +kernel
theorem dX7_judge_19 : decode cX7_judge 19 = .ok (.aload_n 0, 1) := by decide +kernel
theorem dX7_judge_20 : decode cX7_judge 20 = .ok (.getfield 70, 3) := by decide +kernel
theorem dX7_judge_23 : decode cX7_judge 23 = .ok (.iload_n 1, 1) := by decide +kernel
theorem dX7_judge_24 : decode cX7_judge 24 = .ok (.iaload, 1) := by decide +kernel
theorem dX7_judge_25 : decode cX7_judge 25 = .ok (.iconst 3, 1) := by decide +kernel
theorem dX7_judge_26 : decode cX7_judge 26 = .ok (.if_icmp .eq 6, 3) := by decide +kernel
theorem dX7_judge_29 : decode cX7_judge 29 = .ok (.bipush (-12), 2) := by decide +kernel
theorem dX7_judge_31 : decode cX7_judge 31 = .ok (.ireturn, 1) := by decide +kernel
theorem dX7_judge_32 : decode cX7_judge 32 = .ok (.aload_n 0, 1) := by decide +kernel
theorem dX7_judge_33 : decode cX7_judge 33 = .ok (.invokevirtual 148, 3) := by decide +kernel
theorem dX7_judge_36 : decode cX7_judge 36 = .ok (.iconst 0, 1) := by decide +kernel
theorem dX7_judge_37 : decode cX7_judge 37 = .ok (.istore_n 3, 1) := by decide +kernel
theorem dX7_judge_38 : decode cX7_judge 38 = .ok (.iload_n 3, 1) := by decide +kernel
theorem dX7_judge_39 : decode cX7_judge 39 = .ok (.aload_n 0, 1) := by decide +kernel
theorem dX7_judge_40 : decode cX7_judge 40 = .ok (.getfield 15, 3) := by decide +kernel
theorem dX7_judge_43 : decode cX7_judge 43 = .ok (.iconst 0, 1) := by decide +kernel
theorem dX7_judge_44 : decode cX7_judge 44 = .ok (.iaload, 1) := by decide +kernel
theorem dX7_judge_45 : decode cX7_judge 45 = .ok (.if_icmp .ge 77, 3) := by decide +kernel
theorem dX7_judge_48 : decode cX7_judge 48 = .ok (.iload_n 2, 1) := by decide +kernel
theorem dX7_judge_49 : decode cX7_judge 49 = .ok (.i2l, 1) := by decide +kernel
theorem dX7_judge_50 : decode cX7_judge 50 = .ok (.iload_n 3, 1) := by decide +kernel
theorem dX7_judge_51 : decode cX7_judge 51 = .ok (.i2l, 1) := by decide +kernel
theorem dX7_judge_52 : decode cX7_judge 52 = .ok (.ladd, 1) := by decide +kernel
theorem dX7_judge_53 : decode cX7_judge 53 = .ok (.lstore 4, 2) := by decide +kernel
theorem dX7_judge_55 : decode cX7_judge 55 = .ok (.aload_n 0, 1) := by decide +kernel
theorem dX7_judge_56 : decode cX7_judge 56 = .ok (.getfield 70, 3) := by decide +kernel
theorem dX7_judge_59 : decode cX7_judge 59 = .ok (.iload_n 1, 1) := by decide +kernel
theorem dX7_judge_60 : decode cX7_judge 60 = .ok (.iaload, 1) := by decide +kernel
theorem dX7_judge_61 : decode cX7_judge 61 = .ok (.iconst (-1), 1) := by decide +kernel
theorem dX7_judge_62 : decode cX7_judge 62 = .ok (.if_icmp .eq 23, 3) := by decide +kernel
theorem dX7_judge_65 : decode cX7_judge 65 = .ok (.lload 4, 2) := by decide +kernel
theorem dX7_judge_67 : decode cX7_judge 67 = .ok (.lconst 0, 1) := by decide +kernel
theorem dX7_judge_68 : decode cX7_judge 68 = .ok (.lcmp, 1) := by decide +kernel
theorem dX7_judge_69 : decode cX7_judge 69 = .ok (.ifCond .lt 16, 3) := by decide +kernel
theorem dX7_judge_72 : decode cX7_judge 72 = .ok (.lload 4, 2) := by decide +kernel
theorem dX7_judge_74 : decode cX7_judge 74 = .ok (.aload_n 0, 1) := by decide +kernel
theorem dX7_judge_75 : decode cX7_judge 75 = .ok (.getfield 73, 3) := by decide +kernel
theorem dX7_judge_78 : decode cX7_judge 78 = .ok (.iload_n 1, 1) := by decide +kernel
theorem dX7_judge_79 : decode cX7_judge 79 = .ok (.iaload, 1) := by decide +kernel
theorem dX7_judge_80 : decode cX7_judge 80 = .ok (.i2l, 1) := by decide +kernel
theorem dX7_judge_81 : decode cX7_judge 81 = .ok (.lcmp, 1) := by decide +kernel
theorem dX7_judge_82 : decode cX7_judge 82 = .ok (.ifCond .lt 8, 3) := by decide +kernel
theorem dX7_judge_85 : decode cX7_judge 85 = .ok (.bipush 100, 2) := by decide +kernel
theorem dX7_judge_87 : decode cX7_judge 87 = .ok (.iload_n 3, 1) := by decide +kernel
theorem dX7_judge_88 : decode cX7_judge 88 = .ok (.iadd, 1) := by decide +kernel
theorem dX7_judge_89 : decode cX7_judge 89 = .ok (.ireturn, 1) := by decide +kernel
theorem dX7_judge_90 : decode cX7_judge 90 = .ok (.aload_n 0, 1) := by decide +kernel
theorem dX7_judge_91 : decode cX7_judge 91 = .ok (.getfield 76, 3) := by decide +kernel
theorem dX7_judge_94 : decode cX7_judge 94 = .ok (.bipush 60, 2) := by decide +kernel
theorem dX7_judge_96 : decode cX7_judge 96 = .ok (.iload_n 1, 1) := by decide +kernel
theorem dX7_judge_97 : decode cX7_judge 97 = .ok (.imul, 1) := by decide +kernel
theorem dX7_judge_98 : decode cX7_judge 98 = .ok (.lload 4, 2) := by decide +kernel
theorem dX7_judge_100 : decode cX7_judge 100 = .ok (.l2i, 1) := by decide +kernel
theorem dX7_judge_101 : decode cX7_judge 101 = .ok (.iadd, 1) := by decide +kernel
theorem dX7_judge_102 : decode cX7_judge 102 = .ok (.laload, 1) := by decide +kernel
theorem dX7_judge_103 : decode cX7_judge 103 = .ok (.aload_n 0, 1) := by decide +kernel
theorem dX7_judge_104 : decode cX7_judge 104 = .ok (.getfield 37, 3) := by decide +kernel
theorem dX7_judge_107 : decode cX7_judge 107 = .ok (.iload_n 3, 1) := by decide +kernel
theorem dX7_judge_108 : decode cX7_judge 108 = .ok (.iaload, 1) := by decide +kernel
theorem dX7_judge_109 : decode cX7_judge 109 = .ok (.i2l, 1) := by decide +kernel
theorem dX7_judge_110 : decode cX7_judge 110 = .ok (.lcmp, 1) := by decide +kernel
theorem dX7_judge_111 : decode cX7_judge 111 = .ok (.ifCond .eq 5, 3) := by decide +kernel
theorem dX7_judge_114 : decode cX7_judge 114 = .ok (.iload_n 3, 1) := by decide +kernel
theorem dX7_judge_115 : decode cX7_judge 115 = .ok (.ireturn, 1) := by decide +kernel
theorem dX7_judge_116 : decode cX7_judge 116 = .ok (.iinc 3 1, 3) := by decide +kernel
theorem dX7_judge_119 : decode cX7_judge 119 = .ok (.goto (-81), 3) := by decide +kernel
theorem dX7_judge_122 : decode cX7_judge 122 = .ok (.bipush (-5), 2) := by decide +kernel
theorem dX7_judge_124 : decode cX7_judge 124 = .ok (.ireturn, 1) := by decide +kernel
theorem dX7_image_0 : decode cX7_image 0 = .ok (.aload_n 0, 1) := by decide +kernel
theorem dX7_image_1 : decode cX7_image 1 = .ok (.getfield 15, 3) := by decide +kernel
theorem dX7_image_4 : decode cX7_image 4 = .ok (.aload_n 0, 1) := by decide +kernel
theorem dX7_image_5 : decode cX7_image 5 = .ok (.getfield 19, 3) := by decide +kernel
theorem dX7_image_8 : decode cX7_image 8 = .ok (.invokestatic 246, 3) := by decide +kernel
theorem dX7_image_11 : decode cX7_image 11 = .ok (.aload_n 0, 1) := by decide +kernel
theorem dX7_image_12 : decode cX7_image 12 = .ok (.iconst 1, 1) := by decide +kernel
theorem dX7_image_13 : decode cX7_image 13 = .ok (.putfield 256, 3) := by decide +kernel
theorem dX7_image_16 : decode cX7_image 16 = .ok (.aload_n 0, 1) := by decide +kernel
theorem dX7_image_17 : decode cX7_image 17 = .ok (.getfield 15, 3) := by decide +kernel
theorem dX7_image_20 : decode cX7_image 20 = .ok (.iconst 0, 1) := by decide +kernel
theorem dX7_image_21 : decode cX7_image 21 = .ok (.iaload, 1) := by decide +kernel
theorem dX7_image_22 : decode cX7_image 22 = .ok (.ireturn, 1) := by decide +kernel
theorem dX7_undo_0 : decode cX7_undo 0 = .ok (.aload_n 0, 1) := by decide +kernel
theorem dX7_undo_1 : decode cX7_undo 1 = .ok (.getfield 256, 3) := by decide +kernel
theorem dX7_undo_4 : decode cX7_undo 4 = .ok (.ifCond .ne 6, 3) := by decide +kernel
theorem dX7_undo_7 : decode cX7_undo 7 = .ok (.bipush (-3), 2) := by decide +kernel
theorem dX7_undo_9 : decode cX7_undo 9 = .ok (.ireturn, 1) := by decide +kernel
theorem dX7_undo_10 : decode cX7_undo 10 = .ok (.aload_n 0, 1) := by decide +kernel
theorem dX7_undo_11 : decode cX7_undo 11 = .ok (.getfield 19, 3) := by decide +kernel
theorem dX7_undo_14 : decode cX7_undo 14 = .ok (.aload_n 0, 1) := by decide +kernel
theorem dX7_undo_15 : decode cX7_undo 15 = .ok (.getfield 15, 3) := by decide +kernel
theorem dX7_undo_18 : decode cX7_undo 18 = .ok (.invokestatic 246, 3) := by decide +kernel
theorem dX7_undo_21 : decode cX7_undo 21 = .ok (.aload_n 0, 1) := by decide +kernel
theorem dX7_undo_22 : decode cX7_undo 22 = .ok (.getfield 15, 3) := by decide +kernel
theorem dX7_undo_25 : decode cX7_undo 25 = .ok (.iconst 0, 1) := by decide +kernel
theorem dX7_undo_26 : decode cX7_undo 26 = .ok (.iaload, 1) := by decide +kernel
theorem dX7_undo_27 : decode cX7_undo 27 = .ok (.ireturn, 1) := by decide +kernel
theorem dX7_count_0 : decode cX7_count 0 = .ok (.iload_n 1, 1) := by decide +kernel
theorem dX7_count_1 : decode cX7_count 1 = .ok (.tableswitch 57 0 3 #[31, 38, 45, 52], 31) := by decide +kernel
theorem dX7_count_32 : decode cX7_count 32 = .ok (.aload_n 0, 1) := by decide +kernel
theorem dX7_count_33 : decode cX7_count 33 = .ok (.getfield 15, 3) := by decide +kernel
theorem dX7_count_36 : decode cX7_count 36 = .ok (.iconst 2, 1) := by decide +kernel
theorem dX7_count_37 : decode cX7_count 37 = .ok (.iaload, 1) := by decide +kernel
theorem dX7_count_38 : decode cX7_count 38 = .ok (.ireturn, 1) := by decide +kernel
theorem dX7_count_39 : decode cX7_count 39 = .ok (.aload_n 0, 1) := by decide +kernel
theorem dX7_count_40 : decode cX7_count 40 = .ok (.getfield 15, 3) := by decide +kernel
theorem dX7_count_43 : decode cX7_count 43 = .ok (.iconst 3, 1) := by decide +kernel
theorem dX7_count_44 : decode cX7_count 44 = .ok (.iaload, 1) := by decide +kernel
theorem dX7_count_45 : decode cX7_count 45 = .ok (.ireturn, 1) := by decide +kernel
theorem dX7_count_46 : decode cX7_count 46 = .ok (.aload_n 0, 1) := by decide +kernel
theorem dX7_count_47 : decode cX7_count 47 = .ok (.getfield 15, 3) := by decide +kernel
theorem dX7_count_50 : decode cX7_count 50 = .ok (.iconst 4, 1) := by decide +kernel
theorem dX7_count_51 : decode cX7_count 51 = .ok (.iaload, 1) := by decide +kernel
theorem dX7_count_52 : decode cX7_count 52 = .ok (.ireturn, 1) := by decide +kernel
theorem dX7_count_53 : decode cX7_count 53 = .ok (.aload_n 0, 1) := by decide +kernel
theorem dX7_count_54 : decode cX7_count 54 = .ok (.getfield 156, 3) := by decide +kernel
theorem dX7_count_57 : decode cX7_count 57 = .ok (.ireturn, 1) := by decide +kernel
theorem dX7_count_58 : decode cX7_count 58 = .ok (.bipush (-2), 2) := by decide +kernel
theorem dX7_count_60 : decode cX7_count 60 = .ok (.ireturn, 1) := by decide +kernel
theorem dX7_isTape_0 : decode cX7_isTape 0 = .ok (.iload_n 0, 1) := by decide +kernel
theorem dX7_isTape_1 : decode cX7_isTape 1 = .ok (.i2l, 1) := by decide +kernel
theorem dX7_isTape_2 : decode cX7_isTape 2 = .ok (.lconst 0, 1) := by decide +kernel
theorem dX7_isTape_3 : decode cX7_isTape 3 = .ok (.ldc2_w 259, 3) := by decide +kernel
theorem dX7_isTape_6 : decode cX7_isTape 6 = .ok (.invokestatic 80, 3) := by decide +kernel
theorem dX7_isTape_9 : decode cX7_isTape 9 = .ok (.ireturn, 1) := by decide +kernel
theorem dX7_tape_0 : decode cX7_tape 0 = .ok (.iload_n 1, 1) := by decide +kernel
theorem dX7_tape_1 : decode cX7_tape 1 = .ok (.invokestatic 253, 3) := by decide +kernel
theorem dX7_tape_4 : decode cX7_tape 4 = .ok (.ifCond .ne 5, 3) := by decide +kernel
theorem dX7_tape_7 : decode cX7_tape 7 = .ok (.iconst (-1), 1) := by decide +kernel
theorem dX7_tape_8 : decode cX7_tape 8 = .ok (.ireturn, 1) := by decide +kernel
theorem dX7_tape_9 : decode cX7_tape 9 = .ok (.iload_n 2, 1) := by decide +kernel
theorem dX7_tape_10 : decode cX7_tape 10 = .ok (.i2l, 1) := by decide +kernel
theorem dX7_tape_11 : decode cX7_tape 11 = .ok (.ldc2_w 261, 3) := by decide +kernel
theorem dX7_tape_14 : decode cX7_tape 14 = .ok (.ldc2_w 263, 3) := by decide +kernel
theorem dX7_tape_17 : decode cX7_tape 17 = .ok (.invokestatic 80, 3) := by decide +kernel
theorem dX7_tape_20 : decode cX7_tape 20 = .ok (.ifCond .eq 14, 3) := by decide +kernel
theorem dX7_tape_23 : decode cX7_tape 23 = .ok (.iload_n 2, 1) := by decide +kernel
theorem dX7_tape_24 : decode cX7_tape 24 = .ok (.iconst (-1), 1) := by decide +kernel
theorem dX7_tape_25 : decode cX7_tape 25 = .ok (.if_icmp .eq 12, 3) := by decide +kernel
theorem dX7_tape_28 : decode cX7_tape 28 = .ok (.iload_n 3, 1) := by decide +kernel
theorem dX7_tape_29 : decode cX7_tape 29 = .ok (.bipush 60, 2) := by decide +kernel
theorem dX7_tape_31 : decode cX7_tape 31 = .ok (.if_icmp .le 6, 3) := by decide +kernel
theorem dX7_tape_34 : decode cX7_tape 34 = .ok (.bipush (-2), 2) := by decide +kernel
theorem dX7_tape_36 : decode cX7_tape 36 = .ok (.ireturn, 1) := by decide +kernel
theorem dX7_tape_37 : decode cX7_tape 37 = .ok (.iload_n 2, 1) := by decide +kernel
theorem dX7_tape_38 : decode cX7_tape 38 = .ok (.iconst (-1), 1) := by decide +kernel
theorem dX7_tape_39 : decode cX7_tape 39 = .ok (.if_icmp .eq 10, 3) := by decide +kernel
theorem dX7_tape_42 : decode cX7_tape 42 = .ok (.iload_n 3, 1) := by decide +kernel
theorem dX7_tape_43 : decode cX7_tape 43 = .ok (.ifCond .ge 6, 3) := by decide +kernel
theorem dX7_tape_46 : decode cX7_tape 46 = .ok (.bipush (-14), 2) := by decide +kernel
theorem dX7_tape_48 : decode cX7_tape 48 = .ok (.ireturn, 1) := by decide +kernel
theorem dX7_tape_49 : decode cX7_tape 49 = .ok (.aload_n 0, 1) := by decide +kernel
theorem dX7_tape_50 : decode cX7_tape 50 = .ok (.getfield 70, 3) := by decide +kernel
theorem dX7_tape_53 : decode cX7_tape 53 = .ok (.iload_n 1, 1) := by decide +kernel
theorem dX7_tape_54 : decode cX7_tape 54 = .ok (.iload_n 2, 1) := by decide +kernel
theorem dX7_tape_55 : decode cX7_tape 55 = .ok (.iastore, 1) := by decide +kernel
theorem dX7_tape_56 : decode cX7_tape 56 = .ok (.aload_n 0, 1) := by decide +kernel
theorem dX7_tape_57 : decode cX7_tape 57 = .ok (.getfield 73, 3) := by decide +kernel
theorem dX7_tape_60 : decode cX7_tape 60 = .ok (.iload_n 1, 1) := by decide +kernel
theorem dX7_tape_61 : decode cX7_tape 61 = .ok (.iload_n 2, 1) := by decide +kernel
theorem dX7_tape_62 : decode cX7_tape 62 = .ok (.iconst (-1), 1) := by decide +kernel
theorem dX7_tape_63 : decode cX7_tape 63 = .ok (.if_icmp .ne 7, 3) := by decide +kernel
theorem dX7_tape_66 : decode cX7_tape 66 = .ok (.iconst 0, 1) := by decide +kernel
theorem dX7_tape_67 : decode cX7_tape 67 = .ok (.goto 4, 3) := by decide +kernel
theorem dX7_tape_70 : decode cX7_tape 70 = .ok (.iload_n 3, 1) := by decide +kernel
theorem dX7_tape_71 : decode cX7_tape 71 = .ok (.iastore, 1) := by decide +kernel
theorem dX7_tape_72 : decode cX7_tape 72 = .ok (.iconst 0, 1) := by decide +kernel
theorem dX7_tape_73 : decode cX7_tape 73 = .ok (.istore 4, 2) := by decide +kernel
theorem dX7_tape_75 : decode cX7_tape 75 = .ok (.iload 4, 2) := by decide +kernel
theorem dX7_tape_77 : decode cX7_tape 77 = .ok (.bipush 60, 2) := by decide +kernel
theorem dX7_tape_79 : decode cX7_tape 79 = .ok (.if_icmp .ge 22, 3) := by decide +kernel
theorem dX7_tape_82 : decode cX7_tape 82 = .ok (.aload_n 0, 1) := by decide +kernel
theorem dX7_tape_83 : decode cX7_tape 83 = .ok (.getfield 76, 3) := by decide +kernel
theorem dX7_tape_86 : decode cX7_tape 86 = .ok (.bipush 60, 2) := by decide +kernel
theorem dX7_tape_88 : decode cX7_tape 88 = .ok (.iload_n 1, 1) := by decide +kernel
theorem dX7_tape_89 : decode cX7_tape 89 = .ok (.imul, 1) := by decide +kernel
theorem dX7_tape_90 : decode cX7_tape 90 = .ok (.iload 4, 2) := by decide +kernel
theorem dX7_tape_92 : decode cX7_tape 92 = .ok (.iadd, 1) := by decide +kernel
theorem dX7_tape_93 : decode cX7_tape 93 = .ok (.lconst 0, 1) := by decide +kernel
theorem dX7_tape_94 : decode cX7_tape 94 = .ok (.lastore, 1) := by decide +kernel
theorem dX7_tape_95 : decode cX7_tape 95 = .ok (.iinc 4 1, 3) := by decide +kernel
theorem dX7_tape_98 : decode cX7_tape 98 = .ok (.goto (-23), 3) := by decide +kernel
theorem dX7_tape_101 : decode cX7_tape 101 = .ok (.iconst 1, 1) := by decide +kernel
theorem dX7_tape_102 : decode cX7_tape 102 = .ok (.ireturn, 1) := by decide +kernel
theorem dX7_item_0 : decode cX7_item 0 = .ok (.iload_n 1, 1) := by decide +kernel
theorem dX7_item_1 : decode cX7_item 1 = .ok (.invokestatic 253, 3) := by decide +kernel
theorem dX7_item_4 : decode cX7_item 4 = .ok (.ifCond .ne 5, 3) := by decide +kernel
theorem dX7_item_7 : decode cX7_item 7 = .ok (.iconst (-1), 1) := by decide +kernel
theorem dX7_item_8 : decode cX7_item 8 = .ok (.ireturn, 1) := by decide +kernel
theorem dX7_item_9 : decode cX7_item 9 = .ok (.aload_n 0, 1) := by decide +kernel
theorem dX7_item_10 : decode cX7_item 10 = .ok (.getfield 70, 3) := by decide +kernel
theorem dX7_item_13 : decode cX7_item 13 = .ok (.iload_n 1, 1) := by decide +kernel
theorem dX7_item_14 : decode cX7_item 14 = .ok (.iaload, 1) := by decide +kernel
theorem dX7_item_15 : decode cX7_item 15 = .ok (.iconst (-1), 1) := by decide +kernel
theorem dX7_item_16 : decode cX7_item 16 = .ok (.if_icmp .ne 6, 3) := by decide +kernel
theorem dX7_item_19 : decode cX7_item 19 = .ok (.bipush (-11), 2) := by decide +kernel
theorem dX7_item_21 : decode cX7_item 21 = .ok (.ireturn, 1) := by decide +kernel
theorem dX7_item_22 : decode cX7_item 22 = .ok (.iload_n 2, 1) := by decide +kernel
theorem dX7_item_23 : decode cX7_item 23 = .ok (.i2l, 1) := by decide +kernel
theorem dX7_item_24 : decode cX7_item 24 = .ok (.lconst 0, 1) := by decide +kernel
theorem dX7_item_25 : decode cX7_item 25 = .ok (.aload_n 0, 1) := by decide +kernel
theorem dX7_item_26 : decode cX7_item 26 = .ok (.getfield 73, 3) := by decide +kernel
theorem dX7_item_29 : decode cX7_item 29 = .ok (.iload_n 1, 1) := by decide +kernel
theorem dX7_item_30 : decode cX7_item 30 = .ok (.iaload, 1) := by decide +kernel
theorem dX7_item_31 : decode cX7_item 31 = .ok (.iconst 1, 1) := by decide +kernel
theorem dX7_item_32 : decode cX7_item 32 = .ok (.isub, 1) := by decide +kernel
theorem dX7_item_33 : decode cX7_item 33 = .ok (.i2l, 1) := by decide +kernel
theorem dX7_item_34 : decode cX7_item 34 = .ok (.invokestatic 80, 3) := by decide +kernel
theorem dX7_item_37 : decode cX7_item 37 = .ok (.ifCond .ne 6, 3) := by decide +kernel
theorem dX7_item_40 : decode cX7_item 40 = .ok (.bipush (-13), 2) := by decide +kernel
theorem dX7_item_42 : decode cX7_item 42 = .ok (.ireturn, 1) := by decide +kernel
theorem dX7_item_43 : decode cX7_item 43 = .ok (.aload_n 0, 1) := by decide +kernel
theorem dX7_item_44 : decode cX7_item 44 = .ok (.getfield 70, 3) := by decide +kernel
theorem dX7_item_47 : decode cX7_item 47 = .ok (.iload_n 1, 1) := by decide +kernel
theorem dX7_item_48 : decode cX7_item 48 = .ok (.iaload, 1) := by decide +kernel
theorem dX7_item_49 : decode cX7_item 49 = .ok (.istore 5, 2) := by decide +kernel
theorem dX7_item_51 : decode cX7_item 51 = .ok (.aload_n 0, 1) := by decide +kernel
theorem dX7_item_52 : decode cX7_item 52 = .ok (.getfield 76, 3) := by decide +kernel
theorem dX7_item_55 : decode cX7_item 55 = .ok (.bipush 60, 2) := by decide +kernel
theorem dX7_item_57 : decode cX7_item 57 = .ok (.iload_n 1, 1) := by decide +kernel
theorem dX7_item_58 : decode cX7_item 58 = .ok (.imul, 1) := by decide +kernel
theorem dX7_item_59 : decode cX7_item 59 = .ok (.iload_n 2, 1) := by decide +kernel
theorem dX7_item_60 : decode cX7_item 60 = .ok (.iadd, 1) := by decide +kernel
theorem dX7_item_61 : decode cX7_item 61 = .ok (.iload 5, 2) := by decide +kernel
theorem dX7_item_63 : decode cX7_item 63 = .ok (.ifCond .ne 10, 3) := by decide +kernel
theorem dX7_item_66 : decode cX7_item 66 = .ok (.lload_n 3, 1) := by decide +kernel
theorem dX7_item_67 : decode cX7_item 67 = .ok (.l2i, 1) := by decide +kernel
theorem dX7_item_68 : decode cX7_item 68 = .ok (.i2b, 1) := by decide +kernel
theorem dX7_item_69 : decode cX7_item 69 = .ok (.i2l, 1) := by decide +kernel
theorem dX7_item_70 : decode cX7_item 70 = .ok (.goto 49, 3) := by decide +kernel
theorem dX7_item_73 : decode cX7_item 73 = .ok (.iload 5, 2) := by decide +kernel
theorem dX7_item_75 : decode cX7_item 75 = .ok (.iconst 1, 1) := by decide +kernel
theorem dX7_item_76 : decode cX7_item 76 = .ok (.if_icmp .ne 10, 3) := by decide +kernel
theorem dX7_item_79 : decode cX7_item 79 = .ok (.lload_n 3, 1) := by decide +kernel
theorem dX7_item_80 : decode cX7_item 80 = .ok (.l2i, 1) := by decide +kernel
theorem dX7_item_81 : decode cX7_item 81 = .ok (.i2s, 1) := by decide +kernel
theorem dX7_item_82 : decode cX7_item 82 = .ok (.i2l, 1) := by decide +kernel
theorem dX7_item_83 : decode cX7_item 83 = .ok (.goto 36, 3) := by decide +kernel
theorem dX7_item_86 : decode cX7_item 86 = .ok (.iload 5, 2) := by decide +kernel
theorem dX7_item_88 : decode cX7_item 88 = .ok (.iconst 2, 1) := by decide +kernel
theorem dX7_item_89 : decode cX7_item 89 = .ok (.if_icmp .ne 9, 3) := by decide +kernel
theorem dX7_item_92 : decode cX7_item 92 = .ok (.lload_n 3, 1) := by decide +kernel
theorem dX7_item_93 : decode cX7_item 93 = .ok (.l2i, 1) := by decide +kernel
theorem dX7_item_94 : decode cX7_item 94 = .ok (.i2l, 1) := by decide +kernel
theorem dX7_item_95 : decode cX7_item 95 = .ok (.goto 24, 3) := by decide +kernel
theorem dX7_item_98 : decode cX7_item 98 = .ok (.iload 5, 2) := by decide +kernel
theorem dX7_item_100 : decode cX7_item 100 = .ok (.iconst 3, 1) := by decide +kernel
theorem dX7_item_101 : decode cX7_item 101 = .ok (.if_icmp .ne 7, 3) := by decide +kernel
theorem dX7_item_104 : decode cX7_item 104 = .ok (.lload_n 3, 1) := by decide +kernel
theorem dX7_item_105 : decode cX7_item 105 = .ok (.goto 14, 3) := by decide +kernel
theorem dX7_item_108 : decode cX7_item 108 = .ok (.lload_n 3, 1) := by decide +kernel
theorem dX7_item_109 : decode cX7_item 109 = .ok (.lconst 0, 1) := by decide +kernel
theorem dX7_item_110 : decode cX7_item 110 = .ok (.lcmp, 1) := by decide +kernel
theorem dX7_item_111 : decode cX7_item 111 = .ok (.ifCond .eq 7, 3) := by decide +kernel
theorem dX7_item_114 : decode cX7_item 114 = .ok (.lconst 1, 1) := by decide +kernel
theorem dX7_item_115 : decode cX7_item 115 = .ok (.goto 4, 3) := by decide +kernel
theorem dX7_item_118 : decode cX7_item 118 = .ok (.lconst 0, 1) := by decide +kernel
theorem dX7_item_119 : decode cX7_item 119 = .ok (.lastore, 1) := by decide +kernel
theorem dX7_item_120 : decode cX7_item 120 = .ok (.iconst 1, 1) := by decide +kernel
theorem dX7_item_121 : decode cX7_item 121 = .ok (.ireturn, 1) := by decide +kernel
theorem dX7_peek_0 : decode cX7_peek 0 = .ok (.iload_n 1, 1) := by decide +kernel
theorem dX7_peek_1 : decode cX7_peek 1 = .ok (.invokestatic 253, 3) := by decide +kernel
theorem dX7_peek_4 : decode cX7_peek 4 = .ok (.ifCond .eq 45, 3) := by decide +kernel
theorem dX7_peek_7 : decode cX7_peek 7 = .ok (.aload_n 0, 1) := by decide +kernel
theorem dX7_peek_8 : decode cX7_peek 8 = .ok (.getfield 70, 3) := by decide +kernel
theorem dX7_peek_11 : decode cX7_peek 11 = .ok (.iload_n 1, 1) := by decide +kernel
theorem dX7_peek_12 : decode cX7_peek 12 = .ok (.iaload, 1) := by decide +kernel
theorem dX7_peek_13 : decode cX7_peek 13 = .ok (.iconst (-1), 1) := by decide +kernel
theorem dX7_peek_14 : decode cX7_peek 14 = .ok (.if_icmp .eq 35, 3) := by decide +kernel
theorem dX7_peek_17 : decode cX7_peek 17 = .ok (.iload_n 2, 1) := by decide +kernel
theorem dX7_peek_18 : decode cX7_peek 18 = .ok (.i2l, 1) := by decide +kernel
theorem dX7_peek_19 : decode cX7_peek 19 = .ok (.lconst 0, 1) := by decide +kernel
theorem dX7_peek_20 : decode cX7_peek 20 = .ok (.aload_n 0, 1) := by decide +kernel
theorem dX7_peek_21 : decode cX7_peek 21 = .ok (.getfield 73, 3) := by decide +kernel
theorem dX7_peek_24 : decode cX7_peek 24 = .ok (.iload_n 1, 1) := by decide +kernel
theorem dX7_peek_25 : decode cX7_peek 25 = .ok (.iaload, 1) := by decide +kernel
theorem dX7_peek_26 : decode cX7_peek 26 = .ok (.iconst 1, 1) := by decide +kernel
theorem dX7_peek_27 : decode cX7_peek 27 = .ok (.isub, 1) := by decide +kernel
theorem dX7_peek_28 : decode cX7_peek 28 = .ok (.i2l, 1) := by decide +kernel
theorem dX7_peek_29 : decode cX7_peek 29 = .ok (.invokestatic 80, 3) := by decide +kernel
theorem dX7_peek_32 : decode cX7_peek 32 = .ok (.ifCond .eq 17, 3) := by decide +kernel
theorem dX7_peek_35 : decode cX7_peek 35 = .ok (.aload_n 0, 1) := by decide +kernel
theorem dX7_peek_36 : decode cX7_peek 36 = .ok (.getfield 76, 3) := by decide +kernel
theorem dX7_peek_39 : decode cX7_peek 39 = .ok (.bipush 60, 2) := by decide +kernel
theorem dX7_peek_41 : decode cX7_peek 41 = .ok (.iload_n 1, 1) := by decide +kernel
theorem dX7_peek_42 : decode cX7_peek 42 = .ok (.imul, 1) := by decide +kernel
theorem dX7_peek_43 : decode cX7_peek 43 = .ok (.iload_n 2, 1) := by decide +kernel
theorem dX7_peek_44 : decode cX7_peek 44 = .ok (.iadd, 1) := by decide +kernel
