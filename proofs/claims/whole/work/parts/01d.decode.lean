theorem dX5_copyFrom_34 : decode cX5_copyFrom 34 = .ok (.getfield 30, 3) := by decide +kernel
theorem dX5_copyFrom_37 : decode cX5_copyFrom 37 = .ok (.aload_n 1, 1) := by decide +kernel
theorem dX5_copyFrom_38 : decode cX5_copyFrom 38 = .ok (.getfield 30, 3) := by decide +kernel
theorem dX5_copyFrom_41 : decode cX5_copyFrom 41 = .ok (.invokevirtual 37, 3) := by decide +kernel
theorem dX5_copyFrom_44 : decode cX5_copyFrom 44 = .ok (.return_, 1) := by decide +kernel
theorem dX6_init_0 : decode cX6_init 0 = .ok (.aload_n 0, 1) := by decide +kernel
theorem dX6_init_1 : decode cX6_init 1 = .ok (.invokespecial 3, 3) := by decide +kernel
theorem dX6_init_4 : decode cX6_init 4 = .ok (.aload_n 0, 1) := by decide +kernel
theorem dX6_init_5 : decode cX6_init 5 = .ok (.new 9, 3) := by decide +kernel
theorem dX6_init_8 : decode cX6_init 8 = .ok (.dup, 1) := by decide +kernel
theorem dX6_init_9 : decode cX6_init 9 = .ok (.invokespecial 11, 3) := by decide +kernel
theorem dX6_init_12 : decode cX6_init 12 = .ok (.putfield 12, 3) := by decide +kernel
theorem dX6_init_15 : decode cX6_init 15 = .ok (.aload_n 0, 1) := by decide +kernel
theorem dX6_init_16 : decode cX6_init 16 = .ok (.new 9, 3) := by decide +kernel
theorem dX6_init_19 : decode cX6_init 19 = .ok (.dup, 1) := by decide +kernel
theorem dX6_init_20 : decode cX6_init 20 = .ok (.invokespecial 11, 3) := by decide +kernel
theorem dX6_init_23 : decode cX6_init 23 = .ok (.putfield 18, 3) := by decide +kernel
theorem dX6_init_26 : decode cX6_init 26 = .ok (.aload_n 0, 1) := by decide +kernel
theorem dX6_init_27 : decode cX6_init 27 = .ok (.iconst 0, 1) := by decide +kernel
theorem dX6_init_28 : decode cX6_init 28 = .ok (.putfield 21, 3) := by decide +kernel
theorem dX6_init_31 : decode cX6_init 31 = .ok (.aload_n 0, 1) := by decide +kernel
theorem dX6_init_32 : decode cX6_init 32 = .ok (.new 25, 3) := by decide +kernel
theorem dX6_init_35 : decode cX6_init 35 = .ok (.dup, 1) := by decide +kernel
theorem dX6_init_36 : decode cX6_init 36 = .ok (.aload_n 0, 1) := by decide +kernel
theorem dX6_init_37 : decode cX6_init 37 = .ok (.getfield 12, 3) := by decide +kernel
theorem dX6_init_40 : decode cX6_init 40 = .ok (.getfield 27, 3) := by decide +kernel
theorem dX6_init_43 : decode cX6_init 43 = .ok (.invokespecial 31, 3) := by decide +kernel
theorem dX6_init_46 : decode cX6_init 46 = .ok (.putfield 34, 3) := by decide +kernel
theorem dX6_init_49 : decode cX6_init 49 = .ok (.aload_n 0, 1) := by decide +kernel
theorem dX6_init_50 : decode cX6_init 50 = .ok (.new 38, 3) := by decide +kernel
theorem dX6_init_53 : decode cX6_init 53 = .ok (.dup, 1) := by decide +kernel
theorem dX6_init_54 : decode cX6_init 54 = .ok (.invokespecial 40, 3) := by decide +kernel
theorem dX6_init_57 : decode cX6_init 57 = .ok (.putfield 41, 3) := by decide +kernel
theorem dX6_init_60 : decode cX6_init 60 = .ok (.aload_n 0, 1) := by decide +kernel
theorem dX6_init_61 : decode cX6_init 61 = .ok (.new 25, 3) := by decide +kernel
theorem dX6_init_64 : decode cX6_init 64 = .ok (.dup, 1) := by decide +kernel
theorem dX6_init_65 : decode cX6_init 65 = .ok (.aload_n 0, 1) := by decide +kernel
theorem dX6_init_66 : decode cX6_init 66 = .ok (.getfield 41, 3) := by decide +kernel
theorem dX6_init_69 : decode cX6_init 69 = .ok (.invokespecial 31, 3) := by decide +kernel
theorem dX6_init_72 : decode cX6_init 72 = .ok (.putfield 44, 3) := by decide +kernel
theorem dX6_init_75 : decode cX6_init 75 = .ok (.aload_n 0, 1) := by decide +kernel
theorem dX6_init_76 : decode cX6_init 76 = .ok (.new 47, 3) := by decide +kernel
theorem dX6_init_79 : decode cX6_init 79 = .ok (.dup, 1) := by decide +kernel
theorem dX6_init_80 : decode cX6_init 80 = .ok (.invokespecial 49, 3) := by decide +kernel
theorem dX6_init_83 : decode cX6_init 83 = .ok (.putfield 50, 3) := by decide +kernel
theorem dX6_init_86 : decode cX6_init 86 = .ok (.aload_n 0, 1) := by decide +kernel
theorem dX6_init_87 : decode cX6_init 87 = .ok (.bipush 6, 2) := by decide +kernel
theorem dX6_init_89 : decode cX6_init 89 = .ok (.anewarray 54, 3) := by decide +kernel
theorem dX6_init_92 : decode cX6_init 92 = .ok (.putfield 56, 3) := by decide +kernel
theorem dX6_init_95 : decode cX6_init 95 = .ok (.iconst 0, 1) := by decide +kernel
theorem dX6_init_96 : decode cX6_init 96 = .ok (.istore_n 1, 1) := by decide +kernel
theorem dX6_init_97 : decode cX6_init 97 = .ok (.iload_n 1, 1) := by decide +kernel
theorem dX6_init_98 : decode cX6_init 98 = .ok (.bipush 6, 2) := by decide +kernel
theorem dX6_init_100 : decode cX6_init 100 = .ok (.if_icmp .ge 22, 3) := by decide +kernel
theorem dX6_init_103 : decode cX6_init 103 = .ok (.aload_n 0, 1) := by decide +kernel
theorem dX6_init_104 : decode cX6_init 104 = .ok (.getfield 56, 3) := by decide +kernel
theorem dX6_init_107 : decode cX6_init 107 = .ok (.iload_n 1, 1) := by decide +kernel
theorem dX6_init_108 : decode cX6_init 108 = .ok (.new 54, 3) := by decide +kernel
theorem dX6_init_111 : decode cX6_init 111 = .ok (.dup, 1) := by decide +kernel
theorem dX6_init_112 : decode cX6_init 112 = .ok (.invokespecial 60, 3) := by decide +kernel
theorem dX6_init_115 : decode cX6_init 115 = .ok (.aastore, 1) := by decide +kernel
theorem dX6_init_116 : decode cX6_init 116 = .ok (.iinc 1 1, 3) := by decide +kernel
theorem dX6_init_119 : decode cX6_init 119 = .ok (.goto (-22), 3) := by decide +kernel
theorem dX6_init_122 : decode cX6_init 122 = .ok (.return_, 1) := by decide +kernel
theorem dX6_contract_0 : decode cX6_contract 0 = .ok (.aload_n 0, 1) := by decide +kernel
theorem dX6_contract_1 : decode cX6_contract 1 = .ok (.getfield 12, 3) := by decide +kernel
theorem dX6_contract_4 : decode cX6_contract 4 = .ok (.getfield 27, 3) := by decide +kernel
theorem dX6_contract_7 : decode cX6_contract 7 = .ok (.iload_n 1, 1) := by decide +kernel
theorem dX6_contract_8 : decode cX6_contract 8 = .ok (.iload_n 2, 1) := by decide +kernel
theorem dX6_contract_9 : decode cX6_contract 9 = .ok (.iload_n 3, 1) := by decide +kernel
theorem dX6_contract_10 : decode cX6_contract 10 = .ok (.invokevirtual 61, 3) := by decide +kernel
theorem dX6_contract_13 : decode cX6_contract 13 = .ok (.ireturn, 1) := by decide +kernel
theorem dX6_renew_0 : decode cX6_renew 0 = .ok (.aload_n 0, 1) := by decide +kernel
theorem dX6_renew_1 : decode cX6_renew 1 = .ok (.getfield 12, 3) := by decide +kernel
theorem dX6_renew_4 : decode cX6_renew 4 = .ok (.getfield 27, 3) := by decide +kernel
theorem dX6_renew_7 : decode cX6_renew 7 = .ok (.iload_n 1, 1) := by decide +kernel
theorem dX6_renew_8 : decode cX6_renew 8 = .ok (.iload_n 2, 1) := by decide +kernel
theorem dX6_renew_9 : decode cX6_renew 9 = .ok (.iload_n 3, 1) := by decide +kernel
theorem dX6_renew_10 : decode cX6_renew 10 = .ok (.invokevirtual 65, 3) := by decide +kernel
theorem dX6_renew_13 : decode cX6_renew 13 = .ok (.ireturn, 1) := by decide +kernel
theorem dX6_refer_0 : decode cX6_refer 0 = .ok (.aload_n 0, 1) := by decide +kernel
theorem dX6_refer_1 : decode cX6_refer 1 = .ok (.getfield 12, 3) := by decide +kernel
theorem dX6_refer_4 : decode cX6_refer 4 = .ok (.getfield 27, 3) := by decide +kernel
theorem dX6_refer_7 : decode cX6_refer 7 = .ok (.iload_n 1, 1) := by decide +kernel
theorem dX6_refer_8 : decode cX6_refer 8 = .ok (.iload_n 2, 1) := by decide +kernel
theorem dX6_refer_9 : decode cX6_refer 9 = .ok (.iload_n 3, 1) := by decide +kernel
theorem dX6_refer_10 : decode cX6_refer 10 = .ok (.invokevirtual 68, 3) := by decide +kernel
theorem dX6_refer_13 : decode cX6_refer 13 = .ok (.ireturn, 1) := by decide +kernel
theorem dX6_loss_0 : decode cX6_loss 0 = .ok (.aload_n 0, 1) := by decide +kernel
theorem dX6_loss_1 : decode cX6_loss 1 = .ok (.getfield 12, 3) := by decide +kernel
theorem dX6_loss_4 : decode cX6_loss 4 = .ok (.getfield 27, 3) := by decide +kernel
theorem dX6_loss_7 : decode cX6_loss 7 = .ok (.iload_n 1, 1) := by decide +kernel
theorem dX6_loss_8 : decode cX6_loss 8 = .ok (.invokevirtual 72, 3) := by decide +kernel
theorem dX6_loss_11 : decode cX6_loss 11 = .ok (.ireturn, 1) := by decide +kernel
theorem dX6_of_0 : decode cX6_of 0 = .ok (.aload_n 0, 1) := by decide +kernel
theorem dX6_of_1 : decode cX6_of 1 = .ok (.getfield 12, 3) := by decide +kernel
theorem dX6_of_4 : decode cX6_of 4 = .ok (.getfield 27, 3) := by decide +kernel
theorem dX6_of_7 : decode cX6_of 7 = .ok (.iload_n 1, 1) := by decide +kernel
theorem dX6_of_8 : decode cX6_of 8 = .ok (.invokevirtual 76, 3) := by decide +kernel
theorem dX6_of_11 : decode cX6_of 11 = .ok (.ifCond .ne 5, 3) := by decide +kernel
theorem dX6_of_14 : decode cX6_of 14 = .ok (.iconst (-1), 1) := by decide +kernel
theorem dX6_of_15 : decode cX6_of 15 = .ok (.ireturn, 1) := by decide +kernel
theorem dX6_of_16 : decode cX6_of 16 = .ok (.iload_n 2, 1) := by decide +kernel
theorem dX6_of_17 : decode cX6_of 17 = .ok (.ifCond .lt 21, 3) := by decide +kernel
theorem dX6_of_20 : decode cX6_of 20 = .ok (.iload_n 2, 1) := by decide +kernel
theorem dX6_of_21 : decode cX6_of 21 = .ok (.iconst 3, 1) := by decide +kernel
theorem dX6_of_22 : decode cX6_of 22 = .ok (.if_icmp .gt 16, 3) := by decide +kernel
theorem dX6_of_25 : decode cX6_of 25 = .ok (.aload_n 0, 1) := by decide +kernel
theorem dX6_of_26 : decode cX6_of 26 = .ok (.getfield 12, 3) := by decide +kernel
theorem dX6_of_29 : decode cX6_of 29 = .ok (.getfield 27, 3) := by decide +kernel
theorem dX6_of_32 : decode cX6_of 32 = .ok (.iload_n 1, 1) := by decide +kernel
theorem dX6_of_33 : decode cX6_of 33 = .ok (.iload_n 2, 1) := by decide +kernel
theorem dX6_of_34 : decode cX6_of 34 = .ok (.invokevirtual 80, 3) := by decide +kernel
theorem dX6_of_37 : decode cX6_of 37 = .ok (.ireturn, 1) := by decide +kernel
theorem dX6_of_38 : decode cX6_of 38 = .ok (.aload_n 0, 1) := by decide +kernel
theorem dX6_of_39 : decode cX6_of 39 = .ok (.getfield 34, 3) := by decide +kernel
theorem dX6_of_42 : decode cX6_of 42 = .ok (.invokevirtual 84, 3) := by decide +kernel
theorem dX6_of_45 : decode cX6_of 45 = .ok (.iload_n 2, 1) := by decide +kernel
theorem dX6_of_46 : decode cX6_of 46 = .ok (.tableswitch 131 4 9 #[38, 51, 67, 85, 103, 121], 38) := by decide +kernel
theorem dX6_of_84 : decode cX6_of 84 = .ok (.aload_n 0, 1) := by decide +kernel
theorem dX6_of_85 : decode cX6_of 85 = .ok (.getfield 12, 3) := by decide +kernel
theorem dX6_of_88 : decode cX6_of 88 = .ok (.getfield 27, 3) := by decide +kernel
theorem dX6_of_91 : decode cX6_of 91 = .ok (.getfield 87, 3) := by decide +kernel
theorem dX6_of_94 : decode cX6_of 94 = .ok (.iload_n 1, 1) := by decide +kernel
theorem dX6_of_95 : decode cX6_of 95 = .ok (.iaload, 1) := by decide +kernel
theorem dX6_of_96 : decode cX6_of 96 = .ok (.ireturn, 1) := by decide +kernel
theorem dX6_of_97 : decode cX6_of 97 = .ok (.aload_n 0, 1) := by decide +kernel
theorem dX6_of_98 : decode cX6_of 98 = .ok (.getfield 34, 3) := by decide +kernel
theorem dX6_of_101 : decode cX6_of 101 = .ok (.getfield 91, 3) := by decide +kernel
theorem dX6_of_104 : decode cX6_of 104 = .ok (.iload_n 1, 1) := by decide +kernel
theorem dX6_of_105 : decode cX6_of 105 = .ok (.iaload, 1) := by decide +kernel
theorem dX6_of_106 : decode cX6_of 106 = .ok (.iconst 1, 1) := by decide +kernel
theorem dX6_of_107 : decode cX6_of 107 = .ok (.iload_n 1, 1) := by decide +kernel
theorem dX6_of_108 : decode cX6_of 108 = .ok (.ishl, 1) := by decide +kernel
theorem dX6_of_109 : decode cX6_of 109 = .ok (.iconst (-1), 1) := by decide +kernel
theorem dX6_of_110 : decode cX6_of 110 = .ok (.ixor, 1) := by decide +kernel
theorem dX6_of_111 : decode cX6_of 111 = .ok (.iand, 1) := by decide +kernel
theorem dX6_of_112 : decode cX6_of 112 = .ok (.ireturn, 1) := by decide +kernel
theorem dX6_of_113 : decode cX6_of 113 = .ok (.aload_n 0, 1) := by decide +kernel
theorem dX6_of_114 : decode cX6_of 114 = .ok (.getfield 34, 3) := by decide +kernel
theorem dX6_of_117 : decode cX6_of 117 = .ok (.getfield 94, 3) := by decide +kernel
theorem dX6_of_120 : decode cX6_of 120 = .ok (.aload_n 0, 1) := by decide +kernel
theorem dX6_of_121 : decode cX6_of 121 = .ok (.getfield 34, 3) := by decide +kernel
theorem dX6_of_124 : decode cX6_of 124 = .ok (.getfield 97, 3) := by decide +kernel
theorem dX6_of_127 : decode cX6_of 127 = .ok (.iload_n 1, 1) := by decide +kernel
theorem dX6_of_128 : decode cX6_of 128 = .ok (.iaload, 1) := by decide +kernel
theorem dX6_of_129 : decode cX6_of 129 = .ok (.iaload, 1) := by decide +kernel
theorem dX6_of_130 : decode cX6_of 130 = .ok (.ireturn, 1) := by decide +kernel
theorem dX6_of_131 : decode cX6_of 131 = .ok (.aload_n 0, 1) := by decide +kernel
theorem dX6_of_132 : decode cX6_of 132 = .ok (.getfield 34, 3) := by decide +kernel
theorem dX6_of_135 : decode cX6_of 135 = .ok (.getfield 100, 3) := by decide +kernel
theorem dX6_of_138 : decode cX6_of 138 = .ok (.aload_n 0, 1) := by decide +kernel
theorem dX6_of_139 : decode cX6_of 139 = .ok (.getfield 34, 3) := by decide +kernel
theorem dX6_of_142 : decode cX6_of 142 = .ok (.getfield 97, 3) := by decide +kernel
theorem dX6_of_145 : decode cX6_of 145 = .ok (.iload_n 1, 1) := by decide +kernel
theorem dX6_of_146 : decode cX6_of 146 = .ok (.iaload, 1) := by decide +kernel
theorem dX6_of_147 : decode cX6_of 147 = .ok (.iaload, 1) := by decide +kernel
theorem dX6_of_148 : decode cX6_of 148 = .ok (.ireturn, 1) := by decide +kernel
theorem dX6_of_149 : decode cX6_of 149 = .ok (.aload_n 0, 1) := by decide +kernel
theorem dX6_of_150 : decode cX6_of 150 = .ok (.getfield 34, 3) := by decide +kernel
theorem dX6_of_153 : decode cX6_of 153 = .ok (.getfield 103, 3) := by decide +kernel
theorem dX6_of_156 : decode cX6_of 156 = .ok (.aload_n 0, 1) := by decide +kernel
theorem dX6_of_157 : decode cX6_of 157 = .ok (.getfield 34, 3) := by decide +kernel
theorem dX6_of_160 : decode cX6_of 160 = .ok (.getfield 97, 3) := by decide +kernel
theorem dX6_of_163 : decode cX6_of 163 = .ok (.iload_n 1, 1) := by decide +kernel
theorem dX6_of_164 : decode cX6_of 164 = .ok (.iaload, 1) := by decide +kernel
theorem dX6_of_165 : decode cX6_of 165 = .ok (.iaload, 1) := by decide +kernel
theorem dX6_of_166 : decode cX6_of 166 = .ok (.ireturn, 1) := by decide +kernel
theorem dX6_of_167 : decode cX6_of 167 = .ok (.aload_n 0, 1) := by decide +kernel
theorem dX6_of_168 : decode cX6_of 168 = .ok (.getfield 34, 3) := by decide +kernel
theorem dX6_of_171 : decode cX6_of 171 = .ok (.getfield 106, 3) := by decide +kernel
theorem dX6_of_174 : decode cX6_of 174 = .ok (.iload_n 1, 1) := by decide +kernel
theorem dX6_of_175 : decode cX6_of 175 = .ok (.iaload, 1) := by decide +kernel
theorem dX6_of_176 : decode cX6_of 176 = .ok (.ireturn, 1) := by decide +kernel
theorem dX6_of_177 : decode cX6_of 177 = .ok (.iconst (-1), 1) := by decide +kernel
theorem dX6_of_178 : decode cX6_of 178 = .ok (.ireturn, 1) := by decide +kernel
theorem dX6_feed_0 : decode cX6_feed 0 = .ok (.aload_n 0, 1) := by decide +kernel
theorem dX6_feed_1 : decode cX6_feed 1 = .ok (.getfield 50, 3) := by decide +kernel
theorem dX6_feed_4 : decode cX6_feed 4 = .ok (.iload_n 1, 1) := by decide +kernel
theorem dX6_feed_5 : decode cX6_feed 5 = .ok (.invokevirtual 109, 3) := by decide +kernel
theorem dX6_feed_8 : decode cX6_feed 8 = .ok (.ireturn, 1) := by decide +kernel
theorem dX6_read_0 : decode cX6_read 0 = .ok (.aload_n 0, 1) := by decide +kernel
theorem dX6_read_1 : decode cX6_read 1 = .ok (.getfield 50, 3) := by decide +kernel
theorem dX6_read_4 : decode cX6_read 4 = .ok (.invokevirtual 112, 3) := by decide +kernel
theorem dX6_read_7 : decode cX6_read 7 = .ok (.istore_n 1, 1) := by decide +kernel
theorem dX6_read_8 : decode cX6_read 8 = .ok (.aload_n 0, 1) := by decide +kernel
theorem dX6_read_9 : decode cX6_read 9 = .ok (.getfield 50, 3) := by decide +kernel
theorem dX6_read_12 : decode cX6_read 12 = .ok (.invokevirtual 116, 3) := by decide +kernel
theorem dX6_read_15 : decode cX6_read 15 = .ok (.iload_n 1, 1) := by decide +kernel
theorem dX6_read_16 : decode cX6_read 16 = .ok (.bipush (-5), 2) := by decide +kernel
theorem dX6_read_18 : decode cX6_read 18 = .ok (.if_icmp .eq 8, 3) := by decide +kernel
theorem dX6_read_21 : decode cX6_read 21 = .ok (.bipush (-10), 2) := by decide +kernel
theorem dX6_read_23 : decode cX6_read 23 = .ok (.iload_n 1, 1) := by decide +kernel
theorem dX6_read_24 : decode cX6_read 24 = .ok (.isub, 1) := by decide +kernel
theorem dX6_read_25 : decode cX6_read 25 = .ok (.ireturn, 1) := by decide +kernel
theorem dX6_read_26 : decode cX6_read 26 = .ok (.iconst 0, 1) := by decide +kernel
theorem dX6_read_27 : decode cX6_read 27 = .ok (.istore_n 2, 1) := by decide +kernel
theorem dX6_read_28 : decode cX6_read 28 = .ok (.iconst 0, 1) := by decide +kernel
theorem dX6_read_29 : decode cX6_read 29 = .ok (.istore_n 3, 1) := by decide +kernel
theorem dX6_read_30 : decode cX6_read 30 = .ok (.iload_n 3, 1) := by decide +kernel
theorem dX6_read_31 : decode cX6_read 31 = .ok (.aload_n 0, 1) := by decide +kernel
theorem dX6_read_32 : decode cX6_read 32 = .ok (.getfield 50, 3) := by decide +kernel
theorem dX6_read_35 : decode cX6_read 35 = .ok (.getfield 119, 3) := by decide +kernel
theorem dX6_read_38 : decode cX6_read 38 = .ok (.if_icmp .ge 30, 3) := by decide +kernel
theorem dX6_read_41 : decode cX6_read 41 = .ok (.aload_n 0, 1) := by decide +kernel
theorem dX6_read_42 : decode cX6_read 42 = .ok (.getfield 50, 3) := by decide +kernel
theorem dX6_read_45 : decode cX6_read 45 = .ok (.iload_n 3, 1) := by decide +kernel
theorem dX6_read_46 : decode cX6_read 46 = .ok (.aload_n 0, 1) := by decide +kernel
theorem dX6_read_47 : decode cX6_read 47 = .ok (.getfield 12, 3) := by decide +kernel
theorem dX6_read_50 : decode cX6_read 50 = .ok (.getfield 27, 3) := by decide +kernel
theorem dX6_read_53 : decode cX6_read 53 = .ok (.invokevirtual 123, 3) := by decide +kernel
theorem dX6_read_56 : decode cX6_read 56 = .ok (.ifCond .lt 6, 3) := by decide +kernel
theorem dX6_read_59 : decode cX6_read 59 = .ok (.iinc 2 1, 3) := by decide +kernel
theorem dX6_read_62 : decode cX6_read 62 = .ok (.iinc 3 1, 3) := by decide +kernel
theorem dX6_read_65 : decode cX6_read 65 = .ok (.goto (-35), 3) := by decide +kernel
theorem dX6_read_68 : decode cX6_read 68 = .ok (.iload_n 2, 1) := by decide +kernel
theorem dX6_read_69 : decode cX6_read 69 = .ok (.ireturn, 1) := by decide +kernel
theorem dX6_ring_0 : decode cX6_ring 0 = .ok (.aload_n 0, 1) := by decide +kernel
theorem dX6_ring_1 : decode cX6_ring 1 = .ok (.getfield 34, 3) := by decide +kernel
theorem dX6_ring_4 : decode cX6_ring 4 = .ok (.invokevirtual 84, 3) := by decide +kernel
theorem dX6_ring_7 : decode cX6_ring 7 = .ok (.iload_n 1, 1) := by decide +kernel
theorem dX6_ring_8 : decode cX6_ring 8 = .ok (.ifCond .lt 14, 3) := by decide +kernel
theorem dX6_ring_11 : decode cX6_ring 11 = .ok (.iload_n 1, 1) := by decide +kernel
theorem dX6_ring_12 : decode cX6_ring 12 = .ok (.aload_n 0, 1) := by decide +kernel
theorem dX6_ring_13 : decode cX6_ring 13 = .ok (.getfield 34, 3) := by decide +kernel
theorem dX6_ring_16 : decode cX6_ring 16 = .ok (.getfield 127, 3) := by decide +kernel
theorem dX6_ring_19 : decode cX6_ring 19 = .ok (.if_icmp .lt 5, 3) := by decide +kernel
theorem dX6_ring_22 : decode cX6_ring 22 = .ok (.iconst (-1), 1) := by decide +kernel
theorem dX6_ring_23 : decode cX6_ring 23 = .ok (.ireturn, 1) := by decide +kernel
theorem dX6_ring_24 : decode cX6_ring 24 = .ok (.iload_n 2, 1) := by decide +kernel
theorem dX6_ring_25 : decode cX6_ring 25 = .ok (.tableswitch 71 0 3 #[31, 41, 51, 61], 31) := by decide +kernel
theorem dX6_ring_56 : decode cX6_ring 56 = .ok (.aload_n 0, 1) := by decide +kernel
theorem dX6_ring_57 : decode cX6_ring 57 = .ok (.getfield 34, 3) := by decide +kernel
theorem dX6_ring_60 : decode cX6_ring 60 = .ok (.getfield 94, 3) := by decide +kernel
theorem dX6_ring_63 : decode cX6_ring 63 = .ok (.iload_n 1, 1) := by decide +kernel
theorem dX6_ring_64 : decode cX6_ring 64 = .ok (.iaload, 1) := by decide +kernel
theorem dX6_ring_65 : decode cX6_ring 65 = .ok (.ireturn, 1) := by decide +kernel
theorem dX6_ring_66 : decode cX6_ring 66 = .ok (.aload_n 0, 1) := by decide +kernel
theorem dX6_ring_67 : decode cX6_ring 67 = .ok (.getfield 34, 3) := by decide +kernel
theorem dX6_ring_70 : decode cX6_ring 70 = .ok (.getfield 100, 3) := by decide +kernel
theorem dX6_ring_73 : decode cX6_ring 73 = .ok (.iload_n 1, 1) := by decide +kernel
theorem dX6_ring_74 : decode cX6_ring 74 = .ok (.iaload, 1) := by decide +kernel
theorem dX6_ring_75 : decode cX6_ring 75 = .ok (.ireturn, 1) := by decide +kernel
theorem dX6_ring_76 : decode cX6_ring 76 = .ok (.aload_n 0, 1) := by decide +kernel
theorem dX6_ring_77 : decode cX6_ring 77 = .ok (.getfield 34, 3) := by decide +kernel
theorem dX6_ring_80 : decode cX6_ring 80 = .ok (.getfield 103, 3) := by decide +kernel
theorem dX6_ring_83 : decode cX6_ring 83 = .ok (.iload_n 1, 1) := by decide +kernel
theorem dX6_ring_84 : decode cX6_ring 84 = .ok (.iaload, 1) := by decide +kernel
theorem dX6_ring_85 : decode cX6_ring 85 = .ok (.ireturn, 1) := by decide +kernel
theorem dX6_ring_86 : decode cX6_ring 86 = .ok (.aload_n 0, 1) := by decide +kernel
theorem dX6_ring_87 : decode cX6_ring 87 = .ok (.getfield 34, 3) := by decide +kernel
theorem dX6_ring_90 : decode cX6_ring 90 = .ok (.getfield 130, 3) := by decide +kernel
theorem dX6_ring_93 : decode cX6_ring 93 = .ok (.iload_n 1, 1) := by decide +kernel
theorem dX6_ring_94 : decode cX6_ring 94 = .ok (.iaload, 1) := by decide +kernel
theorem dX6_ring_95 : decode cX6_ring 95 = .ok (.ireturn, 1) := by decide +kernel
theorem dX6_ring_96 : decode cX6_ring 96 = .ok (.iconst (-1), 1) := by decide +kernel
theorem dX6_ring_97 : decode cX6_ring 97 = .ok (.ireturn, 1) := by decide +kernel
theorem dX6_pays_0 : decode cX6_pays 0 = .ok (.aload_n 0, 1) := by decide +kernel
theorem dX6_pays_1 : decode cX6_pays 1 = .ok (.getfield 12, 3) := by decide +kernel
theorem dX6_pays_4 : decode cX6_pays 4 = .ok (.getfield 27, 3) := by decide +kernel
theorem dX6_pays_7 : decode cX6_pays 7 = .ok (.iload_n 1, 1) := by decide +kernel
theorem dX6_pays_8 : decode cX6_pays 8 = .ok (.invokevirtual 76, 3) := by decide +kernel
theorem dX6_pays_11 : decode cX6_pays 11 = .ok (.ifCond .ne 5, 3) := by decide +kernel
theorem dX6_pays_14 : decode cX6_pays 14 = .ok (.iconst (-1), 1) := by decide +kernel
theorem dX6_pays_15 : decode cX6_pays 15 = .ok (.ireturn, 1) := by decide +kernel
theorem dX6_pays_16 : decode cX6_pays 16 = .ok (.aload_n 0, 1) := by decide +kernel
theorem dX6_pays_17 : decode cX6_pays 17 = .ok (.getfield 34, 3) := by decide +kernel
theorem dX6_pays_20 : decode cX6_pays 20 = .ok (.invokevirtual 84, 3) := by decide +kernel
theorem dX6_pays_23 : decode cX6_pays 23 = .ok (.aload_n 0, 1) := by decide +kernel
theorem dX6_pays_24 : decode cX6_pays 24 = .ok (.getfield 34, 3) := by decide +kernel
theorem dX6_pays_27 : decode cX6_pays 27 = .ok (.getfield 106, 3) := by decide +kernel
theorem dX6_pays_30 : decode cX6_pays 30 = .ok (.iload_n 1, 1) := by decide +kernel
theorem dX6_pays_31 : decode cX6_pays 31 = .ok (.iaload, 1) := by decide +kernel
theorem dX6_pays_32 : decode cX6_pays 32 = .ok (.ireturn, 1) := by decide +kernel
theorem dX6_told_0 : decode cX6_told 0 = .ok (.aload_n 0, 1) := by decide +kernel
theorem dX6_told_1 : decode cX6_told 1 = .ok (.getfield 34, 3) := by decide +kernel
theorem dX6_told_4 : decode cX6_told 4 = .ok (.invokevirtual 84, 3) := by decide +kernel
theorem dX6_told_7 : decode cX6_told 7 = .ok (.iload_n 1, 1) := by decide +kernel
theorem dX6_told_8 : decode cX6_told 8 = .ok (.tableswitch 133 0 8 #[52, 63, 74, 82, 90, 98, 106, 114, 122], 52) := by decide +kernel
theorem dX6_told_60 : decode cX6_told 60 = .ok (.aload_n 0, 1) := by decide +kernel
theorem dX6_told_61 : decode cX6_told 61 = .ok (.getfield 12, 3) := by decide +kernel
theorem dX6_told_64 : decode cX6_told 64 = .ok (.getfield 27, 3) := by decide +kernel
theorem dX6_told_67 : decode cX6_told 67 = .ok (.getfield 133, 3) := by decide +kernel
theorem dX6_told_70 : decode cX6_told 70 = .ok (.ireturn, 1) := by decide +kernel
theorem dX6_told_71 : decode cX6_told 71 = .ok (.aload_n 0, 1) := by decide +kernel
theorem dX6_told_72 : decode cX6_told 72 = .ok (.getfield 12, 3) := by decide +kernel
theorem dX6_told_75 : decode cX6_told 75 = .ok (.getfield 27, 3) := by decide +kernel
theorem dX6_told_78 : decode cX6_told 78 = .ok (.getfield 136, 3) := by decide +kernel
theorem dX6_told_81 : decode cX6_told 81 = .ok (.ireturn, 1) := by decide +kernel
theorem dX6_told_82 : decode cX6_told 82 = .ok (.aload_n 0, 1) := by decide +kernel
theorem dX6_told_83 : decode cX6_told 83 = .ok (.getfield 34, 3) := by decide +kernel
theorem dX6_told_86 : decode cX6_told 86 = .ok (.getfield 139, 3) := by decide +kernel
theorem dX6_told_89 : decode cX6_told 89 = .ok (.ireturn, 1) := by decide +kernel
theorem dX6_told_90 : decode cX6_told 90 = .ok (.aload_n 0, 1) := by decide +kernel
theorem dX6_told_91 : decode cX6_told 91 = .ok (.getfield 34, 3) := by decide +kernel
theorem dX6_told_94 : decode cX6_told 94 = .ok (.getfield 142, 3) := by decide +kernel
theorem dX6_told_97 : decode cX6_told 97 = .ok (.ireturn, 1) := by decide +kernel
theorem dX6_told_98 : decode cX6_told 98 = .ok (.aload_n 0, 1) := by decide +kernel
theorem dX6_told_99 : decode cX6_told 99 = .ok (.getfield 34, 3) := by decide +kernel
theorem dX6_told_102 : decode cX6_told 102 = .ok (.getfield 127, 3) := by decide +kernel
theorem dX6_told_105 : decode cX6_told 105 = .ok (.ireturn, 1) := by decide +kernel
theorem dX6_told_106 : decode cX6_told 106 = .ok (.aload_n 0, 1) := by decide +kernel
theorem dX6_told_107 : decode cX6_told 107 = .ok (.getfield 34, 3) := by decide +kernel
theorem dX6_told_110 : decode cX6_told 110 = .ok (.invokevirtual 145, 3) := by decide +kernel
theorem dX6_told_113 : decode cX6_told 113 = .ok (.ireturn, 1) := by decide +kernel
theorem dX6_told_114 : decode cX6_told 114 = .ok (.aload_n 0, 1) := by decide +kernel
theorem dX6_told_115 : decode cX6_told 115 = .ok (.getfield 34, 3) := by decide +kernel
theorem dX6_told_118 : decode cX6_told 118 = .ok (.invokevirtual 148, 3) := by decide +kernel
theorem dX6_told_121 : decode cX6_told 121 = .ok (.ireturn, 1) := by decide +kernel
theorem dX6_told_122 : decode cX6_told 122 = .ok (.aload_n 0, 1) := by decide +kernel
theorem dX6_told_123 : decode cX6_told 123 = .ok (.getfield 34, 3) := by decide +kernel
theorem dX6_told_126 : decode cX6_told 126 = .ok (.invokevirtual 151, 3) := by decide +kernel
theorem dX6_told_129 : decode cX6_told 129 = .ok (.ireturn, 1) := by decide +kernel
theorem dX6_told_130 : decode cX6_told 130 = .ok (.aload_n 0, 1) := by decide +kernel
theorem dX6_told_131 : decode cX6_told 131 = .ok (.getfield 12, 3) := by decide +kernel
theorem dX6_told_134 : decode cX6_told 134 = .ok (.getfield 27, 3) := by decide +kernel
theorem dX6_told_137 : decode cX6_told 137 = .ok (.invokevirtual 154, 3) := by decide +kernel
theorem dX6_told_140 : decode cX6_told 140 = .ok (.ireturn, 1) := by decide +kernel
theorem dX6_told_141 : decode cX6_told 141 = .ok (.iconst (-1), 1) := by decide +kernel
theorem dX6_told_142 : decode cX6_told 142 = .ok (.ireturn, 1) := by decide +kernel
theorem dX6_why_0 : decode cX6_why 0 = .ok (.aload_n 0, 1) := by decide +kernel
theorem dX6_why_1 : decode cX6_why 1 = .ok (.getfield 12, 3) := by decide +kernel
theorem dX6_why_4 : decode cX6_why 4 = .ok (.getfield 27, 3) := by decide +kernel
theorem dX6_why_7 : decode cX6_why 7 = .ok (.iload_n 1, 1) := by decide +kernel
theorem dX6_why_8 : decode cX6_why 8 = .ok (.invokevirtual 76, 3) := by decide +kernel
theorem dX6_why_11 : decode cX6_why 11 = .ok (.ifCond .eq 7, 3) := by decide +kernel
theorem dX6_why_14 : decode cX6_why 14 = .ok (.iload_n 2, 1) := by decide +kernel
theorem dX6_why_15 : decode cX6_why 15 = .ok (.ifCond .ge 5, 3) := by decide +kernel
theorem dX6_why_18 : decode cX6_why 18 = .ok (.iconst (-1), 1) := by decide +kernel
theorem dX6_why_19 : decode cX6_why 19 = .ok (.ireturn, 1) := by decide +kernel
theorem dX6_why_20 : decode cX6_why 20 = .ok (.aload_n 0, 1) := by decide +kernel
theorem dX6_why_21 : decode cX6_why 21 = .ok (.getfield 34, 3) := by decide +kernel
theorem dX6_why_24 : decode cX6_why 24 = .ok (.invokevirtual 84, 3) := by decide +kernel
theorem dX6_why_27 : decode cX6_why 27 = .ok (.aload_n 0, 1) := by decide +kernel
theorem dX6_why_28 : decode cX6_why 28 = .ok (.getfield 34, 3) := by decide +kernel
theorem dX6_why_31 : decode cX6_why 31 = .ok (.iload_n 1, 1) := by decide +kernel
theorem dX6_why_32 : decode cX6_why 32 = .ok (.invokevirtual 157, 3) := by decide +kernel
theorem dX6_why_35 : decode cX6_why 35 = .ok (.istore_n 3, 1) := by decide +kernel
theorem dX6_why_36 : decode cX6_why 36 = .ok (.iload_n 2, 1) := by decide +kernel
theorem dX6_why_37 : decode cX6_why 37 = .ok (.tableswitch 49 0 2 #[27, 29, 39], 27) := by decide +kernel
theorem dX6_why_64 : decode cX6_why 64 = .ok (.iload_n 3, 1) := by decide +kernel
theorem dX6_why_65 : decode cX6_why 65 = .ok (.ireturn, 1) := by decide +kernel
theorem dX6_why_66 : decode cX6_why 66 = .ok (.aload_n 0, 1) := by decide +kernel
theorem dX6_why_67 : decode cX6_why 67 = .ok (.getfield 34, 3) := by decide +kernel
theorem dX6_why_70 : decode cX6_why 70 = .ok (.iload_n 1, 1) := by decide +kernel
theorem dX6_why_71 : decode cX6_why 71 = .ok (.iload_n 3, 1) := by decide +kernel
theorem dX6_why_72 : decode cX6_why 72 = .ok (.invokevirtual 160, 3) := by decide +kernel
theorem dX6_why_75 : decode cX6_why 75 = .ok (.ireturn, 1) := by decide +kernel
theorem dX6_why_76 : decode cX6_why 76 = .ok (.aload_n 0, 1) := by decide +kernel
theorem dX6_why_77 : decode cX6_why 77 = .ok (.getfield 34, 3) := by decide +kernel
theorem dX6_why_80 : decode cX6_why 80 = .ok (.iload_n 1, 1) := by decide +kernel
theorem dX6_why_81 : decode cX6_why 81 = .ok (.iload_n 3, 1) := by decide +kernel
theorem dX6_why_82 : decode cX6_why 82 = .ok (.invokevirtual 163, 3) := by decide +kernel
theorem dX6_why_85 : decode cX6_why 85 = .ok (.ireturn, 1) := by decide +kernel
theorem dX6_why_86 : decode cX6_why 86 = .ok (.bipush (-5), 2) := by decide +kernel
theorem dX6_why_88 : decode cX6_why 88 = .ok (.ireturn, 1) := by decide +kernel
theorem dX6_net_0 : decode cX6_net 0 = .ok (.aload_n 0, 1) := by decide +kernel
theorem dX6_net_1 : decode cX6_net 1 = .ok (.getfield 12, 3) := by decide +kernel
theorem dX6_net_4 : decode cX6_net 4 = .ok (.getfield 27, 3) := by decide +kernel
theorem dX6_net_7 : decode cX6_net 7 = .ok (.iload_n 1, 1) := by decide +kernel
theorem dX6_net_8 : decode cX6_net 8 = .ok (.invokevirtual 76, 3) := by decide +kernel
theorem dX6_net_11 : decode cX6_net 11 = .ok (.ifCond .ne 5, 3) := by decide +kernel
theorem dX6_net_14 : decode cX6_net 14 = .ok (.iconst (-1), 1) := by decide +kernel
theorem dX6_net_15 : decode cX6_net 15 = .ok (.ireturn, 1) := by decide +kernel
theorem dX6_net_16 : decode cX6_net 16 = .ok (.iload_n 2, 1) := by decide +kernel
theorem dX6_net_17 : decode cX6_net 17 = .ok (.ifCond .lt 10, 3) := by decide +kernel
theorem dX6_net_20 : decode cX6_net 20 = .ok (.iload_n 2, 1) := by decide +kernel
theorem dX6_net_21 : decode cX6_net 21 = .ok (.sipush 999, 3) := by decide +kernel
theorem dX6_net_24 : decode cX6_net 24 = .ok (.if_icmp .le 6, 3) := by decide +kernel
theorem dX6_net_27 : decode cX6_net 27 = .ok (.bipush (-2), 2) := by decide +kernel
theorem dX6_net_29 : decode cX6_net 29 = .ok (.ireturn, 1) := by decide +kernel
theorem dX6_net_30 : decode cX6_net 30 = .ok (.aload_n 0, 1) := by decide +kernel
theorem dX6_net_31 : decode cX6_net 31 = .ok (.getfield 34, 3) := by decide +kernel
theorem dX6_net_34 : decode cX6_net 34 = .ok (.invokevirtual 84, 3) := by decide +kernel
theorem dX6_net_37 : decode cX6_net 37 = .ok (.aload_n 0, 1) := by decide +kernel
theorem dX6_net_38 : decode cX6_net 38 = .ok (.getfield 34, 3) := by decide +kernel
theorem dX6_net_41 : decode cX6_net 41 = .ok (.iload_n 2, 1) := by decide +kernel
theorem dX6_net_42 : decode cX6_net 42 = .ok (.invokevirtual 166, 3) := by decide +kernel
theorem dX6_net_45 : decode cX6_net 45 = .ok (.aload_n 0, 1) := by decide +kernel
theorem dX6_net_46 : decode cX6_net 46 = .ok (.getfield 34, 3) := by decide +kernel
theorem dX6_net_49 : decode cX6_net 49 = .ok (.getfield 106, 3) := by decide +kernel
theorem dX6_net_52 : decode cX6_net 52 = .ok (.iload_n 1, 1) := by decide +kernel
theorem dX6_net_53 : decode cX6_net 53 = .ok (.iaload, 1) := by decide +kernel
theorem dX6_net_54 : decode cX6_net 54 = .ok (.aload_n 0, 1) := by decide +kernel
theorem dX6_net_55 : decode cX6_net 55 = .ok (.getfield 34, 3) := by decide +kernel
theorem dX6_net_58 : decode cX6_net 58 = .ok (.getfield 170, 3) := by decide +kernel
theorem dX6_net_61 : decode cX6_net 61 = .ok (.iload_n 1, 1) := by decide +kernel
theorem dX6_net_62 : decode cX6_net 62 = .ok (.iaload, 1) := by decide +kernel
theorem dX6_net_63 : decode cX6_net 63 = .ok (.isub, 1) := by decide +kernel
theorem dX6_net_64 : decode cX6_net 64 = .ok (.ireturn, 1) := by decide +kernel
theorem dX6_more_0 : decode cX6_more 0 = .ok (.aload_n 0, 1) := by decide +kernel
theorem dX6_more_1 : decode cX6_more 1 = .ok (.getfield 12, 3) := by decide +kernel
theorem dX6_more_4 : decode cX6_more 4 = .ok (.getfield 27, 3) := by decide +kernel
theorem dX6_more_7 : decode cX6_more 7 = .ok (.iload_n 1, 1) := by decide +kernel
theorem dX6_more_8 : decode cX6_more 8 = .ok (.invokevirtual 76, 3) := by decide +kernel
theorem dX6_more_11 : decode cX6_more 11 = .ok (.ifCond .ne 7, 3) := by decide +kernel
theorem dX6_more_14 : decode cX6_more 14 = .ok (.ldc2_w 173, 3) := by decide +kernel
theorem dX6_more_17 : decode cX6_more 17 = .ok (.lreturn, 1) := by decide +kernel
theorem dX6_more_18 : decode cX6_more 18 = .ok (.aload_n 0, 1) := by decide +kernel
theorem dX6_more_19 : decode cX6_more 19 = .ok (.getfield 34, 3) := by decide +kernel
theorem dX6_more_22 : decode cX6_more 22 = .ok (.invokevirtual 84, 3) := by decide +kernel
theorem dX6_more_25 : decode cX6_more 25 = .ok (.aload_n 0, 1) := by decide +kernel
theorem dX6_more_26 : decode cX6_more 26 = .ok (.getfield 34, 3) := by decide +kernel
theorem dX6_more_29 : decode cX6_more 29 = .ok (.getfield 106, 3) := by decide +kernel
theorem dX6_more_32 : decode cX6_more 32 = .ok (.iload_n 1, 1) := by decide +kernel
theorem dX6_more_33 : decode cX6_more 33 = .ok (.iaload, 1) := by decide +kernel
theorem dX6_more_34 : decode cX6_more 34 = .ok (.i2l, 1) := by decide +kernel
theorem dX6_more_35 : decode cX6_more 35 = .ok (.lstore_n 2, 1) := by decide +kernel
theorem dX6_more_36 : decode cX6_more 36 = .ok (.aload_n 0, 1) := by decide +kernel
theorem dX6_more_37 : decode cX6_more 37 = .ok (.getfield 34, 3) := by decide +kernel
theorem dX6_more_40 : decode cX6_more 40 = .ok (.aload_n 0, 1) := by decide +kernel
theorem dX6_more_41 : decode cX6_more 41 = .ok (.getfield 12, 3) := by decide +kernel
theorem dX6_more_44 : decode cX6_more 44 = .ok (.getfield 27, 3) := by decide +kernel
theorem dX6_more_47 : decode cX6_more 47 = .ok (.getfield 136, 3) := by decide +kernel
theorem dX6_more_50 : decode cX6_more 50 = .ok (.iconst 1, 1) := by decide +kernel
theorem dX6_more_51 : decode cX6_more 51 = .ok (.iadd, 1) := by decide +kernel
theorem dX6_more_52 : decode cX6_more 52 = .ok (.invokevirtual 175, 3) := by decide +kernel
theorem dX6_more_55 : decode cX6_more 55 = .ok (.aload_n 0, 1) := by decide +kernel
theorem dX6_more_56 : decode cX6_more 56 = .ok (.getfield 34, 3) := by decide +kernel
theorem dX6_more_59 : decode cX6_more 59 = .ok (.getfield 106, 3) := by decide +kernel
theorem dX6_more_62 : decode cX6_more 62 = .ok (.iload_n 1, 1) := by decide +kernel
theorem dX6_more_63 : decode cX6_more 63 = .ok (.iaload, 1) := by decide +kernel
theorem dX6_more_64 : decode cX6_more 64 = .ok (.i2l, 1) := by decide +kernel
theorem dX6_more_65 : decode cX6_more 65 = .ok (.lload_n 2, 1) := by decide +kernel
theorem dX6_more_66 : decode cX6_more 66 = .ok (.lsub, 1) := by decide +kernel
theorem dX6_more_67 : decode cX6_more 67 = .ok (.lreturn, 1) := by decide +kernel
theorem dX6_from_0 : decode cX6_from 0 = .ok (.aload_n 0, 1) := by decide +kernel
theorem dX6_from_1 : decode cX6_from 1 = .ok (.getfield 12, 3) := by decide +kernel
theorem dX6_from_4 : decode cX6_from 4 = .ok (.getfield 27, 3) := by decide +kernel
theorem dX6_from_7 : decode cX6_from 7 = .ok (.iload_n 1, 1) := by decide +kernel
theorem dX6_from_8 : decode cX6_from 8 = .ok (.invokevirtual 76, 3) := by decide +kernel
theorem dX6_from_11 : decode cX6_from 11 = .ok (.ifCond .ne 5, 3) := by decide +kernel
theorem dX6_from_14 : decode cX6_from 14 = .ok (.iconst (-1), 1) := by decide +kernel
theorem dX6_from_15 : decode cX6_from 15 = .ok (.ireturn, 1) := by decide +kernel
theorem dX6_from_16 : decode cX6_from 16 = .ok (.aload_n 0, 1) := by decide +kernel
theorem dX6_from_17 : decode cX6_from 17 = .ok (.getfield 34, 3) := by decide +kernel
theorem dX6_from_20 : decode cX6_from 20 = .ok (.invokevirtual 178, 3) := by decide +kernel
theorem dX6_from_23 : decode cX6_from 23 = .ok (.iconst 0, 1) := by decide +kernel
theorem dX6_from_24 : decode cX6_from 24 = .ok (.istore_n 2, 1) := by decide +kernel
theorem dX6_from_25 : decode cX6_from 25 = .ok (.iload_n 2, 1) := by decide +kernel
theorem dX6_from_26 : decode cX6_from 26 = .ok (.sipush 300, 3) := by decide +kernel
theorem dX6_from_29 : decode cX6_from 29 = .ok (.if_icmp .gt 31, 3) := by decide +kernel
theorem dX6_from_32 : decode cX6_from 32 = .ok (.aload_n 0, 1) := by decide +kernel
theorem dX6_from_33 : decode cX6_from 33 = .ok (.getfield 34, 3) := by decide +kernel
theorem dX6_from_36 : decode cX6_from 36 = .ok (.iload_n 2, 1) := by decide +kernel
theorem dX6_from_37 : decode cX6_from 37 = .ok (.invokevirtual 175, 3) := by decide +kernel
theorem dX6_from_40 : decode cX6_from 40 = .ok (.aload_n 0, 1) := by decide +kernel
theorem dX6_from_41 : decode cX6_from 41 = .ok (.getfield 34, 3) := by decide +kernel
theorem dX6_from_44 : decode cX6_from 44 = .ok (.getfield 106, 3) := by decide +kernel
theorem dX6_from_47 : decode cX6_from 47 = .ok (.iload_n 1, 1) := by decide +kernel
theorem dX6_from_48 : decode cX6_from 48 = .ok (.iaload, 1) := by decide +kernel
theorem dX6_from_49 : decode cX6_from 49 = .ok (.ifCond .le 5, 3) := by decide +kernel
theorem dX6_from_52 : decode cX6_from 52 = .ok (.iload_n 2, 1) := by decide +kernel
theorem dX6_from_53 : decode cX6_from 53 = .ok (.ireturn, 1) := by decide +kernel
theorem dX6_from_54 : decode cX6_from 54 = .ok (.iinc 2 1, 3) := by decide +kernel
theorem dX6_from_57 : decode cX6_from 57 = .ok (.goto (-32), 3) := by decide +kernel
theorem dX6_from_60 : decode cX6_from 60 = .ok (.bipush (-5), 2) := by decide +kernel
theorem dX6_from_62 : decode cX6_from 62 = .ok (.ireturn, 1) := by decide +kernel
theorem dX6_see_0 : decode cX6_see 0 = .ok (.aload_n 0, 1) := by decide +kernel
theorem dX6_see_1 : decode cX6_see 1 = .ok (.aload_n 0, 1) := by decide +kernel
theorem dX6_see_2 : decode cX6_see 2 = .ok (.getfield 12, 3) := by decide +kernel
theorem dX6_see_5 : decode cX6_see 5 = .ok (.getfield 181, 3) := by decide +kernel
theorem dX6_see_8 : decode cX6_see 8 = .ok (.iload_n 1, 1) := by decide +kernel
theorem dX6_see_9 : decode cX6_see 9 = .ok (.iload_n 2, 1) := by decide +kernel
theorem dX6_see_10 : decode cX6_see 10 = .ok (.invokevirtual 185, 3) := by decide +kernel
theorem dX6_see_13 : decode cX6_see 13 = .ok (.ireturn, 1) := by decide +kernel
theorem dX6_fits_0 : decode cX6_fits 0 = .ok (.iload_n 1, 1) := by decide +kernel
theorem dX6_fits_1 : decode cX6_fits 1 = .ok (.ifCond .eq 10, 3) := by decide +kernel
theorem dX6_fits_4 : decode cX6_fits 4 = .ok (.iload_n 1, 1) := by decide +kernel
theorem dX6_fits_5 : decode cX6_fits 5 = .ok (.iconst 1, 1) := by decide +kernel
theorem dX6_fits_6 : decode cX6_fits 6 = .ok (.if_icmp .eq 5, 3) := by decide +kernel
theorem dX6_fits_9 : decode cX6_fits 9 = .ok (.iconst (-1), 1) := by decide +kernel
theorem dX6_fits_10 : decode cX6_fits 10 = .ok (.ireturn, 1) := by decide +kernel
theorem dX6_fits_11 : decode cX6_fits 11 = .ok (.aload_n 0, 1) := by decide +kernel
theorem dX6_fits_12 : decode cX6_fits 12 = .ok (.getfield 34, 3) := by decide +kernel
theorem dX6_fits_15 : decode cX6_fits 15 = .ok (.invokevirtual 178, 3) := by decide +kernel
theorem dX6_fits_18 : decode cX6_fits 18 = .ok (.iconst 0, 1) := by decide +kernel
theorem dX6_fits_19 : decode cX6_fits 19 = .ok (.istore_n 2, 1) := by decide +kernel
theorem dX6_fits_20 : decode cX6_fits 20 = .ok (.bipush (-5), 2) := by decide +kernel
theorem dX6_fits_22 : decode cX6_fits 22 = .ok (.istore_n 3, 1) := by decide +kernel
theorem dX6_fits_23 : decode cX6_fits 23 = .ok (.iconst 0, 1) := by decide +kernel
theorem dX6_fits_24 : decode cX6_fits 24 = .ok (.istore 4, 2) := by decide +kernel
theorem dX6_fits_26 : decode cX6_fits 26 = .ok (.iload 4, 2) := by decide +kernel
theorem dX6_fits_28 : decode cX6_fits 28 = .ok (.sipush 300, 3) := by decide +kernel
theorem dX6_fits_31 : decode cX6_fits 31 = .ok (.if_icmp .gt 51, 3) := by decide +kernel
theorem dX6_fits_34 : decode cX6_fits 34 = .ok (.aload_n 0, 1) := by decide +kernel
theorem dX6_fits_35 : decode cX6_fits 35 = .ok (.getfield 34, 3) := by decide +kernel
theorem dX6_fits_38 : decode cX6_fits 38 = .ok (.iload 4, 2) := by decide +kernel
theorem dX6_fits_40 : decode cX6_fits 40 = .ok (.invokevirtual 175, 3) := by decide +kernel
theorem dX6_fits_43 : decode cX6_fits 43 = .ok (.aload_n 0, 1) := by decide +kernel
theorem dX6_fits_44 : decode cX6_fits 44 = .ok (.getfield 34, 3) := by decide +kernel
theorem dX6_fits_47 : decode cX6_fits 47 = .ok (.aload_n 0, 1) := by decide +kernel
theorem dX6_fits_48 : decode cX6_fits 48 = .ok (.getfield 12, 3) := by decide +kernel
theorem dX6_fits_51 : decode cX6_fits 51 = .ok (.getfield 181, 3) := by decide +kernel
theorem dX6_fits_54 : decode cX6_fits 54 = .ok (.invokevirtual 189, 3) := by decide +kernel
theorem dX6_fits_57 : decode cX6_fits 57 = .ok (.bipush (-5), 2) := by decide +kernel
theorem dX6_fits_59 : decode cX6_fits 59 = .ok (.if_icmp .ne 17, 3) := by decide +kernel
theorem dX6_fits_62 : decode cX6_fits 62 = .ok (.iload_n 2, 1) := by decide +kernel
theorem dX6_fits_63 : decode cX6_fits 63 = .ok (.ifCond .ne 8, 3) := by decide +kernel
theorem dX6_fits_66 : decode cX6_fits 66 = .ok (.iload 4, 2) := by decide +kernel
theorem dX6_fits_68 : decode cX6_fits 68 = .ok (.goto 4, 3) := by decide +kernel
theorem dX6_fits_71 : decode cX6_fits 71 = .ok (.iload_n 3, 1) := by decide +kernel
theorem dX6_fits_72 : decode cX6_fits 72 = .ok (.istore_n 3, 1) := by decide +kernel
theorem dX6_fits_73 : decode cX6_fits 73 = .ok (.iinc 2 1, 3) := by decide +kernel
theorem dX6_fits_76 : decode cX6_fits 76 = .ok (.iinc 4 1, 3) := by decide +kernel
theorem dX6_fits_79 : decode cX6_fits 79 = .ok (.goto (-53), 3) := by decide +kernel
theorem dX6_fits_82 : decode cX6_fits 82 = .ok (.iload_n 1, 1) := by decide +kernel
theorem dX6_fits_83 : decode cX6_fits 83 = .ok (.ifCond .ne 7, 3) := by decide +kernel
theorem dX6_fits_86 : decode cX6_fits 86 = .ok (.iload_n 2, 1) := by decide +kernel
theorem dX6_fits_87 : decode cX6_fits 87 = .ok (.goto 4, 3) := by decide +kernel
theorem dX6_fits_90 : decode cX6_fits 90 = .ok (.iload_n 3, 1) := by decide +kernel
theorem dX6_fits_91 : decode cX6_fits 91 = .ok (.ireturn, 1) := by decide +kernel
theorem dX6_odds_0 : decode cX6_odds 0 = .ok (.aload_n 0, 1) := by decide +kernel
theorem dX6_odds_1 : decode cX6_odds 1 = .ok (.getfield 12, 3) := by decide +kernel
theorem dX6_odds_4 : decode cX6_odds 4 = .ok (.getfield 27, 3) := by decide +kernel
theorem dX6_odds_7 : decode cX6_odds 7 = .ok (.iload_n 1, 1) := by decide +kernel
theorem dX6_odds_8 : decode cX6_odds 8 = .ok (.invokevirtual 76, 3) := by decide +kernel
theorem dX6_odds_11 : decode cX6_odds 11 = .ok (.ifCond .ne 7, 3) := by decide +kernel
theorem dX6_odds_14 : decode cX6_odds 14 = .ok (.ldc2_w 173, 3) := by decide +kernel
theorem dX6_odds_17 : decode cX6_odds 17 = .ok (.lreturn, 1) := by decide +kernel
theorem dX6_odds_18 : decode cX6_odds 18 = .ok (.aload_n 0, 1) := by decide +kernel
theorem dX6_odds_19 : decode cX6_odds 19 = .ok (.getfield 34, 3) := by decide +kernel
theorem dX6_odds_22 : decode cX6_odds 22 = .ok (.invokevirtual 178, 3) := by decide +kernel
theorem dX6_odds_25 : decode cX6_odds 25 = .ok (.iconst 0, 1) := by decide +kernel
theorem dX6_odds_26 : decode cX6_odds 26 = .ok (.istore_n 3, 1) := by decide +kernel
theorem dX6_odds_27 : decode cX6_odds 27 = .ok (.iconst 0, 1) := by decide +kernel
theorem dX6_odds_28 : decode cX6_odds 28 = .ok (.istore 4, 2) := by decide +kernel
theorem dX6_odds_30 : decode cX6_odds 30 = .ok (.bipush 10, 2) := by decide +kernel
theorem dX6_odds_32 : decode cX6_odds 32 = .ok (.istore 5, 2) := by decide +kernel
theorem dX6_odds_34 : decode cX6_odds 34 = .ok (.iload 5, 2) := by decide +kernel
theorem dX6_odds_36 : decode cX6_odds 36 = .ok (.bipush 100, 2) := by decide +kernel
theorem dX6_odds_38 : decode cX6_odds 38 = .ok (.if_icmp .gt 43, 3) := by decide +kernel
theorem dX6_odds_41 : decode cX6_odds 41 = .ok (.aload_n 0, 1) := by decide +kernel
theorem dX6_odds_42 : decode cX6_odds 42 = .ok (.getfield 34, 3) := by decide +kernel
theorem dX6_odds_45 : decode cX6_odds 45 = .ok (.iload 5, 2) := by decide +kernel
theorem dX6_odds_47 : decode cX6_odds 47 = .ok (.invokevirtual 175, 3) := by decide +kernel
theorem dX6_odds_50 : decode cX6_odds 50 = .ok (.iinc 3 1, 3) := by decide +kernel
theorem dX6_odds_53 : decode cX6_odds 53 = .ok (.iload 4, 2) := by decide +kernel
theorem dX6_odds_55 : decode cX6_odds 55 = .ok (.aload_n 0, 1) := by decide +kernel
theorem dX6_odds_56 : decode cX6_odds 56 = .ok (.getfield 34, 3) := by decide +kernel
theorem dX6_odds_59 : decode cX6_odds 59 = .ok (.getfield 106, 3) := by decide +kernel
theorem dX6_odds_62 : decode cX6_odds 62 = .ok (.iload_n 1, 1) := by decide +kernel
theorem dX6_odds_63 : decode cX6_odds 63 = .ok (.iaload, 1) := by decide +kernel
theorem dX6_odds_64 : decode cX6_odds 64 = .ok (.ifCond .le 7, 3) := by decide +kernel
theorem dX6_odds_67 : decode cX6_odds 67 = .ok (.iconst 1, 1) := by decide +kernel
theorem dX6_odds_68 : decode cX6_odds 68 = .ok (.goto 4, 3) := by decide +kernel
theorem dX6_odds_71 : decode cX6_odds 71 = .ok (.iconst 0, 1) := by decide +kernel
theorem dX6_odds_72 : decode cX6_odds 72 = .ok (.iadd, 1) := by decide +kernel
theorem dX6_odds_73 : decode cX6_odds 73 = .ok (.istore 4, 2) := by decide +kernel
theorem dX6_odds_75 : decode cX6_odds 75 = .ok (.iinc 5 10, 3) := by decide +kernel
theorem dX6_odds_78 : decode cX6_odds 78 = .ok (.goto (-44), 3) := by decide +kernel
theorem dX6_odds_81 : decode cX6_odds 81 = .ok (.iload 4, 2) := by decide +kernel
theorem dX6_odds_83 : decode cX6_odds 83 = .ok (.iload_n 3, 1) := by decide +kernel
theorem dX6_odds_84 : decode cX6_odds 84 = .ok (.iload_n 2, 1) := by decide +kernel
theorem dX6_odds_85 : decode cX6_odds 85 = .ok (.invokestatic 193, 3) := by decide +kernel
theorem dX6_odds_88 : decode cX6_odds 88 = .ok (.lreturn, 1) := by decide +kernel
theorem dX6_mean_0 : decode cX6_mean 0 = .ok (.aload_n 0, 1) := by decide +kernel
theorem dX6_mean_1 : decode cX6_mean 1 = .ok (.getfield 34, 3) := by decide +kernel
theorem dX6_mean_4 : decode cX6_mean 4 = .ok (.invokevirtual 84, 3) := by decide +kernel
theorem dX6_mean_7 : decode cX6_mean 7 = .ok (.aload_n 0, 1) := by decide +kernel
theorem dX6_mean_8 : decode cX6_mean 8 = .ok (.getfield 34, 3) := by decide +kernel
theorem dX6_mean_11 : decode cX6_mean 11 = .ok (.getfield 139, 3) := by decide +kernel
theorem dX6_mean_14 : decode cX6_mean 14 = .ok (.aload_n 0, 1) := by decide +kernel
theorem dX6_mean_15 : decode cX6_mean 15 = .ok (.getfield 34, 3) := by decide +kernel
theorem dX6_mean_18 : decode cX6_mean 18 = .ok (.invokevirtual 151, 3) := by decide +kernel
theorem dX6_mean_21 : decode cX6_mean 21 = .ok (.iload_n 1, 1) := by decide +kernel
theorem dX6_mean_22 : decode cX6_mean 22 = .ok (.invokestatic 193, 3) := by decide +kernel
theorem dX6_mean_25 : decode cX6_mean 25 = .ok (.lreturn, 1) := by decide +kernel
theorem dX6_plan_0 : decode cX6_plan 0 = .ok (.iload_n 1, 1) := by decide +kernel
theorem dX6_plan_1 : decode cX6_plan 1 = .ok (.iconst (-1), 1) := by decide +kernel
theorem dX6_plan_2 : decode cX6_plan 2 = .ok (.if_icmp .ne 14, 3) := by decide +kernel
theorem dX6_plan_5 : decode cX6_plan 5 = .ok (.aload_n 0, 1) := by decide +kernel
theorem dX6_plan_6 : decode cX6_plan 6 = .ok (.getfield 12, 3) := by decide +kernel
theorem dX6_plan_9 : decode cX6_plan 9 = .ok (.getfield 197, 3) := by decide +kernel
theorem dX6_plan_12 : decode cX6_plan 12 = .ok (.invokevirtual 200, 3) := by decide +kernel
theorem dX6_plan_15 : decode cX6_plan 15 = .ok (.ireturn, 1) := by decide +kernel
theorem dX6_plan_16 : decode cX6_plan 16 = .ok (.aload_n 0, 1) := by decide +kernel
theorem dX6_plan_17 : decode cX6_plan 17 = .ok (.iload_n 1, 1) := by decide +kernel
theorem dX6_plan_18 : decode cX6_plan 18 = .ok (.iload_n 2, 1) := by decide +kernel
theorem dX6_plan_19 : decode cX6_plan 19 = .ok (.invokevirtual 204, 3) := by decide +kernel
theorem dX6_plan_22 : decode cX6_plan 22 = .ok (.istore_n 3, 1) := by decide +kernel
theorem dX6_plan_23 : decode cX6_plan 23 = .ok (.iload_n 3, 1) := by decide +kernel
theorem dX6_plan_24 : decode cX6_plan 24 = .ok (.ifCond .ge 5, 3) := by decide +kernel
theorem dX6_plan_27 : decode cX6_plan 27 = .ok (.iload_n 3, 1) := by decide +kernel
theorem dX6_plan_28 : decode cX6_plan 28 = .ok (.ireturn, 1) := by decide +kernel
theorem dX6_plan_29 : decode cX6_plan 29 = .ok (.aload_n 0, 1) := by decide +kernel
theorem dX6_plan_30 : decode cX6_plan 30 = .ok (.getfield 12, 3) := by decide +kernel
theorem dX6_plan_33 : decode cX6_plan 33 = .ok (.getfield 197, 3) := by decide +kernel
theorem dX6_plan_36 : decode cX6_plan 36 = .ok (.iload_n 1, 1) := by decide +kernel
theorem dX6_plan_37 : decode cX6_plan 37 = .ok (.iload_n 2, 1) := by decide +kernel
theorem dX6_plan_38 : decode cX6_plan 38 = .ok (.invokevirtual 207, 3) := by decide +kernel
theorem dX6_plan_41 : decode cX6_plan 41 = .ok (.ireturn, 1) := by decide +kernel
theorem dX6_ends_0 : decode cX6_ends 0 = .ok (.aload_n 0, 1) := by decide +kernel
theorem dX6_ends_1 : decode cX6_ends 1 = .ok (.getfield 41, 3) := by decide +kernel
theorem dX6_ends_4 : decode cX6_ends 4 = .ok (.aload_n 0, 1) := by decide +kernel
theorem dX6_ends_5 : decode cX6_ends 5 = .ok (.getfield 12, 3) := by decide +kernel
theorem dX6_ends_8 : decode cX6_ends 8 = .ok (.getfield 27, 3) := by decide +kernel
theorem dX6_ends_11 : decode cX6_ends 11 = .ok (.invokevirtual 210, 3) := by decide +kernel
theorem dX6_ends_14 : decode cX6_ends 14 = .ok (.iconst 0, 1) := by decide +kernel
theorem dX6_ends_15 : decode cX6_ends 15 = .ok (.istore_n 2, 1) := by decide +kernel
theorem dX6_ends_16 : decode cX6_ends 16 = .ok (.iload_n 2, 1) := by decide +kernel
theorem dX6_ends_17 : decode cX6_ends 17 = .ok (.aload_n 0, 1) := by decide +kernel
theorem dX6_ends_18 : decode cX6_ends 18 = .ok (.getfield 12, 3) := by decide +kernel
theorem dX6_ends_21 : decode cX6_ends 21 = .ok (.getfield 197, 3) := by decide +kernel
theorem dX6_ends_24 : decode cX6_ends 24 = .ok (.getfield 213, 3) := by decide +kernel
theorem dX6_ends_27 : decode cX6_ends 27 = .ok (.if_icmp .ge 40, 3) := by decide +kernel
theorem dX6_ends_30 : decode cX6_ends 30 = .ok (.aload_n 0, 1) := by decide +kernel
theorem dX6_ends_31 : decode cX6_ends 31 = .ok (.getfield 41, 3) := by decide +kernel
theorem dX6_ends_34 : decode cX6_ends 34 = .ok (.aload_n 0, 1) := by decide +kernel
theorem dX6_ends_35 : decode cX6_ends 35 = .ok (.getfield 12, 3) := by decide +kernel
theorem dX6_ends_38 : decode cX6_ends 38 = .ok (.getfield 197, 3) := by decide +kernel
theorem dX6_ends_41 : decode cX6_ends 41 = .ok (.getfield 214, 3) := by decide +kernel
theorem dX6_ends_44 : decode cX6_ends 44 = .ok (.iload_n 2, 1) := by decide +kernel
theorem dX6_ends_45 : decode cX6_ends 45 = .ok (.iaload, 1) := by decide +kernel
theorem dX6_ends_46 : decode cX6_ends 46 = .ok (.aload_n 0, 1) := by decide +kernel
theorem dX6_ends_47 : decode cX6_ends 47 = .ok (.getfield 12, 3) := by decide +kernel
theorem dX6_ends_50 : decode cX6_ends 50 = .ok (.getfield 197, 3) := by decide +kernel
theorem dX6_ends_53 : decode cX6_ends 53 = .ok (.getfield 217, 3) := by decide +kernel
theorem dX6_ends_56 : decode cX6_ends 56 = .ok (.iload_n 2, 1) := by decide +kernel
theorem dX6_ends_57 : decode cX6_ends 57 = .ok (.iaload, 1) := by decide +kernel
theorem dX6_ends_58 : decode cX6_ends 58 = .ok (.invokevirtual 220, 3) := by decide +kernel
theorem dX6_ends_61 : decode cX6_ends 61 = .ok (.iinc 2 1, 3) := by decide +kernel
theorem dX6_ends_64 : decode cX6_ends 64 = .ok (.goto (-48), 3) := by decide +kernel
theorem dX6_ends_67 : decode cX6_ends 67 = .ok (.aload_n 0, 1) := by decide +kernel
theorem dX6_ends_68 : decode cX6_ends 68 = .ok (.getfield 44, 3) := by decide +kernel
theorem dX6_ends_71 : decode cX6_ends 71 = .ok (.invokevirtual 84, 3) := by decide +kernel
theorem dX6_ends_74 : decode cX6_ends 74 = .ok (.iload_n 1, 1) := by decide +kernel
theorem dX6_ends_75 : decode cX6_ends 75 = .ok (.tableswitch 49 0 2 #[25, 33, 41], 25) := by decide +kernel
theorem dX6_ends_100 : decode cX6_ends 100 = .ok (.aload_n 0, 1) := by decide +kernel
theorem dX6_ends_101 : decode cX6_ends 101 = .ok (.getfield 44, 3) := by decide +kernel
theorem dX6_ends_104 : decode cX6_ends 104 = .ok (.getfield 139, 3) := by decide +kernel
theorem dX6_ends_107 : decode cX6_ends 107 = .ok (.ireturn, 1) := by decide +kernel
theorem dX6_ends_108 : decode cX6_ends 108 = .ok (.aload_n 0, 1) := by decide +kernel
theorem dX6_ends_109 : decode cX6_ends 109 = .ok (.getfield 44, 3) := by decide +kernel
theorem dX6_ends_112 : decode cX6_ends 112 = .ok (.getfield 142, 3) := by decide +kernel
theorem dX6_ends_115 : decode cX6_ends 115 = .ok (.ireturn, 1) := by decide +kernel
theorem dX6_ends_116 : decode cX6_ends 116 = .ok (.aload_n 0, 1) := by decide +kernel
theorem dX6_ends_117 : decode cX6_ends 117 = .ok (.getfield 44, 3) := by decide +kernel
theorem dX6_ends_120 : decode cX6_ends 120 = .ok (.getfield 127, 3) := by decide +kernel
theorem dX6_ends_123 : decode cX6_ends 123 = .ok (.ireturn, 1) := by decide +kernel
theorem dX6_ends_124 : decode cX6_ends 124 = .ok (.iconst (-1), 1) := by decide +kernel
theorem dX6_ends_125 : decode cX6_ends 125 = .ok (.ireturn, 1) := by decide +kernel
theorem dX6_book_0 : decode cX6_book 0 = .ok (.aload_n 0, 1) := by decide +kernel
theorem dX6_book_1 : decode cX6_book 1 = .ok (.aload_n 0, 1) := by decide +kernel
theorem dX6_book_2 : decode cX6_book 2 = .ok (.getfield 12, 3) := by decide +kernel
theorem dX6_book_5 : decode cX6_book 5 = .ok (.getfield 224, 3) := by decide +kernel
theorem dX6_book_8 : decode cX6_book 8 = .ok (.iload_n 1, 1) := by decide +kernel
theorem dX6_book_9 : decode cX6_book 9 = .ok (.iload_n 2, 1) := by decide +kernel
theorem dX6_book_10 : decode cX6_book 10 = .ok (.invokevirtual 185, 3) := by decide +kernel
theorem dX6_book_13 : decode cX6_book 13 = .ok (.ireturn, 1) := by decide +kernel
theorem dX6_looked_0 : decode cX6_looked 0 = .ok (.aload_n 0, 1) := by decide +kernel
theorem dX6_looked_1 : decode cX6_looked 1 = .ok (.getfield 34, 3) := by decide +kernel
theorem dX6_looked_4 : decode cX6_looked 4 = .ok (.invokevirtual 84, 3) := by decide +kernel
theorem dX6_looked_7 : decode cX6_looked 7 = .ok (.aload_n 0, 1) := by decide +kernel
theorem dX6_looked_8 : decode cX6_looked 8 = .ok (.getfield 34, 3) := by decide +kernel
theorem dX6_looked_11 : decode cX6_looked 11 = .ok (.aload_n 0, 1) := by decide +kernel
theorem dX6_looked_12 : decode cX6_looked 12 = .ok (.getfield 12, 3) := by decide +kernel
theorem dX6_looked_15 : decode cX6_looked 15 = .ok (.getfield 224, 3) := by decide +kernel
theorem dX6_looked_18 : decode cX6_looked 18 = .ok (.invokevirtual 189, 3) := by decide +kernel
theorem dX6_looked_21 : decode cX6_looked 21 = .ok (.ireturn, 1) := by decide +kernel
theorem dX6_judge_0 : decode cX6_judge 0 = .ok (.iload_n 1, 1) := by decide +kernel
theorem dX6_judge_1 : decode cX6_judge 1 = .ok (.invokestatic 227, 3) := by decide +kernel
theorem dX6_judge_4 : decode cX6_judge 4 = .ok (.ifCond .ne 5, 3) := by decide +kernel
theorem dX6_judge_7 : decode cX6_judge 7 = .ok (.iconst (-1), 1) := by decide +kernel
theorem dX6_judge_8 : decode cX6_judge 8 = .ok (.ireturn, 1) := by decide +kernel
theorem dX6_judge_9 : decode cX6_judge 9 = .ok (.aload_n 0, 1) := by decide +kernel
theorem dX6_judge_10 : decode cX6_judge 10 = .ok (.getfield 56, 3) := by decide +kernel
theorem dX6_judge_13 : decode cX6_judge 13 = .ok (.iload_n 1, 1) := by decide +kernel
theorem dX6_judge_14 : decode cX6_judge 14 = .ok (.aaload, 1) := by decide +kernel
theorem dX6_judge_15 : decode cX6_judge 15 = .ok (.astore_n 3, 1) := by decide +kernel
theorem dX6_judge_16 : decode cX6_judge 16 = .ok (.aload_n 3, 1) := by decide +kernel
theorem dX6_judge_17 : decode cX6_judge 17 = .ok (.invokevirtual 230, 3) := by decide +kernel
theorem dX6_judge_20 : decode cX6_judge 20 = .ok (.ifCond .eq 14, 3) := by decide +kernel
theorem dX6_judge_23 : decode cX6_judge 23 = .ok (.aload_n 3, 1) := by decide +kernel
theorem dX6_judge_24 : decode cX6_judge 24 = .ok (.getfield 234, 3) := by decide +kernel
theorem dX6_judge_27 : decode cX6_judge 27 = .ok (.iconst 3, 1) := by decide +kernel
theorem dX6_judge_28 : decode cX6_judge 28 = .ok (.if_icmp .eq 6, 3) := by decide +kernel
theorem dX6_judge_31 : decode cX6_judge 31 = .ok (.bipush (-12), 2) := by decide +kernel
theorem dX6_judge_33 : decode cX6_judge 33 = .ok (.ireturn, 1) := by decide +kernel
theorem dX6_judge_34 : decode cX6_judge 34 = .ok (.aload_n 0, 1) := by decide +kernel
theorem dX6_judge_35 : decode cX6_judge 35 = .ok (.getfield 12, 3) := by decide +kernel
theorem dX6_judge_38 : decode cX6_judge 38 = .ok (.getfield 27, 3) := by decide +kernel
theorem dX6_judge_41 : decode cX6_judge 41 = .ok (.getfield 133, 3) := by decide +kernel
theorem dX6_judge_44 : decode cX6_judge 44 = .ok (.istore 4, 2) := by decide +kernel
theorem dX6_judge_46 : decode cX6_judge 46 = .ok (.iload 4, 2) := by decide +kernel
theorem dX6_judge_48 : decode cX6_judge 48 = .ok (.ifCond .ne 6, 3) := by decide +kernel
theorem dX6_judge_51 : decode cX6_judge 51 = .ok (.bipush (-5), 2) := by decide +kernel
theorem dX6_judge_53 : decode cX6_judge 53 = .ok (.ireturn, 1) := by decide +kernel
theorem dX6_judge_54 : decode cX6_judge 54 = .ok (.aload_n 3, 1) := by decide +kernel
theorem dX6_judge_55 : decode cX6_judge 55 = .ok (.invokevirtual 230, 3) := by decide +kernel
theorem dX6_judge_58 : decode cX6_judge 58 = .ok (.ifCond .eq 7, 3) := by decide +kernel
theorem dX6_judge_61 : decode cX6_judge 61 = .ok (.iload_n 2, 1) := by decide +kernel
theorem dX6_judge_62 : decode cX6_judge 62 = .ok (.ifCond .ge 6, 3) := by decide +kernel
theorem dX6_judge_65 : decode cX6_judge 65 = .ok (.bipush 100, 2) := by decide +kernel
theorem dX6_judge_67 : decode cX6_judge 67 = .ok (.ireturn, 1) := by decide +kernel
theorem dX6_judge_68 : decode cX6_judge 68 = .ok (.aload_n 0, 1) := by decide +kernel
theorem dX6_judge_69 : decode cX6_judge 69 = .ok (.getfield 34, 3) := by decide +kernel
theorem dX6_judge_72 : decode cX6_judge 72 = .ok (.invokevirtual 84, 3) := by decide +kernel
theorem dX6_judge_75 : decode cX6_judge 75 = .ok (.iconst 0, 1) := by decide +kernel
theorem dX6_judge_76 : decode cX6_judge 76 = .ok (.istore 5, 2) := by decide +kernel
theorem dX6_judge_78 : decode cX6_judge 78 = .ok (.iload 5, 2) := by decide +kernel
theorem dX6_judge_80 : decode cX6_judge 80 = .ok (.iload 4, 2) := by decide +kernel
theorem dX6_judge_82 : decode cX6_judge 82 = .ok (.if_icmp .ge 53, 3) := by decide +kernel
theorem dX6_judge_85 : decode cX6_judge 85 = .ok (.iload_n 2, 1) := by decide +kernel
theorem dX6_judge_86 : decode cX6_judge 86 = .ok (.aload_n 3, 1) := by decide +kernel
theorem dX6_judge_87 : decode cX6_judge 87 = .ok (.getfield 237, 3) := by decide +kernel
theorem dX6_judge_90 : decode cX6_judge 90 = .ok (.iload 5, 2) := by decide +kernel
theorem dX6_judge_92 : decode cX6_judge 92 = .ok (.isub, 1) := by decide +kernel
theorem dX6_judge_93 : decode cX6_judge 93 = .ok (.if_icmp .lt 9, 3) := by decide +kernel
theorem dX6_judge_96 : decode cX6_judge 96 = .ok (.bipush 100, 2) := by decide +kernel
theorem dX6_judge_98 : decode cX6_judge 98 = .ok (.iload 5, 2) := by decide +kernel
theorem dX6_judge_100 : decode cX6_judge 100 = .ok (.iadd, 1) := by decide +kernel
theorem dX6_judge_101 : decode cX6_judge 101 = .ok (.ireturn, 1) := by decide +kernel
theorem dX6_judge_102 : decode cX6_judge 102 = .ok (.aload_n 3, 1) := by decide +kernel
theorem dX6_judge_103 : decode cX6_judge 103 = .ok (.getfield 240, 3) := by decide +kernel
theorem dX6_judge_106 : decode cX6_judge 106 = .ok (.iload_n 2, 1) := by decide +kernel
theorem dX6_judge_107 : decode cX6_judge 107 = .ok (.iload 5, 2) := by decide +kernel
theorem dX6_judge_109 : decode cX6_judge 109 = .ok (.iadd, 1) := by decide +kernel
theorem dX6_judge_110 : decode cX6_judge 110 = .ok (.laload, 1) := by decide +kernel
theorem dX6_judge_111 : decode cX6_judge 111 = .ok (.aload_n 0, 1) := by decide +kernel
theorem dX6_judge_112 : decode cX6_judge 112 = .ok (.getfield 34, 3) := by decide +kernel
theorem dX6_judge_115 : decode cX6_judge 115 = .ok (.getfield 106, 3) := by decide +kernel
theorem dX6_judge_118 : decode cX6_judge 118 = .ok (.iload 5, 2) := by decide +kernel
theorem dX6_judge_120 : decode cX6_judge 120 = .ok (.iaload, 1) := by decide +kernel
theorem dX6_judge_121 : decode cX6_judge 121 = .ok (.i2l, 1) := by decide +kernel
theorem dX6_judge_122 : decode cX6_judge 122 = .ok (.lcmp, 1) := by decide +kernel
theorem dX6_judge_123 : decode cX6_judge 123 = .ok (.ifCond .eq 6, 3) := by decide +kernel
theorem dX6_judge_126 : decode cX6_judge 126 = .ok (.iload 5, 2) := by decide +kernel
theorem dX6_judge_128 : decode cX6_judge 128 = .ok (.ireturn, 1) := by decide +kernel
theorem dX6_judge_129 : decode cX6_judge 129 = .ok (.iinc 5 1, 3) := by decide +kernel
theorem dX6_judge_132 : decode cX6_judge 132 = .ok (.goto (-54), 3) := by decide +kernel
theorem dX6_judge_135 : decode cX6_judge 135 = .ok (.bipush (-5), 2) := by decide +kernel
theorem dX6_judge_137 : decode cX6_judge 137 = .ok (.ireturn, 1) := by decide +kernel
theorem dX6_image_0 : decode cX6_image 0 = .ok (.aload_n 0, 1) := by decide +kernel
theorem dX6_image_1 : decode cX6_image 1 = .ok (.getfield 18, 3) := by decide +kernel
theorem dX6_image_4 : decode cX6_image 4 = .ok (.aload_n 0, 1) := by decide +kernel
theorem dX6_image_5 : decode cX6_image 5 = .ok (.getfield 12, 3) := by decide +kernel
theorem dX6_image_8 : decode cX6_image 8 = .ok (.invokevirtual 244, 3) := by decide +kernel
theorem dX6_image_11 : decode cX6_image 11 = .ok (.aload_n 0, 1) := by decide +kernel
theorem dX6_image_12 : decode cX6_image 12 = .ok (.iconst 1, 1) := by decide +kernel
theorem dX6_image_13 : decode cX6_image 13 = .ok (.putfield 21, 3) := by decide +kernel
theorem dX6_image_16 : decode cX6_image 16 = .ok (.aload_n 0, 1) := by decide +kernel
theorem dX6_image_17 : decode cX6_image 17 = .ok (.getfield 12, 3) := by decide +kernel
theorem dX6_image_20 : decode cX6_image 20 = .ok (.getfield 27, 3) := by decide +kernel
theorem dX6_image_23 : decode cX6_image 23 = .ok (.getfield 133, 3) := by decide +kernel
theorem dX6_image_26 : decode cX6_image 26 = .ok (.ireturn, 1) := by decide +kernel
theorem dX6_undo_0 : decode cX6_undo 0 = .ok (.aload_n 0, 1) := by decide +kernel
theorem dX6_undo_1 : decode cX6_undo 1 = .ok (.getfield 21, 3) := by decide +kernel
theorem dX6_undo_4 : decode cX6_undo 4 = .ok (.ifCond .ne 6, 3) := by decide +kernel
theorem dX6_undo_7 : decode cX6_undo 7 = .ok (.bipush (-3), 2) := by decide +kernel
theorem dX6_undo_9 : decode cX6_undo 9 = .ok (.ireturn, 1) := by decide +kernel
theorem dX6_undo_10 : decode cX6_undo 10 = .ok (.aload_n 0, 1) := by decide +kernel
theorem dX6_undo_11 : decode cX6_undo 11 = .ok (.getfield 12, 3) := by decide +kernel
theorem dX6_undo_14 : decode cX6_undo 14 = .ok (.aload_n 0, 1) := by decide +kernel
theorem dX6_undo_15 : decode cX6_undo 15 = .ok (.getfield 18, 3) := by decide +kernel
theorem dX6_undo_18 : decode cX6_undo 18 = .ok (.invokevirtual 244, 3) := by decide +kernel
theorem dX6_undo_21 : decode cX6_undo 21 = .ok (.aload_n 0, 1) := by decide +kernel
theorem dX6_undo_22 : decode cX6_undo 22 = .ok (.getfield 12, 3) := by decide +kernel
theorem dX6_undo_25 : decode cX6_undo 25 = .ok (.getfield 27, 3) := by decide +kernel
theorem dX6_undo_28 : decode cX6_undo 28 = .ok (.getfield 133, 3) := by decide +kernel
theorem dX6_undo_31 : decode cX6_undo 31 = .ok (.ireturn, 1) := by decide +kernel
theorem dX6_count_0 : decode cX6_count 0 = .ok (.iload_n 1, 1) := by decide +kernel
theorem dX6_count_1 : decode cX6_count 1 = .ok (.tableswitch 72 0 3 #[31, 42, 53, 64], 31) := by decide +kernel
theorem dX6_count_32 : decode cX6_count 32 = .ok (.aload_n 0, 1) := by decide +kernel
theorem dX6_count_33 : decode cX6_count 33 = .ok (.getfield 12, 3) := by decide +kernel
theorem dX6_count_36 : decode cX6_count 36 = .ok (.getfield 181, 3) := by decide +kernel
theorem dX6_count_39 : decode cX6_count 39 = .ok (.getfield 213, 3) := by decide +kernel
theorem dX6_count_42 : decode cX6_count 42 = .ok (.ireturn, 1) := by decide +kernel
theorem dX6_count_43 : decode cX6_count 43 = .ok (.aload_n 0, 1) := by decide +kernel
theorem dX6_count_44 : decode cX6_count 44 = .ok (.getfield 12, 3) := by decide +kernel
theorem dX6_count_47 : decode cX6_count 47 = .ok (.getfield 197, 3) := by decide +kernel
theorem dX6_count_50 : decode cX6_count 50 = .ok (.getfield 213, 3) := by decide +kernel
theorem dX6_count_53 : decode cX6_count 53 = .ok (.ireturn, 1) := by decide +kernel
theorem dX6_count_54 : decode cX6_count 54 = .ok (.aload_n 0, 1) := by decide +kernel
theorem dX6_count_55 : decode cX6_count 55 = .ok (.getfield 12, 3) := by decide +kernel
theorem dX6_count_58 : decode cX6_count 58 = .ok (.getfield 224, 3) := by decide +kernel
theorem dX6_count_61 : decode cX6_count 61 = .ok (.getfield 213, 3) := by decide +kernel
theorem dX6_count_64 : decode cX6_count 64 = .ok (.ireturn, 1) := by decide +kernel
theorem dX6_count_65 : decode cX6_count 65 = .ok (.aload_n 0, 1) := by decide +kernel
theorem dX6_count_66 : decode cX6_count 66 = .ok (.getfield 50, 3) := by decide +kernel
theorem dX6_count_69 : decode cX6_count 69 = .ok (.getfield 247, 3) := by decide +kernel
theorem dX6_count_72 : decode cX6_count 72 = .ok (.ireturn, 1) := by decide +kernel
theorem dX6_count_73 : decode cX6_count 73 = .ok (.bipush (-2), 2) := by decide +kernel
theorem dX6_count_75 : decode cX6_count 75 = .ok (.ireturn, 1) := by decide +kernel
theorem dX6_tape_0 : decode cX6_tape 0 = .ok (.iload_n 1, 1) := by decide +kernel
theorem dX6_tape_1 : decode cX6_tape 1 = .ok (.invokestatic 227, 3) := by decide +kernel
theorem dX6_tape_4 : decode cX6_tape 4 = .ok (.ifCond .ne 5, 3) := by decide +kernel
theorem dX6_tape_7 : decode cX6_tape 7 = .ok (.iconst (-1), 1) := by decide +kernel
theorem dX6_tape_8 : decode cX6_tape 8 = .ok (.ireturn, 1) := by decide +kernel
theorem dX6_tape_9 : decode cX6_tape 9 = .ok (.iload_n 2, 1) := by decide +kernel
theorem dX6_tape_10 : decode cX6_tape 10 = .ok (.iconst (-1), 1) := by decide +kernel
theorem dX6_tape_11 : decode cX6_tape 11 = .ok (.if_icmp .lt 8, 3) := by decide +kernel
theorem dX6_tape_14 : decode cX6_tape 14 = .ok (.iload_n 2, 1) := by decide +kernel
theorem dX6_tape_15 : decode cX6_tape 15 = .ok (.iconst 4, 1) := by decide +kernel
theorem dX6_tape_16 : decode cX6_tape 16 = .ok (.if_icmp .le 6, 3) := by decide +kernel
theorem dX6_tape_19 : decode cX6_tape 19 = .ok (.bipush (-2), 2) := by decide +kernel
theorem dX6_tape_21 : decode cX6_tape 21 = .ok (.ireturn, 1) := by decide +kernel
theorem dX6_tape_22 : decode cX6_tape 22 = .ok (.iload_n 2, 1) := by decide +kernel
theorem dX6_tape_23 : decode cX6_tape 23 = .ok (.iconst (-1), 1) := by decide +kernel
theorem dX6_tape_24 : decode cX6_tape 24 = .ok (.if_icmp .ne 16, 3) := by decide +kernel
theorem dX6_tape_27 : decode cX6_tape 27 = .ok (.aload_n 0, 1) := by decide +kernel
theorem dX6_tape_28 : decode cX6_tape 28 = .ok (.getfield 56, 3) := by decide +kernel
theorem dX6_tape_31 : decode cX6_tape 31 = .ok (.iload_n 1, 1) := by decide +kernel
theorem dX6_tape_32 : decode cX6_tape 32 = .ok (.aaload, 1) := by decide +kernel
theorem dX6_tape_33 : decode cX6_tape 33 = .ok (.iconst (-1), 1) := by decide +kernel
theorem dX6_tape_34 : decode cX6_tape 34 = .ok (.iconst 0, 1) := by decide +kernel
theorem dX6_tape_35 : decode cX6_tape 35 = .ok (.invokevirtual 248, 3) := by decide +kernel
theorem dX6_tape_38 : decode cX6_tape 38 = .ok (.iconst 1, 1) := by decide +kernel
theorem dX6_tape_39 : decode cX6_tape 39 = .ok (.ireturn, 1) := by decide +kernel
theorem dX6_tape_40 : decode cX6_tape 40 = .ok (.iload_n 3, 1) := by decide +kernel
theorem dX6_tape_41 : decode cX6_tape 41 = .ok (.bipush 60, 2) := by decide +kernel
theorem dX6_tape_43 : decode cX6_tape 43 = .ok (.if_icmp .le 6, 3) := by decide +kernel
theorem dX6_tape_46 : decode cX6_tape 46 = .ok (.bipush (-2), 2) := by decide +kernel
theorem dX6_tape_48 : decode cX6_tape 48 = .ok (.ireturn, 1) := by decide +kernel
theorem dX6_tape_49 : decode cX6_tape 49 = .ok (.iload_n 3, 1) := by decide +kernel
theorem dX6_tape_50 : decode cX6_tape 50 = .ok (.ifCond .ge 6, 3) := by decide +kernel
theorem dX6_tape_53 : decode cX6_tape 53 = .ok (.bipush (-14), 2) := by decide +kernel
theorem dX6_tape_55 : decode cX6_tape 55 = .ok (.ireturn, 1) := by decide +kernel
theorem dX6_tape_56 : decode cX6_tape 56 = .ok (.aload_n 0, 1) := by decide +kernel
theorem dX6_tape_57 : decode cX6_tape 57 = .ok (.getfield 56, 3) := by decide +kernel
theorem dX6_tape_60 : decode cX6_tape 60 = .ok (.iload_n 1, 1) := by decide +kernel
theorem dX6_tape_61 : decode cX6_tape 61 = .ok (.aaload, 1) := by decide +kernel
theorem dX6_tape_62 : decode cX6_tape 62 = .ok (.iload_n 2, 1) := by decide +kernel
theorem dX6_tape_63 : decode cX6_tape 63 = .ok (.iload_n 3, 1) := by decide +kernel
theorem dX6_tape_64 : decode cX6_tape 64 = .ok (.invokevirtual 248, 3) := by decide +kernel
theorem dX6_tape_67 : decode cX6_tape 67 = .ok (.iconst 1, 1) := by decide +kernel
theorem dX6_tape_68 : decode cX6_tape 68 = .ok (.ireturn, 1) := by decide +kernel
theorem dX6_item_0 : decode cX6_item 0 = .ok (.iload_n 1, 1) := by decide +kernel
theorem dX6_item_1 : decode cX6_item 1 = .ok (.invokestatic 227, 3) := by decide +kernel
theorem dX6_item_4 : decode cX6_item 4 = .ok (.ifCond .ne 5, 3) := by decide +kernel
theorem dX6_item_7 : decode cX6_item 7 = .ok (.iconst (-1), 1) := by decide +kernel
theorem dX6_item_8 : decode cX6_item 8 = .ok (.ireturn, 1) := by decide +kernel
theorem dX6_item_9 : decode cX6_item 9 = .ok (.aload_n 0, 1) := by decide +kernel
theorem dX6_item_10 : decode cX6_item 10 = .ok (.getfield 56, 3) := by decide +kernel
theorem dX6_item_13 : decode cX6_item 13 = .ok (.iload_n 1, 1) := by decide +kernel
theorem dX6_item_14 : decode cX6_item 14 = .ok (.aaload, 1) := by decide +kernel
theorem dX6_item_15 : decode cX6_item 15 = .ok (.invokevirtual 230, 3) := by decide +kernel
theorem dX6_item_18 : decode cX6_item 18 = .ok (.ifCond .ne 6, 3) := by decide +kernel
theorem dX6_item_21 : decode cX6_item 21 = .ok (.bipush (-11), 2) := by decide +kernel
theorem dX6_item_23 : decode cX6_item 23 = .ok (.ireturn, 1) := by decide +kernel
theorem dX6_item_24 : decode cX6_item 24 = .ok (.aload_n 0, 1) := by decide +kernel
theorem dX6_item_25 : decode cX6_item 25 = .ok (.getfield 56, 3) := by decide +kernel
theorem dX6_item_28 : decode cX6_item 28 = .ok (.iload_n 1, 1) := by decide +kernel
theorem dX6_item_29 : decode cX6_item 29 = .ok (.aaload, 1) := by decide +kernel
theorem dX6_item_30 : decode cX6_item 30 = .ok (.iload_n 2, 1) := by decide +kernel
theorem dX6_item_31 : decode cX6_item 31 = .ok (.invokevirtual 251, 3) := by decide +kernel
theorem dX6_item_34 : decode cX6_item 34 = .ok (.ifCond .ne 6, 3) := by decide +kernel
theorem dX6_item_37 : decode cX6_item 37 = .ok (.bipush (-13), 2) := by decide +kernel
theorem dX6_item_39 : decode cX6_item 39 = .ok (.ireturn, 1) := by decide +kernel
theorem dX6_item_40 : decode cX6_item 40 = .ok (.aload_n 0, 1) := by decide +kernel
theorem dX6_item_41 : decode cX6_item 41 = .ok (.getfield 56, 3) := by decide +kernel
theorem dX6_item_44 : decode cX6_item 44 = .ok (.iload_n 1, 1) := by decide +kernel
theorem dX6_item_45 : decode cX6_item 45 = .ok (.aaload, 1) := by decide +kernel
theorem dX6_item_46 : decode cX6_item 46 = .ok (.getfield 240, 3) := by decide +kernel
theorem dX6_item_49 : decode cX6_item 49 = .ok (.iload_n 2, 1) := by decide +kernel
theorem dX6_item_50 : decode cX6_item 50 = .ok (.aload_n 0, 1) := by decide +kernel
theorem dX6_item_51 : decode cX6_item 51 = .ok (.getfield 56, 3) := by decide +kernel
theorem dX6_item_54 : decode cX6_item 54 = .ok (.iload_n 1, 1) := by decide +kernel
theorem dX6_item_55 : decode cX6_item 55 = .ok (.aaload, 1) := by decide +kernel
theorem dX6_item_56 : decode cX6_item 56 = .ok (.getfield 234, 3) := by decide +kernel
theorem dX6_item_59 : decode cX6_item 59 = .ok (.lload_n 3, 1) := by decide +kernel
theorem dX6_item_60 : decode cX6_item 60 = .ok (.invokestatic 254, 3) := by decide +kernel
theorem dX6_item_63 : decode cX6_item 63 = .ok (.lastore, 1) := by decide +kernel
theorem dX6_item_64 : decode cX6_item 64 = .ok (.iconst 1, 1) := by decide +kernel
theorem dX6_item_65 : decode cX6_item 65 = .ok (.ireturn, 1) := by decide +kernel
theorem dX6_peek_0 : decode cX6_peek 0 = .ok (.iload_n 1, 1) := by decide +kernel
theorem dX6_peek_1 : decode cX6_peek 1 = .ok (.invokestatic 227, 3) := by decide +kernel
theorem dX6_peek_4 : decode cX6_peek 4 = .ok (.ifCond .eq 16, 3) := by decide +kernel
theorem dX6_peek_7 : decode cX6_peek 7 = .ok (.aload_n 0, 1) := by decide +kernel
theorem dX6_peek_8 : decode cX6_peek 8 = .ok (.getfield 56, 3) := by decide +kernel
theorem dX6_peek_11 : decode cX6_peek 11 = .ok (.iload_n 1, 1) := by decide +kernel
theorem dX6_peek_12 : decode cX6_peek 12 = .ok (.aaload, 1) := by decide +kernel
theorem dX6_peek_13 : decode cX6_peek 13 = .ok (.iload_n 2, 1) := by decide +kernel
theorem dX6_peek_14 : decode cX6_peek 14 = .ok (.invokevirtual 251, 3) := by decide +kernel
theorem dX6_peek_17 : decode cX6_peek 17 = .ok (.ifCond .ne 7, 3) := by decide +kernel
theorem dX6_peek_20 : decode cX6_peek 20 = .ok (.ldc2_w 173, 3) := by decide +kernel
theorem dX6_peek_23 : decode cX6_peek 23 = .ok (.lreturn, 1) := by decide +kernel
theorem dX6_peek_24 : decode cX6_peek 24 = .ok (.aload_n 0, 1) := by decide +kernel
theorem dX6_peek_25 : decode cX6_peek 25 = .ok (.getfield 56, 3) := by decide +kernel
theorem dX6_peek_28 : decode cX6_peek 28 = .ok (.iload_n 1, 1) := by decide +kernel
theorem dX6_peek_29 : decode cX6_peek 29 = .ok (.aaload, 1) := by decide +kernel
theorem dX6_peek_30 : decode cX6_peek 30 = .ok (.getfield 240, 3) := by decide +kernel
theorem dX6_peek_33 : decode cX6_peek 33 = .ok (.iload_n 2, 1) := by decide +kernel
theorem dX6_peek_34 : decode cX6_peek 34 = .ok (.laload, 1) := by decide +kernel
theorem dX6_peek_35 : decode cX6_peek 35 = .ok (.lreturn, 1) := by decide +kernel
theorem dX6_shift_0 : decode cX6_shift 0 = .ok (.iload_n 1, 1) := by decide +kernel
theorem dX6_shift_1 : decode cX6_shift 1 = .ok (.invokestatic 227, 3) := by decide +kernel
theorem dX6_shift_4 : decode cX6_shift 4 = .ok (.ifCond .eq 10, 3) := by decide +kernel
theorem dX6_shift_7 : decode cX6_shift 7 = .ok (.iload_n 3, 1) := by decide +kernel
theorem dX6_shift_8 : decode cX6_shift 8 = .ok (.invokestatic 227, 3) := by decide +kernel
theorem dX6_shift_11 : decode cX6_shift 11 = .ok (.ifCond .ne 5, 3) := by decide +kernel
theorem dX6_shift_14 : decode cX6_shift 14 = .ok (.iconst (-1), 1) := by decide +kernel
theorem dX6_shift_15 : decode cX6_shift 15 = .ok (.ireturn, 1) := by decide +kernel
theorem dX6_shift_16 : decode cX6_shift 16 = .ok (.aload_n 0, 1) := by decide +kernel
theorem dX6_shift_17 : decode cX6_shift 17 = .ok (.getfield 56, 3) := by decide +kernel
theorem dX6_shift_20 : decode cX6_shift 20 = .ok (.iload_n 1, 1) := by decide +kernel
theorem dX6_shift_21 : decode cX6_shift 21 = .ok (.aaload, 1) := by decide +kernel
theorem dX6_shift_22 : decode cX6_shift 22 = .ok (.astore 6, 2) := by decide +kernel
theorem dX6_shift_24 : decode cX6_shift 24 = .ok (.aload_n 0, 1) := by decide +kernel
theorem dX6_shift_25 : decode cX6_shift 25 = .ok (.getfield 56, 3) := by decide +kernel
theorem dX6_shift_28 : decode cX6_shift 28 = .ok (.iload_n 3, 1) := by decide +kernel
theorem dX6_shift_29 : decode cX6_shift 29 = .ok (.aaload, 1) := by decide +kernel
theorem dX6_shift_30 : decode cX6_shift 30 = .ok (.astore 7, 2) := by decide +kernel
theorem dX6_shift_32 : decode cX6_shift 32 = .ok (.aload 6, 2) := by decide +kernel
theorem dX6_shift_34 : decode cX6_shift 34 = .ok (.invokevirtual 230, 3) := by decide +kernel
theorem dX6_shift_37 : decode cX6_shift 37 = .ok (.ifCond .eq 11, 3) := by decide +kernel
theorem dX6_shift_40 : decode cX6_shift 40 = .ok (.aload 7, 2) := by decide +kernel
theorem dX6_shift_42 : decode cX6_shift 42 = .ok (.invokevirtual 230, 3) := by decide +kernel
theorem dX6_shift_45 : decode cX6_shift 45 = .ok (.ifCond .ne 6, 3) := by decide +kernel
theorem dX6_shift_48 : decode cX6_shift 48 = .ok (.bipush (-11), 2) := by decide +kernel
theorem dX6_shift_50 : decode cX6_shift 50 = .ok (.ireturn, 1) := by decide +kernel
theorem dX6_shift_51 : decode cX6_shift 51 = .ok (.aload 6, 2) := by decide +kernel
theorem dX6_shift_53 : decode cX6_shift 53 = .ok (.getfield 234, 3) := by decide +kernel
theorem dX6_shift_56 : decode cX6_shift 56 = .ok (.aload 7, 2) := by decide +kernel
theorem dX6_shift_58 : decode cX6_shift 58 = .ok (.getfield 234, 3) := by decide +kernel
theorem dX6_shift_61 : decode cX6_shift 61 = .ok (.if_icmp .eq 6, 3) := by decide +kernel
theorem dX6_shift_64 : decode cX6_shift 64 = .ok (.bipush (-12), 2) := by decide +kernel
theorem dX6_shift_66 : decode cX6_shift 66 = .ok (.ireturn, 1) := by decide +kernel
theorem dX6_shift_67 : decode cX6_shift 67 = .ok (.aload 6, 2) := by decide +kernel
theorem dX6_shift_69 : decode cX6_shift 69 = .ok (.iload_n 2, 1) := by decide +kernel
theorem dX6_shift_70 : decode cX6_shift 70 = .ok (.iload 5, 2) := by decide +kernel
theorem dX6_shift_72 : decode cX6_shift 72 = .ok (.invokevirtual 258, 3) := by decide +kernel
theorem dX6_shift_75 : decode cX6_shift 75 = .ok (.ifCond .eq 15, 3) := by decide +kernel
theorem dX6_shift_78 : decode cX6_shift 78 = .ok (.aload 7, 2) := by decide +kernel
theorem dX6_shift_80 : decode cX6_shift 80 = .ok (.iload 4, 2) := by decide +kernel
theorem dX6_shift_82 : decode cX6_shift 82 = .ok (.iload 5, 2) := by decide +kernel
theorem dX6_shift_84 : decode cX6_shift 84 = .ok (.invokevirtual 258, 3) := by decide +kernel
theorem dX6_shift_87 : decode cX6_shift 87 = .ok (.ifCond .ne 6, 3) := by decide +kernel
theorem dX6_shift_90 : decode cX6_shift 90 = .ok (.bipush (-13), 2) := by decide +kernel
theorem dX6_shift_92 : decode cX6_shift 92 = .ok (.ireturn, 1) := by decide +kernel
theorem dX6_shift_93 : decode cX6_shift 93 = .ok (.aload 6, 2) := by decide +kernel
theorem dX6_shift_95 : decode cX6_shift 95 = .ok (.getfield 240, 3) := by decide +kernel
theorem dX6_shift_98 : decode cX6_shift 98 = .ok (.iload_n 2, 1) := by decide +kernel
theorem dX6_shift_99 : decode cX6_shift 99 = .ok (.aload 7, 2) := by decide +kernel
theorem dX6_shift_101 : decode cX6_shift 101 = .ok (.getfield 240, 3) := by decide +kernel
theorem dX6_shift_104 : decode cX6_shift 104 = .ok (.iload 4, 2) := by decide +kernel
theorem dX6_shift_106 : decode cX6_shift 106 = .ok (.iload 5, 2) := by decide +kernel
theorem dX6_shift_108 : decode cX6_shift 108 = .ok (.invokestatic 262, 3) := by decide +kernel
theorem dX6_shift_111 : decode cX6_shift 111 = .ok (.iload 5, 2) := by decide +kernel
theorem dX6_shift_113 : decode cX6_shift 113 = .ok (.ireturn, 1) := by decide +kernel
theorem dX6_isTape_0 : decode cX6_isTape 0 = .ok (.iload_n 0, 1) := by decide +kernel
theorem dX6_isTape_1 : decode cX6_isTape 1 = .ok (.ifCond .lt 13, 3) := by decide +kernel
theorem dX6_isTape_4 : decode cX6_isTape 4 = .ok (.iload_n 0, 1) := by decide +kernel
theorem dX6_isTape_5 : decode cX6_isTape 5 = .ok (.bipush 6, 2) := by decide +kernel
theorem dX6_isTape_7 : decode cX6_isTape 7 = .ok (.if_icmp .ge 7, 3) := by decide +kernel
theorem dX6_isTape_10 : decode cX6_isTape 10 = .ok (.iconst 1, 1) := by decide +kernel
theorem dX6_isTape_11 : decode cX6_isTape 11 = .ok (.goto 4, 3) := by decide +kernel
theorem dX6_isTape_14 : decode cX6_isTape 14 = .ok (.iconst 0, 1) := by decide +kernel
theorem dX6_isTape_15 : decode cX6_isTape 15 = .ok (.ireturn, 1) := by decide +kernel
theorem dX6_has_0 : decode cX6_has 0 = .ok (.iload_n 0, 1) := by decide +kernel
theorem dX6_has_1 : decode cX6_has 1 = .ok (.iload_n 1, 1) := by decide +kernel
theorem dX6_has_2 : decode cX6_has 2 = .ok (.ishr, 1) := by decide +kernel
theorem dX6_has_3 : decode cX6_has 3 = .ok (.iconst 1, 1) := by decide +kernel
theorem dX6_has_4 : decode cX6_has 4 = .ok (.iand, 1) := by decide +kernel
theorem dX6_has_5 : decode cX6_has 5 = .ok (.ifCond .eq 7, 3) := by decide +kernel
theorem dX6_has_8 : decode cX6_has 8 = .ok (.iconst 1, 1) := by decide +kernel
theorem dX6_has_9 : decode cX6_has 9 = .ok (.goto 4, 3) := by decide +kernel
theorem dX6_has_12 : decode cX6_has 12 = .ok (.iconst 0, 1) := by decide +kernel
theorem dX6_has_13 : decode cX6_has 13 = .ok (.ireturn, 1) := by decide +kernel
theorem dX6_narrowed_0 : decode cX6_narrowed 0 = .ok (.iload_n 0, 1) := by decide +kernel
theorem dX6_narrowed_1 : decode cX6_narrowed 1 = .ok (.tableswitch 61 0 4 #[35, 40, 45, 61, 49], 35) := by decide +kernel
theorem dX6_narrowed_36 : decode cX6_narrowed 36 = .ok (.lload_n 1, 1) := by decide +kernel
theorem dX6_narrowed_37 : decode cX6_narrowed 37 = .ok (.l2i, 1) := by decide +kernel
theorem dX6_narrowed_38 : decode cX6_narrowed 38 = .ok (.i2b, 1) := by decide +kernel
theorem dX6_narrowed_39 : decode cX6_narrowed 39 = .ok (.i2l, 1) := by decide +kernel
theorem dX6_narrowed_40 : decode cX6_narrowed 40 = .ok (.lreturn, 1) := by decide +kernel
theorem dX6_narrowed_41 : decode cX6_narrowed 41 = .ok (.lload_n 1, 1) := by decide +kernel
theorem dX6_narrowed_42 : decode cX6_narrowed 42 = .ok (.l2i, 1) := by decide +kernel
theorem dX6_narrowed_43 : decode cX6_narrowed 43 = .ok (.i2s, 1) := by decide +kernel
theorem dX6_narrowed_44 : decode cX6_narrowed 44 = .ok (.i2l, 1) := by decide +kernel
theorem dX6_narrowed_45 : decode cX6_narrowed 45 = .ok (.lreturn, 1) := by decide +kernel
theorem dX6_narrowed_46 : decode cX6_narrowed 46 = .ok (.lload_n 1, 1) := by decide +kernel
theorem dX6_narrowed_47 : decode cX6_narrowed 47 = .ok (.l2i, 1) := by decide +kernel
theorem dX6_narrowed_48 : decode cX6_narrowed 48 = .ok (.i2l, 1) := by decide +kernel
theorem dX6_narrowed_49 : decode cX6_narrowed 49 = .ok (.lreturn, 1) := by decide +kernel
theorem dX6_narrowed_50 : decode cX6_narrowed 50 = .ok (.lload_n 1, 1) := by decide +kernel
theorem dX6_narrowed_51 : decode cX6_narrowed 51 = .ok (.lconst 0, 1) := by decide +kernel
theorem dX6_narrowed_52 : decode cX6_narrowed 52 = .ok (.lcmp, 1) := by decide +kernel
theorem dX6_narrowed_53 : decode cX6_narrowed 53 = .ok (.ifCond .eq 7, 3) := by decide +kernel
theorem dX6_narrowed_56 : decode cX6_narrowed 56 = .ok (.lconst 1, 1) := by decide +kernel
theorem dX6_narrowed_57 : decode cX6_narrowed 57 = .ok (.goto 4, 3) := by decide +kernel
theorem dX6_narrowed_60 : decode cX6_narrowed 60 = .ok (.lconst 0, 1) := by decide +kernel
theorem dX6_narrowed_61 : decode cX6_narrowed 61 = .ok (.lreturn, 1) := by decide +kernel
theorem dX6_narrowed_62 : decode cX6_narrowed 62 = .ok (.lload_n 1, 1) := by decide +kernel
theorem dX6_narrowed_63 : decode cX6_narrowed 63 = .ok (.lreturn, 1) := by decide +kernel
theorem dX6_addAmount_0 : decode cX6_addAmount 0 = .ok (.iload_n 2, 1) := by decide +kernel
theorem dX6_addAmount_1 : decode cX6_addAmount 1 = .ok (.iconst (-1), 1) := by decide +kernel
theorem dX6_addAmount_2 : decode cX6_addAmount 2 = .ok (.if_icmp .ne 8, 3) := by decide +kernel
theorem dX6_addAmount_5 : decode cX6_addAmount 5 = .ok (.aload_n 1, 1) := by decide +kernel
theorem dX6_addAmount_6 : decode cX6_addAmount 6 = .ok (.invokevirtual 200, 3) := by decide +kernel
theorem dX6_addAmount_9 : decode cX6_addAmount 9 = .ok (.ireturn, 1) := by decide +kernel
theorem dX6_addAmount_10 : decode cX6_addAmount 10 = .ok (.aload_n 0, 1) := by decide +kernel
theorem dX6_addAmount_11 : decode cX6_addAmount 11 = .ok (.getfield 12, 3) := by decide +kernel
theorem dX6_addAmount_14 : decode cX6_addAmount 14 = .ok (.getfield 27, 3) := by decide +kernel
theorem dX6_addAmount_17 : decode cX6_addAmount 17 = .ok (.iload_n 2, 1) := by decide +kernel
theorem dX6_addAmount_18 : decode cX6_addAmount 18 = .ok (.invokevirtual 76, 3) := by decide +kernel
theorem dX6_addAmount_21 : decode cX6_addAmount 21 = .ok (.ifCond .ne 5, 3) := by decide +kernel
theorem dX6_addAmount_24 : decode cX6_addAmount 24 = .ok (.iconst (-1), 1) := by decide +kernel
theorem dX6_addAmount_25 : decode cX6_addAmount 25 = .ok (.ireturn, 1) := by decide +kernel
theorem dX6_addAmount_26 : decode cX6_addAmount 26 = .ok (.iload_n 3, 1) := by decide +kernel
