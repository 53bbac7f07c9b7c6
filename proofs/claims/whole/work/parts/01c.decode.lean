theorem dX0_causeBehind_37 : decode cX0_causeBehind 37 = .ok (.iload_n 1, 1) := by decide +kernel
theorem dX0_causeBehind_38 : decode cX0_causeBehind 38 = .ok (.iload_n 2, 1) := by decide +kernel
theorem dX0_causeBehind_39 : decode cX0_causeBehind 39 = .ok (.invokevirtual 178, 3) := by decide +kernel
theorem dX0_causeBehind_42 : decode cX0_causeBehind 42 = .ok (.istore_n 3, 1) := by decide +kernel
theorem dX0_causeBehind_43 : decode cX0_causeBehind 43 = .ok (.aload_n 0, 1) := by decide +kernel
theorem dX0_causeBehind_44 : decode cX0_causeBehind 44 = .ok (.getfield 9, 3) := by decide +kernel
theorem dX0_causeBehind_47 : decode cX0_causeBehind 47 = .ok (.iload_n 3, 1) := by decide +kernel
theorem dX0_causeBehind_48 : decode cX0_causeBehind 48 = .ok (.invokevirtual 169, 3) := by decide +kernel
theorem dX0_causeBehind_51 : decode cX0_causeBehind 51 = .ok (.ifCond .eq 12, 3) := by decide +kernel
theorem dX0_causeBehind_54 : decode cX0_causeBehind 54 = .ok (.aload_n 0, 1) := by decide +kernel
theorem dX0_causeBehind_55 : decode cX0_causeBehind 55 = .ok (.getfield 31, 3) := by decide +kernel
theorem dX0_causeBehind_58 : decode cX0_causeBehind 58 = .ok (.iload_n 3, 1) := by decide +kernel
theorem dX0_causeBehind_59 : decode cX0_causeBehind 59 = .ok (.iaload, 1) := by decide +kernel
theorem dX0_causeBehind_60 : decode cX0_causeBehind 60 = .ok (.goto 4, 3) := by decide +kernel
theorem dX0_causeBehind_63 : decode cX0_causeBehind 63 = .ok (.iconst 0, 1) := by decide +kernel
theorem dX0_causeBehind_64 : decode cX0_causeBehind 64 = .ok (.ireturn, 1) := by decide +kernel
theorem dX0_causeBehind_65 : decode cX0_causeBehind 65 = .ok (.aload_n 0, 1) := by decide +kernel
theorem dX0_causeBehind_66 : decode cX0_causeBehind 66 = .ok (.getfield 9, 3) := by decide +kernel
theorem dX0_causeBehind_69 : decode cX0_causeBehind 69 = .ok (.getfield 141, 3) := by decide +kernel
theorem dX0_causeBehind_72 : decode cX0_causeBehind 72 = .ok (.iload_n 1, 1) := by decide +kernel
theorem dX0_causeBehind_73 : decode cX0_causeBehind 73 = .ok (.iaload, 1) := by decide +kernel
theorem dX0_causeBehind_74 : decode cX0_causeBehind 74 = .ok (.ireturn, 1) := by decide +kernel
theorem dX0_causeBehind_75 : decode cX0_causeBehind 75 = .ok (.aload_n 0, 1) := by decide +kernel
theorem dX0_causeBehind_76 : decode cX0_causeBehind 76 = .ok (.getfield 49, 3) := by decide +kernel
theorem dX0_causeBehind_79 : decode cX0_causeBehind 79 = .ok (.aload_n 0, 1) := by decide +kernel
theorem dX0_causeBehind_80 : decode cX0_causeBehind 80 = .ok (.getfield 25, 3) := by decide +kernel
theorem dX0_causeBehind_83 : decode cX0_causeBehind 83 = .ok (.iload_n 1, 1) := by decide +kernel
theorem dX0_causeBehind_84 : decode cX0_causeBehind 84 = .ok (.iaload, 1) := by decide +kernel
theorem dX0_causeBehind_85 : decode cX0_causeBehind 85 = .ok (.iaload, 1) := by decide +kernel
theorem dX0_causeBehind_86 : decode cX0_causeBehind 86 = .ok (.ireturn, 1) := by decide +kernel
theorem dX0_causeBehind_87 : decode cX0_causeBehind 87 = .ok (.bipush (-5), 2) := by decide +kernel
theorem dX0_causeBehind_89 : decode cX0_causeBehind 89 = .ok (.ireturn, 1) := by decide +kernel
theorem dX0_lastPayerAhead_0 : decode cX0_lastPayerAhead 0 = .ok (.iload_n 1, 1) := by decide +kernel
theorem dX0_lastPayerAhead_1 : decode cX0_lastPayerAhead 1 = .ok (.iconst 1, 1) := by decide +kernel
theorem dX0_lastPayerAhead_2 : decode cX0_lastPayerAhead 2 = .ok (.isub, 1) := by decide +kernel
theorem dX0_lastPayerAhead_3 : decode cX0_lastPayerAhead 3 = .ok (.istore_n 2, 1) := by decide +kernel
theorem dX0_lastPayerAhead_4 : decode cX0_lastPayerAhead 4 = .ok (.iload_n 2, 1) := by decide +kernel
theorem dX0_lastPayerAhead_5 : decode cX0_lastPayerAhead 5 = .ok (.ifCond .lt 53, 3) := by decide +kernel
theorem dX0_lastPayerAhead_8 : decode cX0_lastPayerAhead 8 = .ok (.aload_n 0, 1) := by decide +kernel
theorem dX0_lastPayerAhead_9 : decode cX0_lastPayerAhead 9 = .ok (.getfield 9, 3) := by decide +kernel
theorem dX0_lastPayerAhead_12 : decode cX0_lastPayerAhead 12 = .ok (.getfield 77, 3) := by decide +kernel
theorem dX0_lastPayerAhead_15 : decode cX0_lastPayerAhead 15 = .ok (.iconst 1, 1) := by decide +kernel
theorem dX0_lastPayerAhead_16 : decode cX0_lastPayerAhead 16 = .ok (.isub, 1) := by decide +kernel
theorem dX0_lastPayerAhead_17 : decode cX0_lastPayerAhead 17 = .ok (.istore_n 3, 1) := by decide +kernel
theorem dX0_lastPayerAhead_18 : decode cX0_lastPayerAhead 18 = .ok (.iload_n 3, 1) := by decide +kernel
theorem dX0_lastPayerAhead_19 : decode cX0_lastPayerAhead 19 = .ok (.ifCond .lt 33, 3) := by decide +kernel
theorem dX0_lastPayerAhead_22 : decode cX0_lastPayerAhead 22 = .ok (.aload_n 0, 1) := by decide +kernel
theorem dX0_lastPayerAhead_23 : decode cX0_lastPayerAhead 23 = .ok (.getfield 40, 3) := by decide +kernel
theorem dX0_lastPayerAhead_26 : decode cX0_lastPayerAhead 26 = .ok (.iload_n 2, 1) := by decide +kernel
theorem dX0_lastPayerAhead_27 : decode cX0_lastPayerAhead 27 = .ok (.iaload, 1) := by decide +kernel
theorem dX0_lastPayerAhead_28 : decode cX0_lastPayerAhead 28 = .ok (.iload_n 3, 1) := by decide +kernel
theorem dX0_lastPayerAhead_29 : decode cX0_lastPayerAhead 29 = .ok (.invokestatic 83, 3) := by decide +kernel
theorem dX0_lastPayerAhead_32 : decode cX0_lastPayerAhead 32 = .ok (.ifCond .eq 14, 3) := by decide +kernel
theorem dX0_lastPayerAhead_35 : decode cX0_lastPayerAhead 35 = .ok (.aload_n 0, 1) := by decide +kernel
theorem dX0_lastPayerAhead_36 : decode cX0_lastPayerAhead 36 = .ok (.getfield 31, 3) := by decide +kernel
theorem dX0_lastPayerAhead_39 : decode cX0_lastPayerAhead 39 = .ok (.iload_n 3, 1) := by decide +kernel
theorem dX0_lastPayerAhead_40 : decode cX0_lastPayerAhead 40 = .ok (.iaload, 1) := by decide +kernel
theorem dX0_lastPayerAhead_41 : decode cX0_lastPayerAhead 41 = .ok (.ifCond .le 5, 3) := by decide +kernel
theorem dX0_lastPayerAhead_44 : decode cX0_lastPayerAhead 44 = .ok (.iload_n 3, 1) := by decide +kernel
theorem dX0_lastPayerAhead_45 : decode cX0_lastPayerAhead 45 = .ok (.ireturn, 1) := by decide +kernel
theorem dX0_lastPayerAhead_46 : decode cX0_lastPayerAhead 46 = .ok (.iinc 3 (-1), 3) := by decide +kernel
theorem dX0_lastPayerAhead_49 : decode cX0_lastPayerAhead 49 = .ok (.goto (-31), 3) := by decide +kernel
theorem dX0_lastPayerAhead_52 : decode cX0_lastPayerAhead 52 = .ok (.iinc 2 (-1), 3) := by decide +kernel
theorem dX0_lastPayerAhead_55 : decode cX0_lastPayerAhead 55 = .ok (.goto (-51), 3) := by decide +kernel
theorem dX0_lastPayerAhead_58 : decode cX0_lastPayerAhead 58 = .ok (.bipush 99, 2) := by decide +kernel
theorem dX0_lastPayerAhead_60 : decode cX0_lastPayerAhead 60 = .ok (.ireturn, 1) := by decide +kernel
theorem dX1_init_0 : decode cX1_init 0 = .ok (.aload_n 0, 1) := by decide +kernel
theorem dX1_init_1 : decode cX1_init 1 = .ok (.invokespecial 3, 3) := by decide +kernel
theorem dX1_init_4 : decode cX1_init 4 = .ok (.aload_n 0, 1) := by decide +kernel
theorem dX1_init_5 : decode cX1_init 5 = .ok (.iload_n 1, 1) := by decide +kernel
theorem dX1_init_6 : decode cX1_init 6 = .ok (.bipush 8, 2) := by decide +kernel
theorem dX1_init_8 : decode cX1_init 8 = .ok (.invokestatic 9, 3) := by decide +kernel
theorem dX1_init_11 : decode cX1_init 11 = .ok (.putfield 15, 3) := by decide +kernel
theorem dX1_init_14 : decode cX1_init 14 = .ok (.aload_n 0, 1) := by decide +kernel
theorem dX1_init_15 : decode cX1_init 15 = .ok (.bipush 8, 2) := by decide +kernel
theorem dX1_init_17 : decode cX1_init 17 = .ok (.newarray .int, 2) := by decide +kernel
theorem dX1_init_19 : decode cX1_init 19 = .ok (.putfield 21, 3) := by decide +kernel
theorem dX1_init_22 : decode cX1_init 22 = .ok (.aload_n 0, 1) := by decide +kernel
theorem dX1_init_23 : decode cX1_init 23 = .ok (.bipush 8, 2) := by decide +kernel
theorem dX1_init_25 : decode cX1_init 25 = .ok (.newarray .int, 2) := by decide +kernel
theorem dX1_init_27 : decode cX1_init 27 = .ok (.putfield 25, 3) := by decide +kernel
theorem dX1_init_30 : decode cX1_init 30 = .ok (.return_, 1) := by decide +kernel
theorem dX1_add_0 : decode cX1_add 0 = .ok (.aload_n 0, 1) := by decide +kernel
theorem dX1_add_1 : decode cX1_add 1 = .ok (.getfield 28, 3) := by decide +kernel
theorem dX1_add_4 : decode cX1_add 4 = .ok (.aload_n 0, 1) := by decide +kernel
theorem dX1_add_5 : decode cX1_add 5 = .ok (.getfield 15, 3) := by decide +kernel
theorem dX1_add_8 : decode cX1_add 8 = .ok (.if_icmp .lt 6, 3) := by decide +kernel
theorem dX1_add_11 : decode cX1_add 11 = .ok (.bipush (-4), 2) := by decide +kernel
theorem dX1_add_13 : decode cX1_add 13 = .ok (.ireturn, 1) := by decide +kernel
theorem dX1_add_14 : decode cX1_add 14 = .ok (.aload_n 0, 1) := by decide +kernel
theorem dX1_add_15 : decode cX1_add 15 = .ok (.getfield 21, 3) := by decide +kernel
theorem dX1_add_18 : decode cX1_add 18 = .ok (.aload_n 0, 1) := by decide +kernel
theorem dX1_add_19 : decode cX1_add 19 = .ok (.getfield 28, 3) := by decide +kernel
theorem dX1_add_22 : decode cX1_add 22 = .ok (.iload_n 1, 1) := by decide +kernel
theorem dX1_add_23 : decode cX1_add 23 = .ok (.iastore, 1) := by decide +kernel
theorem dX1_add_24 : decode cX1_add 24 = .ok (.aload_n 0, 1) := by decide +kernel
theorem dX1_add_25 : decode cX1_add 25 = .ok (.getfield 25, 3) := by decide +kernel
theorem dX1_add_28 : decode cX1_add 28 = .ok (.aload_n 0, 1) := by decide +kernel
theorem dX1_add_29 : decode cX1_add 29 = .ok (.getfield 28, 3) := by decide +kernel
theorem dX1_add_32 : decode cX1_add 32 = .ok (.iload_n 2, 1) := by decide +kernel
theorem dX1_add_33 : decode cX1_add 33 = .ok (.iastore, 1) := by decide +kernel
theorem dX1_add_34 : decode cX1_add 34 = .ok (.aload_n 0, 1) := by decide +kernel
theorem dX1_add_35 : decode cX1_add 35 = .ok (.dup, 1) := by decide +kernel
theorem dX1_add_36 : decode cX1_add 36 = .ok (.getfield 28, 3) := by decide +kernel
theorem dX1_add_39 : decode cX1_add 39 = .ok (.iconst 1, 1) := by decide +kernel
theorem dX1_add_40 : decode cX1_add 40 = .ok (.iadd, 1) := by decide +kernel
theorem dX1_add_41 : decode cX1_add 41 = .ok (.putfield 28, 3) := by decide +kernel
theorem dX1_add_44 : decode cX1_add 44 = .ok (.aload_n 0, 1) := by decide +kernel
theorem dX1_add_45 : decode cX1_add 45 = .ok (.getfield 28, 3) := by decide +kernel
theorem dX1_add_48 : decode cX1_add 48 = .ok (.ireturn, 1) := by decide +kernel
theorem dX1_clear_0 : decode cX1_clear 0 = .ok (.aload_n 0, 1) := by decide +kernel
theorem dX1_clear_1 : decode cX1_clear 1 = .ok (.iconst 0, 1) := by decide +kernel
theorem dX1_clear_2 : decode cX1_clear 2 = .ok (.putfield 28, 3) := by decide +kernel
theorem dX1_clear_5 : decode cX1_clear 5 = .ok (.iconst 0, 1) := by decide +kernel
theorem dX1_clear_6 : decode cX1_clear 6 = .ok (.ireturn, 1) := by decide +kernel
theorem dX1_copyFrom_0 : decode cX1_copyFrom 0 = .ok (.aload_n 1, 1) := by decide +kernel
theorem dX1_copyFrom_1 : decode cX1_copyFrom 1 = .ok (.getfield 21, 3) := by decide +kernel
theorem dX1_copyFrom_4 : decode cX1_copyFrom 4 = .ok (.iconst 0, 1) := by decide +kernel
theorem dX1_copyFrom_5 : decode cX1_copyFrom 5 = .ok (.aload_n 0, 1) := by decide +kernel
theorem dX1_copyFrom_6 : decode cX1_copyFrom 6 = .ok (.getfield 21, 3) := by decide +kernel
theorem dX1_copyFrom_9 : decode cX1_copyFrom 9 = .ok (.iconst 0, 1) := by decide +kernel
theorem dX1_copyFrom_10 : decode cX1_copyFrom 10 = .ok (.bipush 8, 2) := by decide +kernel
theorem dX1_copyFrom_12 : decode cX1_copyFrom 12 = .ok (.invokestatic 31, 3) := by decide +kernel
theorem dX1_copyFrom_15 : decode cX1_copyFrom 15 = .ok (.aload_n 1, 1) := by decide +kernel
theorem dX1_copyFrom_16 : decode cX1_copyFrom 16 = .ok (.getfield 25, 3) := by decide +kernel
theorem dX1_copyFrom_19 : decode cX1_copyFrom 19 = .ok (.iconst 0, 1) := by decide +kernel
theorem dX1_copyFrom_20 : decode cX1_copyFrom 20 = .ok (.aload_n 0, 1) := by decide +kernel
theorem dX1_copyFrom_21 : decode cX1_copyFrom 21 = .ok (.getfield 25, 3) := by decide +kernel
theorem dX1_copyFrom_24 : decode cX1_copyFrom 24 = .ok (.iconst 0, 1) := by decide +kernel
theorem dX1_copyFrom_25 : decode cX1_copyFrom 25 = .ok (.bipush 8, 2) := by decide +kernel
theorem dX1_copyFrom_27 : decode cX1_copyFrom 27 = .ok (.invokestatic 31, 3) := by decide +kernel
theorem dX1_copyFrom_30 : decode cX1_copyFrom 30 = .ok (.aload_n 0, 1) := by decide +kernel
theorem dX1_copyFrom_31 : decode cX1_copyFrom 31 = .ok (.aload_n 1, 1) := by decide +kernel
theorem dX1_copyFrom_32 : decode cX1_copyFrom 32 = .ok (.getfield 28, 3) := by decide +kernel
theorem dX1_copyFrom_35 : decode cX1_copyFrom 35 = .ok (.putfield 28, 3) := by decide +kernel
theorem dX1_copyFrom_38 : decode cX1_copyFrom 38 = .ok (.return_, 1) := by decide +kernel
theorem dX2_init_0 : decode cX2_init 0 = .ok (.aload_n 0, 1) := by decide +kernel
theorem dX2_init_1 : decode cX2_init 1 = .ok (.invokespecial 3, 3) := by decide +kernel
theorem dX2_init_4 : decode cX2_init 4 = .ok (.aload_n 0, 1) := by decide +kernel
theorem dX2_init_5 : decode cX2_init 5 = .ok (.bipush 100, 2) := by decide +kernel
theorem dX2_init_7 : decode cX2_init 7 = .ok (.newarray .byte, 2) := by decide +kernel
theorem dX2_init_9 : decode cX2_init 9 = .ok (.putfield 9, 3) := by decide +kernel
theorem dX2_init_12 : decode cX2_init 12 = .ok (.aload_n 0, 1) := by decide +kernel
theorem dX2_init_13 : decode cX2_init 13 = .ok (.bipush 12, 2) := by decide +kernel
theorem dX2_init_15 : decode cX2_init 15 = .ok (.newarray .int, 2) := by decide +kernel
theorem dX2_init_17 : decode cX2_init 17 = .ok (.putfield 15, 3) := by decide +kernel
theorem dX2_init_20 : decode cX2_init 20 = .ok (.aload_n 0, 1) := by decide +kernel
theorem dX2_init_21 : decode cX2_init 21 = .ok (.bipush 36, 2) := by decide +kernel
theorem dX2_init_23 : decode cX2_init 23 = .ok (.newarray .int, 2) := by decide +kernel
theorem dX2_init_25 : decode cX2_init 25 = .ok (.putfield 19, 3) := by decide +kernel
theorem dX2_init_28 : decode cX2_init 28 = .ok (.return_, 1) := by decide +kernel
theorem dX2_append_0 : decode cX2_append 0 = .ok (.iload_n 1, 1) := by decide +kernel
theorem dX2_append_1 : decode cX2_append 1 = .ok (.ifCond .lt 9, 3) := by decide +kernel
theorem dX2_append_4 : decode cX2_append 4 = .ok (.iload_n 1, 1) := by decide +kernel
theorem dX2_append_5 : decode cX2_append 5 = .ok (.bipush 127, 2) := by decide +kernel
theorem dX2_append_7 : decode cX2_append 7 = .ok (.if_icmp .le 6, 3) := by decide +kernel
theorem dX2_append_10 : decode cX2_append 10 = .ok (.bipush (-2), 2) := by decide +kernel
theorem dX2_append_12 : decode cX2_append 12 = .ok (.ireturn, 1) := by decide +kernel
theorem dX2_append_13 : decode cX2_append 13 = .ok (.aload_n 0, 1) := by decide +kernel
theorem dX2_append_14 : decode cX2_append 14 = .ok (.getfield 22, 3) := by decide +kernel
theorem dX2_append_17 : decode cX2_append 17 = .ok (.bipush 100, 2) := by decide +kernel
theorem dX2_append_19 : decode cX2_append 19 = .ok (.if_icmp .lt 6, 3) := by decide +kernel
theorem dX2_append_22 : decode cX2_append 22 = .ok (.bipush (-4), 2) := by decide +kernel
theorem dX2_append_24 : decode cX2_append 24 = .ok (.ireturn, 1) := by decide +kernel
theorem dX2_append_25 : decode cX2_append 25 = .ok (.aload_n 0, 1) := by decide +kernel
theorem dX2_append_26 : decode cX2_append 26 = .ok (.getfield 9, 3) := by decide +kernel
theorem dX2_append_29 : decode cX2_append 29 = .ok (.aload_n 0, 1) := by decide +kernel
theorem dX2_append_30 : decode cX2_append 30 = .ok (.getfield 22, 3) := by decide +kernel
theorem dX2_append_33 : decode cX2_append 33 = .ok (.iload_n 1, 1) := by decide +kernel
theorem dX2_append_34 : decode cX2_append 34 = .ok (.i2b, 1) := by decide +kernel
theorem dX2_append_35 : decode cX2_append 35 = .ok (.bastore, 1) := by decide +kernel
theorem dX2_append_36 : decode cX2_append 36 = .ok (.aload_n 0, 1) := by decide +kernel
theorem dX2_append_37 : decode cX2_append 37 = .ok (.dup, 1) := by decide +kernel
theorem dX2_append_38 : decode cX2_append 38 = .ok (.getfield 22, 3) := by decide +kernel
theorem dX2_append_41 : decode cX2_append 41 = .ok (.iconst 1, 1) := by decide +kernel
theorem dX2_append_42 : decode cX2_append 42 = .ok (.iadd, 1) := by decide +kernel
theorem dX2_append_43 : decode cX2_append 43 = .ok (.putfield 22, 3) := by decide +kernel
theorem dX2_append_46 : decode cX2_append 46 = .ok (.aload_n 0, 1) := by decide +kernel
theorem dX2_append_47 : decode cX2_append 47 = .ok (.getfield 22, 3) := by decide +kernel
theorem dX2_append_50 : decode cX2_append 50 = .ok (.ireturn, 1) := by decide +kernel
theorem dX2_clear_0 : decode cX2_clear 0 = .ok (.aload_n 0, 1) := by decide +kernel
theorem dX2_clear_1 : decode cX2_clear 1 = .ok (.iconst 0, 1) := by decide +kernel
theorem dX2_clear_2 : decode cX2_clear 2 = .ok (.putfield 22, 3) := by decide +kernel
theorem dX2_clear_5 : decode cX2_clear 5 = .ok (.return_, 1) := by decide +kernel
theorem dX2_parse_0 : decode cX2_parse 0 = .ok (.aload_n 0, 1) := by decide +kernel
theorem dX2_parse_1 : decode cX2_parse 1 = .ok (.iconst 0, 1) := by decide +kernel
theorem dX2_parse_2 : decode cX2_parse 2 = .ok (.putfield 26, 3) := by decide +kernel
theorem dX2_parse_5 : decode cX2_parse 5 = .ok (.aload_n 0, 1) := by decide +kernel
theorem dX2_parse_6 : decode cX2_parse 6 = .ok (.iconst 0, 1) := by decide +kernel
theorem dX2_parse_7 : decode cX2_parse 7 = .ok (.putfield 29, 3) := by decide +kernel
theorem dX2_parse_10 : decode cX2_parse 10 = .ok (.iconst 0, 1) := by decide +kernel
theorem dX2_parse_11 : decode cX2_parse 11 = .ok (.istore_n 1, 1) := by decide +kernel
theorem dX2_parse_12 : decode cX2_parse 12 = .ok (.iload_n 1, 1) := by decide +kernel
theorem dX2_parse_13 : decode cX2_parse 13 = .ok (.bipush 12, 2) := by decide +kernel
theorem dX2_parse_15 : decode cX2_parse 15 = .ok (.if_icmp .ge 69, 3) := by decide +kernel
theorem dX2_parse_18 : decode cX2_parse 18 = .ok (.aload_n 0, 1) := by decide +kernel
theorem dX2_parse_19 : decode cX2_parse 19 = .ok (.iload_n 1, 1) := by decide +kernel
theorem dX2_parse_20 : decode cX2_parse 20 = .ok (.invokevirtual 32, 3) := by decide +kernel
theorem dX2_parse_23 : decode cX2_parse 23 = .ok (.ifCond .ne 8, 3) := by decide +kernel
theorem dX2_parse_26 : decode cX2_parse 26 = .ok (.aload_n 0, 1) := by decide +kernel
theorem dX2_parse_27 : decode cX2_parse 27 = .ok (.getfield 26, 3) := by decide +kernel
theorem dX2_parse_30 : decode cX2_parse 30 = .ok (.ireturn, 1) := by decide +kernel
theorem dX2_parse_31 : decode cX2_parse 31 = .ok (.aload_n 0, 1) := by decide +kernel
theorem dX2_parse_32 : decode cX2_parse 32 = .ok (.dup, 1) := by decide +kernel
theorem dX2_parse_33 : decode cX2_parse 33 = .ok (.getfield 29, 3) := by decide +kernel
theorem dX2_parse_36 : decode cX2_parse 36 = .ok (.iconst 1, 1) := by decide +kernel
theorem dX2_parse_37 : decode cX2_parse 37 = .ok (.iadd, 1) := by decide +kernel
theorem dX2_parse_38 : decode cX2_parse 38 = .ok (.putfield 29, 3) := by decide +kernel
theorem dX2_parse_41 : decode cX2_parse 41 = .ok (.aload_n 0, 1) := by decide +kernel
theorem dX2_parse_42 : decode cX2_parse 42 = .ok (.getfield 26, 3) := by decide +kernel
theorem dX2_parse_45 : decode cX2_parse 45 = .ok (.aload_n 0, 1) := by decide +kernel
theorem dX2_parse_46 : decode cX2_parse 46 = .ok (.getfield 22, 3) := by decide +kernel
theorem dX2_parse_49 : decode cX2_parse 49 = .ok (.if_icmp .ne 6, 3) := by decide +kernel
theorem dX2_parse_52 : decode cX2_parse 52 = .ok (.bipush (-5), 2) := by decide +kernel
theorem dX2_parse_54 : decode cX2_parse 54 = .ok (.ireturn, 1) := by decide +kernel
theorem dX2_parse_55 : decode cX2_parse 55 = .ok (.aload_n 0, 1) := by decide +kernel
theorem dX2_parse_56 : decode cX2_parse 56 = .ok (.getfield 29, 3) := by decide +kernel
theorem dX2_parse_59 : decode cX2_parse 59 = .ok (.bipush 12, 2) := by decide +kernel
theorem dX2_parse_61 : decode cX2_parse 61 = .ok (.if_icmp .eq 12, 3) := by decide +kernel
theorem dX2_parse_64 : decode cX2_parse 64 = .ok (.aload_n 0, 1) := by decide +kernel
theorem dX2_parse_65 : decode cX2_parse 65 = .ok (.bipush 59, 2) := by decide +kernel
theorem dX2_parse_67 : decode cX2_parse 67 = .ok (.invokevirtual 36, 3) := by decide +kernel
theorem dX2_parse_70 : decode cX2_parse 70 = .ok (.ifCond .ne 8, 3) := by decide +kernel
theorem dX2_parse_73 : decode cX2_parse 73 = .ok (.aload_n 0, 1) := by decide +kernel
theorem dX2_parse_74 : decode cX2_parse 74 = .ok (.getfield 26, 3) := by decide +kernel
theorem dX2_parse_77 : decode cX2_parse 77 = .ok (.ireturn, 1) := by decide +kernel
theorem dX2_parse_78 : decode cX2_parse 78 = .ok (.iinc 1 1, 3) := by decide +kernel
theorem dX2_parse_81 : decode cX2_parse 81 = .ok (.goto (-69), 3) := by decide +kernel
theorem dX2_parse_84 : decode cX2_parse 84 = .ok (.aload_n 0, 1) := by decide +kernel
theorem dX2_parse_85 : decode cX2_parse 85 = .ok (.getfield 26, 3) := by decide +kernel
theorem dX2_parse_88 : decode cX2_parse 88 = .ok (.ireturn, 1) := by decide +kernel
theorem dX2_takeClause_0 : decode cX2_takeClause 0 = .ok (.aload_n 0, 1) := by decide +kernel
theorem dX2_takeClause_1 : decode cX2_takeClause 1 = .ok (.getfield 26, 3) := by decide +kernel
theorem dX2_takeClause_4 : decode cX2_takeClause 4 = .ok (.aload_n 0, 1) := by decide +kernel
theorem dX2_takeClause_5 : decode cX2_takeClause 5 = .ok (.getfield 22, 3) := by decide +kernel
theorem dX2_takeClause_8 : decode cX2_takeClause 8 = .ok (.if_icmp .ge 15, 3) := by decide +kernel
theorem dX2_takeClause_11 : decode cX2_takeClause 11 = .ok (.aload_n 0, 1) := by decide +kernel
theorem dX2_takeClause_12 : decode cX2_takeClause 12 = .ok (.getfield 9, 3) := by decide +kernel
theorem dX2_takeClause_15 : decode cX2_takeClause 15 = .ok (.aload_n 0, 1) := by decide +kernel
theorem dX2_takeClause_16 : decode cX2_takeClause 16 = .ok (.getfield 26, 3) := by decide +kernel
theorem dX2_takeClause_19 : decode cX2_takeClause 19 = .ok (.baload, 1) := by decide +kernel
theorem dX2_takeClause_20 : decode cX2_takeClause 20 = .ok (.goto 4, 3) := by decide +kernel
theorem dX2_takeClause_23 : decode cX2_takeClause 23 = .ok (.iconst 0, 1) := by decide +kernel
theorem dX2_takeClause_24 : decode cX2_takeClause 24 = .ok (.istore_n 2, 1) := by decide +kernel
theorem dX2_takeClause_25 : decode cX2_takeClause 25 = .ok (.iload_n 1, 1) := by decide +kernel
theorem dX2_takeClause_26 : decode cX2_takeClause 26 = .ok (.iconst 3, 1) := by decide +kernel
theorem dX2_takeClause_27 : decode cX2_takeClause 27 = .ok (.imul, 1) := by decide +kernel
theorem dX2_takeClause_28 : decode cX2_takeClause 28 = .ok (.istore_n 3, 1) := by decide +kernel
theorem dX2_takeClause_29 : decode cX2_takeClause 29 = .ok (.aload_n 0, 1) := by decide +kernel
theorem dX2_takeClause_30 : decode cX2_takeClause 30 = .ok (.getfield 15, 3) := by decide +kernel
theorem dX2_takeClause_33 : decode cX2_takeClause 33 = .ok (.iload_n 1, 1) := by decide +kernel
theorem dX2_takeClause_34 : decode cX2_takeClause 34 = .ok (.iload_n 2, 1) := by decide +kernel
theorem dX2_takeClause_35 : decode cX2_takeClause 35 = .ok (.iastore, 1) := by decide +kernel
theorem dX2_takeClause_36 : decode cX2_takeClause 36 = .ok (.iload_n 2, 1) := by decide +kernel
theorem dX2_takeClause_37 : decode cX2_takeClause 37 = .ok (.lookupswitch 196 #[(99, 51), (108, 179), (110, 107), (113, 143), (114, 107)], 51) := by decide +kernel
theorem dX2_takeClause_88 : decode cX2_takeClause 88 = .ok (.aload_n 0, 1) := by decide +kernel
theorem dX2_takeClause_89 : decode cX2_takeClause 89 = .ok (.dup, 1) := by decide +kernel
theorem dX2_takeClause_90 : decode cX2_takeClause 90 = .ok (.getfield 26, 3) := by decide +kernel
theorem dX2_takeClause_93 : decode cX2_takeClause 93 = .ok (.iconst 1, 1) := by decide +kernel
theorem dX2_takeClause_94 : decode cX2_takeClause 94 = .ok (.iadd, 1) := by decide +kernel
theorem dX2_takeClause_95 : decode cX2_takeClause 95 = .ok (.putfield 26, 3) := by decide +kernel
theorem dX2_takeClause_98 : decode cX2_takeClause 98 = .ok (.aload_n 0, 1) := by decide +kernel
theorem dX2_takeClause_99 : decode cX2_takeClause 99 = .ok (.iload_n 3, 1) := by decide +kernel
theorem dX2_takeClause_100 : decode cX2_takeClause 100 = .ok (.iconst 1, 1) := by decide +kernel
theorem dX2_takeClause_101 : decode cX2_takeClause 101 = .ok (.invokevirtual 39, 3) := by decide +kernel
theorem dX2_takeClause_104 : decode cX2_takeClause 104 = .ok (.ifCond .eq 38, 3) := by decide +kernel
theorem dX2_takeClause_107 : decode cX2_takeClause 107 = .ok (.aload_n 0, 1) := by decide +kernel
theorem dX2_takeClause_108 : decode cX2_takeClause 108 = .ok (.iload_n 3, 1) := by decide +kernel
theorem dX2_takeClause_109 : decode cX2_takeClause 109 = .ok (.iconst 1, 1) := by decide +kernel
theorem dX2_takeClause_110 : decode cX2_takeClause 110 = .ok (.iadd, 1) := by decide +kernel
theorem dX2_takeClause_111 : decode cX2_takeClause 111 = .ok (.iconst 2, 1) := by decide +kernel
theorem dX2_takeClause_112 : decode cX2_takeClause 112 = .ok (.invokevirtual 39, 3) := by decide +kernel
theorem dX2_takeClause_115 : decode cX2_takeClause 115 = .ok (.ifCond .eq 27, 3) := by decide +kernel
theorem dX2_takeClause_118 : decode cX2_takeClause 118 = .ok (.aload_n 0, 1) := by decide +kernel
theorem dX2_takeClause_119 : decode cX2_takeClause 119 = .ok (.bipush 44, 2) := by decide +kernel
theorem dX2_takeClause_121 : decode cX2_takeClause 121 = .ok (.invokevirtual 36, 3) := by decide +kernel
theorem dX2_takeClause_124 : decode cX2_takeClause 124 = .ok (.ifCond .eq 18, 3) := by decide +kernel
theorem dX2_takeClause_127 : decode cX2_takeClause 127 = .ok (.aload_n 0, 1) := by decide +kernel
theorem dX2_takeClause_128 : decode cX2_takeClause 128 = .ok (.iload_n 3, 1) := by decide +kernel
theorem dX2_takeClause_129 : decode cX2_takeClause 129 = .ok (.iconst 2, 1) := by decide +kernel
theorem dX2_takeClause_130 : decode cX2_takeClause 130 = .ok (.iadd, 1) := by decide +kernel
theorem dX2_takeClause_131 : decode cX2_takeClause 131 = .ok (.iconst 2, 1) := by decide +kernel
theorem dX2_takeClause_132 : decode cX2_takeClause 132 = .ok (.invokevirtual 39, 3) := by decide +kernel
theorem dX2_takeClause_135 : decode cX2_takeClause 135 = .ok (.ifCond .eq 7, 3) := by decide +kernel
theorem dX2_takeClause_138 : decode cX2_takeClause 138 = .ok (.iconst 1, 1) := by decide +kernel
theorem dX2_takeClause_139 : decode cX2_takeClause 139 = .ok (.goto 4, 3) := by decide +kernel
theorem dX2_takeClause_142 : decode cX2_takeClause 142 = .ok (.iconst 0, 1) := by decide +kernel
theorem dX2_takeClause_143 : decode cX2_takeClause 143 = .ok (.ireturn, 1) := by decide +kernel
theorem dX2_takeClause_144 : decode cX2_takeClause 144 = .ok (.aload_n 0, 1) := by decide +kernel
theorem dX2_takeClause_145 : decode cX2_takeClause 145 = .ok (.dup, 1) := by decide +kernel
theorem dX2_takeClause_146 : decode cX2_takeClause 146 = .ok (.getfield 26, 3) := by decide +kernel
theorem dX2_takeClause_149 : decode cX2_takeClause 149 = .ok (.iconst 1, 1) := by decide +kernel
theorem dX2_takeClause_150 : decode cX2_takeClause 150 = .ok (.iadd, 1) := by decide +kernel
theorem dX2_takeClause_151 : decode cX2_takeClause 151 = .ok (.putfield 26, 3) := by decide +kernel
theorem dX2_takeClause_154 : decode cX2_takeClause 154 = .ok (.aload_n 0, 1) := by decide +kernel
theorem dX2_takeClause_155 : decode cX2_takeClause 155 = .ok (.iload_n 3, 1) := by decide +kernel
theorem dX2_takeClause_156 : decode cX2_takeClause 156 = .ok (.iconst 1, 1) := by decide +kernel
theorem dX2_takeClause_157 : decode cX2_takeClause 157 = .ok (.invokevirtual 39, 3) := by decide +kernel
theorem dX2_takeClause_160 : decode cX2_takeClause 160 = .ok (.ifCond .eq 18, 3) := by decide +kernel
theorem dX2_takeClause_163 : decode cX2_takeClause 163 = .ok (.aload_n 0, 1) := by decide +kernel
theorem dX2_takeClause_164 : decode cX2_takeClause 164 = .ok (.iload_n 3, 1) := by decide +kernel
theorem dX2_takeClause_165 : decode cX2_takeClause 165 = .ok (.iconst 1, 1) := by decide +kernel
theorem dX2_takeClause_166 : decode cX2_takeClause 166 = .ok (.iadd, 1) := by decide +kernel
theorem dX2_takeClause_167 : decode cX2_takeClause 167 = .ok (.iconst 1, 1) := by decide +kernel
theorem dX2_takeClause_168 : decode cX2_takeClause 168 = .ok (.invokevirtual 39, 3) := by decide +kernel
theorem dX2_takeClause_171 : decode cX2_takeClause 171 = .ok (.ifCond .eq 7, 3) := by decide +kernel
theorem dX2_takeClause_174 : decode cX2_takeClause 174 = .ok (.iconst 1, 1) := by decide +kernel
theorem dX2_takeClause_175 : decode cX2_takeClause 175 = .ok (.goto 4, 3) := by decide +kernel
theorem dX2_takeClause_178 : decode cX2_takeClause 178 = .ok (.iconst 0, 1) := by decide +kernel
theorem dX2_takeClause_179 : decode cX2_takeClause 179 = .ok (.ireturn, 1) := by decide +kernel
theorem dX2_takeClause_180 : decode cX2_takeClause 180 = .ok (.aload_n 0, 1) := by decide +kernel
theorem dX2_takeClause_181 : decode cX2_takeClause 181 = .ok (.dup, 1) := by decide +kernel
theorem dX2_takeClause_182 : decode cX2_takeClause 182 = .ok (.getfield 26, 3) := by decide +kernel
theorem dX2_takeClause_185 : decode cX2_takeClause 185 = .ok (.iconst 1, 1) := by decide +kernel
theorem dX2_takeClause_186 : decode cX2_takeClause 186 = .ok (.iadd, 1) := by decide +kernel
theorem dX2_takeClause_187 : decode cX2_takeClause 187 = .ok (.putfield 26, 3) := by decide +kernel
theorem dX2_takeClause_190 : decode cX2_takeClause 190 = .ok (.aload_n 0, 1) := by decide +kernel
theorem dX2_takeClause_191 : decode cX2_takeClause 191 = .ok (.iload_n 3, 1) := by decide +kernel
theorem dX2_takeClause_192 : decode cX2_takeClause 192 = .ok (.iconst 1, 1) := by decide +kernel
theorem dX2_takeClause_193 : decode cX2_takeClause 193 = .ok (.invokevirtual 39, 3) := by decide +kernel
theorem dX2_takeClause_196 : decode cX2_takeClause 196 = .ok (.ifCond .eq 18, 3) := by decide +kernel
theorem dX2_takeClause_199 : decode cX2_takeClause 199 = .ok (.aload_n 0, 1) := by decide +kernel
theorem dX2_takeClause_200 : decode cX2_takeClause 200 = .ok (.iload_n 3, 1) := by decide +kernel
theorem dX2_takeClause_201 : decode cX2_takeClause 201 = .ok (.iconst 1, 1) := by decide +kernel
theorem dX2_takeClause_202 : decode cX2_takeClause 202 = .ok (.iadd, 1) := by decide +kernel
theorem dX2_takeClause_203 : decode cX2_takeClause 203 = .ok (.iconst 3, 1) := by decide +kernel
theorem dX2_takeClause_204 : decode cX2_takeClause 204 = .ok (.invokevirtual 39, 3) := by decide +kernel
theorem dX2_takeClause_207 : decode cX2_takeClause 207 = .ok (.ifCond .eq 7, 3) := by decide +kernel
theorem dX2_takeClause_210 : decode cX2_takeClause 210 = .ok (.iconst 1, 1) := by decide +kernel
theorem dX2_takeClause_211 : decode cX2_takeClause 211 = .ok (.goto 4, 3) := by decide +kernel
theorem dX2_takeClause_214 : decode cX2_takeClause 214 = .ok (.iconst 0, 1) := by decide +kernel
theorem dX2_takeClause_215 : decode cX2_takeClause 215 = .ok (.ireturn, 1) := by decide +kernel
theorem dX2_takeClause_216 : decode cX2_takeClause 216 = .ok (.aload_n 0, 1) := by decide +kernel
theorem dX2_takeClause_217 : decode cX2_takeClause 217 = .ok (.dup, 1) := by decide +kernel
theorem dX2_takeClause_218 : decode cX2_takeClause 218 = .ok (.getfield 26, 3) := by decide +kernel
theorem dX2_takeClause_221 : decode cX2_takeClause 221 = .ok (.iconst 1, 1) := by decide +kernel
theorem dX2_takeClause_222 : decode cX2_takeClause 222 = .ok (.iadd, 1) := by decide +kernel
theorem dX2_takeClause_223 : decode cX2_takeClause 223 = .ok (.putfield 26, 3) := by decide +kernel
theorem dX2_takeClause_226 : decode cX2_takeClause 226 = .ok (.aload_n 0, 1) := by decide +kernel
theorem dX2_takeClause_227 : decode cX2_takeClause 227 = .ok (.iload_n 3, 1) := by decide +kernel
theorem dX2_takeClause_228 : decode cX2_takeClause 228 = .ok (.iconst 3, 1) := by decide +kernel
theorem dX2_takeClause_229 : decode cX2_takeClause 229 = .ok (.invokevirtual 39, 3) := by decide +kernel
theorem dX2_takeClause_232 : decode cX2_takeClause 232 = .ok (.ireturn, 1) := by decide +kernel
theorem dX2_takeClause_233 : decode cX2_takeClause 233 = .ok (.iconst 0, 1) := by decide +kernel
theorem dX2_takeClause_234 : decode cX2_takeClause 234 = .ok (.ireturn, 1) := by decide +kernel
theorem dX2_takeSign_0 : decode cX2_takeSign 0 = .ok (.aload_n 0, 1) := by decide +kernel
theorem dX2_takeSign_1 : decode cX2_takeSign 1 = .ok (.getfield 26, 3) := by decide +kernel
theorem dX2_takeSign_4 : decode cX2_takeSign 4 = .ok (.aload_n 0, 1) := by decide +kernel
theorem dX2_takeSign_5 : decode cX2_takeSign 5 = .ok (.getfield 22, 3) := by decide +kernel
theorem dX2_takeSign_8 : decode cX2_takeSign 8 = .ok (.if_icmp .ge 28, 3) := by decide +kernel
theorem dX2_takeSign_11 : decode cX2_takeSign 11 = .ok (.aload_n 0, 1) := by decide +kernel
theorem dX2_takeSign_12 : decode cX2_takeSign 12 = .ok (.getfield 9, 3) := by decide +kernel
theorem dX2_takeSign_15 : decode cX2_takeSign 15 = .ok (.aload_n 0, 1) := by decide +kernel
theorem dX2_takeSign_16 : decode cX2_takeSign 16 = .ok (.getfield 26, 3) := by decide +kernel
theorem dX2_takeSign_19 : decode cX2_takeSign 19 = .ok (.baload, 1) := by decide +kernel
theorem dX2_takeSign_20 : decode cX2_takeSign 20 = .ok (.iload_n 1, 1) := by decide +kernel
theorem dX2_takeSign_21 : decode cX2_takeSign 21 = .ok (.if_icmp .ne 15, 3) := by decide +kernel
theorem dX2_takeSign_24 : decode cX2_takeSign 24 = .ok (.aload_n 0, 1) := by decide +kernel
theorem dX2_takeSign_25 : decode cX2_takeSign 25 = .ok (.dup, 1) := by decide +kernel
theorem dX2_takeSign_26 : decode cX2_takeSign 26 = .ok (.getfield 26, 3) := by decide +kernel
theorem dX2_takeSign_29 : decode cX2_takeSign 29 = .ok (.iconst 1, 1) := by decide +kernel
theorem dX2_takeSign_30 : decode cX2_takeSign 30 = .ok (.iadd, 1) := by decide +kernel
theorem dX2_takeSign_31 : decode cX2_takeSign 31 = .ok (.putfield 26, 3) := by decide +kernel
theorem dX2_takeSign_34 : decode cX2_takeSign 34 = .ok (.iconst 1, 1) := by decide +kernel
theorem dX2_takeSign_35 : decode cX2_takeSign 35 = .ok (.ireturn, 1) := by decide +kernel
theorem dX2_takeSign_36 : decode cX2_takeSign 36 = .ok (.iconst 0, 1) := by decide +kernel
theorem dX2_takeSign_37 : decode cX2_takeSign 37 = .ok (.ireturn, 1) := by decide +kernel
theorem dX2_takeNumber_0 : decode cX2_takeNumber 0 = .ok (.iconst 0, 1) := by decide +kernel
theorem dX2_takeNumber_1 : decode cX2_takeNumber 1 = .ok (.istore_n 3, 1) := by decide +kernel
theorem dX2_takeNumber_2 : decode cX2_takeNumber 2 = .ok (.iconst 0, 1) := by decide +kernel
theorem dX2_takeNumber_3 : decode cX2_takeNumber 3 = .ok (.istore 4, 2) := by decide +kernel
theorem dX2_takeNumber_5 : decode cX2_takeNumber 5 = .ok (.iconst 0, 1) := by decide +kernel
theorem dX2_takeNumber_6 : decode cX2_takeNumber 6 = .ok (.istore 5, 2) := by decide +kernel
theorem dX2_takeNumber_8 : decode cX2_takeNumber 8 = .ok (.iload 5, 2) := by decide +kernel
theorem dX2_takeNumber_10 : decode cX2_takeNumber 10 = .ok (.iload_n 2, 1) := by decide +kernel
theorem dX2_takeNumber_11 : decode cX2_takeNumber 11 = .ok (.if_icmp .ge 79, 3) := by decide +kernel
theorem dX2_takeNumber_14 : decode cX2_takeNumber 14 = .ok (.aload_n 0, 1) := by decide +kernel
theorem dX2_takeNumber_15 : decode cX2_takeNumber 15 = .ok (.getfield 26, 3) := by decide +kernel
theorem dX2_takeNumber_18 : decode cX2_takeNumber 18 = .ok (.aload_n 0, 1) := by decide +kernel
theorem dX2_takeNumber_19 : decode cX2_takeNumber 19 = .ok (.getfield 22, 3) := by decide +kernel
theorem dX2_takeNumber_22 : decode cX2_takeNumber 22 = .ok (.if_icmp .ge 68, 3) := by decide +kernel
theorem dX2_takeNumber_25 : decode cX2_takeNumber 25 = .ok (.aload_n 0, 1) := by decide +kernel
theorem dX2_takeNumber_26 : decode cX2_takeNumber 26 = .ok (.getfield 9, 3) := by decide +kernel
theorem dX2_takeNumber_29 : decode cX2_takeNumber 29 = .ok (.aload_n 0, 1) := by decide +kernel
theorem dX2_takeNumber_30 : decode cX2_takeNumber 30 = .ok (.getfield 26, 3) := by decide +kernel
theorem dX2_takeNumber_33 : decode cX2_takeNumber 33 = .ok (.baload, 1) := by decide +kernel
theorem dX2_takeNumber_34 : decode cX2_takeNumber 34 = .ok (.bipush 48, 2) := by decide +kernel
theorem dX2_takeNumber_36 : decode cX2_takeNumber 36 = .ok (.if_icmp .lt 54, 3) := by decide +kernel
theorem dX2_takeNumber_39 : decode cX2_takeNumber 39 = .ok (.aload_n 0, 1) := by decide +kernel
theorem dX2_takeNumber_40 : decode cX2_takeNumber 40 = .ok (.getfield 9, 3) := by decide +kernel
theorem dX2_takeNumber_43 : decode cX2_takeNumber 43 = .ok (.aload_n 0, 1) := by decide +kernel
theorem dX2_takeNumber_44 : decode cX2_takeNumber 44 = .ok (.getfield 26, 3) := by decide +kernel
theorem dX2_takeNumber_47 : decode cX2_takeNumber 47 = .ok (.baload, 1) := by decide +kernel
theorem dX2_takeNumber_48 : decode cX2_takeNumber 48 = .ok (.bipush 57, 2) := by decide +kernel
theorem dX2_takeNumber_50 : decode cX2_takeNumber 50 = .ok (.if_icmp .gt 40, 3) := by decide +kernel
theorem dX2_takeNumber_53 : decode cX2_takeNumber 53 = .ok (.iload_n 3, 1) := by decide +kernel
theorem dX2_takeNumber_54 : decode cX2_takeNumber 54 = .ok (.bipush 10, 2) := by decide +kernel
theorem dX2_takeNumber_56 : decode cX2_takeNumber 56 = .ok (.imul, 1) := by decide +kernel
theorem dX2_takeNumber_57 : decode cX2_takeNumber 57 = .ok (.aload_n 0, 1) := by decide +kernel
theorem dX2_takeNumber_58 : decode cX2_takeNumber 58 = .ok (.getfield 9, 3) := by decide +kernel
theorem dX2_takeNumber_61 : decode cX2_takeNumber 61 = .ok (.aload_n 0, 1) := by decide +kernel
theorem dX2_takeNumber_62 : decode cX2_takeNumber 62 = .ok (.getfield 26, 3) := by decide +kernel
theorem dX2_takeNumber_65 : decode cX2_takeNumber 65 = .ok (.baload, 1) := by decide +kernel
theorem dX2_takeNumber_66 : decode cX2_takeNumber 66 = .ok (.bipush 48, 2) := by decide +kernel
theorem dX2_takeNumber_68 : decode cX2_takeNumber 68 = .ok (.isub, 1) := by decide +kernel
theorem dX2_takeNumber_69 : decode cX2_takeNumber 69 = .ok (.iadd, 1) := by decide +kernel
theorem dX2_takeNumber_70 : decode cX2_takeNumber 70 = .ok (.istore_n 3, 1) := by decide +kernel
theorem dX2_takeNumber_71 : decode cX2_takeNumber 71 = .ok (.aload_n 0, 1) := by decide +kernel
theorem dX2_takeNumber_72 : decode cX2_takeNumber 72 = .ok (.dup, 1) := by decide +kernel
theorem dX2_takeNumber_73 : decode cX2_takeNumber 73 = .ok (.getfield 26, 3) := by decide +kernel
theorem dX2_takeNumber_76 : decode cX2_takeNumber 76 = .ok (.iconst 1, 1) := by decide +kernel
theorem dX2_takeNumber_77 : decode cX2_takeNumber 77 = .ok (.iadd, 1) := by decide +kernel
theorem dX2_takeNumber_78 : decode cX2_takeNumber 78 = .ok (.putfield 26, 3) := by decide +kernel
theorem dX2_takeNumber_81 : decode cX2_takeNumber 81 = .ok (.iinc 4 1, 3) := by decide +kernel
theorem dX2_takeNumber_84 : decode cX2_takeNumber 84 = .ok (.iinc 5 1, 3) := by decide +kernel
theorem dX2_takeNumber_87 : decode cX2_takeNumber 87 = .ok (.goto (-79), 3) := by decide +kernel
theorem dX2_takeNumber_90 : decode cX2_takeNumber 90 = .ok (.iload 4, 2) := by decide +kernel
theorem dX2_takeNumber_92 : decode cX2_takeNumber 92 = .ok (.ifCond .eq 16, 3) := by decide +kernel
theorem dX2_takeNumber_95 : decode cX2_takeNumber 95 = .ok (.iload_n 1, 1) := by decide +kernel
theorem dX2_takeNumber_96 : decode cX2_takeNumber 96 = .ok (.ifCond .lt 12, 3) := by decide +kernel
theorem dX2_takeNumber_99 : decode cX2_takeNumber 99 = .ok (.iload_n 1, 1) := by decide +kernel
theorem dX2_takeNumber_100 : decode cX2_takeNumber 100 = .ok (.aload_n 0, 1) := by decide +kernel
theorem dX2_takeNumber_101 : decode cX2_takeNumber 101 = .ok (.getfield 19, 3) := by decide +kernel
theorem dX2_takeNumber_104 : decode cX2_takeNumber 104 = .ok (.arraylength, 1) := by decide +kernel
theorem dX2_takeNumber_105 : decode cX2_takeNumber 105 = .ok (.if_icmp .lt 5, 3) := by decide +kernel
theorem dX2_takeNumber_108 : decode cX2_takeNumber 108 = .ok (.iconst 0, 1) := by decide +kernel
theorem dX2_takeNumber_109 : decode cX2_takeNumber 109 = .ok (.ireturn, 1) := by decide +kernel
theorem dX2_takeNumber_110 : decode cX2_takeNumber 110 = .ok (.aload_n 0, 1) := by decide +kernel
theorem dX2_takeNumber_111 : decode cX2_takeNumber 111 = .ok (.getfield 19, 3) := by decide +kernel
theorem dX2_takeNumber_114 : decode cX2_takeNumber 114 = .ok (.iload_n 1, 1) := by decide +kernel
theorem dX2_takeNumber_115 : decode cX2_takeNumber 115 = .ok (.iload_n 3, 1) := by decide +kernel
theorem dX2_takeNumber_116 : decode cX2_takeNumber 116 = .ok (.iastore, 1) := by decide +kernel
theorem dX2_takeNumber_117 : decode cX2_takeNumber 117 = .ok (.iconst 1, 1) := by decide +kernel
theorem dX2_takeNumber_118 : decode cX2_takeNumber 118 = .ok (.ireturn, 1) := by decide +kernel
theorem dX2_perform_0 : decode cX2_perform 0 = .ok (.iload_n 1, 1) := by decide +kernel
theorem dX2_perform_1 : decode cX2_perform 1 = .ok (.ifCond .lt 11, 3) := by decide +kernel
theorem dX2_perform_4 : decode cX2_perform 4 = .ok (.iload_n 1, 1) := by decide +kernel
theorem dX2_perform_5 : decode cX2_perform 5 = .ok (.aload_n 0, 1) := by decide +kernel
theorem dX2_perform_6 : decode cX2_perform 6 = .ok (.getfield 29, 3) := by decide +kernel
theorem dX2_perform_9 : decode cX2_perform 9 = .ok (.if_icmp .lt 5, 3) := by decide +kernel
theorem dX2_perform_12 : decode cX2_perform 12 = .ok (.iconst (-1), 1) := by decide +kernel
theorem dX2_perform_13 : decode cX2_perform 13 = .ok (.ireturn, 1) := by decide +kernel
theorem dX2_perform_14 : decode cX2_perform 14 = .ok (.iload_n 1, 1) := by decide +kernel
theorem dX2_perform_15 : decode cX2_perform 15 = .ok (.iconst 3, 1) := by decide +kernel
theorem dX2_perform_16 : decode cX2_perform 16 = .ok (.imul, 1) := by decide +kernel
theorem dX2_perform_17 : decode cX2_perform 17 = .ok (.istore_n 3, 1) := by decide +kernel
theorem dX2_perform_18 : decode cX2_perform 18 = .ok (.aload_n 0, 1) := by decide +kernel
theorem dX2_perform_19 : decode cX2_perform 19 = .ok (.getfield 19, 3) := by decide +kernel
theorem dX2_perform_22 : decode cX2_perform 22 = .ok (.iload_n 3, 1) := by decide +kernel
theorem dX2_perform_23 : decode cX2_perform 23 = .ok (.iaload, 1) := by decide +kernel
theorem dX2_perform_24 : decode cX2_perform 24 = .ok (.istore 4, 2) := by decide +kernel
theorem dX2_perform_26 : decode cX2_perform 26 = .ok (.aload_n 0, 1) := by decide +kernel
theorem dX2_perform_27 : decode cX2_perform 27 = .ok (.getfield 19, 3) := by decide +kernel
theorem dX2_perform_30 : decode cX2_perform 30 = .ok (.iload_n 3, 1) := by decide +kernel
theorem dX2_perform_31 : decode cX2_perform 31 = .ok (.iconst 1, 1) := by decide +kernel
theorem dX2_perform_32 : decode cX2_perform 32 = .ok (.iadd, 1) := by decide +kernel
theorem dX2_perform_33 : decode cX2_perform 33 = .ok (.iaload, 1) := by decide +kernel
theorem dX2_perform_34 : decode cX2_perform 34 = .ok (.istore 5, 2) := by decide +kernel
theorem dX2_perform_36 : decode cX2_perform 36 = .ok (.aload_n 0, 1) := by decide +kernel
theorem dX2_perform_37 : decode cX2_perform 37 = .ok (.getfield 15, 3) := by decide +kernel
theorem dX2_perform_40 : decode cX2_perform 40 = .ok (.iload_n 1, 1) := by decide +kernel
theorem dX2_perform_41 : decode cX2_perform 41 = .ok (.iaload, 1) := by decide +kernel
theorem dX2_perform_42 : decode cX2_perform 42 = .ok (.lookupswitch 104 #[(99, 50), (108, 97), (110, 77), (113, 87), (114, 67)], 50) := by decide +kernel
theorem dX2_perform_92 : decode cX2_perform 92 = .ok (.aload_n 2, 1) := by decide +kernel
theorem dX2_perform_93 : decode cX2_perform 93 = .ok (.iload 4, 2) := by decide +kernel
theorem dX2_perform_95 : decode cX2_perform 95 = .ok (.iload 5, 2) := by decide +kernel
theorem dX2_perform_97 : decode cX2_perform 97 = .ok (.aload_n 0, 1) := by decide +kernel
theorem dX2_perform_98 : decode cX2_perform 98 = .ok (.getfield 19, 3) := by decide +kernel
theorem dX2_perform_101 : decode cX2_perform 101 = .ok (.iload_n 3, 1) := by decide +kernel
theorem dX2_perform_102 : decode cX2_perform 102 = .ok (.iconst 2, 1) := by decide +kernel
theorem dX2_perform_103 : decode cX2_perform 103 = .ok (.iadd, 1) := by decide +kernel
theorem dX2_perform_104 : decode cX2_perform 104 = .ok (.iaload, 1) := by decide +kernel
theorem dX2_perform_105 : decode cX2_perform 105 = .ok (.invokevirtual 43, 3) := by decide +kernel
theorem dX2_perform_108 : decode cX2_perform 108 = .ok (.ireturn, 1) := by decide +kernel
theorem dX2_perform_109 : decode cX2_perform 109 = .ok (.aload_n 2, 1) := by decide +kernel
theorem dX2_perform_110 : decode cX2_perform 110 = .ok (.iload 4, 2) := by decide +kernel
theorem dX2_perform_112 : decode cX2_perform 112 = .ok (.iload 5, 2) := by decide +kernel
theorem dX2_perform_114 : decode cX2_perform 114 = .ok (.iconst 1, 1) := by decide +kernel
theorem dX2_perform_115 : decode cX2_perform 115 = .ok (.invokevirtual 49, 3) := by decide +kernel
theorem dX2_perform_118 : decode cX2_perform 118 = .ok (.ireturn, 1) := by decide +kernel
theorem dX2_perform_119 : decode cX2_perform 119 = .ok (.aload_n 2, 1) := by decide +kernel
theorem dX2_perform_120 : decode cX2_perform 120 = .ok (.iload 4, 2) := by decide +kernel
theorem dX2_perform_122 : decode cX2_perform 122 = .ok (.iload 5, 2) := by decide +kernel
theorem dX2_perform_124 : decode cX2_perform 124 = .ok (.iconst 0, 1) := by decide +kernel
theorem dX2_perform_125 : decode cX2_perform 125 = .ok (.invokevirtual 49, 3) := by decide +kernel
theorem dX2_perform_128 : decode cX2_perform 128 = .ok (.ireturn, 1) := by decide +kernel
theorem dX2_perform_129 : decode cX2_perform 129 = .ok (.aload_n 2, 1) := by decide +kernel
theorem dX2_perform_130 : decode cX2_perform 130 = .ok (.iload 4, 2) := by decide +kernel
theorem dX2_perform_132 : decode cX2_perform 132 = .ok (.iconst 3, 1) := by decide +kernel
theorem dX2_perform_133 : decode cX2_perform 133 = .ok (.iload 5, 2) := by decide +kernel
theorem dX2_perform_135 : decode cX2_perform 135 = .ok (.invokevirtual 53, 3) := by decide +kernel
theorem dX2_perform_138 : decode cX2_perform 138 = .ok (.ireturn, 1) := by decide +kernel
theorem dX2_perform_139 : decode cX2_perform 139 = .ok (.aload_n 2, 1) := by decide +kernel
theorem dX2_perform_140 : decode cX2_perform 140 = .ok (.iload 4, 2) := by decide +kernel
theorem dX2_perform_142 : decode cX2_perform 142 = .ok (.invokevirtual 56, 3) := by decide +kernel
theorem dX2_perform_145 : decode cX2_perform 145 = .ok (.ireturn, 1) := by decide +kernel
theorem dX2_perform_146 : decode cX2_perform 146 = .ok (.iconst (-1), 1) := by decide +kernel
theorem dX2_perform_147 : decode cX2_perform 147 = .ok (.ireturn, 1) := by decide +kernel
theorem dX3_init_0 : decode cX3_init 0 = .ok (.aload_n 0, 1) := by decide +kernel
theorem dX3_init_1 : decode cX3_init 1 = .ok (.invokespecial 3, 3) := by decide +kernel
theorem dX3_init_4 : decode cX3_init 4 = .ok (.aload_n 0, 1) := by decide +kernel
theorem dX3_init_5 : decode cX3_init 5 = .ok (.bipush 6, 2) := by decide +kernel
theorem dX3_init_7 : decode cX3_init 7 = .ok (.newarray .int, 2) := by decide +kernel
theorem dX3_init_9 : decode cX3_init 9 = .ok (.putfield 9, 3) := by decide +kernel
theorem dX3_init_12 : decode cX3_init 12 = .ok (.aload_n 0, 1) := by decide +kernel
theorem dX3_init_13 : decode cX3_init 13 = .ok (.bipush 6, 2) := by decide +kernel
theorem dX3_init_15 : decode cX3_init 15 = .ok (.newarray .int, 2) := by decide +kernel
theorem dX3_init_17 : decode cX3_init 17 = .ok (.putfield 15, 3) := by decide +kernel
theorem dX3_init_20 : decode cX3_init 20 = .ok (.aload_n 0, 1) := by decide +kernel
theorem dX3_init_21 : decode cX3_init 21 = .ok (.bipush 6, 2) := by decide +kernel
theorem dX3_init_23 : decode cX3_init 23 = .ok (.newarray .int, 2) := by decide +kernel
theorem dX3_init_25 : decode cX3_init 25 = .ok (.putfield 18, 3) := by decide +kernel
theorem dX3_init_28 : decode cX3_init 28 = .ok (.aload_n 0, 1) := by decide +kernel
theorem dX3_init_29 : decode cX3_init 29 = .ok (.bipush 6, 2) := by decide +kernel
theorem dX3_init_31 : decode cX3_init 31 = .ok (.newarray .int, 2) := by decide +kernel
theorem dX3_init_33 : decode cX3_init 33 = .ok (.putfield 21, 3) := by decide +kernel
theorem dX3_init_36 : decode cX3_init 36 = .ok (.aload_n 0, 1) := by decide +kernel
theorem dX3_init_37 : decode cX3_init 37 = .ok (.bipush 6, 2) := by decide +kernel
theorem dX3_init_39 : decode cX3_init 39 = .ok (.newarray .int, 2) := by decide +kernel
theorem dX3_init_41 : decode cX3_init 41 = .ok (.putfield 24, 3) := by decide +kernel
theorem dX3_init_44 : decode cX3_init 44 = .ok (.return_, 1) := by decide +kernel
theorem dX3_isContract_0 : decode cX3_isContract 0 = .ok (.iload_n 1, 1) := by decide +kernel
theorem dX3_isContract_1 : decode cX3_isContract 1 = .ok (.ifCond .lt 15, 3) := by decide +kernel
theorem dX3_isContract_4 : decode cX3_isContract 4 = .ok (.iload_n 1, 1) := by decide +kernel
theorem dX3_isContract_5 : decode cX3_isContract 5 = .ok (.aload_n 0, 1) := by decide +kernel
theorem dX3_isContract_6 : decode cX3_isContract 6 = .ok (.getfield 27, 3) := by decide +kernel
theorem dX3_isContract_9 : decode cX3_isContract 9 = .ok (.if_icmp .ge 7, 3) := by decide +kernel
theorem dX3_isContract_12 : decode cX3_isContract 12 = .ok (.iconst 1, 1) := by decide +kernel
theorem dX3_isContract_13 : decode cX3_isContract 13 = .ok (.goto 4, 3) := by decide +kernel
theorem dX3_isContract_16 : decode cX3_isContract 16 = .ok (.iconst 0, 1) := by decide +kernel
theorem dX3_isContract_17 : decode cX3_isContract 17 = .ok (.ireturn, 1) := by decide +kernel
theorem dX3_addContract_0 : decode cX3_addContract 0 = .ok (.iconst 0, 1) := by decide +kernel
theorem dX3_addContract_1 : decode cX3_addContract 1 = .ok (.iload_n 1, 1) := by decide +kernel
theorem dX3_addContract_2 : decode cX3_addContract 2 = .ok (.invokestatic 31, 3) := by decide +kernel
theorem dX3_addContract_5 : decode cX3_addContract 5 = .ok (.ifCond .eq 19, 3) := by decide +kernel
theorem dX3_addContract_8 : decode cX3_addContract 8 = .ok (.iconst 1, 1) := by decide +kernel
theorem dX3_addContract_9 : decode cX3_addContract 9 = .ok (.iload_n 2, 1) := by decide +kernel
theorem dX3_addContract_10 : decode cX3_addContract 10 = .ok (.invokestatic 31, 3) := by decide +kernel
theorem dX3_addContract_13 : decode cX3_addContract 13 = .ok (.ifCond .eq 11, 3) := by decide +kernel
theorem dX3_addContract_16 : decode cX3_addContract 16 = .ok (.iconst 2, 1) := by decide +kernel
theorem dX3_addContract_17 : decode cX3_addContract 17 = .ok (.iload_n 3, 1) := by decide +kernel
theorem dX3_addContract_18 : decode cX3_addContract 18 = .ok (.invokestatic 31, 3) := by decide +kernel
theorem dX3_addContract_21 : decode cX3_addContract 21 = .ok (.ifCond .ne 6, 3) := by decide +kernel
theorem dX3_addContract_24 : decode cX3_addContract 24 = .ok (.bipush (-2), 2) := by decide +kernel
theorem dX3_addContract_26 : decode cX3_addContract 26 = .ok (.ireturn, 1) := by decide +kernel
theorem dX3_addContract_27 : decode cX3_addContract 27 = .ok (.aload_n 0, 1) := by decide +kernel
theorem dX3_addContract_28 : decode cX3_addContract 28 = .ok (.getfield 27, 3) := by decide +kernel
theorem dX3_addContract_31 : decode cX3_addContract 31 = .ok (.bipush 6, 2) := by decide +kernel
theorem dX3_addContract_33 : decode cX3_addContract 33 = .ok (.if_icmp .lt 6, 3) := by decide +kernel
theorem dX3_addContract_36 : decode cX3_addContract 36 = .ok (.bipush (-4), 2) := by decide +kernel
theorem dX3_addContract_38 : decode cX3_addContract 38 = .ok (.ireturn, 1) := by decide +kernel
theorem dX3_addContract_39 : decode cX3_addContract 39 = .ok (.aload_n 0, 1) := by decide +kernel
theorem dX3_addContract_40 : decode cX3_addContract 40 = .ok (.getfield 9, 3) := by decide +kernel
theorem dX3_addContract_43 : decode cX3_addContract 43 = .ok (.aload_n 0, 1) := by decide +kernel
theorem dX3_addContract_44 : decode cX3_addContract 44 = .ok (.getfield 27, 3) := by decide +kernel
theorem dX3_addContract_47 : decode cX3_addContract 47 = .ok (.iload_n 1, 1) := by decide +kernel
theorem dX3_addContract_48 : decode cX3_addContract 48 = .ok (.iastore, 1) := by decide +kernel
theorem dX3_addContract_49 : decode cX3_addContract 49 = .ok (.aload_n 0, 1) := by decide +kernel
theorem dX3_addContract_50 : decode cX3_addContract 50 = .ok (.getfield 15, 3) := by decide +kernel
theorem dX3_addContract_53 : decode cX3_addContract 53 = .ok (.aload_n 0, 1) := by decide +kernel
theorem dX3_addContract_54 : decode cX3_addContract 54 = .ok (.getfield 27, 3) := by decide +kernel
theorem dX3_addContract_57 : decode cX3_addContract 57 = .ok (.iload_n 2, 1) := by decide +kernel
theorem dX3_addContract_58 : decode cX3_addContract 58 = .ok (.iastore, 1) := by decide +kernel
theorem dX3_addContract_59 : decode cX3_addContract 59 = .ok (.aload_n 0, 1) := by decide +kernel
theorem dX3_addContract_60 : decode cX3_addContract 60 = .ok (.getfield 18, 3) := by decide +kernel
theorem dX3_addContract_63 : decode cX3_addContract 63 = .ok (.aload_n 0, 1) := by decide +kernel
theorem dX3_addContract_64 : decode cX3_addContract 64 = .ok (.getfield 27, 3) := by decide +kernel
theorem dX3_addContract_67 : decode cX3_addContract 67 = .ok (.iload_n 3, 1) := by decide +kernel
theorem dX3_addContract_68 : decode cX3_addContract 68 = .ok (.iastore, 1) := by decide +kernel
theorem dX3_addContract_69 : decode cX3_addContract 69 = .ok (.aload_n 0, 1) := by decide +kernel
theorem dX3_addContract_70 : decode cX3_addContract 70 = .ok (.getfield 21, 3) := by decide +kernel
theorem dX3_addContract_73 : decode cX3_addContract 73 = .ok (.aload_n 0, 1) := by decide +kernel
theorem dX3_addContract_74 : decode cX3_addContract 74 = .ok (.getfield 27, 3) := by decide +kernel
theorem dX3_addContract_77 : decode cX3_addContract 77 = .ok (.bipush 100, 2) := by decide +kernel
theorem dX3_addContract_79 : decode cX3_addContract 79 = .ok (.iastore, 1) := by decide +kernel
theorem dX3_addContract_80 : decode cX3_addContract 80 = .ok (.aload_n 0, 1) := by decide +kernel
theorem dX3_addContract_81 : decode cX3_addContract 81 = .ok (.getfield 24, 3) := by decide +kernel
theorem dX3_addContract_84 : decode cX3_addContract 84 = .ok (.aload_n 0, 1) := by decide +kernel
theorem dX3_addContract_85 : decode cX3_addContract 85 = .ok (.getfield 27, 3) := by decide +kernel
theorem dX3_addContract_88 : decode cX3_addContract 88 = .ok (.iconst 0, 1) := by decide +kernel
theorem dX3_addContract_89 : decode cX3_addContract 89 = .ok (.iastore, 1) := by decide +kernel
theorem dX3_addContract_90 : decode cX3_addContract 90 = .ok (.aload_n 0, 1) := by decide +kernel
theorem dX3_addContract_91 : decode cX3_addContract 91 = .ok (.dup, 1) := by decide +kernel
theorem dX3_addContract_92 : decode cX3_addContract 92 = .ok (.getfield 27, 3) := by decide +kernel
theorem dX3_addContract_95 : decode cX3_addContract 95 = .ok (.iconst 1, 1) := by decide +kernel
theorem dX3_addContract_96 : decode cX3_addContract 96 = .ok (.iadd, 1) := by decide +kernel
theorem dX3_addContract_97 : decode cX3_addContract 97 = .ok (.putfield 27, 3) := by decide +kernel
theorem dX3_addContract_100 : decode cX3_addContract 100 = .ok (.aload_n 0, 1) := by decide +kernel
theorem dX3_addContract_101 : decode cX3_addContract 101 = .ok (.getfield 27, 3) := by decide +kernel
theorem dX3_addContract_104 : decode cX3_addContract 104 = .ok (.iconst 1, 1) := by decide +kernel
theorem dX3_addContract_105 : decode cX3_addContract 105 = .ok (.isub, 1) := by decide +kernel
theorem dX3_addContract_106 : decode cX3_addContract 106 = .ok (.ireturn, 1) := by decide +kernel
theorem dX3_isTerm_0 : decode cX3_isTerm 0 = .ok (.iload_n 0, 1) := by decide +kernel
theorem dX3_isTerm_1 : decode cX3_isTerm 1 = .ok (.tableswitch 95 0 3 #[31, 46, 62, 78], 31) := by decide +kernel
theorem dX3_isTerm_32 : decode cX3_isTerm 32 = .ok (.iload_n 1, 1) := by decide +kernel
theorem dX3_isTerm_33 : decode cX3_isTerm 33 = .ok (.ifCond .lt 12, 3) := by decide +kernel
theorem dX3_isTerm_36 : decode cX3_isTerm 36 = .ok (.iload_n 1, 1) := by decide +kernel
theorem dX3_isTerm_37 : decode cX3_isTerm 37 = .ok (.iconst 3, 1) := by decide +kernel
theorem dX3_isTerm_38 : decode cX3_isTerm 38 = .ok (.if_icmp .gt 7, 3) := by decide +kernel
theorem dX3_isTerm_41 : decode cX3_isTerm 41 = .ok (.iconst 1, 1) := by decide +kernel
theorem dX3_isTerm_42 : decode cX3_isTerm 42 = .ok (.goto 4, 3) := by decide +kernel
theorem dX3_isTerm_45 : decode cX3_isTerm 45 = .ok (.iconst 0, 1) := by decide +kernel
theorem dX3_isTerm_46 : decode cX3_isTerm 46 = .ok (.ireturn, 1) := by decide +kernel
theorem dX3_isTerm_47 : decode cX3_isTerm 47 = .ok (.iload_n 1, 1) := by decide +kernel
theorem dX3_isTerm_48 : decode cX3_isTerm 48 = .ok (.ifCond .lt 13, 3) := by decide +kernel
theorem dX3_isTerm_51 : decode cX3_isTerm 51 = .ok (.iload_n 1, 1) := by decide +kernel
theorem dX3_isTerm_52 : decode cX3_isTerm 52 = .ok (.bipush 99, 2) := by decide +kernel
theorem dX3_isTerm_54 : decode cX3_isTerm 54 = .ok (.if_icmp .gt 7, 3) := by decide +kernel
theorem dX3_isTerm_57 : decode cX3_isTerm 57 = .ok (.iconst 1, 1) := by decide +kernel
theorem dX3_isTerm_58 : decode cX3_isTerm 58 = .ok (.goto 4, 3) := by decide +kernel
theorem dX3_isTerm_61 : decode cX3_isTerm 61 = .ok (.iconst 0, 1) := by decide +kernel
theorem dX3_isTerm_62 : decode cX3_isTerm 62 = .ok (.ireturn, 1) := by decide +kernel
theorem dX3_isTerm_63 : decode cX3_isTerm 63 = .ok (.iload_n 1, 1) := by decide +kernel
theorem dX3_isTerm_64 : decode cX3_isTerm 64 = .ok (.ifCond .lt 13, 3) := by decide +kernel
theorem dX3_isTerm_67 : decode cX3_isTerm 67 = .ok (.iload_n 1, 1) := by decide +kernel
theorem dX3_isTerm_68 : decode cX3_isTerm 68 = .ok (.bipush 20, 2) := by decide +kernel
theorem dX3_isTerm_70 : decode cX3_isTerm 70 = .ok (.if_icmp .gt 7, 3) := by decide +kernel
theorem dX3_isTerm_73 : decode cX3_isTerm 73 = .ok (.iconst 1, 1) := by decide +kernel
theorem dX3_isTerm_74 : decode cX3_isTerm 74 = .ok (.goto 4, 3) := by decide +kernel
theorem dX3_isTerm_77 : decode cX3_isTerm 77 = .ok (.iconst 0, 1) := by decide +kernel
theorem dX3_isTerm_78 : decode cX3_isTerm 78 = .ok (.ireturn, 1) := by decide +kernel
theorem dX3_isTerm_79 : decode cX3_isTerm 79 = .ok (.iload_n 1, 1) := by decide +kernel
theorem dX3_isTerm_80 : decode cX3_isTerm 80 = .ok (.iconst 1, 1) := by decide +kernel
theorem dX3_isTerm_81 : decode cX3_isTerm 81 = .ok (.if_icmp .lt 13, 3) := by decide +kernel
theorem dX3_isTerm_84 : decode cX3_isTerm 84 = .ok (.iload_n 1, 1) := by decide +kernel
theorem dX3_isTerm_85 : decode cX3_isTerm 85 = .ok (.bipush 100, 2) := by decide +kernel
theorem dX3_isTerm_87 : decode cX3_isTerm 87 = .ok (.if_icmp .gt 7, 3) := by decide +kernel
theorem dX3_isTerm_90 : decode cX3_isTerm 90 = .ok (.iconst 1, 1) := by decide +kernel
theorem dX3_isTerm_91 : decode cX3_isTerm 91 = .ok (.goto 4, 3) := by decide +kernel
theorem dX3_isTerm_94 : decode cX3_isTerm 94 = .ok (.iconst 0, 1) := by decide +kernel
theorem dX3_isTerm_95 : decode cX3_isTerm 95 = .ok (.ireturn, 1) := by decide +kernel
theorem dX3_isTerm_96 : decode cX3_isTerm 96 = .ok (.iconst 0, 1) := by decide +kernel
theorem dX3_isTerm_97 : decode cX3_isTerm 97 = .ok (.ireturn, 1) := by decide +kernel
theorem dX3_term_0 : decode cX3_term 0 = .ok (.aload_n 0, 1) := by decide +kernel
theorem dX3_term_1 : decode cX3_term 1 = .ok (.iload_n 1, 1) := by decide +kernel
theorem dX3_term_2 : decode cX3_term 2 = .ok (.invokevirtual 35, 3) := by decide +kernel
theorem dX3_term_5 : decode cX3_term 5 = .ok (.ifCond .ne 5, 3) := by decide +kernel
theorem dX3_term_8 : decode cX3_term 8 = .ok (.iconst (-1), 1) := by decide +kernel
theorem dX3_term_9 : decode cX3_term 9 = .ok (.ireturn, 1) := by decide +kernel
theorem dX3_term_10 : decode cX3_term 10 = .ok (.iload_n 2, 1) := by decide +kernel
theorem dX3_term_11 : decode cX3_term 11 = .ok (.tableswitch 57 0 3 #[29, 36, 43, 50], 29) := by decide +kernel
theorem dX3_term_40 : decode cX3_term 40 = .ok (.aload_n 0, 1) := by decide +kernel
theorem dX3_term_41 : decode cX3_term 41 = .ok (.getfield 9, 3) := by decide +kernel
theorem dX3_term_44 : decode cX3_term 44 = .ok (.iload_n 1, 1) := by decide +kernel
theorem dX3_term_45 : decode cX3_term 45 = .ok (.iaload, 1) := by decide +kernel
theorem dX3_term_46 : decode cX3_term 46 = .ok (.ireturn, 1) := by decide +kernel
theorem dX3_term_47 : decode cX3_term 47 = .ok (.aload_n 0, 1) := by decide +kernel
theorem dX3_term_48 : decode cX3_term 48 = .ok (.getfield 15, 3) := by decide +kernel
theorem dX3_term_51 : decode cX3_term 51 = .ok (.iload_n 1, 1) := by decide +kernel
theorem dX3_term_52 : decode cX3_term 52 = .ok (.iaload, 1) := by decide +kernel
theorem dX3_term_53 : decode cX3_term 53 = .ok (.ireturn, 1) := by decide +kernel
theorem dX3_term_54 : decode cX3_term 54 = .ok (.aload_n 0, 1) := by decide +kernel
theorem dX3_term_55 : decode cX3_term 55 = .ok (.getfield 18, 3) := by decide +kernel
theorem dX3_term_58 : decode cX3_term 58 = .ok (.iload_n 1, 1) := by decide +kernel
theorem dX3_term_59 : decode cX3_term 59 = .ok (.iaload, 1) := by decide +kernel
theorem dX3_term_60 : decode cX3_term 60 = .ok (.ireturn, 1) := by decide +kernel
theorem dX3_term_61 : decode cX3_term 61 = .ok (.aload_n 0, 1) := by decide +kernel
theorem dX3_term_62 : decode cX3_term 62 = .ok (.getfield 21, 3) := by decide +kernel
theorem dX3_term_65 : decode cX3_term 65 = .ok (.iload_n 1, 1) := by decide +kernel
theorem dX3_term_66 : decode cX3_term 66 = .ok (.iaload, 1) := by decide +kernel
theorem dX3_term_67 : decode cX3_term 67 = .ok (.ireturn, 1) := by decide +kernel
theorem dX3_term_68 : decode cX3_term 68 = .ok (.iconst (-1), 1) := by decide +kernel
theorem dX3_term_69 : decode cX3_term 69 = .ok (.ireturn, 1) := by decide +kernel
theorem dX3_change_0 : decode cX3_change 0 = .ok (.aload_n 0, 1) := by decide +kernel
theorem dX3_change_1 : decode cX3_change 1 = .ok (.iload_n 1, 1) := by decide +kernel
theorem dX3_change_2 : decode cX3_change 2 = .ok (.iload_n 2, 1) := by decide +kernel
theorem dX3_change_3 : decode cX3_change 3 = .ok (.invokevirtual 39, 3) := by decide +kernel
theorem dX3_change_6 : decode cX3_change 6 = .ok (.istore 4, 2) := by decide +kernel
theorem dX3_change_8 : decode cX3_change 8 = .ok (.iload 4, 2) := by decide +kernel
theorem dX3_change_10 : decode cX3_change 10 = .ok (.iconst (-1), 1) := by decide +kernel
theorem dX3_change_11 : decode cX3_change 11 = .ok (.if_icmp .ne 5, 3) := by decide +kernel
theorem dX3_change_14 : decode cX3_change 14 = .ok (.iconst (-1), 1) := by decide +kernel
theorem dX3_change_15 : decode cX3_change 15 = .ok (.ireturn, 1) := by decide +kernel
theorem dX3_change_16 : decode cX3_change 16 = .ok (.iload_n 2, 1) := by decide +kernel
theorem dX3_change_17 : decode cX3_change 17 = .ok (.iload_n 3, 1) := by decide +kernel
theorem dX3_change_18 : decode cX3_change 18 = .ok (.invokestatic 31, 3) := by decide +kernel
theorem dX3_change_21 : decode cX3_change 21 = .ok (.ifCond .ne 6, 3) := by decide +kernel
theorem dX3_change_24 : decode cX3_change 24 = .ok (.bipush (-2), 2) := by decide +kernel
theorem dX3_change_26 : decode cX3_change 26 = .ok (.ireturn, 1) := by decide +kernel
theorem dX3_change_27 : decode cX3_change 27 = .ok (.iload_n 2, 1) := by decide +kernel
theorem dX3_change_28 : decode cX3_change 28 = .ok (.tableswitch 58 0 2 #[28, 38, 48], 28) := by decide +kernel
theorem dX3_change_56 : decode cX3_change 56 = .ok (.aload_n 0, 1) := by decide +kernel
theorem dX3_change_57 : decode cX3_change 57 = .ok (.getfield 9, 3) := by decide +kernel
theorem dX3_change_60 : decode cX3_change 60 = .ok (.iload_n 1, 1) := by decide +kernel
theorem dX3_change_61 : decode cX3_change 61 = .ok (.iload_n 3, 1) := by decide +kernel
theorem dX3_change_62 : decode cX3_change 62 = .ok (.iastore, 1) := by decide +kernel
theorem dX3_change_63 : decode cX3_change 63 = .ok (.goto 30, 3) := by decide +kernel
theorem dX3_change_66 : decode cX3_change 66 = .ok (.aload_n 0, 1) := by decide +kernel
theorem dX3_change_67 : decode cX3_change 67 = .ok (.getfield 15, 3) := by decide +kernel
theorem dX3_change_70 : decode cX3_change 70 = .ok (.iload_n 1, 1) := by decide +kernel
theorem dX3_change_71 : decode cX3_change 71 = .ok (.iload_n 3, 1) := by decide +kernel
theorem dX3_change_72 : decode cX3_change 72 = .ok (.iastore, 1) := by decide +kernel
theorem dX3_change_73 : decode cX3_change 73 = .ok (.goto 20, 3) := by decide +kernel
theorem dX3_change_76 : decode cX3_change 76 = .ok (.aload_n 0, 1) := by decide +kernel
theorem dX3_change_77 : decode cX3_change 77 = .ok (.getfield 18, 3) := by decide +kernel
theorem dX3_change_80 : decode cX3_change 80 = .ok (.iload_n 1, 1) := by decide +kernel
theorem dX3_change_81 : decode cX3_change 81 = .ok (.iload_n 3, 1) := by decide +kernel
theorem dX3_change_82 : decode cX3_change 82 = .ok (.iastore, 1) := by decide +kernel
theorem dX3_change_83 : decode cX3_change 83 = .ok (.goto 10, 3) := by decide +kernel
theorem dX3_change_86 : decode cX3_change 86 = .ok (.aload_n 0, 1) := by decide +kernel
theorem dX3_change_87 : decode cX3_change 87 = .ok (.getfield 21, 3) := by decide +kernel
theorem dX3_change_90 : decode cX3_change 90 = .ok (.iload_n 1, 1) := by decide +kernel
theorem dX3_change_91 : decode cX3_change 91 = .ok (.iload_n 3, 1) := by decide +kernel
theorem dX3_change_92 : decode cX3_change 92 = .ok (.iastore, 1) := by decide +kernel
theorem dX3_change_93 : decode cX3_change 93 = .ok (.iload 4, 2) := by decide +kernel
theorem dX3_change_95 : decode cX3_change 95 = .ok (.ireturn, 1) := by decide +kernel
theorem dX3_link_0 : decode cX3_link 0 = .ok (.aload_n 0, 1) := by decide +kernel
theorem dX3_link_1 : decode cX3_link 1 = .ok (.iload_n 1, 1) := by decide +kernel
theorem dX3_link_2 : decode cX3_link 2 = .ok (.invokevirtual 35, 3) := by decide +kernel
theorem dX3_link_5 : decode cX3_link 5 = .ok (.ifCond .eq 16, 3) := by decide +kernel
theorem dX3_link_8 : decode cX3_link 8 = .ok (.aload_n 0, 1) := by decide +kernel
theorem dX3_link_9 : decode cX3_link 9 = .ok (.iload_n 2, 1) := by decide +kernel
theorem dX3_link_10 : decode cX3_link 10 = .ok (.invokevirtual 35, 3) := by decide +kernel
theorem dX3_link_13 : decode cX3_link 13 = .ok (.ifCond .eq 8, 3) := by decide +kernel
theorem dX3_link_16 : decode cX3_link 16 = .ok (.iload_n 1, 1) := by decide +kernel
theorem dX3_link_17 : decode cX3_link 17 = .ok (.iload_n 2, 1) := by decide +kernel
theorem dX3_link_18 : decode cX3_link 18 = .ok (.if_icmp .ne 5, 3) := by decide +kernel
theorem dX3_link_21 : decode cX3_link 21 = .ok (.iconst (-1), 1) := by decide +kernel
theorem dX3_link_22 : decode cX3_link 22 = .ok (.ireturn, 1) := by decide +kernel
theorem dX3_link_23 : decode cX3_link 23 = .ok (.aload_n 0, 1) := by decide +kernel
theorem dX3_link_24 : decode cX3_link 24 = .ok (.getfield 24, 3) := by decide +kernel
theorem dX3_link_27 : decode cX3_link 27 = .ok (.iload_n 1, 1) := by decide +kernel
theorem dX3_link_28 : decode cX3_link 28 = .ok (.iaload, 1) := by decide +kernel
theorem dX3_link_29 : decode cX3_link 29 = .ok (.iload_n 2, 1) := by decide +kernel
theorem dX3_link_30 : decode cX3_link 30 = .ok (.invokestatic 43, 3) := by decide +kernel
theorem dX3_link_33 : decode cX3_link 33 = .ok (.ifCond .eq 7, 3) := by decide +kernel
theorem dX3_link_36 : decode cX3_link 36 = .ok (.iconst 1, 1) := by decide +kernel
theorem dX3_link_37 : decode cX3_link 37 = .ok (.goto 4, 3) := by decide +kernel
theorem dX3_link_40 : decode cX3_link 40 = .ok (.iconst 0, 1) := by decide +kernel
theorem dX3_link_41 : decode cX3_link 41 = .ok (.istore 4, 2) := by decide +kernel
theorem dX3_link_43 : decode cX3_link 43 = .ok (.aload_n 0, 1) := by decide +kernel
theorem dX3_link_44 : decode cX3_link 44 = .ok (.getfield 24, 3) := by decide +kernel
theorem dX3_link_47 : decode cX3_link 47 = .ok (.iload_n 1, 1) := by decide +kernel
theorem dX3_link_48 : decode cX3_link 48 = .ok (.iload_n 3, 1) := by decide +kernel
theorem dX3_link_49 : decode cX3_link 49 = .ok (.ifCond .eq 16, 3) := by decide +kernel
theorem dX3_link_52 : decode cX3_link 52 = .ok (.aload_n 0, 1) := by decide +kernel
theorem dX3_link_53 : decode cX3_link 53 = .ok (.getfield 24, 3) := by decide +kernel
theorem dX3_link_56 : decode cX3_link 56 = .ok (.iload_n 1, 1) := by decide +kernel
theorem dX3_link_57 : decode cX3_link 57 = .ok (.iaload, 1) := by decide +kernel
theorem dX3_link_58 : decode cX3_link 58 = .ok (.iconst 1, 1) := by decide +kernel
theorem dX3_link_59 : decode cX3_link 59 = .ok (.iload_n 2, 1) := by decide +kernel
theorem dX3_link_60 : decode cX3_link 60 = .ok (.ishl, 1) := by decide +kernel
theorem dX3_link_61 : decode cX3_link 61 = .ok (.ior, 1) := by decide +kernel
theorem dX3_link_62 : decode cX3_link 62 = .ok (.goto 15, 3) := by decide +kernel
theorem dX3_link_65 : decode cX3_link 65 = .ok (.aload_n 0, 1) := by decide +kernel
theorem dX3_link_66 : decode cX3_link 66 = .ok (.getfield 24, 3) := by decide +kernel
theorem dX3_link_69 : decode cX3_link 69 = .ok (.iload_n 1, 1) := by decide +kernel
theorem dX3_link_70 : decode cX3_link 70 = .ok (.iaload, 1) := by decide +kernel
theorem dX3_link_71 : decode cX3_link 71 = .ok (.iconst 1, 1) := by decide +kernel
theorem dX3_link_72 : decode cX3_link 72 = .ok (.iload_n 2, 1) := by decide +kernel
theorem dX3_link_73 : decode cX3_link 73 = .ok (.ishl, 1) := by decide +kernel
theorem dX3_link_74 : decode cX3_link 74 = .ok (.iconst (-1), 1) := by decide +kernel
theorem dX3_link_75 : decode cX3_link 75 = .ok (.ixor, 1) := by decide +kernel
theorem dX3_link_76 : decode cX3_link 76 = .ok (.iand, 1) := by decide +kernel
theorem dX3_link_77 : decode cX3_link 77 = .ok (.iastore, 1) := by decide +kernel
theorem dX3_link_78 : decode cX3_link 78 = .ok (.iload 4, 2) := by decide +kernel
theorem dX3_link_80 : decode cX3_link 80 = .ok (.ireturn, 1) := by decide +kernel
theorem dX3_changeLoss_0 : decode cX3_changeLoss 0 = .ok (.iload_n 1, 1) := by decide +kernel
theorem dX3_changeLoss_1 : decode cX3_changeLoss 1 = .ok (.ifCond .lt 10, 3) := by decide +kernel
theorem dX3_changeLoss_4 : decode cX3_changeLoss 4 = .ok (.iload_n 1, 1) := by decide +kernel
theorem dX3_changeLoss_5 : decode cX3_changeLoss 5 = .ok (.sipush 300, 3) := by decide +kernel
theorem dX3_changeLoss_8 : decode cX3_changeLoss 8 = .ok (.if_icmp .le 6, 3) := by decide +kernel
theorem dX3_changeLoss_11 : decode cX3_changeLoss 11 = .ok (.bipush (-2), 2) := by decide +kernel
theorem dX3_changeLoss_13 : decode cX3_changeLoss 13 = .ok (.ireturn, 1) := by decide +kernel
theorem dX3_changeLoss_14 : decode cX3_changeLoss 14 = .ok (.aload_n 0, 1) := by decide +kernel
theorem dX3_changeLoss_15 : decode cX3_changeLoss 15 = .ok (.getfield 46, 3) := by decide +kernel
theorem dX3_changeLoss_18 : decode cX3_changeLoss 18 = .ok (.istore_n 2, 1) := by decide +kernel
theorem dX3_changeLoss_19 : decode cX3_changeLoss 19 = .ok (.aload_n 0, 1) := by decide +kernel
theorem dX3_changeLoss_20 : decode cX3_changeLoss 20 = .ok (.iload_n 1, 1) := by decide +kernel
theorem dX3_changeLoss_21 : decode cX3_changeLoss 21 = .ok (.putfield 46, 3) := by decide +kernel
theorem dX3_changeLoss_24 : decode cX3_changeLoss 24 = .ok (.iload_n 2, 1) := by decide +kernel
theorem dX3_changeLoss_25 : decode cX3_changeLoss 25 = .ok (.ireturn, 1) := by decide +kernel
theorem dX3_references_0 : decode cX3_references 0 = .ok (.iconst 0, 1) := by decide +kernel
theorem dX3_references_1 : decode cX3_references 1 = .ok (.istore_n 1, 1) := by decide +kernel
theorem dX3_references_2 : decode cX3_references 2 = .ok (.iconst 0, 1) := by decide +kernel
theorem dX3_references_3 : decode cX3_references 3 = .ok (.istore_n 2, 1) := by decide +kernel
theorem dX3_references_4 : decode cX3_references 4 = .ok (.iload_n 2, 1) := by decide +kernel
theorem dX3_references_5 : decode cX3_references 5 = .ok (.aload_n 0, 1) := by decide +kernel
theorem dX3_references_6 : decode cX3_references 6 = .ok (.getfield 27, 3) := by decide +kernel
theorem dX3_references_9 : decode cX3_references 9 = .ok (.if_icmp .ge 21, 3) := by decide +kernel
theorem dX3_references_12 : decode cX3_references 12 = .ok (.iload_n 1, 1) := by decide +kernel
theorem dX3_references_13 : decode cX3_references 13 = .ok (.aload_n 0, 1) := by decide +kernel
theorem dX3_references_14 : decode cX3_references 14 = .ok (.getfield 24, 3) := by decide +kernel
theorem dX3_references_17 : decode cX3_references 17 = .ok (.iload_n 2, 1) := by decide +kernel
theorem dX3_references_18 : decode cX3_references 18 = .ok (.iaload, 1) := by decide +kernel
theorem dX3_references_19 : decode cX3_references 19 = .ok (.invokestatic 49, 3) := by decide +kernel
theorem dX3_references_22 : decode cX3_references 22 = .ok (.iadd, 1) := by decide +kernel
theorem dX3_references_23 : decode cX3_references 23 = .ok (.istore_n 1, 1) := by decide +kernel
theorem dX3_references_24 : decode cX3_references 24 = .ok (.iinc 2 1, 3) := by decide +kernel
theorem dX3_references_27 : decode cX3_references 27 = .ok (.goto (-23), 3) := by decide +kernel
theorem dX3_references_30 : decode cX3_references 30 = .ok (.iload_n 1, 1) := by decide +kernel
theorem dX3_references_31 : decode cX3_references 31 = .ok (.ireturn, 1) := by decide +kernel
theorem dX3_undergo_0 : decode cX3_undergo 0 = .ok (.iload_n 1, 1) := by decide +kernel
theorem dX3_undergo_1 : decode cX3_undergo 1 = .ok (.ifCond .ne 12, 3) := by decide +kernel
theorem dX3_undergo_4 : decode cX3_undergo 4 = .ok (.aload_n 0, 1) := by decide +kernel
theorem dX3_undergo_5 : decode cX3_undergo 5 = .ok (.iload_n 2, 1) := by decide +kernel
theorem dX3_undergo_6 : decode cX3_undergo 6 = .ok (.invokevirtual 55, 3) := by decide +kernel
theorem dX3_undergo_9 : decode cX3_undergo 9 = .ok (.pop, 1) := by decide +kernel
theorem dX3_undergo_10 : decode cX3_undergo 10 = .ok (.goto 71, 3) := by decide +kernel
theorem dX3_undergo_13 : decode cX3_undergo 13 = .ok (.iload_n 1, 1) := by decide +kernel
theorem dX3_undergo_14 : decode cX3_undergo 14 = .ok (.iconst 1, 1) := by decide +kernel
theorem dX3_undergo_15 : decode cX3_undergo 15 = .ok (.if_icmp .ne 14, 3) := by decide +kernel
theorem dX3_undergo_18 : decode cX3_undergo 18 = .ok (.aload_n 0, 1) := by decide +kernel
theorem dX3_undergo_19 : decode cX3_undergo 19 = .ok (.iload_n 2, 1) := by decide +kernel
theorem dX3_undergo_20 : decode cX3_undergo 20 = .ok (.iconst 1, 1) := by decide +kernel
theorem dX3_undergo_21 : decode cX3_undergo 21 = .ok (.iconst 0, 1) := by decide +kernel
theorem dX3_undergo_22 : decode cX3_undergo 22 = .ok (.invokevirtual 58, 3) := by decide +kernel
theorem dX3_undergo_25 : decode cX3_undergo 25 = .ok (.pop, 1) := by decide +kernel
theorem dX3_undergo_26 : decode cX3_undergo 26 = .ok (.goto 55, 3) := by decide +kernel
theorem dX3_undergo_29 : decode cX3_undergo 29 = .ok (.iload_n 1, 1) := by decide +kernel
theorem dX3_undergo_30 : decode cX3_undergo 30 = .ok (.iconst 2, 1) := by decide +kernel
theorem dX3_undergo_31 : decode cX3_undergo 31 = .ok (.if_icmp .ne 21, 3) := by decide +kernel
theorem dX3_undergo_34 : decode cX3_undergo 34 = .ok (.aload_n 0, 1) := by decide +kernel
theorem dX3_undergo_35 : decode cX3_undergo 35 = .ok (.iload_n 2, 1) := by decide +kernel
theorem dX3_undergo_36 : decode cX3_undergo 36 = .ok (.invokevirtual 35, 3) := by decide +kernel
theorem dX3_undergo_39 : decode cX3_undergo 39 = .ok (.ifCond .eq 13, 3) := by decide +kernel
theorem dX3_undergo_42 : decode cX3_undergo 42 = .ok (.aload_n 0, 1) := by decide +kernel
theorem dX3_undergo_43 : decode cX3_undergo 43 = .ok (.getfield 24, 3) := by decide +kernel
theorem dX3_undergo_46 : decode cX3_undergo 46 = .ok (.iload_n 2, 1) := by decide +kernel
theorem dX3_undergo_47 : decode cX3_undergo 47 = .ok (.iconst 0, 1) := by decide +kernel
theorem dX3_undergo_48 : decode cX3_undergo 48 = .ok (.iastore, 1) := by decide +kernel
theorem dX3_undergo_49 : decode cX3_undergo 49 = .ok (.goto 32, 3) := by decide +kernel
theorem dX3_undergo_52 : decode cX3_undergo 52 = .ok (.iload_n 1, 1) := by decide +kernel
theorem dX3_undergo_53 : decode cX3_undergo 53 = .ok (.iconst 3, 1) := by decide +kernel
theorem dX3_undergo_54 : decode cX3_undergo 54 = .ok (.if_icmp .ne 27, 3) := by decide +kernel
theorem dX3_undergo_57 : decode cX3_undergo 57 = .ok (.iconst 0, 1) := by decide +kernel
theorem dX3_undergo_58 : decode cX3_undergo 58 = .ok (.istore_n 3, 1) := by decide +kernel
theorem dX3_undergo_59 : decode cX3_undergo 59 = .ok (.iload_n 3, 1) := by decide +kernel
theorem dX3_undergo_60 : decode cX3_undergo 60 = .ok (.aload_n 0, 1) := by decide +kernel
theorem dX3_undergo_61 : decode cX3_undergo 61 = .ok (.getfield 27, 3) := by decide +kernel
theorem dX3_undergo_64 : decode cX3_undergo 64 = .ok (.if_icmp .ge 17, 3) := by decide +kernel
theorem dX3_undergo_67 : decode cX3_undergo 67 = .ok (.aload_n 0, 1) := by decide +kernel
theorem dX3_undergo_68 : decode cX3_undergo 68 = .ok (.iload_n 3, 1) := by decide +kernel
theorem dX3_undergo_69 : decode cX3_undergo 69 = .ok (.iconst 2, 1) := by decide +kernel
theorem dX3_undergo_70 : decode cX3_undergo 70 = .ok (.iload_n 2, 1) := by decide +kernel
theorem dX3_undergo_71 : decode cX3_undergo 71 = .ok (.invokevirtual 58, 3) := by decide +kernel
theorem dX3_undergo_74 : decode cX3_undergo 74 = .ok (.pop, 1) := by decide +kernel
theorem dX3_undergo_75 : decode cX3_undergo 75 = .ok (.iinc 3 1, 3) := by decide +kernel
theorem dX3_undergo_78 : decode cX3_undergo 78 = .ok (.goto (-19), 3) := by decide +kernel
theorem dX3_undergo_81 : decode cX3_undergo 81 = .ok (.return_, 1) := by decide +kernel
theorem dX3_copyFrom_0 : decode cX3_copyFrom 0 = .ok (.aload_n 1, 1) := by decide +kernel
theorem dX3_copyFrom_1 : decode cX3_copyFrom 1 = .ok (.getfield 9, 3) := by decide +kernel
theorem dX3_copyFrom_4 : decode cX3_copyFrom 4 = .ok (.iconst 0, 1) := by decide +kernel
theorem dX3_copyFrom_5 : decode cX3_copyFrom 5 = .ok (.aload_n 0, 1) := by decide +kernel
theorem dX3_copyFrom_6 : decode cX3_copyFrom 6 = .ok (.getfield 9, 3) := by decide +kernel
theorem dX3_copyFrom_9 : decode cX3_copyFrom 9 = .ok (.iconst 0, 1) := by decide +kernel
theorem dX3_copyFrom_10 : decode cX3_copyFrom 10 = .ok (.bipush 6, 2) := by decide +kernel
theorem dX3_copyFrom_12 : decode cX3_copyFrom 12 = .ok (.invokestatic 62, 3) := by decide +kernel
theorem dX3_copyFrom_15 : decode cX3_copyFrom 15 = .ok (.aload_n 1, 1) := by decide +kernel
theorem dX3_copyFrom_16 : decode cX3_copyFrom 16 = .ok (.getfield 15, 3) := by decide +kernel
theorem dX3_copyFrom_19 : decode cX3_copyFrom 19 = .ok (.iconst 0, 1) := by decide +kernel
theorem dX3_copyFrom_20 : decode cX3_copyFrom 20 = .ok (.aload_n 0, 1) := by decide +kernel
theorem dX3_copyFrom_21 : decode cX3_copyFrom 21 = .ok (.getfield 15, 3) := by decide +kernel
theorem dX3_copyFrom_24 : decode cX3_copyFrom 24 = .ok (.iconst 0, 1) := by decide +kernel
theorem dX3_copyFrom_25 : decode cX3_copyFrom 25 = .ok (.bipush 6, 2) := by decide +kernel
theorem dX3_copyFrom_27 : decode cX3_copyFrom 27 = .ok (.invokestatic 62, 3) := by decide +kernel
theorem dX3_copyFrom_30 : decode cX3_copyFrom 30 = .ok (.aload_n 1, 1) := by decide +kernel
theorem dX3_copyFrom_31 : decode cX3_copyFrom 31 = .ok (.getfield 18, 3) := by decide +kernel
theorem dX3_copyFrom_34 : decode cX3_copyFrom 34 = .ok (.iconst 0, 1) := by decide +kernel
theorem dX3_copyFrom_35 : decode cX3_copyFrom 35 = .ok (.aload_n 0, 1) := by decide +kernel
theorem dX3_copyFrom_36 : decode cX3_copyFrom 36 = .ok (.getfield 18, 3) := by decide +kernel
theorem dX3_copyFrom_39 : decode cX3_copyFrom 39 = .ok (.iconst 0, 1) := by decide +kernel
theorem dX3_copyFrom_40 : decode cX3_copyFrom 40 = .ok (.bipush 6, 2) := by decide +kernel
theorem dX3_copyFrom_42 : decode cX3_copyFrom 42 = .ok (.invokestatic 62, 3) := by decide +kernel
theorem dX3_copyFrom_45 : decode cX3_copyFrom 45 = .ok (.aload_n 1, 1) := by decide +kernel
theorem dX3_copyFrom_46 : decode cX3_copyFrom 46 = .ok (.getfield 21, 3) := by decide +kernel
theorem dX3_copyFrom_49 : decode cX3_copyFrom 49 = .ok (.iconst 0, 1) := by decide +kernel
theorem dX3_copyFrom_50 : decode cX3_copyFrom 50 = .ok (.aload_n 0, 1) := by decide +kernel
theorem dX3_copyFrom_51 : decode cX3_copyFrom 51 = .ok (.getfield 21, 3) := by decide +kernel
theorem dX3_copyFrom_54 : decode cX3_copyFrom 54 = .ok (.iconst 0, 1) := by decide +kernel
theorem dX3_copyFrom_55 : decode cX3_copyFrom 55 = .ok (.bipush 6, 2) := by decide +kernel
theorem dX3_copyFrom_57 : decode cX3_copyFrom 57 = .ok (.invokestatic 62, 3) := by decide +kernel
theorem dX3_copyFrom_60 : decode cX3_copyFrom 60 = .ok (.aload_n 1, 1) := by decide +kernel
theorem dX3_copyFrom_61 : decode cX3_copyFrom 61 = .ok (.getfield 24, 3) := by decide +kernel
theorem dX3_copyFrom_64 : decode cX3_copyFrom 64 = .ok (.iconst 0, 1) := by decide +kernel
theorem dX3_copyFrom_65 : decode cX3_copyFrom 65 = .ok (.aload_n 0, 1) := by decide +kernel
theorem dX3_copyFrom_66 : decode cX3_copyFrom 66 = .ok (.getfield 24, 3) := by decide +kernel
theorem dX3_copyFrom_69 : decode cX3_copyFrom 69 = .ok (.iconst 0, 1) := by decide +kernel
theorem dX3_copyFrom_70 : decode cX3_copyFrom 70 = .ok (.bipush 6, 2) := by decide +kernel
theorem dX3_copyFrom_72 : decode cX3_copyFrom 72 = .ok (.invokestatic 62, 3) := by decide +kernel
theorem dX3_copyFrom_75 : decode cX3_copyFrom 75 = .ok (.aload_n 0, 1) := by decide +kernel
theorem dX3_copyFrom_76 : decode cX3_copyFrom 76 = .ok (.aload_n 1, 1) := by decide +kernel
theorem dX3_copyFrom_77 : decode cX3_copyFrom 77 = .ok (.getfield 27, 3) := by decide +kernel
theorem dX3_copyFrom_80 : decode cX3_copyFrom 80 = .ok (.putfield 27, 3) := by decide +kernel
theorem dX3_copyFrom_83 : decode cX3_copyFrom 83 = .ok (.aload_n 0, 1) := by decide +kernel
theorem dX3_copyFrom_84 : decode cX3_copyFrom 84 = .ok (.aload_n 1, 1) := by decide +kernel
theorem dX3_copyFrom_85 : decode cX3_copyFrom 85 = .ok (.getfield 46, 3) := by decide +kernel
theorem dX3_copyFrom_88 : decode cX3_copyFrom 88 = .ok (.putfield 46, 3) := by decide +kernel
theorem dX3_copyFrom_91 : decode cX3_copyFrom 91 = .ok (.return_, 1) := by decide +kernel
theorem dX4_init_0 : decode cX4_init 0 = .ok (.aload_n 0, 1) := by decide +kernel
theorem dX4_init_1 : decode cX4_init 1 = .ok (.invokespecial 3, 3) := by decide +kernel
theorem dX4_init_4 : decode cX4_init 4 = .ok (.aload_n 0, 1) := by decide +kernel
theorem dX4_init_5 : decode cX4_init 5 = .ok (.bipush 60, 2) := by decide +kernel
theorem dX4_init_7 : decode cX4_init 7 = .ok (.newarray .long, 2) := by decide +kernel
theorem dX4_init_9 : decode cX4_init 9 = .ok (.putfield 9, 3) := by decide +kernel
theorem dX4_init_12 : decode cX4_init 12 = .ok (.aload_n 0, 1) := by decide +kernel
theorem dX4_init_13 : decode cX4_init 13 = .ok (.iconst (-1), 1) := by decide +kernel
theorem dX4_init_14 : decode cX4_init 14 = .ok (.putfield 15, 3) := by decide +kernel
theorem dX4_init_17 : decode cX4_init 17 = .ok (.return_, 1) := by decide +kernel
theorem dX4_holds_0 : decode cX4_holds 0 = .ok (.aload_n 0, 1) := by decide +kernel
theorem dX4_holds_1 : decode cX4_holds 1 = .ok (.getfield 15, 3) := by decide +kernel
theorem dX4_holds_4 : decode cX4_holds 4 = .ok (.iconst (-1), 1) := by decide +kernel
theorem dX4_holds_5 : decode cX4_holds 5 = .ok (.if_icmp .eq 7, 3) := by decide +kernel
theorem dX4_holds_8 : decode cX4_holds 8 = .ok (.iconst 1, 1) := by decide +kernel
theorem dX4_holds_9 : decode cX4_holds 9 = .ok (.goto 4, 3) := by decide +kernel
theorem dX4_holds_12 : decode cX4_holds 12 = .ok (.iconst 0, 1) := by decide +kernel
theorem dX4_holds_13 : decode cX4_holds 13 = .ok (.ireturn, 1) := by decide +kernel
theorem dX4_become_0 : decode cX4_become 0 = .ok (.aload_n 0, 1) := by decide +kernel
theorem dX4_become_1 : decode cX4_become 1 = .ok (.iload_n 1, 1) := by decide +kernel
theorem dX4_become_2 : decode cX4_become 2 = .ok (.putfield 15, 3) := by decide +kernel
theorem dX4_become_5 : decode cX4_become 5 = .ok (.aload_n 0, 1) := by decide +kernel
theorem dX4_become_6 : decode cX4_become 6 = .ok (.iconst 0, 1) := by decide +kernel
theorem dX4_become_7 : decode cX4_become 7 = .ok (.iload_n 2, 1) := by decide +kernel
theorem dX4_become_8 : decode cX4_become 8 = .ok (.bipush 60, 2) := by decide +kernel
theorem dX4_become_10 : decode cX4_become 10 = .ok (.invokestatic 19, 3) := by decide +kernel
theorem dX4_become_13 : decode cX4_become 13 = .ok (.invokestatic 25, 3) := by decide +kernel
theorem dX4_become_16 : decode cX4_become 16 = .ok (.putfield 28, 3) := by decide +kernel
theorem dX4_become_19 : decode cX4_become 19 = .ok (.iconst 0, 1) := by decide +kernel
theorem dX4_become_20 : decode cX4_become 20 = .ok (.istore_n 3, 1) := by decide +kernel
theorem dX4_become_21 : decode cX4_become 21 = .ok (.iload_n 3, 1) := by decide +kernel
theorem dX4_become_22 : decode cX4_become 22 = .ok (.bipush 60, 2) := by decide +kernel
theorem dX4_become_24 : decode cX4_become 24 = .ok (.if_icmp .ge 16, 3) := by decide +kernel
theorem dX4_become_27 : decode cX4_become 27 = .ok (.aload_n 0, 1) := by decide +kernel
theorem dX4_become_28 : decode cX4_become 28 = .ok (.getfield 9, 3) := by decide +kernel
theorem dX4_become_31 : decode cX4_become 31 = .ok (.iload_n 3, 1) := by decide +kernel
theorem dX4_become_32 : decode cX4_become 32 = .ok (.lconst 0, 1) := by decide +kernel
theorem dX4_become_33 : decode cX4_become 33 = .ok (.lastore, 1) := by decide +kernel
theorem dX4_become_34 : decode cX4_become 34 = .ok (.iinc 3 1, 3) := by decide +kernel
theorem dX4_become_37 : decode cX4_become 37 = .ok (.goto (-16), 3) := by decide +kernel
theorem dX4_become_40 : decode cX4_become 40 = .ok (.return_, 1) := by decide +kernel
theorem dX4_hasPlace_0 : decode cX4_hasPlace 0 = .ok (.iload_n 1, 1) := by decide +kernel
theorem dX4_hasPlace_1 : decode cX4_hasPlace 1 = .ok (.ifCond .lt 15, 3) := by decide +kernel
theorem dX4_hasPlace_4 : decode cX4_hasPlace 4 = .ok (.iload_n 1, 1) := by decide +kernel
theorem dX4_hasPlace_5 : decode cX4_hasPlace 5 = .ok (.aload_n 0, 1) := by decide +kernel
theorem dX4_hasPlace_6 : decode cX4_hasPlace 6 = .ok (.getfield 28, 3) := by decide +kernel
theorem dX4_hasPlace_9 : decode cX4_hasPlace 9 = .ok (.if_icmp .ge 7, 3) := by decide +kernel
theorem dX4_hasPlace_12 : decode cX4_hasPlace 12 = .ok (.iconst 1, 1) := by decide +kernel
theorem dX4_hasPlace_13 : decode cX4_hasPlace 13 = .ok (.goto 4, 3) := by decide +kernel
theorem dX4_hasPlace_16 : decode cX4_hasPlace 16 = .ok (.iconst 0, 1) := by decide +kernel
theorem dX4_hasPlace_17 : decode cX4_hasPlace 17 = .ok (.ireturn, 1) := by decide +kernel
theorem dX4_hasStretch_0 : decode cX4_hasStretch 0 = .ok (.iload_n 1, 1) := by decide +kernel
theorem dX4_hasStretch_1 : decode cX4_hasStretch 1 = .ok (.ifCond .lt 29, 3) := by decide +kernel
theorem dX4_hasStretch_4 : decode cX4_hasStretch 4 = .ok (.iload_n 2, 1) := by decide +kernel
theorem dX4_hasStretch_5 : decode cX4_hasStretch 5 = .ok (.ifCond .lt 25, 3) := by decide +kernel
theorem dX4_hasStretch_8 : decode cX4_hasStretch 8 = .ok (.iload_n 2, 1) := by decide +kernel
theorem dX4_hasStretch_9 : decode cX4_hasStretch 9 = .ok (.aload_n 0, 1) := by decide +kernel
theorem dX4_hasStretch_10 : decode cX4_hasStretch 10 = .ok (.getfield 28, 3) := by decide +kernel
theorem dX4_hasStretch_13 : decode cX4_hasStretch 13 = .ok (.if_icmp .gt 17, 3) := by decide +kernel
theorem dX4_hasStretch_16 : decode cX4_hasStretch 16 = .ok (.iload_n 1, 1) := by decide +kernel
theorem dX4_hasStretch_17 : decode cX4_hasStretch 17 = .ok (.aload_n 0, 1) := by decide +kernel
theorem dX4_hasStretch_18 : decode cX4_hasStretch 18 = .ok (.getfield 28, 3) := by decide +kernel
theorem dX4_hasStretch_21 : decode cX4_hasStretch 21 = .ok (.iload_n 2, 1) := by decide +kernel
theorem dX4_hasStretch_22 : decode cX4_hasStretch 22 = .ok (.isub, 1) := by decide +kernel
theorem dX4_hasStretch_23 : decode cX4_hasStretch 23 = .ok (.if_icmp .gt 7, 3) := by decide +kernel
theorem dX4_hasStretch_26 : decode cX4_hasStretch 26 = .ok (.iconst 1, 1) := by decide +kernel
theorem dX4_hasStretch_27 : decode cX4_hasStretch 27 = .ok (.goto 4, 3) := by decide +kernel
theorem dX4_hasStretch_30 : decode cX4_hasStretch 30 = .ok (.iconst 0, 1) := by decide +kernel
theorem dX4_hasStretch_31 : decode cX4_hasStretch 31 = .ok (.ireturn, 1) := by decide +kernel
theorem dX5_init_0 : decode cX5_init 0 = .ok (.aload_n 0, 1) := by decide +kernel
theorem dX5_init_1 : decode cX5_init 1 = .ok (.invokespecial 3, 3) := by decide +kernel
theorem dX5_init_4 : decode cX5_init 4 = .ok (.aload_n 0, 1) := by decide +kernel
theorem dX5_init_5 : decode cX5_init 5 = .ok (.new 9, 3) := by decide +kernel
theorem dX5_init_8 : decode cX5_init 8 = .ok (.dup, 1) := by decide +kernel
theorem dX5_init_9 : decode cX5_init 9 = .ok (.invokespecial 11, 3) := by decide +kernel
theorem dX5_init_12 : decode cX5_init 12 = .ok (.putfield 12, 3) := by decide +kernel
theorem dX5_init_15 : decode cX5_init 15 = .ok (.aload_n 0, 1) := by decide +kernel
theorem dX5_init_16 : decode cX5_init 16 = .ok (.new 18, 3) := by decide +kernel
theorem dX5_init_19 : decode cX5_init 19 = .ok (.dup, 1) := by decide +kernel
theorem dX5_init_20 : decode cX5_init 20 = .ok (.iconst 5, 1) := by decide +kernel
theorem dX5_init_21 : decode cX5_init 21 = .ok (.invokespecial 20, 3) := by decide +kernel
theorem dX5_init_24 : decode cX5_init 24 = .ok (.putfield 23, 3) := by decide +kernel
theorem dX5_init_27 : decode cX5_init 27 = .ok (.aload_n 0, 1) := by decide +kernel
theorem dX5_init_28 : decode cX5_init 28 = .ok (.new 18, 3) := by decide +kernel
theorem dX5_init_31 : decode cX5_init 31 = .ok (.dup, 1) := by decide +kernel
theorem dX5_init_32 : decode cX5_init 32 = .ok (.bipush 8, 2) := by decide +kernel
theorem dX5_init_34 : decode cX5_init 34 = .ok (.invokespecial 20, 3) := by decide +kernel
theorem dX5_init_37 : decode cX5_init 37 = .ok (.putfield 27, 3) := by decide +kernel
theorem dX5_init_40 : decode cX5_init 40 = .ok (.aload_n 0, 1) := by decide +kernel
theorem dX5_init_41 : decode cX5_init 41 = .ok (.new 18, 3) := by decide +kernel
theorem dX5_init_44 : decode cX5_init 44 = .ok (.dup, 1) := by decide +kernel
theorem dX5_init_45 : decode cX5_init 45 = .ok (.bipush 8, 2) := by decide +kernel
theorem dX5_init_47 : decode cX5_init 47 = .ok (.invokespecial 20, 3) := by decide +kernel
theorem dX5_init_50 : decode cX5_init 50 = .ok (.putfield 30, 3) := by decide +kernel
theorem dX5_init_53 : decode cX5_init 53 = .ok (.return_, 1) := by decide +kernel
theorem dX5_copyFrom_0 : decode cX5_copyFrom 0 = .ok (.aload_n 0, 1) := by decide +kernel
theorem dX5_copyFrom_1 : decode cX5_copyFrom 1 = .ok (.getfield 12, 3) := by decide +kernel
theorem dX5_copyFrom_4 : decode cX5_copyFrom 4 = .ok (.aload_n 1, 1) := by decide +kernel
theorem dX5_copyFrom_5 : decode cX5_copyFrom 5 = .ok (.getfield 12, 3) := by decide +kernel
theorem dX5_copyFrom_8 : decode cX5_copyFrom 8 = .ok (.invokevirtual 33, 3) := by decide +kernel
theorem dX5_copyFrom_11 : decode cX5_copyFrom 11 = .ok (.aload_n 0, 1) := by decide +kernel
theorem dX5_copyFrom_12 : decode cX5_copyFrom 12 = .ok (.getfield 23, 3) := by decide +kernel
theorem dX5_copyFrom_15 : decode cX5_copyFrom 15 = .ok (.aload_n 1, 1) := by decide +kernel
theorem dX5_copyFrom_16 : decode cX5_copyFrom 16 = .ok (.getfield 23, 3) := by decide +kernel
theorem dX5_copyFrom_19 : decode cX5_copyFrom 19 = .ok (.invokevirtual 37, 3) := by decide +kernel
theorem dX5_copyFrom_22 : decode cX5_copyFrom 22 = .ok (.aload_n 0, 1) := by decide +kernel
theorem dX5_copyFrom_23 : decode cX5_copyFrom 23 = .ok (.getfield 27, 3) := by decide +kernel
theorem dX5_copyFrom_26 : decode cX5_copyFrom 26 = .ok (.aload_n 1, 1) := by decide +kernel
theorem dX5_copyFrom_27 : decode cX5_copyFrom 27 = .ok (.getfield 27, 3) := by decide +kernel
theorem dX5_copyFrom_30 : decode cX5_copyFrom 30 = .ok (.invokevirtual 37, 3) := by decide +kernel
theorem dX5_copyFrom_33 : decode cX5_copyFrom 33 = .ok (.aload_n 0, 1) := by decide +kernel
