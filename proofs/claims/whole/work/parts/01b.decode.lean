theorem dX0_init_0 : decode cX0_init 0 = .ok (.aload_n 0, 1) := by decide +kernel
theorem dX0_init_1 : decode cX0_init 1 = .ok (.invokespecial 3, 3) := by decide +kernel
theorem dX0_init_4 : decode cX0_init 4 = .ok (.aload_n 0, 1) := by decide +kernel
theorem dX0_init_5 : decode cX0_init 5 = .ok (.aload_n 1, 1) := by decide +kernel
theorem dX0_init_6 : decode cX0_init 6 = .ok (.putfield 9, 3) := by decide +kernel
theorem dX0_init_9 : decode cX0_init 9 = .ok (.aload_n 0, 1) := by decide +kernel
theorem dX0_init_10 : decode cX0_init 10 = .ok (.bipush 6, 2) := by decide +kernel
theorem dX0_init_12 : decode cX0_init 12 = .ok (.newarray .int, 2) := by decide +kernel
theorem dX0_init_14 : decode cX0_init 14 = .ok (.putfield 15, 3) := by decide +kernel
theorem dX0_init_17 : decode cX0_init 17 = .ok (.aload_n 0, 1) := by decide +kernel
theorem dX0_init_18 : decode cX0_init 18 = .ok (.bipush 6, 2) := by decide +kernel
theorem dX0_init_20 : decode cX0_init 20 = .ok (.newarray .int, 2) := by decide +kernel
theorem dX0_init_22 : decode cX0_init 22 = .ok (.putfield 19, 3) := by decide +kernel
theorem dX0_init_25 : decode cX0_init 25 = .ok (.aload_n 0, 1) := by decide +kernel
theorem dX0_init_26 : decode cX0_init 26 = .ok (.bipush 6, 2) := by decide +kernel
theorem dX0_init_28 : decode cX0_init 28 = .ok (.newarray .int, 2) := by decide +kernel
theorem dX0_init_30 : decode cX0_init 30 = .ok (.putfield 22, 3) := by decide +kernel
theorem dX0_init_33 : decode cX0_init 33 = .ok (.aload_n 0, 1) := by decide +kernel
theorem dX0_init_34 : decode cX0_init 34 = .ok (.bipush 6, 2) := by decide +kernel
theorem dX0_init_36 : decode cX0_init 36 = .ok (.newarray .int, 2) := by decide +kernel
theorem dX0_init_38 : decode cX0_init 38 = .ok (.putfield 25, 3) := by decide +kernel
theorem dX0_init_41 : decode cX0_init 41 = .ok (.aload_n 0, 1) := by decide +kernel
theorem dX0_init_42 : decode cX0_init 42 = .ok (.bipush 6, 2) := by decide +kernel
theorem dX0_init_44 : decode cX0_init 44 = .ok (.newarray .int, 2) := by decide +kernel
theorem dX0_init_46 : decode cX0_init 46 = .ok (.putfield 28, 3) := by decide +kernel
theorem dX0_init_49 : decode cX0_init 49 = .ok (.aload_n 0, 1) := by decide +kernel
theorem dX0_init_50 : decode cX0_init 50 = .ok (.bipush 6, 2) := by decide +kernel
theorem dX0_init_52 : decode cX0_init 52 = .ok (.newarray .int, 2) := by decide +kernel
theorem dX0_init_54 : decode cX0_init 54 = .ok (.putfield 31, 3) := by decide +kernel
theorem dX0_init_57 : decode cX0_init 57 = .ok (.aload_n 0, 1) := by decide +kernel
theorem dX0_init_58 : decode cX0_init 58 = .ok (.bipush 6, 2) := by decide +kernel
theorem dX0_init_60 : decode cX0_init 60 = .ok (.newarray .int, 2) := by decide +kernel
theorem dX0_init_62 : decode cX0_init 62 = .ok (.putfield 34, 3) := by decide +kernel
theorem dX0_init_65 : decode cX0_init 65 = .ok (.aload_n 0, 1) := by decide +kernel
theorem dX0_init_66 : decode cX0_init 66 = .ok (.bipush 6, 2) := by decide +kernel
theorem dX0_init_68 : decode cX0_init 68 = .ok (.newarray .int, 2) := by decide +kernel
theorem dX0_init_70 : decode cX0_init 70 = .ok (.putfield 37, 3) := by decide +kernel
theorem dX0_init_73 : decode cX0_init 73 = .ok (.aload_n 0, 1) := by decide +kernel
theorem dX0_init_74 : decode cX0_init 74 = .ok (.bipush 6, 2) := by decide +kernel
theorem dX0_init_76 : decode cX0_init 76 = .ok (.newarray .int, 2) := by decide +kernel
theorem dX0_init_78 : decode cX0_init 78 = .ok (.putfield 40, 3) := by decide +kernel
theorem dX0_init_81 : decode cX0_init 81 = .ok (.aload_n 0, 1) := by decide +kernel
theorem dX0_init_82 : decode cX0_init 82 = .ok (.bipush 6, 2) := by decide +kernel
theorem dX0_init_84 : decode cX0_init 84 = .ok (.newarray .int, 2) := by decide +kernel
theorem dX0_init_86 : decode cX0_init 86 = .ok (.putfield 43, 3) := by decide +kernel
theorem dX0_init_89 : decode cX0_init 89 = .ok (.aload_n 0, 1) := by decide +kernel
theorem dX0_init_90 : decode cX0_init 90 = .ok (.bipush 6, 2) := by decide +kernel
theorem dX0_init_92 : decode cX0_init 92 = .ok (.newarray .int, 2) := by decide +kernel
theorem dX0_init_94 : decode cX0_init 94 = .ok (.putfield 46, 3) := by decide +kernel
theorem dX0_init_97 : decode cX0_init 97 = .ok (.aload_n 0, 1) := by decide +kernel
theorem dX0_init_98 : decode cX0_init 98 = .ok (.bipush 6, 2) := by decide +kernel
theorem dX0_init_100 : decode cX0_init 100 = .ok (.newarray .int, 2) := by decide +kernel
theorem dX0_init_102 : decode cX0_init 102 = .ok (.putfield 49, 3) := by decide +kernel
theorem dX0_init_105 : decode cX0_init 105 = .ok (.return_, 1) := by decide +kernel
theorem dX0_settle_0 : decode cX0_settle 0 = .ok (.aload_n 0, 1) := by decide +kernel
theorem dX0_settle_1 : decode cX0_settle 1 = .ok (.invokevirtual 52, 3) := by decide +kernel
theorem dX0_settle_4 : decode cX0_settle 4 = .ok (.aload_n 0, 1) := by decide +kernel
theorem dX0_settle_5 : decode cX0_settle 5 = .ok (.aload_n 0, 1) := by decide +kernel
theorem dX0_settle_6 : decode cX0_settle 6 = .ok (.getfield 9, 3) := by decide +kernel
theorem dX0_settle_9 : decode cX0_settle 9 = .ok (.getfield 55, 3) := by decide +kernel
theorem dX0_settle_12 : decode cX0_settle 12 = .ok (.invokevirtual 61, 3) := by decide +kernel
theorem dX0_settle_15 : decode cX0_settle 15 = .ok (.return_, 1) := by decide +kernel
theorem dX0_build_0 : decode cX0_build 0 = .ok (.aload_n 0, 1) := by decide +kernel
theorem dX0_build_1 : decode cX0_build 1 = .ok (.invokevirtual 65, 3) := by decide +kernel
theorem dX0_build_4 : decode cX0_build 4 = .ok (.aload_n 0, 1) := by decide +kernel
theorem dX0_build_5 : decode cX0_build 5 = .ok (.invokevirtual 68, 3) := by decide +kernel
theorem dX0_build_8 : decode cX0_build 8 = .ok (.aload_n 0, 1) := by decide +kernel
theorem dX0_build_9 : decode cX0_build 9 = .ok (.invokevirtual 71, 3) := by decide +kernel
theorem dX0_build_12 : decode cX0_build 12 = .ok (.aload_n 0, 1) := by decide +kernel
theorem dX0_build_13 : decode cX0_build 13 = .ok (.invokevirtual 74, 3) := by decide +kernel
theorem dX0_build_16 : decode cX0_build 16 = .ok (.return_, 1) := by decide +kernel
theorem dX0_findReach_0 : decode cX0_findReach 0 = .ok (.iconst 0, 1) := by decide +kernel
theorem dX0_findReach_1 : decode cX0_findReach 1 = .ok (.istore_n 1, 1) := by decide +kernel
theorem dX0_findReach_2 : decode cX0_findReach 2 = .ok (.iload_n 1, 1) := by decide +kernel
theorem dX0_findReach_3 : decode cX0_findReach 3 = .ok (.aload_n 0, 1) := by decide +kernel
theorem dX0_findReach_4 : decode cX0_findReach 4 = .ok (.getfield 9, 3) := by decide +kernel
theorem dX0_findReach_7 : decode cX0_findReach 7 = .ok (.getfield 77, 3) := by decide +kernel
theorem dX0_findReach_10 : decode cX0_findReach 10 = .ok (.if_icmp .ge 24, 3) := by decide +kernel
theorem dX0_findReach_13 : decode cX0_findReach 13 = .ok (.aload_n 0, 1) := by decide +kernel
theorem dX0_findReach_14 : decode cX0_findReach 14 = .ok (.getfield 15, 3) := by decide +kernel
theorem dX0_findReach_17 : decode cX0_findReach 17 = .ok (.iload_n 1, 1) := by decide +kernel
theorem dX0_findReach_18 : decode cX0_findReach 18 = .ok (.aload_n 0, 1) := by decide +kernel
theorem dX0_findReach_19 : decode cX0_findReach 19 = .ok (.getfield 9, 3) := by decide +kernel
theorem dX0_findReach_22 : decode cX0_findReach 22 = .ok (.getfield 80, 3) := by decide +kernel
theorem dX0_findReach_25 : decode cX0_findReach 25 = .ok (.iload_n 1, 1) := by decide +kernel
theorem dX0_findReach_26 : decode cX0_findReach 26 = .ok (.iaload, 1) := by decide +kernel
theorem dX0_findReach_27 : decode cX0_findReach 27 = .ok (.iastore, 1) := by decide +kernel
theorem dX0_findReach_28 : decode cX0_findReach 28 = .ok (.iinc 1 1, 3) := by decide +kernel
theorem dX0_findReach_31 : decode cX0_findReach 31 = .ok (.goto (-29), 3) := by decide +kernel
theorem dX0_findReach_34 : decode cX0_findReach 34 = .ok (.iconst 0, 1) := by decide +kernel
theorem dX0_findReach_35 : decode cX0_findReach 35 = .ok (.istore_n 1, 1) := by decide +kernel
theorem dX0_findReach_36 : decode cX0_findReach 36 = .ok (.iload_n 1, 1) := by decide +kernel
theorem dX0_findReach_37 : decode cX0_findReach 37 = .ok (.aload_n 0, 1) := by decide +kernel
theorem dX0_findReach_38 : decode cX0_findReach 38 = .ok (.getfield 9, 3) := by decide +kernel
theorem dX0_findReach_41 : decode cX0_findReach 41 = .ok (.getfield 77, 3) := by decide +kernel
theorem dX0_findReach_44 : decode cX0_findReach 44 = .ok (.if_icmp .ge 56, 3) := by decide +kernel
theorem dX0_findReach_47 : decode cX0_findReach 47 = .ok (.iconst 0, 1) := by decide +kernel
theorem dX0_findReach_48 : decode cX0_findReach 48 = .ok (.istore_n 2, 1) := by decide +kernel
theorem dX0_findReach_49 : decode cX0_findReach 49 = .ok (.iload_n 2, 1) := by decide +kernel
theorem dX0_findReach_50 : decode cX0_findReach 50 = .ok (.aload_n 0, 1) := by decide +kernel
theorem dX0_findReach_51 : decode cX0_findReach 51 = .ok (.getfield 9, 3) := by decide +kernel
theorem dX0_findReach_54 : decode cX0_findReach 54 = .ok (.getfield 77, 3) := by decide +kernel
theorem dX0_findReach_57 : decode cX0_findReach 57 = .ok (.if_icmp .ge 37, 3) := by decide +kernel
theorem dX0_findReach_60 : decode cX0_findReach 60 = .ok (.aload_n 0, 1) := by decide +kernel
theorem dX0_findReach_61 : decode cX0_findReach 61 = .ok (.getfield 15, 3) := by decide +kernel
theorem dX0_findReach_64 : decode cX0_findReach 64 = .ok (.iload_n 2, 1) := by decide +kernel
theorem dX0_findReach_65 : decode cX0_findReach 65 = .ok (.iaload, 1) := by decide +kernel
theorem dX0_findReach_66 : decode cX0_findReach 66 = .ok (.iload_n 1, 1) := by decide +kernel
theorem dX0_findReach_67 : decode cX0_findReach 67 = .ok (.invokestatic 83, 3) := by decide +kernel
theorem dX0_findReach_70 : decode cX0_findReach 70 = .ok (.ifCond .eq 18, 3) := by decide +kernel
theorem dX0_findReach_73 : decode cX0_findReach 73 = .ok (.aload_n 0, 1) := by decide +kernel
theorem dX0_findReach_74 : decode cX0_findReach 74 = .ok (.getfield 15, 3) := by decide +kernel
theorem dX0_findReach_77 : decode cX0_findReach 77 = .ok (.iload_n 2, 1) := by decide +kernel
theorem dX0_findReach_78 : decode cX0_findReach 78 = .ok (.dup2, 1) := by decide +kernel
theorem dX0_findReach_79 : decode cX0_findReach 79 = .ok (.iaload, 1) := by decide +kernel
theorem dX0_findReach_80 : decode cX0_findReach 80 = .ok (.aload_n 0, 1) := by decide +kernel
theorem dX0_findReach_81 : decode cX0_findReach 81 = .ok (.getfield 15, 3) := by decide +kernel
theorem dX0_findReach_84 : decode cX0_findReach 84 = .ok (.iload_n 1, 1) := by decide +kernel
theorem dX0_findReach_85 : decode cX0_findReach 85 = .ok (.iaload, 1) := by decide +kernel
theorem dX0_findReach_86 : decode cX0_findReach 86 = .ok (.ior, 1) := by decide +kernel
theorem dX0_findReach_87 : decode cX0_findReach 87 = .ok (.iastore, 1) := by decide +kernel
theorem dX0_findReach_88 : decode cX0_findReach 88 = .ok (.iinc 2 1, 3) := by decide +kernel
theorem dX0_findReach_91 : decode cX0_findReach 91 = .ok (.goto (-42), 3) := by decide +kernel
theorem dX0_findReach_94 : decode cX0_findReach 94 = .ok (.iinc 1 1, 3) := by decide +kernel
theorem dX0_findReach_97 : decode cX0_findReach 97 = .ok (.goto (-61), 3) := by decide +kernel
theorem dX0_findReach_100 : decode cX0_findReach 100 = .ok (.return_, 1) := by decide +kernel
theorem dX0_findRings_0 : decode cX0_findRings 0 = .ok (.iconst 0, 1) := by decide +kernel
theorem dX0_findRings_1 : decode cX0_findRings 1 = .ok (.istore_n 1, 1) := by decide +kernel
theorem dX0_findRings_2 : decode cX0_findRings 2 = .ok (.iload_n 1, 1) := by decide +kernel
theorem dX0_findRings_3 : decode cX0_findRings 3 = .ok (.aload_n 0, 1) := by decide +kernel
theorem dX0_findRings_4 : decode cX0_findRings 4 = .ok (.getfield 9, 3) := by decide +kernel
theorem dX0_findRings_7 : decode cX0_findRings 7 = .ok (.getfield 77, 3) := by decide +kernel
theorem dX0_findRings_10 : decode cX0_findRings 10 = .ok (.if_icmp .ge 71, 3) := by decide +kernel
theorem dX0_findRings_13 : decode cX0_findRings 13 = .ok (.iconst 1, 1) := by decide +kernel
theorem dX0_findRings_14 : decode cX0_findRings 14 = .ok (.iload_n 1, 1) := by decide +kernel
theorem dX0_findRings_15 : decode cX0_findRings 15 = .ok (.ishl, 1) := by decide +kernel
theorem dX0_findRings_16 : decode cX0_findRings 16 = .ok (.istore_n 2, 1) := by decide +kernel
theorem dX0_findRings_17 : decode cX0_findRings 17 = .ok (.iconst 0, 1) := by decide +kernel
theorem dX0_findRings_18 : decode cX0_findRings 18 = .ok (.istore_n 3, 1) := by decide +kernel
theorem dX0_findRings_19 : decode cX0_findRings 19 = .ok (.iload_n 3, 1) := by decide +kernel
theorem dX0_findRings_20 : decode cX0_findRings 20 = .ok (.aload_n 0, 1) := by decide +kernel
theorem dX0_findRings_21 : decode cX0_findRings 21 = .ok (.getfield 9, 3) := by decide +kernel
theorem dX0_findRings_24 : decode cX0_findRings 24 = .ok (.getfield 77, 3) := by decide +kernel
theorem dX0_findRings_27 : decode cX0_findRings 27 = .ok (.if_icmp .ge 41, 3) := by decide +kernel
theorem dX0_findRings_30 : decode cX0_findRings 30 = .ok (.aload_n 0, 1) := by decide +kernel
theorem dX0_findRings_31 : decode cX0_findRings 31 = .ok (.getfield 15, 3) := by decide +kernel
theorem dX0_findRings_34 : decode cX0_findRings 34 = .ok (.iload_n 1, 1) := by decide +kernel
theorem dX0_findRings_35 : decode cX0_findRings 35 = .ok (.iaload, 1) := by decide +kernel
theorem dX0_findRings_36 : decode cX0_findRings 36 = .ok (.iload_n 3, 1) := by decide +kernel
theorem dX0_findRings_37 : decode cX0_findRings 37 = .ok (.invokestatic 83, 3) := by decide +kernel
theorem dX0_findRings_40 : decode cX0_findRings 40 = .ok (.ifCond .eq 22, 3) := by decide +kernel
theorem dX0_findRings_43 : decode cX0_findRings 43 = .ok (.aload_n 0, 1) := by decide +kernel
theorem dX0_findRings_44 : decode cX0_findRings 44 = .ok (.getfield 15, 3) := by decide +kernel
theorem dX0_findRings_47 : decode cX0_findRings 47 = .ok (.iload_n 3, 1) := by decide +kernel
theorem dX0_findRings_48 : decode cX0_findRings 48 = .ok (.iaload, 1) := by decide +kernel
theorem dX0_findRings_49 : decode cX0_findRings 49 = .ok (.iload_n 1, 1) := by decide +kernel
theorem dX0_findRings_50 : decode cX0_findRings 50 = .ok (.invokestatic 83, 3) := by decide +kernel
theorem dX0_findRings_53 : decode cX0_findRings 53 = .ok (.ifCond .eq 9, 3) := by decide +kernel
theorem dX0_findRings_56 : decode cX0_findRings 56 = .ok (.iload_n 2, 1) := by decide +kernel
theorem dX0_findRings_57 : decode cX0_findRings 57 = .ok (.iconst 1, 1) := by decide +kernel
theorem dX0_findRings_58 : decode cX0_findRings 58 = .ok (.iload_n 3, 1) := by decide +kernel
theorem dX0_findRings_59 : decode cX0_findRings 59 = .ok (.ishl, 1) := by decide +kernel
theorem dX0_findRings_60 : decode cX0_findRings 60 = .ok (.ior, 1) := by decide +kernel
theorem dX0_findRings_61 : decode cX0_findRings 61 = .ok (.istore_n 2, 1) := by decide +kernel
theorem dX0_findRings_62 : decode cX0_findRings 62 = .ok (.iinc 3 1, 3) := by decide +kernel
theorem dX0_findRings_65 : decode cX0_findRings 65 = .ok (.goto (-46), 3) := by decide +kernel
theorem dX0_findRings_68 : decode cX0_findRings 68 = .ok (.aload_n 0, 1) := by decide +kernel
theorem dX0_findRings_69 : decode cX0_findRings 69 = .ok (.getfield 19, 3) := by decide +kernel
theorem dX0_findRings_72 : decode cX0_findRings 72 = .ok (.iload_n 1, 1) := by decide +kernel
theorem dX0_findRings_73 : decode cX0_findRings 73 = .ok (.iload_n 2, 1) := by decide +kernel
theorem dX0_findRings_74 : decode cX0_findRings 74 = .ok (.iastore, 1) := by decide +kernel
theorem dX0_findRings_75 : decode cX0_findRings 75 = .ok (.iinc 1 1, 3) := by decide +kernel
theorem dX0_findRings_78 : decode cX0_findRings 78 = .ok (.goto (-76), 3) := by decide +kernel
theorem dX0_findRings_81 : decode cX0_findRings 81 = .ok (.return_, 1) := by decide +kernel
theorem dX0_findRungs_0 : decode cX0_findRungs 0 = .ok (.iconst 0, 1) := by decide +kernel
theorem dX0_findRungs_1 : decode cX0_findRungs 1 = .ok (.istore_n 1, 1) := by decide +kernel
theorem dX0_findRungs_2 : decode cX0_findRungs 2 = .ok (.iload_n 1, 1) := by decide +kernel
theorem dX0_findRungs_3 : decode cX0_findRungs 3 = .ok (.aload_n 0, 1) := by decide +kernel
theorem dX0_findRungs_4 : decode cX0_findRungs 4 = .ok (.getfield 9, 3) := by decide +kernel
theorem dX0_findRungs_7 : decode cX0_findRungs 7 = .ok (.getfield 77, 3) := by decide +kernel
theorem dX0_findRungs_10 : decode cX0_findRungs 10 = .ok (.if_icmp .ge 16, 3) := by decide +kernel
theorem dX0_findRungs_13 : decode cX0_findRungs 13 = .ok (.aload_n 0, 1) := by decide +kernel
theorem dX0_findRungs_14 : decode cX0_findRungs 14 = .ok (.getfield 22, 3) := by decide +kernel
theorem dX0_findRungs_17 : decode cX0_findRungs 17 = .ok (.iload_n 1, 1) := by decide +kernel
theorem dX0_findRungs_18 : decode cX0_findRungs 18 = .ok (.iconst 0, 1) := by decide +kernel
theorem dX0_findRungs_19 : decode cX0_findRungs 19 = .ok (.iastore, 1) := by decide +kernel
theorem dX0_findRungs_20 : decode cX0_findRungs 20 = .ok (.iinc 1 1, 3) := by decide +kernel
theorem dX0_findRungs_23 : decode cX0_findRungs 23 = .ok (.goto (-21), 3) := by decide +kernel
theorem dX0_findRungs_26 : decode cX0_findRungs 26 = .ok (.iconst 0, 1) := by decide +kernel
theorem dX0_findRungs_27 : decode cX0_findRungs 27 = .ok (.istore_n 1, 1) := by decide +kernel
theorem dX0_findRungs_28 : decode cX0_findRungs 28 = .ok (.iload_n 1, 1) := by decide +kernel
theorem dX0_findRungs_29 : decode cX0_findRungs 29 = .ok (.aload_n 0, 1) := by decide +kernel
theorem dX0_findRungs_30 : decode cX0_findRungs 30 = .ok (.getfield 9, 3) := by decide +kernel
theorem dX0_findRungs_33 : decode cX0_findRungs 33 = .ok (.getfield 77, 3) := by decide +kernel
theorem dX0_findRungs_36 : decode cX0_findRungs 36 = .ok (.if_icmp .ge 48, 3) := by decide +kernel
theorem dX0_findRungs_39 : decode cX0_findRungs 39 = .ok (.iconst 0, 1) := by decide +kernel
theorem dX0_findRungs_40 : decode cX0_findRungs 40 = .ok (.istore_n 2, 1) := by decide +kernel
theorem dX0_findRungs_41 : decode cX0_findRungs 41 = .ok (.iload_n 2, 1) := by decide +kernel
theorem dX0_findRungs_42 : decode cX0_findRungs 42 = .ok (.aload_n 0, 1) := by decide +kernel
theorem dX0_findRungs_43 : decode cX0_findRungs 43 = .ok (.getfield 9, 3) := by decide +kernel
theorem dX0_findRungs_46 : decode cX0_findRungs 46 = .ok (.getfield 77, 3) := by decide +kernel
theorem dX0_findRungs_49 : decode cX0_findRungs 49 = .ok (.if_icmp .ge 29, 3) := by decide +kernel
theorem dX0_findRungs_52 : decode cX0_findRungs 52 = .ok (.aload_n 0, 1) := by decide +kernel
theorem dX0_findRungs_53 : decode cX0_findRungs 53 = .ok (.getfield 22, 3) := by decide +kernel
theorem dX0_findRungs_56 : decode cX0_findRungs 56 = .ok (.iload_n 2, 1) := by decide +kernel
theorem dX0_findRungs_57 : decode cX0_findRungs 57 = .ok (.aload_n 0, 1) := by decide +kernel
theorem dX0_findRungs_58 : decode cX0_findRungs 58 = .ok (.aload_n 0, 1) := by decide +kernel
theorem dX0_findRungs_59 : decode cX0_findRungs 59 = .ok (.aload_n 0, 1) := by decide +kernel
theorem dX0_findRungs_60 : decode cX0_findRungs 60 = .ok (.getfield 19, 3) := by decide +kernel
theorem dX0_findRungs_63 : decode cX0_findRungs 63 = .ok (.iload_n 2, 1) := by decide +kernel
theorem dX0_findRungs_64 : decode cX0_findRungs 64 = .ok (.iaload, 1) := by decide +kernel
theorem dX0_findRungs_65 : decode cX0_findRungs 65 = .ok (.invokevirtual 87, 3) := by decide +kernel
theorem dX0_findRungs_68 : decode cX0_findRungs 68 = .ok (.invokevirtual 91, 3) := by decide +kernel
theorem dX0_findRungs_71 : decode cX0_findRungs 71 = .ok (.iastore, 1) := by decide +kernel
theorem dX0_findRungs_72 : decode cX0_findRungs 72 = .ok (.iinc 2 1, 3) := by decide +kernel
theorem dX0_findRungs_75 : decode cX0_findRungs 75 = .ok (.goto (-34), 3) := by decide +kernel
theorem dX0_findRungs_78 : decode cX0_findRungs 78 = .ok (.iinc 1 1, 3) := by decide +kernel
theorem dX0_findRungs_81 : decode cX0_findRungs 81 = .ok (.goto (-53), 3) := by decide +kernel
theorem dX0_findRungs_84 : decode cX0_findRungs 84 = .ok (.return_, 1) := by decide +kernel
theorem dX0_outside_0 : decode cX0_outside 0 = .ok (.iconst 0, 1) := by decide +kernel
theorem dX0_outside_1 : decode cX0_outside 1 = .ok (.istore_n 2, 1) := by decide +kernel
theorem dX0_outside_2 : decode cX0_outside 2 = .ok (.iconst 0, 1) := by decide +kernel
theorem dX0_outside_3 : decode cX0_outside 3 = .ok (.istore_n 3, 1) := by decide +kernel
theorem dX0_outside_4 : decode cX0_outside 4 = .ok (.iload_n 3, 1) := by decide +kernel
theorem dX0_outside_5 : decode cX0_outside 5 = .ok (.aload_n 0, 1) := by decide +kernel
theorem dX0_outside_6 : decode cX0_outside 6 = .ok (.getfield 9, 3) := by decide +kernel
theorem dX0_outside_9 : decode cX0_outside 9 = .ok (.getfield 77, 3) := by decide +kernel
theorem dX0_outside_12 : decode cX0_outside 12 = .ok (.if_icmp .ge 29, 3) := by decide +kernel
theorem dX0_outside_15 : decode cX0_outside 15 = .ok (.iload_n 1, 1) := by decide +kernel
theorem dX0_outside_16 : decode cX0_outside 16 = .ok (.iload_n 3, 1) := by decide +kernel
theorem dX0_outside_17 : decode cX0_outside 17 = .ok (.invokestatic 83, 3) := by decide +kernel
theorem dX0_outside_20 : decode cX0_outside 20 = .ok (.ifCond .eq 15, 3) := by decide +kernel
theorem dX0_outside_23 : decode cX0_outside 23 = .ok (.iload_n 2, 1) := by decide +kernel
theorem dX0_outside_24 : decode cX0_outside 24 = .ok (.aload_n 0, 1) := by decide +kernel
theorem dX0_outside_25 : decode cX0_outside 25 = .ok (.getfield 9, 3) := by decide +kernel
theorem dX0_outside_28 : decode cX0_outside 28 = .ok (.getfield 80, 3) := by decide +kernel
theorem dX0_outside_31 : decode cX0_outside 31 = .ok (.iload_n 3, 1) := by decide +kernel
theorem dX0_outside_32 : decode cX0_outside 32 = .ok (.iaload, 1) := by decide +kernel
theorem dX0_outside_33 : decode cX0_outside 33 = .ok (.ior, 1) := by decide +kernel
theorem dX0_outside_34 : decode cX0_outside 34 = .ok (.istore_n 2, 1) := by decide +kernel
theorem dX0_outside_35 : decode cX0_outside 35 = .ok (.iinc 3 1, 3) := by decide +kernel
theorem dX0_outside_38 : decode cX0_outside 38 = .ok (.goto (-34), 3) := by decide +kernel
theorem dX0_outside_41 : decode cX0_outside 41 = .ok (.iload_n 2, 1) := by decide +kernel
theorem dX0_outside_42 : decode cX0_outside 42 = .ok (.iload_n 1, 1) := by decide +kernel
theorem dX0_outside_43 : decode cX0_outside 43 = .ok (.iconst (-1), 1) := by decide +kernel
theorem dX0_outside_44 : decode cX0_outside 44 = .ok (.ixor, 1) := by decide +kernel
theorem dX0_outside_45 : decode cX0_outside 45 = .ok (.iand, 1) := by decide +kernel
theorem dX0_outside_46 : decode cX0_outside 46 = .ok (.ireturn, 1) := by decide +kernel
theorem dX0_rungAbove_0 : decode cX0_rungAbove 0 = .ok (.iconst 0, 1) := by decide +kernel
theorem dX0_rungAbove_1 : decode cX0_rungAbove 1 = .ok (.istore_n 2, 1) := by decide +kernel
theorem dX0_rungAbove_2 : decode cX0_rungAbove 2 = .ok (.iconst 0, 1) := by decide +kernel
theorem dX0_rungAbove_3 : decode cX0_rungAbove 3 = .ok (.istore_n 3, 1) := by decide +kernel
theorem dX0_rungAbove_4 : decode cX0_rungAbove 4 = .ok (.iload_n 3, 1) := by decide +kernel
theorem dX0_rungAbove_5 : decode cX0_rungAbove 5 = .ok (.aload_n 0, 1) := by decide +kernel
theorem dX0_rungAbove_6 : decode cX0_rungAbove 6 = .ok (.getfield 9, 3) := by decide +kernel
theorem dX0_rungAbove_9 : decode cX0_rungAbove 9 = .ok (.getfield 77, 3) := by decide +kernel
theorem dX0_rungAbove_12 : decode cX0_rungAbove 12 = .ok (.if_icmp .ge 30, 3) := by decide +kernel
theorem dX0_rungAbove_15 : decode cX0_rungAbove 15 = .ok (.iload_n 1, 1) := by decide +kernel
theorem dX0_rungAbove_16 : decode cX0_rungAbove 16 = .ok (.iload_n 3, 1) := by decide +kernel
theorem dX0_rungAbove_17 : decode cX0_rungAbove 17 = .ok (.invokestatic 83, 3) := by decide +kernel
theorem dX0_rungAbove_20 : decode cX0_rungAbove 20 = .ok (.ifCond .eq 16, 3) := by decide +kernel
theorem dX0_rungAbove_23 : decode cX0_rungAbove 23 = .ok (.iload_n 2, 1) := by decide +kernel
theorem dX0_rungAbove_24 : decode cX0_rungAbove 24 = .ok (.aload_n 0, 1) := by decide +kernel
theorem dX0_rungAbove_25 : decode cX0_rungAbove 25 = .ok (.getfield 22, 3) := by decide +kernel
theorem dX0_rungAbove_28 : decode cX0_rungAbove 28 = .ok (.iload_n 3, 1) := by decide +kernel
theorem dX0_rungAbove_29 : decode cX0_rungAbove 29 = .ok (.iaload, 1) := by decide +kernel
theorem dX0_rungAbove_30 : decode cX0_rungAbove 30 = .ok (.iconst 1, 1) := by decide +kernel
theorem dX0_rungAbove_31 : decode cX0_rungAbove 31 = .ok (.iadd, 1) := by decide +kernel
theorem dX0_rungAbove_32 : decode cX0_rungAbove 32 = .ok (.invokestatic 94, 3) := by decide +kernel
theorem dX0_rungAbove_35 : decode cX0_rungAbove 35 = .ok (.istore_n 2, 1) := by decide +kernel
theorem dX0_rungAbove_36 : decode cX0_rungAbove 36 = .ok (.iinc 3 1, 3) := by decide +kernel
theorem dX0_rungAbove_39 : decode cX0_rungAbove 39 = .ok (.goto (-35), 3) := by decide +kernel
theorem dX0_rungAbove_42 : decode cX0_rungAbove 42 = .ok (.iload_n 2, 1) := by decide +kernel
theorem dX0_rungAbove_43 : decode cX0_rungAbove 43 = .ok (.ireturn, 1) := by decide +kernel
theorem dX0_orderRings_0 : decode cX0_orderRings 0 = .ok (.aload_n 0, 1) := by decide +kernel
theorem dX0_orderRings_1 : decode cX0_orderRings 1 = .ok (.iconst 0, 1) := by decide +kernel
theorem dX0_orderRings_2 : decode cX0_orderRings 2 = .ok (.putfield 100, 3) := by decide +kernel
theorem dX0_orderRings_5 : decode cX0_orderRings 5 = .ok (.iconst 0, 1) := by decide +kernel
theorem dX0_orderRings_6 : decode cX0_orderRings 6 = .ok (.istore_n 1, 1) := by decide +kernel
theorem dX0_orderRings_7 : decode cX0_orderRings 7 = .ok (.iload_n 1, 1) := by decide +kernel
theorem dX0_orderRings_8 : decode cX0_orderRings 8 = .ok (.aload_n 0, 1) := by decide +kernel
theorem dX0_orderRings_9 : decode cX0_orderRings 9 = .ok (.getfield 9, 3) := by decide +kernel
theorem dX0_orderRings_12 : decode cX0_orderRings 12 = .ok (.getfield 77, 3) := by decide +kernel
theorem dX0_orderRings_15 : decode cX0_orderRings 15 = .ok (.if_icmp .ge 117, 3) := by decide +kernel
theorem dX0_orderRings_18 : decode cX0_orderRings 18 = .ok (.iconst 0, 1) := by decide +kernel
theorem dX0_orderRings_19 : decode cX0_orderRings 19 = .ok (.istore_n 2, 1) := by decide +kernel
theorem dX0_orderRings_20 : decode cX0_orderRings 20 = .ok (.iload_n 2, 1) := by decide +kernel
theorem dX0_orderRings_21 : decode cX0_orderRings 21 = .ok (.aload_n 0, 1) := by decide +kernel
theorem dX0_orderRings_22 : decode cX0_orderRings 22 = .ok (.getfield 9, 3) := by decide +kernel
theorem dX0_orderRings_25 : decode cX0_orderRings 25 = .ok (.getfield 77, 3) := by decide +kernel
theorem dX0_orderRings_28 : decode cX0_orderRings 28 = .ok (.if_icmp .ge 98, 3) := by decide +kernel
theorem dX0_orderRings_31 : decode cX0_orderRings 31 = .ok (.aload_n 0, 1) := by decide +kernel
theorem dX0_orderRings_32 : decode cX0_orderRings 32 = .ok (.getfield 19, 3) := by decide +kernel
theorem dX0_orderRings_35 : decode cX0_orderRings 35 = .ok (.iload_n 2, 1) := by decide +kernel
theorem dX0_orderRings_36 : decode cX0_orderRings 36 = .ok (.iaload, 1) := by decide +kernel
theorem dX0_orderRings_37 : decode cX0_orderRings 37 = .ok (.iconst 1, 1) := by decide +kernel
theorem dX0_orderRings_38 : decode cX0_orderRings 38 = .ok (.iload_n 2, 1) := by decide +kernel
theorem dX0_orderRings_39 : decode cX0_orderRings 39 = .ok (.ishl, 1) := by decide +kernel
theorem dX0_orderRings_40 : decode cX0_orderRings 40 = .ok (.iconst 1, 1) := by decide +kernel
theorem dX0_orderRings_41 : decode cX0_orderRings 41 = .ok (.isub, 1) := by decide +kernel
theorem dX0_orderRings_42 : decode cX0_orderRings 42 = .ok (.iand, 1) := by decide +kernel
theorem dX0_orderRings_43 : decode cX0_orderRings 43 = .ok (.ifCond .ne 7, 3) := by decide +kernel
theorem dX0_orderRings_46 : decode cX0_orderRings 46 = .ok (.iconst 1, 1) := by decide +kernel
theorem dX0_orderRings_47 : decode cX0_orderRings 47 = .ok (.goto 4, 3) := by decide +kernel
theorem dX0_orderRings_50 : decode cX0_orderRings 50 = .ok (.iconst 0, 1) := by decide +kernel
theorem dX0_orderRings_51 : decode cX0_orderRings 51 = .ok (.istore_n 3, 1) := by decide +kernel
theorem dX0_orderRings_52 : decode cX0_orderRings 52 = .ok (.iload_n 3, 1) := by decide +kernel
theorem dX0_orderRings_53 : decode cX0_orderRings 53 = .ok (.ifCond .eq 67, 3) := by decide +kernel
theorem dX0_orderRings_56 : decode cX0_orderRings 56 = .ok (.aload_n 0, 1) := by decide +kernel
theorem dX0_orderRings_57 : decode cX0_orderRings 57 = .ok (.getfield 22, 3) := by decide +kernel
theorem dX0_orderRings_60 : decode cX0_orderRings 60 = .ok (.iload_n 2, 1) := by decide +kernel
theorem dX0_orderRings_61 : decode cX0_orderRings 61 = .ok (.iaload, 1) := by decide +kernel
theorem dX0_orderRings_62 : decode cX0_orderRings 62 = .ok (.iload_n 1, 1) := by decide +kernel
theorem dX0_orderRings_63 : decode cX0_orderRings 63 = .ok (.if_icmp .ne 57, 3) := by decide +kernel
theorem dX0_orderRings_66 : decode cX0_orderRings 66 = .ok (.aload_n 0, 1) := by decide +kernel
theorem dX0_orderRings_67 : decode cX0_orderRings 67 = .ok (.getfield 100, 3) := by decide +kernel
theorem dX0_orderRings_70 : decode cX0_orderRings 70 = .ok (.bipush 6, 2) := by decide +kernel
theorem dX0_orderRings_72 : decode cX0_orderRings 72 = .ok (.if_icmp .ge 48, 3) := by decide +kernel
theorem dX0_orderRings_75 : decode cX0_orderRings 75 = .ok (.aload_n 0, 1) := by decide +kernel
theorem dX0_orderRings_76 : decode cX0_orderRings 76 = .ok (.getfield 37, 3) := by decide +kernel
theorem dX0_orderRings_79 : decode cX0_orderRings 79 = .ok (.aload_n 0, 1) := by decide +kernel
theorem dX0_orderRings_80 : decode cX0_orderRings 80 = .ok (.getfield 100, 3) := by decide +kernel
theorem dX0_orderRings_83 : decode cX0_orderRings 83 = .ok (.iload_n 2, 1) := by decide +kernel
theorem dX0_orderRings_84 : decode cX0_orderRings 84 = .ok (.iastore, 1) := by decide +kernel
theorem dX0_orderRings_85 : decode cX0_orderRings 85 = .ok (.aload_n 0, 1) := by decide +kernel
theorem dX0_orderRings_86 : decode cX0_orderRings 86 = .ok (.getfield 40, 3) := by decide +kernel
theorem dX0_orderRings_89 : decode cX0_orderRings 89 = .ok (.aload_n 0, 1) := by decide +kernel
theorem dX0_orderRings_90 : decode cX0_orderRings 90 = .ok (.getfield 100, 3) := by decide +kernel
theorem dX0_orderRings_93 : decode cX0_orderRings 93 = .ok (.aload_n 0, 1) := by decide +kernel
theorem dX0_orderRings_94 : decode cX0_orderRings 94 = .ok (.getfield 19, 3) := by decide +kernel
theorem dX0_orderRings_97 : decode cX0_orderRings 97 = .ok (.iload_n 2, 1) := by decide +kernel
theorem dX0_orderRings_98 : decode cX0_orderRings 98 = .ok (.iaload, 1) := by decide +kernel
theorem dX0_orderRings_99 : decode cX0_orderRings 99 = .ok (.iastore, 1) := by decide +kernel
theorem dX0_orderRings_100 : decode cX0_orderRings 100 = .ok (.aload_n 0, 1) := by decide +kernel
theorem dX0_orderRings_101 : decode cX0_orderRings 101 = .ok (.getfield 43, 3) := by decide +kernel
theorem dX0_orderRings_104 : decode cX0_orderRings 104 = .ok (.aload_n 0, 1) := by decide +kernel
theorem dX0_orderRings_105 : decode cX0_orderRings 105 = .ok (.getfield 100, 3) := by decide +kernel
theorem dX0_orderRings_108 : decode cX0_orderRings 108 = .ok (.iload_n 1, 1) := by decide +kernel
theorem dX0_orderRings_109 : decode cX0_orderRings 109 = .ok (.iastore, 1) := by decide +kernel
theorem dX0_orderRings_110 : decode cX0_orderRings 110 = .ok (.aload_n 0, 1) := by decide +kernel
theorem dX0_orderRings_111 : decode cX0_orderRings 111 = .ok (.dup, 1) := by decide +kernel
theorem dX0_orderRings_112 : decode cX0_orderRings 112 = .ok (.getfield 100, 3) := by decide +kernel
theorem dX0_orderRings_115 : decode cX0_orderRings 115 = .ok (.iconst 1, 1) := by decide +kernel
theorem dX0_orderRings_116 : decode cX0_orderRings 116 = .ok (.iadd, 1) := by decide +kernel
theorem dX0_orderRings_117 : decode cX0_orderRings 117 = .ok (.putfield 100, 3) := by decide +kernel
theorem dX0_orderRings_120 : decode cX0_orderRings 120 = .ok (.iinc 2 1, 3) := by decide +kernel
theorem dX0_orderRings_123 : decode cX0_orderRings 123 = .ok (.goto (-103), 3) := by decide +kernel
theorem dX0_orderRings_126 : decode cX0_orderRings 126 = .ok (.iinc 1 1, 3) := by decide +kernel
theorem dX0_orderRings_129 : decode cX0_orderRings 129 = .ok (.goto (-122), 3) := by decide +kernel
theorem dX0_orderRings_132 : decode cX0_orderRings 132 = .ok (.iconst 0, 1) := by decide +kernel
theorem dX0_orderRings_133 : decode cX0_orderRings 133 = .ok (.istore_n 1, 1) := by decide +kernel
theorem dX0_orderRings_134 : decode cX0_orderRings 134 = .ok (.iload_n 1, 1) := by decide +kernel
theorem dX0_orderRings_135 : decode cX0_orderRings 135 = .ok (.aload_n 0, 1) := by decide +kernel
theorem dX0_orderRings_136 : decode cX0_orderRings 136 = .ok (.getfield 100, 3) := by decide +kernel
theorem dX0_orderRings_139 : decode cX0_orderRings 139 = .ok (.if_icmp .ge 48, 3) := by decide +kernel
theorem dX0_orderRings_142 : decode cX0_orderRings 142 = .ok (.iconst 0, 1) := by decide +kernel
theorem dX0_orderRings_143 : decode cX0_orderRings 143 = .ok (.istore_n 2, 1) := by decide +kernel
theorem dX0_orderRings_144 : decode cX0_orderRings 144 = .ok (.iload_n 2, 1) := by decide +kernel
theorem dX0_orderRings_145 : decode cX0_orderRings 145 = .ok (.aload_n 0, 1) := by decide +kernel
theorem dX0_orderRings_146 : decode cX0_orderRings 146 = .ok (.getfield 9, 3) := by decide +kernel
theorem dX0_orderRings_149 : decode cX0_orderRings 149 = .ok (.getfield 77, 3) := by decide +kernel
theorem dX0_orderRings_152 : decode cX0_orderRings 152 = .ok (.if_icmp .ge 29, 3) := by decide +kernel
theorem dX0_orderRings_155 : decode cX0_orderRings 155 = .ok (.aload_n 0, 1) := by decide +kernel
theorem dX0_orderRings_156 : decode cX0_orderRings 156 = .ok (.getfield 40, 3) := by decide +kernel
theorem dX0_orderRings_159 : decode cX0_orderRings 159 = .ok (.iload_n 1, 1) := by decide +kernel
theorem dX0_orderRings_160 : decode cX0_orderRings 160 = .ok (.iaload, 1) := by decide +kernel
theorem dX0_orderRings_161 : decode cX0_orderRings 161 = .ok (.iload_n 2, 1) := by decide +kernel
theorem dX0_orderRings_162 : decode cX0_orderRings 162 = .ok (.invokestatic 83, 3) := by decide +kernel
theorem dX0_orderRings_165 : decode cX0_orderRings 165 = .ok (.ifCond .eq 10, 3) := by decide +kernel
theorem dX0_orderRings_168 : decode cX0_orderRings 168 = .ok (.aload_n 0, 1) := by decide +kernel
theorem dX0_orderRings_169 : decode cX0_orderRings 169 = .ok (.getfield 25, 3) := by decide +kernel
theorem dX0_orderRings_172 : decode cX0_orderRings 172 = .ok (.iload_n 2, 1) := by decide +kernel
theorem dX0_orderRings_173 : decode cX0_orderRings 173 = .ok (.iload_n 1, 1) := by decide +kernel
theorem dX0_orderRings_174 : decode cX0_orderRings 174 = .ok (.iastore, 1) := by decide +kernel
theorem dX0_orderRings_175 : decode cX0_orderRings 175 = .ok (.iinc 2 1, 3) := by decide +kernel
theorem dX0_orderRings_178 : decode cX0_orderRings 178 = .ok (.goto (-34), 3) := by decide +kernel
theorem dX0_orderRings_181 : decode cX0_orderRings 181 = .ok (.iinc 1 1, 3) := by decide +kernel
theorem dX0_orderRings_184 : decode cX0_orderRings 184 = .ok (.goto (-50), 3) := by decide +kernel
theorem dX0_orderRings_187 : decode cX0_orderRings 187 = .ok (.return_, 1) := by decide +kernel
theorem dX0_payAt_0 : decode cX0_payAt 0 = .ok (.iload_n 1, 1) := by decide +kernel
theorem dX0_payAt_1 : decode cX0_payAt 1 = .ok (.istore_n 2, 1) := by decide +kernel
theorem dX0_payAt_2 : decode cX0_payAt 2 = .ok (.iconst 0, 1) := by decide +kernel
theorem dX0_payAt_3 : decode cX0_payAt 3 = .ok (.istore_n 3, 1) := by decide +kernel
theorem dX0_payAt_4 : decode cX0_payAt 4 = .ok (.iload_n 3, 1) := by decide +kernel
theorem dX0_payAt_5 : decode cX0_payAt 5 = .ok (.aload_n 0, 1) := by decide +kernel
theorem dX0_payAt_6 : decode cX0_payAt 6 = .ok (.getfield 100, 3) := by decide +kernel
theorem dX0_payAt_9 : decode cX0_payAt 9 = .ok (.if_icmp .ge 69, 3) := by decide +kernel
theorem dX0_payAt_12 : decode cX0_payAt 12 = .ok (.aload_n 0, 1) := by decide +kernel
theorem dX0_payAt_13 : decode cX0_payAt 13 = .ok (.getfield 46, 3) := by decide +kernel
theorem dX0_payAt_16 : decode cX0_payAt 16 = .ok (.iload_n 3, 1) := by decide +kernel
theorem dX0_payAt_17 : decode cX0_payAt 17 = .ok (.iload_n 2, 1) := by decide +kernel
theorem dX0_payAt_18 : decode cX0_payAt 18 = .ok (.iastore, 1) := by decide +kernel
theorem dX0_payAt_19 : decode cX0_payAt 19 = .ok (.aload_n 0, 1) := by decide +kernel
theorem dX0_payAt_20 : decode cX0_payAt 20 = .ok (.getfield 49, 3) := by decide +kernel
theorem dX0_payAt_23 : decode cX0_payAt 23 = .ok (.iload_n 3, 1) := by decide +kernel
theorem dX0_payAt_24 : decode cX0_payAt 24 = .ok (.aload_n 0, 1) := by decide +kernel
theorem dX0_payAt_25 : decode cX0_payAt 25 = .ok (.aload_n 0, 1) := by decide +kernel
theorem dX0_payAt_26 : decode cX0_payAt 26 = .ok (.getfield 37, 3) := by decide +kernel
theorem dX0_payAt_29 : decode cX0_payAt 29 = .ok (.iload_n 3, 1) := by decide +kernel
theorem dX0_payAt_30 : decode cX0_payAt 30 = .ok (.iaload, 1) := by decide +kernel
theorem dX0_payAt_31 : decode cX0_payAt 31 = .ok (.invokevirtual 103, 3) := by decide +kernel
theorem dX0_payAt_34 : decode cX0_payAt 34 = .ok (.ifCond .eq 17, 3) := by decide +kernel
theorem dX0_payAt_37 : decode cX0_payAt 37 = .ok (.aload_n 0, 1) := by decide +kernel
theorem dX0_payAt_38 : decode cX0_payAt 38 = .ok (.aload_n 0, 1) := by decide +kernel
theorem dX0_payAt_39 : decode cX0_payAt 39 = .ok (.getfield 37, 3) := by decide +kernel
theorem dX0_payAt_42 : decode cX0_payAt 42 = .ok (.iload_n 3, 1) := by decide +kernel
theorem dX0_payAt_43 : decode cX0_payAt 43 = .ok (.iaload, 1) := by decide +kernel
theorem dX0_payAt_44 : decode cX0_payAt 44 = .ok (.iload_n 2, 1) := by decide +kernel
theorem dX0_payAt_45 : decode cX0_payAt 45 = .ok (.invokevirtual 107, 3) := by decide +kernel
theorem dX0_payAt_48 : decode cX0_payAt 48 = .ok (.goto 14, 3) := by decide +kernel
theorem dX0_payAt_51 : decode cX0_payAt 51 = .ok (.aload_n 0, 1) := by decide +kernel
theorem dX0_payAt_52 : decode cX0_payAt 52 = .ok (.aload_n 0, 1) := by decide +kernel
theorem dX0_payAt_53 : decode cX0_payAt 53 = .ok (.getfield 40, 3) := by decide +kernel
theorem dX0_payAt_56 : decode cX0_payAt 56 = .ok (.iload_n 3, 1) := by decide +kernel
theorem dX0_payAt_57 : decode cX0_payAt 57 = .ok (.iaload, 1) := by decide +kernel
theorem dX0_payAt_58 : decode cX0_payAt 58 = .ok (.iload_n 2, 1) := by decide +kernel
theorem dX0_payAt_59 : decode cX0_payAt 59 = .ok (.invokevirtual 110, 3) := by decide +kernel
theorem dX0_payAt_62 : decode cX0_payAt 62 = .ok (.iastore, 1) := by decide +kernel
theorem dX0_payAt_63 : decode cX0_payAt 63 = .ok (.iload_n 2, 1) := by decide +kernel
theorem dX0_payAt_64 : decode cX0_payAt 64 = .ok (.aload_n 0, 1) := by decide +kernel
theorem dX0_payAt_65 : decode cX0_payAt 65 = .ok (.getfield 49, 3) := by decide +kernel
theorem dX0_payAt_68 : decode cX0_payAt 68 = .ok (.iload_n 3, 1) := by decide +kernel
theorem dX0_payAt_69 : decode cX0_payAt 69 = .ok (.iaload, 1) := by decide +kernel
theorem dX0_payAt_70 : decode cX0_payAt 70 = .ok (.isub, 1) := by decide +kernel
theorem dX0_payAt_71 : decode cX0_payAt 71 = .ok (.istore_n 2, 1) := by decide +kernel
theorem dX0_payAt_72 : decode cX0_payAt 72 = .ok (.iinc 3 1, 3) := by decide +kernel
theorem dX0_payAt_75 : decode cX0_payAt 75 = .ok (.goto (-71), 3) := by decide +kernel
theorem dX0_payAt_78 : decode cX0_payAt 78 = .ok (.aload_n 0, 1) := by decide +kernel
theorem dX0_payAt_79 : decode cX0_payAt 79 = .ok (.iload_n 1, 1) := by decide +kernel
theorem dX0_payAt_80 : decode cX0_payAt 80 = .ok (.iload_n 2, 1) := by decide +kernel
theorem dX0_payAt_81 : decode cX0_payAt 81 = .ok (.isub, 1) := by decide +kernel
theorem dX0_payAt_82 : decode cX0_payAt 82 = .ok (.putfield 113, 3) := by decide +kernel
theorem dX0_payAt_85 : decode cX0_payAt 85 = .ok (.aload_n 0, 1) := by decide +kernel
theorem dX0_payAt_86 : decode cX0_payAt 86 = .ok (.iload_n 2, 1) := by decide +kernel
theorem dX0_payAt_87 : decode cX0_payAt 87 = .ok (.putfield 116, 3) := by decide +kernel
theorem dX0_payAt_90 : decode cX0_payAt 90 = .ok (.return_, 1) := by decide +kernel
theorem dX0_payAlone_0 : decode cX0_payAlone 0 = .ok (.aload_n 0, 1) := by decide +kernel
theorem dX0_payAlone_1 : decode cX0_payAlone 1 = .ok (.getfield 31, 3) := by decide +kernel
theorem dX0_payAlone_4 : decode cX0_payAlone 4 = .ok (.iload_n 1, 1) := by decide +kernel
theorem dX0_payAlone_5 : decode cX0_payAlone 5 = .ok (.aload_n 0, 1) := by decide +kernel
theorem dX0_payAlone_6 : decode cX0_payAlone 6 = .ok (.iload_n 1, 1) := by decide +kernel
theorem dX0_payAlone_7 : decode cX0_payAlone 7 = .ok (.invokevirtual 119, 3) := by decide +kernel
theorem dX0_payAlone_10 : decode cX0_payAlone 10 = .ok (.ifCond .eq 7, 3) := by decide +kernel
theorem dX0_payAlone_13 : decode cX0_payAlone 13 = .ok (.iconst 0, 1) := by decide +kernel
theorem dX0_payAlone_14 : decode cX0_payAlone 14 = .ok (.goto 9, 3) := by decide +kernel
theorem dX0_payAlone_17 : decode cX0_payAlone 17 = .ok (.aload_n 0, 1) := by decide +kernel
theorem dX0_payAlone_18 : decode cX0_payAlone 18 = .ok (.iload_n 1, 1) := by decide +kernel
theorem dX0_payAlone_19 : decode cX0_payAlone 19 = .ok (.iload_n 2, 1) := by decide +kernel
theorem dX0_payAlone_20 : decode cX0_payAlone 20 = .ok (.invokevirtual 122, 3) := by decide +kernel
theorem dX0_payAlone_23 : decode cX0_payAlone 23 = .ok (.iastore, 1) := by decide +kernel
theorem dX0_payAlone_24 : decode cX0_payAlone 24 = .ok (.aload_n 0, 1) := by decide +kernel
theorem dX0_payAlone_25 : decode cX0_payAlone 25 = .ok (.getfield 31, 3) := by decide +kernel
theorem dX0_payAlone_28 : decode cX0_payAlone 28 = .ok (.iload_n 1, 1) := by decide +kernel
theorem dX0_payAlone_29 : decode cX0_payAlone 29 = .ok (.iaload, 1) := by decide +kernel
theorem dX0_payAlone_30 : decode cX0_payAlone 30 = .ok (.ireturn, 1) := by decide +kernel
theorem dX0_payByTurns_0 : decode cX0_payByTurns 0 = .ok (.iconst 0, 1) := by decide +kernel
theorem dX0_payByTurns_1 : decode cX0_payByTurns 1 = .ok (.istore_n 3, 1) := by decide +kernel
theorem dX0_payByTurns_2 : decode cX0_payByTurns 2 = .ok (.iload_n 3, 1) := by decide +kernel
theorem dX0_payByTurns_3 : decode cX0_payByTurns 3 = .ok (.aload_n 0, 1) := by decide +kernel
theorem dX0_payByTurns_4 : decode cX0_payByTurns 4 = .ok (.getfield 9, 3) := by decide +kernel
theorem dX0_payByTurns_7 : decode cX0_payByTurns 7 = .ok (.getfield 77, 3) := by decide +kernel
theorem dX0_payByTurns_10 : decode cX0_payByTurns 10 = .ok (.if_icmp .ge 29, 3) := by decide +kernel
theorem dX0_payByTurns_13 : decode cX0_payByTurns 13 = .ok (.iload_n 1, 1) := by decide +kernel
theorem dX0_payByTurns_14 : decode cX0_payByTurns 14 = .ok (.iload_n 3, 1) := by decide +kernel
theorem dX0_payByTurns_15 : decode cX0_payByTurns 15 = .ok (.invokestatic 83, 3) := by decide +kernel
theorem dX0_payByTurns_18 : decode cX0_payByTurns 18 = .ok (.ifCond .eq 15, 3) := by decide +kernel
theorem dX0_payByTurns_21 : decode cX0_payByTurns 21 = .ok (.aload_n 0, 1) := by decide +kernel
theorem dX0_payByTurns_22 : decode cX0_payByTurns 22 = .ok (.getfield 28, 3) := by decide +kernel
theorem dX0_payByTurns_25 : decode cX0_payByTurns 25 = .ok (.iload_n 3, 1) := by decide +kernel
theorem dX0_payByTurns_26 : decode cX0_payByTurns 26 = .ok (.aload_n 0, 1) := by decide +kernel
theorem dX0_payByTurns_27 : decode cX0_payByTurns 27 = .ok (.iload_n 3, 1) := by decide +kernel
theorem dX0_payByTurns_28 : decode cX0_payByTurns 28 = .ok (.iload_n 2, 1) := by decide +kernel
theorem dX0_payByTurns_29 : decode cX0_payByTurns 29 = .ok (.invokevirtual 122, 3) := by decide +kernel
theorem dX0_payByTurns_32 : decode cX0_payByTurns 32 = .ok (.iastore, 1) := by decide +kernel
theorem dX0_payByTurns_33 : decode cX0_payByTurns 33 = .ok (.iinc 3 1, 3) := by decide +kernel
theorem dX0_payByTurns_36 : decode cX0_payByTurns 36 = .ok (.goto (-34), 3) := by decide +kernel
theorem dX0_payByTurns_39 : decode cX0_payByTurns 39 = .ok (.aload_n 0, 1) := by decide +kernel
theorem dX0_payByTurns_40 : decode cX0_payByTurns 40 = .ok (.iload_n 2, 1) := by decide +kernel
theorem dX0_payByTurns_41 : decode cX0_payByTurns 41 = .ok (.iload_n 1, 1) := by decide +kernel
theorem dX0_payByTurns_42 : decode cX0_payByTurns 42 = .ok (.aload_n 0, 1) := by decide +kernel
theorem dX0_payByTurns_43 : decode cX0_payByTurns 43 = .ok (.getfield 28, 3) := by decide +kernel
theorem dX0_payByTurns_46 : decode cX0_payByTurns 46 = .ok (.aload_n 0, 1) := by decide +kernel
theorem dX0_payByTurns_47 : decode cX0_payByTurns 47 = .ok (.getfield 31, 3) := by decide +kernel
theorem dX0_payByTurns_50 : decode cX0_payByTurns 50 = .ok (.invokevirtual 125, 3) := by decide +kernel
theorem dX0_payByTurns_53 : decode cX0_payByTurns 53 = .ok (.ireturn, 1) := by decide +kernel
theorem dX0_isAlone_0 : decode cX0_isAlone 0 = .ok (.aload_n 0, 1) := by decide +kernel
theorem dX0_isAlone_1 : decode cX0_isAlone 1 = .ok (.getfield 19, 3) := by decide +kernel
theorem dX0_isAlone_4 : decode cX0_isAlone 4 = .ok (.iload_n 1, 1) := by decide +kernel
theorem dX0_isAlone_5 : decode cX0_isAlone 5 = .ok (.iaload, 1) := by decide +kernel
theorem dX0_isAlone_6 : decode cX0_isAlone 6 = .ok (.iconst 1, 1) := by decide +kernel
theorem dX0_isAlone_7 : decode cX0_isAlone 7 = .ok (.iload_n 1, 1) := by decide +kernel
theorem dX0_isAlone_8 : decode cX0_isAlone 8 = .ok (.ishl, 1) := by decide +kernel
theorem dX0_isAlone_9 : decode cX0_isAlone 9 = .ok (.if_icmp .ne 7, 3) := by decide +kernel
theorem dX0_isAlone_12 : decode cX0_isAlone 12 = .ok (.iconst 1, 1) := by decide +kernel
theorem dX0_isAlone_13 : decode cX0_isAlone 13 = .ok (.goto 4, 3) := by decide +kernel
theorem dX0_isAlone_16 : decode cX0_isAlone 16 = .ok (.iconst 0, 1) := by decide +kernel
theorem dX0_isAlone_17 : decode cX0_isAlone 17 = .ok (.ireturn, 1) := by decide +kernel
theorem dX0_isEscaped_0 : decode cX0_isEscaped 0 = .ok (.aload_n 0, 1) := by decide +kernel
theorem dX0_isEscaped_1 : decode cX0_isEscaped 1 = .ok (.getfield 9, 3) := by decide +kernel
theorem dX0_isEscaped_4 : decode cX0_isEscaped 4 = .ok (.getfield 129, 3) := by decide +kernel
theorem dX0_isEscaped_7 : decode cX0_isEscaped 7 = .ok (.iload_n 1, 1) := by decide +kernel
theorem dX0_isEscaped_8 : decode cX0_isEscaped 8 = .ok (.iaload, 1) := by decide +kernel
theorem dX0_isEscaped_9 : decode cX0_isEscaped 9 = .ok (.iconst 2, 1) := by decide +kernel
theorem dX0_isEscaped_10 : decode cX0_isEscaped 10 = .ok (.if_icmp .ne 33, 3) := by decide +kernel
theorem dX0_isEscaped_13 : decode cX0_isEscaped 13 = .ok (.aload_n 0, 1) := by decide +kernel
theorem dX0_isEscaped_14 : decode cX0_isEscaped 14 = .ok (.iload_n 1, 1) := by decide +kernel
theorem dX0_isEscaped_15 : decode cX0_isEscaped 15 = .ok (.invokevirtual 103, 3) := by decide +kernel
theorem dX0_isEscaped_18 : decode cX0_isEscaped 18 = .ok (.ifCond .eq 25, 3) := by decide +kernel
theorem dX0_isEscaped_21 : decode cX0_isEscaped 21 = .ok (.aload_n 0, 1) := by decide +kernel
theorem dX0_isEscaped_22 : decode cX0_isEscaped 22 = .ok (.aload_n 0, 1) := by decide +kernel
theorem dX0_isEscaped_23 : decode cX0_isEscaped 23 = .ok (.getfield 9, 3) := by decide +kernel
theorem dX0_isEscaped_26 : decode cX0_isEscaped 26 = .ok (.getfield 80, 3) := by decide +kernel
theorem dX0_isEscaped_29 : decode cX0_isEscaped 29 = .ok (.iload_n 1, 1) := by decide +kernel
theorem dX0_isEscaped_30 : decode cX0_isEscaped 30 = .ok (.iaload, 1) := by decide +kernel
theorem dX0_isEscaped_31 : decode cX0_isEscaped 31 = .ok (.invokevirtual 132, 3) := by decide +kernel
theorem dX0_isEscaped_34 : decode cX0_isEscaped 34 = .ok (.bipush (-5), 2) := by decide +kernel
theorem dX0_isEscaped_36 : decode cX0_isEscaped 36 = .ok (.if_icmp .eq 7, 3) := by decide +kernel
theorem dX0_isEscaped_39 : decode cX0_isEscaped 39 = .ok (.iconst 1, 1) := by decide +kernel
theorem dX0_isEscaped_40 : decode cX0_isEscaped 40 = .ok (.goto 4, 3) := by decide +kernel
theorem dX0_isEscaped_43 : decode cX0_isEscaped 43 = .ok (.iconst 0, 1) := by decide +kernel
theorem dX0_isEscaped_44 : decode cX0_isEscaped 44 = .ok (.ireturn, 1) := by decide +kernel
theorem dX0_firstPayer_0 : decode cX0_firstPayer 0 = .ok (.iconst 0, 1) := by decide +kernel
theorem dX0_firstPayer_1 : decode cX0_firstPayer 1 = .ok (.istore_n 2, 1) := by decide +kernel
theorem dX0_firstPayer_2 : decode cX0_firstPayer 2 = .ok (.iload_n 2, 1) := by decide +kernel
theorem dX0_firstPayer_3 : decode cX0_firstPayer 3 = .ok (.aload_n 0, 1) := by decide +kernel
theorem dX0_firstPayer_4 : decode cX0_firstPayer 4 = .ok (.getfield 9, 3) := by decide +kernel
theorem dX0_firstPayer_7 : decode cX0_firstPayer 7 = .ok (.getfield 77, 3) := by decide +kernel
theorem dX0_firstPayer_10 : decode cX0_firstPayer 10 = .ok (.if_icmp .ge 28, 3) := by decide +kernel
theorem dX0_firstPayer_13 : decode cX0_firstPayer 13 = .ok (.iload_n 1, 1) := by decide +kernel
theorem dX0_firstPayer_14 : decode cX0_firstPayer 14 = .ok (.iload_n 2, 1) := by decide +kernel
theorem dX0_firstPayer_15 : decode cX0_firstPayer 15 = .ok (.invokestatic 83, 3) := by decide +kernel
theorem dX0_firstPayer_18 : decode cX0_firstPayer 18 = .ok (.ifCond .eq 14, 3) := by decide +kernel
theorem dX0_firstPayer_21 : decode cX0_firstPayer 21 = .ok (.aload_n 0, 1) := by decide +kernel
theorem dX0_firstPayer_22 : decode cX0_firstPayer 22 = .ok (.getfield 31, 3) := by decide +kernel
theorem dX0_firstPayer_25 : decode cX0_firstPayer 25 = .ok (.iload_n 2, 1) := by decide +kernel
theorem dX0_firstPayer_26 : decode cX0_firstPayer 26 = .ok (.iaload, 1) := by decide +kernel
theorem dX0_firstPayer_27 : decode cX0_firstPayer 27 = .ok (.ifCond .le 5, 3) := by decide +kernel
theorem dX0_firstPayer_30 : decode cX0_firstPayer 30 = .ok (.iload_n 2, 1) := by decide +kernel
theorem dX0_firstPayer_31 : decode cX0_firstPayer 31 = .ok (.ireturn, 1) := by decide +kernel
theorem dX0_firstPayer_32 : decode cX0_firstPayer 32 = .ok (.iinc 2 1, 3) := by decide +kernel
theorem dX0_firstPayer_35 : decode cX0_firstPayer 35 = .ok (.goto (-33), 3) := by decide +kernel
theorem dX0_firstPayer_38 : decode cX0_firstPayer 38 = .ok (.bipush (-5), 2) := by decide +kernel
theorem dX0_firstPayer_40 : decode cX0_firstPayer 40 = .ok (.ireturn, 1) := by decide +kernel
theorem dX0_shareOf_0 : decode cX0_shareOf 0 = .ok (.aload_n 0, 1) := by decide +kernel
theorem dX0_shareOf_1 : decode cX0_shareOf 1 = .ok (.getfield 9, 3) := by decide +kernel
theorem dX0_shareOf_4 : decode cX0_shareOf 4 = .ok (.getfield 129, 3) := by decide +kernel
theorem dX0_shareOf_7 : decode cX0_shareOf 7 = .ok (.iload_n 1, 1) := by decide +kernel
theorem dX0_shareOf_8 : decode cX0_shareOf 8 = .ok (.iaload, 1) := by decide +kernel
theorem dX0_shareOf_9 : decode cX0_shareOf 9 = .ok (.iconst 1, 1) := by decide +kernel
theorem dX0_shareOf_10 : decode cX0_shareOf 10 = .ok (.if_icmp .ne 20, 3) := by decide +kernel
theorem dX0_shareOf_13 : decode cX0_shareOf 13 = .ok (.iload_n 2, 1) := by decide +kernel
theorem dX0_shareOf_14 : decode cX0_shareOf 14 = .ok (.aload_n 0, 1) := by decide +kernel
theorem dX0_shareOf_15 : decode cX0_shareOf 15 = .ok (.getfield 9, 3) := by decide +kernel
theorem dX0_shareOf_18 : decode cX0_shareOf 18 = .ok (.getfield 135, 3) := by decide +kernel
theorem dX0_shareOf_21 : decode cX0_shareOf 21 = .ok (.iload_n 1, 1) := by decide +kernel
theorem dX0_shareOf_22 : decode cX0_shareOf 22 = .ok (.iaload, 1) := by decide +kernel
theorem dX0_shareOf_23 : decode cX0_shareOf 23 = .ok (.imul, 1) := by decide +kernel
theorem dX0_shareOf_24 : decode cX0_shareOf 24 = .ok (.bipush 100, 2) := by decide +kernel
theorem dX0_shareOf_26 : decode cX0_shareOf 26 = .ok (.idiv, 1) := by decide +kernel
theorem dX0_shareOf_27 : decode cX0_shareOf 27 = .ok (.goto 4, 3) := by decide +kernel
theorem dX0_shareOf_30 : decode cX0_shareOf 30 = .ok (.iload_n 2, 1) := by decide +kernel
theorem dX0_shareOf_31 : decode cX0_shareOf 31 = .ok (.ireturn, 1) := by decide +kernel
theorem dX0_mostOf_0 : decode cX0_mostOf 0 = .ok (.aload_n 0, 1) := by decide +kernel
theorem dX0_mostOf_1 : decode cX0_mostOf 1 = .ok (.iload_n 1, 1) := by decide +kernel
theorem dX0_mostOf_2 : decode cX0_mostOf 2 = .ok (.iload_n 2, 1) := by decide +kernel
theorem dX0_mostOf_3 : decode cX0_mostOf 3 = .ok (.invokevirtual 138, 3) := by decide +kernel
theorem dX0_mostOf_6 : decode cX0_mostOf 6 = .ok (.istore_n 3, 1) := by decide +kernel
theorem dX0_mostOf_7 : decode cX0_mostOf 7 = .ok (.iload_n 3, 1) := by decide +kernel
theorem dX0_mostOf_8 : decode cX0_mostOf 8 = .ok (.aload_n 0, 1) := by decide +kernel
theorem dX0_mostOf_9 : decode cX0_mostOf 9 = .ok (.getfield 9, 3) := by decide +kernel
theorem dX0_mostOf_12 : decode cX0_mostOf 12 = .ok (.getfield 141, 3) := by decide +kernel
theorem dX0_mostOf_15 : decode cX0_mostOf 15 = .ok (.iload_n 1, 1) := by decide +kernel
theorem dX0_mostOf_16 : decode cX0_mostOf 16 = .ok (.iaload, 1) := by decide +kernel
theorem dX0_mostOf_17 : decode cX0_mostOf 17 = .ok (.if_icmp .gt 5, 3) := by decide +kernel
theorem dX0_mostOf_20 : decode cX0_mostOf 20 = .ok (.iconst 0, 1) := by decide +kernel
theorem dX0_mostOf_21 : decode cX0_mostOf 21 = .ok (.ireturn, 1) := by decide +kernel
theorem dX0_mostOf_22 : decode cX0_mostOf 22 = .ok (.aload_n 0, 1) := by decide +kernel
theorem dX0_mostOf_23 : decode cX0_mostOf 23 = .ok (.getfield 9, 3) := by decide +kernel
theorem dX0_mostOf_26 : decode cX0_mostOf 26 = .ok (.getfield 129, 3) := by decide +kernel
theorem dX0_mostOf_29 : decode cX0_mostOf 29 = .ok (.iload_n 1, 1) := by decide +kernel
theorem dX0_mostOf_30 : decode cX0_mostOf 30 = .ok (.iaload, 1) := by decide +kernel
theorem dX0_mostOf_31 : decode cX0_mostOf 31 = .ok (.iconst 3, 1) := by decide +kernel
theorem dX0_mostOf_32 : decode cX0_mostOf 32 = .ok (.if_icmp .ne 7, 3) := by decide +kernel
theorem dX0_mostOf_35 : decode cX0_mostOf 35 = .ok (.iload_n 2, 1) := by decide +kernel
theorem dX0_mostOf_36 : decode cX0_mostOf 36 = .ok (.goto 14, 3) := by decide +kernel
theorem dX0_mostOf_39 : decode cX0_mostOf 39 = .ok (.iload_n 3, 1) := by decide +kernel
theorem dX0_mostOf_40 : decode cX0_mostOf 40 = .ok (.aload_n 0, 1) := by decide +kernel
theorem dX0_mostOf_41 : decode cX0_mostOf 41 = .ok (.getfield 9, 3) := by decide +kernel
theorem dX0_mostOf_44 : decode cX0_mostOf 44 = .ok (.getfield 141, 3) := by decide +kernel
theorem dX0_mostOf_47 : decode cX0_mostOf 47 = .ok (.iload_n 1, 1) := by decide +kernel
theorem dX0_mostOf_48 : decode cX0_mostOf 48 = .ok (.iaload, 1) := by decide +kernel
theorem dX0_mostOf_49 : decode cX0_mostOf 49 = .ok (.isub, 1) := by decide +kernel
theorem dX0_mostOf_50 : decode cX0_mostOf 50 = .ok (.istore 4, 2) := by decide +kernel
theorem dX0_mostOf_52 : decode cX0_mostOf 52 = .ok (.iload 4, 2) := by decide +kernel
theorem dX0_mostOf_54 : decode cX0_mostOf 54 = .ok (.aload_n 0, 1) := by decide +kernel
theorem dX0_mostOf_55 : decode cX0_mostOf 55 = .ok (.getfield 9, 3) := by decide +kernel
theorem dX0_mostOf_58 : decode cX0_mostOf 58 = .ok (.getfield 144, 3) := by decide +kernel
theorem dX0_mostOf_61 : decode cX0_mostOf 61 = .ok (.iload_n 1, 1) := by decide +kernel
theorem dX0_mostOf_62 : decode cX0_mostOf 62 = .ok (.iaload, 1) := by decide +kernel
theorem dX0_mostOf_63 : decode cX0_mostOf 63 = .ok (.invokestatic 147, 3) := by decide +kernel
theorem dX0_mostOf_66 : decode cX0_mostOf 66 = .ok (.ireturn, 1) := by decide +kernel
theorem dX0_deal_0 : decode cX0_deal 0 = .ok (.iconst 0, 1) := by decide +kernel
theorem dX0_deal_1 : decode cX0_deal 1 = .ok (.istore 5, 2) := by decide +kernel
theorem dX0_deal_3 : decode cX0_deal 3 = .ok (.iload 5, 2) := by decide +kernel
theorem dX0_deal_5 : decode cX0_deal 5 = .ok (.aload_n 0, 1) := by decide +kernel
theorem dX0_deal_6 : decode cX0_deal 6 = .ok (.getfield 9, 3) := by decide +kernel
theorem dX0_deal_9 : decode cX0_deal 9 = .ok (.getfield 77, 3) := by decide +kernel
theorem dX0_deal_12 : decode cX0_deal 12 = .ok (.if_icmp .ge 24, 3) := by decide +kernel
theorem dX0_deal_15 : decode cX0_deal 15 = .ok (.iload_n 2, 1) := by decide +kernel
theorem dX0_deal_16 : decode cX0_deal 16 = .ok (.iload 5, 2) := by decide +kernel
theorem dX0_deal_18 : decode cX0_deal 18 = .ok (.invokestatic 83, 3) := by decide +kernel
theorem dX0_deal_21 : decode cX0_deal 21 = .ok (.ifCond .eq 9, 3) := by decide +kernel
theorem dX0_deal_24 : decode cX0_deal 24 = .ok (.aload 4, 2) := by decide +kernel
theorem dX0_deal_26 : decode cX0_deal 26 = .ok (.iload 5, 2) := by decide +kernel
theorem dX0_deal_28 : decode cX0_deal 28 = .ok (.iconst 0, 1) := by decide +kernel
theorem dX0_deal_29 : decode cX0_deal 29 = .ok (.iastore, 1) := by decide +kernel
theorem dX0_deal_30 : decode cX0_deal 30 = .ok (.iinc 5 1, 3) := by decide +kernel
theorem dX0_deal_33 : decode cX0_deal 33 = .ok (.goto (-30), 3) := by decide +kernel
theorem dX0_deal_36 : decode cX0_deal 36 = .ok (.iload_n 1, 1) := by decide +kernel
theorem dX0_deal_37 : decode cX0_deal 37 = .ok (.istore 5, 2) := by decide +kernel
theorem dX0_deal_39 : decode cX0_deal 39 = .ok (.iconst 0, 1) := by decide +kernel
theorem dX0_deal_40 : decode cX0_deal 40 = .ok (.istore 6, 2) := by decide +kernel
theorem dX0_deal_42 : decode cX0_deal 42 = .ok (.iload 6, 2) := by decide +kernel
theorem dX0_deal_44 : decode cX0_deal 44 = .ok (.bipush 6, 2) := by decide +kernel
theorem dX0_deal_46 : decode cX0_deal 46 = .ok (.if_icmp .ge 167, 3) := by decide +kernel
theorem dX0_deal_49 : decode cX0_deal 49 = .ok (.iload 5, 2) := by decide +kernel
theorem dX0_deal_51 : decode cX0_deal 51 = .ok (.ifCond .le 162, 3) := by decide +kernel
theorem dX0_deal_54 : decode cX0_deal 54 = .ok (.aload_n 0, 1) := by decide +kernel
theorem dX0_deal_55 : decode cX0_deal 55 = .ok (.iload_n 2, 1) := by decide +kernel
theorem dX0_deal_56 : decode cX0_deal 56 = .ok (.aload_n 3, 1) := by decide +kernel
theorem dX0_deal_57 : decode cX0_deal 57 = .ok (.aload 4, 2) := by decide +kernel
theorem dX0_deal_59 : decode cX0_deal 59 = .ok (.invokevirtual 150, 3) := by decide +kernel
theorem dX0_deal_62 : decode cX0_deal 62 = .ok (.istore 7, 2) := by decide +kernel
theorem dX0_deal_64 : decode cX0_deal 64 = .ok (.iload 7, 2) := by decide +kernel
theorem dX0_deal_66 : decode cX0_deal 66 = .ok (.invokestatic 154, 3) := by decide +kernel
theorem dX0_deal_69 : decode cX0_deal 69 = .ok (.istore 8, 2) := by decide +kernel
theorem dX0_deal_71 : decode cX0_deal 71 = .ok (.iload 8, 2) := by decide +kernel
theorem dX0_deal_73 : decode cX0_deal 73 = .ok (.ifCond .ne 6, 3) := by decide +kernel
theorem dX0_deal_76 : decode cX0_deal 76 = .ok (.goto 137, 3) := by decide +kernel
theorem dX0_deal_79 : decode cX0_deal 79 = .ok (.aload_n 0, 1) := by decide +kernel
theorem dX0_deal_80 : decode cX0_deal 80 = .ok (.iload 7, 2) := by decide +kernel
theorem dX0_deal_82 : decode cX0_deal 82 = .ok (.aload_n 3, 1) := by decide +kernel
theorem dX0_deal_83 : decode cX0_deal 83 = .ok (.aload 4, 2) := by decide +kernel
theorem dX0_deal_85 : decode cX0_deal 85 = .ok (.invokevirtual 159, 3) := by decide +kernel
theorem dX0_deal_88 : decode cX0_deal 88 = .ok (.iload 5, 2) := by decide +kernel
theorem dX0_deal_90 : decode cX0_deal 90 = .ok (.iload 8, 2) := by decide +kernel
theorem dX0_deal_92 : decode cX0_deal 92 = .ok (.idiv, 1) := by decide +kernel
theorem dX0_deal_93 : decode cX0_deal 93 = .ok (.invokestatic 147, 3) := by decide +kernel
theorem dX0_deal_96 : decode cX0_deal 96 = .ok (.istore 9, 2) := by decide +kernel
theorem dX0_deal_98 : decode cX0_deal 98 = .ok (.iload 9, 2) := by decide +kernel
theorem dX0_deal_100 : decode cX0_deal 100 = .ok (.iload 5, 2) := by decide +kernel
theorem dX0_deal_102 : decode cX0_deal 102 = .ok (.iload 8, 2) := by decide +kernel
theorem dX0_deal_104 : decode cX0_deal 104 = .ok (.idiv, 1) := by decide +kernel
theorem dX0_deal_105 : decode cX0_deal 105 = .ok (.if_icmp .ne 11, 3) := by decide +kernel
theorem dX0_deal_108 : decode cX0_deal 108 = .ok (.iload 5, 2) := by decide +kernel
theorem dX0_deal_110 : decode cX0_deal 110 = .ok (.iload 8, 2) := by decide +kernel
theorem dX0_deal_112 : decode cX0_deal 112 = .ok (.irem, 1) := by decide +kernel
theorem dX0_deal_113 : decode cX0_deal 113 = .ok (.goto 4, 3) := by decide +kernel
theorem dX0_deal_116 : decode cX0_deal 116 = .ok (.iconst 0, 1) := by decide +kernel
theorem dX0_deal_117 : decode cX0_deal 117 = .ok (.istore 10, 2) := by decide +kernel
theorem dX0_deal_119 : decode cX0_deal 119 = .ok (.iconst 0, 1) := by decide +kernel
theorem dX0_deal_120 : decode cX0_deal 120 = .ok (.istore 11, 2) := by decide +kernel
theorem dX0_deal_122 : decode cX0_deal 122 = .ok (.iload 11, 2) := by decide +kernel
theorem dX0_deal_124 : decode cX0_deal 124 = .ok (.aload_n 0, 1) := by decide +kernel
theorem dX0_deal_125 : decode cX0_deal 125 = .ok (.getfield 9, 3) := by decide +kernel
theorem dX0_deal_128 : decode cX0_deal 128 = .ok (.getfield 77, 3) := by decide +kernel
theorem dX0_deal_131 : decode cX0_deal 131 = .ok (.if_icmp .ge 76, 3) := by decide +kernel
theorem dX0_deal_134 : decode cX0_deal 134 = .ok (.iload 7, 2) := by decide +kernel
theorem dX0_deal_136 : decode cX0_deal 136 = .ok (.iload 11, 2) := by decide +kernel
theorem dX0_deal_138 : decode cX0_deal 138 = .ok (.invokestatic 83, 3) := by decide +kernel
theorem dX0_deal_141 : decode cX0_deal 141 = .ok (.ifCond .eq 60, 3) := by decide +kernel
theorem dX0_deal_144 : decode cX0_deal 144 = .ok (.iload 10, 2) := by decide +kernel
theorem dX0_deal_146 : decode cX0_deal 146 = .ok (.ifCond .le 22, 3) := by decide +kernel
theorem dX0_deal_149 : decode cX0_deal 149 = .ok (.aload 4, 2) := by decide +kernel
theorem dX0_deal_151 : decode cX0_deal 151 = .ok (.iload 11, 2) := by decide +kernel
theorem dX0_deal_153 : decode cX0_deal 153 = .ok (.iaload, 1) := by decide +kernel
theorem dX0_deal_154 : decode cX0_deal 154 = .ok (.iload 9, 2) := by decide +kernel
theorem dX0_deal_156 : decode cX0_deal 156 = .ok (.iadd, 1) := by decide +kernel
theorem dX0_deal_157 : decode cX0_deal 157 = .ok (.aload_n 3, 1) := by decide +kernel
theorem dX0_deal_158 : decode cX0_deal 158 = .ok (.iload 11, 2) := by decide +kernel
theorem dX0_deal_160 : decode cX0_deal 160 = .ok (.iaload, 1) := by decide +kernel
theorem dX0_deal_161 : decode cX0_deal 161 = .ok (.if_icmp .ge 7, 3) := by decide +kernel
theorem dX0_deal_164 : decode cX0_deal 164 = .ok (.iconst 1, 1) := by decide +kernel
theorem dX0_deal_165 : decode cX0_deal 165 = .ok (.goto 4, 3) := by decide +kernel
theorem dX0_deal_168 : decode cX0_deal 168 = .ok (.iconst 0, 1) := by decide +kernel
theorem dX0_deal_169 : decode cX0_deal 169 = .ok (.istore 12, 2) := by decide +kernel
theorem dX0_deal_171 : decode cX0_deal 171 = .ok (.aload 4, 2) := by decide +kernel
theorem dX0_deal_173 : decode cX0_deal 173 = .ok (.iload 11, 2) := by decide +kernel
theorem dX0_deal_175 : decode cX0_deal 175 = .ok (.dup2, 1) := by decide +kernel
theorem dX0_deal_176 : decode cX0_deal 176 = .ok (.iaload, 1) := by decide +kernel
theorem dX0_deal_177 : decode cX0_deal 177 = .ok (.iload 9, 2) := by decide +kernel
theorem dX0_deal_179 : decode cX0_deal 179 = .ok (.iload 12, 2) := by decide +kernel
theorem dX0_deal_181 : decode cX0_deal 181 = .ok (.iadd, 1) := by decide +kernel
theorem dX0_deal_182 : decode cX0_deal 182 = .ok (.iadd, 1) := by decide +kernel
theorem dX0_deal_183 : decode cX0_deal 183 = .ok (.iastore, 1) := by decide +kernel
theorem dX0_deal_184 : decode cX0_deal 184 = .ok (.iload 5, 2) := by decide +kernel
theorem dX0_deal_186 : decode cX0_deal 186 = .ok (.iload 9, 2) := by decide +kernel
theorem dX0_deal_188 : decode cX0_deal 188 = .ok (.iload 12, 2) := by decide +kernel
theorem dX0_deal_190 : decode cX0_deal 190 = .ok (.iadd, 1) := by decide +kernel
theorem dX0_deal_191 : decode cX0_deal 191 = .ok (.isub, 1) := by decide +kernel
theorem dX0_deal_192 : decode cX0_deal 192 = .ok (.istore 5, 2) := by decide +kernel
theorem dX0_deal_194 : decode cX0_deal 194 = .ok (.iload 10, 2) := by decide +kernel
theorem dX0_deal_196 : decode cX0_deal 196 = .ok (.iload 12, 2) := by decide +kernel
theorem dX0_deal_198 : decode cX0_deal 198 = .ok (.isub, 1) := by decide +kernel
theorem dX0_deal_199 : decode cX0_deal 199 = .ok (.istore 10, 2) := by decide +kernel
theorem dX0_deal_201 : decode cX0_deal 201 = .ok (.iinc 11 1, 3) := by decide +kernel
theorem dX0_deal_204 : decode cX0_deal 204 = .ok (.goto (-82), 3) := by decide +kernel
theorem dX0_deal_207 : decode cX0_deal 207 = .ok (.iinc 6 1, 3) := by decide +kernel
theorem dX0_deal_210 : decode cX0_deal 210 = .ok (.goto (-168), 3) := by decide +kernel
theorem dX0_deal_213 : decode cX0_deal 213 = .ok (.iload_n 1, 1) := by decide +kernel
theorem dX0_deal_214 : decode cX0_deal 214 = .ok (.iload 5, 2) := by decide +kernel
theorem dX0_deal_216 : decode cX0_deal 216 = .ok (.isub, 1) := by decide +kernel
theorem dX0_deal_217 : decode cX0_deal 217 = .ok (.ireturn, 1) := by decide +kernel
theorem dX0_openOnes_0 : decode cX0_openOnes 0 = .ok (.iconst 0, 1) := by decide +kernel
theorem dX0_openOnes_1 : decode cX0_openOnes 1 = .ok (.istore 4, 2) := by decide +kernel
theorem dX0_openOnes_3 : decode cX0_openOnes 3 = .ok (.iconst 0, 1) := by decide +kernel
theorem dX0_openOnes_4 : decode cX0_openOnes 4 = .ok (.istore 5, 2) := by decide +kernel
theorem dX0_openOnes_6 : decode cX0_openOnes 6 = .ok (.iload 5, 2) := by decide +kernel
theorem dX0_openOnes_8 : decode cX0_openOnes 8 = .ok (.aload_n 0, 1) := by decide +kernel
theorem dX0_openOnes_9 : decode cX0_openOnes 9 = .ok (.getfield 9, 3) := by decide +kernel
theorem dX0_openOnes_12 : decode cX0_openOnes 12 = .ok (.getfield 77, 3) := by decide +kernel
theorem dX0_openOnes_15 : decode cX0_openOnes 15 = .ok (.if_icmp .ge 38, 3) := by decide +kernel
theorem dX0_openOnes_18 : decode cX0_openOnes 18 = .ok (.iload_n 1, 1) := by decide +kernel
theorem dX0_openOnes_19 : decode cX0_openOnes 19 = .ok (.iload 5, 2) := by decide +kernel
theorem dX0_openOnes_21 : decode cX0_openOnes 21 = .ok (.invokestatic 83, 3) := by decide +kernel
theorem dX0_openOnes_24 : decode cX0_openOnes 24 = .ok (.ifCond .eq 23, 3) := by decide +kernel
theorem dX0_openOnes_27 : decode cX0_openOnes 27 = .ok (.aload_n 3, 1) := by decide +kernel
theorem dX0_openOnes_28 : decode cX0_openOnes 28 = .ok (.iload 5, 2) := by decide +kernel
theorem dX0_openOnes_30 : decode cX0_openOnes 30 = .ok (.iaload, 1) := by decide +kernel
theorem dX0_openOnes_31 : decode cX0_openOnes 31 = .ok (.aload_n 2, 1) := by decide +kernel
theorem dX0_openOnes_32 : decode cX0_openOnes 32 = .ok (.iload 5, 2) := by decide +kernel
theorem dX0_openOnes_34 : decode cX0_openOnes 34 = .ok (.iaload, 1) := by decide +kernel
theorem dX0_openOnes_35 : decode cX0_openOnes 35 = .ok (.if_icmp .ge 12, 3) := by decide +kernel
theorem dX0_openOnes_38 : decode cX0_openOnes 38 = .ok (.iload 4, 2) := by decide +kernel
theorem dX0_openOnes_40 : decode cX0_openOnes 40 = .ok (.iconst 1, 1) := by decide +kernel
theorem dX0_openOnes_41 : decode cX0_openOnes 41 = .ok (.iload 5, 2) := by decide +kernel
theorem dX0_openOnes_43 : decode cX0_openOnes 43 = .ok (.ishl, 1) := by decide +kernel
theorem dX0_openOnes_44 : decode cX0_openOnes 44 = .ok (.ior, 1) := by decide +kernel
theorem dX0_openOnes_45 : decode cX0_openOnes 45 = .ok (.istore 4, 2) := by decide +kernel
theorem dX0_openOnes_47 : decode cX0_openOnes 47 = .ok (.iinc 5 1, 3) := by decide +kernel
theorem dX0_openOnes_50 : decode cX0_openOnes 50 = .ok (.goto (-44), 3) := by decide +kernel
theorem dX0_openOnes_53 : decode cX0_openOnes 53 = .ok (.iload 4, 2) := by decide +kernel
theorem dX0_openOnes_55 : decode cX0_openOnes 55 = .ok (.ireturn, 1) := by decide +kernel
theorem dX0_leastRoom_0 : decode cX0_leastRoom 0 = .ok (.ldc 162, 2) := by decide +kernel
theorem dX0_leastRoom_2 : decode cX0_leastRoom 2 = .ok (.istore 4, 2) := by decide +kernel
theorem dX0_leastRoom_4 : decode cX0_leastRoom 4 = .ok (.iconst 0, 1) := by decide +kernel
theorem dX0_leastRoom_5 : decode cX0_leastRoom 5 = .ok (.istore 5, 2) := by decide +kernel
theorem dX0_leastRoom_7 : decode cX0_leastRoom 7 = .ok (.iload 5, 2) := by decide +kernel
theorem dX0_leastRoom_9 : decode cX0_leastRoom 9 = .ok (.aload_n 0, 1) := by decide +kernel
theorem dX0_leastRoom_10 : decode cX0_leastRoom 10 = .ok (.getfield 9, 3) := by decide +kernel
theorem dX0_leastRoom_13 : decode cX0_leastRoom 13 = .ok (.getfield 77, 3) := by decide +kernel
theorem dX0_leastRoom_16 : decode cX0_leastRoom 16 = .ok (.if_icmp .ge 34, 3) := by decide +kernel
theorem dX0_leastRoom_19 : decode cX0_leastRoom 19 = .ok (.iload_n 1, 1) := by decide +kernel
theorem dX0_leastRoom_20 : decode cX0_leastRoom 20 = .ok (.iload 5, 2) := by decide +kernel
theorem dX0_leastRoom_22 : decode cX0_leastRoom 22 = .ok (.invokestatic 83, 3) := by decide +kernel
theorem dX0_leastRoom_25 : decode cX0_leastRoom 25 = .ok (.ifCond .eq 19, 3) := by decide +kernel
theorem dX0_leastRoom_28 : decode cX0_leastRoom 28 = .ok (.iload 4, 2) := by decide +kernel
theorem dX0_leastRoom_30 : decode cX0_leastRoom 30 = .ok (.aload_n 2, 1) := by decide +kernel
theorem dX0_leastRoom_31 : decode cX0_leastRoom 31 = .ok (.iload 5, 2) := by decide +kernel
theorem dX0_leastRoom_33 : decode cX0_leastRoom 33 = .ok (.iaload, 1) := by decide +kernel
theorem dX0_leastRoom_34 : decode cX0_leastRoom 34 = .ok (.aload_n 3, 1) := by decide +kernel
theorem dX0_leastRoom_35 : decode cX0_leastRoom 35 = .ok (.iload 5, 2) := by decide +kernel
theorem dX0_leastRoom_37 : decode cX0_leastRoom 37 = .ok (.iaload, 1) := by decide +kernel
theorem dX0_leastRoom_38 : decode cX0_leastRoom 38 = .ok (.isub, 1) := by decide +kernel
theorem dX0_leastRoom_39 : decode cX0_leastRoom 39 = .ok (.invokestatic 147, 3) := by decide +kernel
theorem dX0_leastRoom_42 : decode cX0_leastRoom 42 = .ok (.istore 4, 2) := by decide +kernel
theorem dX0_leastRoom_44 : decode cX0_leastRoom 44 = .ok (.iinc 5 1, 3) := by decide +kernel
theorem dX0_leastRoom_47 : decode cX0_leastRoom 47 = .ok (.goto (-40), 3) := by decide +kernel
theorem dX0_leastRoom_50 : decode cX0_leastRoom 50 = .ok (.iload 4, 2) := by decide +kernel
theorem dX0_leastRoom_52 : decode cX0_leastRoom 52 = .ok (.ireturn, 1) := by decide +kernel
theorem dX0_giveBack_0 : decode cX0_giveBack 0 = .ok (.iload_n 1, 1) := by decide +kernel
theorem dX0_giveBack_1 : decode cX0_giveBack 1 = .ok (.istore_n 2, 1) := by decide +kernel
theorem dX0_giveBack_2 : decode cX0_giveBack 2 = .ok (.aload_n 0, 1) := by decide +kernel
theorem dX0_giveBack_3 : decode cX0_giveBack 3 = .ok (.getfield 100, 3) := by decide +kernel
theorem dX0_giveBack_6 : decode cX0_giveBack 6 = .ok (.iconst 1, 1) := by decide +kernel
theorem dX0_giveBack_7 : decode cX0_giveBack 7 = .ok (.isub, 1) := by decide +kernel
theorem dX0_giveBack_8 : decode cX0_giveBack 8 = .ok (.istore_n 3, 1) := by decide +kernel
theorem dX0_giveBack_9 : decode cX0_giveBack 9 = .ok (.iload_n 3, 1) := by decide +kernel
theorem dX0_giveBack_10 : decode cX0_giveBack 10 = .ok (.ifCond .lt 31, 3) := by decide +kernel
theorem dX0_giveBack_13 : decode cX0_giveBack 13 = .ok (.iload_n 2, 1) := by decide +kernel
theorem dX0_giveBack_14 : decode cX0_giveBack 14 = .ok (.aload_n 0, 1) := by decide +kernel
theorem dX0_giveBack_15 : decode cX0_giveBack 15 = .ok (.iload_n 2, 1) := by decide +kernel
theorem dX0_giveBack_16 : decode cX0_giveBack 16 = .ok (.aload_n 0, 1) := by decide +kernel
theorem dX0_giveBack_17 : decode cX0_giveBack 17 = .ok (.getfield 40, 3) := by decide +kernel
theorem dX0_giveBack_20 : decode cX0_giveBack 20 = .ok (.iload_n 3, 1) := by decide +kernel
theorem dX0_giveBack_21 : decode cX0_giveBack 21 = .ok (.iaload, 1) := by decide +kernel
theorem dX0_giveBack_22 : decode cX0_giveBack 22 = .ok (.aload_n 0, 1) := by decide +kernel
theorem dX0_giveBack_23 : decode cX0_giveBack 23 = .ok (.getfield 31, 3) := by decide +kernel
theorem dX0_giveBack_26 : decode cX0_giveBack 26 = .ok (.aload_n 0, 1) := by decide +kernel
theorem dX0_giveBack_27 : decode cX0_giveBack 27 = .ok (.getfield 34, 3) := by decide +kernel
theorem dX0_giveBack_30 : decode cX0_giveBack 30 = .ok (.invokevirtual 125, 3) := by decide +kernel
theorem dX0_giveBack_33 : decode cX0_giveBack 33 = .ok (.isub, 1) := by decide +kernel
theorem dX0_giveBack_34 : decode cX0_giveBack 34 = .ok (.istore_n 2, 1) := by decide +kernel
theorem dX0_giveBack_35 : decode cX0_giveBack 35 = .ok (.iinc 3 (-1), 3) := by decide +kernel
theorem dX0_giveBack_38 : decode cX0_giveBack 38 = .ok (.goto (-29), 3) := by decide +kernel
theorem dX0_giveBack_41 : decode cX0_giveBack 41 = .ok (.return_, 1) := by decide +kernel
theorem dX0_ringsOfSeveral_0 : decode cX0_ringsOfSeveral 0 = .ok (.iconst 0, 1) := by decide +kernel
theorem dX0_ringsOfSeveral_1 : decode cX0_ringsOfSeveral 1 = .ok (.istore_n 1, 1) := by decide +kernel
theorem dX0_ringsOfSeveral_2 : decode cX0_ringsOfSeveral 2 = .ok (.iconst 0, 1) := by decide +kernel
theorem dX0_ringsOfSeveral_3 : decode cX0_ringsOfSeveral 3 = .ok (.istore_n 2, 1) := by decide +kernel
theorem dX0_ringsOfSeveral_4 : decode cX0_ringsOfSeveral 4 = .ok (.iload_n 2, 1) := by decide +kernel
theorem dX0_ringsOfSeveral_5 : decode cX0_ringsOfSeveral 5 = .ok (.aload_n 0, 1) := by decide +kernel
theorem dX0_ringsOfSeveral_6 : decode cX0_ringsOfSeveral 6 = .ok (.getfield 100, 3) := by decide +kernel
theorem dX0_ringsOfSeveral_9 : decode cX0_ringsOfSeveral 9 = .ok (.if_icmp .ge 30, 3) := by decide +kernel
theorem dX0_ringsOfSeveral_12 : decode cX0_ringsOfSeveral 12 = .ok (.iload_n 1, 1) := by decide +kernel
theorem dX0_ringsOfSeveral_13 : decode cX0_ringsOfSeveral 13 = .ok (.aload_n 0, 1) := by decide +kernel
theorem dX0_ringsOfSeveral_14 : decode cX0_ringsOfSeveral 14 = .ok (.getfield 40, 3) := by decide +kernel
theorem dX0_ringsOfSeveral_17 : decode cX0_ringsOfSeveral 17 = .ok (.iload_n 2, 1) := by decide +kernel
theorem dX0_ringsOfSeveral_18 : decode cX0_ringsOfSeveral 18 = .ok (.iaload, 1) := by decide +kernel
theorem dX0_ringsOfSeveral_19 : decode cX0_ringsOfSeveral 19 = .ok (.invokestatic 154, 3) := by decide +kernel
theorem dX0_ringsOfSeveral_22 : decode cX0_ringsOfSeveral 22 = .ok (.iconst 1, 1) := by decide +kernel
theorem dX0_ringsOfSeveral_23 : decode cX0_ringsOfSeveral 23 = .ok (.if_icmp .le 7, 3) := by decide +kernel
theorem dX0_ringsOfSeveral_26 : decode cX0_ringsOfSeveral 26 = .ok (.iconst 1, 1) := by decide +kernel
theorem dX0_ringsOfSeveral_27 : decode cX0_ringsOfSeveral 27 = .ok (.goto 4, 3) := by decide +kernel
theorem dX0_ringsOfSeveral_30 : decode cX0_ringsOfSeveral 30 = .ok (.iconst 0, 1) := by decide +kernel
theorem dX0_ringsOfSeveral_31 : decode cX0_ringsOfSeveral 31 = .ok (.iadd, 1) := by decide +kernel
theorem dX0_ringsOfSeveral_32 : decode cX0_ringsOfSeveral 32 = .ok (.istore_n 1, 1) := by decide +kernel
theorem dX0_ringsOfSeveral_33 : decode cX0_ringsOfSeveral 33 = .ok (.iinc 2 1, 3) := by decide +kernel
theorem dX0_ringsOfSeveral_36 : decode cX0_ringsOfSeveral 36 = .ok (.goto (-32), 3) := by decide +kernel
theorem dX0_ringsOfSeveral_39 : decode cX0_ringsOfSeveral 39 = .ok (.iload_n 1, 1) := by decide +kernel
theorem dX0_ringsOfSeveral_40 : decode cX0_ringsOfSeveral 40 = .ok (.ireturn, 1) := by decide +kernel
theorem dX0_greatestRung_0 : decode cX0_greatestRung 0 = .ok (.aload_n 0, 1) := by decide +kernel
theorem dX0_greatestRung_1 : decode cX0_greatestRung 1 = .ok (.getfield 100, 3) := by decide +kernel
theorem dX0_greatestRung_4 : decode cX0_greatestRung 4 = .ok (.ifCond .ne 8, 3) := by decide +kernel
theorem dX0_greatestRung_7 : decode cX0_greatestRung 7 = .ok (.bipush (-5), 2) := by decide +kernel
theorem dX0_greatestRung_9 : decode cX0_greatestRung 9 = .ok (.goto 14, 3) := by decide +kernel
theorem dX0_greatestRung_12 : decode cX0_greatestRung 12 = .ok (.aload_n 0, 1) := by decide +kernel
theorem dX0_greatestRung_13 : decode cX0_greatestRung 13 = .ok (.getfield 43, 3) := by decide +kernel
theorem dX0_greatestRung_16 : decode cX0_greatestRung 16 = .ok (.aload_n 0, 1) := by decide +kernel
theorem dX0_greatestRung_17 : decode cX0_greatestRung 17 = .ok (.getfield 100, 3) := by decide +kernel
theorem dX0_greatestRung_20 : decode cX0_greatestRung 20 = .ok (.iconst 1, 1) := by decide +kernel
theorem dX0_greatestRung_21 : decode cX0_greatestRung 21 = .ok (.isub, 1) := by decide +kernel
theorem dX0_greatestRung_22 : decode cX0_greatestRung 22 = .ok (.iaload, 1) := by decide +kernel
theorem dX0_greatestRung_23 : decode cX0_greatestRung 23 = .ok (.ireturn, 1) := by decide +kernel
theorem dX0_payers_0 : decode cX0_payers 0 = .ok (.iconst 0, 1) := by decide +kernel
theorem dX0_payers_1 : decode cX0_payers 1 = .ok (.istore_n 1, 1) := by decide +kernel
theorem dX0_payers_2 : decode cX0_payers 2 = .ok (.iconst 0, 1) := by decide +kernel
theorem dX0_payers_3 : decode cX0_payers 3 = .ok (.istore_n 2, 1) := by decide +kernel
theorem dX0_payers_4 : decode cX0_payers 4 = .ok (.iload_n 2, 1) := by decide +kernel
theorem dX0_payers_5 : decode cX0_payers 5 = .ok (.aload_n 0, 1) := by decide +kernel
theorem dX0_payers_6 : decode cX0_payers 6 = .ok (.getfield 9, 3) := by decide +kernel
theorem dX0_payers_9 : decode cX0_payers 9 = .ok (.getfield 77, 3) := by decide +kernel
theorem dX0_payers_12 : decode cX0_payers 12 = .ok (.if_icmp .ge 26, 3) := by decide +kernel
theorem dX0_payers_15 : decode cX0_payers 15 = .ok (.iload_n 1, 1) := by decide +kernel
theorem dX0_payers_16 : decode cX0_payers 16 = .ok (.aload_n 0, 1) := by decide +kernel
theorem dX0_payers_17 : decode cX0_payers 17 = .ok (.getfield 31, 3) := by decide +kernel
theorem dX0_payers_20 : decode cX0_payers 20 = .ok (.iload_n 2, 1) := by decide +kernel
theorem dX0_payers_21 : decode cX0_payers 21 = .ok (.iaload, 1) := by decide +kernel
theorem dX0_payers_22 : decode cX0_payers 22 = .ok (.ifCond .le 7, 3) := by decide +kernel
theorem dX0_payers_25 : decode cX0_payers 25 = .ok (.iconst 1, 1) := by decide +kernel
theorem dX0_payers_26 : decode cX0_payers 26 = .ok (.goto 4, 3) := by decide +kernel
theorem dX0_payers_29 : decode cX0_payers 29 = .ok (.iconst 0, 1) := by decide +kernel
theorem dX0_payers_30 : decode cX0_payers 30 = .ok (.iadd, 1) := by decide +kernel
theorem dX0_payers_31 : decode cX0_payers 31 = .ok (.istore_n 1, 1) := by decide +kernel
theorem dX0_payers_32 : decode cX0_payers 32 = .ok (.iinc 2 1, 3) := by decide +kernel
theorem dX0_payers_35 : decode cX0_payers 35 = .ok (.goto (-31), 3) := by decide +kernel
theorem dX0_payers_38 : decode cX0_payers 38 = .ok (.iload_n 1, 1) := by decide +kernel
theorem dX0_payers_39 : decode cX0_payers 39 = .ok (.ireturn, 1) := by decide +kernel
theorem dX0_firstOtherwise_0 : decode cX0_firstOtherwise 0 = .ok (.iconst 0, 1) := by decide +kernel
theorem dX0_firstOtherwise_1 : decode cX0_firstOtherwise 1 = .ok (.istore_n 2, 1) := by decide +kernel
theorem dX0_firstOtherwise_2 : decode cX0_firstOtherwise 2 = .ok (.iload_n 2, 1) := by decide +kernel
theorem dX0_firstOtherwise_3 : decode cX0_firstOtherwise 3 = .ok (.aload_n 1, 1) := by decide +kernel
theorem dX0_firstOtherwise_4 : decode cX0_firstOtherwise 4 = .ok (.getfield 163, 3) := by decide +kernel
theorem dX0_firstOtherwise_7 : decode cX0_firstOtherwise 7 = .ok (.if_icmp .ge 44, 3) := by decide +kernel
theorem dX0_firstOtherwise_10 : decode cX0_firstOtherwise 10 = .ok (.aload_n 1, 1) := by decide +kernel
theorem dX0_firstOtherwise_11 : decode cX0_firstOtherwise 11 = .ok (.getfield 166, 3) := by decide +kernel
theorem dX0_firstOtherwise_14 : decode cX0_firstOtherwise 14 = .ok (.iload_n 2, 1) := by decide +kernel
theorem dX0_firstOtherwise_15 : decode cX0_firstOtherwise 15 = .ok (.iaload, 1) := by decide +kernel
theorem dX0_firstOtherwise_16 : decode cX0_firstOtherwise 16 = .ok (.istore_n 3, 1) := by decide +kernel
theorem dX0_firstOtherwise_17 : decode cX0_firstOtherwise 17 = .ok (.aload_n 0, 1) := by decide +kernel
theorem dX0_firstOtherwise_18 : decode cX0_firstOtherwise 18 = .ok (.getfield 9, 3) := by decide +kernel
theorem dX0_firstOtherwise_21 : decode cX0_firstOtherwise 21 = .ok (.iload_n 3, 1) := by decide +kernel
theorem dX0_firstOtherwise_22 : decode cX0_firstOtherwise 22 = .ok (.invokevirtual 169, 3) := by decide +kernel
theorem dX0_firstOtherwise_25 : decode cX0_firstOtherwise 25 = .ok (.ifCond .eq 18, 3) := by decide +kernel
theorem dX0_firstOtherwise_28 : decode cX0_firstOtherwise 28 = .ok (.aload_n 0, 1) := by decide +kernel
theorem dX0_firstOtherwise_29 : decode cX0_firstOtherwise 29 = .ok (.getfield 31, 3) := by decide +kernel
theorem dX0_firstOtherwise_32 : decode cX0_firstOtherwise 32 = .ok (.iload_n 3, 1) := by decide +kernel
theorem dX0_firstOtherwise_33 : decode cX0_firstOtherwise 33 = .ok (.iaload, 1) := by decide +kernel
theorem dX0_firstOtherwise_34 : decode cX0_firstOtherwise 34 = .ok (.aload_n 1, 1) := by decide +kernel
theorem dX0_firstOtherwise_35 : decode cX0_firstOtherwise 35 = .ok (.getfield 172, 3) := by decide +kernel
theorem dX0_firstOtherwise_38 : decode cX0_firstOtherwise 38 = .ok (.iload_n 2, 1) := by decide +kernel
theorem dX0_firstOtherwise_39 : decode cX0_firstOtherwise 39 = .ok (.iaload, 1) := by decide +kernel
theorem dX0_firstOtherwise_40 : decode cX0_firstOtherwise 40 = .ok (.if_icmp .eq 5, 3) := by decide +kernel
theorem dX0_firstOtherwise_43 : decode cX0_firstOtherwise 43 = .ok (.iload_n 2, 1) := by decide +kernel
theorem dX0_firstOtherwise_44 : decode cX0_firstOtherwise 44 = .ok (.ireturn, 1) := by decide +kernel
theorem dX0_firstOtherwise_45 : decode cX0_firstOtherwise 45 = .ok (.iinc 2 1, 3) := by decide +kernel
theorem dX0_firstOtherwise_48 : decode cX0_firstOtherwise 48 = .ok (.goto (-46), 3) := by decide +kernel
theorem dX0_firstOtherwise_51 : decode cX0_firstOtherwise 51 = .ok (.bipush (-5), 2) := by decide +kernel
theorem dX0_firstOtherwise_53 : decode cX0_firstOtherwise 53 = .ok (.ireturn, 1) := by decide +kernel
theorem dX0_reason_0 : decode cX0_reason 0 = .ok (.aload_n 0, 1) := by decide +kernel
theorem dX0_reason_1 : decode cX0_reason 1 = .ok (.getfield 46, 3) := by decide +kernel
theorem dX0_reason_4 : decode cX0_reason 4 = .ok (.aload_n 0, 1) := by decide +kernel
theorem dX0_reason_5 : decode cX0_reason 5 = .ok (.getfield 25, 3) := by decide +kernel
theorem dX0_reason_8 : decode cX0_reason 8 = .ok (.iload_n 1, 1) := by decide +kernel
theorem dX0_reason_9 : decode cX0_reason 9 = .ok (.iaload, 1) := by decide +kernel
theorem dX0_reason_10 : decode cX0_reason 10 = .ok (.iaload, 1) := by decide +kernel
theorem dX0_reason_11 : decode cX0_reason 11 = .ok (.istore_n 2, 1) := by decide +kernel
theorem dX0_reason_12 : decode cX0_reason 12 = .ok (.iload_n 2, 1) := by decide +kernel
theorem dX0_reason_13 : decode cX0_reason 13 = .ok (.ifCond .ne 5, 3) := by decide +kernel
theorem dX0_reason_16 : decode cX0_reason 16 = .ok (.iconst 1, 1) := by decide +kernel
theorem dX0_reason_17 : decode cX0_reason 17 = .ok (.ireturn, 1) := by decide +kernel
theorem dX0_reason_18 : decode cX0_reason 18 = .ok (.aload_n 0, 1) := by decide +kernel
theorem dX0_reason_19 : decode cX0_reason 19 = .ok (.getfield 31, 3) := by decide +kernel
theorem dX0_reason_22 : decode cX0_reason 22 = .ok (.iload_n 1, 1) := by decide +kernel
theorem dX0_reason_23 : decode cX0_reason 23 = .ok (.iaload, 1) := by decide +kernel
theorem dX0_reason_24 : decode cX0_reason 24 = .ok (.iload_n 2, 1) := by decide +kernel
theorem dX0_reason_25 : decode cX0_reason 25 = .ok (.if_icmp .lt 5, 3) := by decide +kernel
theorem dX0_reason_28 : decode cX0_reason 28 = .ok (.iconst 0, 1) := by decide +kernel
theorem dX0_reason_29 : decode cX0_reason 29 = .ok (.ireturn, 1) := by decide +kernel
theorem dX0_reason_30 : decode cX0_reason 30 = .ok (.aload_n 0, 1) := by decide +kernel
theorem dX0_reason_31 : decode cX0_reason 31 = .ok (.iload_n 1, 1) := by decide +kernel
theorem dX0_reason_32 : decode cX0_reason 32 = .ok (.invokevirtual 119, 3) := by decide +kernel
theorem dX0_reason_35 : decode cX0_reason 35 = .ok (.ifCond .eq 5, 3) := by decide +kernel
theorem dX0_reason_38 : decode cX0_reason 38 = .ok (.iconst 2, 1) := by decide +kernel
theorem dX0_reason_39 : decode cX0_reason 39 = .ok (.ireturn, 1) := by decide +kernel
theorem dX0_reason_40 : decode cX0_reason 40 = .ok (.aload_n 0, 1) := by decide +kernel
theorem dX0_reason_41 : decode cX0_reason 41 = .ok (.iload_n 1, 1) := by decide +kernel
theorem dX0_reason_42 : decode cX0_reason 42 = .ok (.iload_n 2, 1) := by decide +kernel
theorem dX0_reason_43 : decode cX0_reason 43 = .ok (.invokevirtual 138, 3) := by decide +kernel
theorem dX0_reason_46 : decode cX0_reason 46 = .ok (.aload_n 0, 1) := by decide +kernel
theorem dX0_reason_47 : decode cX0_reason 47 = .ok (.getfield 9, 3) := by decide +kernel
theorem dX0_reason_50 : decode cX0_reason 50 = .ok (.getfield 141, 3) := by decide +kernel
theorem dX0_reason_53 : decode cX0_reason 53 = .ok (.iload_n 1, 1) := by decide +kernel
theorem dX0_reason_54 : decode cX0_reason 54 = .ok (.iaload, 1) := by decide +kernel
theorem dX0_reason_55 : decode cX0_reason 55 = .ok (.if_icmp .gt 5, 3) := by decide +kernel
theorem dX0_reason_58 : decode cX0_reason 58 = .ok (.iconst 3, 1) := by decide +kernel
theorem dX0_reason_59 : decode cX0_reason 59 = .ok (.ireturn, 1) := by decide +kernel
theorem dX0_reason_60 : decode cX0_reason 60 = .ok (.aload_n 0, 1) := by decide +kernel
theorem dX0_reason_61 : decode cX0_reason 61 = .ok (.getfield 31, 3) := by decide +kernel
theorem dX0_reason_64 : decode cX0_reason 64 = .ok (.iload_n 1, 1) := by decide +kernel
theorem dX0_reason_65 : decode cX0_reason 65 = .ok (.iaload, 1) := by decide +kernel
theorem dX0_reason_66 : decode cX0_reason 66 = .ok (.aload_n 0, 1) := by decide +kernel
theorem dX0_reason_67 : decode cX0_reason 67 = .ok (.getfield 9, 3) := by decide +kernel
theorem dX0_reason_70 : decode cX0_reason 70 = .ok (.getfield 144, 3) := by decide +kernel
theorem dX0_reason_73 : decode cX0_reason 73 = .ok (.iload_n 1, 1) := by decide +kernel
theorem dX0_reason_74 : decode cX0_reason 74 = .ok (.iaload, 1) := by decide +kernel
theorem dX0_reason_75 : decode cX0_reason 75 = .ok (.if_icmp .ne 5, 3) := by decide +kernel
theorem dX0_reason_78 : decode cX0_reason 78 = .ok (.iconst 4, 1) := by decide +kernel
theorem dX0_reason_79 : decode cX0_reason 79 = .ok (.ireturn, 1) := by decide +kernel
theorem dX0_reason_80 : decode cX0_reason 80 = .ok (.aload_n 0, 1) := by decide +kernel
theorem dX0_reason_81 : decode cX0_reason 81 = .ok (.iload_n 1, 1) := by decide +kernel
theorem dX0_reason_82 : decode cX0_reason 82 = .ok (.invokevirtual 103, 3) := by decide +kernel
theorem dX0_reason_85 : decode cX0_reason 85 = .ok (.ifCond .eq 8, 3) := by decide +kernel
theorem dX0_reason_88 : decode cX0_reason 88 = .ok (.bipush 6, 2) := by decide +kernel
theorem dX0_reason_90 : decode cX0_reason 90 = .ok (.goto 4, 3) := by decide +kernel
theorem dX0_reason_93 : decode cX0_reason 93 = .ok (.iconst 5, 1) := by decide +kernel
theorem dX0_reason_94 : decode cX0_reason 94 = .ok (.ireturn, 1) := by decide +kernel
theorem dX0_cause_0 : decode cX0_cause 0 = .ok (.aload_n 0, 1) := by decide +kernel
theorem dX0_cause_1 : decode cX0_cause 1 = .ok (.getfield 46, 3) := by decide +kernel
theorem dX0_cause_4 : decode cX0_cause 4 = .ok (.aload_n 0, 1) := by decide +kernel
theorem dX0_cause_5 : decode cX0_cause 5 = .ok (.getfield 25, 3) := by decide +kernel
theorem dX0_cause_8 : decode cX0_cause 8 = .ok (.iload_n 1, 1) := by decide +kernel
theorem dX0_cause_9 : decode cX0_cause 9 = .ok (.iaload, 1) := by decide +kernel
theorem dX0_cause_10 : decode cX0_cause 10 = .ok (.iaload, 1) := by decide +kernel
theorem dX0_cause_11 : decode cX0_cause 11 = .ok (.istore_n 3, 1) := by decide +kernel
theorem dX0_cause_12 : decode cX0_cause 12 = .ok (.iload_n 2, 1) := by decide +kernel
theorem dX0_cause_13 : decode cX0_cause 13 = .ok (.tableswitch 97 1 6 #[39, 50, 64, 71, 81, 88], 39) := by decide +kernel
theorem dX0_cause_52 : decode cX0_cause 52 = .ok (.aload_n 0, 1) := by decide +kernel
theorem dX0_cause_53 : decode cX0_cause 53 = .ok (.aload_n 0, 1) := by decide +kernel
theorem dX0_cause_54 : decode cX0_cause 54 = .ok (.getfield 25, 3) := by decide +kernel
theorem dX0_cause_57 : decode cX0_cause 57 = .ok (.iload_n 1, 1) := by decide +kernel
theorem dX0_cause_58 : decode cX0_cause 58 = .ok (.iaload, 1) := by decide +kernel
theorem dX0_cause_59 : decode cX0_cause 59 = .ok (.invokevirtual 175, 3) := by decide +kernel
theorem dX0_cause_62 : decode cX0_cause 62 = .ok (.ireturn, 1) := by decide +kernel
theorem dX0_cause_63 : decode cX0_cause 63 = .ok (.aload_n 0, 1) := by decide +kernel
theorem dX0_cause_64 : decode cX0_cause 64 = .ok (.aload_n 0, 1) := by decide +kernel
theorem dX0_cause_65 : decode cX0_cause 65 = .ok (.getfield 9, 3) := by decide +kernel
theorem dX0_cause_68 : decode cX0_cause 68 = .ok (.getfield 80, 3) := by decide +kernel
theorem dX0_cause_71 : decode cX0_cause 71 = .ok (.iload_n 1, 1) := by decide +kernel
theorem dX0_cause_72 : decode cX0_cause 72 = .ok (.iaload, 1) := by decide +kernel
theorem dX0_cause_73 : decode cX0_cause 73 = .ok (.invokevirtual 132, 3) := by decide +kernel
theorem dX0_cause_76 : decode cX0_cause 76 = .ok (.ireturn, 1) := by decide +kernel
theorem dX0_cause_77 : decode cX0_cause 77 = .ok (.aload_n 0, 1) := by decide +kernel
theorem dX0_cause_78 : decode cX0_cause 78 = .ok (.iload_n 1, 1) := by decide +kernel
theorem dX0_cause_79 : decode cX0_cause 79 = .ok (.iload_n 3, 1) := by decide +kernel
theorem dX0_cause_80 : decode cX0_cause 80 = .ok (.invokevirtual 138, 3) := by decide +kernel
theorem dX0_cause_83 : decode cX0_cause 83 = .ok (.ireturn, 1) := by decide +kernel
theorem dX0_cause_84 : decode cX0_cause 84 = .ok (.aload_n 0, 1) := by decide +kernel
theorem dX0_cause_85 : decode cX0_cause 85 = .ok (.getfield 9, 3) := by decide +kernel
theorem dX0_cause_88 : decode cX0_cause 88 = .ok (.getfield 144, 3) := by decide +kernel
theorem dX0_cause_91 : decode cX0_cause 91 = .ok (.iload_n 1, 1) := by decide +kernel
theorem dX0_cause_92 : decode cX0_cause 92 = .ok (.iaload, 1) := by decide +kernel
theorem dX0_cause_93 : decode cX0_cause 93 = .ok (.ireturn, 1) := by decide +kernel
theorem dX0_cause_94 : decode cX0_cause 94 = .ok (.aload_n 0, 1) := by decide +kernel
theorem dX0_cause_95 : decode cX0_cause 95 = .ok (.getfield 19, 3) := by decide +kernel
theorem dX0_cause_98 : decode cX0_cause 98 = .ok (.iload_n 1, 1) := by decide +kernel
theorem dX0_cause_99 : decode cX0_cause 99 = .ok (.iaload, 1) := by decide +kernel
theorem dX0_cause_100 : decode cX0_cause 100 = .ok (.ireturn, 1) := by decide +kernel
theorem dX0_cause_101 : decode cX0_cause 101 = .ok (.iload_n 3, 1) := by decide +kernel
theorem dX0_cause_102 : decode cX0_cause 102 = .ok (.aload_n 0, 1) := by decide +kernel
theorem dX0_cause_103 : decode cX0_cause 103 = .ok (.getfield 31, 3) := by decide +kernel
theorem dX0_cause_106 : decode cX0_cause 106 = .ok (.iload_n 1, 1) := by decide +kernel
theorem dX0_cause_107 : decode cX0_cause 107 = .ok (.iaload, 1) := by decide +kernel
theorem dX0_cause_108 : decode cX0_cause 108 = .ok (.isub, 1) := by decide +kernel
theorem dX0_cause_109 : decode cX0_cause 109 = .ok (.ireturn, 1) := by decide +kernel
theorem dX0_cause_110 : decode cX0_cause 110 = .ok (.bipush (-5), 2) := by decide +kernel
theorem dX0_cause_112 : decode cX0_cause 112 = .ok (.ireturn, 1) := by decide +kernel
theorem dX0_causeBehind_0 : decode cX0_causeBehind 0 = .ok (.iload_n 2, 1) := by decide +kernel
theorem dX0_causeBehind_1 : decode cX0_causeBehind 1 = .ok (.tableswitch 86 1 5 #[35, 35, 64, 86, 74], 35) := by decide +kernel
theorem dX0_causeBehind_36 : decode cX0_causeBehind 36 = .ok (.aload_n 0, 1) := by decide +kernel
