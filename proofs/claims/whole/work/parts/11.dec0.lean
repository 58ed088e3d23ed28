theorem dX0_init_0 : decode cX0_init 0 = .ok (.aload_n 0, 1) := by decide +kernel
theorem dX0_init_1 : decode cX0_init 1 = .ok (.invokespecial 3, 3) := by decide +kernel
theorem dX0_init_4 : decode cX0_init 4 = .ok (.aload_n 0, 1) := by decide +kernel
theorem dX0_init_5 : decode cX0_init 5 = .ok (.new 9, 3) := by decide +kernel
theorem dX0_init_8 : decode cX0_init 8 = .ok (.dup, 1) := by decide +kernel
theorem dX0_init_9 : decode cX0_init 9 = .ok (.invokespecial 11, 3) := by decide +kernel
theorem dX0_init_12 : decode cX0_init 12 = .ok (.putfield 12, 3) := by decide +kernel
theorem dX0_init_15 : decode cX0_init 15 = .ok (.aload_n 0, 1) := by decide +kernel
theorem dX0_init_16 : decode cX0_init 16 = .ok (.bipush 8, 2) := by decide +kernel
theorem dX0_init_18 : decode cX0_init 18 = .ok (.newarray .int, 2) := by decide +kernel
theorem dX0_init_20 : decode cX0_init 20 = .ok (.putfield 18, 3) := by decide +kernel
theorem dX0_init_23 : decode cX0_init 23 = .ok (.aload_n 0, 1) := by decide +kernel
theorem dX0_init_24 : decode cX0_init 24 = .ok (.iconst 4, 1) := by decide +kernel
theorem dX0_init_25 : decode cX0_init 25 = .ok (.newarray .int, 2) := by decide +kernel
theorem dX0_init_27 : decode cX0_init 27 = .ok (.putfield 22, 3) := by decide +kernel
theorem dX0_init_30 : decode cX0_init 30 = .ok (.aload_n 0, 1) := by decide +kernel
theorem dX0_init_31 : decode cX0_init 31 = .ok (.iconst 4, 1) := by decide +kernel
theorem dX0_init_32 : decode cX0_init 32 = .ok (.newarray .int, 2) := by decide +kernel
theorem dX0_init_34 : decode cX0_init 34 = .ok (.putfield 25, 3) := by decide +kernel
theorem dX0_init_37 : decode cX0_init 37 = .ok (.return_, 1) := by decide +kernel
theorem dX0_find_0 : decode cX0_find 0 = .ok (.aload 4, 2) := by decide +kernel
theorem dX0_find_2 : decode cX0_find 2 = .ok (.invokevirtual 28, 3) := by decide +kernel
theorem dX0_find_5 : decode cX0_find 5 = .ok (.aload_n 2, 1) := by decide +kernel
theorem dX0_find_6 : decode cX0_find 6 = .ok (.iload_n 3, 1) := by decide +kernel
theorem dX0_find_7 : decode cX0_find 7 = .ok (.invokevirtual 33, 3) := by decide +kernel
theorem dX0_find_10 : decode cX0_find 10 = .ok (.ifCond .eq 12, 3) := by decide +kernel
theorem dX0_find_13 : decode cX0_find 13 = .ok (.aload 4, 2) := by decide +kernel
theorem dX0_find_15 : decode cX0_find 15 = .ok (.getfield 39, 3) := by decide +kernel
theorem dX0_find_18 : decode cX0_find 18 = .ok (.iload_n 3, 1) := by decide +kernel
theorem dX0_find_19 : decode cX0_find 19 = .ok (.bipush (-6), 2) := by decide +kernel
theorem dX0_find_21 : decode cX0_find 21 = .ok (.iastore, 1) := by decide +kernel
theorem dX0_find_22 : decode cX0_find 22 = .ok (.iconst 0, 1) := by decide +kernel
theorem dX0_find_23 : decode cX0_find 23 = .ok (.istore 5, 2) := by decide +kernel
theorem dX0_find_25 : decode cX0_find 25 = .ok (.iload 5, 2) := by decide +kernel
theorem dX0_find_27 : decode cX0_find 27 = .ok (.aload_n 2, 1) := by decide +kernel
theorem dX0_find_28 : decode cX0_find 28 = .ok (.getfield 42, 3) := by decide +kernel
theorem dX0_find_31 : decode cX0_find 31 = .ok (.if_icmp .ge 41, 3) := by decide +kernel
theorem dX0_find_34 : decode cX0_find 34 = .ok (.aload 4, 2) := by decide +kernel
theorem dX0_find_36 : decode cX0_find 36 = .ok (.getfield 46, 3) := by decide +kernel
theorem dX0_find_39 : decode cX0_find 39 = .ok (.bipush 8, 2) := by decide +kernel
theorem dX0_find_41 : decode cX0_find 41 = .ok (.if_icmp .ge 31, 3) := by decide +kernel
theorem dX0_find_44 : decode cX0_find 44 = .ok (.aload 4, 2) := by decide +kernel
theorem dX0_find_46 : decode cX0_find 46 = .ok (.getfield 39, 3) := by decide +kernel
theorem dX0_find_49 : decode cX0_find 49 = .ok (.iload 5, 2) := by decide +kernel
theorem dX0_find_51 : decode cX0_find 51 = .ok (.iaload, 1) := by decide +kernel
theorem dX0_find_52 : decode cX0_find 52 = .ok (.iconst (-1), 1) := by decide +kernel
theorem dX0_find_53 : decode cX0_find 53 = .ok (.if_icmp .ne 13, 3) := by decide +kernel
theorem dX0_find_56 : decode cX0_find 56 = .ok (.aload_n 0, 1) := by decide +kernel
theorem dX0_find_57 : decode cX0_find 57 = .ok (.aload_n 1, 1) := by decide +kernel
theorem dX0_find_58 : decode cX0_find 58 = .ok (.aload_n 2, 1) := by decide +kernel
theorem dX0_find_59 : decode cX0_find 59 = .ok (.iload 5, 2) := by decide +kernel
theorem dX0_find_61 : decode cX0_find 61 = .ok (.aload 4, 2) := by decide +kernel
theorem dX0_find_63 : decode cX0_find 63 = .ok (.invokevirtual 47, 3) := by decide +kernel
theorem dX0_find_66 : decode cX0_find 66 = .ok (.iinc 5 1, 3) := by decide +kernel
theorem dX0_find_69 : decode cX0_find 69 = .ok (.goto (-44), 3) := by decide +kernel
theorem dX0_find_72 : decode cX0_find 72 = .ok (.return_, 1) := by decide +kernel
theorem dX0_spreadOf_0 : decode cX0_spreadOf 0 = .ok (.iconst 0, 1) := by decide +kernel
theorem dX0_spreadOf_1 : decode cX0_spreadOf 1 = .ok (.istore 6, 2) := by decide +kernel
theorem dX0_spreadOf_3 : decode cX0_spreadOf 3 = .ok (.iload 6, 2) := by decide +kernel
theorem dX0_spreadOf_5 : decode cX0_spreadOf 5 = .ok (.iconst 4, 1) := by decide +kernel
theorem dX0_spreadOf_6 : decode cX0_spreadOf 6 = .ok (.if_icmp .ge 30, 3) := by decide +kernel
theorem dX0_spreadOf_9 : decode cX0_spreadOf 9 = .ok (.aload_n 0, 1) := by decide +kernel
theorem dX0_spreadOf_10 : decode cX0_spreadOf 10 = .ok (.getfield 12, 3) := by decide +kernel
theorem dX0_spreadOf_13 : decode cX0_spreadOf 13 = .ok (.getfield 51, 3) := by decide +kernel
theorem dX0_spreadOf_16 : decode cX0_spreadOf 16 = .ok (.iload 6, 2) := by decide +kernel
theorem dX0_spreadOf_18 : decode cX0_spreadOf 18 = .ok (.aload_n 2, 1) := by decide +kernel
theorem dX0_spreadOf_19 : decode cX0_spreadOf 19 = .ok (.aload_n 3, 1) := by decide +kernel
theorem dX0_spreadOf_20 : decode cX0_spreadOf 20 = .ok (.getfield 54, 3) := by decide +kernel
theorem dX0_spreadOf_23 : decode cX0_spreadOf 23 = .ok (.iload 6, 2) := by decide +kernel
theorem dX0_spreadOf_25 : decode cX0_spreadOf 25 = .ok (.iaload, 1) := by decide +kernel
theorem dX0_spreadOf_26 : decode cX0_spreadOf 26 = .ok (.invokevirtual 59, 3) := by decide +kernel
theorem dX0_spreadOf_29 : decode cX0_spreadOf 29 = .ok (.iastore, 1) := by decide +kernel
theorem dX0_spreadOf_30 : decode cX0_spreadOf 30 = .ok (.iinc 6 1, 3) := by decide +kernel
theorem dX0_spreadOf_33 : decode cX0_spreadOf 33 = .ok (.goto (-30), 3) := by decide +kernel
theorem dX0_spreadOf_36 : decode cX0_spreadOf 36 = .ok (.aload_n 0, 1) := by decide +kernel
theorem dX0_spreadOf_37 : decode cX0_spreadOf 37 = .ok (.getfield 12, 3) := by decide +kernel
theorem dX0_spreadOf_40 : decode cX0_spreadOf 40 = .ok (.aload_n 1, 1) := by decide +kernel
theorem dX0_spreadOf_41 : decode cX0_spreadOf 41 = .ok (.iload 4, 2) := by decide +kernel
theorem dX0_spreadOf_43 : decode cX0_spreadOf 43 = .ok (.iload 5, 2) := by decide +kernel
theorem dX0_spreadOf_45 : decode cX0_spreadOf 45 = .ok (.invokevirtual 63, 3) := by decide +kernel
theorem dX0_spreadOf_48 : decode cX0_spreadOf 48 = .ok (.ireturn, 1) := by decide +kernel
theorem dX0_judge_0 : decode cX0_judge 0 = .ok (.aload 4, 2) := by decide +kernel
theorem dX0_judge_2 : decode cX0_judge 2 = .ok (.getfield 39, 3) := by decide +kernel
theorem dX0_judge_5 : decode cX0_judge 5 = .ok (.iload_n 3, 1) := by decide +kernel
theorem dX0_judge_6 : decode cX0_judge 6 = .ok (.bipush (-6), 2) := by decide +kernel
theorem dX0_judge_8 : decode cX0_judge 8 = .ok (.iastore, 1) := by decide +kernel
theorem dX0_judge_9 : decode cX0_judge 9 = .ok (.aload_n 0, 1) := by decide +kernel
theorem dX0_judge_10 : decode cX0_judge 10 = .ok (.aload_n 2, 1) := by decide +kernel
theorem dX0_judge_11 : decode cX0_judge 11 = .ok (.iload_n 3, 1) := by decide +kernel
theorem dX0_judge_12 : decode cX0_judge 12 = .ok (.aload 4, 2) := by decide +kernel
theorem dX0_judge_14 : decode cX0_judge 14 = .ok (.getfield 39, 3) := by decide +kernel
theorem dX0_judge_17 : decode cX0_judge 17 = .ok (.invokevirtual 67, 3) := by decide +kernel
theorem dX0_judge_20 : decode cX0_judge 20 = .ok (.aload_n 2, 1) := by decide +kernel
theorem dX0_judge_21 : decode cX0_judge 21 = .ok (.getfield 71, 3) := by decide +kernel
theorem dX0_judge_24 : decode cX0_judge 24 = .ok (.iconst 2, 1) := by decide +kernel
theorem dX0_judge_25 : decode cX0_judge 25 = .ok (.iaload, 1) := by decide +kernel
theorem dX0_judge_26 : decode cX0_judge 26 = .ok (.iconst 1, 1) := by decide +kernel
theorem dX0_judge_27 : decode cX0_judge 27 = .ok (.iadd, 1) := by decide +kernel
theorem dX0_judge_28 : decode cX0_judge 28 = .ok (.istore 5, 2) := by decide +kernel
theorem dX0_judge_30 : decode cX0_judge 30 = .ok (.iconst 0, 1) := by decide +kernel
theorem dX0_judge_31 : decode cX0_judge 31 = .ok (.istore 6, 2) := by decide +kernel
theorem dX0_judge_33 : decode cX0_judge 33 = .ok (.iconst 0, 1) := by decide +kernel
theorem dX0_judge_34 : decode cX0_judge 34 = .ok (.istore 7, 2) := by decide +kernel
theorem dX0_judge_36 : decode cX0_judge 36 = .ok (.iload 7, 2) := by decide +kernel
theorem dX0_judge_38 : decode cX0_judge 38 = .ok (.bipush 16, 2) := by decide +kernel
theorem dX0_judge_40 : decode cX0_judge 40 = .ok (.if_icmp .ge 63, 3) := by decide +kernel
theorem dX0_judge_43 : decode cX0_judge 43 = .ok (.iload 5, 2) := by decide +kernel
theorem dX0_judge_45 : decode cX0_judge 45 = .ok (.ifCond .le 58, 3) := by decide +kernel
theorem dX0_judge_48 : decode cX0_judge 48 = .ok (.aload_n 0, 1) := by decide +kernel
theorem dX0_judge_49 : decode cX0_judge 49 = .ok (.aload_n 2, 1) := by decide +kernel
theorem dX0_judge_50 : decode cX0_judge 50 = .ok (.iload 7, 2) := by decide +kernel
theorem dX0_judge_52 : decode cX0_judge 52 = .ok (.invokevirtual 74, 3) := by decide +kernel
theorem dX0_judge_55 : decode cX0_judge 55 = .ok (.ifCond .eq 42, 3) := by decide +kernel
theorem dX0_judge_58 : decode cX0_judge 58 = .ok (.aload_n 0, 1) := by decide +kernel
theorem dX0_judge_59 : decode cX0_judge 59 = .ok (.getfield 12, 3) := by decide +kernel
theorem dX0_judge_62 : decode cX0_judge 62 = .ok (.aload_n 1, 1) := by decide +kernel
theorem dX0_judge_63 : decode cX0_judge 63 = .ok (.iload 5, 2) := by decide +kernel
theorem dX0_judge_65 : decode cX0_judge 65 = .ok (.invokevirtual 78, 3) := by decide +kernel
theorem dX0_judge_68 : decode cX0_judge 68 = .ok (.ifCond .eq 29, 3) := by decide +kernel
theorem dX0_judge_71 : decode cX0_judge 71 = .ok (.aload 4, 2) := by decide +kernel
theorem dX0_judge_73 : decode cX0_judge 73 = .ok (.aload_n 1, 1) := by decide +kernel
theorem dX0_judge_74 : decode cX0_judge 74 = .ok (.aload_n 0, 1) := by decide +kernel
theorem dX0_judge_75 : decode cX0_judge 75 = .ok (.getfield 12, 3) := by decide +kernel
theorem dX0_judge_78 : decode cX0_judge 78 = .ok (.aload_n 0, 1) := by decide +kernel
theorem dX0_judge_79 : decode cX0_judge 79 = .ok (.getfield 25, 3) := by decide +kernel
theorem dX0_judge_82 : decode cX0_judge 82 = .ok (.invokevirtual 82, 3) := by decide +kernel
theorem dX0_judge_85 : decode cX0_judge 85 = .ok (.aload_n 0, 1) := by decide +kernel
theorem dX0_judge_86 : decode cX0_judge 86 = .ok (.getfield 12, 3) := by decide +kernel
theorem dX0_judge_89 : decode cX0_judge 89 = .ok (.getfield 86, 3) := by decide +kernel
theorem dX0_judge_92 : decode cX0_judge 92 = .ok (.istore 5, 2) := by decide +kernel
theorem dX0_judge_94 : decode cX0_judge 94 = .ok (.iconst 1, 1) := by decide +kernel
theorem dX0_judge_95 : decode cX0_judge 95 = .ok (.istore 6, 2) := by decide +kernel
theorem dX0_judge_97 : decode cX0_judge 97 = .ok (.iinc 7 1, 3) := by decide +kernel
theorem dX0_judge_100 : decode cX0_judge 100 = .ok (.goto (-64), 3) := by decide +kernel
theorem dX0_judge_103 : decode cX0_judge 103 = .ok (.iload 6, 2) := by decide +kernel
theorem dX0_judge_105 : decode cX0_judge 105 = .ok (.ifCond .eq 8, 3) := by decide +kernel
theorem dX0_judge_108 : decode cX0_judge 108 = .ok (.aload 4, 2) := by decide +kernel
theorem dX0_judge_110 : decode cX0_judge 110 = .ok (.invokevirtual 89, 3) := by decide +kernel
theorem dX0_judge_113 : decode cX0_judge 113 = .ok (.return_, 1) := by decide +kernel
theorem dX0_gather_0 : decode cX0_gather 0 = .ok (.iconst 0, 1) := by decide +kernel
theorem dX0_gather_1 : decode cX0_gather 1 = .ok (.istore 4, 2) := by decide +kernel
theorem dX0_gather_3 : decode cX0_gather 3 = .ok (.iload 4, 2) := by decide +kernel
theorem dX0_gather_5 : decode cX0_gather 5 = .ok (.iconst 4, 1) := by decide +kernel
theorem dX0_gather_6 : decode cX0_gather 6 = .ok (.if_icmp .ge 17, 3) := by decide +kernel
theorem dX0_gather_9 : decode cX0_gather 9 = .ok (.aload_n 0, 1) := by decide +kernel
theorem dX0_gather_10 : decode cX0_gather 10 = .ok (.getfield 22, 3) := by decide +kernel
theorem dX0_gather_13 : decode cX0_gather 13 = .ok (.iload 4, 2) := by decide +kernel
theorem dX0_gather_15 : decode cX0_gather 15 = .ok (.iconst 0, 1) := by decide +kernel
theorem dX0_gather_16 : decode cX0_gather 16 = .ok (.iastore, 1) := by decide +kernel
theorem dX0_gather_17 : decode cX0_gather 17 = .ok (.iinc 4 1, 3) := by decide +kernel
theorem dX0_gather_20 : decode cX0_gather 20 = .ok (.goto (-17), 3) := by decide +kernel
theorem dX0_gather_23 : decode cX0_gather 23 = .ok (.aload_n 1, 1) := by decide +kernel
theorem dX0_gather_24 : decode cX0_gather 24 = .ok (.iload_n 2, 1) := by decide +kernel
theorem dX0_gather_25 : decode cX0_gather 25 = .ok (.invokevirtual 92, 3) := by decide +kernel
theorem dX0_gather_28 : decode cX0_gather 28 = .ok (.istore 4, 2) := by decide +kernel
theorem dX0_gather_30 : decode cX0_gather 30 = .ok (.aload_n 0, 1) := by decide +kernel
theorem dX0_gather_31 : decode cX0_gather 31 = .ok (.getfield 18, 3) := by decide +kernel
theorem dX0_gather_34 : decode cX0_gather 34 = .ok (.iload 4, 2) := by decide +kernel
theorem dX0_gather_36 : decode cX0_gather 36 = .ok (.iconst 2, 1) := by decide +kernel
theorem dX0_gather_37 : decode cX0_gather 37 = .ok (.imul, 1) := by decide +kernel
theorem dX0_gather_38 : decode cX0_gather 38 = .ok (.iload_n 2, 1) := by decide +kernel
theorem dX0_gather_39 : decode cX0_gather 39 = .ok (.iastore, 1) := by decide +kernel
theorem dX0_gather_40 : decode cX0_gather 40 = .ok (.aload_n 0, 1) := by decide +kernel
theorem dX0_gather_41 : decode cX0_gather 41 = .ok (.getfield 22, 3) := by decide +kernel
theorem dX0_gather_44 : decode cX0_gather 44 = .ok (.iload 4, 2) := by decide +kernel
theorem dX0_gather_46 : decode cX0_gather 46 = .ok (.iconst 1, 1) := by decide +kernel
theorem dX0_gather_47 : decode cX0_gather 47 = .ok (.iastore, 1) := by decide +kernel
theorem dX0_gather_48 : decode cX0_gather 48 = .ok (.aload_n 1, 1) := by decide +kernel
theorem dX0_gather_49 : decode cX0_gather 49 = .ok (.iload_n 2, 1) := by decide +kernel
theorem dX0_gather_50 : decode cX0_gather 50 = .ok (.invokevirtual 59, 3) := by decide +kernel
theorem dX0_gather_53 : decode cX0_gather 53 = .ok (.aload_n 1, 1) := by decide +kernel
theorem dX0_gather_54 : decode cX0_gather 54 = .ok (.getfield 71, 3) := by decide +kernel
theorem dX0_gather_57 : decode cX0_gather 57 = .ok (.iconst 1, 1) := by decide +kernel
theorem dX0_gather_58 : decode cX0_gather 58 = .ok (.iaload, 1) := by decide +kernel
theorem dX0_gather_59 : decode cX0_gather 59 = .ok (.iadd, 1) := by decide +kernel
theorem dX0_gather_60 : decode cX0_gather 60 = .ok (.istore 5, 2) := by decide +kernel
theorem dX0_gather_62 : decode cX0_gather 62 = .ok (.iload_n 2, 1) := by decide +kernel
theorem dX0_gather_63 : decode cX0_gather 63 = .ok (.iconst 1, 1) := by decide +kernel
theorem dX0_gather_64 : decode cX0_gather 64 = .ok (.iadd, 1) := by decide +kernel
theorem dX0_gather_65 : decode cX0_gather 65 = .ok (.istore 6, 2) := by decide +kernel
theorem dX0_gather_67 : decode cX0_gather 67 = .ok (.iload 6, 2) := by decide +kernel
theorem dX0_gather_69 : decode cX0_gather 69 = .ok (.aload_n 1, 1) := by decide +kernel
theorem dX0_gather_70 : decode cX0_gather 70 = .ok (.getfield 42, 3) := by decide +kernel
theorem dX0_gather_73 : decode cX0_gather 73 = .ok (.if_icmp .ge 84, 3) := by decide +kernel
theorem dX0_gather_76 : decode cX0_gather 76 = .ok (.aload_n 1, 1) := by decide +kernel
theorem dX0_gather_77 : decode cX0_gather 77 = .ok (.iload 6, 2) := by decide +kernel
theorem dX0_gather_79 : decode cX0_gather 79 = .ok (.invokevirtual 59, 3) := by decide +kernel
theorem dX0_gather_82 : decode cX0_gather 82 = .ok (.iload 5, 2) := by decide +kernel
theorem dX0_gather_84 : decode cX0_gather 84 = .ok (.if_icmp .gt 73, 3) := by decide +kernel
theorem dX0_gather_87 : decode cX0_gather 87 = .ok (.aload_n 1, 1) := by decide +kernel
theorem dX0_gather_88 : decode cX0_gather 88 = .ok (.iload 6, 2) := by decide +kernel
theorem dX0_gather_90 : decode cX0_gather 90 = .ok (.invokevirtual 92, 3) := by decide +kernel
theorem dX0_gather_93 : decode cX0_gather 93 = .ok (.istore 7, 2) := by decide +kernel
theorem dX0_gather_95 : decode cX0_gather 95 = .ok (.iload 7, 2) := by decide +kernel
theorem dX0_gather_97 : decode cX0_gather 97 = .ok (.iload 4, 2) := by decide +kernel
theorem dX0_gather_99 : decode cX0_gather 99 = .ok (.if_icmp .eq 52, 3) := by decide +kernel
theorem dX0_gather_102 : decode cX0_gather 102 = .ok (.aload_n 3, 1) := by decide +kernel
theorem dX0_gather_103 : decode cX0_gather 103 = .ok (.iload 6, 2) := by decide +kernel
theorem dX0_gather_105 : decode cX0_gather 105 = .ok (.iaload, 1) := by decide +kernel
theorem dX0_gather_106 : decode cX0_gather 106 = .ok (.iconst (-1), 1) := by decide +kernel
theorem dX0_gather_107 : decode cX0_gather 107 = .ok (.if_icmp .ne 44, 3) := by decide +kernel
theorem dX0_gather_110 : decode cX0_gather 110 = .ok (.aload_n 0, 1) := by decide +kernel
theorem dX0_gather_111 : decode cX0_gather 111 = .ok (.getfield 22, 3) := by decide +kernel
theorem dX0_gather_114 : decode cX0_gather 114 = .ok (.iload 7, 2) := by decide +kernel
theorem dX0_gather_116 : decode cX0_gather 116 = .ok (.iaload, 1) := by decide +kernel
theorem dX0_gather_117 : decode cX0_gather 117 = .ok (.iconst 2, 1) := by decide +kernel
theorem dX0_gather_118 : decode cX0_gather 118 = .ok (.if_icmp .ge 33, 3) := by decide +kernel
theorem dX0_gather_121 : decode cX0_gather 121 = .ok (.aload_n 0, 1) := by decide +kernel
theorem dX0_gather_122 : decode cX0_gather 122 = .ok (.getfield 18, 3) := by decide +kernel
theorem dX0_gather_125 : decode cX0_gather 125 = .ok (.iload 7, 2) := by decide +kernel
theorem dX0_gather_127 : decode cX0_gather 127 = .ok (.iconst 2, 1) := by decide +kernel
theorem dX0_gather_128 : decode cX0_gather 128 = .ok (.imul, 1) := by decide +kernel
theorem dX0_gather_129 : decode cX0_gather 129 = .ok (.aload_n 0, 1) := by decide +kernel
theorem dX0_gather_130 : decode cX0_gather 130 = .ok (.getfield 22, 3) := by decide +kernel
theorem dX0_gather_133 : decode cX0_gather 133 = .ok (.iload 7, 2) := by decide +kernel
theorem dX0_gather_135 : decode cX0_gather 135 = .ok (.iaload, 1) := by decide +kernel
theorem dX0_gather_136 : decode cX0_gather 136 = .ok (.iadd, 1) := by decide +kernel
theorem dX0_gather_137 : decode cX0_gather 137 = .ok (.iload 6, 2) := by decide +kernel
theorem dX0_gather_139 : decode cX0_gather 139 = .ok (.iastore, 1) := by decide +kernel
theorem dX0_gather_140 : decode cX0_gather 140 = .ok (.aload_n 0, 1) := by decide +kernel
theorem dX0_gather_141 : decode cX0_gather 141 = .ok (.getfield 22, 3) := by decide +kernel
theorem dX0_gather_144 : decode cX0_gather 144 = .ok (.iload 7, 2) := by decide +kernel
theorem dX0_gather_146 : decode cX0_gather 146 = .ok (.dup2, 1) := by decide +kernel
theorem dX0_gather_147 : decode cX0_gather 147 = .ok (.iaload, 1) := by decide +kernel
theorem dX0_gather_148 : decode cX0_gather 148 = .ok (.iconst 1, 1) := by decide +kernel
theorem dX0_gather_149 : decode cX0_gather 149 = .ok (.iadd, 1) := by decide +kernel
theorem dX0_gather_150 : decode cX0_gather 150 = .ok (.iastore, 1) := by decide +kernel
theorem dX0_gather_151 : decode cX0_gather 151 = .ok (.iinc 6 1, 3) := by decide +kernel
theorem dX0_gather_154 : decode cX0_gather 154 = .ok (.goto (-87), 3) := by decide +kernel
theorem dX0_gather_157 : decode cX0_gather 157 = .ok (.return_, 1) := by decide +kernel
theorem dX0_choose_0 : decode cX0_choose 0 = .ok (.iconst 0, 1) := by decide +kernel
theorem dX0_choose_1 : decode cX0_choose 1 = .ok (.istore_n 3, 1) := by decide +kernel
theorem dX0_choose_2 : decode cX0_choose 2 = .ok (.iload_n 3, 1) := by decide +kernel
theorem dX0_choose_3 : decode cX0_choose 3 = .ok (.iconst 4, 1) := by decide +kernel
theorem dX0_choose_4 : decode cX0_choose 4 = .ok (.if_icmp .ge 67, 3) := by decide +kernel
theorem dX0_choose_7 : decode cX0_choose 7 = .ok (.iload_n 2, 1) := by decide +kernel
theorem dX0_choose_8 : decode cX0_choose 8 = .ok (.iconst 3, 1) := by decide +kernel
theorem dX0_choose_9 : decode cX0_choose 9 = .ok (.iload_n 3, 1) := by decide +kernel
theorem dX0_choose_10 : decode cX0_choose 10 = .ok (.isub, 1) := by decide +kernel
theorem dX0_choose_11 : decode cX0_choose 11 = .ok (.ishr, 1) := by decide +kernel
theorem dX0_choose_12 : decode cX0_choose 12 = .ok (.iconst 1, 1) := by decide +kernel
theorem dX0_choose_13 : decode cX0_choose 13 = .ok (.iand, 1) := by decide +kernel
theorem dX0_choose_14 : decode cX0_choose 14 = .ok (.istore 4, 2) := by decide +kernel
theorem dX0_choose_16 : decode cX0_choose 16 = .ok (.iload 4, 2) := by decide +kernel
theorem dX0_choose_18 : decode cX0_choose 18 = .ok (.aload_n 0, 1) := by decide +kernel
theorem dX0_choose_19 : decode cX0_choose 19 = .ok (.getfield 22, 3) := by decide +kernel
theorem dX0_choose_22 : decode cX0_choose 22 = .ok (.iload_n 3, 1) := by decide +kernel
theorem dX0_choose_23 : decode cX0_choose 23 = .ok (.iaload, 1) := by decide +kernel
theorem dX0_choose_24 : decode cX0_choose 24 = .ok (.if_icmp .lt 5, 3) := by decide +kernel
theorem dX0_choose_27 : decode cX0_choose 27 = .ok (.iconst 0, 1) := by decide +kernel
theorem dX0_choose_28 : decode cX0_choose 28 = .ok (.ireturn, 1) := by decide +kernel
theorem dX0_choose_29 : decode cX0_choose 29 = .ok (.aload_n 0, 1) := by decide +kernel
theorem dX0_choose_30 : decode cX0_choose 30 = .ok (.getfield 25, 3) := by decide +kernel
theorem dX0_choose_33 : decode cX0_choose 33 = .ok (.iload_n 3, 1) := by decide +kernel
theorem dX0_choose_34 : decode cX0_choose 34 = .ok (.aload_n 0, 1) := by decide +kernel
theorem dX0_choose_35 : decode cX0_choose 35 = .ok (.getfield 18, 3) := by decide +kernel
theorem dX0_choose_38 : decode cX0_choose 38 = .ok (.iload_n 3, 1) := by decide +kernel
theorem dX0_choose_39 : decode cX0_choose 39 = .ok (.iconst 2, 1) := by decide +kernel
theorem dX0_choose_40 : decode cX0_choose 40 = .ok (.imul, 1) := by decide +kernel
theorem dX0_choose_41 : decode cX0_choose 41 = .ok (.iload 4, 2) := by decide +kernel
theorem dX0_choose_43 : decode cX0_choose 43 = .ok (.iadd, 1) := by decide +kernel
theorem dX0_choose_44 : decode cX0_choose 44 = .ok (.iaload, 1) := by decide +kernel
theorem dX0_choose_45 : decode cX0_choose 45 = .ok (.iastore, 1) := by decide +kernel
theorem dX0_choose_46 : decode cX0_choose 46 = .ok (.aload_n 0, 1) := by decide +kernel
theorem dX0_choose_47 : decode cX0_choose 47 = .ok (.getfield 12, 3) := by decide +kernel
theorem dX0_choose_50 : decode cX0_choose 50 = .ok (.getfield 51, 3) := by decide +kernel
theorem dX0_choose_53 : decode cX0_choose 53 = .ok (.iload_n 3, 1) := by decide +kernel
theorem dX0_choose_54 : decode cX0_choose 54 = .ok (.aload_n 1, 1) := by decide +kernel
theorem dX0_choose_55 : decode cX0_choose 55 = .ok (.aload_n 0, 1) := by decide +kernel
theorem dX0_choose_56 : decode cX0_choose 56 = .ok (.getfield 25, 3) := by decide +kernel
theorem dX0_choose_59 : decode cX0_choose 59 = .ok (.iload_n 3, 1) := by decide +kernel
theorem dX0_choose_60 : decode cX0_choose 60 = .ok (.iaload, 1) := by decide +kernel
theorem dX0_choose_61 : decode cX0_choose 61 = .ok (.invokevirtual 59, 3) := by decide +kernel
theorem dX0_choose_64 : decode cX0_choose 64 = .ok (.iastore, 1) := by decide +kernel
theorem dX0_choose_65 : decode cX0_choose 65 = .ok (.iinc 3 1, 3) := by decide +kernel
theorem dX0_choose_68 : decode cX0_choose 68 = .ok (.goto (-66), 3) := by decide +kernel
theorem dX0_choose_71 : decode cX0_choose 71 = .ok (.iconst 1, 1) := by decide +kernel
theorem dX0_choose_72 : decode cX0_choose 72 = .ok (.ireturn, 1) := by decide +kernel
theorem dX1_init_0 : decode cX1_init 0 = .ok (.aload_n 0, 1) := by decide +kernel
theorem dX1_init_1 : decode cX1_init 1 = .ok (.invokespecial 3, 3) := by decide +kernel
theorem dX1_init_4 : decode cX1_init 4 = .ok (.aload_n 0, 1) := by decide +kernel
theorem dX1_init_5 : decode cX1_init 5 = .ok (.iconst 4, 1) := by decide +kernel
theorem dX1_init_6 : decode cX1_init 6 = .ok (.newarray .int, 2) := by decide +kernel
theorem dX1_init_8 : decode cX1_init 8 = .ok (.putfield 9, 3) := by decide +kernel
theorem dX1_init_11 : decode cX1_init 11 = .ok (.return_, 1) := by decide +kernel
theorem dX1_search_0 : decode cX1_search 0 = .ok (.aload_n 0, 1) := by decide +kernel
theorem dX1_search_1 : decode cX1_search 1 = .ok (.iload_n 2, 1) := by decide +kernel
theorem dX1_search_2 : decode cX1_search 2 = .ok (.putfield 15, 3) := by decide +kernel
theorem dX1_search_5 : decode cX1_search 5 = .ok (.aload_n 0, 1) := by decide +kernel
theorem dX1_search_6 : decode cX1_search 6 = .ok (.iconst (-1), 1) := by decide +kernel
theorem dX1_search_7 : decode cX1_search 7 = .ok (.putfield 19, 3) := by decide +kernel
theorem dX1_search_10 : decode cX1_search 10 = .ok (.aload_n 0, 1) := by decide +kernel
theorem dX1_search_11 : decode cX1_search 11 = .ok (.getfield 9, 3) := by decide +kernel
theorem dX1_search_14 : decode cX1_search 14 = .ok (.iconst 0, 1) := by decide +kernel
theorem dX1_search_15 : decode cX1_search 15 = .ok (.iaload, 1) := by decide +kernel
theorem dX1_search_16 : decode cX1_search 16 = .ok (.aload_n 0, 1) := by decide +kernel
theorem dX1_search_17 : decode cX1_search 17 = .ok (.getfield 9, 3) := by decide +kernel
theorem dX1_search_20 : decode cX1_search 20 = .ok (.iconst 2, 1) := by decide +kernel
theorem dX1_search_21 : decode cX1_search 21 = .ok (.iaload, 1) := by decide +kernel
theorem dX1_search_22 : decode cX1_search 22 = .ok (.isub, 1) := by decide +kernel
theorem dX1_search_23 : decode cX1_search 23 = .ok (.istore_n 3, 1) := by decide +kernel
theorem dX1_search_24 : decode cX1_search 24 = .ok (.aload_n 0, 1) := by decide +kernel
theorem dX1_search_25 : decode cX1_search 25 = .ok (.getfield 9, 3) := by decide +kernel
theorem dX1_search_28 : decode cX1_search 28 = .ok (.iconst 1, 1) := by decide +kernel
theorem dX1_search_29 : decode cX1_search 29 = .ok (.iaload, 1) := by decide +kernel
theorem dX1_search_30 : decode cX1_search 30 = .ok (.aload_n 0, 1) := by decide +kernel
theorem dX1_search_31 : decode cX1_search 31 = .ok (.getfield 9, 3) := by decide +kernel
theorem dX1_search_34 : decode cX1_search 34 = .ok (.iconst 3, 1) := by decide +kernel
theorem dX1_search_35 : decode cX1_search 35 = .ok (.iaload, 1) := by decide +kernel
theorem dX1_search_36 : decode cX1_search 36 = .ok (.isub, 1) := by decide +kernel
theorem dX1_search_37 : decode cX1_search 37 = .ok (.istore 4, 2) := by decide +kernel
theorem dX1_search_39 : decode cX1_search 39 = .ok (.iconst 0, 1) := by decide +kernel
theorem dX1_search_40 : decode cX1_search 40 = .ok (.istore 5, 2) := by decide +kernel
theorem dX1_search_42 : decode cX1_search 42 = .ok (.bipush 40, 2) := by decide +kernel
theorem dX1_search_44 : decode cX1_search 44 = .ok (.istore 6, 2) := by decide +kernel
theorem dX1_search_46 : decode cX1_search 46 = .ok (.iconst 0, 1) := by decide +kernel
theorem dX1_search_47 : decode cX1_search 47 = .ok (.istore 7, 2) := by decide +kernel
theorem dX1_search_49 : decode cX1_search 49 = .ok (.iload 7, 2) := by decide +kernel
theorem dX1_search_51 : decode cX1_search 51 = .ok (.bipush 40, 2) := by decide +kernel
theorem dX1_search_53 : decode cX1_search 53 = .ok (.if_icmp .gt 194, 3) := by decide +kernel
theorem dX1_search_56 : decode cX1_search 56 = .ok (.iload 5, 2) := by decide +kernel
theorem dX1_search_58 : decode cX1_search 58 = .ok (.iload 6, 2) := by decide +kernel
theorem dX1_search_60 : decode cX1_search 60 = .ok (.if_icmp .gt 187, 3) := by decide +kernel
theorem dX1_search_63 : decode cX1_search 63 = .ok (.iload 6, 2) := by decide +kernel
theorem dX1_search_65 : decode cX1_search 65 = .ok (.ifCond .lt 27, 3) := by decide +kernel
theorem dX1_search_68 : decode cX1_search 68 = .ok (.iload_n 3, 1) := by decide +kernel
theorem dX1_search_69 : decode cX1_search 69 = .ok (.aload_n 1, 1) := by decide +kernel
theorem dX1_search_70 : decode cX1_search 70 = .ok (.iload 6, 2) := by decide +kernel
theorem dX1_search_72 : decode cX1_search 72 = .ok (.iload 7, 2) := by decide +kernel
theorem dX1_search_74 : decode cX1_search 74 = .ok (.invokevirtual 22, 3) := by decide +kernel
theorem dX1_search_77 : decode cX1_search 77 = .ok (.isub, 1) := by decide +kernel
theorem dX1_search_78 : decode cX1_search 78 = .ok (.aload_n 0, 1) := by decide +kernel
theorem dX1_search_79 : decode cX1_search 79 = .ok (.getfield 15, 3) := by decide +kernel
theorem dX1_search_82 : decode cX1_search 82 = .ok (.ineg, 1) := by decide +kernel
theorem dX1_search_83 : decode cX1_search 83 = .ok (.if_icmp .ge 9, 3) := by decide +kernel
theorem dX1_search_86 : decode cX1_search 86 = .ok (.iinc 6 (-1), 3) := by decide +kernel
theorem dX1_search_89 : decode cX1_search 89 = .ok (.goto (-26), 3) := by decide +kernel
theorem dX1_search_92 : decode cX1_search 92 = .ok (.iload 5, 2) := by decide +kernel
theorem dX1_search_94 : decode cX1_search 94 = .ok (.iload 6, 2) := by decide +kernel
theorem dX1_search_96 : decode cX1_search 96 = .ok (.if_icmp .gt 31, 3) := by decide +kernel
theorem dX1_search_99 : decode cX1_search 99 = .ok (.iload 4, 2) := by decide +kernel
theorem dX1_search_101 : decode cX1_search 101 = .ok (.aload_n 1, 1) := by decide +kernel
theorem dX1_search_102 : decode cX1_search 102 = .ok (.bipush 40, 2) := by decide +kernel
theorem dX1_search_104 : decode cX1_search 104 = .ok (.iload 5, 2) := by decide +kernel
theorem dX1_search_106 : decode cX1_search 106 = .ok (.isub, 1) := by decide +kernel
theorem dX1_search_107 : decode cX1_search 107 = .ok (.iload 7, 2) := by decide +kernel
theorem dX1_search_109 : decode cX1_search 109 = .ok (.invokevirtual 22, 3) := by decide +kernel
theorem dX1_search_112 : decode cX1_search 112 = .ok (.isub, 1) := by decide +kernel
theorem dX1_search_113 : decode cX1_search 113 = .ok (.aload_n 0, 1) := by decide +kernel
theorem dX1_search_114 : decode cX1_search 114 = .ok (.getfield 15, 3) := by decide +kernel
theorem dX1_search_117 : decode cX1_search 117 = .ok (.ineg, 1) := by decide +kernel
theorem dX1_search_118 : decode cX1_search 118 = .ok (.if_icmp .ge 9, 3) := by decide +kernel
theorem dX1_search_121 : decode cX1_search 121 = .ok (.iinc 5 1, 3) := by decide +kernel
theorem dX1_search_124 : decode cX1_search 124 = .ok (.goto (-32), 3) := by decide +kernel
theorem dX1_search_127 : decode cX1_search 127 = .ok (.iload 6, 2) := by decide +kernel
theorem dX1_search_129 : decode cX1_search 129 = .ok (.istore 8, 2) := by decide +kernel
theorem dX1_search_131 : decode cX1_search 131 = .ok (.iload 8, 2) := by decide +kernel
theorem dX1_search_133 : decode cX1_search 133 = .ok (.iload 5, 2) := by decide +kernel
theorem dX1_search_135 : decode cX1_search 135 = .ok (.if_icmp .lt 106, 3) := by decide +kernel
theorem dX1_search_138 : decode cX1_search 138 = .ok (.iload_n 3, 1) := by decide +kernel
theorem dX1_search_139 : decode cX1_search 139 = .ok (.aload_n 1, 1) := by decide +kernel
theorem dX1_search_140 : decode cX1_search 140 = .ok (.iload 8, 2) := by decide +kernel
theorem dX1_search_142 : decode cX1_search 142 = .ok (.iload 7, 2) := by decide +kernel
theorem dX1_search_144 : decode cX1_search 144 = .ok (.invokevirtual 22, 3) := by decide +kernel
theorem dX1_search_147 : decode cX1_search 147 = .ok (.isub, 1) := by decide +kernel
theorem dX1_search_148 : decode cX1_search 148 = .ok (.aload_n 0, 1) := by decide +kernel
theorem dX1_search_149 : decode cX1_search 149 = .ok (.getfield 15, 3) := by decide +kernel
theorem dX1_search_152 : decode cX1_search 152 = .ok (.if_icmp .gt 89, 3) := by decide +kernel
theorem dX1_search_155 : decode cX1_search 155 = .ok (.iload 4, 2) := by decide +kernel
theorem dX1_search_157 : decode cX1_search 157 = .ok (.aload_n 1, 1) := by decide +kernel
theorem dX1_search_158 : decode cX1_search 158 = .ok (.bipush 40, 2) := by decide +kernel
theorem dX1_search_160 : decode cX1_search 160 = .ok (.iload 8, 2) := by decide +kernel
theorem dX1_search_162 : decode cX1_search 162 = .ok (.isub, 1) := by decide +kernel
theorem dX1_search_163 : decode cX1_search 163 = .ok (.iload 7, 2) := by decide +kernel
theorem dX1_search_165 : decode cX1_search 165 = .ok (.invokevirtual 22, 3) := by decide +kernel
theorem dX1_search_168 : decode cX1_search 168 = .ok (.isub, 1) := by decide +kernel
theorem dX1_search_169 : decode cX1_search 169 = .ok (.aload_n 0, 1) := by decide +kernel
theorem dX1_search_170 : decode cX1_search 170 = .ok (.getfield 15, 3) := by decide +kernel
theorem dX1_search_173 : decode cX1_search 173 = .ok (.if_icmp .le 6, 3) := by decide +kernel
theorem dX1_search_176 : decode cX1_search 176 = .ok (.goto 59, 3) := by decide +kernel
theorem dX1_search_179 : decode cX1_search 179 = .ok (.aload_n 0, 1) := by decide +kernel
theorem dX1_search_180 : decode cX1_search 180 = .ok (.aload_n 1, 1) := by decide +kernel
theorem dX1_search_181 : decode cX1_search 181 = .ok (.iload 8, 2) := by decide +kernel
theorem dX1_search_183 : decode cX1_search 183 = .ok (.iload 7, 2) := by decide +kernel
theorem dX1_search_185 : decode cX1_search 185 = .ok (.invokevirtual 28, 3) := by decide +kernel
theorem dX1_search_188 : decode cX1_search 188 = .ok (.istore 9, 2) := by decide +kernel
theorem dX1_search_190 : decode cX1_search 190 = .ok (.iload 9, 2) := by decide +kernel
theorem dX1_search_192 : decode cX1_search 192 = .ok (.aload_n 0, 1) := by decide +kernel
theorem dX1_search_193 : decode cX1_search 193 = .ok (.getfield 15, 3) := by decide +kernel
theorem dX1_search_196 : decode cX1_search 196 = .ok (.if_icmp .lt 21, 3) := by decide +kernel
theorem dX1_search_199 : decode cX1_search 199 = .ok (.iload 9, 2) := by decide +kernel
theorem dX1_search_201 : decode cX1_search 201 = .ok (.aload_n 0, 1) := by decide +kernel
theorem dX1_search_202 : decode cX1_search 202 = .ok (.getfield 15, 3) := by decide +kernel
theorem dX1_search_205 : decode cX1_search 205 = .ok (.if_icmp .ne 30, 3) := by decide +kernel
theorem dX1_search_208 : decode cX1_search 208 = .ok (.iload 7, 2) := by decide +kernel
theorem dX1_search_210 : decode cX1_search 210 = .ok (.aload_n 0, 1) := by decide +kernel
theorem dX1_search_211 : decode cX1_search 211 = .ok (.getfield 19, 3) := by decide +kernel
theorem dX1_search_214 : decode cX1_search 214 = .ok (.if_icmp .ne 21, 3) := by decide +kernel
theorem dX1_search_217 : decode cX1_search 217 = .ok (.aload_n 0, 1) := by decide +kernel
theorem dX1_search_218 : decode cX1_search 218 = .ok (.iload 8, 2) := by decide +kernel
theorem dX1_search_220 : decode cX1_search 220 = .ok (.putfield 32, 3) := by decide +kernel
theorem dX1_search_223 : decode cX1_search 223 = .ok (.aload_n 0, 1) := by decide +kernel
theorem dX1_search_224 : decode cX1_search 224 = .ok (.iload 7, 2) := by decide +kernel
theorem dX1_search_226 : decode cX1_search 226 = .ok (.putfield 19, 3) := by decide +kernel
theorem dX1_search_229 : decode cX1_search 229 = .ok (.aload_n 0, 1) := by decide +kernel
theorem dX1_search_230 : decode cX1_search 230 = .ok (.iload 9, 2) := by decide +kernel
theorem dX1_search_232 : decode cX1_search 232 = .ok (.putfield 15, 3) := by decide +kernel
theorem dX1_search_235 : decode cX1_search 235 = .ok (.iinc 8 (-1), 3) := by decide +kernel
theorem dX1_search_238 : decode cX1_search 238 = .ok (.goto (-107), 3) := by decide +kernel
theorem dX1_search_241 : decode cX1_search 241 = .ok (.iinc 7 1, 3) := by decide +kernel
theorem dX1_search_244 : decode cX1_search 244 = .ok (.goto (-195), 3) := by decide +kernel
theorem dX1_search_247 : decode cX1_search 247 = .ok (.aload_n 0, 1) := by decide +kernel
theorem dX1_search_248 : decode cX1_search 248 = .ok (.getfield 19, 3) := by decide +kernel
theorem dX1_search_251 : decode cX1_search 251 = .ok (.iconst (-1), 1) := by decide +kernel
theorem dX1_search_252 : decode cX1_search 252 = .ok (.if_icmp .eq 7, 3) := by decide +kernel
theorem dX1_search_255 : decode cX1_search 255 = .ok (.iconst 1, 1) := by decide +kernel
theorem dX1_search_256 : decode cX1_search 256 = .ok (.goto 4, 3) := by decide +kernel
theorem dX1_search_259 : decode cX1_search 259 = .ok (.iconst 0, 1) := by decide +kernel
theorem dX1_search_260 : decode cX1_search 260 = .ok (.ireturn, 1) := by decide +kernel
theorem dX1_spreadAt_0 : decode cX1_spreadAt 0 = .ok (.aload_n 0, 1) := by decide +kernel
theorem dX1_spreadAt_1 : decode cX1_spreadAt 1 = .ok (.getfield 9, 3) := by decide +kernel
theorem dX1_spreadAt_4 : decode cX1_spreadAt 4 = .ok (.iconst 0, 1) := by decide +kernel
theorem dX1_spreadAt_5 : decode cX1_spreadAt 5 = .ok (.iaload, 1) := by decide +kernel
theorem dX1_spreadAt_6 : decode cX1_spreadAt 6 = .ok (.aload_n 1, 1) := by decide +kernel
theorem dX1_spreadAt_7 : decode cX1_spreadAt 7 = .ok (.iload_n 2, 1) := by decide +kernel
theorem dX1_spreadAt_8 : decode cX1_spreadAt 8 = .ok (.iload_n 3, 1) := by decide +kernel
theorem dX1_spreadAt_9 : decode cX1_spreadAt 9 = .ok (.iconst 0, 1) := by decide +kernel
theorem dX1_spreadAt_10 : decode cX1_spreadAt 10 = .ok (.invokevirtual 35, 3) := by decide +kernel
theorem dX1_spreadAt_13 : decode cX1_spreadAt 13 = .ok (.isub, 1) := by decide +kernel
theorem dX1_spreadAt_14 : decode cX1_spreadAt 14 = .ok (.istore 4, 2) := by decide +kernel
theorem dX1_spreadAt_16 : decode cX1_spreadAt 16 = .ok (.iload 4, 2) := by decide +kernel
theorem dX1_spreadAt_18 : decode cX1_spreadAt 18 = .ok (.istore 5, 2) := by decide +kernel
theorem dX1_spreadAt_20 : decode cX1_spreadAt 20 = .ok (.iconst 1, 1) := by decide +kernel
theorem dX1_spreadAt_21 : decode cX1_spreadAt 21 = .ok (.istore 6, 2) := by decide +kernel
theorem dX1_spreadAt_23 : decode cX1_spreadAt 23 = .ok (.iload 6, 2) := by decide +kernel
theorem dX1_spreadAt_25 : decode cX1_spreadAt 25 = .ok (.iconst 4, 1) := by decide +kernel
theorem dX1_spreadAt_26 : decode cX1_spreadAt 26 = .ok (.if_icmp .ge 45, 3) := by decide +kernel
theorem dX1_spreadAt_29 : decode cX1_spreadAt 29 = .ok (.aload_n 0, 1) := by decide +kernel
theorem dX1_spreadAt_30 : decode cX1_spreadAt 30 = .ok (.getfield 9, 3) := by decide +kernel
theorem dX1_spreadAt_33 : decode cX1_spreadAt 33 = .ok (.iload 6, 2) := by decide +kernel
theorem dX1_spreadAt_35 : decode cX1_spreadAt 35 = .ok (.iaload, 1) := by decide +kernel
theorem dX1_spreadAt_36 : decode cX1_spreadAt 36 = .ok (.aload_n 1, 1) := by decide +kernel
theorem dX1_spreadAt_37 : decode cX1_spreadAt 37 = .ok (.iload_n 2, 1) := by decide +kernel
theorem dX1_spreadAt_38 : decode cX1_spreadAt 38 = .ok (.iload_n 3, 1) := by decide +kernel
theorem dX1_spreadAt_39 : decode cX1_spreadAt 39 = .ok (.iload 6, 2) := by decide +kernel
theorem dX1_spreadAt_41 : decode cX1_spreadAt 41 = .ok (.invokevirtual 35, 3) := by decide +kernel
theorem dX1_spreadAt_44 : decode cX1_spreadAt 44 = .ok (.isub, 1) := by decide +kernel
theorem dX1_spreadAt_45 : decode cX1_spreadAt 45 = .ok (.istore 7, 2) := by decide +kernel
theorem dX1_spreadAt_47 : decode cX1_spreadAt 47 = .ok (.iload 4, 2) := by decide +kernel
theorem dX1_spreadAt_49 : decode cX1_spreadAt 49 = .ok (.iload 7, 2) := by decide +kernel
theorem dX1_spreadAt_51 : decode cX1_spreadAt 51 = .ok (.invokestatic 39, 3) := by decide +kernel
theorem dX1_spreadAt_54 : decode cX1_spreadAt 54 = .ok (.istore 4, 2) := by decide +kernel
theorem dX1_spreadAt_56 : decode cX1_spreadAt 56 = .ok (.iload 5, 2) := by decide +kernel
theorem dX1_spreadAt_58 : decode cX1_spreadAt 58 = .ok (.iload 7, 2) := by decide +kernel
theorem dX1_spreadAt_60 : decode cX1_spreadAt 60 = .ok (.invokestatic 44, 3) := by decide +kernel
theorem dX1_spreadAt_63 : decode cX1_spreadAt 63 = .ok (.istore 5, 2) := by decide +kernel
theorem dX1_spreadAt_65 : decode cX1_spreadAt 65 = .ok (.iinc 6 1, 3) := by decide +kernel
theorem dX1_spreadAt_68 : decode cX1_spreadAt 68 = .ok (.goto (-45), 3) := by decide +kernel
theorem dX1_spreadAt_71 : decode cX1_spreadAt 71 = .ok (.iload 5, 2) := by decide +kernel
theorem dX1_spreadAt_73 : decode cX1_spreadAt 73 = .ok (.iload 4, 2) := by decide +kernel
theorem dX1_spreadAt_75 : decode cX1_spreadAt 75 = .ok (.isub, 1) := by decide +kernel
theorem dX1_spreadAt_76 : decode cX1_spreadAt 76 = .ok (.ireturn, 1) := by decide +kernel
theorem dX1_leastStart_0 : decode cX1_leastStart 0 = .ok (.aload_n 0, 1) := by decide +kernel
theorem dX1_leastStart_1 : decode cX1_leastStart 1 = .ok (.getfield 9, 3) := by decide +kernel
theorem dX1_leastStart_4 : decode cX1_leastStart 4 = .ok (.iconst 0, 1) := by decide +kernel
theorem dX1_leastStart_5 : decode cX1_leastStart 5 = .ok (.iaload, 1) := by decide +kernel
theorem dX1_leastStart_6 : decode cX1_leastStart 6 = .ok (.aload_n 1, 1) := by decide +kernel
theorem dX1_leastStart_7 : decode cX1_leastStart 7 = .ok (.aload_n 0, 1) := by decide +kernel
theorem dX1_leastStart_8 : decode cX1_leastStart 8 = .ok (.getfield 32, 3) := by decide +kernel
theorem dX1_leastStart_11 : decode cX1_leastStart 11 = .ok (.aload_n 0, 1) := by decide +kernel
theorem dX1_leastStart_12 : decode cX1_leastStart 12 = .ok (.getfield 19, 3) := by decide +kernel
theorem dX1_leastStart_15 : decode cX1_leastStart 15 = .ok (.iconst 0, 1) := by decide +kernel
theorem dX1_leastStart_16 : decode cX1_leastStart 16 = .ok (.invokevirtual 35, 3) := by decide +kernel
theorem dX1_leastStart_19 : decode cX1_leastStart 19 = .ok (.isub, 1) := by decide +kernel
theorem dX1_leastStart_20 : decode cX1_leastStart 20 = .ok (.istore_n 2, 1) := by decide +kernel
theorem dX1_leastStart_21 : decode cX1_leastStart 21 = .ok (.iconst 1, 1) := by decide +kernel
theorem dX1_leastStart_22 : decode cX1_leastStart 22 = .ok (.istore_n 3, 1) := by decide +kernel
theorem dX1_leastStart_23 : decode cX1_leastStart 23 = .ok (.iload_n 3, 1) := by decide +kernel
theorem dX1_leastStart_24 : decode cX1_leastStart 24 = .ok (.iconst 4, 1) := by decide +kernel
theorem dX1_leastStart_25 : decode cX1_leastStart 25 = .ok (.if_icmp .ge 34, 3) := by decide +kernel
theorem dX1_leastStart_28 : decode cX1_leastStart 28 = .ok (.iload_n 2, 1) := by decide +kernel
theorem dX1_leastStart_29 : decode cX1_leastStart 29 = .ok (.aload_n 0, 1) := by decide +kernel
theorem dX1_leastStart_30 : decode cX1_leastStart 30 = .ok (.getfield 9, 3) := by decide +kernel
theorem dX1_leastStart_33 : decode cX1_leastStart 33 = .ok (.iload_n 3, 1) := by decide +kernel
theorem dX1_leastStart_34 : decode cX1_leastStart 34 = .ok (.iaload, 1) := by decide +kernel
theorem dX1_leastStart_35 : decode cX1_leastStart 35 = .ok (.aload_n 1, 1) := by decide +kernel
theorem dX1_leastStart_36 : decode cX1_leastStart 36 = .ok (.aload_n 0, 1) := by decide +kernel
theorem dX1_leastStart_37 : decode cX1_leastStart 37 = .ok (.getfield 32, 3) := by decide +kernel
theorem dX1_leastStart_40 : decode cX1_leastStart 40 = .ok (.aload_n 0, 1) := by decide +kernel
theorem dX1_leastStart_41 : decode cX1_leastStart 41 = .ok (.getfield 19, 3) := by decide +kernel
theorem dX1_leastStart_44 : decode cX1_leastStart 44 = .ok (.iload_n 3, 1) := by decide +kernel
theorem dX1_leastStart_45 : decode cX1_leastStart 45 = .ok (.invokevirtual 35, 3) := by decide +kernel
theorem dX1_leastStart_48 : decode cX1_leastStart 48 = .ok (.isub, 1) := by decide +kernel
theorem dX1_leastStart_49 : decode cX1_leastStart 49 = .ok (.invokestatic 39, 3) := by decide +kernel
theorem dX1_leastStart_52 : decode cX1_leastStart 52 = .ok (.istore_n 2, 1) := by decide +kernel
theorem dX1_leastStart_53 : decode cX1_leastStart 53 = .ok (.iinc 3 1, 3) := by decide +kernel
theorem dX1_leastStart_56 : decode cX1_leastStart 56 = .ok (.goto (-33), 3) := by decide +kernel
theorem dX1_leastStart_59 : decode cX1_leastStart 59 = .ok (.iload_n 2, 1) := by decide +kernel
theorem dX1_leastStart_60 : decode cX1_leastStart 60 = .ok (.ireturn, 1) := by decide +kernel
theorem dX2_init_0 : decode cX2_init 0 = .ok (.aload_n 0, 1) := by decide +kernel
theorem dX2_init_1 : decode cX2_init 1 = .ok (.invokespecial 3, 3) := by decide +kernel
theorem dX2_init_4 : decode cX2_init 4 = .ok (.aload_n 0, 1) := by decide +kernel
theorem dX2_init_5 : decode cX2_init 5 = .ok (.sipush 1681, 3) := by decide +kernel
theorem dX2_init_8 : decode cX2_init 8 = .ok (.newarray .int, 2) := by decide +kernel
theorem dX2_init_10 : decode cX2_init 10 = .ok (.putfield 11, 3) := by decide +kernel
theorem dX2_init_13 : decode cX2_init 13 = .ok (.aload_n 0, 1) := by decide +kernel
theorem dX2_init_14 : decode cX2_init 14 = .ok (.sipush 1681, 3) := by decide +kernel
theorem dX2_init_17 : decode cX2_init 17 = .ok (.newarray .int, 2) := by decide +kernel
theorem dX2_init_19 : decode cX2_init 19 = .ok (.putfield 15, 3) := by decide +kernel
theorem dX2_init_22 : decode cX2_init 22 = .ok (.iconst 0, 1) := by decide +kernel
theorem dX2_init_23 : decode cX2_init 23 = .ok (.istore_n 1, 1) := by decide +kernel
theorem dX2_init_24 : decode cX2_init 24 = .ok (.iload_n 1, 1) := by decide +kernel
theorem dX2_init_25 : decode cX2_init 25 = .ok (.bipush 41, 2) := by decide +kernel
theorem dX2_init_27 : decode cX2_init 27 = .ok (.if_icmp .ge 48, 3) := by decide +kernel
theorem dX2_init_30 : decode cX2_init 30 = .ok (.iconst 0, 1) := by decide +kernel
theorem dX2_init_31 : decode cX2_init 31 = .ok (.istore_n 2, 1) := by decide +kernel
theorem dX2_init_32 : decode cX2_init 32 = .ok (.iload_n 2, 1) := by decide +kernel
theorem dX2_init_33 : decode cX2_init 33 = .ok (.bipush 41, 2) := by decide +kernel
theorem dX2_init_35 : decode cX2_init 35 = .ok (.if_icmp .ge 34, 3) := by decide +kernel
theorem dX2_init_38 : decode cX2_init 38 = .ok (.aload_n 0, 1) := by decide +kernel
theorem dX2_init_39 : decode cX2_init 39 = .ok (.getfield 11, 3) := by decide +kernel
theorem dX2_init_42 : decode cX2_init 42 = .ok (.iload_n 1, 1) := by decide +kernel
theorem dX2_init_43 : decode cX2_init 43 = .ok (.bipush 41, 2) := by decide +kernel
theorem dX2_init_45 : decode cX2_init 45 = .ok (.imul, 1) := by decide +kernel
theorem dX2_init_46 : decode cX2_init 46 = .ok (.iload_n 2, 1) := by decide +kernel
theorem dX2_init_47 : decode cX2_init 47 = .ok (.iadd, 1) := by decide +kernel
theorem dX2_init_48 : decode cX2_init 48 = .ok (.sipush 10000, 3) := by decide +kernel
theorem dX2_init_51 : decode cX2_init 51 = .ok (.iload_n 2, 1) := by decide +kernel
theorem dX2_init_52 : decode cX2_init 52 = .ok (.iload_n 2, 1) := by decide +kernel
theorem dX2_init_53 : decode cX2_init 53 = .ok (.imul, 1) := by decide +kernel
theorem dX2_init_54 : decode cX2_init 54 = .ok (.iload_n 1, 1) := by decide +kernel
theorem dX2_init_55 : decode cX2_init 55 = .ok (.iload_n 1, 1) := by decide +kernel
theorem dX2_init_56 : decode cX2_init 56 = .ok (.imul, 1) := by decide +kernel
theorem dX2_init_57 : decode cX2_init 57 = .ok (.iadd, 1) := by decide +kernel
theorem dX2_init_58 : decode cX2_init 58 = .ok (.imul, 1) := by decide +kernel
theorem dX2_init_59 : decode cX2_init 59 = .ok (.invokestatic 18, 3) := by decide +kernel
theorem dX2_init_62 : decode cX2_init 62 = .ok (.iastore, 1) := by decide +kernel
theorem dX2_init_63 : decode cX2_init 63 = .ok (.iinc 2 1, 3) := by decide +kernel
theorem dX2_init_66 : decode cX2_init 66 = .ok (.goto (-34), 3) := by decide +kernel
theorem dX2_init_69 : decode cX2_init 69 = .ok (.iinc 1 1, 3) := by decide +kernel
theorem dX2_init_72 : decode cX2_init 72 = .ok (.goto (-48), 3) := by decide +kernel
theorem dX2_init_75 : decode cX2_init 75 = .ok (.return_, 1) := by decide +kernel
theorem dX2_speedAt_0 : decode cX2_speedAt 0 = .ok (.sipush 331, 3) := by decide +kernel
theorem dX2_speedAt_3 : decode cX2_speedAt 3 = .ok (.iconst 3, 1) := by decide +kernel
theorem dX2_speedAt_4 : decode cX2_speedAt 4 = .ok (.iload_n 0, 1) := by decide +kernel
theorem dX2_speedAt_5 : decode cX2_speedAt 5 = .ok (.imul, 1) := by decide +kernel
theorem dX2_speedAt_6 : decode cX2_speedAt 6 = .ok (.iconst 5, 1) := by decide +kernel
theorem dX2_speedAt_7 : decode cX2_speedAt 7 = .ok (.invokestatic 22, 3) := by decide +kernel
theorem dX2_speedAt_10 : decode cX2_speedAt 10 = .ok (.iadd, 1) := by decide +kernel
theorem dX2_speedAt_11 : decode cX2_speedAt 11 = .ok (.ireturn, 1) := by decide +kernel
theorem dX2_tune_0 : decode cX2_tune 0 = .ok (.iload_n 1, 1) := by decide +kernel
theorem dX2_tune_1 : decode cX2_tune 1 = .ok (.invokestatic 28, 3) := by decide +kernel
theorem dX2_tune_4 : decode cX2_tune 4 = .ok (.istore_n 2, 1) := by decide +kernel
theorem dX2_tune_5 : decode cX2_tune 5 = .ok (.iload_n 2, 1) := by decide +kernel
theorem dX2_tune_6 : decode cX2_tune 6 = .ok (.aload_n 0, 1) := by decide +kernel
theorem dX2_tune_7 : decode cX2_tune 7 = .ok (.getfield 31, 3) := by decide +kernel
theorem dX2_tune_10 : decode cX2_tune 10 = .ok (.if_icmp .eq 7, 3) := by decide +kernel
theorem dX2_tune_13 : decode cX2_tune 13 = .ok (.iload_n 2, 1) := by decide +kernel
theorem dX2_tune_14 : decode cX2_tune 14 = .ok (.ifCond .gt 4, 3) := by decide +kernel
theorem dX2_tune_17 : decode cX2_tune 17 = .ok (.return_, 1) := by decide +kernel
theorem dX2_tune_18 : decode cX2_tune 18 = .ok (.aload_n 0, 1) := by decide +kernel
theorem dX2_tune_19 : decode cX2_tune 19 = .ok (.iload_n 2, 1) := by decide +kernel
theorem dX2_tune_20 : decode cX2_tune 20 = .ok (.putfield 31, 3) := by decide +kernel
theorem dX2_tune_23 : decode cX2_tune 23 = .ok (.iconst 0, 1) := by decide +kernel
theorem dX2_tune_24 : decode cX2_tune 24 = .ok (.istore_n 3, 1) := by decide +kernel
theorem dX2_tune_25 : decode cX2_tune 25 = .ok (.iload_n 3, 1) := by decide +kernel
theorem dX2_tune_26 : decode cX2_tune 26 = .ok (.aload_n 0, 1) := by decide +kernel
theorem dX2_tune_27 : decode cX2_tune 27 = .ok (.getfield 15, 3) := by decide +kernel
theorem dX2_tune_30 : decode cX2_tune 30 = .ok (.arraylength, 1) := by decide +kernel
theorem dX2_tune_31 : decode cX2_tune 31 = .ok (.if_icmp .ge 26, 3) := by decide +kernel
theorem dX2_tune_34 : decode cX2_tune 34 = .ok (.aload_n 0, 1) := by decide +kernel
theorem dX2_tune_35 : decode cX2_tune 35 = .ok (.getfield 15, 3) := by decide +kernel
theorem dX2_tune_38 : decode cX2_tune 38 = .ok (.iload_n 3, 1) := by decide +kernel
theorem dX2_tune_39 : decode cX2_tune 39 = .ok (.bipush 100, 2) := by decide +kernel
theorem dX2_tune_41 : decode cX2_tune 41 = .ok (.aload_n 0, 1) := by decide +kernel
theorem dX2_tune_42 : decode cX2_tune 42 = .ok (.getfield 11, 3) := by decide +kernel
theorem dX2_tune_45 : decode cX2_tune 45 = .ok (.iload_n 3, 1) := by decide +kernel
theorem dX2_tune_46 : decode cX2_tune 46 = .ok (.iaload, 1) := by decide +kernel
theorem dX2_tune_47 : decode cX2_tune 47 = .ok (.imul, 1) := by decide +kernel
theorem dX2_tune_48 : decode cX2_tune 48 = .ok (.iload_n 2, 1) := by decide +kernel
theorem dX2_tune_49 : decode cX2_tune 49 = .ok (.idiv, 1) := by decide +kernel
theorem dX2_tune_50 : decode cX2_tune 50 = .ok (.iastore, 1) := by decide +kernel
theorem dX2_tune_51 : decode cX2_tune 51 = .ok (.iinc 3 1, 3) := by decide +kernel
theorem dX2_tune_54 : decode cX2_tune 54 = .ok (.goto (-29), 3) := by decide +kernel
theorem dX2_tune_57 : decode cX2_tune 57 = .ok (.return_, 1) := by decide +kernel
theorem dX2_distance_0 : decode cX2_distance 0 = .ok (.aload_n 0, 1) := by decide +kernel
theorem dX2_distance_1 : decode cX2_distance 1 = .ok (.getfield 11, 3) := by decide +kernel
theorem dX2_distance_4 : decode cX2_distance 4 = .ok (.iload_n 2, 1) := by decide +kernel
theorem dX2_distance_5 : decode cX2_distance 5 = .ok (.iload 4, 2) := by decide +kernel
theorem dX2_distance_7 : decode cX2_distance 7 = .ok (.isub, 1) := by decide +kernel
theorem dX2_distance_8 : decode cX2_distance 8 = .ok (.invokestatic 35, 3) := by decide +kernel
theorem dX2_distance_11 : decode cX2_distance 11 = .ok (.bipush 41, 2) := by decide +kernel
theorem dX2_distance_13 : decode cX2_distance 13 = .ok (.imul, 1) := by decide +kernel
theorem dX2_distance_14 : decode cX2_distance 14 = .ok (.iload_n 1, 1) := by decide +kernel
theorem dX2_distance_15 : decode cX2_distance 15 = .ok (.iload_n 3, 1) := by decide +kernel
theorem dX2_distance_16 : decode cX2_distance 16 = .ok (.isub, 1) := by decide +kernel
theorem dX2_distance_17 : decode cX2_distance 17 = .ok (.invokestatic 35, 3) := by decide +kernel
theorem dX2_distance_20 : decode cX2_distance 20 = .ok (.iadd, 1) := by decide +kernel
theorem dX2_distance_21 : decode cX2_distance 21 = .ok (.iaload, 1) := by decide +kernel
theorem dX2_distance_22 : decode cX2_distance 22 = .ok (.ireturn, 1) := by decide +kernel
theorem dX2_crackTime_0 : decode cX2_crackTime 0 = .ok (.iload_n 3, 1) := by decide +kernel
theorem dX2_crackTime_1 : decode cX2_crackTime 1 = .ok (.iconst 1, 1) := by decide +kernel
theorem dX2_crackTime_2 : decode cX2_crackTime 2 = .ok (.if_icmp .eq 8, 3) := by decide +kernel
theorem dX2_crackTime_5 : decode cX2_crackTime 5 = .ok (.iload_n 3, 1) := by decide +kernel
theorem dX2_crackTime_6 : decode cX2_crackTime 6 = .ok (.iconst 2, 1) := by decide +kernel
theorem dX2_crackTime_7 : decode cX2_crackTime 7 = .ok (.if_icmp .ne 10, 3) := by decide +kernel
theorem dX2_crackTime_10 : decode cX2_crackTime 10 = .ok (.bipush 40, 2) := by decide +kernel
theorem dX2_crackTime_12 : decode cX2_crackTime 12 = .ok (.iload_n 1, 1) := by decide +kernel
theorem dX2_crackTime_13 : decode cX2_crackTime 13 = .ok (.isub, 1) := by decide +kernel
theorem dX2_crackTime_14 : decode cX2_crackTime 14 = .ok (.goto 4, 3) := by decide +kernel
theorem dX2_crackTime_17 : decode cX2_crackTime 17 = .ok (.iload_n 1, 1) := by decide +kernel
theorem dX2_crackTime_18 : decode cX2_crackTime 18 = .ok (.istore 4, 2) := by decide +kernel
theorem dX2_crackTime_20 : decode cX2_crackTime 20 = .ok (.iload_n 3, 1) := by decide +kernel
theorem dX2_crackTime_21 : decode cX2_crackTime 21 = .ok (.iconst 2, 1) := by decide +kernel
theorem dX2_crackTime_22 : decode cX2_crackTime 22 = .ok (.if_icmp .lt 10, 3) := by decide +kernel
theorem dX2_crackTime_25 : decode cX2_crackTime 25 = .ok (.bipush 40, 2) := by decide +kernel
theorem dX2_crackTime_27 : decode cX2_crackTime 27 = .ok (.iload_n 2, 1) := by decide +kernel
theorem dX2_crackTime_28 : decode cX2_crackTime 28 = .ok (.isub, 1) := by decide +kernel
theorem dX2_crackTime_29 : decode cX2_crackTime 29 = .ok (.goto 4, 3) := by decide +kernel
theorem dX2_crackTime_32 : decode cX2_crackTime 32 = .ok (.iload_n 2, 1) := by decide +kernel
