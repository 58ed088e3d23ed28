theorem dX9_count_14 : decode cX9_count 14 = .ok (.invokevirtual 179, 3) := by decide +kernel
theorem dX9_count_17 : decode cX9_count 17 = .ok (.iload_n 1, 1) := by decide +kernel
theorem dX9_count_18 : decode cX9_count 18 = .ok (.tableswitch 143 0 11 #[62, 69, 74, 88, 93, 98, 103, 108, 118, 128, 128, 138], 62) := by decide +kernel
theorem dX9_count_80 : decode cX9_count 80 = .ok (.aload_n 0, 1) := by decide +kernel
theorem dX9_count_81 : decode cX9_count 81 = .ok (.getfield 7, 3) := by decide +kernel
theorem dX9_count_84 : decode cX9_count 84 = .ok (.iconst 3, 1) := by decide +kernel
theorem dX9_count_85 : decode cX9_count 85 = .ok (.iaload, 1) := by decide +kernel
theorem dX9_count_86 : decode cX9_count 86 = .ok (.ireturn, 1) := by decide +kernel
theorem dX9_count_87 : decode cX9_count 87 = .ok (.aload_n 0, 1) := by decide +kernel
theorem dX9_count_88 : decode cX9_count 88 = .ok (.getfield 121, 3) := by decide +kernel
theorem dX9_count_91 : decode cX9_count 91 = .ok (.ireturn, 1) := by decide +kernel
theorem dX9_count_92 : decode cX9_count 92 = .ok (.aload_n 0, 1) := by decide +kernel
theorem dX9_count_93 : decode cX9_count 93 = .ok (.getfield 7, 3) := by decide +kernel
theorem dX9_count_96 : decode cX9_count 96 = .ok (.iconst 3, 1) := by decide +kernel
theorem dX9_count_97 : decode cX9_count 97 = .ok (.iaload, 1) := by decide +kernel
theorem dX9_count_98 : decode cX9_count 98 = .ok (.iconst 4, 1) := by decide +kernel
theorem dX9_count_99 : decode cX9_count 99 = .ok (.aload_n 0, 1) := by decide +kernel
theorem dX9_count_100 : decode cX9_count 100 = .ok (.getfield 121, 3) := by decide +kernel
theorem dX9_count_103 : decode cX9_count 103 = .ok (.imul, 1) := by decide +kernel
theorem dX9_count_104 : decode cX9_count 104 = .ok (.isub, 1) := by decide +kernel
theorem dX9_count_105 : decode cX9_count 105 = .ok (.ireturn, 1) := by decide +kernel
theorem dX9_count_106 : decode cX9_count 106 = .ok (.aload_n 0, 1) := by decide +kernel
theorem dX9_count_107 : decode cX9_count 107 = .ok (.invokevirtual 185, 3) := by decide +kernel
theorem dX9_count_110 : decode cX9_count 110 = .ok (.ireturn, 1) := by decide +kernel
theorem dX9_count_111 : decode cX9_count 111 = .ok (.aload_n 0, 1) := by decide +kernel
theorem dX9_count_112 : decode cX9_count 112 = .ok (.invokevirtual 189, 3) := by decide +kernel
theorem dX9_count_115 : decode cX9_count 115 = .ok (.ireturn, 1) := by decide +kernel
theorem dX9_count_116 : decode cX9_count 116 = .ok (.aload_n 0, 1) := by decide +kernel
theorem dX9_count_117 : decode cX9_count 117 = .ok (.invokevirtual 192, 3) := by decide +kernel
theorem dX9_count_120 : decode cX9_count 120 = .ok (.ireturn, 1) := by decide +kernel
theorem dX9_count_121 : decode cX9_count 121 = .ok (.aload_n 0, 1) := by decide +kernel
theorem dX9_count_122 : decode cX9_count 122 = .ok (.invokevirtual 195, 3) := by decide +kernel
theorem dX9_count_125 : decode cX9_count 125 = .ok (.ireturn, 1) := by decide +kernel
theorem dX9_count_126 : decode cX9_count 126 = .ok (.aload_n 0, 1) := by decide +kernel
theorem dX9_count_127 : decode cX9_count 127 = .ok (.getfield 7, 3) := by decide +kernel
theorem dX9_count_130 : decode cX9_count 130 = .ok (.iconst 0, 1) := by decide +kernel
theorem dX9_count_131 : decode cX9_count 131 = .ok (.iaload, 1) := by decide +kernel
theorem dX9_count_132 : decode cX9_count 132 = .ok (.invokestatic 127, 3) := by decide +kernel
theorem dX9_count_135 : decode cX9_count 135 = .ok (.ireturn, 1) := by decide +kernel
theorem dX9_count_136 : decode cX9_count 136 = .ok (.aload_n 0, 1) := by decide +kernel
theorem dX9_count_137 : decode cX9_count 137 = .ok (.getfield 7, 3) := by decide +kernel
theorem dX9_count_140 : decode cX9_count 140 = .ok (.iconst 0, 1) := by decide +kernel
theorem dX9_count_141 : decode cX9_count 141 = .ok (.iaload, 1) := by decide +kernel
theorem dX9_count_142 : decode cX9_count 142 = .ok (.bipush 100, 2) := by decide +kernel
theorem dX9_count_144 : decode cX9_count 144 = .ok (.iadd, 1) := by decide +kernel
theorem dX9_count_145 : decode cX9_count 145 = .ok (.ireturn, 1) := by decide +kernel
theorem dX9_count_146 : decode cX9_count 146 = .ok (.aload_n 0, 1) := by decide +kernel
theorem dX9_count_147 : decode cX9_count 147 = .ok (.getfield 7, 3) := by decide +kernel
theorem dX9_count_150 : decode cX9_count 150 = .ok (.iload_n 1, 1) := by decide +kernel
theorem dX9_count_151 : decode cX9_count 151 = .ok (.bipush 8, 2) := by decide +kernel
theorem dX9_count_153 : decode cX9_count 153 = .ok (.isub, 1) := by decide +kernel
theorem dX9_count_154 : decode cX9_count 154 = .ok (.iaload, 1) := by decide +kernel
theorem dX9_count_155 : decode cX9_count 155 = .ok (.ireturn, 1) := by decide +kernel
theorem dX9_count_156 : decode cX9_count 156 = .ok (.aload_n 0, 1) := by decide +kernel
theorem dX9_count_157 : decode cX9_count 157 = .ok (.getfield 198, 3) := by decide +kernel
theorem dX9_count_160 : decode cX9_count 160 = .ok (.ireturn, 1) := by decide +kernel
theorem dX9_count_161 : decode cX9_count 161 = .ok (.aload_n 0, 1) := by decide +kernel
theorem dX9_count_162 : decode cX9_count 162 = .ok (.getfield 62, 3) := by decide +kernel
theorem dX9_count_165 : decode cX9_count 165 = .ok (.ireturn, 1) := by decide +kernel
theorem dX9_fits_0 : decode cX9_fits 0 = .ok (.aload_n 0, 1) := by decide +kernel
theorem dX9_fits_1 : decode cX9_fits 1 = .ok (.iload_n 1, 1) := by decide +kernel
theorem dX9_fits_2 : decode cX9_fits 2 = .ok (.invokevirtual 182, 3) := by decide +kernel
theorem dX9_fits_5 : decode cX9_fits 5 = .ok (.ifCond .eq 11, 3) := by decide +kernel
theorem dX9_fits_8 : decode cX9_fits 8 = .ok (.iload_n 2, 1) := by decide +kernel
theorem dX9_fits_9 : decode cX9_fits 9 = .ok (.iload_n 3, 1) := by decide +kernel
theorem dX9_fits_10 : decode cX9_fits 10 = .ok (.invokestatic 169, 3) := by decide +kernel
theorem dX9_fits_13 : decode cX9_fits 13 = .ok (.ifCond .ne 5, 3) := by decide +kernel
theorem dX9_fits_16 : decode cX9_fits 16 = .ok (.iconst (-1), 1) := by decide +kernel
theorem dX9_fits_17 : decode cX9_fits 17 = .ok (.ireturn, 1) := by decide +kernel
theorem dX9_fits_18 : decode cX9_fits 18 = .ok (.iconst 0, 1) := by decide +kernel
theorem dX9_fits_19 : decode cX9_fits 19 = .ok (.istore 4, 2) := by decide +kernel
theorem dX9_fits_21 : decode cX9_fits 21 = .ok (.iload 4, 2) := by decide +kernel
theorem dX9_fits_23 : decode cX9_fits 23 = .ok (.iconst 4, 1) := by decide +kernel
theorem dX9_fits_24 : decode cX9_fits 24 = .ok (.if_icmp .ge 27, 3) := by decide +kernel
theorem dX9_fits_27 : decode cX9_fits 27 = .ok (.aload_n 0, 1) := by decide +kernel
theorem dX9_fits_28 : decode cX9_fits 28 = .ok (.getfield 49, 3) := by decide +kernel
theorem dX9_fits_31 : decode cX9_fits 31 = .ok (.iload 4, 2) := by decide +kernel
theorem dX9_fits_33 : decode cX9_fits 33 = .ok (.aload_n 0, 1) := by decide +kernel
theorem dX9_fits_34 : decode cX9_fits 34 = .ok (.getfield 46, 3) := by decide +kernel
theorem dX9_fits_37 : decode cX9_fits 37 = .ok (.iconst 4, 1) := by decide +kernel
theorem dX9_fits_38 : decode cX9_fits 38 = .ok (.iload_n 1, 1) := by decide +kernel
theorem dX9_fits_39 : decode cX9_fits 39 = .ok (.imul, 1) := by decide +kernel
theorem dX9_fits_40 : decode cX9_fits 40 = .ok (.iload 4, 2) := by decide +kernel
theorem dX9_fits_42 : decode cX9_fits 42 = .ok (.iadd, 1) := by decide +kernel
theorem dX9_fits_43 : decode cX9_fits 43 = .ok (.iaload, 1) := by decide +kernel
theorem dX9_fits_44 : decode cX9_fits 44 = .ok (.iastore, 1) := by decide +kernel
theorem dX9_fits_45 : decode cX9_fits 45 = .ok (.iinc 4 1, 3) := by decide +kernel
theorem dX9_fits_48 : decode cX9_fits 48 = .ok (.goto (-27), 3) := by decide +kernel
theorem dX9_fits_51 : decode cX9_fits 51 = .ok (.aload_n 0, 1) := by decide +kernel
theorem dX9_fits_52 : decode cX9_fits 52 = .ok (.bipush 41, 2) := by decide +kernel
theorem dX9_fits_54 : decode cX9_fits 54 = .ok (.iload_n 3, 1) := by decide +kernel
theorem dX9_fits_55 : decode cX9_fits 55 = .ok (.imul, 1) := by decide +kernel
theorem dX9_fits_56 : decode cX9_fits 56 = .ok (.iload_n 2, 1) := by decide +kernel
theorem dX9_fits_57 : decode cX9_fits 57 = .ok (.iadd, 1) := by decide +kernel
theorem dX9_fits_58 : decode cX9_fits 58 = .ok (.invokevirtual 98, 3) := by decide +kernel
theorem dX9_fits_61 : decode cX9_fits 61 = .ok (.ireturn, 1) := by decide +kernel
theorem dX9_mean_0 : decode cX9_mean 0 = .ok (.iload_n 1, 1) := by decide +kernel
theorem dX9_mean_1 : decode cX9_mean 1 = .ok (.iconst 0, 1) := by decide +kernel
theorem dX9_mean_2 : decode cX9_mean 2 = .ok (.iconst 1, 1) := by decide +kernel
theorem dX9_mean_3 : decode cX9_mean 3 = .ok (.invokestatic 70, 3) := by decide +kernel
theorem dX9_mean_6 : decode cX9_mean 6 = .ok (.ifCond .ne 6, 3) := by decide +kernel
theorem dX9_mean_9 : decode cX9_mean 9 = .ok (.bipush (-2), 2) := by decide +kernel
theorem dX9_mean_11 : decode cX9_mean 11 = .ok (.ireturn, 1) := by decide +kernel
theorem dX9_mean_12 : decode cX9_mean 12 = .ok (.aload_n 0, 1) := by decide +kernel
theorem dX9_mean_13 : decode cX9_mean 13 = .ok (.invokevirtual 179, 3) := by decide +kernel
theorem dX9_mean_16 : decode cX9_mean 16 = .ok (.iconst 0, 1) := by decide +kernel
theorem dX9_mean_17 : decode cX9_mean 17 = .ok (.istore_n 2, 1) := by decide +kernel
theorem dX9_mean_18 : decode cX9_mean 18 = .ok (.iconst 0, 1) := by decide +kernel
theorem dX9_mean_19 : decode cX9_mean 19 = .ok (.istore_n 3, 1) := by decide +kernel
theorem dX9_mean_20 : decode cX9_mean 20 = .ok (.iload_n 3, 1) := by decide +kernel
theorem dX9_mean_21 : decode cX9_mean 21 = .ok (.aload_n 0, 1) := by decide +kernel
theorem dX9_mean_22 : decode cX9_mean 22 = .ok (.getfield 121, 3) := by decide +kernel
theorem dX9_mean_25 : decode cX9_mean 25 = .ok (.if_icmp .ge 37, 3) := by decide +kernel
theorem dX9_mean_28 : decode cX9_mean 28 = .ok (.iload_n 2, 1) := by decide +kernel
theorem dX9_mean_29 : decode cX9_mean 29 = .ok (.iload_n 1, 1) := by decide +kernel
theorem dX9_mean_30 : decode cX9_mean 30 = .ok (.ifCond .ne 15, 3) := by decide +kernel
theorem dX9_mean_33 : decode cX9_mean 33 = .ok (.aload_n 0, 1) := by decide +kernel
theorem dX9_mean_34 : decode cX9_mean 34 = .ok (.getfield 37, 3) := by decide +kernel
theorem dX9_mean_37 : decode cX9_mean 37 = .ok (.iload_n 3, 1) := by decide +kernel
theorem dX9_mean_38 : decode cX9_mean 38 = .ok (.iaload, 1) := by decide +kernel
theorem dX9_mean_39 : decode cX9_mean 39 = .ok (.bipush 41, 2) := by decide +kernel
theorem dX9_mean_41 : decode cX9_mean 41 = .ok (.irem, 1) := by decide +kernel
theorem dX9_mean_42 : decode cX9_mean 42 = .ok (.goto 12, 3) := by decide +kernel
theorem dX9_mean_45 : decode cX9_mean 45 = .ok (.aload_n 0, 1) := by decide +kernel
theorem dX9_mean_46 : decode cX9_mean 46 = .ok (.getfield 37, 3) := by decide +kernel
theorem dX9_mean_49 : decode cX9_mean 49 = .ok (.iload_n 3, 1) := by decide +kernel
theorem dX9_mean_50 : decode cX9_mean 50 = .ok (.iaload, 1) := by decide +kernel
theorem dX9_mean_51 : decode cX9_mean 51 = .ok (.bipush 41, 2) := by decide +kernel
theorem dX9_mean_53 : decode cX9_mean 53 = .ok (.idiv, 1) := by decide +kernel
theorem dX9_mean_54 : decode cX9_mean 54 = .ok (.iadd, 1) := by decide +kernel
theorem dX9_mean_55 : decode cX9_mean 55 = .ok (.istore_n 2, 1) := by decide +kernel
theorem dX9_mean_56 : decode cX9_mean 56 = .ok (.iinc 3 1, 3) := by decide +kernel
theorem dX9_mean_59 : decode cX9_mean 59 = .ok (.goto (-39), 3) := by decide +kernel
theorem dX9_mean_62 : decode cX9_mean 62 = .ok (.aload_n 0, 1) := by decide +kernel
theorem dX9_mean_63 : decode cX9_mean 63 = .ok (.getfield 121, 3) := by decide +kernel
theorem dX9_mean_66 : decode cX9_mean 66 = .ok (.ifCond .ne 8, 3) := by decide +kernel
theorem dX9_mean_69 : decode cX9_mean 69 = .ok (.bipush (-6), 2) := by decide +kernel
theorem dX9_mean_71 : decode cX9_mean 71 = .ok (.goto 12, 3) := by decide +kernel
theorem dX9_mean_74 : decode cX9_mean 74 = .ok (.bipush 100, 2) := by decide +kernel
theorem dX9_mean_76 : decode cX9_mean 76 = .ok (.iload_n 2, 1) := by decide +kernel
theorem dX9_mean_77 : decode cX9_mean 77 = .ok (.imul, 1) := by decide +kernel
theorem dX9_mean_78 : decode cX9_mean 78 = .ok (.aload_n 0, 1) := by decide +kernel
theorem dX9_mean_79 : decode cX9_mean 79 = .ok (.getfield 121, 3) := by decide +kernel
theorem dX9_mean_82 : decode cX9_mean 82 = .ok (.idiv, 1) := by decide +kernel
theorem dX9_mean_83 : decode cX9_mean 83 = .ok (.ireturn, 1) := by decide +kernel
theorem dX9_ifHeat_0 : decode cX9_ifHeat 0 = .ok (.iload_n 1, 1) := by decide +kernel
theorem dX9_ifHeat_1 : decode cX9_ifHeat 1 = .ok (.bipush (-30), 2) := by decide +kernel
theorem dX9_ifHeat_3 : decode cX9_ifHeat 3 = .ok (.bipush 50, 2) := by decide +kernel
theorem dX9_ifHeat_5 : decode cX9_ifHeat 5 = .ok (.invokestatic 70, 3) := by decide +kernel
theorem dX9_ifHeat_8 : decode cX9_ifHeat 8 = .ok (.ifCond .eq 12, 3) := by decide +kernel
theorem dX9_ifHeat_11 : decode cX9_ifHeat 11 = .ok (.iload_n 2, 1) := by decide +kernel
theorem dX9_ifHeat_12 : decode cX9_ifHeat 12 = .ok (.iconst 0, 1) := by decide +kernel
theorem dX9_ifHeat_13 : decode cX9_ifHeat 13 = .ok (.iconst 2, 1) := by decide +kernel
theorem dX9_ifHeat_14 : decode cX9_ifHeat 14 = .ok (.invokestatic 70, 3) := by decide +kernel
theorem dX9_ifHeat_17 : decode cX9_ifHeat 17 = .ok (.ifCond .ne 6, 3) := by decide +kernel
theorem dX9_ifHeat_20 : decode cX9_ifHeat 20 = .ok (.bipush (-2), 2) := by decide +kernel
theorem dX9_ifHeat_22 : decode cX9_ifHeat 22 = .ok (.ireturn, 1) := by decide +kernel
theorem dX9_ifHeat_23 : decode cX9_ifHeat 23 = .ok (.aload_n 0, 1) := by decide +kernel
theorem dX9_ifHeat_24 : decode cX9_ifHeat 24 = .ok (.iload_n 1, 1) := by decide +kernel
theorem dX9_ifHeat_25 : decode cX9_ifHeat 25 = .ok (.invokevirtual 143, 3) := by decide +kernel
theorem dX9_ifHeat_28 : decode cX9_ifHeat 28 = .ok (.iload_n 2, 1) := by decide +kernel
theorem dX9_ifHeat_29 : decode cX9_ifHeat 29 = .ok (.ifCond .ne 10, 3) := by decide +kernel
theorem dX9_ifHeat_32 : decode cX9_ifHeat 32 = .ok (.aload_n 0, 1) := by decide +kernel
theorem dX9_ifHeat_33 : decode cX9_ifHeat 33 = .ok (.getfield 121, 3) := by decide +kernel
theorem dX9_ifHeat_36 : decode cX9_ifHeat 36 = .ok (.goto 19, 3) := by decide +kernel
theorem dX9_ifHeat_39 : decode cX9_ifHeat 39 = .ok (.iload_n 2, 1) := by decide +kernel
theorem dX9_ifHeat_40 : decode cX9_ifHeat 40 = .ok (.iconst 1, 1) := by decide +kernel
theorem dX9_ifHeat_41 : decode cX9_ifHeat 41 = .ok (.if_icmp .ne 10, 3) := by decide +kernel
theorem dX9_ifHeat_44 : decode cX9_ifHeat 44 = .ok (.aload_n 0, 1) := by decide +kernel
theorem dX9_ifHeat_45 : decode cX9_ifHeat 45 = .ok (.invokevirtual 185, 3) := by decide +kernel
theorem dX9_ifHeat_48 : decode cX9_ifHeat 48 = .ok (.goto 7, 3) := by decide +kernel
theorem dX9_ifHeat_51 : decode cX9_ifHeat 51 = .ok (.aload_n 0, 1) := by decide +kernel
theorem dX9_ifHeat_52 : decode cX9_ifHeat 52 = .ok (.invokevirtual 192, 3) := by decide +kernel
theorem dX9_ifHeat_55 : decode cX9_ifHeat 55 = .ok (.ireturn, 1) := by decide +kernel
theorem dX9_bestHeat_0 : decode cX9_bestHeat 0 = .ok (.bipush (-6), 2) := by decide +kernel
theorem dX9_bestHeat_2 : decode cX9_bestHeat 2 = .ok (.istore_n 1, 1) := by decide +kernel
theorem dX9_bestHeat_3 : decode cX9_bestHeat 3 = .ok (.iconst 0, 1) := by decide +kernel
theorem dX9_bestHeat_4 : decode cX9_bestHeat 4 = .ok (.istore_n 2, 1) := by decide +kernel
theorem dX9_bestHeat_5 : decode cX9_bestHeat 5 = .ok (.iconst 0, 1) := by decide +kernel
theorem dX9_bestHeat_6 : decode cX9_bestHeat 6 = .ok (.istore_n 3, 1) := by decide +kernel
theorem dX9_bestHeat_7 : decode cX9_bestHeat 7 = .ok (.bipush (-30), 2) := by decide +kernel
theorem dX9_bestHeat_9 : decode cX9_bestHeat 9 = .ok (.istore 4, 2) := by decide +kernel
theorem dX9_bestHeat_11 : decode cX9_bestHeat 11 = .ok (.iload 4, 2) := by decide +kernel
theorem dX9_bestHeat_13 : decode cX9_bestHeat 13 = .ok (.bipush 50, 2) := by decide +kernel
theorem dX9_bestHeat_15 : decode cX9_bestHeat 15 = .ok (.if_icmp .gt 95, 3) := by decide +kernel
theorem dX9_bestHeat_18 : decode cX9_bestHeat 18 = .ok (.aload_n 0, 1) := by decide +kernel
theorem dX9_bestHeat_19 : decode cX9_bestHeat 19 = .ok (.iload 4, 2) := by decide +kernel
theorem dX9_bestHeat_21 : decode cX9_bestHeat 21 = .ok (.invokevirtual 143, 3) := by decide +kernel
theorem dX9_bestHeat_24 : decode cX9_bestHeat 24 = .ok (.iload_n 1, 1) := by decide +kernel
theorem dX9_bestHeat_25 : decode cX9_bestHeat 25 = .ok (.bipush (-6), 2) := by decide +kernel
theorem dX9_bestHeat_27 : decode cX9_bestHeat 27 = .ok (.if_icmp .eq 27, 3) := by decide +kernel
theorem dX9_bestHeat_30 : decode cX9_bestHeat 30 = .ok (.aload_n 0, 1) := by decide +kernel
theorem dX9_bestHeat_31 : decode cX9_bestHeat 31 = .ok (.getfield 121, 3) := by decide +kernel
theorem dX9_bestHeat_34 : decode cX9_bestHeat 34 = .ok (.iload_n 2, 1) := by decide +kernel
theorem dX9_bestHeat_35 : decode cX9_bestHeat 35 = .ok (.if_icmp .gt 19, 3) := by decide +kernel
theorem dX9_bestHeat_38 : decode cX9_bestHeat 38 = .ok (.aload_n 0, 1) := by decide +kernel
theorem dX9_bestHeat_39 : decode cX9_bestHeat 39 = .ok (.getfield 121, 3) := by decide +kernel
theorem dX9_bestHeat_42 : decode cX9_bestHeat 42 = .ok (.iload_n 2, 1) := by decide +kernel
theorem dX9_bestHeat_43 : decode cX9_bestHeat 43 = .ok (.if_icmp .ne 15, 3) := by decide +kernel
theorem dX9_bestHeat_46 : decode cX9_bestHeat 46 = .ok (.aload_n 0, 1) := by decide +kernel
theorem dX9_bestHeat_47 : decode cX9_bestHeat 47 = .ok (.invokevirtual 192, 3) := by decide +kernel
theorem dX9_bestHeat_50 : decode cX9_bestHeat 50 = .ok (.iload_n 3, 1) := by decide +kernel
theorem dX9_bestHeat_51 : decode cX9_bestHeat 51 = .ok (.if_icmp .ge 7, 3) := by decide +kernel
theorem dX9_bestHeat_54 : decode cX9_bestHeat 54 = .ok (.iconst 1, 1) := by decide +kernel
theorem dX9_bestHeat_55 : decode cX9_bestHeat 55 = .ok (.goto 4, 3) := by decide +kernel
theorem dX9_bestHeat_58 : decode cX9_bestHeat 58 = .ok (.iconst 0, 1) := by decide +kernel
theorem dX9_bestHeat_59 : decode cX9_bestHeat 59 = .ok (.istore 5, 2) := by decide +kernel
theorem dX9_bestHeat_61 : decode cX9_bestHeat 61 = .ok (.iload 5, 2) := by decide +kernel
theorem dX9_bestHeat_63 : decode cX9_bestHeat 63 = .ok (.ifCond .eq 11, 3) := by decide +kernel
theorem dX9_bestHeat_66 : decode cX9_bestHeat 66 = .ok (.iload 4, 2) := by decide +kernel
theorem dX9_bestHeat_68 : decode cX9_bestHeat 68 = .ok (.bipush 100, 2) := by decide +kernel
theorem dX9_bestHeat_70 : decode cX9_bestHeat 70 = .ok (.iadd, 1) := by decide +kernel
theorem dX9_bestHeat_71 : decode cX9_bestHeat 71 = .ok (.goto 4, 3) := by decide +kernel
theorem dX9_bestHeat_74 : decode cX9_bestHeat 74 = .ok (.iload_n 1, 1) := by decide +kernel
theorem dX9_bestHeat_75 : decode cX9_bestHeat 75 = .ok (.istore_n 1, 1) := by decide +kernel
theorem dX9_bestHeat_76 : decode cX9_bestHeat 76 = .ok (.iload 5, 2) := by decide +kernel
theorem dX9_bestHeat_78 : decode cX9_bestHeat 78 = .ok (.ifCond .eq 10, 3) := by decide +kernel
theorem dX9_bestHeat_81 : decode cX9_bestHeat 81 = .ok (.aload_n 0, 1) := by decide +kernel
theorem dX9_bestHeat_82 : decode cX9_bestHeat 82 = .ok (.getfield 121, 3) := by decide +kernel
theorem dX9_bestHeat_85 : decode cX9_bestHeat 85 = .ok (.goto 4, 3) := by decide +kernel
theorem dX9_bestHeat_88 : decode cX9_bestHeat 88 = .ok (.iload_n 2, 1) := by decide +kernel
theorem dX9_bestHeat_89 : decode cX9_bestHeat 89 = .ok (.istore_n 2, 1) := by decide +kernel
theorem dX9_bestHeat_90 : decode cX9_bestHeat 90 = .ok (.iload 5, 2) := by decide +kernel
theorem dX9_bestHeat_92 : decode cX9_bestHeat 92 = .ok (.ifCond .eq 10, 3) := by decide +kernel
theorem dX9_bestHeat_95 : decode cX9_bestHeat 95 = .ok (.aload_n 0, 1) := by decide +kernel
theorem dX9_bestHeat_96 : decode cX9_bestHeat 96 = .ok (.invokevirtual 192, 3) := by decide +kernel
theorem dX9_bestHeat_99 : decode cX9_bestHeat 99 = .ok (.goto 4, 3) := by decide +kernel
theorem dX9_bestHeat_102 : decode cX9_bestHeat 102 = .ok (.iload_n 3, 1) := by decide +kernel
theorem dX9_bestHeat_103 : decode cX9_bestHeat 103 = .ok (.istore_n 3, 1) := by decide +kernel
theorem dX9_bestHeat_104 : decode cX9_bestHeat 104 = .ok (.iinc 4 10, 3) := by decide +kernel
theorem dX9_bestHeat_107 : decode cX9_bestHeat 107 = .ok (.goto (-96), 3) := by decide +kernel
theorem dX9_bestHeat_110 : decode cX9_bestHeat 110 = .ok (.iload_n 1, 1) := by decide +kernel
theorem dX9_bestHeat_111 : decode cX9_bestHeat 111 = .ok (.ireturn, 1) := by decide +kernel
theorem dX9_ifForgot_0 : decode cX9_ifForgot 0 = .ok (.aload_n 0, 1) := by decide +kernel
theorem dX9_ifForgot_1 : decode cX9_ifForgot 1 = .ok (.iload_n 1, 1) := by decide +kernel
theorem dX9_ifForgot_2 : decode cX9_ifForgot 2 = .ok (.invokevirtual 173, 3) := by decide +kernel
theorem dX9_ifForgot_5 : decode cX9_ifForgot 5 = .ok (.ifCond .ne 5, 3) := by decide +kernel
theorem dX9_ifForgot_8 : decode cX9_ifForgot 8 = .ok (.iconst (-1), 1) := by decide +kernel
theorem dX9_ifForgot_9 : decode cX9_ifForgot 9 = .ok (.ireturn, 1) := by decide +kernel
theorem dX9_ifForgot_10 : decode cX9_ifForgot 10 = .ok (.aload_n 0, 1) := by decide +kernel
theorem dX9_ifForgot_11 : decode cX9_ifForgot 11 = .ok (.getfield 7, 3) := by decide +kernel
theorem dX9_ifForgot_14 : decode cX9_ifForgot 14 = .ok (.iconst 0, 1) := by decide +kernel
theorem dX9_ifForgot_15 : decode cX9_ifForgot 15 = .ok (.aload_n 0, 1) := by decide +kernel
theorem dX9_ifForgot_16 : decode cX9_ifForgot 16 = .ok (.getfield 13, 3) := by decide +kernel
theorem dX9_ifForgot_19 : decode cX9_ifForgot 19 = .ok (.iconst 0, 1) := by decide +kernel
theorem dX9_ifForgot_20 : decode cX9_ifForgot 20 = .ok (.invokestatic 66, 3) := by decide +kernel
theorem dX9_ifForgot_23 : decode cX9_ifForgot 23 = .ok (.aload_n 0, 1) := by decide +kernel
theorem dX9_ifForgot_24 : decode cX9_ifForgot 24 = .ok (.iload_n 1, 1) := by decide +kernel
theorem dX9_ifForgot_25 : decode cX9_ifForgot 25 = .ok (.invokevirtual 176, 3) := by decide +kernel
theorem dX9_ifForgot_28 : decode cX9_ifForgot 28 = .ok (.aload_n 0, 1) := by decide +kernel
theorem dX9_ifForgot_29 : decode cX9_ifForgot 29 = .ok (.invokevirtual 179, 3) := by decide +kernel
theorem dX9_ifForgot_32 : decode cX9_ifForgot 32 = .ok (.aload_n 0, 1) := by decide +kernel
theorem dX9_ifForgot_33 : decode cX9_ifForgot 33 = .ok (.getfield 13, 3) := by decide +kernel
theorem dX9_ifForgot_36 : decode cX9_ifForgot 36 = .ok (.iconst 0, 1) := by decide +kernel
theorem dX9_ifForgot_37 : decode cX9_ifForgot 37 = .ok (.aload_n 0, 1) := by decide +kernel
theorem dX9_ifForgot_38 : decode cX9_ifForgot 38 = .ok (.getfield 7, 3) := by decide +kernel
theorem dX9_ifForgot_41 : decode cX9_ifForgot 41 = .ok (.iconst 0, 1) := by decide +kernel
theorem dX9_ifForgot_42 : decode cX9_ifForgot 42 = .ok (.invokestatic 66, 3) := by decide +kernel
theorem dX9_ifForgot_45 : decode cX9_ifForgot 45 = .ok (.aload_n 0, 1) := by decide +kernel
theorem dX9_ifForgot_46 : decode cX9_ifForgot 46 = .ok (.getfield 121, 3) := by decide +kernel
theorem dX9_ifForgot_49 : decode cX9_ifForgot 49 = .ok (.ireturn, 1) := by decide +kernel
theorem dX9_put_0 : decode cX9_put 0 = .ok (.iconst 0, 1) := by decide +kernel
theorem dX9_put_1 : decode cX9_put 1 = .ok (.istore_n 3, 1) := by decide +kernel
theorem dX9_put_2 : decode cX9_put 2 = .ok (.lload_n 1, 1) := by decide +kernel
theorem dX9_put_3 : decode cX9_put 3 = .ok (.lstore 4, 2) := by decide +kernel
theorem dX9_put_5 : decode cX9_put 5 = .ok (.iconst 1, 1) := by decide +kernel
theorem dX9_put_6 : decode cX9_put 6 = .ok (.istore 6, 2) := by decide +kernel
theorem dX9_put_8 : decode cX9_put 8 = .ok (.iload_n 3, 1) := by decide +kernel
theorem dX9_put_9 : decode cX9_put 9 = .ok (.bipush 8, 2) := by decide +kernel
theorem dX9_put_11 : decode cX9_put 11 = .ok (.if_icmp .ge 56, 3) := by decide +kernel
theorem dX9_put_14 : decode cX9_put 14 = .ok (.lload 4, 2) := by decide +kernel
theorem dX9_put_16 : decode cX9_put 16 = .ok (.ldc2_w 201, 3) := by decide +kernel
theorem dX9_put_19 : decode cX9_put 19 = .ok (.land, 1) := by decide +kernel
theorem dX9_put_20 : decode cX9_put 20 = .ok (.lconst 0, 1) := by decide +kernel
theorem dX9_put_21 : decode cX9_put 21 = .ok (.lcmp, 1) := by decide +kernel
theorem dX9_put_22 : decode cX9_put 22 = .ok (.ifCond .eq 45, 3) := by decide +kernel
theorem dX9_put_25 : decode cX9_put 25 = .ok (.iload 6, 2) := by decide +kernel
theorem dX9_put_27 : decode cX9_put 27 = .ok (.ifCond .eq 24, 3) := by decide +kernel
theorem dX9_put_30 : decode cX9_put 30 = .ok (.lload 4, 2) := by decide +kernel
theorem dX9_put_32 : decode cX9_put 32 = .ok (.ldc2_w 201, 3) := by decide +kernel
theorem dX9_put_35 : decode cX9_put 35 = .ok (.land, 1) := by decide +kernel
theorem dX9_put_36 : decode cX9_put 36 = .ok (.l2i, 1) := by decide +kernel
theorem dX9_put_37 : decode cX9_put 37 = .ok (.bipush 33, 2) := by decide +kernel
theorem dX9_put_39 : decode cX9_put 39 = .ok (.bipush 126, 2) := by decide +kernel
theorem dX9_put_41 : decode cX9_put 41 = .ok (.invokestatic 70, 3) := by decide +kernel
theorem dX9_put_44 : decode cX9_put 44 = .ok (.ifCond .eq 7, 3) := by decide +kernel
theorem dX9_put_47 : decode cX9_put 47 = .ok (.iconst 1, 1) := by decide +kernel
theorem dX9_put_48 : decode cX9_put 48 = .ok (.goto 4, 3) := by decide +kernel
theorem dX9_put_51 : decode cX9_put 51 = .ok (.iconst 0, 1) := by decide +kernel
theorem dX9_put_52 : decode cX9_put 52 = .ok (.istore 6, 2) := by decide +kernel
theorem dX9_put_54 : decode cX9_put 54 = .ok (.lload 4, 2) := by decide +kernel
theorem dX9_put_56 : decode cX9_put 56 = .ok (.bipush 8, 2) := by decide +kernel
theorem dX9_put_58 : decode cX9_put 58 = .ok (.lushr, 1) := by decide +kernel
theorem dX9_put_59 : decode cX9_put 59 = .ok (.lstore 4, 2) := by decide +kernel
theorem dX9_put_61 : decode cX9_put 61 = .ok (.iinc 3 1, 3) := by decide +kernel
theorem dX9_put_64 : decode cX9_put 64 = .ok (.goto (-56), 3) := by decide +kernel
theorem dX9_put_67 : decode cX9_put 67 = .ok (.iload_n 3, 1) := by decide +kernel
theorem dX9_put_68 : decode cX9_put 68 = .ok (.ifCond .eq 15, 3) := by decide +kernel
theorem dX9_put_71 : decode cX9_put 71 = .ok (.iload 6, 2) := by decide +kernel
theorem dX9_put_73 : decode cX9_put 73 = .ok (.ifCond .eq 10, 3) := by decide +kernel
theorem dX9_put_76 : decode cX9_put 76 = .ok (.lload 4, 2) := by decide +kernel
theorem dX9_put_78 : decode cX9_put 78 = .ok (.lconst 0, 1) := by decide +kernel
theorem dX9_put_79 : decode cX9_put 79 = .ok (.lcmp, 1) := by decide +kernel
theorem dX9_put_80 : decode cX9_put 80 = .ok (.ifCond .eq 6, 3) := by decide +kernel
theorem dX9_put_83 : decode cX9_put 83 = .ok (.bipush (-2), 2) := by decide +kernel
theorem dX9_put_85 : decode cX9_put 85 = .ok (.ireturn, 1) := by decide +kernel
theorem dX9_put_86 : decode cX9_put 86 = .ok (.aload_n 0, 1) := by decide +kernel
theorem dX9_put_87 : decode cX9_put 87 = .ok (.getfield 198, 3) := by decide +kernel
theorem dX9_put_90 : decode cX9_put 90 = .ok (.iload_n 3, 1) := by decide +kernel
theorem dX9_put_91 : decode cX9_put 91 = .ok (.iadd, 1) := by decide +kernel
theorem dX9_put_92 : decode cX9_put 92 = .ok (.bipush 80, 2) := by decide +kernel
theorem dX9_put_94 : decode cX9_put 94 = .ok (.if_icmp .le 6, 3) := by decide +kernel
theorem dX9_put_97 : decode cX9_put 97 = .ok (.bipush (-4), 2) := by decide +kernel
theorem dX9_put_99 : decode cX9_put 99 = .ok (.ireturn, 1) := by decide +kernel
theorem dX9_put_100 : decode cX9_put 100 = .ok (.iload_n 3, 1) := by decide +kernel
theorem dX9_put_101 : decode cX9_put 101 = .ok (.iconst 1, 1) := by decide +kernel
theorem dX9_put_102 : decode cX9_put 102 = .ok (.isub, 1) := by decide +kernel
theorem dX9_put_103 : decode cX9_put 103 = .ok (.istore 7, 2) := by decide +kernel
theorem dX9_put_105 : decode cX9_put 105 = .ok (.iload 7, 2) := by decide +kernel
theorem dX9_put_107 : decode cX9_put 107 = .ok (.ifCond .lt 40, 3) := by decide +kernel
theorem dX9_put_110 : decode cX9_put 110 = .ok (.aload_n 0, 1) := by decide +kernel
theorem dX9_put_111 : decode cX9_put 111 = .ok (.getfield 25, 3) := by decide +kernel
theorem dX9_put_114 : decode cX9_put 114 = .ok (.aload_n 0, 1) := by decide +kernel
theorem dX9_put_115 : decode cX9_put 115 = .ok (.getfield 198, 3) := by decide +kernel
theorem dX9_put_118 : decode cX9_put 118 = .ok (.lload_n 1, 1) := by decide +kernel
theorem dX9_put_119 : decode cX9_put 119 = .ok (.bipush 8, 2) := by decide +kernel
theorem dX9_put_121 : decode cX9_put 121 = .ok (.iload 7, 2) := by decide +kernel
theorem dX9_put_123 : decode cX9_put 123 = .ok (.imul, 1) := by decide +kernel
theorem dX9_put_124 : decode cX9_put 124 = .ok (.lushr, 1) := by decide +kernel
theorem dX9_put_125 : decode cX9_put 125 = .ok (.ldc2_w 201, 3) := by decide +kernel
theorem dX9_put_128 : decode cX9_put 128 = .ok (.land, 1) := by decide +kernel
theorem dX9_put_129 : decode cX9_put 129 = .ok (.l2i, 1) := by decide +kernel
theorem dX9_put_130 : decode cX9_put 130 = .ok (.iastore, 1) := by decide +kernel
theorem dX9_put_131 : decode cX9_put 131 = .ok (.aload_n 0, 1) := by decide +kernel
theorem dX9_put_132 : decode cX9_put 132 = .ok (.dup, 1) := by decide +kernel
theorem dX9_put_133 : decode cX9_put 133 = .ok (.getfield 198, 3) := by decide +kernel
theorem dX9_put_136 : decode cX9_put 136 = .ok (.iconst 1, 1) := by decide +kernel
theorem dX9_put_137 : decode cX9_put 137 = .ok (.iadd, 1) := by decide +kernel
theorem dX9_put_138 : decode cX9_put 138 = .ok (.putfield 198, 3) := by decide +kernel
theorem dX9_put_141 : decode cX9_put 141 = .ok (.iinc 7 (-1), 3) := by decide +kernel
theorem dX9_put_144 : decode cX9_put 144 = .ok (.goto (-39), 3) := by decide +kernel
theorem dX9_put_147 : decode cX9_put 147 = .ok (.aload_n 0, 1) := by decide +kernel
theorem dX9_put_148 : decode cX9_put 148 = .ok (.getfield 198, 3) := by decide +kernel
theorem dX9_put_151 : decode cX9_put 151 = .ok (.ireturn, 1) := by decide +kernel
theorem dX9_wipe_0 : decode cX9_wipe 0 = .ok (.aload_n 0, 1) := by decide +kernel
theorem dX9_wipe_1 : decode cX9_wipe 1 = .ok (.getfield 198, 3) := by decide +kernel
theorem dX9_wipe_4 : decode cX9_wipe 4 = .ok (.istore_n 1, 1) := by decide +kernel
theorem dX9_wipe_5 : decode cX9_wipe 5 = .ok (.aload_n 0, 1) := by decide +kernel
theorem dX9_wipe_6 : decode cX9_wipe 6 = .ok (.iconst 0, 1) := by decide +kernel
theorem dX9_wipe_7 : decode cX9_wipe 7 = .ok (.putfield 198, 3) := by decide +kernel
theorem dX9_wipe_10 : decode cX9_wipe 10 = .ok (.iload_n 1, 1) := by decide +kernel
theorem dX9_wipe_11 : decode cX9_wipe 11 = .ok (.ireturn, 1) := by decide +kernel
theorem dX9_character_0 : decode cX9_character 0 = .ok (.iload_n 1, 1) := by decide +kernel
theorem dX9_character_1 : decode cX9_character 1 = .ok (.aload_n 0, 1) := by decide +kernel
theorem dX9_character_2 : decode cX9_character 2 = .ok (.getfield 198, 3) := by decide +kernel
theorem dX9_character_5 : decode cX9_character 5 = .ok (.if_icmp .ge 12, 3) := by decide +kernel
theorem dX9_character_8 : decode cX9_character 8 = .ok (.aload_n 0, 1) := by decide +kernel
theorem dX9_character_9 : decode cX9_character 9 = .ok (.getfield 25, 3) := by decide +kernel
theorem dX9_character_12 : decode cX9_character 12 = .ok (.iload_n 1, 1) := by decide +kernel
theorem dX9_character_13 : decode cX9_character 13 = .ok (.iaload, 1) := by decide +kernel
theorem dX9_character_14 : decode cX9_character 14 = .ok (.goto 4, 3) := by decide +kernel
theorem dX9_character_17 : decode cX9_character 17 = .ok (.iconst (-1), 1) := by decide +kernel
theorem dX9_character_18 : decode cX9_character 18 = .ok (.ireturn, 1) := by decide +kernel
theorem dX9_isNext_0 : decode cX9_isNext 0 = .ok (.aload_n 0, 1) := by decide +kernel
theorem dX9_isNext_1 : decode cX9_isNext 1 = .ok (.aload_n 0, 1) := by decide +kernel
theorem dX9_isNext_2 : decode cX9_isNext 2 = .ok (.getfield 203, 3) := by decide +kernel
theorem dX9_isNext_5 : decode cX9_isNext 5 = .ok (.invokevirtual 206, 3) := by decide +kernel
theorem dX9_isNext_8 : decode cX9_isNext 8 = .ok (.iload_n 1, 1) := by decide +kernel
theorem dX9_isNext_9 : decode cX9_isNext 9 = .ok (.if_icmp .ne 7, 3) := by decide +kernel
theorem dX9_isNext_12 : decode cX9_isNext 12 = .ok (.iconst 1, 1) := by decide +kernel
theorem dX9_isNext_13 : decode cX9_isNext 13 = .ok (.goto 4, 3) := by decide +kernel
theorem dX9_isNext_16 : decode cX9_isNext 16 = .ok (.iconst 0, 1) := by decide +kernel
theorem dX9_isNext_17 : decode cX9_isNext 17 = .ok (.istore_n 2, 1) := by decide +kernel
theorem dX9_isNext_18 : decode cX9_isNext 18 = .ok (.aload_n 0, 1) := by decide +kernel
theorem dX9_isNext_19 : decode cX9_isNext 19 = .ok (.dup, 1) := by decide +kernel
theorem dX9_isNext_20 : decode cX9_isNext 20 = .ok (.getfield 203, 3) := by decide +kernel
theorem dX9_isNext_23 : decode cX9_isNext 23 = .ok (.iload_n 2, 1) := by decide +kernel
theorem dX9_isNext_24 : decode cX9_isNext 24 = .ok (.ifCond .eq 7, 3) := by decide +kernel
theorem dX9_isNext_27 : decode cX9_isNext 27 = .ok (.iconst 1, 1) := by decide +kernel
theorem dX9_isNext_28 : decode cX9_isNext 28 = .ok (.goto 4, 3) := by decide +kernel
theorem dX9_isNext_31 : decode cX9_isNext 31 = .ok (.iconst 0, 1) := by decide +kernel
theorem dX9_isNext_32 : decode cX9_isNext 32 = .ok (.iadd, 1) := by decide +kernel
theorem dX9_isNext_33 : decode cX9_isNext 33 = .ok (.putfield 203, 3) := by decide +kernel
theorem dX9_isNext_36 : decode cX9_isNext 36 = .ok (.iload_n 2, 1) := by decide +kernel
theorem dX9_isNext_37 : decode cX9_isNext 37 = .ok (.ireturn, 1) := by decide +kernel
theorem dX9_takeDigit_0 : decode cX9_takeDigit 0 = .ok (.aload_n 0, 1) := by decide +kernel
theorem dX9_takeDigit_1 : decode cX9_takeDigit 1 = .ok (.aload_n 0, 1) := by decide +kernel
theorem dX9_takeDigit_2 : decode cX9_takeDigit 2 = .ok (.getfield 203, 3) := by decide +kernel
theorem dX9_takeDigit_5 : decode cX9_takeDigit 5 = .ok (.invokevirtual 206, 3) := by decide +kernel
theorem dX9_takeDigit_8 : decode cX9_takeDigit 8 = .ok (.bipush 48, 2) := by decide +kernel
theorem dX9_takeDigit_10 : decode cX9_takeDigit 10 = .ok (.isub, 1) := by decide +kernel
theorem dX9_takeDigit_11 : decode cX9_takeDigit 11 = .ok (.istore_n 2, 1) := by decide +kernel
theorem dX9_takeDigit_12 : decode cX9_takeDigit 12 = .ok (.iload_n 2, 1) := by decide +kernel
theorem dX9_takeDigit_13 : decode cX9_takeDigit 13 = .ok (.iconst 0, 1) := by decide +kernel
theorem dX9_takeDigit_14 : decode cX9_takeDigit 14 = .ok (.iload_n 1, 1) := by decide +kernel
theorem dX9_takeDigit_15 : decode cX9_takeDigit 15 = .ok (.invokestatic 70, 3) := by decide +kernel
theorem dX9_takeDigit_18 : decode cX9_takeDigit 18 = .ok (.ifCond .ne 5, 3) := by decide +kernel
theorem dX9_takeDigit_21 : decode cX9_takeDigit 21 = .ok (.iconst (-1), 1) := by decide +kernel
theorem dX9_takeDigit_22 : decode cX9_takeDigit 22 = .ok (.ireturn, 1) := by decide +kernel
theorem dX9_takeDigit_23 : decode cX9_takeDigit 23 = .ok (.aload_n 0, 1) := by decide +kernel
theorem dX9_takeDigit_24 : decode cX9_takeDigit 24 = .ok (.dup, 1) := by decide +kernel
theorem dX9_takeDigit_25 : decode cX9_takeDigit 25 = .ok (.getfield 203, 3) := by decide +kernel
theorem dX9_takeDigit_28 : decode cX9_takeDigit 28 = .ok (.iconst 1, 1) := by decide +kernel
theorem dX9_takeDigit_29 : decode cX9_takeDigit 29 = .ok (.iadd, 1) := by decide +kernel
theorem dX9_takeDigit_30 : decode cX9_takeDigit 30 = .ok (.putfield 203, 3) := by decide +kernel
theorem dX9_takeDigit_33 : decode cX9_takeDigit 33 = .ok (.iload_n 2, 1) := by decide +kernel
theorem dX9_takeDigit_34 : decode cX9_takeDigit 34 = .ok (.ireturn, 1) := by decide +kernel
theorem dX9_takeNumber_0 : decode cX9_takeNumber 0 = .ok (.aload_n 0, 1) := by decide +kernel
theorem dX9_takeNumber_1 : decode cX9_takeNumber 1 = .ok (.bipush 9, 2) := by decide +kernel
theorem dX9_takeNumber_3 : decode cX9_takeNumber 3 = .ok (.invokevirtual 209, 3) := by decide +kernel
theorem dX9_takeNumber_6 : decode cX9_takeNumber 6 = .ok (.istore_n 1, 1) := by decide +kernel
theorem dX9_takeNumber_7 : decode cX9_takeNumber 7 = .ok (.iload_n 1, 1) := by decide +kernel
theorem dX9_takeNumber_8 : decode cX9_takeNumber 8 = .ok (.ifCond .le 43, 3) := by decide +kernel
theorem dX9_takeNumber_11 : decode cX9_takeNumber 11 = .ok (.iload_n 1, 1) := by decide +kernel
theorem dX9_takeNumber_12 : decode cX9_takeNumber 12 = .ok (.sipush 10000, 3) := by decide +kernel
theorem dX9_takeNumber_15 : decode cX9_takeNumber 15 = .ok (.if_icmp .ge 36, 3) := by decide +kernel
theorem dX9_takeNumber_18 : decode cX9_takeNumber 18 = .ok (.aload_n 0, 1) := by decide +kernel
theorem dX9_takeNumber_19 : decode cX9_takeNumber 19 = .ok (.aload_n 0, 1) := by decide +kernel
theorem dX9_takeNumber_20 : decode cX9_takeNumber 20 = .ok (.getfield 203, 3) := by decide +kernel
theorem dX9_takeNumber_23 : decode cX9_takeNumber 23 = .ok (.invokevirtual 206, 3) := by decide +kernel
theorem dX9_takeNumber_26 : decode cX9_takeNumber 26 = .ok (.bipush 48, 2) := by decide +kernel
theorem dX9_takeNumber_28 : decode cX9_takeNumber 28 = .ok (.bipush 57, 2) := by decide +kernel
theorem dX9_takeNumber_30 : decode cX9_takeNumber 30 = .ok (.invokestatic 70, 3) := by decide +kernel
theorem dX9_takeNumber_33 : decode cX9_takeNumber 33 = .ok (.ifCond .eq 18, 3) := by decide +kernel
theorem dX9_takeNumber_36 : decode cX9_takeNumber 36 = .ok (.bipush 10, 2) := by decide +kernel
theorem dX9_takeNumber_38 : decode cX9_takeNumber 38 = .ok (.iload_n 1, 1) := by decide +kernel
theorem dX9_takeNumber_39 : decode cX9_takeNumber 39 = .ok (.imul, 1) := by decide +kernel
theorem dX9_takeNumber_40 : decode cX9_takeNumber 40 = .ok (.aload_n 0, 1) := by decide +kernel
theorem dX9_takeNumber_41 : decode cX9_takeNumber 41 = .ok (.bipush 9, 2) := by decide +kernel
theorem dX9_takeNumber_43 : decode cX9_takeNumber 43 = .ok (.invokevirtual 209, 3) := by decide +kernel
theorem dX9_takeNumber_46 : decode cX9_takeNumber 46 = .ok (.iadd, 1) := by decide +kernel
theorem dX9_takeNumber_47 : decode cX9_takeNumber 47 = .ok (.istore_n 1, 1) := by decide +kernel
theorem dX9_takeNumber_48 : decode cX9_takeNumber 48 = .ok (.goto (-41), 3) := by decide +kernel
theorem dX9_takeNumber_51 : decode cX9_takeNumber 51 = .ok (.iload_n 1, 1) := by decide +kernel
theorem dX9_takeNumber_52 : decode cX9_takeNumber 52 = .ok (.ireturn, 1) := by decide +kernel
theorem dX9_readsPulse_0 : decode cX9_readsPulse 0 = .ok (.aload_n 0, 1) := by decide +kernel
theorem dX9_readsPulse_1 : decode cX9_readsPulse 1 = .ok (.aload_n 0, 1) := by decide +kernel
theorem dX9_readsPulse_2 : decode cX9_readsPulse 2 = .ok (.iconst 3, 1) := by decide +kernel
theorem dX9_readsPulse_3 : decode cX9_readsPulse 3 = .ok (.invokevirtual 209, 3) := by decide +kernel
theorem dX9_readsPulse_6 : decode cX9_readsPulse 6 = .ok (.putfield 212, 3) := by decide +kernel
theorem dX9_readsPulse_9 : decode cX9_readsPulse 9 = .ok (.aload_n 0, 1) := by decide +kernel
theorem dX9_readsPulse_10 : decode cX9_readsPulse 10 = .ok (.aload_n 0, 1) := by decide +kernel
theorem dX9_readsPulse_11 : decode cX9_readsPulse 11 = .ok (.getfield 212, 3) := by decide +kernel
theorem dX9_readsPulse_14 : decode cX9_readsPulse 14 = .ok (.ifCond .lt 19, 3) := by decide +kernel
theorem dX9_readsPulse_17 : decode cX9_readsPulse 17 = .ok (.aload_n 0, 1) := by decide +kernel
theorem dX9_readsPulse_18 : decode cX9_readsPulse 18 = .ok (.bipush 58, 2) := by decide +kernel
theorem dX9_readsPulse_20 : decode cX9_readsPulse 20 = .ok (.invokevirtual 215, 3) := by decide +kernel
theorem dX9_readsPulse_23 : decode cX9_readsPulse 23 = .ok (.ifCond .eq 10, 3) := by decide +kernel
theorem dX9_readsPulse_26 : decode cX9_readsPulse 26 = .ok (.aload_n 0, 1) := by decide +kernel
theorem dX9_readsPulse_27 : decode cX9_readsPulse 27 = .ok (.invokevirtual 218, 3) := by decide +kernel
theorem dX9_readsPulse_30 : decode cX9_readsPulse 30 = .ok (.goto 4, 3) := by decide +kernel
theorem dX9_readsPulse_33 : decode cX9_readsPulse 33 = .ok (.iconst (-1), 1) := by decide +kernel
theorem dX9_readsPulse_34 : decode cX9_readsPulse 34 = .ok (.putfield 221, 3) := by decide +kernel
theorem dX9_readsPulse_37 : decode cX9_readsPulse 37 = .ok (.aload_n 0, 1) := by decide +kernel
theorem dX9_readsPulse_38 : decode cX9_readsPulse 38 = .ok (.getfield 221, 3) := by decide +kernel
theorem dX9_readsPulse_41 : decode cX9_readsPulse 41 = .ok (.ifCond .lt 7, 3) := by decide +kernel
theorem dX9_readsPulse_44 : decode cX9_readsPulse 44 = .ok (.iconst 1, 1) := by decide +kernel
theorem dX9_readsPulse_45 : decode cX9_readsPulse 45 = .ok (.goto 4, 3) := by decide +kernel
theorem dX9_readsPulse_48 : decode cX9_readsPulse 48 = .ok (.iconst 0, 1) := by decide +kernel
theorem dX9_readsPulse_49 : decode cX9_readsPulse 49 = .ok (.ireturn, 1) := by decide +kernel
theorem dX9_findFault_0 : decode cX9_findFault 0 = .ok (.aload_n 0, 1) := by decide +kernel
theorem dX9_findFault_1 : decode cX9_findFault 1 = .ok (.iconst 0, 1) := by decide +kernel
theorem dX9_findFault_2 : decode cX9_findFault 2 = .ok (.putfield 203, 3) := by decide +kernel
theorem dX9_findFault_5 : decode cX9_findFault 5 = .ok (.aload_n 0, 1) := by decide +kernel
theorem dX9_findFault_6 : decode cX9_findFault 6 = .ok (.invokevirtual 224, 3) := by decide +kernel
theorem dX9_findFault_9 : decode cX9_findFault 9 = .ok (.ifCond .ne 8, 3) := by decide +kernel
theorem dX9_findFault_12 : decode cX9_findFault 12 = .ok (.aload_n 0, 1) := by decide +kernel
theorem dX9_findFault_13 : decode cX9_findFault 13 = .ok (.getfield 203, 3) := by decide +kernel
theorem dX9_findFault_16 : decode cX9_findFault 16 = .ok (.ireturn, 1) := by decide +kernel
theorem dX9_findFault_17 : decode cX9_findFault 17 = .ok (.aload_n 0, 1) := by decide +kernel
theorem dX9_findFault_18 : decode cX9_findFault 18 = .ok (.getfield 203, 3) := by decide +kernel
theorem dX9_findFault_21 : decode cX9_findFault 21 = .ok (.aload_n 0, 1) := by decide +kernel
theorem dX9_findFault_22 : decode cX9_findFault 22 = .ok (.getfield 198, 3) := by decide +kernel
theorem dX9_findFault_25 : decode cX9_findFault 25 = .ok (.if_icmp .ne 6, 3) := by decide +kernel
theorem dX9_findFault_28 : decode cX9_findFault 28 = .ok (.bipush (-6), 2) := by decide +kernel
theorem dX9_findFault_30 : decode cX9_findFault 30 = .ok (.ireturn, 1) := by decide +kernel
theorem dX9_findFault_31 : decode cX9_findFault 31 = .ok (.aload_n 0, 1) := by decide +kernel
theorem dX9_findFault_32 : decode cX9_findFault 32 = .ok (.bipush 59, 2) := by decide +kernel
theorem dX9_findFault_34 : decode cX9_findFault 34 = .ok (.invokevirtual 215, 3) := by decide +kernel
theorem dX9_findFault_37 : decode cX9_findFault 37 = .ok (.ifCond .ne (-32), 3) := by decide +kernel
theorem dX9_findFault_40 : decode cX9_findFault 40 = .ok (.aload_n 0, 1) := by decide +kernel
theorem dX9_findFault_41 : decode cX9_findFault 41 = .ok (.getfield 203, 3) := by decide +kernel
theorem dX9_findFault_44 : decode cX9_findFault 44 = .ok (.ireturn, 1) := by decide +kernel
theorem dX9_fault_0 : decode cX9_fault 0 = .ok (.aload_n 0, 1) := by decide +kernel
theorem dX9_fault_1 : decode cX9_fault 1 = .ok (.invokevirtual 227, 3) := by decide +kernel
theorem dX9_fault_4 : decode cX9_fault 4 = .ok (.ireturn, 1) := by decide +kernel
theorem dX9_hearAll_0 : decode cX9_hearAll 0 = .ok (.aload_n 0, 1) := by decide +kernel
theorem dX9_hearAll_1 : decode cX9_hearAll 1 = .ok (.invokevirtual 227, 3) := by decide +kernel
theorem dX9_hearAll_4 : decode cX9_hearAll 4 = .ok (.bipush (-6), 2) := by decide +kernel
theorem dX9_hearAll_6 : decode cX9_hearAll 6 = .ok (.if_icmp .eq 6, 3) := by decide +kernel
theorem dX9_hearAll_9 : decode cX9_hearAll 9 = .ok (.bipush (-3), 2) := by decide +kernel
theorem dX9_hearAll_11 : decode cX9_hearAll 11 = .ok (.ireturn, 1) := by decide +kernel
theorem dX9_hearAll_12 : decode cX9_hearAll 12 = .ok (.aload_n 0, 1) := by decide +kernel
theorem dX9_hearAll_13 : decode cX9_hearAll 13 = .ok (.invokevirtual 153, 3) := by decide +kernel
theorem dX9_hearAll_16 : decode cX9_hearAll 16 = .ok (.iconst 0, 1) := by decide +kernel
theorem dX9_hearAll_17 : decode cX9_hearAll 17 = .ok (.istore_n 1, 1) := by decide +kernel
theorem dX9_hearAll_18 : decode cX9_hearAll 18 = .ok (.aload_n 0, 1) := by decide +kernel
theorem dX9_hearAll_19 : decode cX9_hearAll 19 = .ok (.iconst 0, 1) := by decide +kernel
theorem dX9_hearAll_20 : decode cX9_hearAll 20 = .ok (.putfield 203, 3) := by decide +kernel
theorem dX9_hearAll_23 : decode cX9_hearAll 23 = .ok (.iconst 1, 1) := by decide +kernel
theorem dX9_hearAll_24 : decode cX9_hearAll 24 = .ok (.istore_n 2, 1) := by decide +kernel
theorem dX9_hearAll_25 : decode cX9_hearAll 25 = .ok (.iload_n 2, 1) := by decide +kernel
theorem dX9_hearAll_26 : decode cX9_hearAll 26 = .ok (.ifCond .eq 70, 3) := by decide +kernel
theorem dX9_hearAll_29 : decode cX9_hearAll 29 = .ok (.aload_n 0, 1) := by decide +kernel
theorem dX9_hearAll_30 : decode cX9_hearAll 30 = .ok (.getfield 203, 3) := by decide +kernel
theorem dX9_hearAll_33 : decode cX9_hearAll 33 = .ok (.aload_n 0, 1) := by decide +kernel
theorem dX9_hearAll_34 : decode cX9_hearAll 34 = .ok (.getfield 198, 3) := by decide +kernel
theorem dX9_hearAll_37 : decode cX9_hearAll 37 = .ok (.if_icmp .ge 59, 3) := by decide +kernel
theorem dX9_hearAll_40 : decode cX9_hearAll 40 = .ok (.aload_n 0, 1) := by decide +kernel
theorem dX9_hearAll_41 : decode cX9_hearAll 41 = .ok (.invokevirtual 224, 3) := by decide +kernel
theorem dX9_hearAll_44 : decode cX9_hearAll 44 = .ok (.pop, 1) := by decide +kernel
theorem dX9_hearAll_45 : decode cX9_hearAll 45 = .ok (.aload_n 0, 1) := by decide +kernel
theorem dX9_hearAll_46 : decode cX9_hearAll 46 = .ok (.bipush 59, 2) := by decide +kernel
theorem dX9_hearAll_48 : decode cX9_hearAll 48 = .ok (.invokevirtual 215, 3) := by decide +kernel
theorem dX9_hearAll_51 : decode cX9_hearAll 51 = .ok (.pop, 1) := by decide +kernel
theorem dX9_hearAll_52 : decode cX9_hearAll 52 = .ok (.aload_n 0, 1) := by decide +kernel
theorem dX9_hearAll_53 : decode cX9_hearAll 53 = .ok (.aload_n 0, 1) := by decide +kernel
theorem dX9_hearAll_54 : decode cX9_hearAll 54 = .ok (.getfield 212, 3) := by decide +kernel
theorem dX9_hearAll_57 : decode cX9_hearAll 57 = .ok (.aload_n 0, 1) := by decide +kernel
theorem dX9_hearAll_58 : decode cX9_hearAll 58 = .ok (.getfield 221, 3) := by decide +kernel
theorem dX9_hearAll_61 : decode cX9_hearAll 61 = .ok (.invokevirtual 162, 3) := by decide +kernel
theorem dX9_hearAll_64 : decode cX9_hearAll 64 = .ok (.ifCond .ne 7, 3) := by decide +kernel
theorem dX9_hearAll_67 : decode cX9_hearAll 67 = .ok (.iconst 1, 1) := by decide +kernel
theorem dX9_hearAll_68 : decode cX9_hearAll 68 = .ok (.goto 4, 3) := by decide +kernel
theorem dX9_hearAll_71 : decode cX9_hearAll 71 = .ok (.iconst 0, 1) := by decide +kernel
theorem dX9_hearAll_72 : decode cX9_hearAll 72 = .ok (.istore_n 2, 1) := by decide +kernel
theorem dX9_hearAll_73 : decode cX9_hearAll 73 = .ok (.iload_n 2, 1) := by decide +kernel
theorem dX9_hearAll_74 : decode cX9_hearAll 74 = .ok (.ifCond .eq (-49), 3) := by decide +kernel
theorem dX9_hearAll_77 : decode cX9_hearAll 77 = .ok (.aload_n 0, 1) := by decide +kernel
theorem dX9_hearAll_78 : decode cX9_hearAll 78 = .ok (.aload_n 0, 1) := by decide +kernel
theorem dX9_hearAll_79 : decode cX9_hearAll 79 = .ok (.getfield 212, 3) := by decide +kernel
theorem dX9_hearAll_82 : decode cX9_hearAll 82 = .ok (.aload_n 0, 1) := by decide +kernel
theorem dX9_hearAll_83 : decode cX9_hearAll 83 = .ok (.getfield 221, 3) := by decide +kernel
theorem dX9_hearAll_86 : decode cX9_hearAll 86 = .ok (.invokevirtual 166, 3) := by decide +kernel
theorem dX9_hearAll_89 : decode cX9_hearAll 89 = .ok (.pop, 1) := by decide +kernel
theorem dX9_hearAll_90 : decode cX9_hearAll 90 = .ok (.iinc 1 1, 3) := by decide +kernel
theorem dX9_hearAll_93 : decode cX9_hearAll 93 = .ok (.goto (-68), 3) := by decide +kernel
theorem dX9_hearAll_96 : decode cX9_hearAll 96 = .ok (.aload_n 0, 1) := by decide +kernel
theorem dX9_hearAll_97 : decode cX9_hearAll 97 = .ok (.iconst 0, 1) := by decide +kernel
theorem dX9_hearAll_98 : decode cX9_hearAll 98 = .ok (.putfield 198, 3) := by decide +kernel
theorem dX9_hearAll_101 : decode cX9_hearAll 101 = .ok (.iload_n 1, 1) := by decide +kernel
theorem dX9_hearAll_102 : decode cX9_hearAll 102 = .ok (.ireturn, 1) := by decide +kernel
theorem dX9_undo_0 : decode cX9_undo 0 = .ok (.aload_n 0, 1) := by decide +kernel
theorem dX9_undo_1 : decode cX9_undo 1 = .ok (.getfield 62, 3) := by decide +kernel
theorem dX9_undo_4 : decode cX9_undo 4 = .ok (.ifCond .ne 6, 3) := by decide +kernel
theorem dX9_undo_7 : decode cX9_undo 7 = .ok (.bipush (-5), 2) := by decide +kernel
theorem dX9_undo_9 : decode cX9_undo 9 = .ok (.ireturn, 1) := by decide +kernel
theorem dX9_undo_10 : decode cX9_undo 10 = .ok (.aload_n 0, 1) := by decide +kernel
theorem dX9_undo_11 : decode cX9_undo 11 = .ok (.dup, 1) := by decide +kernel
theorem dX9_undo_12 : decode cX9_undo 12 = .ok (.getfield 62, 3) := by decide +kernel
theorem dX9_undo_15 : decode cX9_undo 15 = .ok (.iconst 1, 1) := by decide +kernel
theorem dX9_undo_16 : decode cX9_undo 16 = .ok (.isub, 1) := by decide +kernel
theorem dX9_undo_17 : decode cX9_undo 17 = .ok (.putfield 62, 3) := by decide +kernel
theorem dX9_undo_20 : decode cX9_undo 20 = .ok (.aload_n 0, 1) := by decide +kernel
theorem dX9_undo_21 : decode cX9_undo 21 = .ok (.getfield 16, 3) := by decide +kernel
theorem dX9_undo_24 : decode cX9_undo 24 = .ok (.aload_n 0, 1) := by decide +kernel
theorem dX9_undo_25 : decode cX9_undo 25 = .ok (.getfield 62, 3) := by decide +kernel
theorem dX9_undo_28 : decode cX9_undo 28 = .ok (.bipush 68, 2) := by decide +kernel
theorem dX9_undo_30 : decode cX9_undo 30 = .ok (.imul, 1) := by decide +kernel
theorem dX9_undo_31 : decode cX9_undo 31 = .ok (.aload_n 0, 1) := by decide +kernel
theorem dX9_undo_32 : decode cX9_undo 32 = .ok (.getfield 7, 3) := by decide +kernel
theorem dX9_undo_35 : decode cX9_undo 35 = .ok (.iconst 0, 1) := by decide +kernel
theorem dX9_undo_36 : decode cX9_undo 36 = .ok (.invokestatic 66, 3) := by decide +kernel
theorem dX9_undo_39 : decode cX9_undo 39 = .ok (.aload_n 0, 1) := by decide +kernel
theorem dX9_undo_40 : decode cX9_undo 40 = .ok (.getfield 62, 3) := by decide +kernel
theorem dX9_undo_43 : decode cX9_undo 43 = .ok (.ireturn, 1) := by decide +kernel
theorem dX9_save_0 : decode cX9_save 0 = .ok (.iload_n 1, 1) := by decide +kernel
theorem dX9_save_1 : decode cX9_save 1 = .ok (.iconst 0, 1) := by decide +kernel
theorem dX9_save_2 : decode cX9_save 2 = .ok (.iconst 1, 1) := by decide +kernel
theorem dX9_save_3 : decode cX9_save 3 = .ok (.invokestatic 70, 3) := by decide +kernel
theorem dX9_save_6 : decode cX9_save 6 = .ok (.ifCond .ne 6, 3) := by decide +kernel
theorem dX9_save_9 : decode cX9_save 9 = .ok (.bipush (-2), 2) := by decide +kernel
theorem dX9_save_11 : decode cX9_save 11 = .ok (.ireturn, 1) := by decide +kernel
theorem dX9_save_12 : decode cX9_save 12 = .ok (.aload_n 0, 1) := by decide +kernel
theorem dX9_save_13 : decode cX9_save 13 = .ok (.getfield 7, 3) := by decide +kernel
theorem dX9_save_16 : decode cX9_save 16 = .ok (.iconst 0, 1) := by decide +kernel
theorem dX9_save_17 : decode cX9_save 17 = .ok (.aload_n 0, 1) := by decide +kernel
theorem dX9_save_18 : decode cX9_save 18 = .ok (.getfield 19, 3) := by decide +kernel
theorem dX9_save_21 : decode cX9_save 21 = .ok (.bipush 68, 2) := by decide +kernel
theorem dX9_save_23 : decode cX9_save 23 = .ok (.iload_n 1, 1) := by decide +kernel
theorem dX9_save_24 : decode cX9_save 24 = .ok (.imul, 1) := by decide +kernel
theorem dX9_save_25 : decode cX9_save 25 = .ok (.invokestatic 66, 3) := by decide +kernel
theorem dX9_save_28 : decode cX9_save 28 = .ok (.aload_n 0, 1) := by decide +kernel
theorem dX9_save_29 : decode cX9_save 29 = .ok (.getfield 22, 3) := by decide +kernel
theorem dX9_save_32 : decode cX9_save 32 = .ok (.iload_n 1, 1) := by decide +kernel
theorem dX9_save_33 : decode cX9_save 33 = .ok (.iconst 1, 1) := by decide +kernel
theorem dX9_save_34 : decode cX9_save 34 = .ok (.iastore, 1) := by decide +kernel
theorem dX9_save_35 : decode cX9_save 35 = .ok (.aload_n 0, 1) := by decide +kernel
theorem dX9_save_36 : decode cX9_save 36 = .ok (.getfield 7, 3) := by decide +kernel
theorem dX9_save_39 : decode cX9_save 39 = .ok (.iconst 3, 1) := by decide +kernel
theorem dX9_save_40 : decode cX9_save 40 = .ok (.iaload, 1) := by decide +kernel
theorem dX9_save_41 : decode cX9_save 41 = .ok (.ireturn, 1) := by decide +kernel
theorem dX9_restore_0 : decode cX9_restore 0 = .ok (.iload_n 1, 1) := by decide +kernel
theorem dX9_restore_1 : decode cX9_restore 1 = .ok (.iconst 0, 1) := by decide +kernel
theorem dX9_restore_2 : decode cX9_restore 2 = .ok (.iconst 1, 1) := by decide +kernel
theorem dX9_restore_3 : decode cX9_restore 3 = .ok (.invokestatic 70, 3) := by decide +kernel
theorem dX9_restore_6 : decode cX9_restore 6 = .ok (.ifCond .ne 6, 3) := by decide +kernel
theorem dX9_restore_9 : decode cX9_restore 9 = .ok (.bipush (-2), 2) := by decide +kernel
theorem dX9_restore_11 : decode cX9_restore 11 = .ok (.ireturn, 1) := by decide +kernel
theorem dX9_restore_12 : decode cX9_restore 12 = .ok (.aload_n 0, 1) := by decide +kernel
theorem dX9_restore_13 : decode cX9_restore 13 = .ok (.getfield 22, 3) := by decide +kernel
theorem dX9_restore_16 : decode cX9_restore 16 = .ok (.iload_n 1, 1) := by decide +kernel
theorem dX9_restore_17 : decode cX9_restore 17 = .ok (.iaload, 1) := by decide +kernel
theorem dX9_restore_18 : decode cX9_restore 18 = .ok (.ifCond .ne 6, 3) := by decide +kernel
theorem dX9_restore_21 : decode cX9_restore 21 = .ok (.bipush (-5), 2) := by decide +kernel
theorem dX9_restore_23 : decode cX9_restore 23 = .ok (.ireturn, 1) := by decide +kernel
theorem dX9_restore_24 : decode cX9_restore 24 = .ok (.aload_n 0, 1) := by decide +kernel
theorem dX9_restore_25 : decode cX9_restore 25 = .ok (.invokevirtual 153, 3) := by decide +kernel
theorem dX9_restore_28 : decode cX9_restore 28 = .ok (.aload_n 0, 1) := by decide +kernel
theorem dX9_restore_29 : decode cX9_restore 29 = .ok (.getfield 19, 3) := by decide +kernel
theorem dX9_restore_32 : decode cX9_restore 32 = .ok (.bipush 68, 2) := by decide +kernel
theorem dX9_restore_34 : decode cX9_restore 34 = .ok (.iload_n 1, 1) := by decide +kernel
theorem dX9_restore_35 : decode cX9_restore 35 = .ok (.imul, 1) := by decide +kernel
theorem dX9_restore_36 : decode cX9_restore 36 = .ok (.aload_n 0, 1) := by decide +kernel
theorem dX9_restore_37 : decode cX9_restore 37 = .ok (.getfield 7, 3) := by decide +kernel
theorem dX9_restore_40 : decode cX9_restore 40 = .ok (.iconst 0, 1) := by decide +kernel
theorem dX9_restore_41 : decode cX9_restore 41 = .ok (.invokestatic 66, 3) := by decide +kernel
theorem dX9_restore_44 : decode cX9_restore 44 = .ok (.aload_n 0, 1) := by decide +kernel
theorem dX9_restore_45 : decode cX9_restore 45 = .ok (.getfield 7, 3) := by decide +kernel
theorem dX9_restore_48 : decode cX9_restore 48 = .ok (.iconst 3, 1) := by decide +kernel
