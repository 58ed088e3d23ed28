theorem dX9_findBest_69 : decode cX9_findBest 69 = .ok (.iconst 4, 1) := by decide +kernel
theorem dX9_findBest_70 : decode cX9_findBest 70 = .ok (.if_icmp .ge 21, 3) := by decide +kernel
theorem dX9_findBest_73 : decode cX9_findBest 73 = .ok (.aload_n 0, 1) := by decide +kernel
theorem dX9_findBest_74 : decode cX9_findBest 74 = .ok (.getfield 55, 3) := by decide +kernel
theorem dX9_findBest_77 : decode cX9_findBest 77 = .ok (.iload_n 2, 1) := by decide +kernel
theorem dX9_findBest_78 : decode cX9_findBest 78 = .ok (.aload_n 0, 1) := by decide +kernel
theorem dX9_findBest_79 : decode cX9_findBest 79 = .ok (.getfield 49, 3) := by decide +kernel
theorem dX9_findBest_82 : decode cX9_findBest 82 = .ok (.iload_n 2, 1) := by decide +kernel
theorem dX9_findBest_83 : decode cX9_findBest 83 = .ok (.iaload, 1) := by decide +kernel
theorem dX9_findBest_84 : decode cX9_findBest 84 = .ok (.iastore, 1) := by decide +kernel
theorem dX9_findBest_85 : decode cX9_findBest 85 = .ok (.iinc 2 1, 3) := by decide +kernel
theorem dX9_findBest_88 : decode cX9_findBest 88 = .ok (.goto (-20), 3) := by decide +kernel
theorem dX9_findBest_91 : decode cX9_findBest 91 = .ok (.iinc 1 1, 3) := by decide +kernel
theorem dX9_findBest_94 : decode cX9_findBest 94 = .ok (.goto (-86), 3) := by decide +kernel
theorem dX9_findBest_97 : decode cX9_findBest 97 = .ok (.return_, 1) := by decide +kernel
theorem dX9_becomesShot_0 : decode cX9_becomesShot 0 = .ok (.iconst 0, 1) := by decide +kernel
theorem dX9_becomesShot_1 : decode cX9_becomesShot 1 = .ok (.istore_n 1, 1) := by decide +kernel
theorem dX9_becomesShot_2 : decode cX9_becomesShot 2 = .ok (.iload_n 1, 1) := by decide +kernel
theorem dX9_becomesShot_3 : decode cX9_becomesShot 3 = .ok (.iconst 4, 1) := by decide +kernel
theorem dX9_becomesShot_4 : decode cX9_becomesShot 4 = .ok (.if_icmp .ge 55, 3) := by decide +kernel
theorem dX9_becomesShot_7 : decode cX9_becomesShot 7 = .ok (.aload_n 0, 1) := by decide +kernel
theorem dX9_becomesShot_8 : decode cX9_becomesShot 8 = .ok (.getfield 49, 3) := by decide +kernel
theorem dX9_becomesShot_11 : decode cX9_becomesShot 11 = .ok (.iload_n 1, 1) := by decide +kernel
theorem dX9_becomesShot_12 : decode cX9_becomesShot 12 = .ok (.aload_n 0, 1) := by decide +kernel
theorem dX9_becomesShot_13 : decode cX9_becomesShot 13 = .ok (.getfield 55, 3) := by decide +kernel
theorem dX9_becomesShot_16 : decode cX9_becomesShot 16 = .ok (.iload_n 1, 1) := by decide +kernel
theorem dX9_becomesShot_17 : decode cX9_becomesShot 17 = .ok (.iaload, 1) := by decide +kernel
theorem dX9_becomesShot_18 : decode cX9_becomesShot 18 = .ok (.iastore, 1) := by decide +kernel
theorem dX9_becomesShot_19 : decode cX9_becomesShot 19 = .ok (.aload_n 0, 1) := by decide +kernel
theorem dX9_becomesShot_20 : decode cX9_becomesShot 20 = .ok (.getfield 34, 3) := by decide +kernel
theorem dX9_becomesShot_23 : decode cX9_becomesShot 23 = .ok (.aload_n 0, 1) := by decide +kernel
theorem dX9_becomesShot_24 : decode cX9_becomesShot 24 = .ok (.getfield 55, 3) := by decide +kernel
theorem dX9_becomesShot_27 : decode cX9_becomesShot 27 = .ok (.iload_n 1, 1) := by decide +kernel
theorem dX9_becomesShot_28 : decode cX9_becomesShot 28 = .ok (.iaload, 1) := by decide +kernel
theorem dX9_becomesShot_29 : decode cX9_becomesShot 29 = .ok (.aload_n 0, 1) := by decide +kernel
theorem dX9_becomesShot_30 : decode cX9_becomesShot 30 = .ok (.getfield 121, 3) := by decide +kernel
theorem dX9_becomesShot_33 : decode cX9_becomesShot 33 = .ok (.iastore, 1) := by decide +kernel
theorem dX9_becomesShot_34 : decode cX9_becomesShot 34 = .ok (.aload_n 0, 1) := by decide +kernel
theorem dX9_becomesShot_35 : decode cX9_becomesShot 35 = .ok (.getfield 46, 3) := by decide +kernel
theorem dX9_becomesShot_38 : decode cX9_becomesShot 38 = .ok (.iconst 4, 1) := by decide +kernel
theorem dX9_becomesShot_39 : decode cX9_becomesShot 39 = .ok (.aload_n 0, 1) := by decide +kernel
theorem dX9_becomesShot_40 : decode cX9_becomesShot 40 = .ok (.getfield 121, 3) := by decide +kernel
theorem dX9_becomesShot_43 : decode cX9_becomesShot 43 = .ok (.imul, 1) := by decide +kernel
theorem dX9_becomesShot_44 : decode cX9_becomesShot 44 = .ok (.iload_n 1, 1) := by decide +kernel
theorem dX9_becomesShot_45 : decode cX9_becomesShot 45 = .ok (.iadd, 1) := by decide +kernel
theorem dX9_becomesShot_46 : decode cX9_becomesShot 46 = .ok (.aload_n 0, 1) := by decide +kernel
theorem dX9_becomesShot_47 : decode cX9_becomesShot 47 = .ok (.getfield 55, 3) := by decide +kernel
theorem dX9_becomesShot_50 : decode cX9_becomesShot 50 = .ok (.iload_n 1, 1) := by decide +kernel
theorem dX9_becomesShot_51 : decode cX9_becomesShot 51 = .ok (.iaload, 1) := by decide +kernel
theorem dX9_becomesShot_52 : decode cX9_becomesShot 52 = .ok (.iastore, 1) := by decide +kernel
theorem dX9_becomesShot_53 : decode cX9_becomesShot 53 = .ok (.iinc 1 1, 3) := by decide +kernel
theorem dX9_becomesShot_56 : decode cX9_becomesShot 56 = .ok (.goto (-54), 3) := by decide +kernel
theorem dX9_becomesShot_59 : decode cX9_becomesShot 59 = .ok (.aload_n 0, 1) := by decide +kernel
theorem dX9_becomesShot_60 : decode cX9_becomesShot 60 = .ok (.getfield 37, 3) := by decide +kernel
theorem dX9_becomesShot_63 : decode cX9_becomesShot 63 = .ok (.aload_n 0, 1) := by decide +kernel
theorem dX9_becomesShot_64 : decode cX9_becomesShot 64 = .ok (.getfield 121, 3) := by decide +kernel
theorem dX9_becomesShot_67 : decode cX9_becomesShot 67 = .ok (.aload_n 0, 1) := by decide +kernel
theorem dX9_becomesShot_68 : decode cX9_becomesShot 68 = .ok (.getfield 118, 3) := by decide +kernel
theorem dX9_becomesShot_71 : decode cX9_becomesShot 71 = .ok (.iastore, 1) := by decide +kernel
theorem dX9_becomesShot_72 : decode cX9_becomesShot 72 = .ok (.aload_n 0, 1) := by decide +kernel
theorem dX9_becomesShot_73 : decode cX9_becomesShot 73 = .ok (.getfield 40, 3) := by decide +kernel
theorem dX9_becomesShot_76 : decode cX9_becomesShot 76 = .ok (.aload_n 0, 1) := by decide +kernel
theorem dX9_becomesShot_77 : decode cX9_becomesShot 77 = .ok (.getfield 121, 3) := by decide +kernel
theorem dX9_becomesShot_80 : decode cX9_becomesShot 80 = .ok (.aload_n 0, 1) := by decide +kernel
theorem dX9_becomesShot_81 : decode cX9_becomesShot 81 = .ok (.getfield 104, 3) := by decide +kernel
theorem dX9_becomesShot_84 : decode cX9_becomesShot 84 = .ok (.iastore, 1) := by decide +kernel
theorem dX9_becomesShot_85 : decode cX9_becomesShot 85 = .ok (.aload_n 0, 1) := by decide +kernel
theorem dX9_becomesShot_86 : decode cX9_becomesShot 86 = .ok (.getfield 43, 3) := by decide +kernel
theorem dX9_becomesShot_89 : decode cX9_becomesShot 89 = .ok (.aload_n 0, 1) := by decide +kernel
theorem dX9_becomesShot_90 : decode cX9_becomesShot 90 = .ok (.getfield 121, 3) := by decide +kernel
theorem dX9_becomesShot_93 : decode cX9_becomesShot 93 = .ok (.aload_n 0, 1) := by decide +kernel
theorem dX9_becomesShot_94 : decode cX9_becomesShot 94 = .ok (.aload_n 0, 1) := by decide +kernel
theorem dX9_becomesShot_95 : decode cX9_becomesShot 95 = .ok (.getfield 118, 3) := by decide +kernel
theorem dX9_becomesShot_98 : decode cX9_becomesShot 98 = .ok (.invokevirtual 124, 3) := by decide +kernel
theorem dX9_becomesShot_101 : decode cX9_becomesShot 101 = .ok (.iastore, 1) := by decide +kernel
theorem dX9_becomesShot_102 : decode cX9_becomesShot 102 = .ok (.aload_n 0, 1) := by decide +kernel
theorem dX9_becomesShot_103 : decode cX9_becomesShot 103 = .ok (.dup, 1) := by decide +kernel
theorem dX9_becomesShot_104 : decode cX9_becomesShot 104 = .ok (.getfield 121, 3) := by decide +kernel
theorem dX9_becomesShot_107 : decode cX9_becomesShot 107 = .ok (.iconst 1, 1) := by decide +kernel
theorem dX9_becomesShot_108 : decode cX9_becomesShot 108 = .ok (.iadd, 1) := by decide +kernel
theorem dX9_becomesShot_109 : decode cX9_becomesShot 109 = .ok (.putfield 121, 3) := by decide +kernel
theorem dX9_becomesShot_112 : decode cX9_becomesShot 112 = .ok (.return_, 1) := by decide +kernel
theorem dX9_findShots_0 : decode cX9_findShots 0 = .ok (.aload_n 0, 1) := by decide +kernel
theorem dX9_findShots_1 : decode cX9_findShots 1 = .ok (.iload_n 1, 1) := by decide +kernel
theorem dX9_findShots_2 : decode cX9_findShots 2 = .ok (.invokestatic 127, 3) := by decide +kernel
theorem dX9_findShots_5 : decode cX9_findShots 5 = .ok (.invokevirtual 130, 3) := by decide +kernel
theorem dX9_findShots_8 : decode cX9_findShots 8 = .ok (.aload_n 0, 1) := by decide +kernel
theorem dX9_findShots_9 : decode cX9_findShots 9 = .ok (.iconst 0, 1) := by decide +kernel
theorem dX9_findShots_10 : decode cX9_findShots 10 = .ok (.putfield 121, 3) := by decide +kernel
theorem dX9_findShots_13 : decode cX9_findShots 13 = .ok (.iconst 0, 1) := by decide +kernel
theorem dX9_findShots_14 : decode cX9_findShots 14 = .ok (.istore_n 2, 1) := by decide +kernel
theorem dX9_findShots_15 : decode cX9_findShots 15 = .ok (.iload_n 2, 1) := by decide +kernel
theorem dX9_findShots_16 : decode cX9_findShots 16 = .ok (.bipush 32, 2) := by decide +kernel
theorem dX9_findShots_18 : decode cX9_findShots 18 = .ok (.if_icmp .ge 17, 3) := by decide +kernel
theorem dX9_findShots_21 : decode cX9_findShots 21 = .ok (.aload_n 0, 1) := by decide +kernel
theorem dX9_findShots_22 : decode cX9_findShots 22 = .ok (.getfield 34, 3) := by decide +kernel
theorem dX9_findShots_25 : decode cX9_findShots 25 = .ok (.iload_n 2, 1) := by decide +kernel
theorem dX9_findShots_26 : decode cX9_findShots 26 = .ok (.bipush 40, 2) := by decide +kernel
theorem dX9_findShots_28 : decode cX9_findShots 28 = .ok (.iastore, 1) := by decide +kernel
theorem dX9_findShots_29 : decode cX9_findShots 29 = .ok (.iinc 2 1, 3) := by decide +kernel
theorem dX9_findShots_32 : decode cX9_findShots 32 = .ok (.goto (-17), 3) := by decide +kernel
theorem dX9_findShots_35 : decode cX9_findShots 35 = .ok (.iconst 0, 1) := by decide +kernel
theorem dX9_findShots_36 : decode cX9_findShots 36 = .ok (.istore_n 2, 1) := by decide +kernel
theorem dX9_findShots_37 : decode cX9_findShots 37 = .ok (.iload_n 2, 1) := by decide +kernel
theorem dX9_findShots_38 : decode cX9_findShots 38 = .ok (.aload_n 0, 1) := by decide +kernel
theorem dX9_findShots_39 : decode cX9_findShots 39 = .ok (.getfield 7, 3) := by decide +kernel
theorem dX9_findShots_42 : decode cX9_findShots 42 = .ok (.iconst 3, 1) := by decide +kernel
theorem dX9_findShots_43 : decode cX9_findShots 43 = .ok (.iaload, 1) := by decide +kernel
theorem dX9_findShots_44 : decode cX9_findShots 44 = .ok (.if_icmp .ge 63, 3) := by decide +kernel
theorem dX9_findShots_47 : decode cX9_findShots 47 = .ok (.aload_n 0, 1) := by decide +kernel
theorem dX9_findShots_48 : decode cX9_findShots 48 = .ok (.getfield 34, 3) := by decide +kernel
theorem dX9_findShots_51 : decode cX9_findShots 51 = .ok (.iload_n 2, 1) := by decide +kernel
theorem dX9_findShots_52 : decode cX9_findShots 52 = .ok (.iaload, 1) := by decide +kernel
theorem dX9_findShots_53 : decode cX9_findShots 53 = .ok (.bipush 40, 2) := by decide +kernel
theorem dX9_findShots_55 : decode cX9_findShots 55 = .ok (.if_icmp .ne 46, 3) := by decide +kernel
theorem dX9_findShots_58 : decode cX9_findShots 58 = .ok (.aload_n 0, 1) := by decide +kernel
theorem dX9_findShots_59 : decode cX9_findShots 59 = .ok (.getfield 34, 3) := by decide +kernel
theorem dX9_findShots_62 : decode cX9_findShots 62 = .ok (.iload_n 2, 1) := by decide +kernel
theorem dX9_findShots_63 : decode cX9_findShots 63 = .ok (.bipush (-6), 2) := by decide +kernel
theorem dX9_findShots_65 : decode cX9_findShots 65 = .ok (.iastore, 1) := by decide +kernel
theorem dX9_findShots_66 : decode cX9_findShots 66 = .ok (.aload_n 0, 1) := by decide +kernel
theorem dX9_findShots_67 : decode cX9_findShots 67 = .ok (.iload_n 2, 1) := by decide +kernel
theorem dX9_findShots_68 : decode cX9_findShots 68 = .ok (.invokevirtual 133, 3) := by decide +kernel
theorem dX9_findShots_71 : decode cX9_findShots 71 = .ok (.istore_n 3, 1) := by decide +kernel
theorem dX9_findShots_72 : decode cX9_findShots 72 = .ok (.iload_n 3, 1) := by decide +kernel
theorem dX9_findShots_73 : decode cX9_findShots 73 = .ok (.ifCond .eq 7, 3) := by decide +kernel
theorem dX9_findShots_76 : decode cX9_findShots 76 = .ok (.aload_n 0, 1) := by decide +kernel
theorem dX9_findShots_77 : decode cX9_findShots 77 = .ok (.invokevirtual 137, 3) := by decide +kernel
theorem dX9_findShots_80 : decode cX9_findShots 80 = .ok (.iload_n 3, 1) := by decide +kernel
theorem dX9_findShots_81 : decode cX9_findShots 81 = .ok (.ifCond .eq 20, 3) := by decide +kernel
theorem dX9_findShots_84 : decode cX9_findShots 84 = .ok (.aload_n 0, 1) := by decide +kernel
theorem dX9_findShots_85 : decode cX9_findShots 85 = .ok (.getfield 104, 3) := by decide +kernel
theorem dX9_findShots_88 : decode cX9_findShots 88 = .ok (.aload_n 0, 1) := by decide +kernel
theorem dX9_findShots_89 : decode cX9_findShots 89 = .ok (.getfield 7, 3) := by decide +kernel
theorem dX9_findShots_92 : decode cX9_findShots 92 = .ok (.iconst 2, 1) := by decide +kernel
theorem dX9_findShots_93 : decode cX9_findShots 93 = .ok (.iaload, 1) := by decide +kernel
theorem dX9_findShots_94 : decode cX9_findShots 94 = .ok (.if_icmp .gt 7, 3) := by decide +kernel
theorem dX9_findShots_97 : decode cX9_findShots 97 = .ok (.aload_n 0, 1) := by decide +kernel
theorem dX9_findShots_98 : decode cX9_findShots 98 = .ok (.invokevirtual 140, 3) := by decide +kernel
theorem dX9_findShots_101 : decode cX9_findShots 101 = .ok (.iinc 2 1, 3) := by decide +kernel
theorem dX9_findShots_104 : decode cX9_findShots 104 = .ok (.goto (-67), 3) := by decide +kernel
theorem dX9_findShots_107 : decode cX9_findShots 107 = .ok (.return_, 1) := by decide +kernel
theorem dX9_find_0 : decode cX9_find 0 = .ok (.aload_n 0, 1) := by decide +kernel
theorem dX9_find_1 : decode cX9_find 1 = .ok (.aload_n 0, 1) := by decide +kernel
theorem dX9_find_2 : decode cX9_find 2 = .ok (.getfield 7, 3) := by decide +kernel
theorem dX9_find_5 : decode cX9_find 5 = .ok (.iconst 0, 1) := by decide +kernel
theorem dX9_find_6 : decode cX9_find 6 = .ok (.iaload, 1) := by decide +kernel
theorem dX9_find_7 : decode cX9_find 7 = .ok (.invokevirtual 143, 3) := by decide +kernel
theorem dX9_find_10 : decode cX9_find 10 = .ok (.return_, 1) := by decide +kernel
theorem dX9_ringOf_0 : decode cX9_ringOf 0 = .ok (.bipush 10, 2) := by decide +kernel
theorem dX9_ringOf_2 : decode cX9_ringOf 2 = .ok (.aload_n 0, 1) := by decide +kernel
theorem dX9_ringOf_3 : decode cX9_ringOf 3 = .ok (.aload_n 0, 1) := by decide +kernel
theorem dX9_ringOf_4 : decode cX9_ringOf 4 = .ok (.getfield 37, 3) := by decide +kernel
theorem dX9_ringOf_7 : decode cX9_ringOf 7 = .ok (.iload_n 1, 1) := by decide +kernel
theorem dX9_ringOf_8 : decode cX9_ringOf 8 = .ok (.iaload, 1) := by decide +kernel
theorem dX9_ringOf_9 : decode cX9_ringOf 9 = .ok (.bipush 41, 2) := by decide +kernel
theorem dX9_ringOf_11 : decode cX9_ringOf 11 = .ok (.irem, 1) := by decide +kernel
theorem dX9_ringOf_12 : decode cX9_ringOf 12 = .ok (.aload_n 0, 1) := by decide +kernel
theorem dX9_ringOf_13 : decode cX9_ringOf 13 = .ok (.getfield 37, 3) := by decide +kernel
theorem dX9_ringOf_16 : decode cX9_ringOf 16 = .ok (.iload_n 1, 1) := by decide +kernel
theorem dX9_ringOf_17 : decode cX9_ringOf 17 = .ok (.iaload, 1) := by decide +kernel
theorem dX9_ringOf_18 : decode cX9_ringOf 18 = .ok (.bipush 41, 2) := by decide +kernel
theorem dX9_ringOf_20 : decode cX9_ringOf 20 = .ok (.idiv, 1) := by decide +kernel
theorem dX9_ringOf_21 : decode cX9_ringOf 21 = .ok (.bipush 20, 2) := by decide +kernel
theorem dX9_ringOf_23 : decode cX9_ringOf 23 = .ok (.bipush 20, 2) := by decide +kernel
theorem dX9_ringOf_25 : decode cX9_ringOf 25 = .ok (.invokevirtual 77, 3) := by decide +kernel
theorem dX9_ringOf_28 : decode cX9_ringOf 28 = .ok (.sipush 200, 3) := by decide +kernel
theorem dX9_ringOf_31 : decode cX9_ringOf 31 = .ok (.idiv, 1) := by decide +kernel
theorem dX9_ringOf_32 : decode cX9_ringOf 32 = .ok (.isub, 1) := by decide +kernel
theorem dX9_ringOf_33 : decode cX9_ringOf 33 = .ok (.istore_n 2, 1) := by decide +kernel
theorem dX9_ringOf_34 : decode cX9_ringOf 34 = .ok (.iload_n 2, 1) := by decide +kernel
theorem dX9_ringOf_35 : decode cX9_ringOf 35 = .ok (.ifCond .ge 7, 3) := by decide +kernel
theorem dX9_ringOf_38 : decode cX9_ringOf 38 = .ok (.iconst 0, 1) := by decide +kernel
theorem dX9_ringOf_39 : decode cX9_ringOf 39 = .ok (.goto 4, 3) := by decide +kernel
theorem dX9_ringOf_42 : decode cX9_ringOf 42 = .ok (.iload_n 2, 1) := by decide +kernel
theorem dX9_ringOf_43 : decode cX9_ringOf 43 = .ok (.ireturn, 1) := by decide +kernel
theorem dX9_sumOfRings_0 : decode cX9_sumOfRings 0 = .ok (.iconst 0, 1) := by decide +kernel
theorem dX9_sumOfRings_1 : decode cX9_sumOfRings 1 = .ok (.istore_n 1, 1) := by decide +kernel
theorem dX9_sumOfRings_2 : decode cX9_sumOfRings 2 = .ok (.iconst 0, 1) := by decide +kernel
theorem dX9_sumOfRings_3 : decode cX9_sumOfRings 3 = .ok (.istore_n 2, 1) := by decide +kernel
theorem dX9_sumOfRings_4 : decode cX9_sumOfRings 4 = .ok (.iload_n 2, 1) := by decide +kernel
theorem dX9_sumOfRings_5 : decode cX9_sumOfRings 5 = .ok (.aload_n 0, 1) := by decide +kernel
theorem dX9_sumOfRings_6 : decode cX9_sumOfRings 6 = .ok (.getfield 121, 3) := by decide +kernel
theorem dX9_sumOfRings_9 : decode cX9_sumOfRings 9 = .ok (.if_icmp .ge 17, 3) := by decide +kernel
theorem dX9_sumOfRings_12 : decode cX9_sumOfRings 12 = .ok (.iload_n 1, 1) := by decide +kernel
theorem dX9_sumOfRings_13 : decode cX9_sumOfRings 13 = .ok (.aload_n 0, 1) := by decide +kernel
theorem dX9_sumOfRings_14 : decode cX9_sumOfRings 14 = .ok (.iload_n 2, 1) := by decide +kernel
theorem dX9_sumOfRings_15 : decode cX9_sumOfRings 15 = .ok (.invokevirtual 146, 3) := by decide +kernel
theorem dX9_sumOfRings_18 : decode cX9_sumOfRings 18 = .ok (.iadd, 1) := by decide +kernel
theorem dX9_sumOfRings_19 : decode cX9_sumOfRings 19 = .ok (.istore_n 1, 1) := by decide +kernel
theorem dX9_sumOfRings_20 : decode cX9_sumOfRings 20 = .ok (.iinc 2 1, 3) := by decide +kernel
theorem dX9_sumOfRings_23 : decode cX9_sumOfRings 23 = .ok (.goto (-19), 3) := by decide +kernel
theorem dX9_sumOfRings_26 : decode cX9_sumOfRings 26 = .ok (.iload_n 1, 1) := by decide +kernel
theorem dX9_sumOfRings_27 : decode cX9_sumOfRings 27 = .ok (.ireturn, 1) := by decide +kernel
theorem dX9_sumOfSpreads_0 : decode cX9_sumOfSpreads 0 = .ok (.iconst 0, 1) := by decide +kernel
theorem dX9_sumOfSpreads_1 : decode cX9_sumOfSpreads 1 = .ok (.istore_n 1, 1) := by decide +kernel
theorem dX9_sumOfSpreads_2 : decode cX9_sumOfSpreads 2 = .ok (.iconst 0, 1) := by decide +kernel
theorem dX9_sumOfSpreads_3 : decode cX9_sumOfSpreads 3 = .ok (.istore_n 2, 1) := by decide +kernel
theorem dX9_sumOfSpreads_4 : decode cX9_sumOfSpreads 4 = .ok (.iload_n 2, 1) := by decide +kernel
theorem dX9_sumOfSpreads_5 : decode cX9_sumOfSpreads 5 = .ok (.aload_n 0, 1) := by decide +kernel
theorem dX9_sumOfSpreads_6 : decode cX9_sumOfSpreads 6 = .ok (.getfield 121, 3) := by decide +kernel
theorem dX9_sumOfSpreads_9 : decode cX9_sumOfSpreads 9 = .ok (.if_icmp .ge 18, 3) := by decide +kernel
theorem dX9_sumOfSpreads_12 : decode cX9_sumOfSpreads 12 = .ok (.iload_n 1, 1) := by decide +kernel
theorem dX9_sumOfSpreads_13 : decode cX9_sumOfSpreads 13 = .ok (.aload_n 0, 1) := by decide +kernel
theorem dX9_sumOfSpreads_14 : decode cX9_sumOfSpreads 14 = .ok (.getfield 40, 3) := by decide +kernel
theorem dX9_sumOfSpreads_17 : decode cX9_sumOfSpreads 17 = .ok (.iload_n 2, 1) := by decide +kernel
theorem dX9_sumOfSpreads_18 : decode cX9_sumOfSpreads 18 = .ok (.iaload, 1) := by decide +kernel
theorem dX9_sumOfSpreads_19 : decode cX9_sumOfSpreads 19 = .ok (.iadd, 1) := by decide +kernel
theorem dX9_sumOfSpreads_20 : decode cX9_sumOfSpreads 20 = .ok (.istore_n 1, 1) := by decide +kernel
theorem dX9_sumOfSpreads_21 : decode cX9_sumOfSpreads 21 = .ok (.iinc 2 1, 3) := by decide +kernel
theorem dX9_sumOfSpreads_24 : decode cX9_sumOfSpreads 24 = .ok (.goto (-20), 3) := by decide +kernel
theorem dX9_sumOfSpreads_27 : decode cX9_sumOfSpreads 27 = .ok (.iload_n 1, 1) := by decide +kernel
theorem dX9_sumOfSpreads_28 : decode cX9_sumOfSpreads 28 = .ok (.ireturn, 1) := by decide +kernel
theorem dX9_isValue_0 : decode cX9_isValue 0 = .ok (.iload_n 0, 1) := by decide +kernel
theorem dX9_isValue_1 : decode cX9_isValue 1 = .ok (.ifCond .ne 14, 3) := by decide +kernel
theorem dX9_isValue_4 : decode cX9_isValue 4 = .ok (.iload_n 1, 1) := by decide +kernel
theorem dX9_isValue_5 : decode cX9_isValue 5 = .ok (.bipush (-30), 2) := by decide +kernel
theorem dX9_isValue_7 : decode cX9_isValue 7 = .ok (.bipush 50, 2) := by decide +kernel
theorem dX9_isValue_9 : decode cX9_isValue 9 = .ok (.invokestatic 70, 3) := by decide +kernel
theorem dX9_isValue_12 : decode cX9_isValue 12 = .ok (.goto 41, 3) := by decide +kernel
theorem dX9_isValue_15 : decode cX9_isValue 15 = .ok (.iload_n 0, 1) := by decide +kernel
theorem dX9_isValue_16 : decode cX9_isValue 16 = .ok (.iconst 1, 1) := by decide +kernel
theorem dX9_isValue_17 : decode cX9_isValue 17 = .ok (.if_icmp .ne 15, 3) := by decide +kernel
theorem dX9_isValue_20 : decode cX9_isValue 20 = .ok (.iload_n 1, 1) := by decide +kernel
theorem dX9_isValue_21 : decode cX9_isValue 21 = .ok (.bipush 100, 2) := by decide +kernel
theorem dX9_isValue_23 : decode cX9_isValue 23 = .ok (.sipush 4000, 3) := by decide +kernel
theorem dX9_isValue_26 : decode cX9_isValue 26 = .ok (.invokestatic 70, 3) := by decide +kernel
theorem dX9_isValue_29 : decode cX9_isValue 29 = .ok (.goto 24, 3) := by decide +kernel
theorem dX9_isValue_32 : decode cX9_isValue 32 = .ok (.iload_n 0, 1) := by decide +kernel
theorem dX9_isValue_33 : decode cX9_isValue 33 = .ok (.iconst 2, 1) := by decide +kernel
theorem dX9_isValue_34 : decode cX9_isValue 34 = .ok (.if_icmp .ne 18, 3) := by decide +kernel
theorem dX9_isValue_37 : decode cX9_isValue 37 = .ok (.iload_n 1, 1) := by decide +kernel
theorem dX9_isValue_38 : decode cX9_isValue 38 = .ok (.iconst 0, 1) := by decide +kernel
theorem dX9_isValue_39 : decode cX9_isValue 39 = .ok (.sipush 300, 3) := by decide +kernel
theorem dX9_isValue_42 : decode cX9_isValue 42 = .ok (.invokestatic 70, 3) := by decide +kernel
theorem dX9_isValue_45 : decode cX9_isValue 45 = .ok (.ifCond .eq 7, 3) := by decide +kernel
theorem dX9_isValue_48 : decode cX9_isValue 48 = .ok (.iconst 1, 1) := by decide +kernel
theorem dX9_isValue_49 : decode cX9_isValue 49 = .ok (.goto 4, 3) := by decide +kernel
theorem dX9_isValue_52 : decode cX9_isValue 52 = .ok (.iconst 0, 1) := by decide +kernel
theorem dX9_isValue_53 : decode cX9_isValue 53 = .ok (.ireturn, 1) := by decide +kernel
theorem dX9_set_0 : decode cX9_set 0 = .ok (.iload_n 1, 1) := by decide +kernel
theorem dX9_set_1 : decode cX9_set 1 = .ok (.iload_n 2, 1) := by decide +kernel
theorem dX9_set_2 : decode cX9_set 2 = .ok (.invokestatic 149, 3) := by decide +kernel
theorem dX9_set_5 : decode cX9_set 5 = .ok (.ifCond .ne 6, 3) := by decide +kernel
theorem dX9_set_8 : decode cX9_set 8 = .ok (.bipush (-2), 2) := by decide +kernel
theorem dX9_set_10 : decode cX9_set 10 = .ok (.ireturn, 1) := by decide +kernel
theorem dX9_set_11 : decode cX9_set 11 = .ok (.aload_n 0, 1) := by decide +kernel
theorem dX9_set_12 : decode cX9_set 12 = .ok (.invokevirtual 153, 3) := by decide +kernel
theorem dX9_set_15 : decode cX9_set 15 = .ok (.aload_n 0, 1) := by decide +kernel
theorem dX9_set_16 : decode cX9_set 16 = .ok (.getfield 7, 3) := by decide +kernel
theorem dX9_set_19 : decode cX9_set 19 = .ok (.iload_n 1, 1) := by decide +kernel
theorem dX9_set_20 : decode cX9_set 20 = .ok (.iaload, 1) := by decide +kernel
theorem dX9_set_21 : decode cX9_set 21 = .ok (.istore_n 3, 1) := by decide +kernel
theorem dX9_set_22 : decode cX9_set 22 = .ok (.aload_n 0, 1) := by decide +kernel
theorem dX9_set_23 : decode cX9_set 23 = .ok (.getfield 7, 3) := by decide +kernel
theorem dX9_set_26 : decode cX9_set 26 = .ok (.iload_n 1, 1) := by decide +kernel
theorem dX9_set_27 : decode cX9_set 27 = .ok (.iload_n 2, 1) := by decide +kernel
theorem dX9_set_28 : decode cX9_set 28 = .ok (.iastore, 1) := by decide +kernel
theorem dX9_set_29 : decode cX9_set 29 = .ok (.iload_n 3, 1) := by decide +kernel
theorem dX9_set_30 : decode cX9_set 30 = .ok (.bipush 100, 2) := by decide +kernel
theorem dX9_set_32 : decode cX9_set 32 = .ok (.iadd, 1) := by decide +kernel
theorem dX9_set_33 : decode cX9_set 33 = .ok (.ireturn, 1) := by decide +kernel
theorem dX9_whyNotHeard_0 : decode cX9_whyNotHeard 0 = .ok (.iload_n 1, 1) := by decide +kernel
theorem dX9_whyNotHeard_1 : decode cX9_whyNotHeard 1 = .ok (.invokestatic 156, 3) := by decide +kernel
theorem dX9_whyNotHeard_4 : decode cX9_whyNotHeard 4 = .ok (.ifCond .ne 5, 3) := by decide +kernel
theorem dX9_whyNotHeard_7 : decode cX9_whyNotHeard 7 = .ok (.iconst (-1), 1) := by decide +kernel
theorem dX9_whyNotHeard_8 : decode cX9_whyNotHeard 8 = .ok (.ireturn, 1) := by decide +kernel
theorem dX9_whyNotHeard_9 : decode cX9_whyNotHeard 9 = .ok (.iload_n 2, 1) := by decide +kernel
theorem dX9_whyNotHeard_10 : decode cX9_whyNotHeard 10 = .ok (.iconst 0, 1) := by decide +kernel
theorem dX9_whyNotHeard_11 : decode cX9_whyNotHeard 11 = .ok (.ldc 93, 2) := by decide +kernel
theorem dX9_whyNotHeard_13 : decode cX9_whyNotHeard 13 = .ok (.invokestatic 70, 3) := by decide +kernel
theorem dX9_whyNotHeard_16 : decode cX9_whyNotHeard 16 = .ok (.ifCond .ne 6, 3) := by decide +kernel
theorem dX9_whyNotHeard_19 : decode cX9_whyNotHeard 19 = .ok (.bipush (-2), 2) := by decide +kernel
theorem dX9_whyNotHeard_21 : decode cX9_whyNotHeard 21 = .ok (.ireturn, 1) := by decide +kernel
theorem dX9_whyNotHeard_22 : decode cX9_whyNotHeard 22 = .ok (.aload_n 0, 1) := by decide +kernel
theorem dX9_whyNotHeard_23 : decode cX9_whyNotHeard 23 = .ok (.iload_n 1, 1) := by decide +kernel
theorem dX9_whyNotHeard_24 : decode cX9_whyNotHeard 24 = .ok (.iload_n 2, 1) := by decide +kernel
theorem dX9_whyNotHeard_25 : decode cX9_whyNotHeard 25 = .ok (.invokevirtual 159, 3) := by decide +kernel
theorem dX9_whyNotHeard_28 : decode cX9_whyNotHeard 28 = .ok (.ifCond .eq 8, 3) := by decide +kernel
theorem dX9_whyNotHeard_31 : decode cX9_whyNotHeard 31 = .ok (.bipush (-5), 2) := by decide +kernel
theorem dX9_whyNotHeard_33 : decode cX9_whyNotHeard 33 = .ok (.goto 20, 3) := by decide +kernel
theorem dX9_whyNotHeard_36 : decode cX9_whyNotHeard 36 = .ok (.aload_n 0, 1) := by decide +kernel
theorem dX9_whyNotHeard_37 : decode cX9_whyNotHeard 37 = .ok (.getfield 7, 3) := by decide +kernel
theorem dX9_whyNotHeard_40 : decode cX9_whyNotHeard 40 = .ok (.iconst 3, 1) := by decide +kernel
theorem dX9_whyNotHeard_41 : decode cX9_whyNotHeard 41 = .ok (.iaload, 1) := by decide +kernel
theorem dX9_whyNotHeard_42 : decode cX9_whyNotHeard 42 = .ok (.bipush 32, 2) := by decide +kernel
theorem dX9_whyNotHeard_44 : decode cX9_whyNotHeard 44 = .ok (.if_icmp .ne 8, 3) := by decide +kernel
theorem dX9_whyNotHeard_47 : decode cX9_whyNotHeard 47 = .ok (.bipush (-4), 2) := by decide +kernel
theorem dX9_whyNotHeard_49 : decode cX9_whyNotHeard 49 = .ok (.goto 4, 3) := by decide +kernel
theorem dX9_whyNotHeard_52 : decode cX9_whyNotHeard 52 = .ok (.iconst 0, 1) := by decide +kernel
theorem dX9_whyNotHeard_53 : decode cX9_whyNotHeard 53 = .ok (.ireturn, 1) := by decide +kernel
theorem dX9_hear_0 : decode cX9_hear 0 = .ok (.aload_n 0, 1) := by decide +kernel
theorem dX9_hear_1 : decode cX9_hear 1 = .ok (.iload_n 1, 1) := by decide +kernel
theorem dX9_hear_2 : decode cX9_hear 2 = .ok (.iload_n 2, 1) := by decide +kernel
theorem dX9_hear_3 : decode cX9_hear 3 = .ok (.invokevirtual 162, 3) := by decide +kernel
theorem dX9_hear_6 : decode cX9_hear 6 = .ok (.istore_n 3, 1) := by decide +kernel
theorem dX9_hear_7 : decode cX9_hear 7 = .ok (.iload_n 3, 1) := by decide +kernel
theorem dX9_hear_8 : decode cX9_hear 8 = .ok (.ifCond .ge 5, 3) := by decide +kernel
theorem dX9_hear_11 : decode cX9_hear 11 = .ok (.iload_n 3, 1) := by decide +kernel
theorem dX9_hear_12 : decode cX9_hear 12 = .ok (.ireturn, 1) := by decide +kernel
theorem dX9_hear_13 : decode cX9_hear 13 = .ok (.aload_n 0, 1) := by decide +kernel
theorem dX9_hear_14 : decode cX9_hear 14 = .ok (.invokevirtual 153, 3) := by decide +kernel
theorem dX9_hear_17 : decode cX9_hear 17 = .ok (.aload_n 0, 1) := by decide +kernel
theorem dX9_hear_18 : decode cX9_hear 18 = .ok (.iload_n 1, 1) := by decide +kernel
theorem dX9_hear_19 : decode cX9_hear 19 = .ok (.iload_n 2, 1) := by decide +kernel
theorem dX9_hear_20 : decode cX9_hear 20 = .ok (.invokevirtual 166, 3) := by decide +kernel
theorem dX9_hear_23 : decode cX9_hear 23 = .ok (.ireturn, 1) := by decide +kernel
theorem dX9_fire_0 : decode cX9_fire 0 = .ok (.iload_n 1, 1) := by decide +kernel
theorem dX9_fire_1 : decode cX9_fire 1 = .ok (.iload_n 2, 1) := by decide +kernel
theorem dX9_fire_2 : decode cX9_fire 2 = .ok (.invokestatic 169, 3) := by decide +kernel
theorem dX9_fire_5 : decode cX9_fire 5 = .ok (.ifCond .ne 5, 3) := by decide +kernel
theorem dX9_fire_8 : decode cX9_fire 8 = .ok (.iconst (-1), 1) := by decide +kernel
theorem dX9_fire_9 : decode cX9_fire 9 = .ok (.ireturn, 1) := by decide +kernel
theorem dX9_fire_10 : decode cX9_fire 10 = .ok (.iload_n 3, 1) := by decide +kernel
theorem dX9_fire_11 : decode cX9_fire 11 = .ok (.iconst 0, 1) := by decide +kernel
theorem dX9_fire_12 : decode cX9_fire 12 = .ok (.ldc 172, 2) := by decide +kernel
theorem dX9_fire_14 : decode cX9_fire 14 = .ok (.invokestatic 70, 3) := by decide +kernel
theorem dX9_fire_17 : decode cX9_fire 17 = .ok (.ifCond .ne 6, 3) := by decide +kernel
theorem dX9_fire_20 : decode cX9_fire 20 = .ok (.bipush (-2), 2) := by decide +kernel
theorem dX9_fire_22 : decode cX9_fire 22 = .ok (.ireturn, 1) := by decide +kernel
theorem dX9_fire_23 : decode cX9_fire 23 = .ok (.aload_n 0, 1) := by decide +kernel
theorem dX9_fire_24 : decode cX9_fire 24 = .ok (.getfield 7, 3) := by decide +kernel
theorem dX9_fire_27 : decode cX9_fire 27 = .ok (.iconst 0, 1) := by decide +kernel
theorem dX9_fire_28 : decode cX9_fire 28 = .ok (.iaload, 1) := by decide +kernel
theorem dX9_fire_29 : decode cX9_fire 29 = .ok (.invokestatic 127, 3) := by decide +kernel
theorem dX9_fire_32 : decode cX9_fire 32 = .ok (.istore 4, 2) := by decide +kernel
theorem dX9_fire_34 : decode cX9_fire 34 = .ok (.iconst 0, 1) := by decide +kernel
theorem dX9_fire_35 : decode cX9_fire 35 = .ok (.istore 5, 2) := by decide +kernel
theorem dX9_fire_37 : decode cX9_fire 37 = .ok (.iconst 0, 1) := by decide +kernel
theorem dX9_fire_38 : decode cX9_fire 38 = .ok (.istore 6, 2) := by decide +kernel
theorem dX9_fire_40 : decode cX9_fire 40 = .ok (.iload 6, 2) := by decide +kernel
theorem dX9_fire_42 : decode cX9_fire 42 = .ok (.iconst 4, 1) := by decide +kernel
theorem dX9_fire_43 : decode cX9_fire 43 = .ok (.if_icmp .ge 42, 3) := by decide +kernel
theorem dX9_fire_46 : decode cX9_fire 46 = .ok (.iload 5, 2) := by decide +kernel
theorem dX9_fire_48 : decode cX9_fire 48 = .ok (.ifCond .ne 24, 3) := by decide +kernel
theorem dX9_fire_51 : decode cX9_fire 51 = .ok (.aload_n 0, 1) := by decide +kernel
theorem dX9_fire_52 : decode cX9_fire 52 = .ok (.iload 6, 2) := by decide +kernel
theorem dX9_fire_54 : decode cX9_fire 54 = .ok (.iload_n 3, 1) := by decide +kernel
theorem dX9_fire_55 : decode cX9_fire 55 = .ok (.aload_n 0, 1) := by decide +kernel
theorem dX9_fire_56 : decode cX9_fire 56 = .ok (.iload 4, 2) := by decide +kernel
theorem dX9_fire_58 : decode cX9_fire 58 = .ok (.iload_n 1, 1) := by decide +kernel
theorem dX9_fire_59 : decode cX9_fire 59 = .ok (.iload_n 2, 1) := by decide +kernel
theorem dX9_fire_60 : decode cX9_fire 60 = .ok (.iload 6, 2) := by decide +kernel
theorem dX9_fire_62 : decode cX9_fire 62 = .ok (.invokevirtual 84, 3) := by decide +kernel
theorem dX9_fire_65 : decode cX9_fire 65 = .ok (.iadd, 1) := by decide +kernel
theorem dX9_fire_66 : decode cX9_fire 66 = .ok (.invokevirtual 159, 3) := by decide +kernel
theorem dX9_fire_69 : decode cX9_fire 69 = .ok (.ifCond .eq 7, 3) := by decide +kernel
theorem dX9_fire_72 : decode cX9_fire 72 = .ok (.iconst 1, 1) := by decide +kernel
theorem dX9_fire_73 : decode cX9_fire 73 = .ok (.goto 4, 3) := by decide +kernel
theorem dX9_fire_76 : decode cX9_fire 76 = .ok (.iconst 0, 1) := by decide +kernel
theorem dX9_fire_77 : decode cX9_fire 77 = .ok (.istore 5, 2) := by decide +kernel
theorem dX9_fire_79 : decode cX9_fire 79 = .ok (.iinc 6 1, 3) := by decide +kernel
theorem dX9_fire_82 : decode cX9_fire 82 = .ok (.goto (-42), 3) := by decide +kernel
theorem dX9_fire_85 : decode cX9_fire 85 = .ok (.iload 5, 2) := by decide +kernel
theorem dX9_fire_87 : decode cX9_fire 87 = .ok (.ifCond .ne 16, 3) := by decide +kernel
theorem dX9_fire_90 : decode cX9_fire 90 = .ok (.aload_n 0, 1) := by decide +kernel
theorem dX9_fire_91 : decode cX9_fire 91 = .ok (.getfield 7, 3) := by decide +kernel
theorem dX9_fire_94 : decode cX9_fire 94 = .ok (.iconst 3, 1) := by decide +kernel
theorem dX9_fire_95 : decode cX9_fire 95 = .ok (.iaload, 1) := by decide +kernel
theorem dX9_fire_96 : decode cX9_fire 96 = .ok (.iconst 4, 1) := by decide +kernel
theorem dX9_fire_97 : decode cX9_fire 97 = .ok (.iadd, 1) := by decide +kernel
theorem dX9_fire_98 : decode cX9_fire 98 = .ok (.bipush 32, 2) := by decide +kernel
theorem dX9_fire_100 : decode cX9_fire 100 = .ok (.if_icmp .le 16, 3) := by decide +kernel
theorem dX9_fire_103 : decode cX9_fire 103 = .ok (.iload 5, 2) := by decide +kernel
theorem dX9_fire_105 : decode cX9_fire 105 = .ok (.ifCond .eq 8, 3) := by decide +kernel
theorem dX9_fire_108 : decode cX9_fire 108 = .ok (.bipush (-5), 2) := by decide +kernel
theorem dX9_fire_110 : decode cX9_fire 110 = .ok (.goto 5, 3) := by decide +kernel
theorem dX9_fire_113 : decode cX9_fire 113 = .ok (.bipush (-4), 2) := by decide +kernel
theorem dX9_fire_115 : decode cX9_fire 115 = .ok (.ireturn, 1) := by decide +kernel
theorem dX9_fire_116 : decode cX9_fire 116 = .ok (.aload_n 0, 1) := by decide +kernel
theorem dX9_fire_117 : decode cX9_fire 117 = .ok (.invokevirtual 153, 3) := by decide +kernel
theorem dX9_fire_120 : decode cX9_fire 120 = .ok (.iconst 0, 1) := by decide +kernel
theorem dX9_fire_121 : decode cX9_fire 121 = .ok (.istore 6, 2) := by decide +kernel
theorem dX9_fire_123 : decode cX9_fire 123 = .ok (.iload 6, 2) := by decide +kernel
theorem dX9_fire_125 : decode cX9_fire 125 = .ok (.iconst 4, 1) := by decide +kernel
theorem dX9_fire_126 : decode cX9_fire 126 = .ok (.if_icmp .ge 28, 3) := by decide +kernel
theorem dX9_fire_129 : decode cX9_fire 129 = .ok (.aload_n 0, 1) := by decide +kernel
theorem dX9_fire_130 : decode cX9_fire 130 = .ok (.iload 6, 2) := by decide +kernel
theorem dX9_fire_132 : decode cX9_fire 132 = .ok (.iload_n 3, 1) := by decide +kernel
theorem dX9_fire_133 : decode cX9_fire 133 = .ok (.aload_n 0, 1) := by decide +kernel
theorem dX9_fire_134 : decode cX9_fire 134 = .ok (.iload 4, 2) := by decide +kernel
theorem dX9_fire_136 : decode cX9_fire 136 = .ok (.iload_n 1, 1) := by decide +kernel
theorem dX9_fire_137 : decode cX9_fire 137 = .ok (.iload_n 2, 1) := by decide +kernel
theorem dX9_fire_138 : decode cX9_fire 138 = .ok (.iload 6, 2) := by decide +kernel
theorem dX9_fire_140 : decode cX9_fire 140 = .ok (.invokevirtual 84, 3) := by decide +kernel
theorem dX9_fire_143 : decode cX9_fire 143 = .ok (.iadd, 1) := by decide +kernel
theorem dX9_fire_144 : decode cX9_fire 144 = .ok (.invokevirtual 166, 3) := by decide +kernel
theorem dX9_fire_147 : decode cX9_fire 147 = .ok (.pop, 1) := by decide +kernel
theorem dX9_fire_148 : decode cX9_fire 148 = .ok (.iinc 6 1, 3) := by decide +kernel
theorem dX9_fire_151 : decode cX9_fire 151 = .ok (.goto (-28), 3) := by decide +kernel
theorem dX9_fire_154 : decode cX9_fire 154 = .ok (.aload_n 0, 1) := by decide +kernel
theorem dX9_fire_155 : decode cX9_fire 155 = .ok (.getfield 7, 3) := by decide +kernel
theorem dX9_fire_158 : decode cX9_fire 158 = .ok (.iconst 3, 1) := by decide +kernel
theorem dX9_fire_159 : decode cX9_fire 159 = .ok (.iaload, 1) := by decide +kernel
theorem dX9_fire_160 : decode cX9_fire 160 = .ok (.ireturn, 1) := by decide +kernel
theorem dX9_forget_0 : decode cX9_forget 0 = .ok (.aload_n 0, 1) := by decide +kernel
theorem dX9_forget_1 : decode cX9_forget 1 = .ok (.iload_n 1, 1) := by decide +kernel
theorem dX9_forget_2 : decode cX9_forget 2 = .ok (.invokevirtual 173, 3) := by decide +kernel
theorem dX9_forget_5 : decode cX9_forget 5 = .ok (.ifCond .ne 5, 3) := by decide +kernel
theorem dX9_forget_8 : decode cX9_forget 8 = .ok (.iconst (-1), 1) := by decide +kernel
theorem dX9_forget_9 : decode cX9_forget 9 = .ok (.ireturn, 1) := by decide +kernel
theorem dX9_forget_10 : decode cX9_forget 10 = .ok (.aload_n 0, 1) := by decide +kernel
theorem dX9_forget_11 : decode cX9_forget 11 = .ok (.invokevirtual 153, 3) := by decide +kernel
theorem dX9_forget_14 : decode cX9_forget 14 = .ok (.aload_n 0, 1) := by decide +kernel
theorem dX9_forget_15 : decode cX9_forget 15 = .ok (.iload_n 1, 1) := by decide +kernel
theorem dX9_forget_16 : decode cX9_forget 16 = .ok (.invokevirtual 90, 3) := by decide +kernel
theorem dX9_forget_19 : decode cX9_forget 19 = .ok (.istore_n 2, 1) := by decide +kernel
theorem dX9_forget_20 : decode cX9_forget 20 = .ok (.aload_n 0, 1) := by decide +kernel
theorem dX9_forget_21 : decode cX9_forget 21 = .ok (.iload_n 1, 1) := by decide +kernel
theorem dX9_forget_22 : decode cX9_forget 22 = .ok (.invokevirtual 176, 3) := by decide +kernel
theorem dX9_forget_25 : decode cX9_forget 25 = .ok (.iload_n 2, 1) := by decide +kernel
theorem dX9_forget_26 : decode cX9_forget 26 = .ok (.ireturn, 1) := by decide +kernel
theorem dX9_clear_0 : decode cX9_clear 0 = .ok (.aload_n 0, 1) := by decide +kernel
theorem dX9_clear_1 : decode cX9_clear 1 = .ok (.invokevirtual 153, 3) := by decide +kernel
theorem dX9_clear_4 : decode cX9_clear 4 = .ok (.aload_n 0, 1) := by decide +kernel
theorem dX9_clear_5 : decode cX9_clear 5 = .ok (.getfield 7, 3) := by decide +kernel
theorem dX9_clear_8 : decode cX9_clear 8 = .ok (.iconst 3, 1) := by decide +kernel
theorem dX9_clear_9 : decode cX9_clear 9 = .ok (.iaload, 1) := by decide +kernel
theorem dX9_clear_10 : decode cX9_clear 10 = .ok (.istore_n 1, 1) := by decide +kernel
theorem dX9_clear_11 : decode cX9_clear 11 = .ok (.aload_n 0, 1) := by decide +kernel
theorem dX9_clear_12 : decode cX9_clear 12 = .ok (.getfield 7, 3) := by decide +kernel
theorem dX9_clear_15 : decode cX9_clear 15 = .ok (.iconst 3, 1) := by decide +kernel
theorem dX9_clear_16 : decode cX9_clear 16 = .ok (.iconst 0, 1) := by decide +kernel
theorem dX9_clear_17 : decode cX9_clear 17 = .ok (.iastore, 1) := by decide +kernel
theorem dX9_clear_18 : decode cX9_clear 18 = .ok (.iload_n 1, 1) := by decide +kernel
theorem dX9_clear_19 : decode cX9_clear 19 = .ok (.ireturn, 1) := by decide +kernel
theorem dX9_takes_0 : decode cX9_takes 0 = .ok (.iload_n 1, 1) := by decide +kernel
theorem dX9_takes_1 : decode cX9_takes 1 = .ok (.iload_n 2, 1) := by decide +kernel
theorem dX9_takes_2 : decode cX9_takes 2 = .ok (.invokestatic 169, 3) := by decide +kernel
theorem dX9_takes_5 : decode cX9_takes 5 = .ok (.ifCond .eq 29, 3) := by decide +kernel
theorem dX9_takes_8 : decode cX9_takes 8 = .ok (.iload_n 3, 1) := by decide +kernel
theorem dX9_takes_9 : decode cX9_takes 9 = .ok (.invokestatic 156, 3) := by decide +kernel
theorem dX9_takes_12 : decode cX9_takes 12 = .ok (.ifCond .eq 22, 3) := by decide +kernel
theorem dX9_takes_15 : decode cX9_takes 15 = .ok (.aload_n 0, 1) := by decide +kernel
theorem dX9_takes_16 : decode cX9_takes 16 = .ok (.aload_n 0, 1) := by decide +kernel
theorem dX9_takes_17 : decode cX9_takes 17 = .ok (.getfield 7, 3) := by decide +kernel
theorem dX9_takes_20 : decode cX9_takes 20 = .ok (.iconst 0, 1) := by decide +kernel
theorem dX9_takes_21 : decode cX9_takes 21 = .ok (.iaload, 1) := by decide +kernel
theorem dX9_takes_22 : decode cX9_takes 22 = .ok (.invokestatic 127, 3) := by decide +kernel
theorem dX9_takes_25 : decode cX9_takes 25 = .ok (.iload_n 1, 1) := by decide +kernel
theorem dX9_takes_26 : decode cX9_takes 26 = .ok (.iload_n 2, 1) := by decide +kernel
theorem dX9_takes_27 : decode cX9_takes 27 = .ok (.iload_n 3, 1) := by decide +kernel
theorem dX9_takes_28 : decode cX9_takes 28 = .ok (.invokevirtual 84, 3) := by decide +kernel
theorem dX9_takes_31 : decode cX9_takes 31 = .ok (.goto 4, 3) := by decide +kernel
theorem dX9_takes_34 : decode cX9_takes 34 = .ok (.iconst (-1), 1) := by decide +kernel
theorem dX9_takes_35 : decode cX9_takes 35 = .ok (.ireturn, 1) := by decide +kernel
theorem dX9_pulse_0 : decode cX9_pulse 0 = .ok (.aload_n 0, 1) := by decide +kernel
theorem dX9_pulse_1 : decode cX9_pulse 1 = .ok (.iload_n 1, 1) := by decide +kernel
theorem dX9_pulse_2 : decode cX9_pulse 2 = .ok (.invokevirtual 173, 3) := by decide +kernel
theorem dX9_pulse_5 : decode cX9_pulse 5 = .ok (.ifCond .ne 5, 3) := by decide +kernel
theorem dX9_pulse_8 : decode cX9_pulse 8 = .ok (.iconst (-1), 1) := by decide +kernel
theorem dX9_pulse_9 : decode cX9_pulse 9 = .ok (.ireturn, 1) := by decide +kernel
theorem dX9_pulse_10 : decode cX9_pulse 10 = .ok (.iload_n 2, 1) := by decide +kernel
theorem dX9_pulse_11 : decode cX9_pulse 11 = .ok (.tableswitch 48 0 2 #[25, 31, 37], 25) := by decide +kernel
theorem dX9_pulse_36 : decode cX9_pulse 36 = .ok (.aload_n 0, 1) := by decide +kernel
theorem dX9_pulse_37 : decode cX9_pulse 37 = .ok (.iload_n 1, 1) := by decide +kernel
theorem dX9_pulse_38 : decode cX9_pulse 38 = .ok (.invokevirtual 87, 3) := by decide +kernel
theorem dX9_pulse_41 : decode cX9_pulse 41 = .ok (.ireturn, 1) := by decide +kernel
theorem dX9_pulse_42 : decode cX9_pulse 42 = .ok (.aload_n 0, 1) := by decide +kernel
theorem dX9_pulse_43 : decode cX9_pulse 43 = .ok (.iload_n 1, 1) := by decide +kernel
theorem dX9_pulse_44 : decode cX9_pulse 44 = .ok (.invokevirtual 90, 3) := by decide +kernel
theorem dX9_pulse_47 : decode cX9_pulse 47 = .ok (.ireturn, 1) := by decide +kernel
theorem dX9_pulse_48 : decode cX9_pulse 48 = .ok (.aload_n 0, 1) := by decide +kernel
theorem dX9_pulse_49 : decode cX9_pulse 49 = .ok (.invokevirtual 179, 3) := by decide +kernel
theorem dX9_pulse_52 : decode cX9_pulse 52 = .ok (.aload_n 0, 1) := by decide +kernel
theorem dX9_pulse_53 : decode cX9_pulse 53 = .ok (.getfield 34, 3) := by decide +kernel
theorem dX9_pulse_56 : decode cX9_pulse 56 = .ok (.iload_n 1, 1) := by decide +kernel
theorem dX9_pulse_57 : decode cX9_pulse 57 = .ok (.iaload, 1) := by decide +kernel
theorem dX9_pulse_58 : decode cX9_pulse 58 = .ok (.ireturn, 1) := by decide +kernel
theorem dX9_pulse_59 : decode cX9_pulse 59 = .ok (.bipush (-2), 2) := by decide +kernel
theorem dX9_pulse_61 : decode cX9_pulse 61 = .ok (.ireturn, 1) := by decide +kernel
theorem dX9_isShot_0 : decode cX9_isShot 0 = .ok (.aload_n 0, 1) := by decide +kernel
theorem dX9_isShot_1 : decode cX9_isShot 1 = .ok (.invokevirtual 179, 3) := by decide +kernel
theorem dX9_isShot_4 : decode cX9_isShot 4 = .ok (.iload_n 1, 1) := by decide +kernel
theorem dX9_isShot_5 : decode cX9_isShot 5 = .ok (.iconst 0, 1) := by decide +kernel
theorem dX9_isShot_6 : decode cX9_isShot 6 = .ok (.aload_n 0, 1) := by decide +kernel
theorem dX9_isShot_7 : decode cX9_isShot 7 = .ok (.getfield 121, 3) := by decide +kernel
theorem dX9_isShot_10 : decode cX9_isShot 10 = .ok (.iconst 1, 1) := by decide +kernel
theorem dX9_isShot_11 : decode cX9_isShot 11 = .ok (.isub, 1) := by decide +kernel
theorem dX9_isShot_12 : decode cX9_isShot 12 = .ok (.invokestatic 70, 3) := by decide +kernel
theorem dX9_isShot_15 : decode cX9_isShot 15 = .ok (.ireturn, 1) := by decide +kernel
theorem dX9_shot_0 : decode cX9_shot 0 = .ok (.aload_n 0, 1) := by decide +kernel
theorem dX9_shot_1 : decode cX9_shot 1 = .ok (.iload_n 1, 1) := by decide +kernel
theorem dX9_shot_2 : decode cX9_shot 2 = .ok (.invokevirtual 182, 3) := by decide +kernel
theorem dX9_shot_5 : decode cX9_shot 5 = .ok (.ifCond .ne 5, 3) := by decide +kernel
theorem dX9_shot_8 : decode cX9_shot 8 = .ok (.iconst (-1), 1) := by decide +kernel
theorem dX9_shot_9 : decode cX9_shot 9 = .ok (.ireturn, 1) := by decide +kernel
theorem dX9_shot_10 : decode cX9_shot 10 = .ok (.iload_n 2, 1) := by decide +kernel
theorem dX9_shot_11 : decode cX9_shot 11 = .ok (.tableswitch 106 0 8 #[49, 59, 69, 76, 87, 93, 93, 93, 93], 49) := by decide +kernel
theorem dX9_shot_60 : decode cX9_shot 60 = .ok (.aload_n 0, 1) := by decide +kernel
theorem dX9_shot_61 : decode cX9_shot 61 = .ok (.getfield 37, 3) := by decide +kernel
theorem dX9_shot_64 : decode cX9_shot 64 = .ok (.iload_n 1, 1) := by decide +kernel
theorem dX9_shot_65 : decode cX9_shot 65 = .ok (.iaload, 1) := by decide +kernel
theorem dX9_shot_66 : decode cX9_shot 66 = .ok (.bipush 41, 2) := by decide +kernel
theorem dX9_shot_68 : decode cX9_shot 68 = .ok (.irem, 1) := by decide +kernel
theorem dX9_shot_69 : decode cX9_shot 69 = .ok (.ireturn, 1) := by decide +kernel
theorem dX9_shot_70 : decode cX9_shot 70 = .ok (.aload_n 0, 1) := by decide +kernel
theorem dX9_shot_71 : decode cX9_shot 71 = .ok (.getfield 37, 3) := by decide +kernel
theorem dX9_shot_74 : decode cX9_shot 74 = .ok (.iload_n 1, 1) := by decide +kernel
theorem dX9_shot_75 : decode cX9_shot 75 = .ok (.iaload, 1) := by decide +kernel
theorem dX9_shot_76 : decode cX9_shot 76 = .ok (.bipush 41, 2) := by decide +kernel
theorem dX9_shot_78 : decode cX9_shot 78 = .ok (.idiv, 1) := by decide +kernel
theorem dX9_shot_79 : decode cX9_shot 79 = .ok (.ireturn, 1) := by decide +kernel
theorem dX9_shot_80 : decode cX9_shot 80 = .ok (.aload_n 0, 1) := by decide +kernel
theorem dX9_shot_81 : decode cX9_shot 81 = .ok (.getfield 40, 3) := by decide +kernel
theorem dX9_shot_84 : decode cX9_shot 84 = .ok (.iload_n 1, 1) := by decide +kernel
theorem dX9_shot_85 : decode cX9_shot 85 = .ok (.iaload, 1) := by decide +kernel
theorem dX9_shot_86 : decode cX9_shot 86 = .ok (.ireturn, 1) := by decide +kernel
theorem dX9_shot_87 : decode cX9_shot 87 = .ok (.aload_n 0, 1) := by decide +kernel
theorem dX9_shot_88 : decode cX9_shot 88 = .ok (.getfield 43, 3) := by decide +kernel
theorem dX9_shot_91 : decode cX9_shot 91 = .ok (.iload_n 1, 1) := by decide +kernel
theorem dX9_shot_92 : decode cX9_shot 92 = .ok (.iaload, 1) := by decide +kernel
theorem dX9_shot_93 : decode cX9_shot 93 = .ok (.sipush 10000, 3) := by decide +kernel
theorem dX9_shot_96 : decode cX9_shot 96 = .ok (.iadd, 1) := by decide +kernel
theorem dX9_shot_97 : decode cX9_shot 97 = .ok (.ireturn, 1) := by decide +kernel
theorem dX9_shot_98 : decode cX9_shot 98 = .ok (.aload_n 0, 1) := by decide +kernel
theorem dX9_shot_99 : decode cX9_shot 99 = .ok (.iload_n 1, 1) := by decide +kernel
theorem dX9_shot_100 : decode cX9_shot 100 = .ok (.invokevirtual 146, 3) := by decide +kernel
theorem dX9_shot_103 : decode cX9_shot 103 = .ok (.ireturn, 1) := by decide +kernel
theorem dX9_shot_104 : decode cX9_shot 104 = .ok (.aload_n 0, 1) := by decide +kernel
theorem dX9_shot_105 : decode cX9_shot 105 = .ok (.getfield 46, 3) := by decide +kernel
theorem dX9_shot_108 : decode cX9_shot 108 = .ok (.iconst 4, 1) := by decide +kernel
theorem dX9_shot_109 : decode cX9_shot 109 = .ok (.iload_n 1, 1) := by decide +kernel
theorem dX9_shot_110 : decode cX9_shot 110 = .ok (.imul, 1) := by decide +kernel
theorem dX9_shot_111 : decode cX9_shot 111 = .ok (.iload_n 2, 1) := by decide +kernel
theorem dX9_shot_112 : decode cX9_shot 112 = .ok (.iadd, 1) := by decide +kernel
theorem dX9_shot_113 : decode cX9_shot 113 = .ok (.iconst 5, 1) := by decide +kernel
theorem dX9_shot_114 : decode cX9_shot 114 = .ok (.isub, 1) := by decide +kernel
theorem dX9_shot_115 : decode cX9_shot 115 = .ok (.iaload, 1) := by decide +kernel
theorem dX9_shot_116 : decode cX9_shot 116 = .ok (.ireturn, 1) := by decide +kernel
theorem dX9_shot_117 : decode cX9_shot 117 = .ok (.bipush (-2), 2) := by decide +kernel
theorem dX9_shot_119 : decode cX9_shot 119 = .ok (.ireturn, 1) := by decide +kernel
theorem dX9_bestShot_0 : decode cX9_bestShot 0 = .ok (.bipush (-6), 2) := by decide +kernel
theorem dX9_bestShot_2 : decode cX9_bestShot 2 = .ok (.istore_n 1, 1) := by decide +kernel
theorem dX9_bestShot_3 : decode cX9_bestShot 3 = .ok (.aload_n 0, 1) := by decide +kernel
theorem dX9_bestShot_4 : decode cX9_bestShot 4 = .ok (.getfield 121, 3) := by decide +kernel
theorem dX9_bestShot_7 : decode cX9_bestShot 7 = .ok (.iconst 1, 1) := by decide +kernel
theorem dX9_bestShot_8 : decode cX9_bestShot 8 = .ok (.isub, 1) := by decide +kernel
theorem dX9_bestShot_9 : decode cX9_bestShot 9 = .ok (.istore_n 2, 1) := by decide +kernel
theorem dX9_bestShot_10 : decode cX9_bestShot 10 = .ok (.iload_n 2, 1) := by decide +kernel
theorem dX9_bestShot_11 : decode cX9_bestShot 11 = .ok (.ifCond .lt 34, 3) := by decide +kernel
theorem dX9_bestShot_14 : decode cX9_bestShot 14 = .ok (.iload_n 1, 1) := by decide +kernel
theorem dX9_bestShot_15 : decode cX9_bestShot 15 = .ok (.bipush (-6), 2) := by decide +kernel
theorem dX9_bestShot_17 : decode cX9_bestShot 17 = .ok (.if_icmp .eq 16, 3) := by decide +kernel
theorem dX9_bestShot_20 : decode cX9_bestShot 20 = .ok (.aload_n 0, 1) := by decide +kernel
theorem dX9_bestShot_21 : decode cX9_bestShot 21 = .ok (.iload_n 2, 1) := by decide +kernel
theorem dX9_bestShot_22 : decode cX9_bestShot 22 = .ok (.invokevirtual 146, 3) := by decide +kernel
theorem dX9_bestShot_25 : decode cX9_bestShot 25 = .ok (.aload_n 0, 1) := by decide +kernel
theorem dX9_bestShot_26 : decode cX9_bestShot 26 = .ok (.iload_n 1, 1) := by decide +kernel
theorem dX9_bestShot_27 : decode cX9_bestShot 27 = .ok (.invokevirtual 146, 3) := by decide +kernel
theorem dX9_bestShot_30 : decode cX9_bestShot 30 = .ok (.if_icmp .lt 7, 3) := by decide +kernel
theorem dX9_bestShot_33 : decode cX9_bestShot 33 = .ok (.iload_n 2, 1) := by decide +kernel
theorem dX9_bestShot_34 : decode cX9_bestShot 34 = .ok (.goto 4, 3) := by decide +kernel
theorem dX9_bestShot_37 : decode cX9_bestShot 37 = .ok (.iload_n 1, 1) := by decide +kernel
theorem dX9_bestShot_38 : decode cX9_bestShot 38 = .ok (.istore_n 1, 1) := by decide +kernel
theorem dX9_bestShot_39 : decode cX9_bestShot 39 = .ok (.iinc 2 (-1), 3) := by decide +kernel
theorem dX9_bestShot_42 : decode cX9_bestShot 42 = .ok (.goto (-32), 3) := by decide +kernel
theorem dX9_bestShot_45 : decode cX9_bestShot 45 = .ok (.iload_n 1, 1) := by decide +kernel
theorem dX9_bestShot_46 : decode cX9_bestShot 46 = .ok (.ireturn, 1) := by decide +kernel
theorem dX9_widest_0 : decode cX9_widest 0 = .ok (.iconst 0, 1) := by decide +kernel
theorem dX9_widest_1 : decode cX9_widest 1 = .ok (.istore_n 1, 1) := by decide +kernel
theorem dX9_widest_2 : decode cX9_widest 2 = .ok (.iconst 0, 1) := by decide +kernel
theorem dX9_widest_3 : decode cX9_widest 3 = .ok (.istore_n 2, 1) := by decide +kernel
theorem dX9_widest_4 : decode cX9_widest 4 = .ok (.iload_n 2, 1) := by decide +kernel
theorem dX9_widest_5 : decode cX9_widest 5 = .ok (.aload_n 0, 1) := by decide +kernel
theorem dX9_widest_6 : decode cX9_widest 6 = .ok (.getfield 121, 3) := by decide +kernel
theorem dX9_widest_9 : decode cX9_widest 9 = .ok (.if_icmp .ge 77, 3) := by decide +kernel
theorem dX9_widest_12 : decode cX9_widest 12 = .ok (.iconst 0, 1) := by decide +kernel
theorem dX9_widest_13 : decode cX9_widest 13 = .ok (.istore_n 3, 1) := by decide +kernel
theorem dX9_widest_14 : decode cX9_widest 14 = .ok (.iload_n 3, 1) := by decide +kernel
theorem dX9_widest_15 : decode cX9_widest 15 = .ok (.iload_n 2, 1) := by decide +kernel
theorem dX9_widest_16 : decode cX9_widest 16 = .ok (.if_icmp .ge 64, 3) := by decide +kernel
theorem dX9_widest_19 : decode cX9_widest 19 = .ok (.aload_n 0, 1) := by decide +kernel
theorem dX9_widest_20 : decode cX9_widest 20 = .ok (.aload_n 0, 1) := by decide +kernel
theorem dX9_widest_21 : decode cX9_widest 21 = .ok (.getfield 37, 3) := by decide +kernel
theorem dX9_widest_24 : decode cX9_widest 24 = .ok (.iload_n 2, 1) := by decide +kernel
theorem dX9_widest_25 : decode cX9_widest 25 = .ok (.iaload, 1) := by decide +kernel
theorem dX9_widest_26 : decode cX9_widest 26 = .ok (.bipush 41, 2) := by decide +kernel
theorem dX9_widest_28 : decode cX9_widest 28 = .ok (.irem, 1) := by decide +kernel
theorem dX9_widest_29 : decode cX9_widest 29 = .ok (.aload_n 0, 1) := by decide +kernel
theorem dX9_widest_30 : decode cX9_widest 30 = .ok (.getfield 37, 3) := by decide +kernel
theorem dX9_widest_33 : decode cX9_widest 33 = .ok (.iload_n 2, 1) := by decide +kernel
theorem dX9_widest_34 : decode cX9_widest 34 = .ok (.iaload, 1) := by decide +kernel
theorem dX9_widest_35 : decode cX9_widest 35 = .ok (.bipush 41, 2) := by decide +kernel
theorem dX9_widest_37 : decode cX9_widest 37 = .ok (.idiv, 1) := by decide +kernel
theorem dX9_widest_38 : decode cX9_widest 38 = .ok (.aload_n 0, 1) := by decide +kernel
theorem dX9_widest_39 : decode cX9_widest 39 = .ok (.getfield 37, 3) := by decide +kernel
theorem dX9_widest_42 : decode cX9_widest 42 = .ok (.iload_n 3, 1) := by decide +kernel
theorem dX9_widest_43 : decode cX9_widest 43 = .ok (.iaload, 1) := by decide +kernel
theorem dX9_widest_44 : decode cX9_widest 44 = .ok (.bipush 41, 2) := by decide +kernel
theorem dX9_widest_46 : decode cX9_widest 46 = .ok (.irem, 1) := by decide +kernel
theorem dX9_widest_47 : decode cX9_widest 47 = .ok (.aload_n 0, 1) := by decide +kernel
theorem dX9_widest_48 : decode cX9_widest 48 = .ok (.getfield 37, 3) := by decide +kernel
theorem dX9_widest_51 : decode cX9_widest 51 = .ok (.iload_n 3, 1) := by decide +kernel
theorem dX9_widest_52 : decode cX9_widest 52 = .ok (.iaload, 1) := by decide +kernel
theorem dX9_widest_53 : decode cX9_widest 53 = .ok (.bipush 41, 2) := by decide +kernel
theorem dX9_widest_55 : decode cX9_widest 55 = .ok (.idiv, 1) := by decide +kernel
theorem dX9_widest_56 : decode cX9_widest 56 = .ok (.invokevirtual 77, 3) := by decide +kernel
theorem dX9_widest_59 : decode cX9_widest 59 = .ok (.istore 4, 2) := by decide +kernel
theorem dX9_widest_61 : decode cX9_widest 61 = .ok (.iload 4, 2) := by decide +kernel
theorem dX9_widest_63 : decode cX9_widest 63 = .ok (.iload_n 1, 1) := by decide +kernel
theorem dX9_widest_64 : decode cX9_widest 64 = .ok (.if_icmp .le 8, 3) := by decide +kernel
theorem dX9_widest_67 : decode cX9_widest 67 = .ok (.iload 4, 2) := by decide +kernel
theorem dX9_widest_69 : decode cX9_widest 69 = .ok (.goto 4, 3) := by decide +kernel
theorem dX9_widest_72 : decode cX9_widest 72 = .ok (.iload_n 1, 1) := by decide +kernel
theorem dX9_widest_73 : decode cX9_widest 73 = .ok (.istore_n 1, 1) := by decide +kernel
theorem dX9_widest_74 : decode cX9_widest 74 = .ok (.iinc 3 1, 3) := by decide +kernel
theorem dX9_widest_77 : decode cX9_widest 77 = .ok (.goto (-63), 3) := by decide +kernel
theorem dX9_widest_80 : decode cX9_widest 80 = .ok (.iinc 2 1, 3) := by decide +kernel
theorem dX9_widest_83 : decode cX9_widest 83 = .ok (.goto (-79), 3) := by decide +kernel
theorem dX9_widest_86 : decode cX9_widest 86 = .ok (.iload_n 1, 1) := by decide +kernel
theorem dX9_widest_87 : decode cX9_widest 87 = .ok (.ireturn, 1) := by decide +kernel
theorem dX9_count_0 : decode cX9_count 0 = .ok (.iload_n 1, 1) := by decide +kernel
theorem dX9_count_1 : decode cX9_count 1 = .ok (.iconst 0, 1) := by decide +kernel
theorem dX9_count_2 : decode cX9_count 2 = .ok (.bipush 12, 2) := by decide +kernel
theorem dX9_count_4 : decode cX9_count 4 = .ok (.invokestatic 70, 3) := by decide +kernel
theorem dX9_count_7 : decode cX9_count 7 = .ok (.ifCond .ne 6, 3) := by decide +kernel
theorem dX9_count_10 : decode cX9_count 10 = .ok (.bipush (-2), 2) := by decide +kernel
theorem dX9_count_12 : decode cX9_count 12 = .ok (.ireturn, 1) := by decide +kernel
theorem dX9_count_13 : decode cX9_count 13 = .ok (.aload_n 0, 1) := by decide +kernel
