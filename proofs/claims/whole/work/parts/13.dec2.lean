theorem dX7_draft_10 : decode cX7_draft 10 = .ok (.getfield 11, 3) := by decide +kernel
theorem dX7_draft_13 : decode cX7_draft 13 = .ok (.aload_n 0, 1) := by decide +kernel
theorem dX7_draft_14 : decode cX7_draft 14 = .ok (.getfield 22, 3) := by decide +kernel
theorem dX7_draft_17 : decode cX7_draft 17 = .ok (.aaload, 1) := by decide +kernel
theorem dX7_draft_18 : decode cX7_draft 18 = .ok (.aload_n 1, 1) := by decide +kernel
theorem dX7_draft_19 : decode cX7_draft 19 = .ok (.aload_n 2, 1) := by decide +kernel
theorem dX7_draft_20 : decode cX7_draft 20 = .ok (.aload_n 3, 1) := by decide +kernel
theorem dX7_draft_21 : decode cX7_draft 21 = .ok (.invokevirtual 26, 3) := by decide +kernel
theorem dX7_draft_24 : decode cX7_draft 24 = .ok (.return_, 1) := by decide +kernel
theorem dX7_accept_0 : decode cX7_accept 0 = .ok (.aload_n 0, 1) := by decide +kernel
theorem dX7_accept_1 : decode cX7_accept 1 = .ok (.getfield 22, 3) := by decide +kernel
theorem dX7_accept_4 : decode cX7_accept 4 = .ok (.bipush 8, 2) := by decide +kernel
theorem dX7_accept_6 : decode cX7_accept 6 = .ok (.if_icmp .ge 49, 3) := by decide +kernel
theorem dX7_accept_9 : decode cX7_accept 9 = .ok (.iconst 0, 1) := by decide +kernel
theorem dX7_accept_10 : decode cX7_accept 10 = .ok (.istore_n 1, 1) := by decide +kernel
theorem dX7_accept_11 : decode cX7_accept 11 = .ok (.iload_n 1, 1) := by decide +kernel
theorem dX7_accept_12 : decode cX7_accept 12 = .ok (.iconst 4, 1) := by decide +kernel
theorem dX7_accept_13 : decode cX7_accept 13 = .ok (.if_icmp .ge 32, 3) := by decide +kernel
theorem dX7_accept_16 : decode cX7_accept 16 = .ok (.aload_n 0, 1) := by decide +kernel
theorem dX7_accept_17 : decode cX7_accept 17 = .ok (.getfield 17, 3) := by decide +kernel
theorem dX7_accept_20 : decode cX7_accept 20 = .ok (.aload_n 0, 1) := by decide +kernel
theorem dX7_accept_21 : decode cX7_accept 21 = .ok (.getfield 11, 3) := by decide +kernel
theorem dX7_accept_24 : decode cX7_accept 24 = .ok (.aload_n 0, 1) := by decide +kernel
theorem dX7_accept_25 : decode cX7_accept 25 = .ok (.getfield 22, 3) := by decide +kernel
theorem dX7_accept_28 : decode cX7_accept 28 = .ok (.aaload, 1) := by decide +kernel
theorem dX7_accept_29 : decode cX7_accept 29 = .ok (.getfield 30, 3) := by decide +kernel
theorem dX7_accept_32 : decode cX7_accept 32 = .ok (.iload_n 1, 1) := by decide +kernel
theorem dX7_accept_33 : decode cX7_accept 33 = .ok (.iaload, 1) := by decide +kernel
theorem dX7_accept_34 : decode cX7_accept 34 = .ok (.aload_n 0, 1) := by decide +kernel
theorem dX7_accept_35 : decode cX7_accept 35 = .ok (.getfield 22, 3) := by decide +kernel
theorem dX7_accept_38 : decode cX7_accept 38 = .ok (.iastore, 1) := by decide +kernel
theorem dX7_accept_39 : decode cX7_accept 39 = .ok (.iinc 1 1, 3) := by decide +kernel
theorem dX7_accept_42 : decode cX7_accept 42 = .ok (.goto (-31), 3) := by decide +kernel
theorem dX7_accept_45 : decode cX7_accept 45 = .ok (.aload_n 0, 1) := by decide +kernel
theorem dX7_accept_46 : decode cX7_accept 46 = .ok (.dup, 1) := by decide +kernel
theorem dX7_accept_47 : decode cX7_accept 47 = .ok (.getfield 22, 3) := by decide +kernel
theorem dX7_accept_50 : decode cX7_accept 50 = .ok (.iconst 1, 1) := by decide +kernel
theorem dX7_accept_51 : decode cX7_accept 51 = .ok (.iadd, 1) := by decide +kernel
theorem dX7_accept_52 : decode cX7_accept 52 = .ok (.putfield 22, 3) := by decide +kernel
theorem dX7_accept_55 : decode cX7_accept 55 = .ok (.return_, 1) := by decide +kernel
theorem dX7_sumOfRings_0 : decode cX7_sumOfRings 0 = .ok (.iconst 0, 1) := by decide +kernel
theorem dX7_sumOfRings_1 : decode cX7_sumOfRings 1 = .ok (.istore_n 1, 1) := by decide +kernel
theorem dX7_sumOfRings_2 : decode cX7_sumOfRings 2 = .ok (.iconst 0, 1) := by decide +kernel
theorem dX7_sumOfRings_3 : decode cX7_sumOfRings 3 = .ok (.istore_n 2, 1) := by decide +kernel
theorem dX7_sumOfRings_4 : decode cX7_sumOfRings 4 = .ok (.iload_n 2, 1) := by decide +kernel
theorem dX7_sumOfRings_5 : decode cX7_sumOfRings 5 = .ok (.aload_n 0, 1) := by decide +kernel
theorem dX7_sumOfRings_6 : decode cX7_sumOfRings 6 = .ok (.getfield 22, 3) := by decide +kernel
theorem dX7_sumOfRings_9 : decode cX7_sumOfRings 9 = .ok (.if_icmp .ge 21, 3) := by decide +kernel
theorem dX7_sumOfRings_12 : decode cX7_sumOfRings 12 = .ok (.iload_n 1, 1) := by decide +kernel
theorem dX7_sumOfRings_13 : decode cX7_sumOfRings 13 = .ok (.aload_n 0, 1) := by decide +kernel
theorem dX7_sumOfRings_14 : decode cX7_sumOfRings 14 = .ok (.getfield 11, 3) := by decide +kernel
theorem dX7_sumOfRings_17 : decode cX7_sumOfRings 17 = .ok (.iload_n 2, 1) := by decide +kernel
theorem dX7_sumOfRings_18 : decode cX7_sumOfRings 18 = .ok (.aaload, 1) := by decide +kernel
theorem dX7_sumOfRings_19 : decode cX7_sumOfRings 19 = .ok (.getfield 33, 3) := by decide +kernel
theorem dX7_sumOfRings_22 : decode cX7_sumOfRings 22 = .ok (.iadd, 1) := by decide +kernel
theorem dX7_sumOfRings_23 : decode cX7_sumOfRings 23 = .ok (.istore_n 1, 1) := by decide +kernel
theorem dX7_sumOfRings_24 : decode cX7_sumOfRings 24 = .ok (.iinc 2 1, 3) := by decide +kernel
theorem dX7_sumOfRings_27 : decode cX7_sumOfRings 27 = .ok (.goto (-23), 3) := by decide +kernel
theorem dX7_sumOfRings_30 : decode cX7_sumOfRings 30 = .ok (.iload_n 1, 1) := by decide +kernel
theorem dX7_sumOfRings_31 : decode cX7_sumOfRings 31 = .ok (.ireturn, 1) := by decide +kernel
theorem dX7_sumOfSpreads_0 : decode cX7_sumOfSpreads 0 = .ok (.iconst 0, 1) := by decide +kernel
theorem dX7_sumOfSpreads_1 : decode cX7_sumOfSpreads 1 = .ok (.istore_n 1, 1) := by decide +kernel
theorem dX7_sumOfSpreads_2 : decode cX7_sumOfSpreads 2 = .ok (.iconst 0, 1) := by decide +kernel
theorem dX7_sumOfSpreads_3 : decode cX7_sumOfSpreads 3 = .ok (.istore_n 2, 1) := by decide +kernel
theorem dX7_sumOfSpreads_4 : decode cX7_sumOfSpreads 4 = .ok (.iload_n 2, 1) := by decide +kernel
theorem dX7_sumOfSpreads_5 : decode cX7_sumOfSpreads 5 = .ok (.aload_n 0, 1) := by decide +kernel
theorem dX7_sumOfSpreads_6 : decode cX7_sumOfSpreads 6 = .ok (.getfield 22, 3) := by decide +kernel
theorem dX7_sumOfSpreads_9 : decode cX7_sumOfSpreads 9 = .ok (.if_icmp .ge 21, 3) := by decide +kernel
theorem dX7_sumOfSpreads_12 : decode cX7_sumOfSpreads 12 = .ok (.iload_n 1, 1) := by decide +kernel
theorem dX7_sumOfSpreads_13 : decode cX7_sumOfSpreads 13 = .ok (.aload_n 0, 1) := by decide +kernel
theorem dX7_sumOfSpreads_14 : decode cX7_sumOfSpreads 14 = .ok (.getfield 11, 3) := by decide +kernel
theorem dX7_sumOfSpreads_17 : decode cX7_sumOfSpreads 17 = .ok (.iload_n 2, 1) := by decide +kernel
theorem dX7_sumOfSpreads_18 : decode cX7_sumOfSpreads 18 = .ok (.aaload, 1) := by decide +kernel
theorem dX7_sumOfSpreads_19 : decode cX7_sumOfSpreads 19 = .ok (.getfield 36, 3) := by decide +kernel
theorem dX7_sumOfSpreads_22 : decode cX7_sumOfSpreads 22 = .ok (.iadd, 1) := by decide +kernel
theorem dX7_sumOfSpreads_23 : decode cX7_sumOfSpreads 23 = .ok (.istore_n 1, 1) := by decide +kernel
theorem dX7_sumOfSpreads_24 : decode cX7_sumOfSpreads 24 = .ok (.iinc 2 1, 3) := by decide +kernel
theorem dX7_sumOfSpreads_27 : decode cX7_sumOfSpreads 27 = .ok (.goto (-23), 3) := by decide +kernel
theorem dX7_sumOfSpreads_30 : decode cX7_sumOfSpreads 30 = .ok (.iload_n 1, 1) := by decide +kernel
theorem dX7_sumOfSpreads_31 : decode cX7_sumOfSpreads 31 = .ok (.ireturn, 1) := by decide +kernel
theorem dX7_sumOfX_0 : decode cX7_sumOfX 0 = .ok (.iconst 0, 1) := by decide +kernel
theorem dX7_sumOfX_1 : decode cX7_sumOfX 1 = .ok (.istore_n 1, 1) := by decide +kernel
theorem dX7_sumOfX_2 : decode cX7_sumOfX 2 = .ok (.iconst 0, 1) := by decide +kernel
theorem dX7_sumOfX_3 : decode cX7_sumOfX 3 = .ok (.istore_n 2, 1) := by decide +kernel
theorem dX7_sumOfX_4 : decode cX7_sumOfX 4 = .ok (.iload_n 2, 1) := by decide +kernel
theorem dX7_sumOfX_5 : decode cX7_sumOfX 5 = .ok (.aload_n 0, 1) := by decide +kernel
theorem dX7_sumOfX_6 : decode cX7_sumOfX 6 = .ok (.getfield 22, 3) := by decide +kernel
theorem dX7_sumOfX_9 : decode cX7_sumOfX 9 = .ok (.if_icmp .ge 21, 3) := by decide +kernel
theorem dX7_sumOfX_12 : decode cX7_sumOfX 12 = .ok (.iload_n 1, 1) := by decide +kernel
theorem dX7_sumOfX_13 : decode cX7_sumOfX 13 = .ok (.aload_n 0, 1) := by decide +kernel
theorem dX7_sumOfX_14 : decode cX7_sumOfX 14 = .ok (.getfield 11, 3) := by decide +kernel
theorem dX7_sumOfX_17 : decode cX7_sumOfX 17 = .ok (.iload_n 2, 1) := by decide +kernel
theorem dX7_sumOfX_18 : decode cX7_sumOfX 18 = .ok (.aaload, 1) := by decide +kernel
theorem dX7_sumOfX_19 : decode cX7_sumOfX 19 = .ok (.getfield 39, 3) := by decide +kernel
theorem dX7_sumOfX_22 : decode cX7_sumOfX 22 = .ok (.iadd, 1) := by decide +kernel
theorem dX7_sumOfX_23 : decode cX7_sumOfX 23 = .ok (.istore_n 1, 1) := by decide +kernel
theorem dX7_sumOfX_24 : decode cX7_sumOfX 24 = .ok (.iinc 2 1, 3) := by decide +kernel
theorem dX7_sumOfX_27 : decode cX7_sumOfX 27 = .ok (.goto (-23), 3) := by decide +kernel
theorem dX7_sumOfX_30 : decode cX7_sumOfX 30 = .ok (.iload_n 1, 1) := by decide +kernel
theorem dX7_sumOfX_31 : decode cX7_sumOfX 31 = .ok (.ireturn, 1) := by decide +kernel
theorem dX7_sumOfY_0 : decode cX7_sumOfY 0 = .ok (.iconst 0, 1) := by decide +kernel
theorem dX7_sumOfY_1 : decode cX7_sumOfY 1 = .ok (.istore_n 1, 1) := by decide +kernel
theorem dX7_sumOfY_2 : decode cX7_sumOfY 2 = .ok (.iconst 0, 1) := by decide +kernel
theorem dX7_sumOfY_3 : decode cX7_sumOfY 3 = .ok (.istore_n 2, 1) := by decide +kernel
theorem dX7_sumOfY_4 : decode cX7_sumOfY 4 = .ok (.iload_n 2, 1) := by decide +kernel
theorem dX7_sumOfY_5 : decode cX7_sumOfY 5 = .ok (.aload_n 0, 1) := by decide +kernel
theorem dX7_sumOfY_6 : decode cX7_sumOfY 6 = .ok (.getfield 22, 3) := by decide +kernel
theorem dX7_sumOfY_9 : decode cX7_sumOfY 9 = .ok (.if_icmp .ge 21, 3) := by decide +kernel
theorem dX7_sumOfY_12 : decode cX7_sumOfY 12 = .ok (.iload_n 1, 1) := by decide +kernel
theorem dX7_sumOfY_13 : decode cX7_sumOfY 13 = .ok (.aload_n 0, 1) := by decide +kernel
theorem dX7_sumOfY_14 : decode cX7_sumOfY 14 = .ok (.getfield 11, 3) := by decide +kernel
theorem dX7_sumOfY_17 : decode cX7_sumOfY 17 = .ok (.iload_n 2, 1) := by decide +kernel
theorem dX7_sumOfY_18 : decode cX7_sumOfY 18 = .ok (.aaload, 1) := by decide +kernel
theorem dX7_sumOfY_19 : decode cX7_sumOfY 19 = .ok (.getfield 42, 3) := by decide +kernel
theorem dX7_sumOfY_22 : decode cX7_sumOfY 22 = .ok (.iadd, 1) := by decide +kernel
theorem dX7_sumOfY_23 : decode cX7_sumOfY 23 = .ok (.istore_n 1, 1) := by decide +kernel
theorem dX7_sumOfY_24 : decode cX7_sumOfY 24 = .ok (.iinc 2 1, 3) := by decide +kernel
theorem dX7_sumOfY_27 : decode cX7_sumOfY 27 = .ok (.goto (-23), 3) := by decide +kernel
theorem dX7_sumOfY_30 : decode cX7_sumOfY 30 = .ok (.iload_n 1, 1) := by decide +kernel
theorem dX7_sumOfY_31 : decode cX7_sumOfY 31 = .ok (.ireturn, 1) := by decide +kernel
theorem dX7_withGreatestRing_0 : decode cX7_withGreatestRing 0 = .ok (.bipush (-6), 2) := by decide +kernel
theorem dX7_withGreatestRing_2 : decode cX7_withGreatestRing 2 = .ok (.istore_n 1, 1) := by decide +kernel
theorem dX7_withGreatestRing_3 : decode cX7_withGreatestRing 3 = .ok (.iconst (-1), 1) := by decide +kernel
theorem dX7_withGreatestRing_4 : decode cX7_withGreatestRing 4 = .ok (.istore_n 2, 1) := by decide +kernel
theorem dX7_withGreatestRing_5 : decode cX7_withGreatestRing 5 = .ok (.iconst 0, 1) := by decide +kernel
theorem dX7_withGreatestRing_6 : decode cX7_withGreatestRing 6 = .ok (.istore_n 3, 1) := by decide +kernel
theorem dX7_withGreatestRing_7 : decode cX7_withGreatestRing 7 = .ok (.iload_n 3, 1) := by decide +kernel
theorem dX7_withGreatestRing_8 : decode cX7_withGreatestRing 8 = .ok (.aload_n 0, 1) := by decide +kernel
theorem dX7_withGreatestRing_9 : decode cX7_withGreatestRing 9 = .ok (.getfield 22, 3) := by decide +kernel
theorem dX7_withGreatestRing_12 : decode cX7_withGreatestRing 12 = .ok (.if_icmp .ge 34, 3) := by decide +kernel
theorem dX7_withGreatestRing_15 : decode cX7_withGreatestRing 15 = .ok (.aload_n 0, 1) := by decide +kernel
theorem dX7_withGreatestRing_16 : decode cX7_withGreatestRing 16 = .ok (.getfield 11, 3) := by decide +kernel
theorem dX7_withGreatestRing_19 : decode cX7_withGreatestRing 19 = .ok (.iload_n 3, 1) := by decide +kernel
theorem dX7_withGreatestRing_20 : decode cX7_withGreatestRing 20 = .ok (.aaload, 1) := by decide +kernel
theorem dX7_withGreatestRing_21 : decode cX7_withGreatestRing 21 = .ok (.getfield 33, 3) := by decide +kernel
theorem dX7_withGreatestRing_24 : decode cX7_withGreatestRing 24 = .ok (.iload_n 2, 1) := by decide +kernel
theorem dX7_withGreatestRing_25 : decode cX7_withGreatestRing 25 = .ok (.if_icmp .le 15, 3) := by decide +kernel
theorem dX7_withGreatestRing_28 : decode cX7_withGreatestRing 28 = .ok (.iload_n 3, 1) := by decide +kernel
theorem dX7_withGreatestRing_29 : decode cX7_withGreatestRing 29 = .ok (.istore_n 1, 1) := by decide +kernel
theorem dX7_withGreatestRing_30 : decode cX7_withGreatestRing 30 = .ok (.aload_n 0, 1) := by decide +kernel
theorem dX7_withGreatestRing_31 : decode cX7_withGreatestRing 31 = .ok (.getfield 11, 3) := by decide +kernel
theorem dX7_withGreatestRing_34 : decode cX7_withGreatestRing 34 = .ok (.iload_n 3, 1) := by decide +kernel
theorem dX7_withGreatestRing_35 : decode cX7_withGreatestRing 35 = .ok (.aaload, 1) := by decide +kernel
theorem dX7_withGreatestRing_36 : decode cX7_withGreatestRing 36 = .ok (.getfield 33, 3) := by decide +kernel
theorem dX7_withGreatestRing_39 : decode cX7_withGreatestRing 39 = .ok (.istore_n 2, 1) := by decide +kernel
theorem dX7_withGreatestRing_40 : decode cX7_withGreatestRing 40 = .ok (.iinc 3 1, 3) := by decide +kernel
theorem dX7_withGreatestRing_43 : decode cX7_withGreatestRing 43 = .ok (.goto (-36), 3) := by decide +kernel
theorem dX7_withGreatestRing_46 : decode cX7_withGreatestRing 46 = .ok (.iload_n 1, 1) := by decide +kernel
theorem dX7_withGreatestRing_47 : decode cX7_withGreatestRing 47 = .ok (.ireturn, 1) := by decide +kernel
theorem dX7_widest_0 : decode cX7_widest 0 = .ok (.iconst 0, 1) := by decide +kernel
theorem dX7_widest_1 : decode cX7_widest 1 = .ok (.istore_n 2, 1) := by decide +kernel
theorem dX7_widest_2 : decode cX7_widest 2 = .ok (.iconst 0, 1) := by decide +kernel
theorem dX7_widest_3 : decode cX7_widest 3 = .ok (.istore_n 3, 1) := by decide +kernel
theorem dX7_widest_4 : decode cX7_widest 4 = .ok (.iload_n 3, 1) := by decide +kernel
theorem dX7_widest_5 : decode cX7_widest 5 = .ok (.aload_n 0, 1) := by decide +kernel
theorem dX7_widest_6 : decode cX7_widest 6 = .ok (.getfield 22, 3) := by decide +kernel
theorem dX7_widest_9 : decode cX7_widest 9 = .ok (.if_icmp .ge 71, 3) := by decide +kernel
theorem dX7_widest_12 : decode cX7_widest 12 = .ok (.iconst 0, 1) := by decide +kernel
theorem dX7_widest_13 : decode cX7_widest 13 = .ok (.istore 4, 2) := by decide +kernel
theorem dX7_widest_15 : decode cX7_widest 15 = .ok (.iload 4, 2) := by decide +kernel
theorem dX7_widest_17 : decode cX7_widest 17 = .ok (.iload_n 3, 1) := by decide +kernel
theorem dX7_widest_18 : decode cX7_widest 18 = .ok (.if_icmp .ge 56, 3) := by decide +kernel
theorem dX7_widest_21 : decode cX7_widest 21 = .ok (.iload_n 2, 1) := by decide +kernel
theorem dX7_widest_22 : decode cX7_widest 22 = .ok (.aload_n 1, 1) := by decide +kernel
theorem dX7_widest_23 : decode cX7_widest 23 = .ok (.aload_n 0, 1) := by decide +kernel
theorem dX7_widest_24 : decode cX7_widest 24 = .ok (.getfield 11, 3) := by decide +kernel
theorem dX7_widest_27 : decode cX7_widest 27 = .ok (.iload_n 3, 1) := by decide +kernel
theorem dX7_widest_28 : decode cX7_widest 28 = .ok (.aaload, 1) := by decide +kernel
theorem dX7_widest_29 : decode cX7_widest 29 = .ok (.getfield 39, 3) := by decide +kernel
theorem dX7_widest_32 : decode cX7_widest 32 = .ok (.aload_n 0, 1) := by decide +kernel
theorem dX7_widest_33 : decode cX7_widest 33 = .ok (.getfield 11, 3) := by decide +kernel
theorem dX7_widest_36 : decode cX7_widest 36 = .ok (.iload_n 3, 1) := by decide +kernel
theorem dX7_widest_37 : decode cX7_widest 37 = .ok (.aaload, 1) := by decide +kernel
theorem dX7_widest_38 : decode cX7_widest 38 = .ok (.getfield 42, 3) := by decide +kernel
theorem dX7_widest_41 : decode cX7_widest 41 = .ok (.aload_n 0, 1) := by decide +kernel
theorem dX7_widest_42 : decode cX7_widest 42 = .ok (.getfield 11, 3) := by decide +kernel
theorem dX7_widest_45 : decode cX7_widest 45 = .ok (.iload 4, 2) := by decide +kernel
theorem dX7_widest_47 : decode cX7_widest 47 = .ok (.aaload, 1) := by decide +kernel
theorem dX7_widest_48 : decode cX7_widest 48 = .ok (.getfield 39, 3) := by decide +kernel
theorem dX7_widest_51 : decode cX7_widest 51 = .ok (.aload_n 0, 1) := by decide +kernel
theorem dX7_widest_52 : decode cX7_widest 52 = .ok (.getfield 11, 3) := by decide +kernel
theorem dX7_widest_55 : decode cX7_widest 55 = .ok (.iload 4, 2) := by decide +kernel
theorem dX7_widest_57 : decode cX7_widest 57 = .ok (.aaload, 1) := by decide +kernel
theorem dX7_widest_58 : decode cX7_widest 58 = .ok (.getfield 42, 3) := by decide +kernel
theorem dX7_widest_61 : decode cX7_widest 61 = .ok (.invokevirtual 45, 3) := by decide +kernel
theorem dX7_widest_64 : decode cX7_widest 64 = .ok (.invokestatic 51, 3) := by decide +kernel
theorem dX7_widest_67 : decode cX7_widest 67 = .ok (.istore_n 2, 1) := by decide +kernel
theorem dX7_widest_68 : decode cX7_widest 68 = .ok (.iinc 4 1, 3) := by decide +kernel
theorem dX7_widest_71 : decode cX7_widest 71 = .ok (.goto (-56), 3) := by decide +kernel
theorem dX7_widest_74 : decode cX7_widest 74 = .ok (.iinc 3 1, 3) := by decide +kernel
theorem dX7_widest_77 : decode cX7_widest 77 = .ok (.goto (-73), 3) := by decide +kernel
theorem dX7_widest_80 : decode cX7_widest 80 = .ok (.iload_n 2, 1) := by decide +kernel
theorem dX7_widest_81 : decode cX7_widest 81 = .ok (.ireturn, 1) := by decide +kernel
theorem dX8_init_0 : decode cX8_init 0 = .ok (.aload_n 0, 1) := by decide +kernel
theorem dX8_init_1 : decode cX8_init 1 = .ok (.invokespecial 3, 3) := by decide +kernel
theorem dX8_init_4 : decode cX8_init 4 = .ok (.aload_n 0, 1) := by decide +kernel
theorem dX8_init_5 : decode cX8_init 5 = .ok (.new 9, 3) := by decide +kernel
theorem dX8_init_8 : decode cX8_init 8 = .ok (.dup, 1) := by decide +kernel
theorem dX8_init_9 : decode cX8_init 9 = .ok (.invokespecial 11, 3) := by decide +kernel
theorem dX8_init_12 : decode cX8_init 12 = .ok (.putfield 12, 3) := by decide +kernel
theorem dX8_init_15 : decode cX8_init 15 = .ok (.aload_n 0, 1) := by decide +kernel
theorem dX8_init_16 : decode cX8_init 16 = .ok (.new 16, 3) := by decide +kernel
theorem dX8_init_19 : decode cX8_init 19 = .ok (.dup, 1) := by decide +kernel
theorem dX8_init_20 : decode cX8_init 20 = .ok (.invokespecial 18, 3) := by decide +kernel
theorem dX8_init_23 : decode cX8_init 23 = .ok (.putfield 19, 3) := by decide +kernel
theorem dX8_init_26 : decode cX8_init 26 = .ok (.aload_n 0, 1) := by decide +kernel
theorem dX8_init_27 : decode cX8_init 27 = .ok (.iconst 2, 1) := by decide +kernel
theorem dX8_init_28 : decode cX8_init 28 = .ok (.anewarray 9, 3) := by decide +kernel
theorem dX8_init_31 : decode cX8_init 31 = .ok (.putfield 23, 3) := by decide +kernel
theorem dX8_init_34 : decode cX8_init 34 = .ok (.aload_n 0, 1) := by decide +kernel
theorem dX8_init_35 : decode cX8_init 35 = .ok (.iconst 2, 1) := by decide +kernel
theorem dX8_init_36 : decode cX8_init 36 = .ok (.newarray .boolean, 2) := by decide +kernel
theorem dX8_init_38 : decode cX8_init 38 = .ok (.putfield 27, 3) := by decide +kernel
theorem dX8_init_41 : decode cX8_init 41 = .ok (.aload_n 0, 1) := by decide +kernel
theorem dX8_init_42 : decode cX8_init 42 = .ok (.new 31, 3) := by decide +kernel
theorem dX8_init_45 : decode cX8_init 45 = .ok (.dup, 1) := by decide +kernel
theorem dX8_init_46 : decode cX8_init 46 = .ok (.invokespecial 33, 3) := by decide +kernel
theorem dX8_init_49 : decode cX8_init 49 = .ok (.putfield 34, 3) := by decide +kernel
theorem dX8_init_52 : decode cX8_init 52 = .ok (.aload_n 0, 1) := by decide +kernel
theorem dX8_init_53 : decode cX8_init 53 = .ok (.new 38, 3) := by decide +kernel
theorem dX8_init_56 : decode cX8_init 56 = .ok (.dup, 1) := by decide +kernel
theorem dX8_init_57 : decode cX8_init 57 = .ok (.invokespecial 40, 3) := by decide +kernel
theorem dX8_init_60 : decode cX8_init 60 = .ok (.putfield 41, 3) := by decide +kernel
theorem dX8_init_63 : decode cX8_init 63 = .ok (.aload_n 0, 1) := by decide +kernel
theorem dX8_init_64 : decode cX8_init 64 = .ok (.new 45, 3) := by decide +kernel
theorem dX8_init_67 : decode cX8_init 67 = .ok (.dup, 1) := by decide +kernel
theorem dX8_init_68 : decode cX8_init 68 = .ok (.invokespecial 47, 3) := by decide +kernel
theorem dX8_init_71 : decode cX8_init 71 = .ok (.putfield 48, 3) := by decide +kernel
theorem dX8_init_74 : decode cX8_init 74 = .ok (.aload_n 0, 1) := by decide +kernel
theorem dX8_init_75 : decode cX8_init 75 = .ok (.new 52, 3) := by decide +kernel
theorem dX8_init_78 : decode cX8_init 78 = .ok (.dup, 1) := by decide +kernel
theorem dX8_init_79 : decode cX8_init 79 = .ok (.invokespecial 54, 3) := by decide +kernel
theorem dX8_init_82 : decode cX8_init 82 = .ok (.putfield 55, 3) := by decide +kernel
theorem dX8_init_85 : decode cX8_init 85 = .ok (.aload_n 0, 1) := by decide +kernel
theorem dX8_init_86 : decode cX8_init 86 = .ok (.new 52, 3) := by decide +kernel
theorem dX8_init_89 : decode cX8_init 89 = .ok (.dup, 1) := by decide +kernel
theorem dX8_init_90 : decode cX8_init 90 = .ok (.invokespecial 54, 3) := by decide +kernel
theorem dX8_init_93 : decode cX8_init 93 = .ok (.putfield 59, 3) := by decide +kernel
theorem dX8_init_96 : decode cX8_init 96 = .ok (.aload_n 0, 1) := by decide +kernel
theorem dX8_init_97 : decode cX8_init 97 = .ok (.iconst 1, 1) := by decide +kernel
theorem dX8_init_98 : decode cX8_init 98 = .ok (.putfield 62, 3) := by decide +kernel
theorem dX8_init_101 : decode cX8_init 101 = .ok (.iconst 0, 1) := by decide +kernel
theorem dX8_init_102 : decode cX8_init 102 = .ok (.istore_n 1, 1) := by decide +kernel
theorem dX8_init_103 : decode cX8_init 103 = .ok (.iload_n 1, 1) := by decide +kernel
theorem dX8_init_104 : decode cX8_init 104 = .ok (.iconst 2, 1) := by decide +kernel
theorem dX8_init_105 : decode cX8_init 105 = .ok (.if_icmp .ge 22, 3) := by decide +kernel
theorem dX8_init_108 : decode cX8_init 108 = .ok (.aload_n 0, 1) := by decide +kernel
theorem dX8_init_109 : decode cX8_init 109 = .ok (.getfield 23, 3) := by decide +kernel
theorem dX8_init_112 : decode cX8_init 112 = .ok (.iload_n 1, 1) := by decide +kernel
theorem dX8_init_113 : decode cX8_init 113 = .ok (.new 9, 3) := by decide +kernel
theorem dX8_init_116 : decode cX8_init 116 = .ok (.dup, 1) := by decide +kernel
theorem dX8_init_117 : decode cX8_init 117 = .ok (.invokespecial 11, 3) := by decide +kernel
theorem dX8_init_120 : decode cX8_init 120 = .ok (.aastore, 1) := by decide +kernel
theorem dX8_init_121 : decode cX8_init 121 = .ok (.iinc 1 1, 3) := by decide +kernel
theorem dX8_init_124 : decode cX8_init 124 = .ok (.goto (-21), 3) := by decide +kernel
theorem dX8_init_127 : decode cX8_init 127 = .ok (.return_, 1) := by decide +kernel
theorem dX8_set_0 : decode cX8_set 0 = .ok (.iload_n 1, 1) := by decide +kernel
theorem dX8_set_1 : decode cX8_set 1 = .ok (.ifCond .lt 8, 3) := by decide +kernel
theorem dX8_set_4 : decode cX8_set 4 = .ok (.iload_n 1, 1) := by decide +kernel
theorem dX8_set_5 : decode cX8_set 5 = .ok (.iconst 2, 1) := by decide +kernel
theorem dX8_set_6 : decode cX8_set 6 = .ok (.if_icmp .le 6, 3) := by decide +kernel
theorem dX8_set_9 : decode cX8_set 9 = .ok (.bipush (-2), 2) := by decide +kernel
theorem dX8_set_11 : decode cX8_set 11 = .ok (.ireturn, 1) := by decide +kernel
theorem dX8_set_12 : decode cX8_set 12 = .ok (.iload_n 2, 1) := by decide +kernel
theorem dX8_set_13 : decode cX8_set 13 = .ok (.getstatic 66, 3) := by decide +kernel
theorem dX8_set_16 : decode cX8_set 16 = .ok (.iload_n 1, 1) := by decide +kernel
theorem dX8_set_17 : decode cX8_set 17 = .ok (.iaload, 1) := by decide +kernel
theorem dX8_set_18 : decode cX8_set 18 = .ok (.if_icmp .lt 12, 3) := by decide +kernel
theorem dX8_set_21 : decode cX8_set 21 = .ok (.iload_n 2, 1) := by decide +kernel
theorem dX8_set_22 : decode cX8_set 22 = .ok (.getstatic 70, 3) := by decide +kernel
theorem dX8_set_25 : decode cX8_set 25 = .ok (.iload_n 1, 1) := by decide +kernel
theorem dX8_set_26 : decode cX8_set 26 = .ok (.iaload, 1) := by decide +kernel
theorem dX8_set_27 : decode cX8_set 27 = .ok (.if_icmp .le 6, 3) := by decide +kernel
theorem dX8_set_30 : decode cX8_set 30 = .ok (.bipush (-2), 2) := by decide +kernel
theorem dX8_set_32 : decode cX8_set 32 = .ok (.ireturn, 1) := by decide +kernel
theorem dX8_set_33 : decode cX8_set 33 = .ok (.aload_n 0, 1) := by decide +kernel
theorem dX8_set_34 : decode cX8_set 34 = .ok (.getfield 12, 3) := by decide +kernel
theorem dX8_set_37 : decode cX8_set 37 = .ok (.getfield 73, 3) := by decide +kernel
theorem dX8_set_40 : decode cX8_set 40 = .ok (.iload_n 1, 1) := by decide +kernel
theorem dX8_set_41 : decode cX8_set 41 = .ok (.iaload, 1) := by decide +kernel
theorem dX8_set_42 : decode cX8_set 42 = .ok (.istore_n 3, 1) := by decide +kernel
theorem dX8_set_43 : decode cX8_set 43 = .ok (.aload_n 0, 1) := by decide +kernel
theorem dX8_set_44 : decode cX8_set 44 = .ok (.invokevirtual 76, 3) := by decide +kernel
theorem dX8_set_47 : decode cX8_set 47 = .ok (.aload_n 0, 1) := by decide +kernel
theorem dX8_set_48 : decode cX8_set 48 = .ok (.getfield 12, 3) := by decide +kernel
theorem dX8_set_51 : decode cX8_set 51 = .ok (.getfield 73, 3) := by decide +kernel
theorem dX8_set_54 : decode cX8_set 54 = .ok (.iload_n 1, 1) := by decide +kernel
theorem dX8_set_55 : decode cX8_set 55 = .ok (.iload_n 2, 1) := by decide +kernel
theorem dX8_set_56 : decode cX8_set 56 = .ok (.iastore, 1) := by decide +kernel
theorem dX8_set_57 : decode cX8_set 57 = .ok (.iload_n 3, 1) := by decide +kernel
theorem dX8_set_58 : decode cX8_set 58 = .ok (.bipush 100, 2) := by decide +kernel
theorem dX8_set_60 : decode cX8_set 60 = .ok (.iadd, 1) := by decide +kernel
theorem dX8_set_61 : decode cX8_set 61 = .ok (.ireturn, 1) := by decide +kernel
theorem dX8_hear_0 : decode cX8_hear 0 = .ok (.iload_n 1, 1) := by decide +kernel
theorem dX8_hear_1 : decode cX8_hear 1 = .ok (.invokestatic 79, 3) := by decide +kernel
theorem dX8_hear_4 : decode cX8_hear 4 = .ok (.ifCond .ne 5, 3) := by decide +kernel
theorem dX8_hear_7 : decode cX8_hear 7 = .ok (.iconst (-1), 1) := by decide +kernel
theorem dX8_hear_8 : decode cX8_hear 8 = .ok (.ireturn, 1) := by decide +kernel
theorem dX8_hear_9 : decode cX8_hear 9 = .ok (.iload_n 2, 1) := by decide +kernel
theorem dX8_hear_10 : decode cX8_hear 10 = .ok (.ifCond .lt 9, 3) := by decide +kernel
theorem dX8_hear_13 : decode cX8_hear 13 = .ok (.iload_n 2, 1) := by decide +kernel
theorem dX8_hear_14 : decode cX8_hear 14 = .ok (.ldc 83, 2) := by decide +kernel
theorem dX8_hear_16 : decode cX8_hear 16 = .ok (.if_icmp .le 6, 3) := by decide +kernel
theorem dX8_hear_19 : decode cX8_hear 19 = .ok (.bipush (-2), 2) := by decide +kernel
theorem dX8_hear_21 : decode cX8_hear 21 = .ok (.ireturn, 1) := by decide +kernel
theorem dX8_hear_22 : decode cX8_hear 22 = .ok (.iload_n 1, 1) := by decide +kernel
theorem dX8_hear_23 : decode cX8_hear 23 = .ok (.iload_n 2, 1) := by decide +kernel
theorem dX8_hear_24 : decode cX8_hear 24 = .ok (.invokestatic 84, 3) := by decide +kernel
theorem dX8_hear_27 : decode cX8_hear 27 = .ok (.istore_n 3, 1) := by decide +kernel
theorem dX8_hear_28 : decode cX8_hear 28 = .ok (.aload_n 0, 1) := by decide +kernel
theorem dX8_hear_29 : decode cX8_hear 29 = .ok (.getfield 12, 3) := by decide +kernel
theorem dX8_hear_32 : decode cX8_hear 32 = .ok (.iload_n 3, 1) := by decide +kernel
theorem dX8_hear_33 : decode cX8_hear 33 = .ok (.invokevirtual 88, 3) := by decide +kernel
theorem dX8_hear_36 : decode cX8_hear 36 = .ok (.istore 4, 2) := by decide +kernel
theorem dX8_hear_38 : decode cX8_hear 38 = .ok (.iload 4, 2) := by decide +kernel
theorem dX8_hear_40 : decode cX8_hear 40 = .ok (.ifCond .eq 6, 3) := by decide +kernel
theorem dX8_hear_43 : decode cX8_hear 43 = .ok (.iload 4, 2) := by decide +kernel
theorem dX8_hear_45 : decode cX8_hear 45 = .ok (.ireturn, 1) := by decide +kernel
theorem dX8_hear_46 : decode cX8_hear 46 = .ok (.aload_n 0, 1) := by decide +kernel
theorem dX8_hear_47 : decode cX8_hear 47 = .ok (.invokevirtual 76, 3) := by decide +kernel
theorem dX8_hear_50 : decode cX8_hear 50 = .ok (.aload_n 0, 1) := by decide +kernel
theorem dX8_hear_51 : decode cX8_hear 51 = .ok (.getfield 12, 3) := by decide +kernel
theorem dX8_hear_54 : decode cX8_hear 54 = .ok (.iload_n 3, 1) := by decide +kernel
theorem dX8_hear_55 : decode cX8_hear 55 = .ok (.invokevirtual 92, 3) := by decide +kernel
theorem dX8_hear_58 : decode cX8_hear 58 = .ok (.ireturn, 1) := by decide +kernel
theorem dX8_fire_0 : decode cX8_fire 0 = .ok (.iload_n 1, 1) := by decide +kernel
theorem dX8_fire_1 : decode cX8_fire 1 = .ok (.iload_n 2, 1) := by decide +kernel
theorem dX8_fire_2 : decode cX8_fire 2 = .ok (.invokestatic 95, 3) := by decide +kernel
theorem dX8_fire_5 : decode cX8_fire 5 = .ok (.ifCond .ne 5, 3) := by decide +kernel
theorem dX8_fire_8 : decode cX8_fire 8 = .ok (.iconst (-1), 1) := by decide +kernel
theorem dX8_fire_9 : decode cX8_fire 9 = .ok (.ireturn, 1) := by decide +kernel
theorem dX8_fire_10 : decode cX8_fire 10 = .ok (.iload_n 3, 1) := by decide +kernel
theorem dX8_fire_11 : decode cX8_fire 11 = .ok (.ifCond .lt 9, 3) := by decide +kernel
theorem dX8_fire_14 : decode cX8_fire 14 = .ok (.iload_n 3, 1) := by decide +kernel
theorem dX8_fire_15 : decode cX8_fire 15 = .ok (.ldc 99, 2) := by decide +kernel
theorem dX8_fire_17 : decode cX8_fire 17 = .ok (.if_icmp .le 6, 3) := by decide +kernel
theorem dX8_fire_20 : decode cX8_fire 20 = .ok (.bipush (-2), 2) := by decide +kernel
theorem dX8_fire_22 : decode cX8_fire 22 = .ok (.ireturn, 1) := by decide +kernel
theorem dX8_fire_23 : decode cX8_fire 23 = .ok (.aload_n 0, 1) := by decide +kernel
theorem dX8_fire_24 : decode cX8_fire 24 = .ok (.getfield 41, 3) := by decide +kernel
theorem dX8_fire_27 : decode cX8_fire 27 = .ok (.aload_n 0, 1) := by decide +kernel
theorem dX8_fire_28 : decode cX8_fire 28 = .ok (.getfield 12, 3) := by decide +kernel
theorem dX8_fire_31 : decode cX8_fire 31 = .ok (.getfield 73, 3) := by decide +kernel
theorem dX8_fire_34 : decode cX8_fire 34 = .ok (.iconst 0, 1) := by decide +kernel
theorem dX8_fire_35 : decode cX8_fire 35 = .ok (.iaload, 1) := by decide +kernel
theorem dX8_fire_36 : decode cX8_fire 36 = .ok (.invokevirtual 100, 3) := by decide +kernel
theorem dX8_fire_39 : decode cX8_fire 39 = .ok (.iconst 0, 1) := by decide +kernel
theorem dX8_fire_40 : decode cX8_fire 40 = .ok (.istore 4, 2) := by decide +kernel
theorem dX8_fire_42 : decode cX8_fire 42 = .ok (.iload 4, 2) := by decide +kernel
theorem dX8_fire_44 : decode cX8_fire 44 = .ok (.iconst 4, 1) := by decide +kernel
theorem dX8_fire_45 : decode cX8_fire 45 = .ok (.if_icmp .ge 40, 3) := by decide +kernel
theorem dX8_fire_48 : decode cX8_fire 48 = .ok (.aload_n 0, 1) := by decide +kernel
theorem dX8_fire_49 : decode cX8_fire 49 = .ok (.getfield 12, 3) := by decide +kernel
theorem dX8_fire_52 : decode cX8_fire 52 = .ok (.iload 4, 2) := by decide +kernel
theorem dX8_fire_54 : decode cX8_fire 54 = .ok (.iload_n 3, 1) := by decide +kernel
theorem dX8_fire_55 : decode cX8_fire 55 = .ok (.aload_n 0, 1) := by decide +kernel
theorem dX8_fire_56 : decode cX8_fire 56 = .ok (.getfield 41, 3) := by decide +kernel
theorem dX8_fire_59 : decode cX8_fire 59 = .ok (.iload_n 1, 1) := by decide +kernel
theorem dX8_fire_60 : decode cX8_fire 60 = .ok (.iload_n 2, 1) := by decide +kernel
theorem dX8_fire_61 : decode cX8_fire 61 = .ok (.iload 4, 2) := by decide +kernel
theorem dX8_fire_63 : decode cX8_fire 63 = .ok (.invokevirtual 104, 3) := by decide +kernel
theorem dX8_fire_66 : decode cX8_fire 66 = .ok (.iadd, 1) := by decide +kernel
theorem dX8_fire_67 : decode cX8_fire 67 = .ok (.invokestatic 84, 3) := by decide +kernel
theorem dX8_fire_70 : decode cX8_fire 70 = .ok (.invokevirtual 108, 3) := by decide +kernel
theorem dX8_fire_73 : decode cX8_fire 73 = .ok (.ifCond .eq 6, 3) := by decide +kernel
theorem dX8_fire_76 : decode cX8_fire 76 = .ok (.bipush (-5), 2) := by decide +kernel
theorem dX8_fire_78 : decode cX8_fire 78 = .ok (.ireturn, 1) := by decide +kernel
theorem dX8_fire_79 : decode cX8_fire 79 = .ok (.iinc 4 1, 3) := by decide +kernel
theorem dX8_fire_82 : decode cX8_fire 82 = .ok (.goto (-40), 3) := by decide +kernel
theorem dX8_fire_85 : decode cX8_fire 85 = .ok (.aload_n 0, 1) := by decide +kernel
theorem dX8_fire_86 : decode cX8_fire 86 = .ok (.getfield 12, 3) := by decide +kernel
theorem dX8_fire_89 : decode cX8_fire 89 = .ok (.getfield 111, 3) := by decide +kernel
theorem dX8_fire_92 : decode cX8_fire 92 = .ok (.iconst 4, 1) := by decide +kernel
theorem dX8_fire_93 : decode cX8_fire 93 = .ok (.iadd, 1) := by decide +kernel
theorem dX8_fire_94 : decode cX8_fire 94 = .ok (.bipush 32, 2) := by decide +kernel
theorem dX8_fire_96 : decode cX8_fire 96 = .ok (.if_icmp .le 6, 3) := by decide +kernel
theorem dX8_fire_99 : decode cX8_fire 99 = .ok (.bipush (-4), 2) := by decide +kernel
theorem dX8_fire_101 : decode cX8_fire 101 = .ok (.ireturn, 1) := by decide +kernel
theorem dX8_fire_102 : decode cX8_fire 102 = .ok (.aload_n 0, 1) := by decide +kernel
theorem dX8_fire_103 : decode cX8_fire 103 = .ok (.invokevirtual 76, 3) := by decide +kernel
theorem dX8_fire_106 : decode cX8_fire 106 = .ok (.iconst 0, 1) := by decide +kernel
theorem dX8_fire_107 : decode cX8_fire 107 = .ok (.istore 4, 2) := by decide +kernel
theorem dX8_fire_109 : decode cX8_fire 109 = .ok (.iload 4, 2) := by decide +kernel
theorem dX8_fire_111 : decode cX8_fire 111 = .ok (.iconst 4, 1) := by decide +kernel
theorem dX8_fire_112 : decode cX8_fire 112 = .ok (.if_icmp .ge 35, 3) := by decide +kernel
theorem dX8_fire_115 : decode cX8_fire 115 = .ok (.aload_n 0, 1) := by decide +kernel
theorem dX8_fire_116 : decode cX8_fire 116 = .ok (.getfield 12, 3) := by decide +kernel
theorem dX8_fire_119 : decode cX8_fire 119 = .ok (.iload 4, 2) := by decide +kernel
theorem dX8_fire_121 : decode cX8_fire 121 = .ok (.iload_n 3, 1) := by decide +kernel
theorem dX8_fire_122 : decode cX8_fire 122 = .ok (.aload_n 0, 1) := by decide +kernel
theorem dX8_fire_123 : decode cX8_fire 123 = .ok (.getfield 41, 3) := by decide +kernel
theorem dX8_fire_126 : decode cX8_fire 126 = .ok (.iload_n 1, 1) := by decide +kernel
theorem dX8_fire_127 : decode cX8_fire 127 = .ok (.iload_n 2, 1) := by decide +kernel
theorem dX8_fire_128 : decode cX8_fire 128 = .ok (.iload 4, 2) := by decide +kernel
theorem dX8_fire_130 : decode cX8_fire 130 = .ok (.invokevirtual 104, 3) := by decide +kernel
theorem dX8_fire_133 : decode cX8_fire 133 = .ok (.iadd, 1) := by decide +kernel
theorem dX8_fire_134 : decode cX8_fire 134 = .ok (.invokestatic 84, 3) := by decide +kernel
theorem dX8_fire_137 : decode cX8_fire 137 = .ok (.invokevirtual 92, 3) := by decide +kernel
theorem dX8_fire_140 : decode cX8_fire 140 = .ok (.pop, 1) := by decide +kernel
theorem dX8_fire_141 : decode cX8_fire 141 = .ok (.iinc 4 1, 3) := by decide +kernel
theorem dX8_fire_144 : decode cX8_fire 144 = .ok (.goto (-35), 3) := by decide +kernel
theorem dX8_fire_147 : decode cX8_fire 147 = .ok (.aload_n 0, 1) := by decide +kernel
theorem dX8_fire_148 : decode cX8_fire 148 = .ok (.getfield 12, 3) := by decide +kernel
theorem dX8_fire_151 : decode cX8_fire 151 = .ok (.getfield 111, 3) := by decide +kernel
theorem dX8_fire_154 : decode cX8_fire 154 = .ok (.ireturn, 1) := by decide +kernel
theorem dX8_hearAll_0 : decode cX8_hearAll 0 = .ok (.aload_n 0, 1) := by decide +kernel
theorem dX8_hearAll_1 : decode cX8_hearAll 1 = .ok (.getfield 34, 3) := by decide +kernel
theorem dX8_hearAll_4 : decode cX8_hearAll 4 = .ok (.invokevirtual 115, 3) := by decide +kernel
theorem dX8_hearAll_7 : decode cX8_hearAll 7 = .ok (.bipush (-6), 2) := by decide +kernel
theorem dX8_hearAll_9 : decode cX8_hearAll 9 = .ok (.if_icmp .eq 6, 3) := by decide +kernel
theorem dX8_hearAll_12 : decode cX8_hearAll 12 = .ok (.bipush (-3), 2) := by decide +kernel
theorem dX8_hearAll_14 : decode cX8_hearAll 14 = .ok (.ireturn, 1) := by decide +kernel
theorem dX8_hearAll_15 : decode cX8_hearAll 15 = .ok (.aload_n 0, 1) := by decide +kernel
theorem dX8_hearAll_16 : decode cX8_hearAll 16 = .ok (.invokevirtual 76, 3) := by decide +kernel
theorem dX8_hearAll_19 : decode cX8_hearAll 19 = .ok (.iconst 0, 1) := by decide +kernel
theorem dX8_hearAll_20 : decode cX8_hearAll 20 = .ok (.istore_n 1, 1) := by decide +kernel
theorem dX8_hearAll_21 : decode cX8_hearAll 21 = .ok (.iload_n 1, 1) := by decide +kernel
theorem dX8_hearAll_22 : decode cX8_hearAll 22 = .ok (.aload_n 0, 1) := by decide +kernel
theorem dX8_hearAll_23 : decode cX8_hearAll 23 = .ok (.getfield 34, 3) := by decide +kernel
theorem dX8_hearAll_26 : decode cX8_hearAll 26 = .ok (.getfield 119, 3) := by decide +kernel
theorem dX8_hearAll_29 : decode cX8_hearAll 29 = .ok (.if_icmp .ge 45, 3) := by decide +kernel
theorem dX8_hearAll_32 : decode cX8_hearAll 32 = .ok (.aload_n 0, 1) := by decide +kernel
theorem dX8_hearAll_33 : decode cX8_hearAll 33 = .ok (.getfield 12, 3) := by decide +kernel
theorem dX8_hearAll_36 : decode cX8_hearAll 36 = .ok (.aload_n 0, 1) := by decide +kernel
theorem dX8_hearAll_37 : decode cX8_hearAll 37 = .ok (.getfield 34, 3) := by decide +kernel
theorem dX8_hearAll_40 : decode cX8_hearAll 40 = .ok (.getfield 122, 3) := by decide +kernel
theorem dX8_hearAll_43 : decode cX8_hearAll 43 = .ok (.iload_n 1, 1) := by decide +kernel
theorem dX8_hearAll_44 : decode cX8_hearAll 44 = .ok (.iaload, 1) := by decide +kernel
theorem dX8_hearAll_45 : decode cX8_hearAll 45 = .ok (.invokevirtual 88, 3) := by decide +kernel
theorem dX8_hearAll_48 : decode cX8_hearAll 48 = .ok (.ifCond .ne 26, 3) := by decide +kernel
theorem dX8_hearAll_51 : decode cX8_hearAll 51 = .ok (.aload_n 0, 1) := by decide +kernel
theorem dX8_hearAll_52 : decode cX8_hearAll 52 = .ok (.getfield 12, 3) := by decide +kernel
theorem dX8_hearAll_55 : decode cX8_hearAll 55 = .ok (.aload_n 0, 1) := by decide +kernel
theorem dX8_hearAll_56 : decode cX8_hearAll 56 = .ok (.getfield 34, 3) := by decide +kernel
theorem dX8_hearAll_59 : decode cX8_hearAll 59 = .ok (.getfield 122, 3) := by decide +kernel
theorem dX8_hearAll_62 : decode cX8_hearAll 62 = .ok (.iload_n 1, 1) := by decide +kernel
theorem dX8_hearAll_63 : decode cX8_hearAll 63 = .ok (.iaload, 1) := by decide +kernel
theorem dX8_hearAll_64 : decode cX8_hearAll 64 = .ok (.invokevirtual 92, 3) := by decide +kernel
theorem dX8_hearAll_67 : decode cX8_hearAll 67 = .ok (.pop, 1) := by decide +kernel
theorem dX8_hearAll_68 : decode cX8_hearAll 68 = .ok (.iinc 1 1, 3) := by decide +kernel
theorem dX8_hearAll_71 : decode cX8_hearAll 71 = .ok (.goto (-50), 3) := by decide +kernel
theorem dX8_hearAll_74 : decode cX8_hearAll 74 = .ok (.aload_n 0, 1) := by decide +kernel
theorem dX8_hearAll_75 : decode cX8_hearAll 75 = .ok (.getfield 34, 3) := by decide +kernel
theorem dX8_hearAll_78 : decode cX8_hearAll 78 = .ok (.iconst 0, 1) := by decide +kernel
theorem dX8_hearAll_79 : decode cX8_hearAll 79 = .ok (.putfield 125, 3) := by decide +kernel
theorem dX8_hearAll_82 : decode cX8_hearAll 82 = .ok (.iload_n 1, 1) := by decide +kernel
theorem dX8_hearAll_83 : decode cX8_hearAll 83 = .ok (.ireturn, 1) := by decide +kernel
theorem dX8_forget_0 : decode cX8_forget 0 = .ok (.aload_n 0, 1) := by decide +kernel
theorem dX8_forget_1 : decode cX8_forget 1 = .ok (.getfield 12, 3) := by decide +kernel
theorem dX8_forget_4 : decode cX8_forget 4 = .ok (.iload_n 1, 1) := by decide +kernel
theorem dX8_forget_5 : decode cX8_forget 5 = .ok (.invokevirtual 128, 3) := by decide +kernel
theorem dX8_forget_8 : decode cX8_forget 8 = .ok (.ifCond .ne 5, 3) := by decide +kernel
theorem dX8_forget_11 : decode cX8_forget 11 = .ok (.iconst (-1), 1) := by decide +kernel
theorem dX8_forget_12 : decode cX8_forget 12 = .ok (.ireturn, 1) := by decide +kernel
theorem dX8_forget_13 : decode cX8_forget 13 = .ok (.aload_n 0, 1) := by decide +kernel
theorem dX8_forget_14 : decode cX8_forget 14 = .ok (.getfield 12, 3) := by decide +kernel
theorem dX8_forget_17 : decode cX8_forget 17 = .ok (.iload_n 1, 1) := by decide +kernel
theorem dX8_forget_18 : decode cX8_forget 18 = .ok (.invokevirtual 131, 3) := by decide +kernel
theorem dX8_forget_21 : decode cX8_forget 21 = .ok (.istore_n 2, 1) := by decide +kernel
theorem dX8_forget_22 : decode cX8_forget 22 = .ok (.aload_n 0, 1) := by decide +kernel
theorem dX8_forget_23 : decode cX8_forget 23 = .ok (.invokevirtual 76, 3) := by decide +kernel
theorem dX8_forget_26 : decode cX8_forget 26 = .ok (.aload_n 0, 1) := by decide +kernel
theorem dX8_forget_27 : decode cX8_forget 27 = .ok (.getfield 12, 3) := by decide +kernel
theorem dX8_forget_30 : decode cX8_forget 30 = .ok (.iload_n 1, 1) := by decide +kernel
theorem dX8_forget_31 : decode cX8_forget 31 = .ok (.invokevirtual 134, 3) := by decide +kernel
theorem dX8_forget_34 : decode cX8_forget 34 = .ok (.iload_n 2, 1) := by decide +kernel
theorem dX8_forget_35 : decode cX8_forget 35 = .ok (.ireturn, 1) := by decide +kernel
theorem dX8_clear_0 : decode cX8_clear 0 = .ok (.aload_n 0, 1) := by decide +kernel
theorem dX8_clear_1 : decode cX8_clear 1 = .ok (.getfield 12, 3) := by decide +kernel
theorem dX8_clear_4 : decode cX8_clear 4 = .ok (.getfield 111, 3) := by decide +kernel
theorem dX8_clear_7 : decode cX8_clear 7 = .ok (.istore_n 1, 1) := by decide +kernel
theorem dX8_clear_8 : decode cX8_clear 8 = .ok (.aload_n 0, 1) := by decide +kernel
theorem dX8_clear_9 : decode cX8_clear 9 = .ok (.invokevirtual 76, 3) := by decide +kernel
theorem dX8_clear_12 : decode cX8_clear 12 = .ok (.aload_n 0, 1) := by decide +kernel
theorem dX8_clear_13 : decode cX8_clear 13 = .ok (.getfield 12, 3) := by decide +kernel
theorem dX8_clear_16 : decode cX8_clear 16 = .ok (.iconst 0, 1) := by decide +kernel
theorem dX8_clear_17 : decode cX8_clear 17 = .ok (.putfield 111, 3) := by decide +kernel
theorem dX8_clear_20 : decode cX8_clear 20 = .ok (.iload_n 1, 1) := by decide +kernel
theorem dX8_clear_21 : decode cX8_clear 21 = .ok (.ireturn, 1) := by decide +kernel
theorem dX8_takes_0 : decode cX8_takes 0 = .ok (.iload_n 1, 1) := by decide +kernel
theorem dX8_takes_1 : decode cX8_takes 1 = .ok (.iload_n 2, 1) := by decide +kernel
theorem dX8_takes_2 : decode cX8_takes 2 = .ok (.invokestatic 95, 3) := by decide +kernel
theorem dX8_takes_5 : decode cX8_takes 5 = .ok (.ifCond .eq 10, 3) := by decide +kernel
theorem dX8_takes_8 : decode cX8_takes 8 = .ok (.iload_n 3, 1) := by decide +kernel
theorem dX8_takes_9 : decode cX8_takes 9 = .ok (.invokestatic 79, 3) := by decide +kernel
theorem dX8_takes_12 : decode cX8_takes 12 = .ok (.ifCond .ne 5, 3) := by decide +kernel
theorem dX8_takes_15 : decode cX8_takes 15 = .ok (.iconst (-1), 1) := by decide +kernel
theorem dX8_takes_16 : decode cX8_takes 16 = .ok (.ireturn, 1) := by decide +kernel
theorem dX8_takes_17 : decode cX8_takes 17 = .ok (.aload_n 0, 1) := by decide +kernel
theorem dX8_takes_18 : decode cX8_takes 18 = .ok (.getfield 41, 3) := by decide +kernel
theorem dX8_takes_21 : decode cX8_takes 21 = .ok (.aload_n 0, 1) := by decide +kernel
theorem dX8_takes_22 : decode cX8_takes 22 = .ok (.getfield 12, 3) := by decide +kernel
theorem dX8_takes_25 : decode cX8_takes 25 = .ok (.getfield 73, 3) := by decide +kernel
theorem dX8_takes_28 : decode cX8_takes 28 = .ok (.iconst 0, 1) := by decide +kernel
theorem dX8_takes_29 : decode cX8_takes 29 = .ok (.iaload, 1) := by decide +kernel
theorem dX8_takes_30 : decode cX8_takes 30 = .ok (.invokevirtual 100, 3) := by decide +kernel
theorem dX8_takes_33 : decode cX8_takes 33 = .ok (.aload_n 0, 1) := by decide +kernel
theorem dX8_takes_34 : decode cX8_takes 34 = .ok (.getfield 41, 3) := by decide +kernel
theorem dX8_takes_37 : decode cX8_takes 37 = .ok (.iload_n 1, 1) := by decide +kernel
theorem dX8_takes_38 : decode cX8_takes 38 = .ok (.iload_n 2, 1) := by decide +kernel
theorem dX8_takes_39 : decode cX8_takes 39 = .ok (.iload_n 3, 1) := by decide +kernel
theorem dX8_takes_40 : decode cX8_takes 40 = .ok (.invokevirtual 104, 3) := by decide +kernel
theorem dX8_takes_43 : decode cX8_takes 43 = .ok (.ireturn, 1) := by decide +kernel
theorem dX8_pulse_0 : decode cX8_pulse 0 = .ok (.aload_n 0, 1) := by decide +kernel
theorem dX8_pulse_1 : decode cX8_pulse 1 = .ok (.getfield 12, 3) := by decide +kernel
theorem dX8_pulse_4 : decode cX8_pulse 4 = .ok (.iload_n 1, 1) := by decide +kernel
theorem dX8_pulse_5 : decode cX8_pulse 5 = .ok (.invokevirtual 128, 3) := by decide +kernel
theorem dX8_pulse_8 : decode cX8_pulse 8 = .ok (.ifCond .ne 5, 3) := by decide +kernel
theorem dX8_pulse_11 : decode cX8_pulse 11 = .ok (.iconst (-1), 1) := by decide +kernel
theorem dX8_pulse_12 : decode cX8_pulse 12 = .ok (.ireturn, 1) := by decide +kernel
theorem dX8_pulse_13 : decode cX8_pulse 13 = .ok (.iload_n 2, 1) := by decide +kernel
theorem dX8_pulse_14 : decode cX8_pulse 14 = .ok (.tableswitch 54 0 2 #[26, 35, 44], 26) := by decide +kernel
theorem dX8_pulse_40 : decode cX8_pulse 40 = .ok (.aload_n 0, 1) := by decide +kernel
theorem dX8_pulse_41 : decode cX8_pulse 41 = .ok (.getfield 12, 3) := by decide +kernel
theorem dX8_pulse_44 : decode cX8_pulse 44 = .ok (.iload_n 1, 1) := by decide +kernel
theorem dX8_pulse_45 : decode cX8_pulse 45 = .ok (.invokevirtual 137, 3) := by decide +kernel
theorem dX8_pulse_48 : decode cX8_pulse 48 = .ok (.ireturn, 1) := by decide +kernel
theorem dX8_pulse_49 : decode cX8_pulse 49 = .ok (.aload_n 0, 1) := by decide +kernel
theorem dX8_pulse_50 : decode cX8_pulse 50 = .ok (.getfield 12, 3) := by decide +kernel
theorem dX8_pulse_53 : decode cX8_pulse 53 = .ok (.iload_n 1, 1) := by decide +kernel
theorem dX8_pulse_54 : decode cX8_pulse 54 = .ok (.invokevirtual 131, 3) := by decide +kernel
theorem dX8_pulse_57 : decode cX8_pulse 57 = .ok (.ireturn, 1) := by decide +kernel
theorem dX8_pulse_58 : decode cX8_pulse 58 = .ok (.aload_n 0, 1) := by decide +kernel
theorem dX8_pulse_59 : decode cX8_pulse 59 = .ok (.invokevirtual 140, 3) := by decide +kernel
theorem dX8_pulse_62 : decode cX8_pulse 62 = .ok (.getfield 144, 3) := by decide +kernel
theorem dX8_pulse_65 : decode cX8_pulse 65 = .ok (.iload_n 1, 1) := by decide +kernel
theorem dX8_pulse_66 : decode cX8_pulse 66 = .ok (.iaload, 1) := by decide +kernel
theorem dX8_pulse_67 : decode cX8_pulse 67 = .ok (.ireturn, 1) := by decide +kernel
theorem dX8_pulse_68 : decode cX8_pulse 68 = .ok (.bipush (-2), 2) := by decide +kernel
theorem dX8_pulse_70 : decode cX8_pulse 70 = .ok (.ireturn, 1) := by decide +kernel
theorem dX8_shot_0 : decode cX8_shot 0 = .ok (.aload_n 0, 1) := by decide +kernel
theorem dX8_shot_1 : decode cX8_shot 1 = .ok (.invokevirtual 140, 3) := by decide +kernel
theorem dX8_shot_4 : decode cX8_shot 4 = .ok (.astore_n 3, 1) := by decide +kernel
theorem dX8_shot_5 : decode cX8_shot 5 = .ok (.aload_n 3, 1) := by decide +kernel
theorem dX8_shot_6 : decode cX8_shot 6 = .ok (.iload_n 1, 1) := by decide +kernel
theorem dX8_shot_7 : decode cX8_shot 7 = .ok (.invokevirtual 147, 3) := by decide +kernel
theorem dX8_shot_10 : decode cX8_shot 10 = .ok (.ifCond .ne 5, 3) := by decide +kernel
theorem dX8_shot_13 : decode cX8_shot 13 = .ok (.iconst (-1), 1) := by decide +kernel
theorem dX8_shot_14 : decode cX8_shot 14 = .ok (.ireturn, 1) := by decide +kernel
theorem dX8_shot_15 : decode cX8_shot 15 = .ok (.aload_n 3, 1) := by decide +kernel
theorem dX8_shot_16 : decode cX8_shot 16 = .ok (.getfield 150, 3) := by decide +kernel
theorem dX8_shot_19 : decode cX8_shot 19 = .ok (.iload_n 1, 1) := by decide +kernel
theorem dX8_shot_20 : decode cX8_shot 20 = .ok (.aaload, 1) := by decide +kernel
theorem dX8_shot_21 : decode cX8_shot 21 = .ok (.iload_n 2, 1) := by decide +kernel
theorem dX8_shot_22 : decode cX8_shot 22 = .ok (.invokevirtual 154, 3) := by decide +kernel
theorem dX8_shot_25 : decode cX8_shot 25 = .ok (.ireturn, 1) := by decide +kernel
theorem dX8_count_0 : decode cX8_count 0 = .ok (.iload_n 1, 1) := by decide +kernel
theorem dX8_count_1 : decode cX8_count 1 = .ok (.tableswitch 199 0 12 #[67, 75, 83, 101, 109, 117, 125, 137, 150, 163, 173, 183, 191], 67) := by decide +kernel
theorem dX8_count_68 : decode cX8_count 68 = .ok (.aload_n 0, 1) := by decide +kernel
theorem dX8_count_69 : decode cX8_count 69 = .ok (.getfield 12, 3) := by decide +kernel
theorem dX8_count_72 : decode cX8_count 72 = .ok (.getfield 111, 3) := by decide +kernel
theorem dX8_count_75 : decode cX8_count 75 = .ok (.ireturn, 1) := by decide +kernel
theorem dX8_count_76 : decode cX8_count 76 = .ok (.aload_n 0, 1) := by decide +kernel
theorem dX8_count_77 : decode cX8_count 77 = .ok (.invokevirtual 140, 3) := by decide +kernel
theorem dX8_count_80 : decode cX8_count 80 = .ok (.getfield 159, 3) := by decide +kernel
theorem dX8_count_83 : decode cX8_count 83 = .ok (.ireturn, 1) := by decide +kernel
theorem dX8_count_84 : decode cX8_count 84 = .ok (.aload_n 0, 1) := by decide +kernel
theorem dX8_count_85 : decode cX8_count 85 = .ok (.getfield 12, 3) := by decide +kernel
theorem dX8_count_88 : decode cX8_count 88 = .ok (.getfield 111, 3) := by decide +kernel
theorem dX8_count_91 : decode cX8_count 91 = .ok (.iconst 4, 1) := by decide +kernel
theorem dX8_count_92 : decode cX8_count 92 = .ok (.aload_n 0, 1) := by decide +kernel
theorem dX8_count_93 : decode cX8_count 93 = .ok (.invokevirtual 140, 3) := by decide +kernel
theorem dX8_count_96 : decode cX8_count 96 = .ok (.getfield 159, 3) := by decide +kernel
theorem dX8_count_99 : decode cX8_count 99 = .ok (.imul, 1) := by decide +kernel
theorem dX8_count_100 : decode cX8_count 100 = .ok (.isub, 1) := by decide +kernel
theorem dX8_count_101 : decode cX8_count 101 = .ok (.ireturn, 1) := by decide +kernel
theorem dX8_count_102 : decode cX8_count 102 = .ok (.aload_n 0, 1) := by decide +kernel
theorem dX8_count_103 : decode cX8_count 103 = .ok (.invokevirtual 140, 3) := by decide +kernel
theorem dX8_count_106 : decode cX8_count 106 = .ok (.invokevirtual 160, 3) := by decide +kernel
theorem dX8_count_109 : decode cX8_count 109 = .ok (.ireturn, 1) := by decide +kernel
theorem dX8_count_110 : decode cX8_count 110 = .ok (.aload_n 0, 1) := by decide +kernel
theorem dX8_count_111 : decode cX8_count 111 = .ok (.invokevirtual 140, 3) := by decide +kernel
theorem dX8_count_114 : decode cX8_count 114 = .ok (.invokevirtual 163, 3) := by decide +kernel
theorem dX8_count_117 : decode cX8_count 117 = .ok (.ireturn, 1) := by decide +kernel
theorem dX8_count_118 : decode cX8_count 118 = .ok (.aload_n 0, 1) := by decide +kernel
theorem dX8_count_119 : decode cX8_count 119 = .ok (.invokevirtual 140, 3) := by decide +kernel
theorem dX8_count_122 : decode cX8_count 122 = .ok (.invokevirtual 166, 3) := by decide +kernel
theorem dX8_count_125 : decode cX8_count 125 = .ok (.ireturn, 1) := by decide +kernel
theorem dX8_count_126 : decode cX8_count 126 = .ok (.aload_n 0, 1) := by decide +kernel
theorem dX8_count_127 : decode cX8_count 127 = .ok (.invokevirtual 140, 3) := by decide +kernel
theorem dX8_count_130 : decode cX8_count 130 = .ok (.aload_n 0, 1) := by decide +kernel
theorem dX8_count_131 : decode cX8_count 131 = .ok (.getfield 41, 3) := by decide +kernel
theorem dX8_count_134 : decode cX8_count 134 = .ok (.invokevirtual 169, 3) := by decide +kernel
theorem dX8_count_137 : decode cX8_count 137 = .ok (.ireturn, 1) := by decide +kernel
theorem dX8_count_138 : decode cX8_count 138 = .ok (.aload_n 0, 1) := by decide +kernel
theorem dX8_count_139 : decode cX8_count 139 = .ok (.getfield 12, 3) := by decide +kernel
theorem dX8_count_142 : decode cX8_count 142 = .ok (.getfield 73, 3) := by decide +kernel
theorem dX8_count_145 : decode cX8_count 145 = .ok (.iconst 0, 1) := by decide +kernel
theorem dX8_count_146 : decode cX8_count 146 = .ok (.iaload, 1) := by decide +kernel
theorem dX8_count_147 : decode cX8_count 147 = .ok (.invokestatic 173, 3) := by decide +kernel
theorem dX8_count_150 : decode cX8_count 150 = .ok (.ireturn, 1) := by decide +kernel
theorem dX8_count_151 : decode cX8_count 151 = .ok (.aload_n 0, 1) := by decide +kernel
theorem dX8_count_152 : decode cX8_count 152 = .ok (.getfield 12, 3) := by decide +kernel
theorem dX8_count_155 : decode cX8_count 155 = .ok (.getfield 73, 3) := by decide +kernel
theorem dX8_count_158 : decode cX8_count 158 = .ok (.iconst 0, 1) := by decide +kernel
theorem dX8_count_159 : decode cX8_count 159 = .ok (.iaload, 1) := by decide +kernel
theorem dX8_count_160 : decode cX8_count 160 = .ok (.bipush 100, 2) := by decide +kernel
theorem dX8_count_162 : decode cX8_count 162 = .ok (.iadd, 1) := by decide +kernel
theorem dX8_count_163 : decode cX8_count 163 = .ok (.ireturn, 1) := by decide +kernel
theorem dX8_count_164 : decode cX8_count 164 = .ok (.aload_n 0, 1) := by decide +kernel
theorem dX8_count_165 : decode cX8_count 165 = .ok (.getfield 12, 3) := by decide +kernel
theorem dX8_count_168 : decode cX8_count 168 = .ok (.getfield 73, 3) := by decide +kernel
theorem dX8_count_171 : decode cX8_count 171 = .ok (.iconst 1, 1) := by decide +kernel
theorem dX8_count_172 : decode cX8_count 172 = .ok (.iaload, 1) := by decide +kernel
theorem dX8_count_173 : decode cX8_count 173 = .ok (.ireturn, 1) := by decide +kernel
theorem dX8_count_174 : decode cX8_count 174 = .ok (.aload_n 0, 1) := by decide +kernel
theorem dX8_count_175 : decode cX8_count 175 = .ok (.getfield 12, 3) := by decide +kernel
theorem dX8_count_178 : decode cX8_count 178 = .ok (.getfield 73, 3) := by decide +kernel
theorem dX8_count_181 : decode cX8_count 181 = .ok (.iconst 2, 1) := by decide +kernel
theorem dX8_count_182 : decode cX8_count 182 = .ok (.iaload, 1) := by decide +kernel
theorem dX8_count_183 : decode cX8_count 183 = .ok (.ireturn, 1) := by decide +kernel
theorem dX8_count_184 : decode cX8_count 184 = .ok (.aload_n 0, 1) := by decide +kernel
theorem dX8_count_185 : decode cX8_count 185 = .ok (.getfield 34, 3) := by decide +kernel
theorem dX8_count_188 : decode cX8_count 188 = .ok (.getfield 125, 3) := by decide +kernel
theorem dX8_count_191 : decode cX8_count 191 = .ok (.ireturn, 1) := by decide +kernel
theorem dX8_count_192 : decode cX8_count 192 = .ok (.aload_n 0, 1) := by decide +kernel
theorem dX8_count_193 : decode cX8_count 193 = .ok (.getfield 19, 3) := by decide +kernel
theorem dX8_count_196 : decode cX8_count 196 = .ok (.getfield 176, 3) := by decide +kernel
theorem dX8_count_199 : decode cX8_count 199 = .ok (.ireturn, 1) := by decide +kernel
theorem dX8_count_200 : decode cX8_count 200 = .ok (.bipush (-2), 2) := by decide +kernel
