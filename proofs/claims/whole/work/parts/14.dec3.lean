theorem dX8_count_202 : decode cX8_count 202 = .ok (.ireturn, 1) := by decide +kernel
theorem dX8_fits_0 : decode cX8_fits 0 = .ok (.aload_n 0, 1) := by decide +kernel
theorem dX8_fits_1 : decode cX8_fits 1 = .ok (.invokevirtual 140, 3) := by decide +kernel
theorem dX8_fits_4 : decode cX8_fits 4 = .ok (.astore 4, 2) := by decide +kernel
theorem dX8_fits_6 : decode cX8_fits 6 = .ok (.aload 4, 2) := by decide +kernel
theorem dX8_fits_8 : decode cX8_fits 8 = .ok (.iload_n 1, 1) := by decide +kernel
theorem dX8_fits_9 : decode cX8_fits 9 = .ok (.invokevirtual 147, 3) := by decide +kernel
theorem dX8_fits_12 : decode cX8_fits 12 = .ok (.ifCond .eq 11, 3) := by decide +kernel
theorem dX8_fits_15 : decode cX8_fits 15 = .ok (.iload_n 2, 1) := by decide +kernel
theorem dX8_fits_16 : decode cX8_fits 16 = .ok (.iload_n 3, 1) := by decide +kernel
theorem dX8_fits_17 : decode cX8_fits 17 = .ok (.invokestatic 95, 3) := by decide +kernel
theorem dX8_fits_20 : decode cX8_fits 20 = .ok (.ifCond .ne 5, 3) := by decide +kernel
theorem dX8_fits_23 : decode cX8_fits 23 = .ok (.iconst (-1), 1) := by decide +kernel
theorem dX8_fits_24 : decode cX8_fits 24 = .ok (.ireturn, 1) := by decide +kernel
theorem dX8_fits_25 : decode cX8_fits 25 = .ok (.aload_n 0, 1) := by decide +kernel
theorem dX8_fits_26 : decode cX8_fits 26 = .ok (.getfield 48, 3) := by decide +kernel
theorem dX8_fits_29 : decode cX8_fits 29 = .ok (.aload_n 0, 1) := by decide +kernel
theorem dX8_fits_30 : decode cX8_fits 30 = .ok (.getfield 41, 3) := by decide +kernel
theorem dX8_fits_33 : decode cX8_fits 33 = .ok (.aload_n 0, 1) := by decide +kernel
theorem dX8_fits_34 : decode cX8_fits 34 = .ok (.getfield 12, 3) := by decide +kernel
theorem dX8_fits_37 : decode cX8_fits 37 = .ok (.aload 4, 2) := by decide +kernel
theorem dX8_fits_39 : decode cX8_fits 39 = .ok (.getfield 150, 3) := by decide +kernel
theorem dX8_fits_42 : decode cX8_fits 42 = .ok (.iload_n 1, 1) := by decide +kernel
theorem dX8_fits_43 : decode cX8_fits 43 = .ok (.aaload, 1) := by decide +kernel
theorem dX8_fits_44 : decode cX8_fits 44 = .ok (.iload_n 2, 1) := by decide +kernel
theorem dX8_fits_45 : decode cX8_fits 45 = .ok (.iload_n 3, 1) := by decide +kernel
theorem dX8_fits_46 : decode cX8_fits 46 = .ok (.invokevirtual 177, 3) := by decide +kernel
theorem dX8_fits_49 : decode cX8_fits 49 = .ok (.ireturn, 1) := by decide +kernel
theorem dX8_mean_0 : decode cX8_mean 0 = .ok (.iload_n 1, 1) := by decide +kernel
theorem dX8_mean_1 : decode cX8_mean 1 = .ok (.ifCond .eq 11, 3) := by decide +kernel
theorem dX8_mean_4 : decode cX8_mean 4 = .ok (.iload_n 1, 1) := by decide +kernel
theorem dX8_mean_5 : decode cX8_mean 5 = .ok (.iconst 1, 1) := by decide +kernel
theorem dX8_mean_6 : decode cX8_mean 6 = .ok (.if_icmp .eq 6, 3) := by decide +kernel
theorem dX8_mean_9 : decode cX8_mean 9 = .ok (.bipush (-2), 2) := by decide +kernel
theorem dX8_mean_11 : decode cX8_mean 11 = .ok (.ireturn, 1) := by decide +kernel
theorem dX8_mean_12 : decode cX8_mean 12 = .ok (.aload_n 0, 1) := by decide +kernel
theorem dX8_mean_13 : decode cX8_mean 13 = .ok (.invokevirtual 140, 3) := by decide +kernel
theorem dX8_mean_16 : decode cX8_mean 16 = .ok (.astore_n 2, 1) := by decide +kernel
theorem dX8_mean_17 : decode cX8_mean 17 = .ok (.aload_n 2, 1) := by decide +kernel
theorem dX8_mean_18 : decode cX8_mean 18 = .ok (.getfield 159, 3) := by decide +kernel
theorem dX8_mean_21 : decode cX8_mean 21 = .ok (.ifCond .ne 6, 3) := by decide +kernel
theorem dX8_mean_24 : decode cX8_mean 24 = .ok (.bipush (-6), 2) := by decide +kernel
theorem dX8_mean_26 : decode cX8_mean 26 = .ok (.ireturn, 1) := by decide +kernel
theorem dX8_mean_27 : decode cX8_mean 27 = .ok (.iload_n 1, 1) := by decide +kernel
theorem dX8_mean_28 : decode cX8_mean 28 = .ok (.ifCond .ne 10, 3) := by decide +kernel
theorem dX8_mean_31 : decode cX8_mean 31 = .ok (.aload_n 2, 1) := by decide +kernel
theorem dX8_mean_32 : decode cX8_mean 32 = .ok (.invokevirtual 181, 3) := by decide +kernel
theorem dX8_mean_35 : decode cX8_mean 35 = .ok (.goto 7, 3) := by decide +kernel
theorem dX8_mean_38 : decode cX8_mean 38 = .ok (.aload_n 2, 1) := by decide +kernel
theorem dX8_mean_39 : decode cX8_mean 39 = .ok (.invokevirtual 184, 3) := by decide +kernel
theorem dX8_mean_42 : decode cX8_mean 42 = .ok (.bipush 100, 2) := by decide +kernel
theorem dX8_mean_44 : decode cX8_mean 44 = .ok (.imul, 1) := by decide +kernel
theorem dX8_mean_45 : decode cX8_mean 45 = .ok (.aload_n 2, 1) := by decide +kernel
theorem dX8_mean_46 : decode cX8_mean 46 = .ok (.getfield 159, 3) := by decide +kernel
theorem dX8_mean_49 : decode cX8_mean 49 = .ok (.idiv, 1) := by decide +kernel
theorem dX8_mean_50 : decode cX8_mean 50 = .ok (.ireturn, 1) := by decide +kernel
theorem dX8_ifHeat_0 : decode cX8_ifHeat 0 = .ok (.iload_n 1, 1) := by decide +kernel
theorem dX8_ifHeat_1 : decode cX8_ifHeat 1 = .ok (.getstatic 66, 3) := by decide +kernel
theorem dX8_ifHeat_4 : decode cX8_ifHeat 4 = .ok (.iconst 0, 1) := by decide +kernel
theorem dX8_ifHeat_5 : decode cX8_ifHeat 5 = .ok (.iaload, 1) := by decide +kernel
theorem dX8_ifHeat_6 : decode cX8_ifHeat 6 = .ok (.if_icmp .lt 12, 3) := by decide +kernel
theorem dX8_ifHeat_9 : decode cX8_ifHeat 9 = .ok (.iload_n 1, 1) := by decide +kernel
theorem dX8_ifHeat_10 : decode cX8_ifHeat 10 = .ok (.getstatic 70, 3) := by decide +kernel
theorem dX8_ifHeat_13 : decode cX8_ifHeat 13 = .ok (.iconst 0, 1) := by decide +kernel
theorem dX8_ifHeat_14 : decode cX8_ifHeat 14 = .ok (.iaload, 1) := by decide +kernel
theorem dX8_ifHeat_15 : decode cX8_ifHeat 15 = .ok (.if_icmp .le 6, 3) := by decide +kernel
theorem dX8_ifHeat_18 : decode cX8_ifHeat 18 = .ok (.bipush (-2), 2) := by decide +kernel
theorem dX8_ifHeat_20 : decode cX8_ifHeat 20 = .ok (.ireturn, 1) := by decide +kernel
theorem dX8_ifHeat_21 : decode cX8_ifHeat 21 = .ok (.iload_n 2, 1) := by decide +kernel
theorem dX8_ifHeat_22 : decode cX8_ifHeat 22 = .ok (.ifCond .lt 8, 3) := by decide +kernel
theorem dX8_ifHeat_25 : decode cX8_ifHeat 25 = .ok (.iload_n 2, 1) := by decide +kernel
theorem dX8_ifHeat_26 : decode cX8_ifHeat 26 = .ok (.iconst 2, 1) := by decide +kernel
theorem dX8_ifHeat_27 : decode cX8_ifHeat 27 = .ok (.if_icmp .le 6, 3) := by decide +kernel
theorem dX8_ifHeat_30 : decode cX8_ifHeat 30 = .ok (.bipush (-2), 2) := by decide +kernel
theorem dX8_ifHeat_32 : decode cX8_ifHeat 32 = .ok (.ireturn, 1) := by decide +kernel
theorem dX8_ifHeat_33 : decode cX8_ifHeat 33 = .ok (.aload_n 0, 1) := by decide +kernel
theorem dX8_ifHeat_34 : decode cX8_ifHeat 34 = .ok (.iload_n 1, 1) := by decide +kernel
theorem dX8_ifHeat_35 : decode cX8_ifHeat 35 = .ok (.iconst (-1), 1) := by decide +kernel
theorem dX8_ifHeat_36 : decode cX8_ifHeat 36 = .ok (.invokevirtual 187, 3) := by decide +kernel
theorem dX8_ifHeat_39 : decode cX8_ifHeat 39 = .ok (.iload_n 2, 1) := by decide +kernel
theorem dX8_ifHeat_40 : decode cX8_ifHeat 40 = .ok (.lookupswitch 44 #[(0, 28), (1, 36)], 28) := by decide +kernel
theorem dX8_ifHeat_68 : decode cX8_ifHeat 68 = .ok (.aload_n 0, 1) := by decide +kernel
theorem dX8_ifHeat_69 : decode cX8_ifHeat 69 = .ok (.getfield 59, 3) := by decide +kernel
theorem dX8_ifHeat_72 : decode cX8_ifHeat 72 = .ok (.getfield 159, 3) := by decide +kernel
theorem dX8_ifHeat_75 : decode cX8_ifHeat 75 = .ok (.ireturn, 1) := by decide +kernel
theorem dX8_ifHeat_76 : decode cX8_ifHeat 76 = .ok (.aload_n 0, 1) := by decide +kernel
theorem dX8_ifHeat_77 : decode cX8_ifHeat 77 = .ok (.getfield 59, 3) := by decide +kernel
theorem dX8_ifHeat_80 : decode cX8_ifHeat 80 = .ok (.invokevirtual 160, 3) := by decide +kernel
theorem dX8_ifHeat_83 : decode cX8_ifHeat 83 = .ok (.ireturn, 1) := by decide +kernel
theorem dX8_ifHeat_84 : decode cX8_ifHeat 84 = .ok (.aload_n 0, 1) := by decide +kernel
theorem dX8_ifHeat_85 : decode cX8_ifHeat 85 = .ok (.getfield 59, 3) := by decide +kernel
theorem dX8_ifHeat_88 : decode cX8_ifHeat 88 = .ok (.invokevirtual 166, 3) := by decide +kernel
theorem dX8_ifHeat_91 : decode cX8_ifHeat 91 = .ok (.ireturn, 1) := by decide +kernel
theorem dX8_bestHeat_0 : decode cX8_bestHeat 0 = .ok (.getstatic 66, 3) := by decide +kernel
theorem dX8_bestHeat_3 : decode cX8_bestHeat 3 = .ok (.iconst 0, 1) := by decide +kernel
theorem dX8_bestHeat_4 : decode cX8_bestHeat 4 = .ok (.iaload, 1) := by decide +kernel
theorem dX8_bestHeat_5 : decode cX8_bestHeat 5 = .ok (.istore_n 1, 1) := by decide +kernel
theorem dX8_bestHeat_6 : decode cX8_bestHeat 6 = .ok (.iconst (-1), 1) := by decide +kernel
theorem dX8_bestHeat_7 : decode cX8_bestHeat 7 = .ok (.istore_n 2, 1) := by decide +kernel
theorem dX8_bestHeat_8 : decode cX8_bestHeat 8 = .ok (.iconst 0, 1) := by decide +kernel
theorem dX8_bestHeat_9 : decode cX8_bestHeat 9 = .ok (.istore_n 3, 1) := by decide +kernel
theorem dX8_bestHeat_10 : decode cX8_bestHeat 10 = .ok (.getstatic 66, 3) := by decide +kernel
theorem dX8_bestHeat_13 : decode cX8_bestHeat 13 = .ok (.iconst 0, 1) := by decide +kernel
theorem dX8_bestHeat_14 : decode cX8_bestHeat 14 = .ok (.iaload, 1) := by decide +kernel
theorem dX8_bestHeat_15 : decode cX8_bestHeat 15 = .ok (.istore 4, 2) := by decide +kernel
theorem dX8_bestHeat_17 : decode cX8_bestHeat 17 = .ok (.iload 4, 2) := by decide +kernel
theorem dX8_bestHeat_19 : decode cX8_bestHeat 19 = .ok (.getstatic 70, 3) := by decide +kernel
theorem dX8_bestHeat_22 : decode cX8_bestHeat 22 = .ok (.iconst 0, 1) := by decide +kernel
theorem dX8_bestHeat_23 : decode cX8_bestHeat 23 = .ok (.iaload, 1) := by decide +kernel
theorem dX8_bestHeat_24 : decode cX8_bestHeat 24 = .ok (.if_icmp .gt 67, 3) := by decide +kernel
theorem dX8_bestHeat_27 : decode cX8_bestHeat 27 = .ok (.aload_n 0, 1) := by decide +kernel
theorem dX8_bestHeat_28 : decode cX8_bestHeat 28 = .ok (.iload 4, 2) := by decide +kernel
theorem dX8_bestHeat_30 : decode cX8_bestHeat 30 = .ok (.iconst (-1), 1) := by decide +kernel
theorem dX8_bestHeat_31 : decode cX8_bestHeat 31 = .ok (.invokevirtual 187, 3) := by decide +kernel
theorem dX8_bestHeat_34 : decode cX8_bestHeat 34 = .ok (.aload_n 0, 1) := by decide +kernel
theorem dX8_bestHeat_35 : decode cX8_bestHeat 35 = .ok (.getfield 59, 3) := by decide +kernel
theorem dX8_bestHeat_38 : decode cX8_bestHeat 38 = .ok (.invokevirtual 166, 3) := by decide +kernel
theorem dX8_bestHeat_41 : decode cX8_bestHeat 41 = .ok (.istore 5, 2) := by decide +kernel
theorem dX8_bestHeat_43 : decode cX8_bestHeat 43 = .ok (.aload_n 0, 1) := by decide +kernel
theorem dX8_bestHeat_44 : decode cX8_bestHeat 44 = .ok (.getfield 59, 3) := by decide +kernel
theorem dX8_bestHeat_47 : decode cX8_bestHeat 47 = .ok (.getfield 159, 3) := by decide +kernel
theorem dX8_bestHeat_50 : decode cX8_bestHeat 50 = .ok (.iload_n 2, 1) := by decide +kernel
theorem dX8_bestHeat_51 : decode cX8_bestHeat 51 = .ok (.if_icmp .gt 20, 3) := by decide +kernel
theorem dX8_bestHeat_54 : decode cX8_bestHeat 54 = .ok (.aload_n 0, 1) := by decide +kernel
theorem dX8_bestHeat_55 : decode cX8_bestHeat 55 = .ok (.getfield 59, 3) := by decide +kernel
theorem dX8_bestHeat_58 : decode cX8_bestHeat 58 = .ok (.getfield 159, 3) := by decide +kernel
theorem dX8_bestHeat_61 : decode cX8_bestHeat 61 = .ok (.iload_n 2, 1) := by decide +kernel
theorem dX8_bestHeat_62 : decode cX8_bestHeat 62 = .ok (.if_icmp .ne 23, 3) := by decide +kernel
theorem dX8_bestHeat_65 : decode cX8_bestHeat 65 = .ok (.iload 5, 2) := by decide +kernel
theorem dX8_bestHeat_67 : decode cX8_bestHeat 67 = .ok (.iload_n 3, 1) := by decide +kernel
theorem dX8_bestHeat_68 : decode cX8_bestHeat 68 = .ok (.if_icmp .ge 17, 3) := by decide +kernel
theorem dX8_bestHeat_71 : decode cX8_bestHeat 71 = .ok (.iload 4, 2) := by decide +kernel
theorem dX8_bestHeat_73 : decode cX8_bestHeat 73 = .ok (.istore_n 1, 1) := by decide +kernel
theorem dX8_bestHeat_74 : decode cX8_bestHeat 74 = .ok (.aload_n 0, 1) := by decide +kernel
theorem dX8_bestHeat_75 : decode cX8_bestHeat 75 = .ok (.getfield 59, 3) := by decide +kernel
theorem dX8_bestHeat_78 : decode cX8_bestHeat 78 = .ok (.getfield 159, 3) := by decide +kernel
theorem dX8_bestHeat_81 : decode cX8_bestHeat 81 = .ok (.istore_n 2, 1) := by decide +kernel
theorem dX8_bestHeat_82 : decode cX8_bestHeat 82 = .ok (.iload 5, 2) := by decide +kernel
theorem dX8_bestHeat_84 : decode cX8_bestHeat 84 = .ok (.istore_n 3, 1) := by decide +kernel
theorem dX8_bestHeat_85 : decode cX8_bestHeat 85 = .ok (.iinc 4 10, 3) := by decide +kernel
theorem dX8_bestHeat_88 : decode cX8_bestHeat 88 = .ok (.goto (-71), 3) := by decide +kernel
theorem dX8_bestHeat_91 : decode cX8_bestHeat 91 = .ok (.iload_n 1, 1) := by decide +kernel
theorem dX8_bestHeat_92 : decode cX8_bestHeat 92 = .ok (.bipush 100, 2) := by decide +kernel
theorem dX8_bestHeat_94 : decode cX8_bestHeat 94 = .ok (.iadd, 1) := by decide +kernel
theorem dX8_bestHeat_95 : decode cX8_bestHeat 95 = .ok (.ireturn, 1) := by decide +kernel
theorem dX8_ifForgot_0 : decode cX8_ifForgot 0 = .ok (.aload_n 0, 1) := by decide +kernel
theorem dX8_ifForgot_1 : decode cX8_ifForgot 1 = .ok (.getfield 12, 3) := by decide +kernel
theorem dX8_ifForgot_4 : decode cX8_ifForgot 4 = .ok (.iload_n 1, 1) := by decide +kernel
theorem dX8_ifForgot_5 : decode cX8_ifForgot 5 = .ok (.invokevirtual 128, 3) := by decide +kernel
theorem dX8_ifForgot_8 : decode cX8_ifForgot 8 = .ok (.ifCond .ne 5, 3) := by decide +kernel
theorem dX8_ifForgot_11 : decode cX8_ifForgot 11 = .ok (.iconst (-1), 1) := by decide +kernel
theorem dX8_ifForgot_12 : decode cX8_ifForgot 12 = .ok (.ireturn, 1) := by decide +kernel
theorem dX8_ifForgot_13 : decode cX8_ifForgot 13 = .ok (.aload_n 0, 1) := by decide +kernel
theorem dX8_ifForgot_14 : decode cX8_ifForgot 14 = .ok (.aload_n 0, 1) := by decide +kernel
theorem dX8_ifForgot_15 : decode cX8_ifForgot 15 = .ok (.getfield 12, 3) := by decide +kernel
theorem dX8_ifForgot_18 : decode cX8_ifForgot 18 = .ok (.getfield 73, 3) := by decide +kernel
theorem dX8_ifForgot_21 : decode cX8_ifForgot 21 = .ok (.iconst 0, 1) := by decide +kernel
theorem dX8_ifForgot_22 : decode cX8_ifForgot 22 = .ok (.iaload, 1) := by decide +kernel
theorem dX8_ifForgot_23 : decode cX8_ifForgot 23 = .ok (.iload_n 1, 1) := by decide +kernel
theorem dX8_ifForgot_24 : decode cX8_ifForgot 24 = .ok (.invokevirtual 187, 3) := by decide +kernel
theorem dX8_ifForgot_27 : decode cX8_ifForgot 27 = .ok (.aload_n 0, 1) := by decide +kernel
theorem dX8_ifForgot_28 : decode cX8_ifForgot 28 = .ok (.getfield 59, 3) := by decide +kernel
theorem dX8_ifForgot_31 : decode cX8_ifForgot 31 = .ok (.getfield 159, 3) := by decide +kernel
theorem dX8_ifForgot_34 : decode cX8_ifForgot 34 = .ok (.ireturn, 1) := by decide +kernel
theorem dX8_put_0 : decode cX8_put 0 = .ok (.iconst 0, 1) := by decide +kernel
theorem dX8_put_1 : decode cX8_put 1 = .ok (.istore_n 3, 1) := by decide +kernel
theorem dX8_put_2 : decode cX8_put 2 = .ok (.lload_n 1, 1) := by decide +kernel
theorem dX8_put_3 : decode cX8_put 3 = .ok (.lstore 4, 2) := by decide +kernel
theorem dX8_put_5 : decode cX8_put 5 = .ok (.iload_n 3, 1) := by decide +kernel
theorem dX8_put_6 : decode cX8_put 6 = .ok (.bipush 8, 2) := by decide +kernel
theorem dX8_put_8 : decode cX8_put 8 = .ok (.if_icmp .ge 56, 3) := by decide +kernel
theorem dX8_put_11 : decode cX8_put 11 = .ok (.lload 4, 2) := by decide +kernel
theorem dX8_put_13 : decode cX8_put 13 = .ok (.ldc2_w 191, 3) := by decide +kernel
theorem dX8_put_16 : decode cX8_put 16 = .ok (.land, 1) := by decide +kernel
theorem dX8_put_17 : decode cX8_put 17 = .ok (.lconst 0, 1) := by decide +kernel
theorem dX8_put_18 : decode cX8_put 18 = .ok (.lcmp, 1) := by decide +kernel
theorem dX8_put_19 : decode cX8_put 19 = .ok (.ifCond .eq 45, 3) := by decide +kernel
theorem dX8_put_22 : decode cX8_put 22 = .ok (.lload 4, 2) := by decide +kernel
theorem dX8_put_24 : decode cX8_put 24 = .ok (.ldc2_w 191, 3) := by decide +kernel
theorem dX8_put_27 : decode cX8_put 27 = .ok (.land, 1) := by decide +kernel
theorem dX8_put_28 : decode cX8_put 28 = .ok (.lstore 6, 2) := by decide +kernel
theorem dX8_put_30 : decode cX8_put 30 = .ok (.lload 6, 2) := by decide +kernel
theorem dX8_put_32 : decode cX8_put 32 = .ok (.ldc2_w 193, 3) := by decide +kernel
theorem dX8_put_35 : decode cX8_put 35 = .ok (.lcmp, 1) := by decide +kernel
theorem dX8_put_36 : decode cX8_put 36 = .ok (.ifCond .lt 12, 3) := by decide +kernel
theorem dX8_put_39 : decode cX8_put 39 = .ok (.lload 6, 2) := by decide +kernel
theorem dX8_put_41 : decode cX8_put 41 = .ok (.ldc2_w 195, 3) := by decide +kernel
theorem dX8_put_44 : decode cX8_put 44 = .ok (.lcmp, 1) := by decide +kernel
theorem dX8_put_45 : decode cX8_put 45 = .ok (.ifCond .le 6, 3) := by decide +kernel
theorem dX8_put_48 : decode cX8_put 48 = .ok (.bipush (-2), 2) := by decide +kernel
theorem dX8_put_50 : decode cX8_put 50 = .ok (.ireturn, 1) := by decide +kernel
theorem dX8_put_51 : decode cX8_put 51 = .ok (.lload 4, 2) := by decide +kernel
theorem dX8_put_53 : decode cX8_put 53 = .ok (.bipush 8, 2) := by decide +kernel
theorem dX8_put_55 : decode cX8_put 55 = .ok (.lushr, 1) := by decide +kernel
theorem dX8_put_56 : decode cX8_put 56 = .ok (.lstore 4, 2) := by decide +kernel
theorem dX8_put_58 : decode cX8_put 58 = .ok (.iinc 3 1, 3) := by decide +kernel
theorem dX8_put_61 : decode cX8_put 61 = .ok (.goto (-56), 3) := by decide +kernel
theorem dX8_put_64 : decode cX8_put 64 = .ok (.iload_n 3, 1) := by decide +kernel
theorem dX8_put_65 : decode cX8_put 65 = .ok (.ifCond .eq 10, 3) := by decide +kernel
theorem dX8_put_68 : decode cX8_put 68 = .ok (.lload 4, 2) := by decide +kernel
theorem dX8_put_70 : decode cX8_put 70 = .ok (.lconst 0, 1) := by decide +kernel
theorem dX8_put_71 : decode cX8_put 71 = .ok (.lcmp, 1) := by decide +kernel
theorem dX8_put_72 : decode cX8_put 72 = .ok (.ifCond .eq 6, 3) := by decide +kernel
theorem dX8_put_75 : decode cX8_put 75 = .ok (.bipush (-2), 2) := by decide +kernel
theorem dX8_put_77 : decode cX8_put 77 = .ok (.ireturn, 1) := by decide +kernel
theorem dX8_put_78 : decode cX8_put 78 = .ok (.aload_n 0, 1) := by decide +kernel
theorem dX8_put_79 : decode cX8_put 79 = .ok (.getfield 34, 3) := by decide +kernel
theorem dX8_put_82 : decode cX8_put 82 = .ok (.getfield 125, 3) := by decide +kernel
theorem dX8_put_85 : decode cX8_put 85 = .ok (.iload_n 3, 1) := by decide +kernel
theorem dX8_put_86 : decode cX8_put 86 = .ok (.iadd, 1) := by decide +kernel
theorem dX8_put_87 : decode cX8_put 87 = .ok (.bipush 80, 2) := by decide +kernel
theorem dX8_put_89 : decode cX8_put 89 = .ok (.if_icmp .le 6, 3) := by decide +kernel
theorem dX8_put_92 : decode cX8_put 92 = .ok (.bipush (-4), 2) := by decide +kernel
theorem dX8_put_94 : decode cX8_put 94 = .ok (.ireturn, 1) := by decide +kernel
theorem dX8_put_95 : decode cX8_put 95 = .ok (.iload_n 3, 1) := by decide +kernel
theorem dX8_put_96 : decode cX8_put 96 = .ok (.iconst 1, 1) := by decide +kernel
theorem dX8_put_97 : decode cX8_put 97 = .ok (.isub, 1) := by decide +kernel
theorem dX8_put_98 : decode cX8_put 98 = .ok (.istore 6, 2) := by decide +kernel
theorem dX8_put_100 : decode cX8_put 100 = .ok (.iload 6, 2) := by decide +kernel
theorem dX8_put_102 : decode cX8_put 102 = .ok (.ifCond .lt 29, 3) := by decide +kernel
theorem dX8_put_105 : decode cX8_put 105 = .ok (.aload_n 0, 1) := by decide +kernel
theorem dX8_put_106 : decode cX8_put 106 = .ok (.getfield 34, 3) := by decide +kernel
theorem dX8_put_109 : decode cX8_put 109 = .ok (.lload_n 1, 1) := by decide +kernel
theorem dX8_put_110 : decode cX8_put 110 = .ok (.bipush 8, 2) := by decide +kernel
theorem dX8_put_112 : decode cX8_put 112 = .ok (.iload 6, 2) := by decide +kernel
theorem dX8_put_114 : decode cX8_put 114 = .ok (.imul, 1) := by decide +kernel
theorem dX8_put_115 : decode cX8_put 115 = .ok (.lushr, 1) := by decide +kernel
theorem dX8_put_116 : decode cX8_put 116 = .ok (.ldc2_w 191, 3) := by decide +kernel
theorem dX8_put_119 : decode cX8_put 119 = .ok (.land, 1) := by decide +kernel
theorem dX8_put_120 : decode cX8_put 120 = .ok (.l2i, 1) := by decide +kernel
theorem dX8_put_121 : decode cX8_put 121 = .ok (.i2c, 1) := by decide +kernel
theorem dX8_put_122 : decode cX8_put 122 = .ok (.invokevirtual 197, 3) := by decide +kernel
theorem dX8_put_125 : decode cX8_put 125 = .ok (.iinc 6 (-1), 3) := by decide +kernel
theorem dX8_put_128 : decode cX8_put 128 = .ok (.goto (-28), 3) := by decide +kernel
theorem dX8_put_131 : decode cX8_put 131 = .ok (.aload_n 0, 1) := by decide +kernel
theorem dX8_put_132 : decode cX8_put 132 = .ok (.getfield 34, 3) := by decide +kernel
theorem dX8_put_135 : decode cX8_put 135 = .ok (.getfield 125, 3) := by decide +kernel
theorem dX8_put_138 : decode cX8_put 138 = .ok (.ireturn, 1) := by decide +kernel
theorem dX8_wipe_0 : decode cX8_wipe 0 = .ok (.aload_n 0, 1) := by decide +kernel
theorem dX8_wipe_1 : decode cX8_wipe 1 = .ok (.getfield 34, 3) := by decide +kernel
theorem dX8_wipe_4 : decode cX8_wipe 4 = .ok (.getfield 125, 3) := by decide +kernel
theorem dX8_wipe_7 : decode cX8_wipe 7 = .ok (.istore_n 1, 1) := by decide +kernel
theorem dX8_wipe_8 : decode cX8_wipe 8 = .ok (.aload_n 0, 1) := by decide +kernel
theorem dX8_wipe_9 : decode cX8_wipe 9 = .ok (.getfield 34, 3) := by decide +kernel
theorem dX8_wipe_12 : decode cX8_wipe 12 = .ok (.iconst 0, 1) := by decide +kernel
theorem dX8_wipe_13 : decode cX8_wipe 13 = .ok (.putfield 125, 3) := by decide +kernel
theorem dX8_wipe_16 : decode cX8_wipe 16 = .ok (.iload_n 1, 1) := by decide +kernel
theorem dX8_wipe_17 : decode cX8_wipe 17 = .ok (.ireturn, 1) := by decide +kernel
theorem dX8_fault_0 : decode cX8_fault 0 = .ok (.aload_n 0, 1) := by decide +kernel
theorem dX8_fault_1 : decode cX8_fault 1 = .ok (.getfield 34, 3) := by decide +kernel
theorem dX8_fault_4 : decode cX8_fault 4 = .ok (.invokevirtual 115, 3) := by decide +kernel
theorem dX8_fault_7 : decode cX8_fault 7 = .ok (.ireturn, 1) := by decide +kernel
theorem dX8_undo_0 : decode cX8_undo 0 = .ok (.aload_n 0, 1) := by decide +kernel
theorem dX8_undo_1 : decode cX8_undo 1 = .ok (.getfield 19, 3) := by decide +kernel
theorem dX8_undo_4 : decode cX8_undo 4 = .ok (.getfield 176, 3) := by decide +kernel
theorem dX8_undo_7 : decode cX8_undo 7 = .ok (.ifCond .ne 6, 3) := by decide +kernel
theorem dX8_undo_10 : decode cX8_undo 10 = .ok (.bipush (-5), 2) := by decide +kernel
theorem dX8_undo_12 : decode cX8_undo 12 = .ok (.ireturn, 1) := by decide +kernel
theorem dX8_undo_13 : decode cX8_undo 13 = .ok (.aload_n 0, 1) := by decide +kernel
theorem dX8_undo_14 : decode cX8_undo 14 = .ok (.getfield 19, 3) := by decide +kernel
theorem dX8_undo_17 : decode cX8_undo 17 = .ok (.aload_n 0, 1) := by decide +kernel
theorem dX8_undo_18 : decode cX8_undo 18 = .ok (.getfield 12, 3) := by decide +kernel
theorem dX8_undo_21 : decode cX8_undo 21 = .ok (.invokevirtual 201, 3) := by decide +kernel
theorem dX8_undo_24 : decode cX8_undo 24 = .ok (.aload_n 0, 1) := by decide +kernel
theorem dX8_undo_25 : decode cX8_undo 25 = .ok (.iconst 1, 1) := by decide +kernel
theorem dX8_undo_26 : decode cX8_undo 26 = .ok (.putfield 62, 3) := by decide +kernel
theorem dX8_undo_29 : decode cX8_undo 29 = .ok (.aload_n 0, 1) := by decide +kernel
theorem dX8_undo_30 : decode cX8_undo 30 = .ok (.getfield 19, 3) := by decide +kernel
theorem dX8_undo_33 : decode cX8_undo 33 = .ok (.getfield 176, 3) := by decide +kernel
theorem dX8_undo_36 : decode cX8_undo 36 = .ok (.ireturn, 1) := by decide +kernel
theorem dX8_save_0 : decode cX8_save 0 = .ok (.iload_n 1, 1) := by decide +kernel
theorem dX8_save_1 : decode cX8_save 1 = .ok (.ifCond .lt 8, 3) := by decide +kernel
theorem dX8_save_4 : decode cX8_save 4 = .ok (.iload_n 1, 1) := by decide +kernel
theorem dX8_save_5 : decode cX8_save 5 = .ok (.iconst 2, 1) := by decide +kernel
theorem dX8_save_6 : decode cX8_save 6 = .ok (.if_icmp .lt 6, 3) := by decide +kernel
theorem dX8_save_9 : decode cX8_save 9 = .ok (.bipush (-2), 2) := by decide +kernel
theorem dX8_save_11 : decode cX8_save 11 = .ok (.ireturn, 1) := by decide +kernel
theorem dX8_save_12 : decode cX8_save 12 = .ok (.aload_n 0, 1) := by decide +kernel
theorem dX8_save_13 : decode cX8_save 13 = .ok (.getfield 23, 3) := by decide +kernel
theorem dX8_save_16 : decode cX8_save 16 = .ok (.iload_n 1, 1) := by decide +kernel
theorem dX8_save_17 : decode cX8_save 17 = .ok (.aaload, 1) := by decide +kernel
theorem dX8_save_18 : decode cX8_save 18 = .ok (.aload_n 0, 1) := by decide +kernel
theorem dX8_save_19 : decode cX8_save 19 = .ok (.getfield 12, 3) := by decide +kernel
theorem dX8_save_22 : decode cX8_save 22 = .ok (.invokevirtual 205, 3) := by decide +kernel
theorem dX8_save_25 : decode cX8_save 25 = .ok (.aload_n 0, 1) := by decide +kernel
theorem dX8_save_26 : decode cX8_save 26 = .ok (.getfield 27, 3) := by decide +kernel
theorem dX8_save_29 : decode cX8_save 29 = .ok (.iload_n 1, 1) := by decide +kernel
theorem dX8_save_30 : decode cX8_save 30 = .ok (.iconst 1, 1) := by decide +kernel
theorem dX8_save_31 : decode cX8_save 31 = .ok (.bastore, 1) := by decide +kernel
theorem dX8_save_32 : decode cX8_save 32 = .ok (.aload_n 0, 1) := by decide +kernel
theorem dX8_save_33 : decode cX8_save 33 = .ok (.getfield 12, 3) := by decide +kernel
theorem dX8_save_36 : decode cX8_save 36 = .ok (.getfield 111, 3) := by decide +kernel
theorem dX8_save_39 : decode cX8_save 39 = .ok (.ireturn, 1) := by decide +kernel
theorem dX8_restore_0 : decode cX8_restore 0 = .ok (.iload_n 1, 1) := by decide +kernel
theorem dX8_restore_1 : decode cX8_restore 1 = .ok (.ifCond .lt 8, 3) := by decide +kernel
theorem dX8_restore_4 : decode cX8_restore 4 = .ok (.iload_n 1, 1) := by decide +kernel
theorem dX8_restore_5 : decode cX8_restore 5 = .ok (.iconst 2, 1) := by decide +kernel
theorem dX8_restore_6 : decode cX8_restore 6 = .ok (.if_icmp .lt 6, 3) := by decide +kernel
theorem dX8_restore_9 : decode cX8_restore 9 = .ok (.bipush (-2), 2) := by decide +kernel
theorem dX8_restore_11 : decode cX8_restore 11 = .ok (.ireturn, 1) := by decide +kernel
theorem dX8_restore_12 : decode cX8_restore 12 = .ok (.aload_n 0, 1) := by decide +kernel
theorem dX8_restore_13 : decode cX8_restore 13 = .ok (.getfield 27, 3) := by decide +kernel
theorem dX8_restore_16 : decode cX8_restore 16 = .ok (.iload_n 1, 1) := by decide +kernel
theorem dX8_restore_17 : decode cX8_restore 17 = .ok (.baload, 1) := by decide +kernel
theorem dX8_restore_18 : decode cX8_restore 18 = .ok (.ifCond .ne 6, 3) := by decide +kernel
theorem dX8_restore_21 : decode cX8_restore 21 = .ok (.bipush (-5), 2) := by decide +kernel
theorem dX8_restore_23 : decode cX8_restore 23 = .ok (.ireturn, 1) := by decide +kernel
theorem dX8_restore_24 : decode cX8_restore 24 = .ok (.aload_n 0, 1) := by decide +kernel
theorem dX8_restore_25 : decode cX8_restore 25 = .ok (.invokevirtual 76, 3) := by decide +kernel
theorem dX8_restore_28 : decode cX8_restore 28 = .ok (.aload_n 0, 1) := by decide +kernel
theorem dX8_restore_29 : decode cX8_restore 29 = .ok (.getfield 12, 3) := by decide +kernel
theorem dX8_restore_32 : decode cX8_restore 32 = .ok (.aload_n 0, 1) := by decide +kernel
theorem dX8_restore_33 : decode cX8_restore 33 = .ok (.getfield 23, 3) := by decide +kernel
theorem dX8_restore_36 : decode cX8_restore 36 = .ok (.iload_n 1, 1) := by decide +kernel
theorem dX8_restore_37 : decode cX8_restore 37 = .ok (.aaload, 1) := by decide +kernel
theorem dX8_restore_38 : decode cX8_restore 38 = .ok (.invokevirtual 205, 3) := by decide +kernel
theorem dX8_restore_41 : decode cX8_restore 41 = .ok (.aload_n 0, 1) := by decide +kernel
theorem dX8_restore_42 : decode cX8_restore 42 = .ok (.getfield 12, 3) := by decide +kernel
theorem dX8_restore_45 : decode cX8_restore 45 = .ok (.getfield 111, 3) := by decide +kernel
theorem dX8_restore_48 : decode cX8_restore 48 = .ok (.ireturn, 1) := by decide +kernel
theorem dX8_beginChange_0 : decode cX8_beginChange 0 = .ok (.aload_n 0, 1) := by decide +kernel
theorem dX8_beginChange_1 : decode cX8_beginChange 1 = .ok (.getfield 19, 3) := by decide +kernel
theorem dX8_beginChange_4 : decode cX8_beginChange 4 = .ok (.aload_n 0, 1) := by decide +kernel
theorem dX8_beginChange_5 : decode cX8_beginChange 5 = .ok (.getfield 12, 3) := by decide +kernel
theorem dX8_beginChange_8 : decode cX8_beginChange 8 = .ok (.invokevirtual 208, 3) := by decide +kernel
theorem dX8_beginChange_11 : decode cX8_beginChange 11 = .ok (.aload_n 0, 1) := by decide +kernel
theorem dX8_beginChange_12 : decode cX8_beginChange 12 = .ok (.iconst 1, 1) := by decide +kernel
theorem dX8_beginChange_13 : decode cX8_beginChange 13 = .ok (.putfield 62, 3) := by decide +kernel
theorem dX8_beginChange_16 : decode cX8_beginChange 16 = .ok (.return_, 1) := by decide +kernel
theorem dX8_current_0 : decode cX8_current 0 = .ok (.aload_n 0, 1) := by decide +kernel
theorem dX8_current_1 : decode cX8_current 1 = .ok (.getfield 41, 3) := by decide +kernel
theorem dX8_current_4 : decode cX8_current 4 = .ok (.aload_n 0, 1) := by decide +kernel
theorem dX8_current_5 : decode cX8_current 5 = .ok (.getfield 12, 3) := by decide +kernel
theorem dX8_current_8 : decode cX8_current 8 = .ok (.getfield 73, 3) := by decide +kernel
theorem dX8_current_11 : decode cX8_current 11 = .ok (.iconst 0, 1) := by decide +kernel
theorem dX8_current_12 : decode cX8_current 12 = .ok (.iaload, 1) := by decide +kernel
theorem dX8_current_13 : decode cX8_current 13 = .ok (.invokevirtual 100, 3) := by decide +kernel
theorem dX8_current_16 : decode cX8_current 16 = .ok (.aload_n 0, 1) := by decide +kernel
theorem dX8_current_17 : decode cX8_current 17 = .ok (.getfield 62, 3) := by decide +kernel
theorem dX8_current_20 : decode cX8_current 20 = .ok (.ifCond .eq 28, 3) := by decide +kernel
theorem dX8_current_23 : decode cX8_current 23 = .ok (.aload_n 0, 1) := by decide +kernel
theorem dX8_current_24 : decode cX8_current 24 = .ok (.getfield 48, 3) := by decide +kernel
theorem dX8_current_27 : decode cX8_current 27 = .ok (.aload_n 0, 1) := by decide +kernel
theorem dX8_current_28 : decode cX8_current 28 = .ok (.getfield 41, 3) := by decide +kernel
theorem dX8_current_31 : decode cX8_current 31 = .ok (.aload_n 0, 1) := by decide +kernel
theorem dX8_current_32 : decode cX8_current 32 = .ok (.getfield 12, 3) := by decide +kernel
theorem dX8_current_35 : decode cX8_current 35 = .ok (.iconst (-1), 1) := by decide +kernel
theorem dX8_current_36 : decode cX8_current 36 = .ok (.aload_n 0, 1) := by decide +kernel
theorem dX8_current_37 : decode cX8_current 37 = .ok (.getfield 55, 3) := by decide +kernel
theorem dX8_current_40 : decode cX8_current 40 = .ok (.invokevirtual 211, 3) := by decide +kernel
theorem dX8_current_43 : decode cX8_current 43 = .ok (.aload_n 0, 1) := by decide +kernel
theorem dX8_current_44 : decode cX8_current 44 = .ok (.iconst 0, 1) := by decide +kernel
theorem dX8_current_45 : decode cX8_current 45 = .ok (.putfield 62, 3) := by decide +kernel
theorem dX8_current_48 : decode cX8_current 48 = .ok (.aload_n 0, 1) := by decide +kernel
theorem dX8_current_49 : decode cX8_current 49 = .ok (.getfield 55, 3) := by decide +kernel
theorem dX8_current_52 : decode cX8_current 52 = .ok (.areturn, 1) := by decide +kernel
theorem dX8_tryOut_0 : decode cX8_tryOut 0 = .ok (.aload_n 0, 1) := by decide +kernel
theorem dX8_tryOut_1 : decode cX8_tryOut 1 = .ok (.getfield 41, 3) := by decide +kernel
theorem dX8_tryOut_4 : decode cX8_tryOut 4 = .ok (.iload_n 1, 1) := by decide +kernel
theorem dX8_tryOut_5 : decode cX8_tryOut 5 = .ok (.invokevirtual 100, 3) := by decide +kernel
theorem dX8_tryOut_8 : decode cX8_tryOut 8 = .ok (.aload_n 0, 1) := by decide +kernel
theorem dX8_tryOut_9 : decode cX8_tryOut 9 = .ok (.getfield 48, 3) := by decide +kernel
theorem dX8_tryOut_12 : decode cX8_tryOut 12 = .ok (.aload_n 0, 1) := by decide +kernel
theorem dX8_tryOut_13 : decode cX8_tryOut 13 = .ok (.getfield 41, 3) := by decide +kernel
theorem dX8_tryOut_16 : decode cX8_tryOut 16 = .ok (.aload_n 0, 1) := by decide +kernel
theorem dX8_tryOut_17 : decode cX8_tryOut 17 = .ok (.getfield 12, 3) := by decide +kernel
theorem dX8_tryOut_20 : decode cX8_tryOut 20 = .ok (.iload_n 2, 1) := by decide +kernel
theorem dX8_tryOut_21 : decode cX8_tryOut 21 = .ok (.aload_n 0, 1) := by decide +kernel
theorem dX8_tryOut_22 : decode cX8_tryOut 22 = .ok (.getfield 59, 3) := by decide +kernel
theorem dX8_tryOut_25 : decode cX8_tryOut 25 = .ok (.invokevirtual 211, 3) := by decide +kernel
theorem dX8_tryOut_28 : decode cX8_tryOut 28 = .ok (.return_, 1) := by decide +kernel
theorem dX8_isEar_0 : decode cX8_isEar 0 = .ok (.iload_n 0, 1) := by decide +kernel
theorem dX8_isEar_1 : decode cX8_isEar 1 = .ok (.ifCond .lt 12, 3) := by decide +kernel
theorem dX8_isEar_4 : decode cX8_isEar 4 = .ok (.iload_n 0, 1) := by decide +kernel
theorem dX8_isEar_5 : decode cX8_isEar 5 = .ok (.iconst 4, 1) := by decide +kernel
theorem dX8_isEar_6 : decode cX8_isEar 6 = .ok (.if_icmp .ge 7, 3) := by decide +kernel
theorem dX8_isEar_9 : decode cX8_isEar 9 = .ok (.iconst 1, 1) := by decide +kernel
theorem dX8_isEar_10 : decode cX8_isEar 10 = .ok (.goto 4, 3) := by decide +kernel
theorem dX8_isEar_13 : decode cX8_isEar 13 = .ok (.iconst 0, 1) := by decide +kernel
theorem dX8_isEar_14 : decode cX8_isEar 14 = .ok (.ireturn, 1) := by decide +kernel
theorem dX8_isPoint_0 : decode cX8_isPoint 0 = .ok (.iload_n 0, 1) := by decide +kernel
theorem dX8_isPoint_1 : decode cX8_isPoint 1 = .ok (.ifCond .lt 23, 3) := by decide +kernel
theorem dX8_isPoint_4 : decode cX8_isPoint 4 = .ok (.iload_n 0, 1) := by decide +kernel
theorem dX8_isPoint_5 : decode cX8_isPoint 5 = .ok (.bipush 40, 2) := by decide +kernel
theorem dX8_isPoint_7 : decode cX8_isPoint 7 = .ok (.if_icmp .gt 17, 3) := by decide +kernel
theorem dX8_isPoint_10 : decode cX8_isPoint 10 = .ok (.iload_n 1, 1) := by decide +kernel
theorem dX8_isPoint_11 : decode cX8_isPoint 11 = .ok (.ifCond .lt 13, 3) := by decide +kernel
theorem dX8_isPoint_14 : decode cX8_isPoint 14 = .ok (.iload_n 1, 1) := by decide +kernel
theorem dX8_isPoint_15 : decode cX8_isPoint 15 = .ok (.bipush 40, 2) := by decide +kernel
theorem dX8_isPoint_17 : decode cX8_isPoint 17 = .ok (.if_icmp .gt 7, 3) := by decide +kernel
theorem dX8_isPoint_20 : decode cX8_isPoint 20 = .ok (.iconst 1, 1) := by decide +kernel
theorem dX8_isPoint_21 : decode cX8_isPoint 21 = .ok (.goto 4, 3) := by decide +kernel
theorem dX8_isPoint_24 : decode cX8_isPoint 24 = .ok (.iconst 0, 1) := by decide +kernel
theorem dX8_isPoint_25 : decode cX8_isPoint 25 = .ok (.ireturn, 1) := by decide +kernel
theorem dX8_markOf_0 : decode cX8_markOf 0 = .ok (.iload_n 1, 1) := by decide +kernel
theorem dX8_markOf_1 : decode cX8_markOf 1 = .ok (.iconst 4, 1) := by decide +kernel
theorem dX8_markOf_2 : decode cX8_markOf 2 = .ok (.imul, 1) := by decide +kernel
theorem dX8_markOf_3 : decode cX8_markOf 3 = .ok (.iload_n 0, 1) := by decide +kernel
theorem dX8_markOf_4 : decode cX8_markOf 4 = .ok (.iadd, 1) := by decide +kernel
theorem dX8_markOf_5 : decode cX8_markOf 5 = .ok (.ireturn, 1) := by decide +kernel
theorem dX9_init_0 : decode cX9_init 0 = .ok (.aload_n 0, 1) := by decide +kernel
theorem dX9_init_1 : decode cX9_init 1 = .ok (.invokespecial 1, 3) := by decide +kernel
theorem dX9_init_4 : decode cX9_init 4 = .ok (.aload_n 0, 1) := by decide +kernel
theorem dX9_init_5 : decode cX9_init 5 = .ok (.bipush 68, 2) := by decide +kernel
theorem dX9_init_7 : decode cX9_init 7 = .ok (.newarray .int, 2) := by decide +kernel
theorem dX9_init_9 : decode cX9_init 9 = .ok (.putfield 7, 3) := by decide +kernel
theorem dX9_init_12 : decode cX9_init 12 = .ok (.aload_n 0, 1) := by decide +kernel
theorem dX9_init_13 : decode cX9_init 13 = .ok (.bipush 68, 2) := by decide +kernel
theorem dX9_init_15 : decode cX9_init 15 = .ok (.newarray .int, 2) := by decide +kernel
theorem dX9_init_17 : decode cX9_init 17 = .ok (.putfield 13, 3) := by decide +kernel
theorem dX9_init_20 : decode cX9_init 20 = .ok (.aload_n 0, 1) := by decide +kernel
theorem dX9_init_21 : decode cX9_init 21 = .ok (.sipush 408, 3) := by decide +kernel
theorem dX9_init_24 : decode cX9_init 24 = .ok (.newarray .int, 2) := by decide +kernel
theorem dX9_init_26 : decode cX9_init 26 = .ok (.putfield 16, 3) := by decide +kernel
theorem dX9_init_29 : decode cX9_init 29 = .ok (.aload_n 0, 1) := by decide +kernel
theorem dX9_init_30 : decode cX9_init 30 = .ok (.sipush 136, 3) := by decide +kernel
theorem dX9_init_33 : decode cX9_init 33 = .ok (.newarray .int, 2) := by decide +kernel
theorem dX9_init_35 : decode cX9_init 35 = .ok (.putfield 19, 3) := by decide +kernel
theorem dX9_init_38 : decode cX9_init 38 = .ok (.aload_n 0, 1) := by decide +kernel
theorem dX9_init_39 : decode cX9_init 39 = .ok (.iconst 2, 1) := by decide +kernel
theorem dX9_init_40 : decode cX9_init 40 = .ok (.newarray .int, 2) := by decide +kernel
theorem dX9_init_42 : decode cX9_init 42 = .ok (.putfield 22, 3) := by decide +kernel
theorem dX9_init_45 : decode cX9_init 45 = .ok (.aload_n 0, 1) := by decide +kernel
theorem dX9_init_46 : decode cX9_init 46 = .ok (.bipush 80, 2) := by decide +kernel
theorem dX9_init_48 : decode cX9_init 48 = .ok (.newarray .int, 2) := by decide +kernel
theorem dX9_init_50 : decode cX9_init 50 = .ok (.putfield 25, 3) := by decide +kernel
theorem dX9_init_53 : decode cX9_init 53 = .ok (.aload_n 0, 1) := by decide +kernel
theorem dX9_init_54 : decode cX9_init 54 = .ok (.sipush 1681, 3) := by decide +kernel
theorem dX9_init_57 : decode cX9_init 57 = .ok (.newarray .int, 2) := by decide +kernel
theorem dX9_init_59 : decode cX9_init 59 = .ok (.putfield 28, 3) := by decide +kernel
theorem dX9_init_62 : decode cX9_init 62 = .ok (.aload_n 0, 1) := by decide +kernel
theorem dX9_init_63 : decode cX9_init 63 = .ok (.sipush 6724, 3) := by decide +kernel
theorem dX9_init_66 : decode cX9_init 66 = .ok (.newarray .int, 2) := by decide +kernel
theorem dX9_init_68 : decode cX9_init 68 = .ok (.putfield 31, 3) := by decide +kernel
theorem dX9_init_71 : decode cX9_init 71 = .ok (.aload_n 0, 1) := by decide +kernel
theorem dX9_init_72 : decode cX9_init 72 = .ok (.bipush 32, 2) := by decide +kernel
theorem dX9_init_74 : decode cX9_init 74 = .ok (.newarray .int, 2) := by decide +kernel
theorem dX9_init_76 : decode cX9_init 76 = .ok (.putfield 34, 3) := by decide +kernel
theorem dX9_init_79 : decode cX9_init 79 = .ok (.aload_n 0, 1) := by decide +kernel
theorem dX9_init_80 : decode cX9_init 80 = .ok (.bipush 8, 2) := by decide +kernel
theorem dX9_init_82 : decode cX9_init 82 = .ok (.newarray .int, 2) := by decide +kernel
theorem dX9_init_84 : decode cX9_init 84 = .ok (.putfield 37, 3) := by decide +kernel
theorem dX9_init_87 : decode cX9_init 87 = .ok (.aload_n 0, 1) := by decide +kernel
theorem dX9_init_88 : decode cX9_init 88 = .ok (.bipush 8, 2) := by decide +kernel
theorem dX9_init_90 : decode cX9_init 90 = .ok (.newarray .int, 2) := by decide +kernel
theorem dX9_init_92 : decode cX9_init 92 = .ok (.putfield 40, 3) := by decide +kernel
theorem dX9_init_95 : decode cX9_init 95 = .ok (.aload_n 0, 1) := by decide +kernel
theorem dX9_init_96 : decode cX9_init 96 = .ok (.bipush 8, 2) := by decide +kernel
theorem dX9_init_98 : decode cX9_init 98 = .ok (.newarray .int, 2) := by decide +kernel
theorem dX9_init_100 : decode cX9_init 100 = .ok (.putfield 43, 3) := by decide +kernel
theorem dX9_init_103 : decode cX9_init 103 = .ok (.aload_n 0, 1) := by decide +kernel
theorem dX9_init_104 : decode cX9_init 104 = .ok (.bipush 32, 2) := by decide +kernel
theorem dX9_init_106 : decode cX9_init 106 = .ok (.newarray .int, 2) := by decide +kernel
theorem dX9_init_108 : decode cX9_init 108 = .ok (.putfield 46, 3) := by decide +kernel
theorem dX9_init_111 : decode cX9_init 111 = .ok (.aload_n 0, 1) := by decide +kernel
theorem dX9_init_112 : decode cX9_init 112 = .ok (.iconst 4, 1) := by decide +kernel
theorem dX9_init_113 : decode cX9_init 113 = .ok (.newarray .int, 2) := by decide +kernel
theorem dX9_init_115 : decode cX9_init 115 = .ok (.putfield 49, 3) := by decide +kernel
theorem dX9_init_118 : decode cX9_init 118 = .ok (.aload_n 0, 1) := by decide +kernel
theorem dX9_init_119 : decode cX9_init 119 = .ok (.bipush 8, 2) := by decide +kernel
theorem dX9_init_121 : decode cX9_init 121 = .ok (.newarray .int, 2) := by decide +kernel
theorem dX9_init_123 : decode cX9_init 123 = .ok (.putfield 52, 3) := by decide +kernel
theorem dX9_init_126 : decode cX9_init 126 = .ok (.aload_n 0, 1) := by decide +kernel
theorem dX9_init_127 : decode cX9_init 127 = .ok (.iconst 4, 1) := by decide +kernel
theorem dX9_init_128 : decode cX9_init 128 = .ok (.newarray .int, 2) := by decide +kernel
theorem dX9_init_130 : decode cX9_init 130 = .ok (.putfield 55, 3) := by decide +kernel
theorem dX9_init_133 : decode cX9_init 133 = .ok (.aload_n 0, 1) := by decide +kernel
theorem dX9_init_134 : decode cX9_init 134 = .ok (.getfield 7, 3) := by decide +kernel
theorem dX9_init_137 : decode cX9_init 137 = .ok (.iconst 0, 1) := by decide +kernel
theorem dX9_init_138 : decode cX9_init 138 = .ok (.bipush 15, 2) := by decide +kernel
theorem dX9_init_140 : decode cX9_init 140 = .ok (.iastore, 1) := by decide +kernel
theorem dX9_init_141 : decode cX9_init 141 = .ok (.aload_n 0, 1) := by decide +kernel
theorem dX9_init_142 : decode cX9_init 142 = .ok (.getfield 7, 3) := by decide +kernel
theorem dX9_init_145 : decode cX9_init 145 = .ok (.iconst 1, 1) := by decide +kernel
theorem dX9_init_146 : decode cX9_init 146 = .ok (.sipush 1900, 3) := by decide +kernel
theorem dX9_init_149 : decode cX9_init 149 = .ok (.iastore, 1) := by decide +kernel
theorem dX9_init_150 : decode cX9_init 150 = .ok (.aload_n 0, 1) := by decide +kernel
theorem dX9_init_151 : decode cX9_init 151 = .ok (.getfield 7, 3) := by decide +kernel
theorem dX9_init_154 : decode cX9_init 154 = .ok (.iconst 2, 1) := by decide +kernel
theorem dX9_init_155 : decode cX9_init 155 = .ok (.bipush 6, 2) := by decide +kernel
theorem dX9_init_157 : decode cX9_init 157 = .ok (.iastore, 1) := by decide +kernel
theorem dX9_init_158 : decode cX9_init 158 = .ok (.iconst 0, 1) := by decide +kernel
theorem dX9_init_159 : decode cX9_init 159 = .ok (.istore_n 1, 1) := by decide +kernel
theorem dX9_init_160 : decode cX9_init 160 = .ok (.iload_n 1, 1) := by decide +kernel
theorem dX9_init_161 : decode cX9_init 161 = .ok (.bipush 40, 2) := by decide +kernel
theorem dX9_init_163 : decode cX9_init 163 = .ok (.if_icmp .gt 48, 3) := by decide +kernel
theorem dX9_init_166 : decode cX9_init 166 = .ok (.iconst 0, 1) := by decide +kernel
theorem dX9_init_167 : decode cX9_init 167 = .ok (.istore_n 2, 1) := by decide +kernel
theorem dX9_init_168 : decode cX9_init 168 = .ok (.iload_n 2, 1) := by decide +kernel
theorem dX9_init_169 : decode cX9_init 169 = .ok (.bipush 40, 2) := by decide +kernel
theorem dX9_init_171 : decode cX9_init 171 = .ok (.if_icmp .gt 34, 3) := by decide +kernel
theorem dX9_init_174 : decode cX9_init 174 = .ok (.aload_n 0, 1) := by decide +kernel
theorem dX9_init_175 : decode cX9_init 175 = .ok (.getfield 28, 3) := by decide +kernel
theorem dX9_init_178 : decode cX9_init 178 = .ok (.bipush 41, 2) := by decide +kernel
theorem dX9_init_180 : decode cX9_init 180 = .ok (.iload_n 1, 1) := by decide +kernel
theorem dX9_init_181 : decode cX9_init 181 = .ok (.imul, 1) := by decide +kernel
theorem dX9_init_182 : decode cX9_init 182 = .ok (.iload_n 2, 1) := by decide +kernel
theorem dX9_init_183 : decode cX9_init 183 = .ok (.iadd, 1) := by decide +kernel
theorem dX9_init_184 : decode cX9_init 184 = .ok (.sipush 10000, 3) := by decide +kernel
theorem dX9_init_187 : decode cX9_init 187 = .ok (.iload_n 1, 1) := by decide +kernel
theorem dX9_init_188 : decode cX9_init 188 = .ok (.iload_n 1, 1) := by decide +kernel
theorem dX9_init_189 : decode cX9_init 189 = .ok (.imul, 1) := by decide +kernel
theorem dX9_init_190 : decode cX9_init 190 = .ok (.iload_n 2, 1) := by decide +kernel
theorem dX9_init_191 : decode cX9_init 191 = .ok (.iload_n 2, 1) := by decide +kernel
theorem dX9_init_192 : decode cX9_init 192 = .ok (.imul, 1) := by decide +kernel
theorem dX9_init_193 : decode cX9_init 193 = .ok (.iadd, 1) := by decide +kernel
theorem dX9_init_194 : decode cX9_init 194 = .ok (.imul, 1) := by decide +kernel
theorem dX9_init_195 : decode cX9_init 195 = .ok (.invokestatic 58, 3) := by decide +kernel
theorem dX9_init_198 : decode cX9_init 198 = .ok (.iastore, 1) := by decide +kernel
theorem dX9_init_199 : decode cX9_init 199 = .ok (.iinc 2 1, 3) := by decide +kernel
theorem dX9_init_202 : decode cX9_init 202 = .ok (.goto (-34), 3) := by decide +kernel
theorem dX9_init_205 : decode cX9_init 205 = .ok (.iinc 1 1, 3) := by decide +kernel
theorem dX9_init_208 : decode cX9_init 208 = .ok (.goto (-48), 3) := by decide +kernel
theorem dX9_init_211 : decode cX9_init 211 = .ok (.return_, 1) := by decide +kernel
theorem dX9_moves_0 : decode cX9_moves 0 = .ok (.iconst 0, 1) := by decide +kernel
theorem dX9_moves_1 : decode cX9_moves 1 = .ok (.istore 4, 2) := by decide +kernel
theorem dX9_moves_3 : decode cX9_moves 3 = .ok (.iload 4, 2) := by decide +kernel
theorem dX9_moves_5 : decode cX9_moves 5 = .ok (.bipush 68, 2) := by decide +kernel
theorem dX9_moves_7 : decode cX9_moves 7 = .ok (.if_icmp .ge 21, 3) := by decide +kernel
theorem dX9_moves_10 : decode cX9_moves 10 = .ok (.aload_n 2, 1) := by decide +kernel
theorem dX9_moves_11 : decode cX9_moves 11 = .ok (.iload_n 3, 1) := by decide +kernel
theorem dX9_moves_12 : decode cX9_moves 12 = .ok (.iload 4, 2) := by decide +kernel
theorem dX9_moves_14 : decode cX9_moves 14 = .ok (.iadd, 1) := by decide +kernel
theorem dX9_moves_15 : decode cX9_moves 15 = .ok (.aload_n 0, 1) := by decide +kernel
theorem dX9_moves_16 : decode cX9_moves 16 = .ok (.iload_n 1, 1) := by decide +kernel
theorem dX9_moves_17 : decode cX9_moves 17 = .ok (.iload 4, 2) := by decide +kernel
theorem dX9_moves_19 : decode cX9_moves 19 = .ok (.iadd, 1) := by decide +kernel
theorem dX9_moves_20 : decode cX9_moves 20 = .ok (.iaload, 1) := by decide +kernel
theorem dX9_moves_21 : decode cX9_moves 21 = .ok (.iastore, 1) := by decide +kernel
theorem dX9_moves_22 : decode cX9_moves 22 = .ok (.iinc 4 1, 3) := by decide +kernel
theorem dX9_moves_25 : decode cX9_moves 25 = .ok (.goto (-22), 3) := by decide +kernel
theorem dX9_moves_28 : decode cX9_moves 28 = .ok (.return_, 1) := by decide +kernel
theorem dX9_within_0 : decode cX9_within 0 = .ok (.iload_n 0, 1) := by decide +kernel
theorem dX9_within_1 : decode cX9_within 1 = .ok (.iload_n 1, 1) := by decide +kernel
theorem dX9_within_2 : decode cX9_within 2 = .ok (.if_icmp .lt 12, 3) := by decide +kernel
theorem dX9_within_5 : decode cX9_within 5 = .ok (.iload_n 0, 1) := by decide +kernel
theorem dX9_within_6 : decode cX9_within 6 = .ok (.iload_n 2, 1) := by decide +kernel
theorem dX9_within_7 : decode cX9_within 7 = .ok (.if_icmp .gt 7, 3) := by decide +kernel
theorem dX9_within_10 : decode cX9_within 10 = .ok (.iconst 1, 1) := by decide +kernel
theorem dX9_within_11 : decode cX9_within 11 = .ok (.goto 4, 3) := by decide +kernel
theorem dX9_within_14 : decode cX9_within 14 = .ok (.iconst 0, 1) := by decide +kernel
theorem dX9_within_15 : decode cX9_within 15 = .ok (.ireturn, 1) := by decide +kernel
theorem dX9_size_0 : decode cX9_size 0 = .ok (.iload_n 0, 1) := by decide +kernel
theorem dX9_size_1 : decode cX9_size 1 = .ok (.ifCond .ge 8, 3) := by decide +kernel
theorem dX9_size_4 : decode cX9_size 4 = .ok (.iload_n 0, 1) := by decide +kernel
theorem dX9_size_5 : decode cX9_size 5 = .ok (.ineg, 1) := by decide +kernel
theorem dX9_size_6 : decode cX9_size 6 = .ok (.goto 4, 3) := by decide +kernel
theorem dX9_size_9 : decode cX9_size 9 = .ok (.iload_n 0, 1) := by decide +kernel
theorem dX9_size_10 : decode cX9_size 10 = .ok (.ireturn, 1) := by decide +kernel
theorem dX9_root_0 : decode cX9_root 0 = .ok (.iconst 0, 1) := by decide +kernel
theorem dX9_root_1 : decode cX9_root 1 = .ok (.istore_n 1, 1) := by decide +kernel
theorem dX9_root_2 : decode cX9_root 2 = .ok (.sipush 4096, 3) := by decide +kernel
theorem dX9_root_5 : decode cX9_root 5 = .ok (.istore_n 2, 1) := by decide +kernel
theorem dX9_root_6 : decode cX9_root 6 = .ok (.iload_n 2, 1) := by decide +kernel
theorem dX9_root_7 : decode cX9_root 7 = .ok (.ifCond .le 29, 3) := by decide +kernel
theorem dX9_root_10 : decode cX9_root 10 = .ok (.iload_n 1, 1) := by decide +kernel
theorem dX9_root_11 : decode cX9_root 11 = .ok (.iload_n 1, 1) := by decide +kernel
theorem dX9_root_12 : decode cX9_root 12 = .ok (.iload_n 2, 1) := by decide +kernel
theorem dX9_root_13 : decode cX9_root 13 = .ok (.iadd, 1) := by decide +kernel
theorem dX9_root_14 : decode cX9_root 14 = .ok (.iload_n 1, 1) := by decide +kernel
theorem dX9_root_15 : decode cX9_root 15 = .ok (.iload_n 2, 1) := by decide +kernel
theorem dX9_root_16 : decode cX9_root 16 = .ok (.iadd, 1) := by decide +kernel
theorem dX9_root_17 : decode cX9_root 17 = .ok (.imul, 1) := by decide +kernel
theorem dX9_root_18 : decode cX9_root 18 = .ok (.iload_n 0, 1) := by decide +kernel
theorem dX9_root_19 : decode cX9_root 19 = .ok (.if_icmp .gt 7, 3) := by decide +kernel
theorem dX9_root_22 : decode cX9_root 22 = .ok (.iload_n 2, 1) := by decide +kernel
theorem dX9_root_23 : decode cX9_root 23 = .ok (.goto 4, 3) := by decide +kernel
theorem dX9_root_26 : decode cX9_root 26 = .ok (.iconst 0, 1) := by decide +kernel
theorem dX9_root_27 : decode cX9_root 27 = .ok (.iadd, 1) := by decide +kernel
theorem dX9_root_28 : decode cX9_root 28 = .ok (.istore_n 1, 1) := by decide +kernel
theorem dX9_root_29 : decode cX9_root 29 = .ok (.iload_n 2, 1) := by decide +kernel
theorem dX9_root_30 : decode cX9_root 30 = .ok (.iconst 2, 1) := by decide +kernel
theorem dX9_root_31 : decode cX9_root 31 = .ok (.idiv, 1) := by decide +kernel
theorem dX9_root_32 : decode cX9_root 32 = .ok (.istore_n 2, 1) := by decide +kernel
theorem dX9_root_33 : decode cX9_root 33 = .ok (.goto (-27), 3) := by decide +kernel
theorem dX9_root_36 : decode cX9_root 36 = .ok (.iload_n 1, 1) := by decide +kernel
theorem dX9_root_37 : decode cX9_root 37 = .ok (.ireturn, 1) := by decide +kernel
theorem dX9_record_0 : decode cX9_record 0 = .ok (.aload_n 0, 1) := by decide +kernel
theorem dX9_record_1 : decode cX9_record 1 = .ok (.getfield 62, 3) := by decide +kernel
theorem dX9_record_4 : decode cX9_record 4 = .ok (.bipush 6, 2) := by decide +kernel
theorem dX9_record_6 : decode cX9_record 6 = .ok (.if_icmp .ne 43, 3) := by decide +kernel
theorem dX9_record_9 : decode cX9_record 9 = .ok (.iconst 0, 1) := by decide +kernel
theorem dX9_record_10 : decode cX9_record 10 = .ok (.istore_n 1, 1) := by decide +kernel
theorem dX9_record_11 : decode cX9_record 11 = .ok (.iload_n 1, 1) := by decide +kernel
theorem dX9_record_12 : decode cX9_record 12 = .ok (.sipush 340, 3) := by decide +kernel
theorem dX9_record_15 : decode cX9_record 15 = .ok (.if_icmp .ge 24, 3) := by decide +kernel
theorem dX9_record_18 : decode cX9_record 18 = .ok (.aload_n 0, 1) := by decide +kernel
theorem dX9_record_19 : decode cX9_record 19 = .ok (.getfield 16, 3) := by decide +kernel
theorem dX9_record_22 : decode cX9_record 22 = .ok (.iload_n 1, 1) := by decide +kernel
theorem dX9_record_23 : decode cX9_record 23 = .ok (.aload_n 0, 1) := by decide +kernel
theorem dX9_record_24 : decode cX9_record 24 = .ok (.getfield 16, 3) := by decide +kernel
theorem dX9_record_27 : decode cX9_record 27 = .ok (.iload_n 1, 1) := by decide +kernel
theorem dX9_record_28 : decode cX9_record 28 = .ok (.bipush 68, 2) := by decide +kernel
theorem dX9_record_30 : decode cX9_record 30 = .ok (.iadd, 1) := by decide +kernel
theorem dX9_record_31 : decode cX9_record 31 = .ok (.iaload, 1) := by decide +kernel
theorem dX9_record_32 : decode cX9_record 32 = .ok (.iastore, 1) := by decide +kernel
theorem dX9_record_33 : decode cX9_record 33 = .ok (.iinc 1 1, 3) := by decide +kernel
theorem dX9_record_36 : decode cX9_record 36 = .ok (.goto (-25), 3) := by decide +kernel
theorem dX9_record_39 : decode cX9_record 39 = .ok (.aload_n 0, 1) := by decide +kernel
theorem dX9_record_40 : decode cX9_record 40 = .ok (.dup, 1) := by decide +kernel
theorem dX9_record_41 : decode cX9_record 41 = .ok (.getfield 62, 3) := by decide +kernel
theorem dX9_record_44 : decode cX9_record 44 = .ok (.iconst 1, 1) := by decide +kernel
theorem dX9_record_45 : decode cX9_record 45 = .ok (.isub, 1) := by decide +kernel
theorem dX9_record_46 : decode cX9_record 46 = .ok (.putfield 62, 3) := by decide +kernel
theorem dX9_record_49 : decode cX9_record 49 = .ok (.aload_n 0, 1) := by decide +kernel
theorem dX9_record_50 : decode cX9_record 50 = .ok (.getfield 7, 3) := by decide +kernel
theorem dX9_record_53 : decode cX9_record 53 = .ok (.iconst 0, 1) := by decide +kernel
theorem dX9_record_54 : decode cX9_record 54 = .ok (.aload_n 0, 1) := by decide +kernel
theorem dX9_record_55 : decode cX9_record 55 = .ok (.getfield 16, 3) := by decide +kernel
theorem dX9_record_58 : decode cX9_record 58 = .ok (.aload_n 0, 1) := by decide +kernel
theorem dX9_record_59 : decode cX9_record 59 = .ok (.getfield 62, 3) := by decide +kernel
theorem dX9_record_62 : decode cX9_record 62 = .ok (.bipush 68, 2) := by decide +kernel
theorem dX9_record_64 : decode cX9_record 64 = .ok (.imul, 1) := by decide +kernel
theorem dX9_record_65 : decode cX9_record 65 = .ok (.invokestatic 66, 3) := by decide +kernel
theorem dX9_record_68 : decode cX9_record 68 = .ok (.aload_n 0, 1) := by decide +kernel
theorem dX9_record_69 : decode cX9_record 69 = .ok (.dup, 1) := by decide +kernel
theorem dX9_record_70 : decode cX9_record 70 = .ok (.getfield 62, 3) := by decide +kernel
theorem dX9_record_73 : decode cX9_record 73 = .ok (.iconst 1, 1) := by decide +kernel
theorem dX9_record_74 : decode cX9_record 74 = .ok (.iadd, 1) := by decide +kernel
theorem dX9_record_75 : decode cX9_record 75 = .ok (.putfield 62, 3) := by decide +kernel
