theorem dX9_record_78 : decode cX9_record 78 = .ok (.return_, 1) := by decide +kernel
theorem dX9_isPoint_0 : decode cX9_isPoint 0 = .ok (.iload_n 0, 1) := by decide +kernel
theorem dX9_isPoint_1 : decode cX9_isPoint 1 = .ok (.iconst 0, 1) := by decide +kernel
theorem dX9_isPoint_2 : decode cX9_isPoint 2 = .ok (.bipush 40, 2) := by decide +kernel
theorem dX9_isPoint_4 : decode cX9_isPoint 4 = .ok (.invokestatic 70, 3) := by decide +kernel
theorem dX9_isPoint_7 : decode cX9_isPoint 7 = .ok (.ifCond .eq 17, 3) := by decide +kernel
theorem dX9_isPoint_10 : decode cX9_isPoint 10 = .ok (.iload_n 1, 1) := by decide +kernel
theorem dX9_isPoint_11 : decode cX9_isPoint 11 = .ok (.iconst 0, 1) := by decide +kernel
theorem dX9_isPoint_12 : decode cX9_isPoint 12 = .ok (.bipush 40, 2) := by decide +kernel
theorem dX9_isPoint_14 : decode cX9_isPoint 14 = .ok (.invokestatic 70, 3) := by decide +kernel
theorem dX9_isPoint_17 : decode cX9_isPoint 17 = .ok (.ifCond .eq 7, 3) := by decide +kernel
theorem dX9_isPoint_20 : decode cX9_isPoint 20 = .ok (.iconst 1, 1) := by decide +kernel
theorem dX9_isPoint_21 : decode cX9_isPoint 21 = .ok (.goto 4, 3) := by decide +kernel
theorem dX9_isPoint_24 : decode cX9_isPoint 24 = .ok (.iconst 0, 1) := by decide +kernel
theorem dX9_isPoint_25 : decode cX9_isPoint 25 = .ok (.ireturn, 1) := by decide +kernel
theorem dX9_isEar_0 : decode cX9_isEar 0 = .ok (.iload_n 0, 1) := by decide +kernel
theorem dX9_isEar_1 : decode cX9_isEar 1 = .ok (.iconst 0, 1) := by decide +kernel
theorem dX9_isEar_2 : decode cX9_isEar 2 = .ok (.iconst 3, 1) := by decide +kernel
theorem dX9_isEar_3 : decode cX9_isEar 3 = .ok (.invokestatic 70, 3) := by decide +kernel
theorem dX9_isEar_6 : decode cX9_isEar 6 = .ok (.ireturn, 1) := by decide +kernel
theorem dX9_distance_0 : decode cX9_distance 0 = .ok (.aload_n 0, 1) := by decide +kernel
theorem dX9_distance_1 : decode cX9_distance 1 = .ok (.getfield 28, 3) := by decide +kernel
theorem dX9_distance_4 : decode cX9_distance 4 = .ok (.bipush 41, 2) := by decide +kernel
theorem dX9_distance_6 : decode cX9_distance 6 = .ok (.iload_n 1, 1) := by decide +kernel
theorem dX9_distance_7 : decode cX9_distance 7 = .ok (.iload_n 3, 1) := by decide +kernel
theorem dX9_distance_8 : decode cX9_distance 8 = .ok (.isub, 1) := by decide +kernel
theorem dX9_distance_9 : decode cX9_distance 9 = .ok (.invokestatic 74, 3) := by decide +kernel
theorem dX9_distance_12 : decode cX9_distance 12 = .ok (.imul, 1) := by decide +kernel
theorem dX9_distance_13 : decode cX9_distance 13 = .ok (.iload_n 2, 1) := by decide +kernel
theorem dX9_distance_14 : decode cX9_distance 14 = .ok (.iload 4, 2) := by decide +kernel
theorem dX9_distance_16 : decode cX9_distance 16 = .ok (.isub, 1) := by decide +kernel
theorem dX9_distance_17 : decode cX9_distance 17 = .ok (.invokestatic 74, 3) := by decide +kernel
theorem dX9_distance_20 : decode cX9_distance 20 = .ok (.iadd, 1) := by decide +kernel
theorem dX9_distance_21 : decode cX9_distance 21 = .ok (.iaload, 1) := by decide +kernel
theorem dX9_distance_22 : decode cX9_distance 22 = .ok (.ireturn, 1) := by decide +kernel
theorem dX9_speedBy_0 : decode cX9_speedBy 0 = .ok (.sipush 313, 3) := by decide +kernel
theorem dX9_speedBy_3 : decode cX9_speedBy 3 = .ok (.iconst 3, 1) := by decide +kernel
theorem dX9_speedBy_4 : decode cX9_speedBy 4 = .ok (.iload_n 0, 1) := by decide +kernel
theorem dX9_speedBy_5 : decode cX9_speedBy 5 = .ok (.imul, 1) := by decide +kernel
theorem dX9_speedBy_6 : decode cX9_speedBy 6 = .ok (.bipush 90, 2) := by decide +kernel
theorem dX9_speedBy_8 : decode cX9_speedBy 8 = .ok (.iadd, 1) := by decide +kernel
theorem dX9_speedBy_9 : decode cX9_speedBy 9 = .ok (.iconst 5, 1) := by decide +kernel
theorem dX9_speedBy_10 : decode cX9_speedBy 10 = .ok (.idiv, 1) := by decide +kernel
theorem dX9_speedBy_11 : decode cX9_speedBy 11 = .ok (.iadd, 1) := by decide +kernel
theorem dX9_speedBy_12 : decode cX9_speedBy 12 = .ok (.ireturn, 1) := by decide +kernel
theorem dX9_takesBy_0 : decode cX9_takesBy 0 = .ok (.bipush 100, 2) := by decide +kernel
theorem dX9_takesBy_2 : decode cX9_takesBy 2 = .ok (.aload_n 0, 1) := by decide +kernel
theorem dX9_takesBy_3 : decode cX9_takesBy 3 = .ok (.iload_n 2, 1) := by decide +kernel
theorem dX9_takesBy_4 : decode cX9_takesBy 4 = .ok (.iload_n 3, 1) := by decide +kernel
theorem dX9_takesBy_5 : decode cX9_takesBy 5 = .ok (.iload 4, 2) := by decide +kernel
theorem dX9_takesBy_7 : decode cX9_takesBy 7 = .ok (.iconst 1, 1) := by decide +kernel
theorem dX9_takesBy_8 : decode cX9_takesBy 8 = .ok (.if_icmp .eq 9, 3) := by decide +kernel
theorem dX9_takesBy_11 : decode cX9_takesBy 11 = .ok (.iload 4, 2) := by decide +kernel
theorem dX9_takesBy_13 : decode cX9_takesBy 13 = .ok (.iconst 2, 1) := by decide +kernel
theorem dX9_takesBy_14 : decode cX9_takesBy 14 = .ok (.if_icmp .ne 8, 3) := by decide +kernel
theorem dX9_takesBy_17 : decode cX9_takesBy 17 = .ok (.bipush 40, 2) := by decide +kernel
theorem dX9_takesBy_19 : decode cX9_takesBy 19 = .ok (.goto 4, 3) := by decide +kernel
theorem dX9_takesBy_22 : decode cX9_takesBy 22 = .ok (.iconst 0, 1) := by decide +kernel
theorem dX9_takesBy_23 : decode cX9_takesBy 23 = .ok (.iload 4, 2) := by decide +kernel
theorem dX9_takesBy_25 : decode cX9_takesBy 25 = .ok (.iconst 1, 1) := by decide +kernel
theorem dX9_takesBy_26 : decode cX9_takesBy 26 = .ok (.if_icmp .le 8, 3) := by decide +kernel
theorem dX9_takesBy_29 : decode cX9_takesBy 29 = .ok (.bipush 40, 2) := by decide +kernel
theorem dX9_takesBy_31 : decode cX9_takesBy 31 = .ok (.goto 4, 3) := by decide +kernel
theorem dX9_takesBy_34 : decode cX9_takesBy 34 = .ok (.iconst 0, 1) := by decide +kernel
theorem dX9_takesBy_35 : decode cX9_takesBy 35 = .ok (.invokevirtual 77, 3) := by decide +kernel
theorem dX9_takesBy_38 : decode cX9_takesBy 38 = .ok (.imul, 1) := by decide +kernel
theorem dX9_takesBy_39 : decode cX9_takesBy 39 = .ok (.iload_n 1, 1) := by decide +kernel
theorem dX9_takesBy_40 : decode cX9_takesBy 40 = .ok (.idiv, 1) := by decide +kernel
theorem dX9_takesBy_41 : decode cX9_takesBy 41 = .ok (.ireturn, 1) := by decide +kernel
theorem dX9_reckon_0 : decode cX9_reckon 0 = .ok (.iload_n 1, 1) := by decide +kernel
theorem dX9_reckon_1 : decode cX9_reckon 1 = .ok (.aload_n 0, 1) := by decide +kernel
theorem dX9_reckon_2 : decode cX9_reckon 2 = .ok (.getfield 81, 3) := by decide +kernel
theorem dX9_reckon_5 : decode cX9_reckon 5 = .ok (.if_icmp .ne 4, 3) := by decide +kernel
theorem dX9_reckon_8 : decode cX9_reckon 8 = .ok (.return_, 1) := by decide +kernel
theorem dX9_reckon_9 : decode cX9_reckon 9 = .ok (.iconst 0, 1) := by decide +kernel
theorem dX9_reckon_10 : decode cX9_reckon 10 = .ok (.istore_n 2, 1) := by decide +kernel
theorem dX9_reckon_11 : decode cX9_reckon 11 = .ok (.iload_n 2, 1) := by decide +kernel
theorem dX9_reckon_12 : decode cX9_reckon 12 = .ok (.sipush 1681, 3) := by decide +kernel
theorem dX9_reckon_15 : decode cX9_reckon 15 = .ok (.if_icmp .ge 46, 3) := by decide +kernel
theorem dX9_reckon_18 : decode cX9_reckon 18 = .ok (.iconst 0, 1) := by decide +kernel
theorem dX9_reckon_19 : decode cX9_reckon 19 = .ok (.istore_n 3, 1) := by decide +kernel
theorem dX9_reckon_20 : decode cX9_reckon 20 = .ok (.iload_n 3, 1) := by decide +kernel
theorem dX9_reckon_21 : decode cX9_reckon 21 = .ok (.iconst 4, 1) := by decide +kernel
theorem dX9_reckon_22 : decode cX9_reckon 22 = .ok (.if_icmp .ge 33, 3) := by decide +kernel
theorem dX9_reckon_25 : decode cX9_reckon 25 = .ok (.aload_n 0, 1) := by decide +kernel
theorem dX9_reckon_26 : decode cX9_reckon 26 = .ok (.getfield 31, 3) := by decide +kernel
theorem dX9_reckon_29 : decode cX9_reckon 29 = .ok (.iconst 4, 1) := by decide +kernel
theorem dX9_reckon_30 : decode cX9_reckon 30 = .ok (.iload_n 2, 1) := by decide +kernel
theorem dX9_reckon_31 : decode cX9_reckon 31 = .ok (.imul, 1) := by decide +kernel
theorem dX9_reckon_32 : decode cX9_reckon 32 = .ok (.iload_n 3, 1) := by decide +kernel
theorem dX9_reckon_33 : decode cX9_reckon 33 = .ok (.iadd, 1) := by decide +kernel
theorem dX9_reckon_34 : decode cX9_reckon 34 = .ok (.aload_n 0, 1) := by decide +kernel
theorem dX9_reckon_35 : decode cX9_reckon 35 = .ok (.iload_n 1, 1) := by decide +kernel
theorem dX9_reckon_36 : decode cX9_reckon 36 = .ok (.iload_n 2, 1) := by decide +kernel
theorem dX9_reckon_37 : decode cX9_reckon 37 = .ok (.bipush 41, 2) := by decide +kernel
theorem dX9_reckon_39 : decode cX9_reckon 39 = .ok (.irem, 1) := by decide +kernel
theorem dX9_reckon_40 : decode cX9_reckon 40 = .ok (.iload_n 2, 1) := by decide +kernel
theorem dX9_reckon_41 : decode cX9_reckon 41 = .ok (.bipush 41, 2) := by decide +kernel
theorem dX9_reckon_43 : decode cX9_reckon 43 = .ok (.idiv, 1) := by decide +kernel
theorem dX9_reckon_44 : decode cX9_reckon 44 = .ok (.iload_n 3, 1) := by decide +kernel
theorem dX9_reckon_45 : decode cX9_reckon 45 = .ok (.invokevirtual 84, 3) := by decide +kernel
theorem dX9_reckon_48 : decode cX9_reckon 48 = .ok (.iastore, 1) := by decide +kernel
theorem dX9_reckon_49 : decode cX9_reckon 49 = .ok (.iinc 3 1, 3) := by decide +kernel
theorem dX9_reckon_52 : decode cX9_reckon 52 = .ok (.goto (-32), 3) := by decide +kernel
theorem dX9_reckon_55 : decode cX9_reckon 55 = .ok (.iinc 2 1, 3) := by decide +kernel
theorem dX9_reckon_58 : decode cX9_reckon 58 = .ok (.goto (-47), 3) := by decide +kernel
theorem dX9_reckon_61 : decode cX9_reckon 61 = .ok (.aload_n 0, 1) := by decide +kernel
theorem dX9_reckon_62 : decode cX9_reckon 62 = .ok (.iload_n 1, 1) := by decide +kernel
theorem dX9_reckon_63 : decode cX9_reckon 63 = .ok (.putfield 81, 3) := by decide +kernel
theorem dX9_reckon_66 : decode cX9_reckon 66 = .ok (.return_, 1) := by decide +kernel
theorem dX9_isPulse_0 : decode cX9_isPulse 0 = .ok (.iload_n 1, 1) := by decide +kernel
theorem dX9_isPulse_1 : decode cX9_isPulse 1 = .ok (.iconst 0, 1) := by decide +kernel
theorem dX9_isPulse_2 : decode cX9_isPulse 2 = .ok (.aload_n 0, 1) := by decide +kernel
theorem dX9_isPulse_3 : decode cX9_isPulse 3 = .ok (.getfield 7, 3) := by decide +kernel
theorem dX9_isPulse_6 : decode cX9_isPulse 6 = .ok (.iconst 3, 1) := by decide +kernel
theorem dX9_isPulse_7 : decode cX9_isPulse 7 = .ok (.iaload, 1) := by decide +kernel
theorem dX9_isPulse_8 : decode cX9_isPulse 8 = .ok (.iconst 1, 1) := by decide +kernel
theorem dX9_isPulse_9 : decode cX9_isPulse 9 = .ok (.isub, 1) := by decide +kernel
theorem dX9_isPulse_10 : decode cX9_isPulse 10 = .ok (.invokestatic 70, 3) := by decide +kernel
theorem dX9_isPulse_13 : decode cX9_isPulse 13 = .ok (.ireturn, 1) := by decide +kernel
theorem dX9_earOf_0 : decode cX9_earOf 0 = .ok (.aload_n 0, 1) := by decide +kernel
theorem dX9_earOf_1 : decode cX9_earOf 1 = .ok (.getfield 7, 3) := by decide +kernel
theorem dX9_earOf_4 : decode cX9_earOf 4 = .ok (.iconst 4, 1) := by decide +kernel
theorem dX9_earOf_5 : decode cX9_earOf 5 = .ok (.iconst 2, 1) := by decide +kernel
theorem dX9_earOf_6 : decode cX9_earOf 6 = .ok (.iload_n 1, 1) := by decide +kernel
theorem dX9_earOf_7 : decode cX9_earOf 7 = .ok (.imul, 1) := by decide +kernel
theorem dX9_earOf_8 : decode cX9_earOf 8 = .ok (.iadd, 1) := by decide +kernel
theorem dX9_earOf_9 : decode cX9_earOf 9 = .ok (.iaload, 1) := by decide +kernel
theorem dX9_earOf_10 : decode cX9_earOf 10 = .ok (.ireturn, 1) := by decide +kernel
theorem dX9_timeOf_0 : decode cX9_timeOf 0 = .ok (.aload_n 0, 1) := by decide +kernel
theorem dX9_timeOf_1 : decode cX9_timeOf 1 = .ok (.getfield 7, 3) := by decide +kernel
theorem dX9_timeOf_4 : decode cX9_timeOf 4 = .ok (.iconst 4, 1) := by decide +kernel
theorem dX9_timeOf_5 : decode cX9_timeOf 5 = .ok (.iconst 2, 1) := by decide +kernel
theorem dX9_timeOf_6 : decode cX9_timeOf 6 = .ok (.iload_n 1, 1) := by decide +kernel
theorem dX9_timeOf_7 : decode cX9_timeOf 7 = .ok (.imul, 1) := by decide +kernel
theorem dX9_timeOf_8 : decode cX9_timeOf 8 = .ok (.iadd, 1) := by decide +kernel
theorem dX9_timeOf_9 : decode cX9_timeOf 9 = .ok (.iconst 1, 1) := by decide +kernel
theorem dX9_timeOf_10 : decode cX9_timeOf 10 = .ok (.iadd, 1) := by decide +kernel
theorem dX9_timeOf_11 : decode cX9_timeOf 11 = .ok (.iaload, 1) := by decide +kernel
theorem dX9_timeOf_12 : decode cX9_timeOf 12 = .ok (.ireturn, 1) := by decide +kernel
theorem dX9_isThere_0 : decode cX9_isThere 0 = .ok (.iconst 0, 1) := by decide +kernel
theorem dX9_isThere_1 : decode cX9_isThere 1 = .ok (.istore_n 3, 1) := by decide +kernel
theorem dX9_isThere_2 : decode cX9_isThere 2 = .ok (.iconst 0, 1) := by decide +kernel
theorem dX9_isThere_3 : decode cX9_isThere 3 = .ok (.istore 4, 2) := by decide +kernel
theorem dX9_isThere_5 : decode cX9_isThere 5 = .ok (.iload 4, 2) := by decide +kernel
theorem dX9_isThere_7 : decode cX9_isThere 7 = .ok (.aload_n 0, 1) := by decide +kernel
theorem dX9_isThere_8 : decode cX9_isThere 8 = .ok (.getfield 7, 3) := by decide +kernel
theorem dX9_isThere_11 : decode cX9_isThere 11 = .ok (.iconst 3, 1) := by decide +kernel
theorem dX9_isThere_12 : decode cX9_isThere 12 = .ok (.iaload, 1) := by decide +kernel
theorem dX9_isThere_13 : decode cX9_isThere 13 = .ok (.if_icmp .ge 39, 3) := by decide +kernel
theorem dX9_isThere_16 : decode cX9_isThere 16 = .ok (.iload_n 3, 1) := by decide +kernel
theorem dX9_isThere_17 : decode cX9_isThere 17 = .ok (.ifCond .ne 23, 3) := by decide +kernel
theorem dX9_isThere_20 : decode cX9_isThere 20 = .ok (.aload_n 0, 1) := by decide +kernel
theorem dX9_isThere_21 : decode cX9_isThere 21 = .ok (.iload 4, 2) := by decide +kernel
theorem dX9_isThere_23 : decode cX9_isThere 23 = .ok (.invokevirtual 87, 3) := by decide +kernel
theorem dX9_isThere_26 : decode cX9_isThere 26 = .ok (.iload_n 1, 1) := by decide +kernel
theorem dX9_isThere_27 : decode cX9_isThere 27 = .ok (.if_icmp .ne 17, 3) := by decide +kernel
theorem dX9_isThere_30 : decode cX9_isThere 30 = .ok (.aload_n 0, 1) := by decide +kernel
theorem dX9_isThere_31 : decode cX9_isThere 31 = .ok (.iload 4, 2) := by decide +kernel
theorem dX9_isThere_33 : decode cX9_isThere 33 = .ok (.invokevirtual 90, 3) := by decide +kernel
theorem dX9_isThere_36 : decode cX9_isThere 36 = .ok (.iload_n 2, 1) := by decide +kernel
theorem dX9_isThere_37 : decode cX9_isThere 37 = .ok (.if_icmp .ne 7, 3) := by decide +kernel
theorem dX9_isThere_40 : decode cX9_isThere 40 = .ok (.iconst 1, 1) := by decide +kernel
theorem dX9_isThere_41 : decode cX9_isThere 41 = .ok (.goto 4, 3) := by decide +kernel
theorem dX9_isThere_44 : decode cX9_isThere 44 = .ok (.iconst 0, 1) := by decide +kernel
theorem dX9_isThere_45 : decode cX9_isThere 45 = .ok (.istore_n 3, 1) := by decide +kernel
theorem dX9_isThere_46 : decode cX9_isThere 46 = .ok (.iinc 4 1, 3) := by decide +kernel
theorem dX9_isThere_49 : decode cX9_isThere 49 = .ok (.goto (-44), 3) := by decide +kernel
theorem dX9_isThere_52 : decode cX9_isThere 52 = .ok (.iload_n 3, 1) := by decide +kernel
theorem dX9_isThere_53 : decode cX9_isThere 53 = .ok (.ireturn, 1) := by decide +kernel
theorem dX9_comes_0 : decode cX9_comes 0 = .ok (.aload_n 0, 1) := by decide +kernel
theorem dX9_comes_1 : decode cX9_comes 1 = .ok (.getfield 7, 3) := by decide +kernel
theorem dX9_comes_4 : decode cX9_comes 4 = .ok (.iconst 3, 1) := by decide +kernel
theorem dX9_comes_5 : decode cX9_comes 5 = .ok (.iaload, 1) := by decide +kernel
theorem dX9_comes_6 : decode cX9_comes 6 = .ok (.istore_n 3, 1) := by decide +kernel
theorem dX9_comes_7 : decode cX9_comes 7 = .ok (.iload_n 3, 1) := by decide +kernel
theorem dX9_comes_8 : decode cX9_comes 8 = .ok (.ifCond .le 78, 3) := by decide +kernel
theorem dX9_comes_11 : decode cX9_comes 11 = .ok (.aload_n 0, 1) := by decide +kernel
theorem dX9_comes_12 : decode cX9_comes 12 = .ok (.iload_n 3, 1) := by decide +kernel
theorem dX9_comes_13 : decode cX9_comes 13 = .ok (.iconst 1, 1) := by decide +kernel
theorem dX9_comes_14 : decode cX9_comes 14 = .ok (.isub, 1) := by decide +kernel
theorem dX9_comes_15 : decode cX9_comes 15 = .ok (.invokevirtual 90, 3) := by decide +kernel
theorem dX9_comes_18 : decode cX9_comes 18 = .ok (.iload_n 2, 1) := by decide +kernel
theorem dX9_comes_19 : decode cX9_comes 19 = .ok (.if_icmp .gt 25, 3) := by decide +kernel
theorem dX9_comes_22 : decode cX9_comes 22 = .ok (.aload_n 0, 1) := by decide +kernel
theorem dX9_comes_23 : decode cX9_comes 23 = .ok (.iload_n 3, 1) := by decide +kernel
theorem dX9_comes_24 : decode cX9_comes 24 = .ok (.iconst 1, 1) := by decide +kernel
theorem dX9_comes_25 : decode cX9_comes 25 = .ok (.isub, 1) := by decide +kernel
theorem dX9_comes_26 : decode cX9_comes 26 = .ok (.invokevirtual 90, 3) := by decide +kernel
theorem dX9_comes_29 : decode cX9_comes 29 = .ok (.iload_n 2, 1) := by decide +kernel
theorem dX9_comes_30 : decode cX9_comes 30 = .ok (.if_icmp .ne 56, 3) := by decide +kernel
theorem dX9_comes_33 : decode cX9_comes 33 = .ok (.aload_n 0, 1) := by decide +kernel
theorem dX9_comes_34 : decode cX9_comes 34 = .ok (.iload_n 3, 1) := by decide +kernel
theorem dX9_comes_35 : decode cX9_comes 35 = .ok (.iconst 1, 1) := by decide +kernel
theorem dX9_comes_36 : decode cX9_comes 36 = .ok (.isub, 1) := by decide +kernel
theorem dX9_comes_37 : decode cX9_comes 37 = .ok (.invokevirtual 87, 3) := by decide +kernel
theorem dX9_comes_40 : decode cX9_comes 40 = .ok (.iload_n 1, 1) := by decide +kernel
theorem dX9_comes_41 : decode cX9_comes 41 = .ok (.if_icmp .le 45, 3) := by decide +kernel
theorem dX9_comes_44 : decode cX9_comes 44 = .ok (.aload_n 0, 1) := by decide +kernel
theorem dX9_comes_45 : decode cX9_comes 45 = .ok (.getfield 7, 3) := by decide +kernel
theorem dX9_comes_48 : decode cX9_comes 48 = .ok (.iconst 4, 1) := by decide +kernel
theorem dX9_comes_49 : decode cX9_comes 49 = .ok (.iconst 2, 1) := by decide +kernel
theorem dX9_comes_50 : decode cX9_comes 50 = .ok (.iload_n 3, 1) := by decide +kernel
theorem dX9_comes_51 : decode cX9_comes 51 = .ok (.imul, 1) := by decide +kernel
theorem dX9_comes_52 : decode cX9_comes 52 = .ok (.iadd, 1) := by decide +kernel
theorem dX9_comes_53 : decode cX9_comes 53 = .ok (.aload_n 0, 1) := by decide +kernel
theorem dX9_comes_54 : decode cX9_comes 54 = .ok (.iload_n 3, 1) := by decide +kernel
theorem dX9_comes_55 : decode cX9_comes 55 = .ok (.iconst 1, 1) := by decide +kernel
theorem dX9_comes_56 : decode cX9_comes 56 = .ok (.isub, 1) := by decide +kernel
theorem dX9_comes_57 : decode cX9_comes 57 = .ok (.invokevirtual 87, 3) := by decide +kernel
theorem dX9_comes_60 : decode cX9_comes 60 = .ok (.iastore, 1) := by decide +kernel
theorem dX9_comes_61 : decode cX9_comes 61 = .ok (.aload_n 0, 1) := by decide +kernel
theorem dX9_comes_62 : decode cX9_comes 62 = .ok (.getfield 7, 3) := by decide +kernel
theorem dX9_comes_65 : decode cX9_comes 65 = .ok (.iconst 4, 1) := by decide +kernel
theorem dX9_comes_66 : decode cX9_comes 66 = .ok (.iconst 2, 1) := by decide +kernel
theorem dX9_comes_67 : decode cX9_comes 67 = .ok (.iload_n 3, 1) := by decide +kernel
theorem dX9_comes_68 : decode cX9_comes 68 = .ok (.imul, 1) := by decide +kernel
theorem dX9_comes_69 : decode cX9_comes 69 = .ok (.iadd, 1) := by decide +kernel
theorem dX9_comes_70 : decode cX9_comes 70 = .ok (.iconst 1, 1) := by decide +kernel
theorem dX9_comes_71 : decode cX9_comes 71 = .ok (.iadd, 1) := by decide +kernel
theorem dX9_comes_72 : decode cX9_comes 72 = .ok (.aload_n 0, 1) := by decide +kernel
theorem dX9_comes_73 : decode cX9_comes 73 = .ok (.iload_n 3, 1) := by decide +kernel
theorem dX9_comes_74 : decode cX9_comes 74 = .ok (.iconst 1, 1) := by decide +kernel
theorem dX9_comes_75 : decode cX9_comes 75 = .ok (.isub, 1) := by decide +kernel
theorem dX9_comes_76 : decode cX9_comes 76 = .ok (.invokevirtual 90, 3) := by decide +kernel
theorem dX9_comes_79 : decode cX9_comes 79 = .ok (.iastore, 1) := by decide +kernel
theorem dX9_comes_80 : decode cX9_comes 80 = .ok (.iinc 3 (-1), 3) := by decide +kernel
theorem dX9_comes_83 : decode cX9_comes 83 = .ok (.goto (-76), 3) := by decide +kernel
theorem dX9_comes_86 : decode cX9_comes 86 = .ok (.aload_n 0, 1) := by decide +kernel
theorem dX9_comes_87 : decode cX9_comes 87 = .ok (.getfield 7, 3) := by decide +kernel
theorem dX9_comes_90 : decode cX9_comes 90 = .ok (.iconst 4, 1) := by decide +kernel
theorem dX9_comes_91 : decode cX9_comes 91 = .ok (.iconst 2, 1) := by decide +kernel
theorem dX9_comes_92 : decode cX9_comes 92 = .ok (.iload_n 3, 1) := by decide +kernel
theorem dX9_comes_93 : decode cX9_comes 93 = .ok (.imul, 1) := by decide +kernel
theorem dX9_comes_94 : decode cX9_comes 94 = .ok (.iadd, 1) := by decide +kernel
theorem dX9_comes_95 : decode cX9_comes 95 = .ok (.iload_n 1, 1) := by decide +kernel
theorem dX9_comes_96 : decode cX9_comes 96 = .ok (.iastore, 1) := by decide +kernel
theorem dX9_comes_97 : decode cX9_comes 97 = .ok (.aload_n 0, 1) := by decide +kernel
theorem dX9_comes_98 : decode cX9_comes 98 = .ok (.getfield 7, 3) := by decide +kernel
theorem dX9_comes_101 : decode cX9_comes 101 = .ok (.iconst 4, 1) := by decide +kernel
theorem dX9_comes_102 : decode cX9_comes 102 = .ok (.iconst 2, 1) := by decide +kernel
theorem dX9_comes_103 : decode cX9_comes 103 = .ok (.iload_n 3, 1) := by decide +kernel
theorem dX9_comes_104 : decode cX9_comes 104 = .ok (.imul, 1) := by decide +kernel
theorem dX9_comes_105 : decode cX9_comes 105 = .ok (.iadd, 1) := by decide +kernel
theorem dX9_comes_106 : decode cX9_comes 106 = .ok (.iconst 1, 1) := by decide +kernel
theorem dX9_comes_107 : decode cX9_comes 107 = .ok (.iadd, 1) := by decide +kernel
theorem dX9_comes_108 : decode cX9_comes 108 = .ok (.iload_n 2, 1) := by decide +kernel
theorem dX9_comes_109 : decode cX9_comes 109 = .ok (.iastore, 1) := by decide +kernel
theorem dX9_comes_110 : decode cX9_comes 110 = .ok (.aload_n 0, 1) := by decide +kernel
theorem dX9_comes_111 : decode cX9_comes 111 = .ok (.getfield 7, 3) := by decide +kernel
theorem dX9_comes_114 : decode cX9_comes 114 = .ok (.iconst 3, 1) := by decide +kernel
theorem dX9_comes_115 : decode cX9_comes 115 = .ok (.dup2, 1) := by decide +kernel
theorem dX9_comes_116 : decode cX9_comes 116 = .ok (.iaload, 1) := by decide +kernel
theorem dX9_comes_117 : decode cX9_comes 117 = .ok (.iconst 1, 1) := by decide +kernel
theorem dX9_comes_118 : decode cX9_comes 118 = .ok (.iadd, 1) := by decide +kernel
theorem dX9_comes_119 : decode cX9_comes 119 = .ok (.iastore, 1) := by decide +kernel
theorem dX9_comes_120 : decode cX9_comes 120 = .ok (.iload_n 3, 1) := by decide +kernel
theorem dX9_comes_121 : decode cX9_comes 121 = .ok (.ireturn, 1) := by decide +kernel
theorem dX9_goes_0 : decode cX9_goes 0 = .ok (.aload_n 0, 1) := by decide +kernel
theorem dX9_goes_1 : decode cX9_goes 1 = .ok (.getfield 7, 3) := by decide +kernel
theorem dX9_goes_4 : decode cX9_goes 4 = .ok (.iconst 3, 1) := by decide +kernel
theorem dX9_goes_5 : decode cX9_goes 5 = .ok (.dup2, 1) := by decide +kernel
theorem dX9_goes_6 : decode cX9_goes 6 = .ok (.iaload, 1) := by decide +kernel
theorem dX9_goes_7 : decode cX9_goes 7 = .ok (.iconst 1, 1) := by decide +kernel
theorem dX9_goes_8 : decode cX9_goes 8 = .ok (.isub, 1) := by decide +kernel
theorem dX9_goes_9 : decode cX9_goes 9 = .ok (.iastore, 1) := by decide +kernel
theorem dX9_goes_10 : decode cX9_goes 10 = .ok (.iconst 4, 1) := by decide +kernel
theorem dX9_goes_11 : decode cX9_goes 11 = .ok (.iconst 2, 1) := by decide +kernel
theorem dX9_goes_12 : decode cX9_goes 12 = .ok (.iload_n 1, 1) := by decide +kernel
theorem dX9_goes_13 : decode cX9_goes 13 = .ok (.imul, 1) := by decide +kernel
theorem dX9_goes_14 : decode cX9_goes 14 = .ok (.iadd, 1) := by decide +kernel
theorem dX9_goes_15 : decode cX9_goes 15 = .ok (.istore_n 2, 1) := by decide +kernel
theorem dX9_goes_16 : decode cX9_goes 16 = .ok (.iload_n 2, 1) := by decide +kernel
theorem dX9_goes_17 : decode cX9_goes 17 = .ok (.iconst 4, 1) := by decide +kernel
theorem dX9_goes_18 : decode cX9_goes 18 = .ok (.iconst 2, 1) := by decide +kernel
theorem dX9_goes_19 : decode cX9_goes 19 = .ok (.aload_n 0, 1) := by decide +kernel
theorem dX9_goes_20 : decode cX9_goes 20 = .ok (.getfield 7, 3) := by decide +kernel
theorem dX9_goes_23 : decode cX9_goes 23 = .ok (.iconst 3, 1) := by decide +kernel
theorem dX9_goes_24 : decode cX9_goes 24 = .ok (.iaload, 1) := by decide +kernel
theorem dX9_goes_25 : decode cX9_goes 25 = .ok (.imul, 1) := by decide +kernel
theorem dX9_goes_26 : decode cX9_goes 26 = .ok (.iadd, 1) := by decide +kernel
theorem dX9_goes_27 : decode cX9_goes 27 = .ok (.if_icmp .ge 23, 3) := by decide +kernel
theorem dX9_goes_30 : decode cX9_goes 30 = .ok (.aload_n 0, 1) := by decide +kernel
theorem dX9_goes_31 : decode cX9_goes 31 = .ok (.getfield 7, 3) := by decide +kernel
theorem dX9_goes_34 : decode cX9_goes 34 = .ok (.iload_n 2, 1) := by decide +kernel
theorem dX9_goes_35 : decode cX9_goes 35 = .ok (.aload_n 0, 1) := by decide +kernel
theorem dX9_goes_36 : decode cX9_goes 36 = .ok (.getfield 7, 3) := by decide +kernel
theorem dX9_goes_39 : decode cX9_goes 39 = .ok (.iload_n 2, 1) := by decide +kernel
theorem dX9_goes_40 : decode cX9_goes 40 = .ok (.iconst 2, 1) := by decide +kernel
theorem dX9_goes_41 : decode cX9_goes 41 = .ok (.iadd, 1) := by decide +kernel
theorem dX9_goes_42 : decode cX9_goes 42 = .ok (.iaload, 1) := by decide +kernel
theorem dX9_goes_43 : decode cX9_goes 43 = .ok (.iastore, 1) := by decide +kernel
theorem dX9_goes_44 : decode cX9_goes 44 = .ok (.iinc 2 1, 3) := by decide +kernel
theorem dX9_goes_47 : decode cX9_goes 47 = .ok (.goto (-31), 3) := by decide +kernel
theorem dX9_goes_50 : decode cX9_goes 50 = .ok (.return_, 1) := by decide +kernel
theorem dX9_spreadAt_0 : decode cX9_spreadAt 0 = .ok (.ldc 93, 2) := by decide +kernel
theorem dX9_spreadAt_2 : decode cX9_spreadAt 2 = .ok (.istore_n 2, 1) := by decide +kernel
theorem dX9_spreadAt_3 : decode cX9_spreadAt 3 = .ok (.ldc 94, 2) := by decide +kernel
theorem dX9_spreadAt_5 : decode cX9_spreadAt 5 = .ok (.istore_n 3, 1) := by decide +kernel
theorem dX9_spreadAt_6 : decode cX9_spreadAt 6 = .ok (.iconst 0, 1) := by decide +kernel
theorem dX9_spreadAt_7 : decode cX9_spreadAt 7 = .ok (.istore 4, 2) := by decide +kernel
theorem dX9_spreadAt_9 : decode cX9_spreadAt 9 = .ok (.iload 4, 2) := by decide +kernel
theorem dX9_spreadAt_11 : decode cX9_spreadAt 11 = .ok (.iconst 4, 1) := by decide +kernel
theorem dX9_spreadAt_12 : decode cX9_spreadAt 12 = .ok (.if_icmp .ge 60, 3) := by decide +kernel
theorem dX9_spreadAt_15 : decode cX9_spreadAt 15 = .ok (.aload_n 0, 1) := by decide +kernel
theorem dX9_spreadAt_16 : decode cX9_spreadAt 16 = .ok (.aload_n 0, 1) := by decide +kernel
theorem dX9_spreadAt_17 : decode cX9_spreadAt 17 = .ok (.getfield 49, 3) := by decide +kernel
theorem dX9_spreadAt_20 : decode cX9_spreadAt 20 = .ok (.iload 4, 2) := by decide +kernel
theorem dX9_spreadAt_22 : decode cX9_spreadAt 22 = .ok (.iaload, 1) := by decide +kernel
theorem dX9_spreadAt_23 : decode cX9_spreadAt 23 = .ok (.invokevirtual 90, 3) := by decide +kernel
theorem dX9_spreadAt_26 : decode cX9_spreadAt 26 = .ok (.aload_n 0, 1) := by decide +kernel
theorem dX9_spreadAt_27 : decode cX9_spreadAt 27 = .ok (.getfield 31, 3) := by decide +kernel
theorem dX9_spreadAt_30 : decode cX9_spreadAt 30 = .ok (.iconst 4, 1) := by decide +kernel
theorem dX9_spreadAt_31 : decode cX9_spreadAt 31 = .ok (.iload_n 1, 1) := by decide +kernel
theorem dX9_spreadAt_32 : decode cX9_spreadAt 32 = .ok (.imul, 1) := by decide +kernel
theorem dX9_spreadAt_33 : decode cX9_spreadAt 33 = .ok (.iload 4, 2) := by decide +kernel
theorem dX9_spreadAt_35 : decode cX9_spreadAt 35 = .ok (.iadd, 1) := by decide +kernel
theorem dX9_spreadAt_36 : decode cX9_spreadAt 36 = .ok (.iaload, 1) := by decide +kernel
theorem dX9_spreadAt_37 : decode cX9_spreadAt 37 = .ok (.isub, 1) := by decide +kernel
theorem dX9_spreadAt_38 : decode cX9_spreadAt 38 = .ok (.istore 5, 2) := by decide +kernel
theorem dX9_spreadAt_40 : decode cX9_spreadAt 40 = .ok (.iload 5, 2) := by decide +kernel
theorem dX9_spreadAt_42 : decode cX9_spreadAt 42 = .ok (.iload_n 2, 1) := by decide +kernel
theorem dX9_spreadAt_43 : decode cX9_spreadAt 43 = .ok (.if_icmp .ge 8, 3) := by decide +kernel
theorem dX9_spreadAt_46 : decode cX9_spreadAt 46 = .ok (.iload 5, 2) := by decide +kernel
theorem dX9_spreadAt_48 : decode cX9_spreadAt 48 = .ok (.goto 4, 3) := by decide +kernel
theorem dX9_spreadAt_51 : decode cX9_spreadAt 51 = .ok (.iload_n 2, 1) := by decide +kernel
theorem dX9_spreadAt_52 : decode cX9_spreadAt 52 = .ok (.istore_n 2, 1) := by decide +kernel
theorem dX9_spreadAt_53 : decode cX9_spreadAt 53 = .ok (.iload 5, 2) := by decide +kernel
theorem dX9_spreadAt_55 : decode cX9_spreadAt 55 = .ok (.iload_n 3, 1) := by decide +kernel
theorem dX9_spreadAt_56 : decode cX9_spreadAt 56 = .ok (.if_icmp .le 8, 3) := by decide +kernel
theorem dX9_spreadAt_59 : decode cX9_spreadAt 59 = .ok (.iload 5, 2) := by decide +kernel
theorem dX9_spreadAt_61 : decode cX9_spreadAt 61 = .ok (.goto 4, 3) := by decide +kernel
theorem dX9_spreadAt_64 : decode cX9_spreadAt 64 = .ok (.iload_n 3, 1) := by decide +kernel
theorem dX9_spreadAt_65 : decode cX9_spreadAt 65 = .ok (.istore_n 3, 1) := by decide +kernel
theorem dX9_spreadAt_66 : decode cX9_spreadAt 66 = .ok (.iinc 4 1, 3) := by decide +kernel
theorem dX9_spreadAt_69 : decode cX9_spreadAt 69 = .ok (.goto (-60), 3) := by decide +kernel
theorem dX9_spreadAt_72 : decode cX9_spreadAt 72 = .ok (.iload_n 3, 1) := by decide +kernel
theorem dX9_spreadAt_73 : decode cX9_spreadAt 73 = .ok (.iload_n 2, 1) := by decide +kernel
theorem dX9_spreadAt_74 : decode cX9_spreadAt 74 = .ok (.isub, 1) := by decide +kernel
theorem dX9_spreadAt_75 : decode cX9_spreadAt 75 = .ok (.ireturn, 1) := by decide +kernel
theorem dX9_momentAt_0 : decode cX9_momentAt 0 = .ok (.ldc 93, 2) := by decide +kernel
theorem dX9_momentAt_2 : decode cX9_momentAt 2 = .ok (.istore_n 2, 1) := by decide +kernel
theorem dX9_momentAt_3 : decode cX9_momentAt 3 = .ok (.iconst 0, 1) := by decide +kernel
theorem dX9_momentAt_4 : decode cX9_momentAt 4 = .ok (.istore_n 3, 1) := by decide +kernel
theorem dX9_momentAt_5 : decode cX9_momentAt 5 = .ok (.iload_n 3, 1) := by decide +kernel
theorem dX9_momentAt_6 : decode cX9_momentAt 6 = .ok (.iconst 4, 1) := by decide +kernel
theorem dX9_momentAt_7 : decode cX9_momentAt 7 = .ok (.if_icmp .ge 45, 3) := by decide +kernel
theorem dX9_momentAt_10 : decode cX9_momentAt 10 = .ok (.aload_n 0, 1) := by decide +kernel
theorem dX9_momentAt_11 : decode cX9_momentAt 11 = .ok (.aload_n 0, 1) := by decide +kernel
theorem dX9_momentAt_12 : decode cX9_momentAt 12 = .ok (.getfield 49, 3) := by decide +kernel
theorem dX9_momentAt_15 : decode cX9_momentAt 15 = .ok (.iload_n 3, 1) := by decide +kernel
theorem dX9_momentAt_16 : decode cX9_momentAt 16 = .ok (.iaload, 1) := by decide +kernel
theorem dX9_momentAt_17 : decode cX9_momentAt 17 = .ok (.invokevirtual 90, 3) := by decide +kernel
theorem dX9_momentAt_20 : decode cX9_momentAt 20 = .ok (.aload_n 0, 1) := by decide +kernel
theorem dX9_momentAt_21 : decode cX9_momentAt 21 = .ok (.getfield 31, 3) := by decide +kernel
theorem dX9_momentAt_24 : decode cX9_momentAt 24 = .ok (.iconst 4, 1) := by decide +kernel
theorem dX9_momentAt_25 : decode cX9_momentAt 25 = .ok (.iload_n 1, 1) := by decide +kernel
theorem dX9_momentAt_26 : decode cX9_momentAt 26 = .ok (.imul, 1) := by decide +kernel
theorem dX9_momentAt_27 : decode cX9_momentAt 27 = .ok (.iload_n 3, 1) := by decide +kernel
theorem dX9_momentAt_28 : decode cX9_momentAt 28 = .ok (.iadd, 1) := by decide +kernel
theorem dX9_momentAt_29 : decode cX9_momentAt 29 = .ok (.iaload, 1) := by decide +kernel
theorem dX9_momentAt_30 : decode cX9_momentAt 30 = .ok (.isub, 1) := by decide +kernel
theorem dX9_momentAt_31 : decode cX9_momentAt 31 = .ok (.istore 4, 2) := by decide +kernel
theorem dX9_momentAt_33 : decode cX9_momentAt 33 = .ok (.iload 4, 2) := by decide +kernel
theorem dX9_momentAt_35 : decode cX9_momentAt 35 = .ok (.iload_n 2, 1) := by decide +kernel
theorem dX9_momentAt_36 : decode cX9_momentAt 36 = .ok (.if_icmp .ge 8, 3) := by decide +kernel
theorem dX9_momentAt_39 : decode cX9_momentAt 39 = .ok (.iload 4, 2) := by decide +kernel
theorem dX9_momentAt_41 : decode cX9_momentAt 41 = .ok (.goto 4, 3) := by decide +kernel
theorem dX9_momentAt_44 : decode cX9_momentAt 44 = .ok (.iload_n 2, 1) := by decide +kernel
theorem dX9_momentAt_45 : decode cX9_momentAt 45 = .ok (.istore_n 2, 1) := by decide +kernel
theorem dX9_momentAt_46 : decode cX9_momentAt 46 = .ok (.iinc 3 1, 3) := by decide +kernel
theorem dX9_momentAt_49 : decode cX9_momentAt 49 = .ok (.goto (-44), 3) := by decide +kernel
theorem dX9_momentAt_52 : decode cX9_momentAt 52 = .ok (.iload_n 2, 1) := by decide +kernel
theorem dX9_momentAt_53 : decode cX9_momentAt 53 = .ok (.ireturn, 1) := by decide +kernel
theorem dX9_findPlace_0 : decode cX9_findPlace 0 = .ok (.aload_n 0, 1) := by decide +kernel
theorem dX9_findPlace_1 : decode cX9_findPlace 1 = .ok (.iconst 0, 1) := by decide +kernel
theorem dX9_findPlace_2 : decode cX9_findPlace 2 = .ok (.putfield 95, 3) := by decide +kernel
theorem dX9_findPlace_5 : decode cX9_findPlace 5 = .ok (.aload_n 0, 1) := by decide +kernel
theorem dX9_findPlace_6 : decode cX9_findPlace 6 = .ok (.aload_n 0, 1) := by decide +kernel
theorem dX9_findPlace_7 : decode cX9_findPlace 7 = .ok (.iconst 0, 1) := by decide +kernel
theorem dX9_findPlace_8 : decode cX9_findPlace 8 = .ok (.invokevirtual 98, 3) := by decide +kernel
theorem dX9_findPlace_11 : decode cX9_findPlace 11 = .ok (.putfield 101, 3) := by decide +kernel
theorem dX9_findPlace_14 : decode cX9_findPlace 14 = .ok (.iconst 1, 1) := by decide +kernel
theorem dX9_findPlace_15 : decode cX9_findPlace 15 = .ok (.istore_n 1, 1) := by decide +kernel
theorem dX9_findPlace_16 : decode cX9_findPlace 16 = .ok (.iload_n 1, 1) := by decide +kernel
theorem dX9_findPlace_17 : decode cX9_findPlace 17 = .ok (.sipush 1681, 3) := by decide +kernel
theorem dX9_findPlace_20 : decode cX9_findPlace 20 = .ok (.if_icmp .ge 55, 3) := by decide +kernel
theorem dX9_findPlace_23 : decode cX9_findPlace 23 = .ok (.aload_n 0, 1) := by decide +kernel
theorem dX9_findPlace_24 : decode cX9_findPlace 24 = .ok (.iload_n 1, 1) := by decide +kernel
theorem dX9_findPlace_25 : decode cX9_findPlace 25 = .ok (.invokevirtual 98, 3) := by decide +kernel
theorem dX9_findPlace_28 : decode cX9_findPlace 28 = .ok (.istore_n 2, 1) := by decide +kernel
theorem dX9_findPlace_29 : decode cX9_findPlace 29 = .ok (.aload_n 0, 1) := by decide +kernel
theorem dX9_findPlace_30 : decode cX9_findPlace 30 = .ok (.iload_n 2, 1) := by decide +kernel
theorem dX9_findPlace_31 : decode cX9_findPlace 31 = .ok (.aload_n 0, 1) := by decide +kernel
theorem dX9_findPlace_32 : decode cX9_findPlace 32 = .ok (.getfield 101, 3) := by decide +kernel
theorem dX9_findPlace_35 : decode cX9_findPlace 35 = .ok (.if_icmp .ge 7, 3) := by decide +kernel
theorem dX9_findPlace_38 : decode cX9_findPlace 38 = .ok (.iload_n 1, 1) := by decide +kernel
theorem dX9_findPlace_39 : decode cX9_findPlace 39 = .ok (.goto 7, 3) := by decide +kernel
theorem dX9_findPlace_42 : decode cX9_findPlace 42 = .ok (.aload_n 0, 1) := by decide +kernel
theorem dX9_findPlace_43 : decode cX9_findPlace 43 = .ok (.getfield 95, 3) := by decide +kernel
theorem dX9_findPlace_46 : decode cX9_findPlace 46 = .ok (.putfield 95, 3) := by decide +kernel
theorem dX9_findPlace_49 : decode cX9_findPlace 49 = .ok (.aload_n 0, 1) := by decide +kernel
theorem dX9_findPlace_50 : decode cX9_findPlace 50 = .ok (.iload_n 2, 1) := by decide +kernel
theorem dX9_findPlace_51 : decode cX9_findPlace 51 = .ok (.aload_n 0, 1) := by decide +kernel
theorem dX9_findPlace_52 : decode cX9_findPlace 52 = .ok (.getfield 101, 3) := by decide +kernel
theorem dX9_findPlace_55 : decode cX9_findPlace 55 = .ok (.if_icmp .ge 7, 3) := by decide +kernel
theorem dX9_findPlace_58 : decode cX9_findPlace 58 = .ok (.iload_n 2, 1) := by decide +kernel
theorem dX9_findPlace_59 : decode cX9_findPlace 59 = .ok (.goto 7, 3) := by decide +kernel
theorem dX9_findPlace_62 : decode cX9_findPlace 62 = .ok (.aload_n 0, 1) := by decide +kernel
theorem dX9_findPlace_63 : decode cX9_findPlace 63 = .ok (.getfield 101, 3) := by decide +kernel
theorem dX9_findPlace_66 : decode cX9_findPlace 66 = .ok (.putfield 101, 3) := by decide +kernel
theorem dX9_findPlace_69 : decode cX9_findPlace 69 = .ok (.iinc 1 1, 3) := by decide +kernel
theorem dX9_findPlace_72 : decode cX9_findPlace 72 = .ok (.goto (-56), 3) := by decide +kernel
theorem dX9_findPlace_75 : decode cX9_findPlace 75 = .ok (.return_, 1) := by decide +kernel
theorem dX9_findCandidates_0 : decode cX9_findCandidates 0 = .ok (.iconst 1, 1) := by decide +kernel
theorem dX9_findCandidates_1 : decode cX9_findCandidates 1 = .ok (.istore_n 2, 1) := by decide +kernel
theorem dX9_findCandidates_2 : decode cX9_findCandidates 2 = .ok (.iconst 0, 1) := by decide +kernel
theorem dX9_findCandidates_3 : decode cX9_findCandidates 3 = .ok (.istore_n 3, 1) := by decide +kernel
theorem dX9_findCandidates_4 : decode cX9_findCandidates 4 = .ok (.iload_n 3, 1) := by decide +kernel
theorem dX9_findCandidates_5 : decode cX9_findCandidates 5 = .ok (.iconst 4, 1) := by decide +kernel
theorem dX9_findCandidates_6 : decode cX9_findCandidates 6 = .ok (.if_icmp .ge 169, 3) := by decide +kernel
theorem dX9_findCandidates_9 : decode cX9_findCandidates 9 = .ok (.iconst 0, 1) := by decide +kernel
theorem dX9_findCandidates_10 : decode cX9_findCandidates 10 = .ok (.istore 4, 2) := by decide +kernel
theorem dX9_findCandidates_12 : decode cX9_findCandidates 12 = .ok (.aload_n 0, 1) := by decide +kernel
theorem dX9_findCandidates_13 : decode cX9_findCandidates 13 = .ok (.getfield 52, 3) := by decide +kernel
theorem dX9_findCandidates_16 : decode cX9_findCandidates 16 = .ok (.iconst 2, 1) := by decide +kernel
theorem dX9_findCandidates_17 : decode cX9_findCandidates 17 = .ok (.iload_n 3, 1) := by decide +kernel
theorem dX9_findCandidates_18 : decode cX9_findCandidates 18 = .ok (.imul, 1) := by decide +kernel
theorem dX9_findCandidates_19 : decode cX9_findCandidates 19 = .ok (.bipush (-6), 2) := by decide +kernel
theorem dX9_findCandidates_21 : decode cX9_findCandidates 21 = .ok (.iastore, 1) := by decide +kernel
theorem dX9_findCandidates_22 : decode cX9_findCandidates 22 = .ok (.aload_n 0, 1) := by decide +kernel
theorem dX9_findCandidates_23 : decode cX9_findCandidates 23 = .ok (.getfield 52, 3) := by decide +kernel
theorem dX9_findCandidates_26 : decode cX9_findCandidates 26 = .ok (.iconst 2, 1) := by decide +kernel
theorem dX9_findCandidates_27 : decode cX9_findCandidates 27 = .ok (.iload_n 3, 1) := by decide +kernel
theorem dX9_findCandidates_28 : decode cX9_findCandidates 28 = .ok (.imul, 1) := by decide +kernel
theorem dX9_findCandidates_29 : decode cX9_findCandidates 29 = .ok (.iconst 1, 1) := by decide +kernel
theorem dX9_findCandidates_30 : decode cX9_findCandidates 30 = .ok (.iadd, 1) := by decide +kernel
theorem dX9_findCandidates_31 : decode cX9_findCandidates 31 = .ok (.bipush (-6), 2) := by decide +kernel
theorem dX9_findCandidates_33 : decode cX9_findCandidates 33 = .ok (.iastore, 1) := by decide +kernel
theorem dX9_findCandidates_34 : decode cX9_findCandidates 34 = .ok (.iconst 0, 1) := by decide +kernel
theorem dX9_findCandidates_35 : decode cX9_findCandidates 35 = .ok (.istore 5, 2) := by decide +kernel
theorem dX9_findCandidates_37 : decode cX9_findCandidates 37 = .ok (.iload 5, 2) := by decide +kernel
theorem dX9_findCandidates_39 : decode cX9_findCandidates 39 = .ok (.aload_n 0, 1) := by decide +kernel
theorem dX9_findCandidates_40 : decode cX9_findCandidates 40 = .ok (.getfield 7, 3) := by decide +kernel
theorem dX9_findCandidates_43 : decode cX9_findCandidates 43 = .ok (.iconst 3, 1) := by decide +kernel
theorem dX9_findCandidates_44 : decode cX9_findCandidates 44 = .ok (.iaload, 1) := by decide +kernel
theorem dX9_findCandidates_45 : decode cX9_findCandidates 45 = .ok (.if_icmp .ge 100, 3) := by decide +kernel
theorem dX9_findCandidates_48 : decode cX9_findCandidates 48 = .ok (.iload 4, 2) := by decide +kernel
theorem dX9_findCandidates_50 : decode cX9_findCandidates 50 = .ok (.iconst 2, 1) := by decide +kernel
theorem dX9_findCandidates_51 : decode cX9_findCandidates 51 = .ok (.if_icmp .ge 94, 3) := by decide +kernel
theorem dX9_findCandidates_54 : decode cX9_findCandidates 54 = .ok (.aload_n 0, 1) := by decide +kernel
theorem dX9_findCandidates_55 : decode cX9_findCandidates 55 = .ok (.iload 5, 2) := by decide +kernel
theorem dX9_findCandidates_57 : decode cX9_findCandidates 57 = .ok (.invokevirtual 87, 3) := by decide +kernel
theorem dX9_findCandidates_60 : decode cX9_findCandidates 60 = .ok (.iload_n 3, 1) := by decide +kernel
theorem dX9_findCandidates_61 : decode cX9_findCandidates 61 = .ok (.if_icmp .ne 54, 3) := by decide +kernel
theorem dX9_findCandidates_64 : decode cX9_findCandidates 64 = .ok (.aload_n 0, 1) := by decide +kernel
theorem dX9_findCandidates_65 : decode cX9_findCandidates 65 = .ok (.getfield 34, 3) := by decide +kernel
theorem dX9_findCandidates_68 : decode cX9_findCandidates 68 = .ok (.iload 5, 2) := by decide +kernel
theorem dX9_findCandidates_70 : decode cX9_findCandidates 70 = .ok (.iaload, 1) := by decide +kernel
theorem dX9_findCandidates_71 : decode cX9_findCandidates 71 = .ok (.bipush 40, 2) := by decide +kernel
theorem dX9_findCandidates_73 : decode cX9_findCandidates 73 = .ok (.if_icmp .ne 42, 3) := by decide +kernel
theorem dX9_findCandidates_76 : decode cX9_findCandidates 76 = .ok (.aload_n 0, 1) := by decide +kernel
theorem dX9_findCandidates_77 : decode cX9_findCandidates 77 = .ok (.iload 5, 2) := by decide +kernel
theorem dX9_findCandidates_79 : decode cX9_findCandidates 79 = .ok (.invokevirtual 90, 3) := by decide +kernel
theorem dX9_findCandidates_82 : decode cX9_findCandidates 82 = .ok (.aload_n 0, 1) := by decide +kernel
theorem dX9_findCandidates_83 : decode cX9_findCandidates 83 = .ok (.iload_n 1, 1) := by decide +kernel
theorem dX9_findCandidates_84 : decode cX9_findCandidates 84 = .ok (.invokevirtual 90, 3) := by decide +kernel
theorem dX9_findCandidates_87 : decode cX9_findCandidates 87 = .ok (.if_icmp .lt 28, 3) := by decide +kernel
theorem dX9_findCandidates_90 : decode cX9_findCandidates 90 = .ok (.aload_n 0, 1) := by decide +kernel
theorem dX9_findCandidates_91 : decode cX9_findCandidates 91 = .ok (.iload 5, 2) := by decide +kernel
theorem dX9_findCandidates_93 : decode cX9_findCandidates 93 = .ok (.invokevirtual 90, 3) := by decide +kernel
theorem dX9_findCandidates_96 : decode cX9_findCandidates 96 = .ok (.aload_n 0, 1) := by decide +kernel
theorem dX9_findCandidates_97 : decode cX9_findCandidates 97 = .ok (.iload_n 1, 1) := by decide +kernel
theorem dX9_findCandidates_98 : decode cX9_findCandidates 98 = .ok (.invokevirtual 90, 3) := by decide +kernel
theorem dX9_findCandidates_101 : decode cX9_findCandidates 101 = .ok (.isub, 1) := by decide +kernel
theorem dX9_findCandidates_102 : decode cX9_findCandidates 102 = .ok (.aload_n 0, 1) := by decide +kernel
theorem dX9_findCandidates_103 : decode cX9_findCandidates 103 = .ok (.getfield 7, 3) := by decide +kernel
theorem dX9_findCandidates_106 : decode cX9_findCandidates 106 = .ok (.iconst 1, 1) := by decide +kernel
theorem dX9_findCandidates_107 : decode cX9_findCandidates 107 = .ok (.iaload, 1) := by decide +kernel
theorem dX9_findCandidates_108 : decode cX9_findCandidates 108 = .ok (.if_icmp .gt 7, 3) := by decide +kernel
theorem dX9_findCandidates_111 : decode cX9_findCandidates 111 = .ok (.iconst 1, 1) := by decide +kernel
theorem dX9_findCandidates_112 : decode cX9_findCandidates 112 = .ok (.goto 4, 3) := by decide +kernel
theorem dX9_findCandidates_115 : decode cX9_findCandidates 115 = .ok (.iconst 0, 1) := by decide +kernel
theorem dX9_findCandidates_116 : decode cX9_findCandidates 116 = .ok (.istore 6, 2) := by decide +kernel
theorem dX9_findCandidates_118 : decode cX9_findCandidates 118 = .ok (.iload 6, 2) := by decide +kernel
theorem dX9_findCandidates_120 : decode cX9_findCandidates 120 = .ok (.ifCond .eq 19, 3) := by decide +kernel
theorem dX9_findCandidates_123 : decode cX9_findCandidates 123 = .ok (.aload_n 0, 1) := by decide +kernel
theorem dX9_findCandidates_124 : decode cX9_findCandidates 124 = .ok (.getfield 52, 3) := by decide +kernel
theorem dX9_findCandidates_127 : decode cX9_findCandidates 127 = .ok (.iconst 2, 1) := by decide +kernel
theorem dX9_findCandidates_128 : decode cX9_findCandidates 128 = .ok (.iload_n 3, 1) := by decide +kernel
theorem dX9_findCandidates_129 : decode cX9_findCandidates 129 = .ok (.imul, 1) := by decide +kernel
theorem dX9_findCandidates_130 : decode cX9_findCandidates 130 = .ok (.iload 4, 2) := by decide +kernel
theorem dX9_findCandidates_132 : decode cX9_findCandidates 132 = .ok (.iadd, 1) := by decide +kernel
theorem dX9_findCandidates_133 : decode cX9_findCandidates 133 = .ok (.iload 5, 2) := by decide +kernel
theorem dX9_findCandidates_135 : decode cX9_findCandidates 135 = .ok (.iastore, 1) := by decide +kernel
theorem dX9_findCandidates_136 : decode cX9_findCandidates 136 = .ok (.iinc 4 1, 3) := by decide +kernel
theorem dX9_findCandidates_139 : decode cX9_findCandidates 139 = .ok (.iinc 5 1, 3) := by decide +kernel
theorem dX9_findCandidates_142 : decode cX9_findCandidates 142 = .ok (.goto (-105), 3) := by decide +kernel
theorem dX9_findCandidates_145 : decode cX9_findCandidates 145 = .ok (.iload_n 2, 1) := by decide +kernel
theorem dX9_findCandidates_146 : decode cX9_findCandidates 146 = .ok (.ifCond .eq 21, 3) := by decide +kernel
theorem dX9_findCandidates_149 : decode cX9_findCandidates 149 = .ok (.iload_n 3, 1) := by decide +kernel
theorem dX9_findCandidates_150 : decode cX9_findCandidates 150 = .ok (.aload_n 0, 1) := by decide +kernel
theorem dX9_findCandidates_151 : decode cX9_findCandidates 151 = .ok (.iload_n 1, 1) := by decide +kernel
theorem dX9_findCandidates_152 : decode cX9_findCandidates 152 = .ok (.invokevirtual 87, 3) := by decide +kernel
theorem dX9_findCandidates_155 : decode cX9_findCandidates 155 = .ok (.if_icmp .eq 8, 3) := by decide +kernel
theorem dX9_findCandidates_158 : decode cX9_findCandidates 158 = .ok (.iload 4, 2) := by decide +kernel
theorem dX9_findCandidates_160 : decode cX9_findCandidates 160 = .ok (.ifCond .le 7, 3) := by decide +kernel
theorem dX9_findCandidates_163 : decode cX9_findCandidates 163 = .ok (.iconst 1, 1) := by decide +kernel
theorem dX9_findCandidates_164 : decode cX9_findCandidates 164 = .ok (.goto 4, 3) := by decide +kernel
theorem dX9_findCandidates_167 : decode cX9_findCandidates 167 = .ok (.iconst 0, 1) := by decide +kernel
theorem dX9_findCandidates_168 : decode cX9_findCandidates 168 = .ok (.istore_n 2, 1) := by decide +kernel
theorem dX9_findCandidates_169 : decode cX9_findCandidates 169 = .ok (.iinc 3 1, 3) := by decide +kernel
theorem dX9_findCandidates_172 : decode cX9_findCandidates 172 = .ok (.goto (-168), 3) := by decide +kernel
theorem dX9_findCandidates_175 : decode cX9_findCandidates 175 = .ok (.aload_n 0, 1) := by decide +kernel
theorem dX9_findCandidates_176 : decode cX9_findCandidates 176 = .ok (.getfield 52, 3) := by decide +kernel
theorem dX9_findCandidates_179 : decode cX9_findCandidates 179 = .ok (.iconst 2, 1) := by decide +kernel
theorem dX9_findCandidates_180 : decode cX9_findCandidates 180 = .ok (.aload_n 0, 1) := by decide +kernel
theorem dX9_findCandidates_181 : decode cX9_findCandidates 181 = .ok (.iload_n 1, 1) := by decide +kernel
theorem dX9_findCandidates_182 : decode cX9_findCandidates 182 = .ok (.invokevirtual 87, 3) := by decide +kernel
theorem dX9_findCandidates_185 : decode cX9_findCandidates 185 = .ok (.imul, 1) := by decide +kernel
theorem dX9_findCandidates_186 : decode cX9_findCandidates 186 = .ok (.iload_n 1, 1) := by decide +kernel
theorem dX9_findCandidates_187 : decode cX9_findCandidates 187 = .ok (.iastore, 1) := by decide +kernel
theorem dX9_findCandidates_188 : decode cX9_findCandidates 188 = .ok (.aload_n 0, 1) := by decide +kernel
theorem dX9_findCandidates_189 : decode cX9_findCandidates 189 = .ok (.getfield 52, 3) := by decide +kernel
theorem dX9_findCandidates_192 : decode cX9_findCandidates 192 = .ok (.iconst 2, 1) := by decide +kernel
theorem dX9_findCandidates_193 : decode cX9_findCandidates 193 = .ok (.aload_n 0, 1) := by decide +kernel
theorem dX9_findCandidates_194 : decode cX9_findCandidates 194 = .ok (.iload_n 1, 1) := by decide +kernel
theorem dX9_findCandidates_195 : decode cX9_findCandidates 195 = .ok (.invokevirtual 87, 3) := by decide +kernel
theorem dX9_findCandidates_198 : decode cX9_findCandidates 198 = .ok (.imul, 1) := by decide +kernel
theorem dX9_findCandidates_199 : decode cX9_findCandidates 199 = .ok (.iconst 1, 1) := by decide +kernel
theorem dX9_findCandidates_200 : decode cX9_findCandidates 200 = .ok (.iadd, 1) := by decide +kernel
theorem dX9_findCandidates_201 : decode cX9_findCandidates 201 = .ok (.bipush (-6), 2) := by decide +kernel
theorem dX9_findCandidates_203 : decode cX9_findCandidates 203 = .ok (.iastore, 1) := by decide +kernel
theorem dX9_findCandidates_204 : decode cX9_findCandidates 204 = .ok (.iload_n 2, 1) := by decide +kernel
theorem dX9_findCandidates_205 : decode cX9_findCandidates 205 = .ok (.ireturn, 1) := by decide +kernel
theorem dX9_takeRow_0 : decode cX9_takeRow 0 = .ok (.iconst 0, 1) := by decide +kernel
theorem dX9_takeRow_1 : decode cX9_takeRow 1 = .ok (.istore_n 2, 1) := by decide +kernel
theorem dX9_takeRow_2 : decode cX9_takeRow 2 = .ok (.iload_n 2, 1) := by decide +kernel
theorem dX9_takeRow_3 : decode cX9_takeRow 3 = .ok (.iconst 4, 1) := by decide +kernel
theorem dX9_takeRow_4 : decode cX9_takeRow 4 = .ok (.if_icmp .ge 31, 3) := by decide +kernel
theorem dX9_takeRow_7 : decode cX9_takeRow 7 = .ok (.aload_n 0, 1) := by decide +kernel
theorem dX9_takeRow_8 : decode cX9_takeRow 8 = .ok (.getfield 49, 3) := by decide +kernel
theorem dX9_takeRow_11 : decode cX9_takeRow 11 = .ok (.iload_n 2, 1) := by decide +kernel
theorem dX9_takeRow_12 : decode cX9_takeRow 12 = .ok (.aload_n 0, 1) := by decide +kernel
theorem dX9_takeRow_13 : decode cX9_takeRow 13 = .ok (.getfield 52, 3) := by decide +kernel
theorem dX9_takeRow_16 : decode cX9_takeRow 16 = .ok (.iconst 2, 1) := by decide +kernel
theorem dX9_takeRow_17 : decode cX9_takeRow 17 = .ok (.iload_n 2, 1) := by decide +kernel
theorem dX9_takeRow_18 : decode cX9_takeRow 18 = .ok (.imul, 1) := by decide +kernel
theorem dX9_takeRow_19 : decode cX9_takeRow 19 = .ok (.iload_n 1, 1) := by decide +kernel
theorem dX9_takeRow_20 : decode cX9_takeRow 20 = .ok (.iconst 3, 1) := by decide +kernel
theorem dX9_takeRow_21 : decode cX9_takeRow 21 = .ok (.iload_n 2, 1) := by decide +kernel
theorem dX9_takeRow_22 : decode cX9_takeRow 22 = .ok (.isub, 1) := by decide +kernel
theorem dX9_takeRow_23 : decode cX9_takeRow 23 = .ok (.ishr, 1) := by decide +kernel
theorem dX9_takeRow_24 : decode cX9_takeRow 24 = .ok (.iconst 1, 1) := by decide +kernel
theorem dX9_takeRow_25 : decode cX9_takeRow 25 = .ok (.iand, 1) := by decide +kernel
theorem dX9_takeRow_26 : decode cX9_takeRow 26 = .ok (.iadd, 1) := by decide +kernel
theorem dX9_takeRow_27 : decode cX9_takeRow 27 = .ok (.iaload, 1) := by decide +kernel
theorem dX9_takeRow_28 : decode cX9_takeRow 28 = .ok (.iastore, 1) := by decide +kernel
theorem dX9_takeRow_29 : decode cX9_takeRow 29 = .ok (.iinc 2 1, 3) := by decide +kernel
theorem dX9_takeRow_32 : decode cX9_takeRow 32 = .ok (.goto (-30), 3) := by decide +kernel
theorem dX9_takeRow_35 : decode cX9_takeRow 35 = .ok (.return_, 1) := by decide +kernel
theorem dX9_isRow_0 : decode cX9_isRow 0 = .ok (.iconst 1, 1) := by decide +kernel
theorem dX9_isRow_1 : decode cX9_isRow 1 = .ok (.istore_n 1, 1) := by decide +kernel
theorem dX9_isRow_2 : decode cX9_isRow 2 = .ok (.iconst 0, 1) := by decide +kernel
theorem dX9_isRow_3 : decode cX9_isRow 3 = .ok (.istore_n 2, 1) := by decide +kernel
theorem dX9_isRow_4 : decode cX9_isRow 4 = .ok (.iload_n 2, 1) := by decide +kernel
theorem dX9_isRow_5 : decode cX9_isRow 5 = .ok (.iconst 4, 1) := by decide +kernel
theorem dX9_isRow_6 : decode cX9_isRow 6 = .ok (.if_icmp .ge 30, 3) := by decide +kernel
theorem dX9_isRow_9 : decode cX9_isRow 9 = .ok (.iload_n 1, 1) := by decide +kernel
theorem dX9_isRow_10 : decode cX9_isRow 10 = .ok (.ifCond .eq 18, 3) := by decide +kernel
theorem dX9_isRow_13 : decode cX9_isRow 13 = .ok (.aload_n 0, 1) := by decide +kernel
theorem dX9_isRow_14 : decode cX9_isRow 14 = .ok (.getfield 49, 3) := by decide +kernel
theorem dX9_isRow_17 : decode cX9_isRow 17 = .ok (.iload_n 2, 1) := by decide +kernel
theorem dX9_isRow_18 : decode cX9_isRow 18 = .ok (.iaload, 1) := by decide +kernel
theorem dX9_isRow_19 : decode cX9_isRow 19 = .ok (.bipush (-6), 2) := by decide +kernel
theorem dX9_isRow_21 : decode cX9_isRow 21 = .ok (.if_icmp .eq 7, 3) := by decide +kernel
theorem dX9_isRow_24 : decode cX9_isRow 24 = .ok (.iconst 1, 1) := by decide +kernel
theorem dX9_isRow_25 : decode cX9_isRow 25 = .ok (.goto 4, 3) := by decide +kernel
theorem dX9_isRow_28 : decode cX9_isRow 28 = .ok (.iconst 0, 1) := by decide +kernel
theorem dX9_isRow_29 : decode cX9_isRow 29 = .ok (.istore_n 1, 1) := by decide +kernel
theorem dX9_isRow_30 : decode cX9_isRow 30 = .ok (.iinc 2 1, 3) := by decide +kernel
theorem dX9_isRow_33 : decode cX9_isRow 33 = .ok (.goto (-29), 3) := by decide +kernel
theorem dX9_isRow_36 : decode cX9_isRow 36 = .ok (.iload_n 1, 1) := by decide +kernel
theorem dX9_isRow_37 : decode cX9_isRow 37 = .ok (.ireturn, 1) := by decide +kernel
theorem dX9_findBest_0 : decode cX9_findBest 0 = .ok (.aload_n 0, 1) := by decide +kernel
theorem dX9_findBest_1 : decode cX9_findBest 1 = .ok (.bipush (-6), 2) := by decide +kernel
theorem dX9_findBest_3 : decode cX9_findBest 3 = .ok (.putfield 104, 3) := by decide +kernel
theorem dX9_findBest_6 : decode cX9_findBest 6 = .ok (.iconst 0, 1) := by decide +kernel
theorem dX9_findBest_7 : decode cX9_findBest 7 = .ok (.istore_n 1, 1) := by decide +kernel
theorem dX9_findBest_8 : decode cX9_findBest 8 = .ok (.iload_n 1, 1) := by decide +kernel
theorem dX9_findBest_9 : decode cX9_findBest 9 = .ok (.bipush 16, 2) := by decide +kernel
theorem dX9_findBest_11 : decode cX9_findBest 11 = .ok (.if_icmp .ge 86, 3) := by decide +kernel
theorem dX9_findBest_14 : decode cX9_findBest 14 = .ok (.aload_n 0, 1) := by decide +kernel
theorem dX9_findBest_15 : decode cX9_findBest 15 = .ok (.iload_n 1, 1) := by decide +kernel
theorem dX9_findBest_16 : decode cX9_findBest 16 = .ok (.invokevirtual 107, 3) := by decide +kernel
theorem dX9_findBest_19 : decode cX9_findBest 19 = .ok (.aload_n 0, 1) := by decide +kernel
theorem dX9_findBest_20 : decode cX9_findBest 20 = .ok (.invokevirtual 111, 3) := by decide +kernel
theorem dX9_findBest_23 : decode cX9_findBest 23 = .ok (.ifCond .eq 68, 3) := by decide +kernel
theorem dX9_findBest_26 : decode cX9_findBest 26 = .ok (.aload_n 0, 1) := by decide +kernel
theorem dX9_findBest_27 : decode cX9_findBest 27 = .ok (.invokevirtual 115, 3) := by decide +kernel
theorem dX9_findBest_30 : decode cX9_findBest 30 = .ok (.aload_n 0, 1) := by decide +kernel
theorem dX9_findBest_31 : decode cX9_findBest 31 = .ok (.getfield 104, 3) := by decide +kernel
theorem dX9_findBest_34 : decode cX9_findBest 34 = .ok (.bipush (-6), 2) := by decide +kernel
theorem dX9_findBest_36 : decode cX9_findBest 36 = .ok (.if_icmp .eq 14, 3) := by decide +kernel
theorem dX9_findBest_39 : decode cX9_findBest 39 = .ok (.aload_n 0, 1) := by decide +kernel
theorem dX9_findBest_40 : decode cX9_findBest 40 = .ok (.getfield 101, 3) := by decide +kernel
theorem dX9_findBest_43 : decode cX9_findBest 43 = .ok (.aload_n 0, 1) := by decide +kernel
theorem dX9_findBest_44 : decode cX9_findBest 44 = .ok (.getfield 104, 3) := by decide +kernel
theorem dX9_findBest_47 : decode cX9_findBest 47 = .ok (.if_icmp .ge 44, 3) := by decide +kernel
theorem dX9_findBest_50 : decode cX9_findBest 50 = .ok (.aload_n 0, 1) := by decide +kernel
theorem dX9_findBest_51 : decode cX9_findBest 51 = .ok (.aload_n 0, 1) := by decide +kernel
theorem dX9_findBest_52 : decode cX9_findBest 52 = .ok (.getfield 101, 3) := by decide +kernel
theorem dX9_findBest_55 : decode cX9_findBest 55 = .ok (.putfield 104, 3) := by decide +kernel
theorem dX9_findBest_58 : decode cX9_findBest 58 = .ok (.aload_n 0, 1) := by decide +kernel
theorem dX9_findBest_59 : decode cX9_findBest 59 = .ok (.aload_n 0, 1) := by decide +kernel
theorem dX9_findBest_60 : decode cX9_findBest 60 = .ok (.getfield 95, 3) := by decide +kernel
theorem dX9_findBest_63 : decode cX9_findBest 63 = .ok (.putfield 118, 3) := by decide +kernel
theorem dX9_findBest_66 : decode cX9_findBest 66 = .ok (.iconst 0, 1) := by decide +kernel
theorem dX9_findBest_67 : decode cX9_findBest 67 = .ok (.istore_n 2, 1) := by decide +kernel
theorem dX9_findBest_68 : decode cX9_findBest 68 = .ok (.iload_n 2, 1) := by decide +kernel
