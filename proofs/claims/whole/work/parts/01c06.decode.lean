theorem dX10_fate_15 : decode cX10_fate 15 = .ok (.i2l, 1) := by decide +kernel
theorem dX10_fate_16 : decode cX10_fate 16 = .ok (.lconst 0, 1) := by decide +kernel
theorem dX10_fate_17 : decode cX10_fate 17 = .ok (.ldc2_w 364, 3) := by decide +kernel
theorem dX10_fate_20 : decode cX10_fate 20 = .ok (.invokestatic 124, 3) := by decide +kernel
theorem dX10_fate_23 : decode cX10_fate 23 = .ok (.ifCond .ne 6, 3) := by decide +kernel
theorem dX10_fate_26 : decode cX10_fate 26 = .ok (.bipush (-8), 2) := by decide +kernel
theorem dX10_fate_28 : decode cX10_fate 28 = .ok (.ireturn, 1) := by decide +kernel
theorem dX10_fate_29 : decode cX10_fate 29 = .ok (.aload_n 0, 1) := by decide +kernel
theorem dX10_fate_30 : decode cX10_fate 30 = .ok (.iload_n 1, 1) := by decide +kernel
theorem dX10_fate_31 : decode cX10_fate 31 = .ok (.invokevirtual 286, 3) := by decide +kernel
theorem dX10_fate_34 : decode cX10_fate 34 = .ok (.aload_n 0, 1) := by decide +kernel
theorem dX10_fate_35 : decode cX10_fate 35 = .ok (.aload_n 0, 1) := by decide +kernel
theorem dX10_fate_36 : decode cX10_fate 36 = .ok (.getfield 13, 3) := by decide +kernel
theorem dX10_fate_39 : decode cX10_fate 39 = .ok (.sipush 349, 3) := by decide +kernel
theorem dX10_fate_42 : decode cX10_fate 42 = .ok (.iaload, 1) := by decide +kernel
theorem dX10_fate_43 : decode cX10_fate 43 = .ok (.sipush 200, 3) := by decide +kernel
theorem dX10_fate_46 : decode cX10_fate 46 = .ok (.invokevirtual 366, 3) := by decide +kernel
theorem dX10_fate_49 : decode cX10_fate 49 = .ok (.istore_n 3, 1) := by decide +kernel
theorem dX10_fate_50 : decode cX10_fate 50 = .ok (.iload_n 2, 1) := by decide +kernel
theorem dX10_fate_51 : decode cX10_fate 51 = .ok (.ifCond .ne 12, 3) := by decide +kernel
theorem dX10_fate_54 : decode cX10_fate 54 = .ok (.aload_n 0, 1) := by decide +kernel
theorem dX10_fate_55 : decode cX10_fate 55 = .ok (.getfield 30, 3) := by decide +kernel
theorem dX10_fate_58 : decode cX10_fate 58 = .ok (.iconst 0, 1) := by decide +kernel
theorem dX10_fate_59 : decode cX10_fate 59 = .ok (.iaload, 1) := by decide +kernel
theorem dX10_fate_60 : decode cX10_fate 60 = .ok (.goto 30, 3) := by decide +kernel
theorem dX10_fate_63 : decode cX10_fate 63 = .ok (.iload_n 2, 1) := by decide +kernel
theorem dX10_fate_64 : decode cX10_fate 64 = .ok (.iconst 1, 1) := by decide +kernel
theorem dX10_fate_65 : decode cX10_fate 65 = .ok (.if_icmp .ne 18, 3) := by decide +kernel
theorem dX10_fate_68 : decode cX10_fate 68 = .ok (.iload_n 3, 1) := by decide +kernel
theorem dX10_fate_69 : decode cX10_fate 69 = .ok (.ldc_w 363, 3) := by decide +kernel
theorem dX10_fate_72 : decode cX10_fate 72 = .ok (.if_icmp .ne 7, 3) := by decide +kernel
theorem dX10_fate_75 : decode cX10_fate 75 = .ok (.iconst (-1), 1) := by decide +kernel
theorem dX10_fate_76 : decode cX10_fate 76 = .ok (.goto 14, 3) := by decide +kernel
theorem dX10_fate_79 : decode cX10_fate 79 = .ok (.iload_n 3, 1) := by decide +kernel
theorem dX10_fate_80 : decode cX10_fate 80 = .ok (.goto 10, 3) := by decide +kernel
theorem dX10_fate_83 : decode cX10_fate 83 = .ok (.aload_n 0, 1) := by decide +kernel
theorem dX10_fate_84 : decode cX10_fate 84 = .ok (.getfield 30, 3) := by decide +kernel
theorem dX10_fate_87 : decode cX10_fate 87 = .ok (.bipush 7, 2) := by decide +kernel
theorem dX10_fate_89 : decode cX10_fate 89 = .ok (.iaload, 1) := by decide +kernel
theorem dX10_fate_90 : decode cX10_fate 90 = .ok (.ireturn, 1) := by decide +kernel
theorem dX10_here_0 : decode cX10_here 0 = .ok (.aload_n 0, 1) := by decide +kernel
theorem dX10_here_1 : decode cX10_here 1 = .ok (.invokevirtual 247, 3) := by decide +kernel
theorem dX10_here_4 : decode cX10_here 4 = .ok (.ifCond .eq 12, 3) := by decide +kernel
theorem dX10_here_7 : decode cX10_here 7 = .ok (.aload_n 0, 1) := by decide +kernel
theorem dX10_here_8 : decode cX10_here 8 = .ok (.getfield 30, 3) := by decide +kernel
theorem dX10_here_11 : decode cX10_here 11 = .ok (.iconst 1, 1) := by decide +kernel
theorem dX10_here_12 : decode cX10_here 12 = .ok (.iaload, 1) := by decide +kernel
theorem dX10_here_13 : decode cX10_here 13 = .ok (.goto 4, 3) := by decide +kernel
theorem dX10_here_16 : decode cX10_here 16 = .ok (.iconst (-1), 1) := by decide +kernel
theorem dX10_here_17 : decode cX10_here 17 = .ok (.ireturn, 1) := by decide +kernel
theorem dX10_whereIn_0 : decode cX10_whereIn 0 = .ok (.aload_n 0, 1) := by decide +kernel
theorem dX10_whereIn_1 : decode cX10_whereIn 1 = .ok (.iconst 0, 1) := by decide +kernel
theorem dX10_whereIn_2 : decode cX10_whereIn 2 = .ok (.putfield 1, 3) := by decide +kernel
theorem dX10_whereIn_5 : decode cX10_whereIn 5 = .ok (.aload_n 0, 1) := by decide +kernel
theorem dX10_whereIn_6 : decode cX10_whereIn 6 = .ok (.iload_n 1, 1) := by decide +kernel
theorem dX10_whereIn_7 : decode cX10_whereIn 7 = .ok (.i2l, 1) := by decide +kernel
theorem dX10_whereIn_8 : decode cX10_whereIn 8 = .ok (.invokevirtual 272, 3) := by decide +kernel
theorem dX10_whereIn_11 : decode cX10_whereIn 11 = .ok (.ifCond .ne 6, 3) := by decide +kernel
theorem dX10_whereIn_14 : decode cX10_whereIn 14 = .ok (.bipush (-2), 2) := by decide +kernel
theorem dX10_whereIn_16 : decode cX10_whereIn 16 = .ok (.ireturn, 1) := by decide +kernel
theorem dX10_whereIn_17 : decode cX10_whereIn 17 = .ok (.iload_n 2, 1) := by decide +kernel
theorem dX10_whereIn_18 : decode cX10_whereIn 18 = .ok (.i2l, 1) := by decide +kernel
theorem dX10_whereIn_19 : decode cX10_whereIn 19 = .ok (.lconst 0, 1) := by decide +kernel
theorem dX10_whereIn_20 : decode cX10_whereIn 20 = .ok (.ldc2_w 369, 3) := by decide +kernel
theorem dX10_whereIn_23 : decode cX10_whereIn 23 = .ok (.invokestatic 124, 3) := by decide +kernel
theorem dX10_whereIn_26 : decode cX10_whereIn 26 = .ok (.ifCond .ne 6, 3) := by decide +kernel
theorem dX10_whereIn_29 : decode cX10_whereIn 29 = .ok (.bipush (-3), 2) := by decide +kernel
theorem dX10_whereIn_31 : decode cX10_whereIn 31 = .ok (.ireturn, 1) := by decide +kernel
theorem dX10_whereIn_32 : decode cX10_whereIn 32 = .ok (.aload_n 0, 1) := by decide +kernel
theorem dX10_whereIn_33 : decode cX10_whereIn 33 = .ok (.iload_n 1, 1) := by decide +kernel
theorem dX10_whereIn_34 : decode cX10_whereIn 34 = .ok (.invokevirtual 286, 3) := by decide +kernel
theorem dX10_whereIn_37 : decode cX10_whereIn 37 = .ok (.iconst 0, 1) := by decide +kernel
theorem dX10_whereIn_38 : decode cX10_whereIn 38 = .ok (.istore_n 3, 1) := by decide +kernel
theorem dX10_whereIn_39 : decode cX10_whereIn 39 = .ok (.iload_n 3, 1) := by decide +kernel
theorem dX10_whereIn_40 : decode cX10_whereIn 40 = .ok (.iload_n 2, 1) := by decide +kernel
theorem dX10_whereIn_41 : decode cX10_whereIn 41 = .ok (.if_icmp .ge 24, 3) := by decide +kernel
theorem dX10_whereIn_44 : decode cX10_whereIn 44 = .ok (.aload_n 0, 1) := by decide +kernel
theorem dX10_whereIn_45 : decode cX10_whereIn 45 = .ok (.aload_n 0, 1) := by decide +kernel
theorem dX10_whereIn_46 : decode cX10_whereIn 46 = .ok (.getfield 13, 3) := by decide +kernel
theorem dX10_whereIn_49 : decode cX10_whereIn 49 = .ok (.sipush 349, 3) := by decide +kernel
theorem dX10_whereIn_52 : decode cX10_whereIn 52 = .ok (.iaload, 1) := by decide +kernel
theorem dX10_whereIn_53 : decode cX10_whereIn 53 = .ok (.iload_n 3, 1) := by decide +kernel
theorem dX10_whereIn_54 : decode cX10_whereIn 54 = .ok (.iadd, 1) := by decide +kernel
theorem dX10_whereIn_55 : decode cX10_whereIn 55 = .ok (.iconst 0, 1) := by decide +kernel
theorem dX10_whereIn_56 : decode cX10_whereIn 56 = .ok (.invokevirtual 289, 3) := by decide +kernel
theorem dX10_whereIn_59 : decode cX10_whereIn 59 = .ok (.iinc 3 1, 3) := by decide +kernel
theorem dX10_whereIn_62 : decode cX10_whereIn 62 = .ok (.goto (-23), 3) := by decide +kernel
theorem dX10_whereIn_65 : decode cX10_whereIn 65 = .ok (.aload_n 0, 1) := by decide +kernel
theorem dX10_whereIn_66 : decode cX10_whereIn 66 = .ok (.invokevirtual 371, 3) := by decide +kernel
theorem dX10_whereIn_69 : decode cX10_whereIn 69 = .ok (.ireturn, 1) := by decide +kernel
theorem dX10_comesTo_0 : decode cX10_comesTo 0 = .ok (.aload_n 0, 1) := by decide +kernel
theorem dX10_comesTo_1 : decode cX10_comesTo 1 = .ok (.iconst 0, 1) := by decide +kernel
theorem dX10_comesTo_2 : decode cX10_comesTo 2 = .ok (.putfield 1, 3) := by decide +kernel
theorem dX10_comesTo_5 : decode cX10_comesTo 5 = .ok (.aload_n 0, 1) := by decide +kernel
theorem dX10_comesTo_6 : decode cX10_comesTo 6 = .ok (.iload_n 1, 1) := by decide +kernel
theorem dX10_comesTo_7 : decode cX10_comesTo 7 = .ok (.i2l, 1) := by decide +kernel
theorem dX10_comesTo_8 : decode cX10_comesTo 8 = .ok (.invokevirtual 272, 3) := by decide +kernel
theorem dX10_comesTo_11 : decode cX10_comesTo 11 = .ok (.ifCond .eq 12, 3) := by decide +kernel
theorem dX10_comesTo_14 : decode cX10_comesTo 14 = .ok (.aload_n 0, 1) := by decide +kernel
theorem dX10_comesTo_15 : decode cX10_comesTo 15 = .ok (.iload_n 2, 1) := by decide +kernel
theorem dX10_comesTo_16 : decode cX10_comesTo 16 = .ok (.i2l, 1) := by decide +kernel
theorem dX10_comesTo_17 : decode cX10_comesTo 17 = .ok (.invokevirtual 260, 3) := by decide +kernel
theorem dX10_comesTo_20 : decode cX10_comesTo 20 = .ok (.ifCond .ne 6, 3) := by decide +kernel
theorem dX10_comesTo_23 : decode cX10_comesTo 23 = .ok (.bipush (-2), 2) := by decide +kernel
theorem dX10_comesTo_25 : decode cX10_comesTo 25 = .ok (.ireturn, 1) := by decide +kernel
theorem dX10_comesTo_26 : decode cX10_comesTo 26 = .ok (.aload_n 0, 1) := by decide +kernel
theorem dX10_comesTo_27 : decode cX10_comesTo 27 = .ok (.iload_n 1, 1) := by decide +kernel
theorem dX10_comesTo_28 : decode cX10_comesTo 28 = .ok (.invokevirtual 286, 3) := by decide +kernel
theorem dX10_comesTo_31 : decode cX10_comesTo 31 = .ok (.iconst 0, 1) := by decide +kernel
theorem dX10_comesTo_32 : decode cX10_comesTo 32 = .ok (.istore_n 3, 1) := by decide +kernel
theorem dX10_comesTo_33 : decode cX10_comesTo 33 = .ok (.iload_n 3, 1) := by decide +kernel
theorem dX10_comesTo_34 : decode cX10_comesTo 34 = .ok (.sipush 200, 3) := by decide +kernel
theorem dX10_comesTo_37 : decode cX10_comesTo 37 = .ok (.if_icmp .gt 34, 3) := by decide +kernel
theorem dX10_comesTo_40 : decode cX10_comesTo 40 = .ok (.aload_n 0, 1) := by decide +kernel
theorem dX10_comesTo_41 : decode cX10_comesTo 41 = .ok (.invokevirtual 371, 3) := by decide +kernel
theorem dX10_comesTo_44 : decode cX10_comesTo 44 = .ok (.iload_n 2, 1) := by decide +kernel
theorem dX10_comesTo_45 : decode cX10_comesTo 45 = .ok (.if_icmp .ne 5, 3) := by decide +kernel
theorem dX10_comesTo_48 : decode cX10_comesTo 48 = .ok (.iload_n 3, 1) := by decide +kernel
theorem dX10_comesTo_49 : decode cX10_comesTo 49 = .ok (.ireturn, 1) := by decide +kernel
theorem dX10_comesTo_50 : decode cX10_comesTo 50 = .ok (.aload_n 0, 1) := by decide +kernel
theorem dX10_comesTo_51 : decode cX10_comesTo 51 = .ok (.aload_n 0, 1) := by decide +kernel
theorem dX10_comesTo_52 : decode cX10_comesTo 52 = .ok (.getfield 13, 3) := by decide +kernel
theorem dX10_comesTo_55 : decode cX10_comesTo 55 = .ok (.sipush 349, 3) := by decide +kernel
theorem dX10_comesTo_58 : decode cX10_comesTo 58 = .ok (.iaload, 1) := by decide +kernel
theorem dX10_comesTo_59 : decode cX10_comesTo 59 = .ok (.iload_n 3, 1) := by decide +kernel
theorem dX10_comesTo_60 : decode cX10_comesTo 60 = .ok (.iadd, 1) := by decide +kernel
theorem dX10_comesTo_61 : decode cX10_comesTo 61 = .ok (.iconst 0, 1) := by decide +kernel
theorem dX10_comesTo_62 : decode cX10_comesTo 62 = .ok (.invokevirtual 289, 3) := by decide +kernel
theorem dX10_comesTo_65 : decode cX10_comesTo 65 = .ok (.iinc 3 1, 3) := by decide +kernel
theorem dX10_comesTo_68 : decode cX10_comesTo 68 = .ok (.goto (-35), 3) := by decide +kernel
theorem dX10_comesTo_71 : decode cX10_comesTo 71 = .ok (.iconst (-1), 1) := by decide +kernel
theorem dX10_comesTo_72 : decode cX10_comesTo 72 = .ok (.ireturn, 1) := by decide +kernel
theorem dX10_keptBy_0 : decode cX10_keptBy 0 = .ok (.aload_n 0, 1) := by decide +kernel
theorem dX10_keptBy_1 : decode cX10_keptBy 1 = .ok (.iload_n 1, 1) := by decide +kernel
theorem dX10_keptBy_2 : decode cX10_keptBy 2 = .ok (.iload_n 2, 1) := by decide +kernel
theorem dX10_keptBy_3 : decode cX10_keptBy 3 = .ok (.iload_n 3, 1) := by decide +kernel
theorem dX10_keptBy_4 : decode cX10_keptBy 4 = .ok (.aload_n 0, 1) := by decide +kernel
theorem dX10_keptBy_5 : decode cX10_keptBy 5 = .ok (.iload_n 1, 1) := by decide +kernel
theorem dX10_keptBy_6 : decode cX10_keptBy 6 = .ok (.invokevirtual 244, 3) := by decide +kernel
theorem dX10_keptBy_9 : decode cX10_keptBy 9 = .ok (.invokevirtual 279, 3) := by decide +kernel
theorem dX10_keptBy_12 : decode cX10_keptBy 12 = .ok (.aload_n 0, 1) := by decide +kernel
theorem dX10_keptBy_13 : decode cX10_keptBy 13 = .ok (.aload_n 0, 1) := by decide +kernel
theorem dX10_keptBy_14 : decode cX10_keptBy 14 = .ok (.iload 4, 2) := by decide +kernel
theorem dX10_keptBy_16 : decode cX10_keptBy 16 = .ok (.sipush 200, 3) := by decide +kernel
theorem dX10_keptBy_19 : decode cX10_keptBy 19 = .ok (.invokevirtual 366, 3) := by decide +kernel
theorem dX10_keptBy_22 : decode cX10_keptBy 22 = .ok (.putfield 374, 3) := by decide +kernel
theorem dX10_keptBy_25 : decode cX10_keptBy 25 = .ok (.aload_n 0, 1) := by decide +kernel
theorem dX10_keptBy_26 : decode cX10_keptBy 26 = .ok (.getfield 374, 3) := by decide +kernel
theorem dX10_keptBy_29 : decode cX10_keptBy 29 = .ok (.ldc_w 363, 3) := by decide +kernel
theorem dX10_keptBy_32 : decode cX10_keptBy 32 = .ok (.if_icmp .eq 23, 3) := by decide +kernel
theorem dX10_keptBy_35 : decode cX10_keptBy 35 = .ok (.aload_n 0, 1) := by decide +kernel
theorem dX10_keptBy_36 : decode cX10_keptBy 36 = .ok (.getfield 30, 3) := by decide +kernel
theorem dX10_keptBy_39 : decode cX10_keptBy 39 = .ok (.iconst 0, 1) := by decide +kernel
theorem dX10_keptBy_40 : decode cX10_keptBy 40 = .ok (.iaload, 1) := by decide +kernel
theorem dX10_keptBy_41 : decode cX10_keptBy 41 = .ok (.iconst 2, 1) := by decide +kernel
theorem dX10_keptBy_42 : decode cX10_keptBy 42 = .ok (.if_icmp .ne 13, 3) := by decide +kernel
theorem dX10_keptBy_45 : decode cX10_keptBy 45 = .ok (.aload_n 0, 1) := by decide +kernel
theorem dX10_keptBy_46 : decode cX10_keptBy 46 = .ok (.getfield 30, 3) := by decide +kernel
theorem dX10_keptBy_49 : decode cX10_keptBy 49 = .ok (.bipush 7, 2) := by decide +kernel
theorem dX10_keptBy_51 : decode cX10_keptBy 51 = .ok (.iaload, 1) := by decide +kernel
theorem dX10_keptBy_52 : decode cX10_keptBy 52 = .ok (.goto 4, 3) := by decide +kernel
theorem dX10_keptBy_55 : decode cX10_keptBy 55 = .ok (.iconst (-1), 1) := by decide +kernel
theorem dX10_keptBy_56 : decode cX10_keptBy 56 = .ok (.ireturn, 1) := by decide +kernel
theorem dX10_noThrow_0 : decode cX10_noThrow 0 = .ok (.aload_n 0, 1) := by decide +kernel
theorem dX10_noThrow_1 : decode cX10_noThrow 1 = .ok (.iload_n 1, 1) := by decide +kernel
theorem dX10_noThrow_2 : decode cX10_noThrow 2 = .ok (.i2l, 1) := by decide +kernel
theorem dX10_noThrow_3 : decode cX10_noThrow 3 = .ok (.invokevirtual 264, 3) := by decide +kernel
theorem dX10_noThrow_6 : decode cX10_noThrow 6 = .ok (.ifCond .eq 22, 3) := by decide +kernel
theorem dX10_noThrow_9 : decode cX10_noThrow 9 = .ok (.iload_n 2, 1) := by decide +kernel
theorem dX10_noThrow_10 : decode cX10_noThrow 10 = .ok (.iconst (-1), 1) := by decide +kernel
theorem dX10_noThrow_11 : decode cX10_noThrow 11 = .ok (.if_icmp .eq 12, 3) := by decide +kernel
theorem dX10_noThrow_14 : decode cX10_noThrow 14 = .ok (.aload_n 0, 1) := by decide +kernel
theorem dX10_noThrow_15 : decode cX10_noThrow 15 = .ok (.iload_n 2, 1) := by decide +kernel
theorem dX10_noThrow_16 : decode cX10_noThrow 16 = .ok (.i2l, 1) := by decide +kernel
theorem dX10_noThrow_17 : decode cX10_noThrow 17 = .ok (.invokevirtual 264, 3) := by decide +kernel
theorem dX10_noThrow_20 : decode cX10_noThrow 20 = .ok (.ifCond .eq 8, 3) := by decide +kernel
theorem dX10_noThrow_23 : decode cX10_noThrow 23 = .ok (.iload_n 1, 1) := by decide +kernel
theorem dX10_noThrow_24 : decode cX10_noThrow 24 = .ok (.iload_n 2, 1) := by decide +kernel
theorem dX10_noThrow_25 : decode cX10_noThrow 25 = .ok (.if_icmp .ne 6, 3) := by decide +kernel
theorem dX10_noThrow_28 : decode cX10_noThrow 28 = .ok (.bipush (-2), 2) := by decide +kernel
theorem dX10_noThrow_30 : decode cX10_noThrow 30 = .ok (.ireturn, 1) := by decide +kernel
theorem dX10_noThrow_31 : decode cX10_noThrow 31 = .ok (.iconst 0, 1) := by decide +kernel
theorem dX10_noThrow_32 : decode cX10_noThrow 32 = .ok (.ireturn, 1) := by decide +kernel
theorem dX10_keeper_0 : decode cX10_keeper 0 = .ok (.aload_n 0, 1) := by decide +kernel
theorem dX10_keeper_1 : decode cX10_keeper 1 = .ok (.iconst 0, 1) := by decide +kernel
theorem dX10_keeper_2 : decode cX10_keeper 2 = .ok (.putfield 1, 3) := by decide +kernel
theorem dX10_keeper_5 : decode cX10_keeper 5 = .ok (.aload_n 0, 1) := by decide +kernel
theorem dX10_keeper_6 : decode cX10_keeper 6 = .ok (.iload_n 1, 1) := by decide +kernel
theorem dX10_keeper_7 : decode cX10_keeper 7 = .ok (.iload_n 2, 1) := by decide +kernel
theorem dX10_keeper_8 : decode cX10_keeper 8 = .ok (.invokevirtual 377, 3) := by decide +kernel
theorem dX10_keeper_11 : decode cX10_keeper 11 = .ok (.ifCond .eq 6, 3) := by decide +kernel
theorem dX10_keeper_14 : decode cX10_keeper 14 = .ok (.bipush (-2), 2) := by decide +kernel
theorem dX10_keeper_16 : decode cX10_keeper 16 = .ok (.ireturn, 1) := by decide +kernel
theorem dX10_keeper_17 : decode cX10_keeper 17 = .ok (.iload 4, 2) := by decide +kernel
theorem dX10_keeper_19 : decode cX10_keeper 19 = .ok (.i2l, 1) := by decide +kernel
theorem dX10_keeper_20 : decode cX10_keeper 20 = .ok (.lconst 0, 1) := by decide +kernel
theorem dX10_keeper_21 : decode cX10_keeper 21 = .ok (.ldc2_w 380, 3) := by decide +kernel
theorem dX10_keeper_24 : decode cX10_keeper 24 = .ok (.invokestatic 124, 3) := by decide +kernel
theorem dX10_keeper_27 : decode cX10_keeper 27 = .ok (.ifCond .ne 6, 3) := by decide +kernel
theorem dX10_keeper_30 : decode cX10_keeper 30 = .ok (.bipush (-3), 2) := by decide +kernel
theorem dX10_keeper_32 : decode cX10_keeper 32 = .ok (.ireturn, 1) := by decide +kernel
theorem dX10_keeper_33 : decode cX10_keeper 33 = .ok (.aload_n 0, 1) := by decide +kernel
theorem dX10_keeper_34 : decode cX10_keeper 34 = .ok (.iload_n 1, 1) := by decide +kernel
theorem dX10_keeper_35 : decode cX10_keeper 35 = .ok (.invokevirtual 244, 3) := by decide +kernel
theorem dX10_keeper_38 : decode cX10_keeper 38 = .ok (.iconst (-1), 1) := by decide +kernel
theorem dX10_keeper_39 : decode cX10_keeper 39 = .ok (.if_icmp .ne 8, 3) := by decide +kernel
theorem dX10_keeper_42 : decode cX10_keeper 42 = .ok (.bipush (-5), 2) := by decide +kernel
theorem dX10_keeper_44 : decode cX10_keeper 44 = .ok (.goto 21, 3) := by decide +kernel
theorem dX10_keeper_47 : decode cX10_keeper 47 = .ok (.aload_n 0, 1) := by decide +kernel
theorem dX10_keeper_48 : decode cX10_keeper 48 = .ok (.iload_n 1, 1) := by decide +kernel
theorem dX10_keeper_49 : decode cX10_keeper 49 = .ok (.iload_n 2, 1) := by decide +kernel
theorem dX10_keeper_50 : decode cX10_keeper 50 = .ok (.iload_n 3, 1) := by decide +kernel
theorem dX10_keeper_51 : decode cX10_keeper 51 = .ok (.aload_n 0, 1) := by decide +kernel
theorem dX10_keeper_52 : decode cX10_keeper 52 = .ok (.getfield 13, 3) := by decide +kernel
theorem dX10_keeper_55 : decode cX10_keeper 55 = .ok (.sipush 349, 3) := by decide +kernel
theorem dX10_keeper_58 : decode cX10_keeper 58 = .ok (.iaload, 1) := by decide +kernel
theorem dX10_keeper_59 : decode cX10_keeper 59 = .ok (.iload 4, 2) := by decide +kernel
theorem dX10_keeper_61 : decode cX10_keeper 61 = .ok (.iadd, 1) := by decide +kernel
theorem dX10_keeper_62 : decode cX10_keeper 62 = .ok (.invokevirtual 382, 3) := by decide +kernel
theorem dX10_keeper_65 : decode cX10_keeper 65 = .ok (.ireturn, 1) := by decide +kernel
theorem dX10_reaches_0 : decode cX10_reaches 0 = .ok (.aload_n 0, 1) := by decide +kernel
theorem dX10_reaches_1 : decode cX10_reaches 1 = .ok (.iconst 0, 1) := by decide +kernel
theorem dX10_reaches_2 : decode cX10_reaches 2 = .ok (.putfield 1, 3) := by decide +kernel
theorem dX10_reaches_5 : decode cX10_reaches 5 = .ok (.aload_n 0, 1) := by decide +kernel
theorem dX10_reaches_6 : decode cX10_reaches 6 = .ok (.iload_n 1, 1) := by decide +kernel
theorem dX10_reaches_7 : decode cX10_reaches 7 = .ok (.iload_n 2, 1) := by decide +kernel
theorem dX10_reaches_8 : decode cX10_reaches 8 = .ok (.invokevirtual 377, 3) := by decide +kernel
theorem dX10_reaches_11 : decode cX10_reaches 11 = .ok (.ifCond .ne 8, 3) := by decide +kernel
theorem dX10_reaches_14 : decode cX10_reaches 14 = .ok (.iload_n 2, 1) := by decide +kernel
theorem dX10_reaches_15 : decode cX10_reaches 15 = .ok (.iconst (-1), 1) := by decide +kernel
theorem dX10_reaches_16 : decode cX10_reaches 16 = .ok (.if_icmp .ne 6, 3) := by decide +kernel
theorem dX10_reaches_19 : decode cX10_reaches 19 = .ok (.bipush (-2), 2) := by decide +kernel
theorem dX10_reaches_21 : decode cX10_reaches 21 = .ok (.ireturn, 1) := by decide +kernel
theorem dX10_reaches_22 : decode cX10_reaches 22 = .ok (.iload 4, 2) := by decide +kernel
theorem dX10_reaches_24 : decode cX10_reaches 24 = .ok (.i2l, 1) := by decide +kernel
theorem dX10_reaches_25 : decode cX10_reaches 25 = .ok (.lconst 0, 1) := by decide +kernel
theorem dX10_reaches_26 : decode cX10_reaches 26 = .ok (.ldc2_w 380, 3) := by decide +kernel
theorem dX10_reaches_29 : decode cX10_reaches 29 = .ok (.invokestatic 124, 3) := by decide +kernel
theorem dX10_reaches_32 : decode cX10_reaches 32 = .ok (.ifCond .ne 6, 3) := by decide +kernel
theorem dX10_reaches_35 : decode cX10_reaches 35 = .ok (.bipush (-3), 2) := by decide +kernel
theorem dX10_reaches_37 : decode cX10_reaches 37 = .ok (.ireturn, 1) := by decide +kernel
theorem dX10_reaches_38 : decode cX10_reaches 38 = .ok (.aload_n 0, 1) := by decide +kernel
theorem dX10_reaches_39 : decode cX10_reaches 39 = .ok (.iload_n 1, 1) := by decide +kernel
theorem dX10_reaches_40 : decode cX10_reaches 40 = .ok (.invokevirtual 244, 3) := by decide +kernel
theorem dX10_reaches_43 : decode cX10_reaches 43 = .ok (.iconst (-1), 1) := by decide +kernel
theorem dX10_reaches_44 : decode cX10_reaches 44 = .ok (.if_icmp .ne 6, 3) := by decide +kernel
theorem dX10_reaches_47 : decode cX10_reaches 47 = .ok (.bipush (-5), 2) := by decide +kernel
theorem dX10_reaches_49 : decode cX10_reaches 49 = .ok (.ireturn, 1) := by decide +kernel
theorem dX10_reaches_50 : decode cX10_reaches 50 = .ok (.aload_n 0, 1) := by decide +kernel
theorem dX10_reaches_51 : decode cX10_reaches 51 = .ok (.iload_n 1, 1) := by decide +kernel
theorem dX10_reaches_52 : decode cX10_reaches 52 = .ok (.iload_n 2, 1) := by decide +kernel
theorem dX10_reaches_53 : decode cX10_reaches 53 = .ok (.iload_n 3, 1) := by decide +kernel
theorem dX10_reaches_54 : decode cX10_reaches 54 = .ok (.aload_n 0, 1) := by decide +kernel
theorem dX10_reaches_55 : decode cX10_reaches 55 = .ok (.getfield 13, 3) := by decide +kernel
theorem dX10_reaches_58 : decode cX10_reaches 58 = .ok (.sipush 349, 3) := by decide +kernel
theorem dX10_reaches_61 : decode cX10_reaches 61 = .ok (.iaload, 1) := by decide +kernel
theorem dX10_reaches_62 : decode cX10_reaches 62 = .ok (.iload 4, 2) := by decide +kernel
theorem dX10_reaches_64 : decode cX10_reaches 64 = .ok (.iadd, 1) := by decide +kernel
theorem dX10_reaches_65 : decode cX10_reaches 65 = .ok (.invokevirtual 382, 3) := by decide +kernel
theorem dX10_reaches_68 : decode cX10_reaches 68 = .ok (.iload_n 2, 1) := by decide +kernel
theorem dX10_reaches_69 : decode cX10_reaches 69 = .ok (.if_icmp .ne 13, 3) := by decide +kernel
theorem dX10_reaches_72 : decode cX10_reaches 72 = .ok (.iload 4, 2) := by decide +kernel
theorem dX10_reaches_74 : decode cX10_reaches 74 = .ok (.aload_n 0, 1) := by decide +kernel
theorem dX10_reaches_75 : decode cX10_reaches 75 = .ok (.getfield 374, 3) := by decide +kernel
theorem dX10_reaches_78 : decode cX10_reaches 78 = .ok (.iadd, 1) := by decide +kernel
theorem dX10_reaches_79 : decode cX10_reaches 79 = .ok (.goto 4, 3) := by decide +kernel
theorem dX10_reaches_82 : decode cX10_reaches 82 = .ok (.iconst (-1), 1) := by decide +kernel
theorem dX10_reaches_83 : decode cX10_reaches 83 = .ok (.ireturn, 1) := by decide +kernel
theorem dX10_bestFrom_0 : decode cX10_bestFrom 0 = .ok (.ldc_w 363, 3) := by decide +kernel
theorem dX10_bestFrom_3 : decode cX10_bestFrom 3 = .ok (.istore 4, 2) := by decide +kernel
theorem dX10_bestFrom_5 : decode cX10_bestFrom 5 = .ok (.iconst 0, 1) := by decide +kernel
theorem dX10_bestFrom_6 : decode cX10_bestFrom 6 = .ok (.istore 5, 2) := by decide +kernel
theorem dX10_bestFrom_8 : decode cX10_bestFrom 8 = .ok (.iload 5, 2) := by decide +kernel
theorem dX10_bestFrom_10 : decode cX10_bestFrom 10 = .ok (.bipush 30, 2) := by decide +kernel
theorem dX10_bestFrom_12 : decode cX10_bestFrom 12 = .ok (.if_icmp .gt 94, 3) := by decide +kernel
theorem dX10_bestFrom_15 : decode cX10_bestFrom 15 = .ok (.aload_n 0, 1) := by decide +kernel
theorem dX10_bestFrom_16 : decode cX10_bestFrom 16 = .ok (.iload_n 1, 1) := by decide +kernel
theorem dX10_bestFrom_17 : decode cX10_bestFrom 17 = .ok (.invokevirtual 244, 3) := by decide +kernel
theorem dX10_bestFrom_20 : decode cX10_bestFrom 20 = .ok (.iconst (-1), 1) := by decide +kernel
theorem dX10_bestFrom_21 : decode cX10_bestFrom 21 = .ok (.if_icmp .eq 85, 3) := by decide +kernel
theorem dX10_bestFrom_24 : decode cX10_bestFrom 24 = .ok (.iconst 0, 1) := by decide +kernel
theorem dX10_bestFrom_25 : decode cX10_bestFrom 25 = .ok (.istore 6, 2) := by decide +kernel
theorem dX10_bestFrom_27 : decode cX10_bestFrom 27 = .ok (.iload 6, 2) := by decide +kernel
theorem dX10_bestFrom_29 : decode cX10_bestFrom 29 = .ok (.iconst 2, 1) := by decide +kernel
theorem dX10_bestFrom_30 : decode cX10_bestFrom 30 = .ok (.if_icmp .ge 70, 3) := by decide +kernel
theorem dX10_bestFrom_33 : decode cX10_bestFrom 33 = .ok (.aload_n 0, 1) := by decide +kernel
theorem dX10_bestFrom_34 : decode cX10_bestFrom 34 = .ok (.iload_n 1, 1) := by decide +kernel
theorem dX10_bestFrom_35 : decode cX10_bestFrom 35 = .ok (.iload_n 2, 1) := by decide +kernel
theorem dX10_bestFrom_36 : decode cX10_bestFrom 36 = .ok (.iload 6, 2) := by decide +kernel
theorem dX10_bestFrom_38 : decode cX10_bestFrom 38 = .ok (.iconst 1, 1) := by decide +kernel
theorem dX10_bestFrom_39 : decode cX10_bestFrom 39 = .ok (.if_icmp .ne 7, 3) := by decide +kernel
theorem dX10_bestFrom_42 : decode cX10_bestFrom 42 = .ok (.iconst 1, 1) := by decide +kernel
theorem dX10_bestFrom_43 : decode cX10_bestFrom 43 = .ok (.goto 4, 3) := by decide +kernel
theorem dX10_bestFrom_46 : decode cX10_bestFrom 46 = .ok (.iconst 0, 1) := by decide +kernel
theorem dX10_bestFrom_47 : decode cX10_bestFrom 47 = .ok (.iload_n 3, 1) := by decide +kernel
theorem dX10_bestFrom_48 : decode cX10_bestFrom 48 = .ok (.iload 5, 2) := by decide +kernel
theorem dX10_bestFrom_50 : decode cX10_bestFrom 50 = .ok (.iadd, 1) := by decide +kernel
theorem dX10_bestFrom_51 : decode cX10_bestFrom 51 = .ok (.invokevirtual 382, 3) := by decide +kernel
theorem dX10_bestFrom_54 : decode cX10_bestFrom 54 = .ok (.iload_n 2, 1) := by decide +kernel
theorem dX10_bestFrom_55 : decode cX10_bestFrom 55 = .ok (.if_icmp .ne 39, 3) := by decide +kernel
theorem dX10_bestFrom_58 : decode cX10_bestFrom 58 = .ok (.iload 5, 2) := by decide +kernel
theorem dX10_bestFrom_60 : decode cX10_bestFrom 60 = .ok (.aload_n 0, 1) := by decide +kernel
theorem dX10_bestFrom_61 : decode cX10_bestFrom 61 = .ok (.getfield 374, 3) := by decide +kernel
theorem dX10_bestFrom_64 : decode cX10_bestFrom 64 = .ok (.iadd, 1) := by decide +kernel
theorem dX10_bestFrom_65 : decode cX10_bestFrom 65 = .ok (.iload 4, 2) := by decide +kernel
theorem dX10_bestFrom_67 : decode cX10_bestFrom 67 = .ok (.if_icmp .lt 6, 3) := by decide +kernel
theorem dX10_bestFrom_70 : decode cX10_bestFrom 70 = .ok (.goto 24, 3) := by decide +kernel
theorem dX10_bestFrom_73 : decode cX10_bestFrom 73 = .ok (.iload 5, 2) := by decide +kernel
theorem dX10_bestFrom_75 : decode cX10_bestFrom 75 = .ok (.aload_n 0, 1) := by decide +kernel
theorem dX10_bestFrom_76 : decode cX10_bestFrom 76 = .ok (.getfield 374, 3) := by decide +kernel
theorem dX10_bestFrom_79 : decode cX10_bestFrom 79 = .ok (.iadd, 1) := by decide +kernel
theorem dX10_bestFrom_80 : decode cX10_bestFrom 80 = .ok (.istore 4, 2) := by decide +kernel
theorem dX10_bestFrom_82 : decode cX10_bestFrom 82 = .ok (.aload_n 0, 1) := by decide +kernel
theorem dX10_bestFrom_83 : decode cX10_bestFrom 83 = .ok (.iload 5, 2) := by decide +kernel
theorem dX10_bestFrom_85 : decode cX10_bestFrom 85 = .ok (.putfield 386, 3) := by decide +kernel
theorem dX10_bestFrom_88 : decode cX10_bestFrom 88 = .ok (.aload_n 0, 1) := by decide +kernel
theorem dX10_bestFrom_89 : decode cX10_bestFrom 89 = .ok (.iload 6, 2) := by decide +kernel
theorem dX10_bestFrom_91 : decode cX10_bestFrom 91 = .ok (.putfield 389, 3) := by decide +kernel
theorem dX10_bestFrom_94 : decode cX10_bestFrom 94 = .ok (.iinc 6 1, 3) := by decide +kernel
theorem dX10_bestFrom_97 : decode cX10_bestFrom 97 = .ok (.goto (-70), 3) := by decide +kernel
theorem dX10_bestFrom_100 : decode cX10_bestFrom 100 = .ok (.iinc 5 1, 3) := by decide +kernel
theorem dX10_bestFrom_103 : decode cX10_bestFrom 103 = .ok (.goto (-95), 3) := by decide +kernel
theorem dX10_bestFrom_106 : decode cX10_bestFrom 106 = .ok (.iload 4, 2) := by decide +kernel
theorem dX10_bestFrom_108 : decode cX10_bestFrom 108 = .ok (.ireturn, 1) := by decide +kernel
theorem dX10_best_0 : decode cX10_best 0 = .ok (.aload_n 0, 1) := by decide +kernel
theorem dX10_best_1 : decode cX10_best 1 = .ok (.iconst 0, 1) := by decide +kernel
theorem dX10_best_2 : decode cX10_best 2 = .ok (.putfield 1, 3) := by decide +kernel
theorem dX10_best_5 : decode cX10_best 5 = .ok (.aload_n 0, 1) := by decide +kernel
theorem dX10_best_6 : decode cX10_best 6 = .ok (.iload_n 1, 1) := by decide +kernel
theorem dX10_best_7 : decode cX10_best 7 = .ok (.iload_n 2, 1) := by decide +kernel
theorem dX10_best_8 : decode cX10_best 8 = .ok (.invokevirtual 377, 3) := by decide +kernel
theorem dX10_best_11 : decode cX10_best 11 = .ok (.ifCond .ne 20, 3) := by decide +kernel
theorem dX10_best_14 : decode cX10_best 14 = .ok (.iload_n 2, 1) := by decide +kernel
theorem dX10_best_15 : decode cX10_best 15 = .ok (.iconst (-1), 1) := by decide +kernel
theorem dX10_best_16 : decode cX10_best 16 = .ok (.if_icmp .eq 15, 3) := by decide +kernel
theorem dX10_best_19 : decode cX10_best 19 = .ok (.iload_n 3, 1) := by decide +kernel
theorem dX10_best_20 : decode cX10_best 20 = .ok (.i2l, 1) := by decide +kernel
theorem dX10_best_21 : decode cX10_best 21 = .ok (.lconst 0, 1) := by decide +kernel
theorem dX10_best_22 : decode cX10_best 22 = .ok (.ldc2_w 364, 3) := by decide +kernel
theorem dX10_best_25 : decode cX10_best 25 = .ok (.invokestatic 124, 3) := by decide +kernel
theorem dX10_best_28 : decode cX10_best 28 = .ok (.ifCond .ne 6, 3) := by decide +kernel
theorem dX10_best_31 : decode cX10_best 31 = .ok (.bipush (-2), 2) := by decide +kernel
theorem dX10_best_33 : decode cX10_best 33 = .ok (.ireturn, 1) := by decide +kernel
theorem dX10_best_34 : decode cX10_best 34 = .ok (.aload_n 0, 1) := by decide +kernel
theorem dX10_best_35 : decode cX10_best 35 = .ok (.iload_n 1, 1) := by decide +kernel
theorem dX10_best_36 : decode cX10_best 36 = .ok (.invokevirtual 244, 3) := by decide +kernel
theorem dX10_best_39 : decode cX10_best 39 = .ok (.iconst (-1), 1) := by decide +kernel
theorem dX10_best_40 : decode cX10_best 40 = .ok (.if_icmp .ne 6, 3) := by decide +kernel
theorem dX10_best_43 : decode cX10_best 43 = .ok (.bipush (-5), 2) := by decide +kernel
theorem dX10_best_45 : decode cX10_best 45 = .ok (.ireturn, 1) := by decide +kernel
theorem dX10_best_46 : decode cX10_best 46 = .ok (.aload_n 0, 1) := by decide +kernel
theorem dX10_best_47 : decode cX10_best 47 = .ok (.iload_n 1, 1) := by decide +kernel
theorem dX10_best_48 : decode cX10_best 48 = .ok (.iload_n 2, 1) := by decide +kernel
theorem dX10_best_49 : decode cX10_best 49 = .ok (.aload_n 0, 1) := by decide +kernel
theorem dX10_best_50 : decode cX10_best 50 = .ok (.getfield 13, 3) := by decide +kernel
theorem dX10_best_53 : decode cX10_best 53 = .ok (.sipush 349, 3) := by decide +kernel
theorem dX10_best_56 : decode cX10_best 56 = .ok (.iaload, 1) := by decide +kernel
theorem dX10_best_57 : decode cX10_best 57 = .ok (.invokevirtual 392, 3) := by decide +kernel
theorem dX10_best_60 : decode cX10_best 60 = .ok (.istore 4, 2) := by decide +kernel
theorem dX10_best_62 : decode cX10_best 62 = .ok (.iload 4, 2) := by decide +kernel
theorem dX10_best_64 : decode cX10_best 64 = .ok (.ldc_w 363, 3) := by decide +kernel
theorem dX10_best_67 : decode cX10_best 67 = .ok (.if_icmp .ne 7, 3) := by decide +kernel
theorem dX10_best_70 : decode cX10_best 70 = .ok (.iconst (-1), 1) := by decide +kernel
theorem dX10_best_71 : decode cX10_best 71 = .ok (.goto 28, 3) := by decide +kernel
theorem dX10_best_74 : decode cX10_best 74 = .ok (.iload_n 3, 1) := by decide +kernel
theorem dX10_best_75 : decode cX10_best 75 = .ok (.ifCond .ne 8, 3) := by decide +kernel
theorem dX10_best_78 : decode cX10_best 78 = .ok (.iload 4, 2) := by decide +kernel
theorem dX10_best_80 : decode cX10_best 80 = .ok (.goto 19, 3) := by decide +kernel
theorem dX10_best_83 : decode cX10_best 83 = .ok (.iload_n 3, 1) := by decide +kernel
theorem dX10_best_84 : decode cX10_best 84 = .ok (.iconst 1, 1) := by decide +kernel
theorem dX10_best_85 : decode cX10_best 85 = .ok (.if_icmp .ne 10, 3) := by decide +kernel
theorem dX10_best_88 : decode cX10_best 88 = .ok (.aload_n 0, 1) := by decide +kernel
theorem dX10_best_89 : decode cX10_best 89 = .ok (.getfield 386, 3) := by decide +kernel
theorem dX10_best_92 : decode cX10_best 92 = .ok (.goto 7, 3) := by decide +kernel
theorem dX10_best_95 : decode cX10_best 95 = .ok (.aload_n 0, 1) := by decide +kernel
theorem dX10_best_96 : decode cX10_best 96 = .ok (.getfield 389, 3) := by decide +kernel
theorem dX10_best_99 : decode cX10_best 99 = .ok (.ireturn, 1) := by decide +kernel
theorem dX10_reachers_0 : decode cX10_reachers 0 = .ok (.aload_n 0, 1) := by decide +kernel
theorem dX10_reachers_1 : decode cX10_reachers 1 = .ok (.iconst 0, 1) := by decide +kernel
theorem dX10_reachers_2 : decode cX10_reachers 2 = .ok (.putfield 1, 3) := by decide +kernel
theorem dX10_reachers_5 : decode cX10_reachers 5 = .ok (.aload_n 0, 1) := by decide +kernel
theorem dX10_reachers_6 : decode cX10_reachers 6 = .ok (.iload_n 1, 1) := by decide +kernel
theorem dX10_reachers_7 : decode cX10_reachers 7 = .ok (.i2l, 1) := by decide +kernel
theorem dX10_reachers_8 : decode cX10_reachers 8 = .ok (.invokevirtual 264, 3) := by decide +kernel
theorem dX10_reachers_11 : decode cX10_reachers 11 = .ok (.ifCond .ne 6, 3) := by decide +kernel
theorem dX10_reachers_14 : decode cX10_reachers 14 = .ok (.bipush (-2), 2) := by decide +kernel
theorem dX10_reachers_16 : decode cX10_reachers 16 = .ok (.ireturn, 1) := by decide +kernel
theorem dX10_reachers_17 : decode cX10_reachers 17 = .ok (.iconst 0, 1) := by decide +kernel
theorem dX10_reachers_18 : decode cX10_reachers 18 = .ok (.istore_n 2, 1) := by decide +kernel
theorem dX10_reachers_19 : decode cX10_reachers 19 = .ok (.iconst 0, 1) := by decide +kernel
theorem dX10_reachers_20 : decode cX10_reachers 20 = .ok (.istore_n 3, 1) := by decide +kernel
theorem dX10_reachers_21 : decode cX10_reachers 21 = .ok (.iload_n 3, 1) := by decide +kernel
theorem dX10_reachers_22 : decode cX10_reachers 22 = .ok (.aload_n 0, 1) := by decide +kernel
theorem dX10_reachers_23 : decode cX10_reachers 23 = .ok (.getfield 13, 3) := by decide +kernel
theorem dX10_reachers_26 : decode cX10_reachers 26 = .ok (.iconst 4, 1) := by decide +kernel
theorem dX10_reachers_27 : decode cX10_reachers 27 = .ok (.iaload, 1) := by decide +kernel
theorem dX10_reachers_28 : decode cX10_reachers 28 = .ok (.if_icmp .ge 40, 3) := by decide +kernel
theorem dX10_reachers_31 : decode cX10_reachers 31 = .ok (.iload_n 3, 1) := by decide +kernel
theorem dX10_reachers_32 : decode cX10_reachers 32 = .ok (.iload_n 1, 1) := by decide +kernel
theorem dX10_reachers_33 : decode cX10_reachers 33 = .ok (.if_icmp .eq 29, 3) := by decide +kernel
theorem dX10_reachers_36 : decode cX10_reachers 36 = .ok (.aload_n 0, 1) := by decide +kernel
theorem dX10_reachers_37 : decode cX10_reachers 37 = .ok (.iload_n 3, 1) := by decide +kernel
theorem dX10_reachers_38 : decode cX10_reachers 38 = .ok (.iload_n 1, 1) := by decide +kernel
theorem dX10_reachers_39 : decode cX10_reachers 39 = .ok (.aload_n 0, 1) := by decide +kernel
theorem dX10_reachers_40 : decode cX10_reachers 40 = .ok (.getfield 13, 3) := by decide +kernel
theorem dX10_reachers_43 : decode cX10_reachers 43 = .ok (.sipush 349, 3) := by decide +kernel
theorem dX10_reachers_46 : decode cX10_reachers 46 = .ok (.iaload, 1) := by decide +kernel
theorem dX10_reachers_47 : decode cX10_reachers 47 = .ok (.invokevirtual 392, 3) := by decide +kernel
theorem dX10_reachers_50 : decode cX10_reachers 50 = .ok (.ldc_w 363, 3) := by decide +kernel
theorem dX10_reachers_53 : decode cX10_reachers 53 = .ok (.if_icmp .eq 9, 3) := by decide +kernel
theorem dX10_reachers_56 : decode cX10_reachers 56 = .ok (.iload_n 2, 1) := by decide +kernel
theorem dX10_reachers_57 : decode cX10_reachers 57 = .ok (.iconst 1, 1) := by decide +kernel
theorem dX10_reachers_58 : decode cX10_reachers 58 = .ok (.iload_n 3, 1) := by decide +kernel
theorem dX10_reachers_59 : decode cX10_reachers 59 = .ok (.ishl, 1) := by decide +kernel
theorem dX10_reachers_60 : decode cX10_reachers 60 = .ok (.ior, 1) := by decide +kernel
theorem dX10_reachers_61 : decode cX10_reachers 61 = .ok (.istore_n 2, 1) := by decide +kernel
theorem dX10_reachers_62 : decode cX10_reachers 62 = .ok (.iinc 3 1, 3) := by decide +kernel
theorem dX10_reachers_65 : decode cX10_reachers 65 = .ok (.goto (-44), 3) := by decide +kernel
theorem dX10_reachers_68 : decode cX10_reachers 68 = .ok (.iload_n 2, 1) := by decide +kernel
theorem dX10_reachers_69 : decode cX10_reachers 69 = .ok (.ireturn, 1) := by decide +kernel
theorem dX10_goesRelay_0 : decode cX10_goesRelay 0 = .ok (.aload_n 0, 1) := by decide +kernel
theorem dX10_goesRelay_1 : decode cX10_goesRelay 1 = .ok (.getfield 42, 3) := by decide +kernel
theorem dX10_goesRelay_4 : decode cX10_goesRelay 4 = .ok (.iload_n 2, 1) := by decide +kernel
theorem dX10_goesRelay_5 : decode cX10_goesRelay 5 = .ok (.iaload, 1) := by decide +kernel
theorem dX10_goesRelay_6 : decode cX10_goesRelay 6 = .ok (.iload_n 1, 1) := by decide +kernel
theorem dX10_goesRelay_7 : decode cX10_goesRelay 7 = .ok (.if_icmp .ne 71, 3) := by decide +kernel
theorem dX10_goesRelay_10 : decode cX10_goesRelay 10 = .ok (.iload 4, 2) := by decide +kernel
theorem dX10_goesRelay_12 : decode cX10_goesRelay 12 = .ok (.aload_n 0, 1) := by decide +kernel
theorem dX10_goesRelay_13 : decode cX10_goesRelay 13 = .ok (.getfield 395, 3) := by decide +kernel
theorem dX10_goesRelay_16 : decode cX10_goesRelay 16 = .ok (.if_icmp .gt 20, 3) := by decide +kernel
theorem dX10_goesRelay_19 : decode cX10_goesRelay 19 = .ok (.iload 4, 2) := by decide +kernel
theorem dX10_goesRelay_21 : decode cX10_goesRelay 21 = .ok (.aload_n 0, 1) := by decide +kernel
theorem dX10_goesRelay_22 : decode cX10_goesRelay 22 = .ok (.getfield 395, 3) := by decide +kernel
theorem dX10_goesRelay_25 : decode cX10_goesRelay 25 = .ok (.if_icmp .ne 12, 3) := by decide +kernel
theorem dX10_goesRelay_28 : decode cX10_goesRelay 28 = .ok (.iload_n 2, 1) := by decide +kernel
theorem dX10_goesRelay_29 : decode cX10_goesRelay 29 = .ok (.aload_n 0, 1) := by decide +kernel
theorem dX10_goesRelay_30 : decode cX10_goesRelay 30 = .ok (.getfield 398, 3) := by decide +kernel
theorem dX10_goesRelay_33 : decode cX10_goesRelay 33 = .ok (.if_icmp .lt 4, 3) := by decide +kernel
theorem dX10_goesRelay_36 : decode cX10_goesRelay 36 = .ok (.return_, 1) := by decide +kernel
theorem dX10_goesRelay_37 : decode cX10_goesRelay 37 = .ok (.aload_n 0, 1) := by decide +kernel
theorem dX10_goesRelay_38 : decode cX10_goesRelay 38 = .ok (.iload 4, 2) := by decide +kernel
theorem dX10_goesRelay_40 : decode cX10_goesRelay 40 = .ok (.putfield 395, 3) := by decide +kernel
theorem dX10_goesRelay_43 : decode cX10_goesRelay 43 = .ok (.aload_n 0, 1) := by decide +kernel
theorem dX10_goesRelay_44 : decode cX10_goesRelay 44 = .ok (.iload_n 2, 1) := by decide +kernel
theorem dX10_goesRelay_45 : decode cX10_goesRelay 45 = .ok (.putfield 398, 3) := by decide +kernel
theorem dX10_goesRelay_48 : decode cX10_goesRelay 48 = .ok (.iconst 0, 1) := by decide +kernel
theorem dX10_goesRelay_49 : decode cX10_goesRelay 49 = .ok (.istore 5, 2) := by decide +kernel
theorem dX10_goesRelay_51 : decode cX10_goesRelay 51 = .ok (.iload 5, 2) := by decide +kernel
theorem dX10_goesRelay_53 : decode cX10_goesRelay 53 = .ok (.iload_n 2, 1) := by decide +kernel
theorem dX10_goesRelay_54 : decode cX10_goesRelay 54 = .ok (.if_icmp .gt 23, 3) := by decide +kernel
theorem dX10_goesRelay_57 : decode cX10_goesRelay 57 = .ok (.aload_n 0, 1) := by decide +kernel
theorem dX10_goesRelay_58 : decode cX10_goesRelay 58 = .ok (.getfield 45, 3) := by decide +kernel
theorem dX10_goesRelay_61 : decode cX10_goesRelay 61 = .ok (.iload 5, 2) := by decide +kernel
theorem dX10_goesRelay_63 : decode cX10_goesRelay 63 = .ok (.aload_n 0, 1) := by decide +kernel
theorem dX10_goesRelay_64 : decode cX10_goesRelay 64 = .ok (.getfield 42, 3) := by decide +kernel
theorem dX10_goesRelay_67 : decode cX10_goesRelay 67 = .ok (.iload 5, 2) := by decide +kernel
theorem dX10_goesRelay_69 : decode cX10_goesRelay 69 = .ok (.iaload, 1) := by decide +kernel
theorem dX10_goesRelay_70 : decode cX10_goesRelay 70 = .ok (.iastore, 1) := by decide +kernel
theorem dX10_goesRelay_71 : decode cX10_goesRelay 71 = .ok (.iinc 5 1, 3) := by decide +kernel
theorem dX10_goesRelay_74 : decode cX10_goesRelay 74 = .ok (.goto (-23), 3) := by decide +kernel
theorem dX10_goesRelay_77 : decode cX10_goesRelay 77 = .ok (.return_, 1) := by decide +kernel
theorem dX10_goesRelay_78 : decode cX10_goesRelay 78 = .ok (.iconst 0, 1) := by decide +kernel
theorem dX10_goesRelay_79 : decode cX10_goesRelay 79 = .ok (.istore 5, 2) := by decide +kernel
theorem dX10_goesRelay_81 : decode cX10_goesRelay 81 = .ok (.iload 5, 2) := by decide +kernel
theorem dX10_goesRelay_83 : decode cX10_goesRelay 83 = .ok (.aload_n 0, 1) := by decide +kernel
theorem dX10_goesRelay_84 : decode cX10_goesRelay 84 = .ok (.getfield 13, 3) := by decide +kernel
theorem dX10_goesRelay_87 : decode cX10_goesRelay 87 = .ok (.iconst 4, 1) := by decide +kernel
theorem dX10_goesRelay_88 : decode cX10_goesRelay 88 = .ok (.iaload, 1) := by decide +kernel
theorem dX10_goesRelay_89 : decode cX10_goesRelay 89 = .ok (.if_icmp .ge 87, 3) := by decide +kernel
theorem dX10_goesRelay_92 : decode cX10_goesRelay 92 = .ok (.iload_n 3, 1) := by decide +kernel
theorem dX10_goesRelay_93 : decode cX10_goesRelay 93 = .ok (.i2l, 1) := by decide +kernel
theorem dX10_goesRelay_94 : decode cX10_goesRelay 94 = .ok (.iload 5, 2) := by decide +kernel
theorem dX10_goesRelay_96 : decode cX10_goesRelay 96 = .ok (.invokestatic 236, 3) := by decide +kernel
theorem dX10_goesRelay_99 : decode cX10_goesRelay 99 = .ok (.ifCond .eq 6, 3) := by decide +kernel
theorem dX10_goesRelay_102 : decode cX10_goesRelay 102 = .ok (.goto 68, 3) := by decide +kernel
theorem dX10_goesRelay_105 : decode cX10_goesRelay 105 = .ok (.aload_n 0, 1) := by decide +kernel
theorem dX10_goesRelay_106 : decode cX10_goesRelay 106 = .ok (.aload_n 0, 1) := by decide +kernel
theorem dX10_goesRelay_107 : decode cX10_goesRelay 107 = .ok (.getfield 42, 3) := by decide +kernel
theorem dX10_goesRelay_110 : decode cX10_goesRelay 110 = .ok (.iload_n 2, 1) := by decide +kernel
theorem dX10_goesRelay_111 : decode cX10_goesRelay 111 = .ok (.iaload, 1) := by decide +kernel
theorem dX10_goesRelay_112 : decode cX10_goesRelay 112 = .ok (.iload 5, 2) := by decide +kernel
theorem dX10_goesRelay_114 : decode cX10_goesRelay 114 = .ok (.aload_n 0, 1) := by decide +kernel
theorem dX10_goesRelay_115 : decode cX10_goesRelay 115 = .ok (.getfield 13, 3) := by decide +kernel
theorem dX10_goesRelay_118 : decode cX10_goesRelay 118 = .ok (.sipush 349, 3) := by decide +kernel
theorem dX10_goesRelay_121 : decode cX10_goesRelay 121 = .ok (.iaload, 1) := by decide +kernel
theorem dX10_goesRelay_122 : decode cX10_goesRelay 122 = .ok (.iload 4, 2) := by decide +kernel
theorem dX10_goesRelay_124 : decode cX10_goesRelay 124 = .ok (.iadd, 1) := by decide +kernel
theorem dX10_goesRelay_125 : decode cX10_goesRelay 125 = .ok (.invokevirtual 392, 3) := by decide +kernel
theorem dX10_goesRelay_128 : decode cX10_goesRelay 128 = .ok (.istore 6, 2) := by decide +kernel
theorem dX10_goesRelay_130 : decode cX10_goesRelay 130 = .ok (.iload 6, 2) := by decide +kernel
theorem dX10_goesRelay_132 : decode cX10_goesRelay 132 = .ok (.ldc_w 363, 3) := by decide +kernel
theorem dX10_goesRelay_135 : decode cX10_goesRelay 135 = .ok (.if_icmp .ne 6, 3) := by decide +kernel
theorem dX10_goesRelay_138 : decode cX10_goesRelay 138 = .ok (.goto 32, 3) := by decide +kernel
theorem dX10_goesRelay_141 : decode cX10_goesRelay 141 = .ok (.aload_n 0, 1) := by decide +kernel
theorem dX10_goesRelay_142 : decode cX10_goesRelay 142 = .ok (.getfield 42, 3) := by decide +kernel
theorem dX10_goesRelay_145 : decode cX10_goesRelay 145 = .ok (.iload_n 2, 1) := by decide +kernel
theorem dX10_goesRelay_146 : decode cX10_goesRelay 146 = .ok (.iconst 1, 1) := by decide +kernel
theorem dX10_goesRelay_147 : decode cX10_goesRelay 147 = .ok (.iadd, 1) := by decide +kernel
theorem dX10_goesRelay_148 : decode cX10_goesRelay 148 = .ok (.iload 5, 2) := by decide +kernel
theorem dX10_goesRelay_150 : decode cX10_goesRelay 150 = .ok (.iastore, 1) := by decide +kernel
theorem dX10_goesRelay_151 : decode cX10_goesRelay 151 = .ok (.aload_n 0, 1) := by decide +kernel
theorem dX10_goesRelay_152 : decode cX10_goesRelay 152 = .ok (.iload_n 1, 1) := by decide +kernel
theorem dX10_goesRelay_153 : decode cX10_goesRelay 153 = .ok (.iload_n 2, 1) := by decide +kernel
theorem dX10_goesRelay_154 : decode cX10_goesRelay 154 = .ok (.iconst 1, 1) := by decide +kernel
theorem dX10_goesRelay_155 : decode cX10_goesRelay 155 = .ok (.iadd, 1) := by decide +kernel
theorem dX10_goesRelay_156 : decode cX10_goesRelay 156 = .ok (.iload_n 3, 1) := by decide +kernel
theorem dX10_goesRelay_157 : decode cX10_goesRelay 157 = .ok (.iconst 1, 1) := by decide +kernel
theorem dX10_goesRelay_158 : decode cX10_goesRelay 158 = .ok (.iload 5, 2) := by decide +kernel
theorem dX10_goesRelay_160 : decode cX10_goesRelay 160 = .ok (.ishl, 1) := by decide +kernel
theorem dX10_goesRelay_161 : decode cX10_goesRelay 161 = .ok (.ior, 1) := by decide +kernel
theorem dX10_goesRelay_162 : decode cX10_goesRelay 162 = .ok (.iload 4, 2) := by decide +kernel
theorem dX10_goesRelay_164 : decode cX10_goesRelay 164 = .ok (.iload 6, 2) := by decide +kernel
theorem dX10_goesRelay_166 : decode cX10_goesRelay 166 = .ok (.iadd, 1) := by decide +kernel
theorem dX10_goesRelay_167 : decode cX10_goesRelay 167 = .ok (.invokevirtual 401, 3) := by decide +kernel
theorem dX10_goesRelay_170 : decode cX10_goesRelay 170 = .ok (.iinc 5 1, 3) := by decide +kernel
theorem dX10_goesRelay_173 : decode cX10_goesRelay 173 = .ok (.goto (-92), 3) := by decide +kernel
theorem dX10_goesRelay_176 : decode cX10_goesRelay 176 = .ok (.return_, 1) := by decide +kernel
theorem dX10_relay_0 : decode cX10_relay 0 = .ok (.aload_n 0, 1) := by decide +kernel
theorem dX10_relay_1 : decode cX10_relay 1 = .ok (.iconst 0, 1) := by decide +kernel
theorem dX10_relay_2 : decode cX10_relay 2 = .ok (.putfield 1, 3) := by decide +kernel
theorem dX10_relay_5 : decode cX10_relay 5 = .ok (.aload_n 0, 1) := by decide +kernel
theorem dX10_relay_6 : decode cX10_relay 6 = .ok (.iload_n 1, 1) := by decide +kernel
theorem dX10_relay_7 : decode cX10_relay 7 = .ok (.iload_n 2, 1) := by decide +kernel
theorem dX10_relay_8 : decode cX10_relay 8 = .ok (.invokevirtual 377, 3) := by decide +kernel
theorem dX10_relay_11 : decode cX10_relay 11 = .ok (.ifCond .ne 32, 3) := by decide +kernel
theorem dX10_relay_14 : decode cX10_relay 14 = .ok (.iload_n 2, 1) := by decide +kernel
theorem dX10_relay_15 : decode cX10_relay 15 = .ok (.iconst (-1), 1) := by decide +kernel
theorem dX10_relay_16 : decode cX10_relay 16 = .ok (.if_icmp .eq 27, 3) := by decide +kernel
theorem dX10_relay_19 : decode cX10_relay 19 = .ok (.iload_n 3, 1) := by decide +kernel
theorem dX10_relay_20 : decode cX10_relay 20 = .ok (.i2l, 1) := by decide +kernel
theorem dX10_relay_21 : decode cX10_relay 21 = .ok (.lconst 0, 1) := by decide +kernel
theorem dX10_relay_22 : decode cX10_relay 22 = .ok (.lconst 1, 1) := by decide +kernel
theorem dX10_relay_23 : decode cX10_relay 23 = .ok (.invokestatic 124, 3) := by decide +kernel
theorem dX10_relay_26 : decode cX10_relay 26 = .ok (.ifCond .ne 20, 3) := by decide +kernel
theorem dX10_relay_29 : decode cX10_relay 29 = .ok (.iload_n 3, 1) := by decide +kernel
theorem dX10_relay_30 : decode cX10_relay 30 = .ok (.i2l, 1) := by decide +kernel
theorem dX10_relay_31 : decode cX10_relay 31 = .ok (.ldc2_w 316, 3) := by decide +kernel
theorem dX10_relay_34 : decode cX10_relay 34 = .ok (.ldc2_w 175, 3) := by decide +kernel
theorem dX10_relay_37 : decode cX10_relay 37 = .ok (.invokestatic 124, 3) := by decide +kernel
theorem dX10_relay_40 : decode cX10_relay 40 = .ok (.ifCond .ne 6, 3) := by decide +kernel
theorem dX10_relay_43 : decode cX10_relay 43 = .ok (.bipush (-2), 2) := by decide +kernel
theorem dX10_relay_45 : decode cX10_relay 45 = .ok (.ireturn, 1) := by decide +kernel
theorem dX10_relay_46 : decode cX10_relay 46 = .ok (.aload_n 0, 1) := by decide +kernel
theorem dX10_relay_47 : decode cX10_relay 47 = .ok (.ldc_w 363, 3) := by decide +kernel
theorem dX10_relay_50 : decode cX10_relay 50 = .ok (.putfield 395, 3) := by decide +kernel
theorem dX10_relay_53 : decode cX10_relay 53 = .ok (.aload_n 0, 1) := by decide +kernel
theorem dX10_relay_54 : decode cX10_relay 54 = .ok (.ldc_w 363, 3) := by decide +kernel
theorem dX10_relay_57 : decode cX10_relay 57 = .ok (.putfield 398, 3) := by decide +kernel
theorem dX10_relay_60 : decode cX10_relay 60 = .ok (.aload_n 0, 1) := by decide +kernel
theorem dX10_relay_61 : decode cX10_relay 61 = .ok (.getfield 42, 3) := by decide +kernel
theorem dX10_relay_64 : decode cX10_relay 64 = .ok (.iconst 0, 1) := by decide +kernel
theorem dX10_relay_65 : decode cX10_relay 65 = .ok (.iload_n 1, 1) := by decide +kernel
theorem dX10_relay_66 : decode cX10_relay 66 = .ok (.iastore, 1) := by decide +kernel
theorem dX10_relay_67 : decode cX10_relay 67 = .ok (.aload_n 0, 1) := by decide +kernel
theorem dX10_relay_68 : decode cX10_relay 68 = .ok (.iload_n 2, 1) := by decide +kernel
theorem dX10_relay_69 : decode cX10_relay 69 = .ok (.iconst 0, 1) := by decide +kernel
theorem dX10_relay_70 : decode cX10_relay 70 = .ok (.iconst 1, 1) := by decide +kernel
theorem dX10_relay_71 : decode cX10_relay 71 = .ok (.iload_n 1, 1) := by decide +kernel
theorem dX10_relay_72 : decode cX10_relay 72 = .ok (.ishl, 1) := by decide +kernel
theorem dX10_relay_73 : decode cX10_relay 73 = .ok (.iconst 0, 1) := by decide +kernel
theorem dX10_relay_74 : decode cX10_relay 74 = .ok (.invokevirtual 401, 3) := by decide +kernel
theorem dX10_relay_77 : decode cX10_relay 77 = .ok (.aload_n 0, 1) := by decide +kernel
theorem dX10_relay_78 : decode cX10_relay 78 = .ok (.getfield 395, 3) := by decide +kernel
theorem dX10_relay_81 : decode cX10_relay 81 = .ok (.ldc_w 363, 3) := by decide +kernel
theorem dX10_relay_84 : decode cX10_relay 84 = .ok (.if_icmp .ne 5, 3) := by decide +kernel
theorem dX10_relay_87 : decode cX10_relay 87 = .ok (.iconst (-1), 1) := by decide +kernel
theorem dX10_relay_88 : decode cX10_relay 88 = .ok (.ireturn, 1) := by decide +kernel
theorem dX10_relay_89 : decode cX10_relay 89 = .ok (.iload_n 3, 1) := by decide +kernel
theorem dX10_relay_90 : decode cX10_relay 90 = .ok (.ifCond .ne 10, 3) := by decide +kernel
theorem dX10_relay_93 : decode cX10_relay 93 = .ok (.aload_n 0, 1) := by decide +kernel
theorem dX10_relay_94 : decode cX10_relay 94 = .ok (.getfield 395, 3) := by decide +kernel
theorem dX10_relay_97 : decode cX10_relay 97 = .ok (.goto 39, 3) := by decide +kernel
theorem dX10_relay_100 : decode cX10_relay 100 = .ok (.iload_n 3, 1) := by decide +kernel
theorem dX10_relay_101 : decode cX10_relay 101 = .ok (.iconst 1, 1) := by decide +kernel
theorem dX10_relay_102 : decode cX10_relay 102 = .ok (.if_icmp .ne 10, 3) := by decide +kernel
theorem dX10_relay_105 : decode cX10_relay 105 = .ok (.aload_n 0, 1) := by decide +kernel
theorem dX10_relay_106 : decode cX10_relay 106 = .ok (.getfield 398, 3) := by decide +kernel
theorem dX10_relay_109 : decode cX10_relay 109 = .ok (.goto 27, 3) := by decide +kernel
theorem dX10_relay_112 : decode cX10_relay 112 = .ok (.iload_n 3, 1) := by decide +kernel
theorem dX10_relay_113 : decode cX10_relay 113 = .ok (.bipush 10, 2) := by decide +kernel
theorem dX10_relay_115 : decode cX10_relay 115 = .ok (.isub, 1) := by decide +kernel
theorem dX10_relay_116 : decode cX10_relay 116 = .ok (.aload_n 0, 1) := by decide +kernel
theorem dX10_relay_117 : decode cX10_relay 117 = .ok (.getfield 398, 3) := by decide +kernel
theorem dX10_relay_120 : decode cX10_relay 120 = .ok (.if_icmp .gt 15, 3) := by decide +kernel
theorem dX10_relay_123 : decode cX10_relay 123 = .ok (.aload_n 0, 1) := by decide +kernel
theorem dX10_relay_124 : decode cX10_relay 124 = .ok (.getfield 45, 3) := by decide +kernel
theorem dX10_relay_127 : decode cX10_relay 127 = .ok (.iload_n 3, 1) := by decide +kernel
theorem dX10_relay_128 : decode cX10_relay 128 = .ok (.bipush 10, 2) := by decide +kernel
theorem dX10_relay_130 : decode cX10_relay 130 = .ok (.isub, 1) := by decide +kernel
theorem dX10_relay_131 : decode cX10_relay 131 = .ok (.iaload, 1) := by decide +kernel
theorem dX10_relay_132 : decode cX10_relay 132 = .ok (.goto 4, 3) := by decide +kernel
theorem dX10_relay_135 : decode cX10_relay 135 = .ok (.iconst (-1), 1) := by decide +kernel
theorem dX10_relay_136 : decode cX10_relay 136 = .ok (.ireturn, 1) := by decide +kernel
theorem dX10_keepers_0 : decode cX10_keepers 0 = .ok (.aload_n 0, 1) := by decide +kernel
theorem dX10_keepers_1 : decode cX10_keepers 1 = .ok (.iconst 0, 1) := by decide +kernel
theorem dX10_keepers_2 : decode cX10_keepers 2 = .ok (.putfield 1, 3) := by decide +kernel
theorem dX10_keepers_5 : decode cX10_keepers 5 = .ok (.iload_n 1, 1) := by decide +kernel
theorem dX10_keepers_6 : decode cX10_keepers 6 = .ok (.i2l, 1) := by decide +kernel
theorem dX10_keepers_7 : decode cX10_keepers 7 = .ok (.lconst 0, 1) := by decide +kernel
theorem dX10_keepers_8 : decode cX10_keepers 8 = .ok (.ldc2_w 380, 3) := by decide +kernel
theorem dX10_keepers_11 : decode cX10_keepers 11 = .ok (.invokestatic 124, 3) := by decide +kernel
theorem dX10_keepers_14 : decode cX10_keepers 14 = .ok (.ifCond .ne 6, 3) := by decide +kernel
theorem dX10_keepers_17 : decode cX10_keepers 17 = .ok (.bipush (-3), 2) := by decide +kernel
theorem dX10_keepers_19 : decode cX10_keepers 19 = .ok (.ireturn, 1) := by decide +kernel
theorem dX10_keepers_20 : decode cX10_keepers 20 = .ok (.iconst 0, 1) := by decide +kernel
theorem dX10_keepers_21 : decode cX10_keepers 21 = .ok (.istore_n 2, 1) := by decide +kernel
theorem dX10_keepers_22 : decode cX10_keepers 22 = .ok (.iconst 0, 1) := by decide +kernel
theorem dX10_keepers_23 : decode cX10_keepers 23 = .ok (.istore_n 3, 1) := by decide +kernel
theorem dX10_keepers_24 : decode cX10_keepers 24 = .ok (.iload_n 3, 1) := by decide +kernel
theorem dX10_keepers_25 : decode cX10_keepers 25 = .ok (.aload_n 0, 1) := by decide +kernel
theorem dX10_keepers_26 : decode cX10_keepers 26 = .ok (.getfield 13, 3) := by decide +kernel
theorem dX10_keepers_29 : decode cX10_keepers 29 = .ok (.iconst 4, 1) := by decide +kernel
theorem dX10_keepers_30 : decode cX10_keepers 30 = .ok (.iaload, 1) := by decide +kernel
theorem dX10_keepers_31 : decode cX10_keepers 31 = .ok (.if_icmp .ge 54, 3) := by decide +kernel
theorem dX10_keepers_34 : decode cX10_keepers 34 = .ok (.aload_n 0, 1) := by decide +kernel
theorem dX10_keepers_35 : decode cX10_keepers 35 = .ok (.iload_n 3, 1) := by decide +kernel
theorem dX10_keepers_36 : decode cX10_keepers 36 = .ok (.invokevirtual 244, 3) := by decide +kernel
theorem dX10_keepers_39 : decode cX10_keepers 39 = .ok (.iconst (-1), 1) := by decide +kernel
theorem dX10_keepers_40 : decode cX10_keepers 40 = .ok (.if_icmp .ne 7, 3) := by decide +kernel
theorem dX10_keepers_43 : decode cX10_keepers 43 = .ok (.iconst (-1), 1) := by decide +kernel
theorem dX10_keepers_44 : decode cX10_keepers 44 = .ok (.goto 20, 3) := by decide +kernel
theorem dX10_keepers_47 : decode cX10_keepers 47 = .ok (.aload_n 0, 1) := by decide +kernel
theorem dX10_keepers_48 : decode cX10_keepers 48 = .ok (.iload_n 3, 1) := by decide +kernel
theorem dX10_keepers_49 : decode cX10_keepers 49 = .ok (.iconst (-1), 1) := by decide +kernel
theorem dX10_keepers_50 : decode cX10_keepers 50 = .ok (.iconst 0, 1) := by decide +kernel
theorem dX10_keepers_51 : decode cX10_keepers 51 = .ok (.aload_n 0, 1) := by decide +kernel
theorem dX10_keepers_52 : decode cX10_keepers 52 = .ok (.getfield 13, 3) := by decide +kernel
theorem dX10_keepers_55 : decode cX10_keepers 55 = .ok (.sipush 349, 3) := by decide +kernel
theorem dX10_keepers_58 : decode cX10_keepers 58 = .ok (.iaload, 1) := by decide +kernel
theorem dX10_keepers_59 : decode cX10_keepers 59 = .ok (.iload_n 1, 1) := by decide +kernel
theorem dX10_keepers_60 : decode cX10_keepers 60 = .ok (.iadd, 1) := by decide +kernel
theorem dX10_keepers_61 : decode cX10_keepers 61 = .ok (.invokevirtual 382, 3) := by decide +kernel
theorem dX10_keepers_64 : decode cX10_keepers 64 = .ok (.istore 4, 2) := by decide +kernel
theorem dX10_keepers_66 : decode cX10_keepers 66 = .ok (.iload 4, 2) := by decide +kernel
theorem dX10_keepers_68 : decode cX10_keepers 68 = .ok (.iconst (-1), 1) := by decide +kernel
theorem dX10_keepers_69 : decode cX10_keepers 69 = .ok (.if_icmp .eq 10, 3) := by decide +kernel
theorem dX10_keepers_72 : decode cX10_keepers 72 = .ok (.iload_n 2, 1) := by decide +kernel
theorem dX10_keepers_73 : decode cX10_keepers 73 = .ok (.iconst 1, 1) := by decide +kernel
theorem dX10_keepers_74 : decode cX10_keepers 74 = .ok (.iload 4, 2) := by decide +kernel
theorem dX10_keepers_76 : decode cX10_keepers 76 = .ok (.ishl, 1) := by decide +kernel
theorem dX10_keepers_77 : decode cX10_keepers 77 = .ok (.ior, 1) := by decide +kernel
theorem dX10_keepers_78 : decode cX10_keepers 78 = .ok (.istore_n 2, 1) := by decide +kernel
theorem dX10_keepers_79 : decode cX10_keepers 79 = .ok (.iinc 3 1, 3) := by decide +kernel
theorem dX10_keepers_82 : decode cX10_keepers 82 = .ok (.goto (-58), 3) := by decide +kernel
theorem dX10_keepers_85 : decode cX10_keepers 85 = .ok (.iload_n 2, 1) := by decide +kernel
theorem dX10_keepers_86 : decode cX10_keepers 86 = .ok (.ireturn, 1) := by decide +kernel
theorem dX10_without_0 : decode cX10_without 0 = .ok (.aload_n 0, 1) := by decide +kernel
theorem dX10_without_1 : decode cX10_without 1 = .ok (.iconst 0, 1) := by decide +kernel
theorem dX10_without_2 : decode cX10_without 2 = .ok (.putfield 1, 3) := by decide +kernel
theorem dX10_without_5 : decode cX10_without 5 = .ok (.aload_n 0, 1) := by decide +kernel
theorem dX10_without_6 : decode cX10_without 6 = .ok (.iload_n 1, 1) := by decide +kernel
theorem dX10_without_7 : decode cX10_without 7 = .ok (.iload_n 2, 1) := by decide +kernel
theorem dX10_without_8 : decode cX10_without 8 = .ok (.invokevirtual 377, 3) := by decide +kernel
theorem dX10_without_11 : decode cX10_without 11 = .ok (.ifCond .ne 27, 3) := by decide +kernel
theorem dX10_without_14 : decode cX10_without 14 = .ok (.iload_n 2, 1) := by decide +kernel
theorem dX10_without_15 : decode cX10_without 15 = .ok (.iconst (-1), 1) := by decide +kernel
theorem dX10_without_16 : decode cX10_without 16 = .ok (.if_icmp .eq 22, 3) := by decide +kernel
theorem dX10_without_19 : decode cX10_without 19 = .ok (.aload_n 0, 1) := by decide +kernel
theorem dX10_without_20 : decode cX10_without 20 = .ok (.iload_n 3, 1) := by decide +kernel
theorem dX10_without_21 : decode cX10_without 21 = .ok (.i2l, 1) := by decide +kernel
theorem dX10_without_22 : decode cX10_without 22 = .ok (.invokevirtual 264, 3) := by decide +kernel
theorem dX10_without_25 : decode cX10_without 25 = .ok (.ifCond .eq 13, 3) := by decide +kernel
theorem dX10_without_28 : decode cX10_without 28 = .ok (.iload_n 3, 1) := by decide +kernel
theorem dX10_without_29 : decode cX10_without 29 = .ok (.iload_n 1, 1) := by decide +kernel
theorem dX10_without_30 : decode cX10_without 30 = .ok (.if_icmp .eq 8, 3) := by decide +kernel
theorem dX10_without_33 : decode cX10_without 33 = .ok (.iload_n 3, 1) := by decide +kernel
theorem dX10_without_34 : decode cX10_without 34 = .ok (.iload_n 2, 1) := by decide +kernel
theorem dX10_without_35 : decode cX10_without 35 = .ok (.if_icmp .ne 6, 3) := by decide +kernel
theorem dX10_without_38 : decode cX10_without 38 = .ok (.bipush (-2), 2) := by decide +kernel
theorem dX10_without_40 : decode cX10_without 40 = .ok (.ireturn, 1) := by decide +kernel
theorem dX10_without_41 : decode cX10_without 41 = .ok (.aload_n 0, 1) := by decide +kernel
theorem dX10_without_42 : decode cX10_without 42 = .ok (.iload_n 1, 1) := by decide +kernel
theorem dX10_without_43 : decode cX10_without 43 = .ok (.invokevirtual 244, 3) := by decide +kernel
theorem dX10_without_46 : decode cX10_without 46 = .ok (.iconst (-1), 1) := by decide +kernel
theorem dX10_without_47 : decode cX10_without 47 = .ok (.if_icmp .ne 6, 3) := by decide +kernel
theorem dX10_without_50 : decode cX10_without 50 = .ok (.bipush (-5), 2) := by decide +kernel
theorem dX10_without_52 : decode cX10_without 52 = .ok (.ireturn, 1) := by decide +kernel
theorem dX10_without_53 : decode cX10_without 53 = .ok (.aload_n 0, 1) := by decide +kernel
theorem dX10_without_54 : decode cX10_without 54 = .ok (.iload_n 1, 1) := by decide +kernel
theorem dX10_without_55 : decode cX10_without 55 = .ok (.iload_n 2, 1) := by decide +kernel
theorem dX10_without_56 : decode cX10_without 56 = .ok (.aload_n 0, 1) := by decide +kernel
theorem dX10_without_57 : decode cX10_without 57 = .ok (.getfield 13, 3) := by decide +kernel
theorem dX10_without_60 : decode cX10_without 60 = .ok (.sipush 349, 3) := by decide +kernel
theorem dX10_without_63 : decode cX10_without 63 = .ok (.iaload, 1) := by decide +kernel
theorem dX10_without_64 : decode cX10_without 64 = .ok (.invokevirtual 392, 3) := by decide +kernel
theorem dX10_without_67 : decode cX10_without 67 = .ok (.istore 4, 2) := by decide +kernel
theorem dX10_without_69 : decode cX10_without 69 = .ok (.aload_n 0, 1) := by decide +kernel
theorem dX10_without_70 : decode cX10_without 70 = .ok (.iload_n 3, 1) := by decide +kernel
theorem dX10_without_71 : decode cX10_without 71 = .ok (.putfield 36, 3) := by decide +kernel
theorem dX10_without_74 : decode cX10_without 74 = .ok (.aload_n 0, 1) := by decide +kernel
theorem dX10_without_75 : decode cX10_without 75 = .ok (.iload_n 1, 1) := by decide +kernel
theorem dX10_without_76 : decode cX10_without 76 = .ok (.iload_n 2, 1) := by decide +kernel
theorem dX10_without_77 : decode cX10_without 77 = .ok (.aload_n 0, 1) := by decide +kernel
theorem dX10_without_78 : decode cX10_without 78 = .ok (.getfield 13, 3) := by decide +kernel
theorem dX10_without_81 : decode cX10_without 81 = .ok (.sipush 349, 3) := by decide +kernel
theorem dX10_without_84 : decode cX10_without 84 = .ok (.iaload, 1) := by decide +kernel
theorem dX10_without_85 : decode cX10_without 85 = .ok (.invokevirtual 392, 3) := by decide +kernel
theorem dX10_without_88 : decode cX10_without 88 = .ok (.istore 5, 2) := by decide +kernel
theorem dX10_without_90 : decode cX10_without 90 = .ok (.aload_n 0, 1) := by decide +kernel
theorem dX10_without_91 : decode cX10_without 91 = .ok (.iconst (-1), 1) := by decide +kernel
theorem dX10_without_92 : decode cX10_without 92 = .ok (.putfield 36, 3) := by decide +kernel
theorem dX10_without_95 : decode cX10_without 95 = .ok (.iload 4, 2) := by decide +kernel
theorem dX10_without_97 : decode cX10_without 97 = .ok (.ldc_w 363, 3) := by decide +kernel
theorem dX10_without_100 : decode cX10_without 100 = .ok (.if_icmp .eq 11, 3) := by decide +kernel
theorem dX10_without_103 : decode cX10_without 103 = .ok (.iload 5, 2) := by decide +kernel
theorem dX10_without_105 : decode cX10_without 105 = .ok (.ldc_w 363, 3) := by decide +kernel
theorem dX10_without_108 : decode cX10_without 108 = .ok (.if_icmp .ne 7, 3) := by decide +kernel
theorem dX10_without_111 : decode cX10_without 111 = .ok (.iconst (-1), 1) := by decide +kernel
theorem dX10_without_112 : decode cX10_without 112 = .ok (.goto 8, 3) := by decide +kernel
theorem dX10_without_115 : decode cX10_without 115 = .ok (.iload 5, 2) := by decide +kernel
theorem dX10_without_117 : decode cX10_without 117 = .ok (.iload 4, 2) := by decide +kernel
theorem dX10_without_119 : decode cX10_without 119 = .ok (.isub, 1) := by decide +kernel
theorem dX10_without_120 : decode cX10_without 120 = .ok (.ireturn, 1) := by decide +kernel
theorem dX10_beenBy_0 : decode cX10_beenBy 0 = .ok (.lconst 0, 1) := by decide +kernel
theorem dX10_beenBy_1 : decode cX10_beenBy 1 = .ok (.lstore_n 3, 1) := by decide +kernel
theorem dX10_beenBy_2 : decode cX10_beenBy 2 = .ok (.aload_n 0, 1) := by decide +kernel
theorem dX10_beenBy_3 : decode cX10_beenBy 3 = .ok (.iload_n 1, 1) := by decide +kernel
theorem dX10_beenBy_4 : decode cX10_beenBy 4 = .ok (.invokevirtual 286, 3) := by decide +kernel
theorem dX10_beenBy_7 : decode cX10_beenBy 7 = .ok (.iconst 0, 1) := by decide +kernel
theorem dX10_beenBy_8 : decode cX10_beenBy 8 = .ok (.istore 5, 2) := by decide +kernel
theorem dX10_beenBy_10 : decode cX10_beenBy 10 = .ok (.iload 5, 2) := by decide +kernel
theorem dX10_beenBy_12 : decode cX10_beenBy 12 = .ok (.iload_n 2, 1) := by decide +kernel
theorem dX10_beenBy_13 : decode cX10_beenBy 13 = .ok (.if_icmp .gt 45, 3) := by decide +kernel
theorem dX10_beenBy_16 : decode cX10_beenBy 16 = .ok (.aload_n 0, 1) := by decide +kernel
theorem dX10_beenBy_17 : decode cX10_beenBy 17 = .ok (.getfield 30, 3) := by decide +kernel
theorem dX10_beenBy_20 : decode cX10_beenBy 20 = .ok (.iconst 0, 1) := by decide +kernel
theorem dX10_beenBy_21 : decode cX10_beenBy 21 = .ok (.iaload, 1) := by decide +kernel
theorem dX10_beenBy_22 : decode cX10_beenBy 22 = .ok (.ifCond .ne 14, 3) := by decide +kernel
theorem dX10_beenBy_25 : decode cX10_beenBy 25 = .ok (.lload_n 3, 1) := by decide +kernel
theorem dX10_beenBy_26 : decode cX10_beenBy 26 = .ok (.lconst 1, 1) := by decide +kernel
theorem dX10_beenBy_27 : decode cX10_beenBy 27 = .ok (.aload_n 0, 1) := by decide +kernel
theorem dX10_beenBy_28 : decode cX10_beenBy 28 = .ok (.getfield 30, 3) := by decide +kernel
theorem dX10_beenBy_31 : decode cX10_beenBy 31 = .ok (.iconst 1, 1) := by decide +kernel
theorem dX10_beenBy_32 : decode cX10_beenBy 32 = .ok (.iaload, 1) := by decide +kernel
theorem dX10_beenBy_33 : decode cX10_beenBy 33 = .ok (.lshl, 1) := by decide +kernel
theorem dX10_beenBy_34 : decode cX10_beenBy 34 = .ok (.lor, 1) := by decide +kernel
theorem dX10_beenBy_35 : decode cX10_beenBy 35 = .ok (.lstore_n 3, 1) := by decide +kernel
theorem dX10_beenBy_36 : decode cX10_beenBy 36 = .ok (.aload_n 0, 1) := by decide +kernel
theorem dX10_beenBy_37 : decode cX10_beenBy 37 = .ok (.aload_n 0, 1) := by decide +kernel
theorem dX10_beenBy_38 : decode cX10_beenBy 38 = .ok (.getfield 13, 3) := by decide +kernel
theorem dX10_beenBy_41 : decode cX10_beenBy 41 = .ok (.sipush 349, 3) := by decide +kernel
theorem dX10_beenBy_44 : decode cX10_beenBy 44 = .ok (.iaload, 1) := by decide +kernel
theorem dX10_beenBy_45 : decode cX10_beenBy 45 = .ok (.iload 5, 2) := by decide +kernel
theorem dX10_beenBy_47 : decode cX10_beenBy 47 = .ok (.iadd, 1) := by decide +kernel
theorem dX10_beenBy_48 : decode cX10_beenBy 48 = .ok (.iconst 0, 1) := by decide +kernel
theorem dX10_beenBy_49 : decode cX10_beenBy 49 = .ok (.invokevirtual 289, 3) := by decide +kernel
theorem dX10_beenBy_52 : decode cX10_beenBy 52 = .ok (.iinc 5 1, 3) := by decide +kernel
theorem dX10_beenBy_55 : decode cX10_beenBy 55 = .ok (.goto (-45), 3) := by decide +kernel
theorem dX10_beenBy_58 : decode cX10_beenBy 58 = .ok (.lload_n 3, 1) := by decide +kernel
theorem dX10_beenBy_59 : decode cX10_beenBy 59 = .ok (.lreturn, 1) := by decide +kernel
theorem dX10_catchOf_0 : decode cX10_catchOf 0 = .ok (.iconst 0, 1) := by decide +kernel
theorem dX10_catchOf_1 : decode cX10_catchOf 1 = .ok (.istore_n 3, 1) := by decide +kernel
theorem dX10_catchOf_2 : decode cX10_catchOf 2 = .ok (.iconst 0, 1) := by decide +kernel
theorem dX10_catchOf_3 : decode cX10_catchOf 3 = .ok (.istore 4, 2) := by decide +kernel
theorem dX10_catchOf_5 : decode cX10_catchOf 5 = .ok (.iload 4, 2) := by decide +kernel
theorem dX10_catchOf_7 : decode cX10_catchOf 7 = .ok (.aload_n 0, 1) := by decide +kernel
theorem dX10_catchOf_8 : decode cX10_catchOf 8 = .ok (.getfield 13, 3) := by decide +kernel
theorem dX10_catchOf_11 : decode cX10_catchOf 11 = .ok (.sipush 348, 3) := by decide +kernel
theorem dX10_catchOf_14 : decode cX10_catchOf 14 = .ok (.iaload, 1) := by decide +kernel
theorem dX10_catchOf_15 : decode cX10_catchOf 15 = .ok (.if_icmp .ge 34, 3) := by decide +kernel
theorem dX10_catchOf_18 : decode cX10_catchOf 18 = .ok (.iload_n 3, 1) := by decide +kernel
theorem dX10_catchOf_19 : decode cX10_catchOf 19 = .ok (.aload_n 0, 1) := by decide +kernel
theorem dX10_catchOf_20 : decode cX10_catchOf 20 = .ok (.iload 4, 2) := by decide +kernel
theorem dX10_catchOf_22 : decode cX10_catchOf 22 = .ok (.iload_n 2, 1) := by decide +kernel
theorem dX10_catchOf_23 : decode cX10_catchOf 23 = .ok (.invokevirtual 405, 3) := by decide +kernel
theorem dX10_catchOf_26 : decode cX10_catchOf 26 = .ok (.iload_n 1, 1) := by decide +kernel
theorem dX10_catchOf_27 : decode cX10_catchOf 27 = .ok (.invokestatic 236, 3) := by decide +kernel
theorem dX10_catchOf_30 : decode cX10_catchOf 30 = .ok (.ifCond .eq 10, 3) := by decide +kernel
theorem dX10_catchOf_33 : decode cX10_catchOf 33 = .ok (.iconst 1, 1) := by decide +kernel
theorem dX10_catchOf_34 : decode cX10_catchOf 34 = .ok (.iload 4, 2) := by decide +kernel
theorem dX10_catchOf_36 : decode cX10_catchOf 36 = .ok (.ishl, 1) := by decide +kernel
theorem dX10_catchOf_37 : decode cX10_catchOf 37 = .ok (.goto 4, 3) := by decide +kernel
theorem dX10_catchOf_40 : decode cX10_catchOf 40 = .ok (.iconst 0, 1) := by decide +kernel
theorem dX10_catchOf_41 : decode cX10_catchOf 41 = .ok (.ior, 1) := by decide +kernel
theorem dX10_catchOf_42 : decode cX10_catchOf 42 = .ok (.istore_n 3, 1) := by decide +kernel
theorem dX10_catchOf_43 : decode cX10_catchOf 43 = .ok (.iinc 4 1, 3) := by decide +kernel
theorem dX10_catchOf_46 : decode cX10_catchOf 46 = .ok (.goto (-41), 3) := by decide +kernel
theorem dX10_catchOf_49 : decode cX10_catchOf 49 = .ok (.iload_n 3, 1) := by decide +kernel
theorem dX10_catchOf_50 : decode cX10_catchOf 50 = .ok (.ireturn, 1) := by decide +kernel
theorem dX10_bitsOf_0 : decode cX10_bitsOf 0 = .ok (.iconst 0, 1) := by decide +kernel
theorem dX10_bitsOf_1 : decode cX10_bitsOf 1 = .ok (.istore_n 1, 1) := by decide +kernel
theorem dX10_bitsOf_2 : decode cX10_bitsOf 2 = .ok (.iconst 0, 1) := by decide +kernel
theorem dX10_bitsOf_3 : decode cX10_bitsOf 3 = .ok (.istore_n 2, 1) := by decide +kernel
theorem dX10_bitsOf_4 : decode cX10_bitsOf 4 = .ok (.iload_n 2, 1) := by decide +kernel
theorem dX10_bitsOf_5 : decode cX10_bitsOf 5 = .ok (.bipush 8, 2) := by decide +kernel
theorem dX10_bitsOf_7 : decode cX10_bitsOf 7 = .ok (.if_icmp .ge 17, 3) := by decide +kernel
theorem dX10_bitsOf_10 : decode cX10_bitsOf 10 = .ok (.iload_n 1, 1) := by decide +kernel
theorem dX10_bitsOf_11 : decode cX10_bitsOf 11 = .ok (.iload_n 0, 1) := by decide +kernel
theorem dX10_bitsOf_12 : decode cX10_bitsOf 12 = .ok (.iload_n 2, 1) := by decide +kernel
theorem dX10_bitsOf_13 : decode cX10_bitsOf 13 = .ok (.ishr, 1) := by decide +kernel
theorem dX10_bitsOf_14 : decode cX10_bitsOf 14 = .ok (.iconst 1, 1) := by decide +kernel
theorem dX10_bitsOf_15 : decode cX10_bitsOf 15 = .ok (.iand, 1) := by decide +kernel
theorem dX10_bitsOf_16 : decode cX10_bitsOf 16 = .ok (.iadd, 1) := by decide +kernel
theorem dX10_bitsOf_17 : decode cX10_bitsOf 17 = .ok (.istore_n 1, 1) := by decide +kernel
theorem dX10_bitsOf_18 : decode cX10_bitsOf 18 = .ok (.iinc 2 1, 3) := by decide +kernel
theorem dX10_bitsOf_21 : decode cX10_bitsOf 21 = .ok (.goto (-17), 3) := by decide +kernel
theorem dX10_bitsOf_24 : decode cX10_bitsOf 24 = .ok (.iload_n 1, 1) := by decide +kernel
theorem dX10_bitsOf_25 : decode cX10_bitsOf 25 = .ok (.ireturn, 1) := by decide +kernel
theorem dX10_catches_0 : decode cX10_catches 0 = .ok (.aload_n 0, 1) := by decide +kernel
theorem dX10_catches_1 : decode cX10_catches 1 = .ok (.iconst 0, 1) := by decide +kernel
theorem dX10_catches_2 : decode cX10_catches 2 = .ok (.putfield 1, 3) := by decide +kernel
theorem dX10_catches_5 : decode cX10_catches 5 = .ok (.aload_n 0, 1) := by decide +kernel
theorem dX10_catches_6 : decode cX10_catches 6 = .ok (.iload_n 1, 1) := by decide +kernel
theorem dX10_catches_7 : decode cX10_catches 7 = .ok (.i2l, 1) := by decide +kernel
theorem dX10_catches_8 : decode cX10_catches 8 = .ok (.invokevirtual 260, 3) := by decide +kernel
theorem dX10_catches_11 : decode cX10_catches 11 = .ok (.ifCond .ne 6, 3) := by decide +kernel
theorem dX10_catches_14 : decode cX10_catches 14 = .ok (.bipush (-2), 2) := by decide +kernel
theorem dX10_catches_16 : decode cX10_catches 16 = .ok (.ireturn, 1) := by decide +kernel
theorem dX10_catches_17 : decode cX10_catches 17 = .ok (.iload_n 2, 1) := by decide +kernel
theorem dX10_catches_18 : decode cX10_catches 18 = .ok (.i2l, 1) := by decide +kernel
theorem dX10_catches_19 : decode cX10_catches 19 = .ok (.lconst 1, 1) := by decide +kernel
theorem dX10_catches_20 : decode cX10_catches 20 = .ok (.ldc2_w 409, 3) := by decide +kernel
theorem dX10_catches_23 : decode cX10_catches 23 = .ok (.invokestatic 124, 3) := by decide +kernel
theorem dX10_catches_26 : decode cX10_catches 26 = .ok (.ifCond .ne 6, 3) := by decide +kernel
theorem dX10_catches_29 : decode cX10_catches 29 = .ok (.bipush (-3), 2) := by decide +kernel
theorem dX10_catches_31 : decode cX10_catches 31 = .ok (.ireturn, 1) := by decide +kernel
theorem dX10_catches_32 : decode cX10_catches 32 = .ok (.aload_n 0, 1) := by decide +kernel
theorem dX10_catches_33 : decode cX10_catches 33 = .ok (.iload_n 1, 1) := by decide +kernel
theorem dX10_catches_34 : decode cX10_catches 34 = .ok (.invokevirtual 204, 3) := by decide +kernel
theorem dX10_catches_37 : decode cX10_catches 37 = .ok (.ifCond .eq 12, 3) := by decide +kernel
theorem dX10_catches_40 : decode cX10_catches 40 = .ok (.aload_n 0, 1) := by decide +kernel
theorem dX10_catches_41 : decode cX10_catches 41 = .ok (.iload_n 1, 1) := by decide +kernel
theorem dX10_catches_42 : decode cX10_catches 42 = .ok (.iload_n 2, 1) := by decide +kernel
theorem dX10_catches_43 : decode cX10_catches 43 = .ok (.invokevirtual 411, 3) := by decide +kernel
theorem dX10_catches_46 : decode cX10_catches 46 = .ok (.goto 5, 3) := by decide +kernel
theorem dX10_catches_49 : decode cX10_catches 49 = .ok (.bipush (-5), 2) := by decide +kernel
theorem dX10_catches_51 : decode cX10_catches 51 = .ok (.ireturn, 1) := by decide +kernel
theorem dX10_net_0 : decode cX10_net 0 = .ok (.aload_n 0, 1) := by decide +kernel
theorem dX10_net_1 : decode cX10_net 1 = .ok (.iconst 0, 1) := by decide +kernel
theorem dX10_net_2 : decode cX10_net 2 = .ok (.putfield 1, 3) := by decide +kernel
theorem dX10_net_5 : decode cX10_net 5 = .ok (.iload_n 2, 1) := by decide +kernel
theorem dX10_net_6 : decode cX10_net 6 = .ok (.i2l, 1) := by decide +kernel
theorem dX10_net_7 : decode cX10_net 7 = .ok (.lconst 0, 1) := by decide +kernel
theorem dX10_net_8 : decode cX10_net 8 = .ok (.lconst 1, 1) := by decide +kernel
theorem dX10_net_9 : decode cX10_net 9 = .ok (.invokestatic 124, 3) := by decide +kernel
theorem dX10_net_12 : decode cX10_net 12 = .ok (.ifCond .ne 6, 3) := by decide +kernel
theorem dX10_net_15 : decode cX10_net 15 = .ok (.bipush (-2), 2) := by decide +kernel
theorem dX10_net_17 : decode cX10_net 17 = .ok (.ireturn, 1) := by decide +kernel
theorem dX10_net_18 : decode cX10_net 18 = .ok (.iload_n 1, 1) := by decide +kernel
theorem dX10_net_19 : decode cX10_net 19 = .ok (.i2l, 1) := by decide +kernel
theorem dX10_net_20 : decode cX10_net 20 = .ok (.lconst 1, 1) := by decide +kernel
theorem dX10_net_21 : decode cX10_net 21 = .ok (.ldc2_w 409, 3) := by decide +kernel
theorem dX10_net_24 : decode cX10_net 24 = .ok (.invokestatic 124, 3) := by decide +kernel
theorem dX10_net_27 : decode cX10_net 27 = .ok (.ifCond .ne 6, 3) := by decide +kernel
theorem dX10_net_30 : decode cX10_net 30 = .ok (.bipush (-3), 2) := by decide +kernel
theorem dX10_net_32 : decode cX10_net 32 = .ok (.ireturn, 1) := by decide +kernel
theorem dX10_net_33 : decode cX10_net 33 = .ok (.iconst (-1), 1) := by decide +kernel
theorem dX10_net_34 : decode cX10_net 34 = .ok (.istore_n 3, 1) := by decide +kernel
theorem dX10_net_35 : decode cX10_net 35 = .ok (.iconst (-1), 1) := by decide +kernel
theorem dX10_net_36 : decode cX10_net 36 = .ok (.istore 4, 2) := by decide +kernel
theorem dX10_net_38 : decode cX10_net 38 = .ok (.iconst 0, 1) := by decide +kernel
theorem dX10_net_39 : decode cX10_net 39 = .ok (.istore 5, 2) := by decide +kernel
theorem dX10_net_41 : decode cX10_net 41 = .ok (.iload 5, 2) := by decide +kernel
theorem dX10_net_43 : decode cX10_net 43 = .ok (.aload_n 0, 1) := by decide +kernel
theorem dX10_net_44 : decode cX10_net 44 = .ok (.invokevirtual 198, 3) := by decide +kernel
theorem dX10_net_47 : decode cX10_net 47 = .ok (.if_icmp .ge 51, 3) := by decide +kernel
theorem dX10_net_50 : decode cX10_net 50 = .ok (.aload_n 0, 1) := by decide +kernel
theorem dX10_net_51 : decode cX10_net 51 = .ok (.iload 5, 2) := by decide +kernel
theorem dX10_net_53 : decode cX10_net 53 = .ok (.invokevirtual 204, 3) := by decide +kernel
theorem dX10_net_56 : decode cX10_net 56 = .ok (.ifCond .eq 16, 3) := by decide +kernel
theorem dX10_net_59 : decode cX10_net 59 = .ok (.aload_n 0, 1) := by decide +kernel
theorem dX10_net_60 : decode cX10_net 60 = .ok (.iload 5, 2) := by decide +kernel
theorem dX10_net_62 : decode cX10_net 62 = .ok (.iload_n 1, 1) := by decide +kernel
theorem dX10_net_63 : decode cX10_net 63 = .ok (.invokevirtual 411, 3) := by decide +kernel
theorem dX10_net_66 : decode cX10_net 66 = .ok (.invokestatic 414, 3) := by decide +kernel
theorem dX10_net_69 : decode cX10_net 69 = .ok (.goto 4, 3) := by decide +kernel
theorem dX10_net_72 : decode cX10_net 72 = .ok (.iconst (-1), 1) := by decide +kernel
theorem dX10_net_73 : decode cX10_net 73 = .ok (.istore 6, 2) := by decide +kernel
theorem dX10_net_75 : decode cX10_net 75 = .ok (.iload 6, 2) := by decide +kernel
theorem dX10_net_77 : decode cX10_net 77 = .ok (.iload 4, 2) := by decide +kernel
theorem dX10_net_79 : decode cX10_net 79 = .ok (.if_icmp .gt 6, 3) := by decide +kernel
theorem dX10_net_82 : decode cX10_net 82 = .ok (.goto 10, 3) := by decide +kernel
theorem dX10_net_85 : decode cX10_net 85 = .ok (.iload 5, 2) := by decide +kernel
theorem dX10_net_87 : decode cX10_net 87 = .ok (.istore_n 3, 1) := by decide +kernel
theorem dX10_net_88 : decode cX10_net 88 = .ok (.iload 6, 2) := by decide +kernel
theorem dX10_net_90 : decode cX10_net 90 = .ok (.istore 4, 2) := by decide +kernel
theorem dX10_net_92 : decode cX10_net 92 = .ok (.iinc 5 1, 3) := by decide +kernel
theorem dX10_net_95 : decode cX10_net 95 = .ok (.goto (-54), 3) := by decide +kernel
theorem dX10_net_98 : decode cX10_net 98 = .ok (.iload_n 2, 1) := by decide +kernel
theorem dX10_net_99 : decode cX10_net 99 = .ok (.ifCond .ne 7, 3) := by decide +kernel
theorem dX10_net_102 : decode cX10_net 102 = .ok (.iload_n 3, 1) := by decide +kernel
theorem dX10_net_103 : decode cX10_net 103 = .ok (.goto 5, 3) := by decide +kernel
theorem dX10_net_106 : decode cX10_net 106 = .ok (.iload 4, 2) := by decide +kernel
theorem dX10_net_108 : decode cX10_net 108 = .ok (.ireturn, 1) := by decide +kernel
theorem dX10_openSea_0 : decode cX10_openSea 0 = .ok (.lconst 0, 1) := by decide +kernel
theorem dX10_openSea_1 : decode cX10_openSea 1 = .ok (.lstore_n 1, 1) := by decide +kernel
theorem dX10_openSea_2 : decode cX10_openSea 2 = .ok (.iconst 0, 1) := by decide +kernel
theorem dX10_openSea_3 : decode cX10_openSea 3 = .ok (.istore_n 3, 1) := by decide +kernel
theorem dX10_openSea_4 : decode cX10_openSea 4 = .ok (.iload_n 3, 1) := by decide +kernel
theorem dX10_openSea_5 : decode cX10_openSea 5 = .ok (.aload_n 0, 1) := by decide +kernel
theorem dX10_openSea_6 : decode cX10_openSea 6 = .ok (.invokevirtual 198, 3) := by decide +kernel
theorem dX10_openSea_9 : decode cX10_openSea 9 = .ok (.if_icmp .ge 27, 3) := by decide +kernel
theorem dX10_openSea_12 : decode cX10_openSea 12 = .ok (.lload_n 1, 1) := by decide +kernel
theorem dX10_openSea_13 : decode cX10_openSea 13 = .ok (.aload_n 0, 1) := by decide +kernel
theorem dX10_openSea_14 : decode cX10_openSea 14 = .ok (.iload_n 3, 1) := by decide +kernel
theorem dX10_openSea_15 : decode cX10_openSea 15 = .ok (.invokevirtual 204, 3) := by decide +kernel
theorem dX10_openSea_18 : decode cX10_openSea 18 = .ok (.ifCond .eq 9, 3) := by decide +kernel
theorem dX10_openSea_21 : decode cX10_openSea 21 = .ok (.lconst 1, 1) := by decide +kernel
theorem dX10_openSea_22 : decode cX10_openSea 22 = .ok (.iload_n 3, 1) := by decide +kernel
theorem dX10_openSea_23 : decode cX10_openSea 23 = .ok (.lshl, 1) := by decide +kernel
theorem dX10_openSea_24 : decode cX10_openSea 24 = .ok (.goto 4, 3) := by decide +kernel
theorem dX10_openSea_27 : decode cX10_openSea 27 = .ok (.lconst 0, 1) := by decide +kernel
theorem dX10_openSea_28 : decode cX10_openSea 28 = .ok (.lor, 1) := by decide +kernel
theorem dX10_openSea_29 : decode cX10_openSea 29 = .ok (.lstore_n 1, 1) := by decide +kernel
theorem dX10_openSea_30 : decode cX10_openSea 30 = .ok (.iinc 3 1, 3) := by decide +kernel
theorem dX10_openSea_33 : decode cX10_openSea 33 = .ok (.goto (-29), 3) := by decide +kernel
theorem dX10_openSea_36 : decode cX10_openSea 36 = .ok (.lload_n 1, 1) := by decide +kernel
theorem dX10_openSea_37 : decode cX10_openSea 37 = .ok (.lreturn, 1) := by decide +kernel
theorem dX10_calm_0 : decode cX10_calm 0 = .ok (.aload_n 0, 1) := by decide +kernel
theorem dX10_calm_1 : decode cX10_calm 1 = .ok (.iconst 0, 1) := by decide +kernel
theorem dX10_calm_2 : decode cX10_calm 2 = .ok (.putfield 1, 3) := by decide +kernel
theorem dX10_calm_5 : decode cX10_calm 5 = .ok (.iload_n 1, 1) := by decide +kernel
theorem dX10_calm_6 : decode cX10_calm 6 = .ok (.i2l, 1) := by decide +kernel
theorem dX10_calm_7 : decode cX10_calm 7 = .ok (.lconst 1, 1) := by decide +kernel
theorem dX10_calm_8 : decode cX10_calm 8 = .ok (.ldc2_w 409, 3) := by decide +kernel
theorem dX10_calm_11 : decode cX10_calm 11 = .ok (.invokestatic 124, 3) := by decide +kernel
theorem dX10_calm_14 : decode cX10_calm 14 = .ok (.ifCond .ne 7, 3) := by decide +kernel
theorem dX10_calm_17 : decode cX10_calm 17 = .ok (.ldc2_w 417, 3) := by decide +kernel
theorem dX10_calm_20 : decode cX10_calm 20 = .ok (.lreturn, 1) := by decide +kernel
theorem dX10_calm_21 : decode cX10_calm 21 = .ok (.aload_n 0, 1) := by decide +kernel
theorem dX10_calm_22 : decode cX10_calm 22 = .ok (.invokevirtual 419, 3) := by decide +kernel
theorem dX10_calm_25 : decode cX10_calm 25 = .ok (.lstore_n 2, 1) := by decide +kernel
theorem dX10_calm_26 : decode cX10_calm 26 = .ok (.iconst 0, 1) := by decide +kernel
theorem dX10_calm_27 : decode cX10_calm 27 = .ok (.istore 4, 2) := by decide +kernel
theorem dX10_calm_29 : decode cX10_calm 29 = .ok (.iload 4, 2) := by decide +kernel
theorem dX10_calm_31 : decode cX10_calm 31 = .ok (.aload_n 0, 1) := by decide +kernel
theorem dX10_calm_32 : decode cX10_calm 32 = .ok (.getfield 13, 3) := by decide +kernel
theorem dX10_calm_35 : decode cX10_calm 35 = .ok (.sipush 348, 3) := by decide +kernel
theorem dX10_calm_38 : decode cX10_calm 38 = .ok (.iaload, 1) := by decide +kernel
theorem dX10_calm_39 : decode cX10_calm 39 = .ok (.if_icmp .ge 40, 3) := by decide +kernel
theorem dX10_calm_42 : decode cX10_calm 42 = .ok (.aload_n 0, 1) := by decide +kernel
theorem dX10_calm_43 : decode cX10_calm 43 = .ok (.getfield 13, 3) := by decide +kernel
theorem dX10_calm_46 : decode cX10_calm 46 = .ok (.sipush 284, 3) := by decide +kernel
theorem dX10_calm_49 : decode cX10_calm 49 = .ok (.bipush 8, 2) := by decide +kernel
theorem dX10_calm_51 : decode cX10_calm 51 = .ok (.iload 4, 2) := by decide +kernel
theorem dX10_calm_53 : decode cX10_calm 53 = .ok (.imul, 1) := by decide +kernel
theorem dX10_calm_54 : decode cX10_calm 54 = .ok (.iadd, 1) := by decide +kernel
theorem dX10_calm_55 : decode cX10_calm 55 = .ok (.iaload, 1) := by decide +kernel
theorem dX10_calm_56 : decode cX10_calm 56 = .ok (.ifCond .ne 17, 3) := by decide +kernel
theorem dX10_calm_59 : decode cX10_calm 59 = .ok (.lload_n 2, 1) := by decide +kernel
theorem dX10_calm_60 : decode cX10_calm 60 = .ok (.aload_n 0, 1) := by decide +kernel
theorem dX10_calm_61 : decode cX10_calm 61 = .ok (.iload 4, 2) := by decide +kernel
theorem dX10_calm_63 : decode cX10_calm 63 = .ok (.iload_n 1, 1) := by decide +kernel
theorem dX10_calm_64 : decode cX10_calm 64 = .ok (.invokevirtual 405, 3) := by decide +kernel
theorem dX10_calm_67 : decode cX10_calm 67 = .ok (.ldc2_w 277, 3) := by decide +kernel
theorem dX10_calm_70 : decode cX10_calm 70 = .ok (.lxor, 1) := by decide +kernel
theorem dX10_calm_71 : decode cX10_calm 71 = .ok (.land, 1) := by decide +kernel
theorem dX10_calm_72 : decode cX10_calm 72 = .ok (.lstore_n 2, 1) := by decide +kernel
theorem dX10_calm_73 : decode cX10_calm 73 = .ok (.iinc 4 1, 3) := by decide +kernel
theorem dX10_calm_76 : decode cX10_calm 76 = .ok (.goto (-47), 3) := by decide +kernel
theorem dX10_calm_79 : decode cX10_calm 79 = .ok (.lload_n 2, 1) := by decide +kernel
theorem dX10_calm_80 : decode cX10_calm 80 = .ok (.lreturn, 1) := by decide +kernel
theorem dX10_deadly_0 : decode cX10_deadly 0 = .ok (.aload_n 0, 1) := by decide +kernel
theorem dX10_deadly_1 : decode cX10_deadly 1 = .ok (.iconst 0, 1) := by decide +kernel
theorem dX10_deadly_2 : decode cX10_deadly 2 = .ok (.putfield 1, 3) := by decide +kernel
theorem dX10_deadly_5 : decode cX10_deadly 5 = .ok (.lconst 0, 1) := by decide +kernel
theorem dX10_deadly_6 : decode cX10_deadly 6 = .ok (.lstore_n 2, 1) := by decide +kernel
theorem dX10_deadly_7 : decode cX10_deadly 7 = .ok (.iconst 0, 1) := by decide +kernel
theorem dX10_deadly_8 : decode cX10_deadly 8 = .ok (.istore 4, 2) := by decide +kernel
theorem dX10_deadly_10 : decode cX10_deadly 10 = .ok (.iload 4, 2) := by decide +kernel
theorem dX10_deadly_12 : decode cX10_deadly 12 = .ok (.aload_n 0, 1) := by decide +kernel
theorem dX10_deadly_13 : decode cX10_deadly 13 = .ok (.invokevirtual 198, 3) := by decide +kernel
theorem dX10_deadly_16 : decode cX10_deadly 16 = .ok (.if_icmp .ge 63, 3) := by decide +kernel
theorem dX10_deadly_19 : decode cX10_deadly 19 = .ok (.aload_n 0, 1) := by decide +kernel
theorem dX10_deadly_20 : decode cX10_deadly 20 = .ok (.iload 4, 2) := by decide +kernel
theorem dX10_deadly_22 : decode cX10_deadly 22 = .ok (.invokevirtual 204, 3) := by decide +kernel
theorem dX10_deadly_25 : decode cX10_deadly 25 = .ok (.ifCond .ne 6, 3) := by decide +kernel
theorem dX10_deadly_28 : decode cX10_deadly 28 = .ok (.goto 45, 3) := by decide +kernel
theorem dX10_deadly_31 : decode cX10_deadly 31 = .ok (.aload_n 0, 1) := by decide +kernel
theorem dX10_deadly_32 : decode cX10_deadly 32 = .ok (.iconst (-1), 1) := by decide +kernel
theorem dX10_deadly_33 : decode cX10_deadly 33 = .ok (.iconst (-1), 1) := by decide +kernel
theorem dX10_deadly_34 : decode cX10_deadly 34 = .ok (.iload_n 1, 1) := by decide +kernel
theorem dX10_deadly_35 : decode cX10_deadly 35 = .ok (.iload 4, 2) := by decide +kernel
theorem dX10_deadly_37 : decode cX10_deadly 37 = .ok (.invokevirtual 279, 3) := by decide +kernel
theorem dX10_deadly_40 : decode cX10_deadly 40 = .ok (.aload_n 0, 1) := by decide +kernel
theorem dX10_deadly_41 : decode cX10_deadly 41 = .ok (.aload_n 0, 1) := by decide +kernel
theorem dX10_deadly_42 : decode cX10_deadly 42 = .ok (.getfield 13, 3) := by decide +kernel
theorem dX10_deadly_45 : decode cX10_deadly 45 = .ok (.sipush 349, 3) := by decide +kernel
theorem dX10_deadly_48 : decode cX10_deadly 48 = .ok (.iaload, 1) := by decide +kernel
theorem dX10_deadly_49 : decode cX10_deadly 49 = .ok (.sipush 200, 3) := by decide +kernel
theorem dX10_deadly_52 : decode cX10_deadly 52 = .ok (.invokevirtual 366, 3) := by decide +kernel
theorem dX10_deadly_55 : decode cX10_deadly 55 = .ok (.pop, 1) := by decide +kernel
theorem dX10_deadly_56 : decode cX10_deadly 56 = .ok (.aload_n 0, 1) := by decide +kernel
theorem dX10_deadly_57 : decode cX10_deadly 57 = .ok (.getfield 30, 3) := by decide +kernel
theorem dX10_deadly_60 : decode cX10_deadly 60 = .ok (.iconst 0, 1) := by decide +kernel
theorem dX10_deadly_61 : decode cX10_deadly 61 = .ok (.iaload, 1) := by decide +kernel
theorem dX10_deadly_62 : decode cX10_deadly 62 = .ok (.iconst 3, 1) := by decide +kernel
theorem dX10_deadly_63 : decode cX10_deadly 63 = .ok (.if_icmp .ne 10, 3) := by decide +kernel
theorem dX10_deadly_66 : decode cX10_deadly 66 = .ok (.lload_n 2, 1) := by decide +kernel
theorem dX10_deadly_67 : decode cX10_deadly 67 = .ok (.lconst 1, 1) := by decide +kernel
theorem dX10_deadly_68 : decode cX10_deadly 68 = .ok (.iload 4, 2) := by decide +kernel
theorem dX10_deadly_70 : decode cX10_deadly 70 = .ok (.lshl, 1) := by decide +kernel
theorem dX10_deadly_71 : decode cX10_deadly 71 = .ok (.lor, 1) := by decide +kernel
theorem dX10_deadly_72 : decode cX10_deadly 72 = .ok (.lstore_n 2, 1) := by decide +kernel
theorem dX10_deadly_73 : decode cX10_deadly 73 = .ok (.iinc 4 1, 3) := by decide +kernel
theorem dX10_deadly_76 : decode cX10_deadly 76 = .ok (.goto (-66), 3) := by decide +kernel
theorem dX10_deadly_79 : decode cX10_deadly 79 = .ok (.lload_n 2, 1) := by decide +kernel
theorem dX10_deadly_80 : decode cX10_deadly 80 = .ok (.lreturn, 1) := by decide +kernel
theorem dX10_eddy_0 : decode cX10_eddy 0 = .ok (.aload_n 0, 1) := by decide +kernel
theorem dX10_eddy_1 : decode cX10_eddy 1 = .ok (.iconst 0, 1) := by decide +kernel
theorem dX10_eddy_2 : decode cX10_eddy 2 = .ok (.putfield 1, 3) := by decide +kernel
theorem dX10_eddy_5 : decode cX10_eddy 5 = .ok (.aload_n 0, 1) := by decide +kernel
theorem dX10_eddy_6 : decode cX10_eddy 6 = .ok (.iload_n 1, 1) := by decide +kernel
theorem dX10_eddy_7 : decode cX10_eddy 7 = .ok (.i2l, 1) := by decide +kernel
theorem dX10_eddy_8 : decode cX10_eddy 8 = .ok (.invokevirtual 260, 3) := by decide +kernel
theorem dX10_eddy_11 : decode cX10_eddy 11 = .ok (.ifCond .ne 6, 3) := by decide +kernel
theorem dX10_eddy_14 : decode cX10_eddy 14 = .ok (.bipush (-2), 2) := by decide +kernel
theorem dX10_eddy_16 : decode cX10_eddy 16 = .ok (.ireturn, 1) := by decide +kernel
theorem dX10_eddy_17 : decode cX10_eddy 17 = .ok (.aload_n 0, 1) := by decide +kernel
theorem dX10_eddy_18 : decode cX10_eddy 18 = .ok (.iload_n 1, 1) := by decide +kernel
theorem dX10_eddy_19 : decode cX10_eddy 19 = .ok (.invokevirtual 204, 3) := by decide +kernel
theorem dX10_eddy_22 : decode cX10_eddy 22 = .ok (.ifCond .ne 6, 3) := by decide +kernel
theorem dX10_eddy_25 : decode cX10_eddy 25 = .ok (.bipush (-5), 2) := by decide +kernel
theorem dX10_eddy_27 : decode cX10_eddy 27 = .ok (.ireturn, 1) := by decide +kernel
theorem dX10_eddy_28 : decode cX10_eddy 28 = .ok (.aload_n 0, 1) := by decide +kernel
theorem dX10_eddy_29 : decode cX10_eddy 29 = .ok (.iconst (-1), 1) := by decide +kernel
theorem dX10_eddy_30 : decode cX10_eddy 30 = .ok (.iconst (-1), 1) := by decide +kernel
theorem dX10_eddy_31 : decode cX10_eddy 31 = .ok (.iload_n 2, 1) := by decide +kernel
theorem dX10_eddy_32 : decode cX10_eddy 32 = .ok (.iload_n 1, 1) := by decide +kernel
theorem dX10_eddy_33 : decode cX10_eddy 33 = .ok (.invokevirtual 279, 3) := by decide +kernel
theorem dX10_eddy_36 : decode cX10_eddy 36 = .ok (.iconst 1, 1) := by decide +kernel
theorem dX10_eddy_37 : decode cX10_eddy 37 = .ok (.istore_n 3, 1) := by decide +kernel
theorem dX10_eddy_38 : decode cX10_eddy 38 = .ok (.iload_n 3, 1) := by decide +kernel
theorem dX10_eddy_39 : decode cX10_eddy 39 = .ok (.sipush 200, 3) := by decide +kernel
theorem dX10_eddy_42 : decode cX10_eddy 42 = .ok (.if_icmp .gt 107, 3) := by decide +kernel
theorem dX10_eddy_45 : decode cX10_eddy 45 = .ok (.aload_n 0, 1) := by decide +kernel
theorem dX10_eddy_46 : decode cX10_eddy 46 = .ok (.aload_n 0, 1) := by decide +kernel
theorem dX10_eddy_47 : decode cX10_eddy 47 = .ok (.getfield 13, 3) := by decide +kernel
theorem dX10_eddy_50 : decode cX10_eddy 50 = .ok (.sipush 349, 3) := by decide +kernel
theorem dX10_eddy_53 : decode cX10_eddy 53 = .ok (.iaload, 1) := by decide +kernel
theorem dX10_eddy_54 : decode cX10_eddy 54 = .ok (.iload_n 3, 1) := by decide +kernel
theorem dX10_eddy_55 : decode cX10_eddy 55 = .ok (.iadd, 1) := by decide +kernel
theorem dX10_eddy_56 : decode cX10_eddy 56 = .ok (.iconst 1, 1) := by decide +kernel
theorem dX10_eddy_57 : decode cX10_eddy 57 = .ok (.isub, 1) := by decide +kernel
theorem dX10_eddy_58 : decode cX10_eddy 58 = .ok (.iconst 1, 1) := by decide +kernel
theorem dX10_eddy_59 : decode cX10_eddy 59 = .ok (.invokevirtual 289, 3) := by decide +kernel
theorem dX10_eddy_62 : decode cX10_eddy 62 = .ok (.aload_n 0, 1) := by decide +kernel
theorem dX10_eddy_63 : decode cX10_eddy 63 = .ok (.getfield 30, 3) := by decide +kernel
theorem dX10_eddy_66 : decode cX10_eddy 66 = .ok (.iconst 0, 1) := by decide +kernel
theorem dX10_eddy_67 : decode cX10_eddy 67 = .ok (.iaload, 1) := by decide +kernel
theorem dX10_eddy_68 : decode cX10_eddy 68 = .ok (.ifCond .eq 5, 3) := by decide +kernel
theorem dX10_eddy_71 : decode cX10_eddy 71 = .ok (.iconst (-1), 1) := by decide +kernel
theorem dX10_eddy_72 : decode cX10_eddy 72 = .ok (.ireturn, 1) := by decide +kernel
theorem dX10_eddy_73 : decode cX10_eddy 73 = .ok (.aload_n 0, 1) := by decide +kernel
theorem dX10_eddy_74 : decode cX10_eddy 74 = .ok (.getfield 30, 3) := by decide +kernel
theorem dX10_eddy_77 : decode cX10_eddy 77 = .ok (.iconst 1, 1) := by decide +kernel
theorem dX10_eddy_78 : decode cX10_eddy 78 = .ok (.iaload, 1) := by decide +kernel
theorem dX10_eddy_79 : decode cX10_eddy 79 = .ok (.iload_n 1, 1) := by decide +kernel
theorem dX10_eddy_80 : decode cX10_eddy 80 = .ok (.if_icmp .ne 63, 3) := by decide +kernel
theorem dX10_eddy_83 : decode cX10_eddy 83 = .ok (.aload_n 0, 1) := by decide +kernel
theorem dX10_eddy_84 : decode cX10_eddy 84 = .ok (.aload_n 0, 1) := by decide +kernel
theorem dX10_eddy_85 : decode cX10_eddy 85 = .ok (.getfield 13, 3) := by decide +kernel
theorem dX10_eddy_88 : decode cX10_eddy 88 = .ok (.sipush 349, 3) := by decide +kernel
theorem dX10_eddy_91 : decode cX10_eddy 91 = .ok (.iaload, 1) := by decide +kernel
theorem dX10_eddy_92 : decode cX10_eddy 92 = .ok (.iload_n 3, 1) := by decide +kernel
theorem dX10_eddy_93 : decode cX10_eddy 93 = .ok (.iadd, 1) := by decide +kernel
theorem dX10_eddy_94 : decode cX10_eddy 94 = .ok (.invokevirtual 211, 3) := by decide +kernel
theorem dX10_eddy_97 : decode cX10_eddy 97 = .ok (.aload_n 0, 1) := by decide +kernel
theorem dX10_eddy_98 : decode cX10_eddy 98 = .ok (.aload_n 0, 1) := by decide +kernel
theorem dX10_eddy_99 : decode cX10_eddy 99 = .ok (.getfield 13, 3) := by decide +kernel
theorem dX10_eddy_102 : decode cX10_eddy 102 = .ok (.sipush 349, 3) := by decide +kernel
theorem dX10_eddy_105 : decode cX10_eddy 105 = .ok (.iaload, 1) := by decide +kernel
theorem dX10_eddy_106 : decode cX10_eddy 106 = .ok (.invokevirtual 211, 3) := by decide +kernel
theorem dX10_eddy_109 : decode cX10_eddy 109 = .ok (.if_icmp .ne 34, 3) := by decide +kernel
theorem dX10_eddy_112 : decode cX10_eddy 112 = .ok (.aload_n 0, 1) := by decide +kernel
theorem dX10_eddy_113 : decode cX10_eddy 113 = .ok (.aload_n 0, 1) := by decide +kernel
theorem dX10_eddy_114 : decode cX10_eddy 114 = .ok (.getfield 13, 3) := by decide +kernel
theorem dX10_eddy_117 : decode cX10_eddy 117 = .ok (.sipush 349, 3) := by decide +kernel
theorem dX10_eddy_120 : decode cX10_eddy 120 = .ok (.iaload, 1) := by decide +kernel
theorem dX10_eddy_121 : decode cX10_eddy 121 = .ok (.iload_n 3, 1) := by decide +kernel
theorem dX10_eddy_122 : decode cX10_eddy 122 = .ok (.iadd, 1) := by decide +kernel
theorem dX10_eddy_123 : decode cX10_eddy 123 = .ok (.invokevirtual 214, 3) := by decide +kernel
theorem dX10_eddy_126 : decode cX10_eddy 126 = .ok (.aload_n 0, 1) := by decide +kernel
theorem dX10_eddy_127 : decode cX10_eddy 127 = .ok (.aload_n 0, 1) := by decide +kernel
theorem dX10_eddy_128 : decode cX10_eddy 128 = .ok (.getfield 13, 3) := by decide +kernel
theorem dX10_eddy_131 : decode cX10_eddy 131 = .ok (.sipush 349, 3) := by decide +kernel
theorem dX10_eddy_134 : decode cX10_eddy 134 = .ok (.iaload, 1) := by decide +kernel
theorem dX10_eddy_135 : decode cX10_eddy 135 = .ok (.invokevirtual 214, 3) := by decide +kernel
theorem dX10_eddy_138 : decode cX10_eddy 138 = .ok (.if_icmp .ne 5, 3) := by decide +kernel
theorem dX10_eddy_141 : decode cX10_eddy 141 = .ok (.iload_n 3, 1) := by decide +kernel
theorem dX10_eddy_142 : decode cX10_eddy 142 = .ok (.ireturn, 1) := by decide +kernel
theorem dX10_eddy_143 : decode cX10_eddy 143 = .ok (.iinc 3 1, 3) := by decide +kernel
theorem dX10_eddy_146 : decode cX10_eddy 146 = .ok (.goto (-108), 3) := by decide +kernel
theorem dX10_eddy_149 : decode cX10_eddy 149 = .ok (.iconst (-1), 1) := by decide +kernel
theorem dX10_eddy_150 : decode cX10_eddy 150 = .ok (.ireturn, 1) := by decide +kernel
theorem dX10_noSeen_0 : decode cX10_noSeen 0 = .ok (.aload_n 0, 1) := by decide +kernel
theorem dX10_noSeen_1 : decode cX10_noSeen 1 = .ok (.iload_n 1, 1) := by decide +kernel
theorem dX10_noSeen_2 : decode cX10_noSeen 2 = .ok (.invokevirtual 339, 3) := by decide +kernel
theorem dX10_noSeen_5 : decode cX10_noSeen 5 = .ok (.istore_n 2, 1) := by decide +kernel
theorem dX10_noSeen_6 : decode cX10_noSeen 6 = .ok (.iload_n 2, 1) := by decide +kernel
theorem dX10_noSeen_7 : decode cX10_noSeen 7 = .ok (.ifCond .eq 5, 3) := by decide +kernel
theorem dX10_noSeen_10 : decode cX10_noSeen 10 = .ok (.iload_n 2, 1) := by decide +kernel
theorem dX10_noSeen_11 : decode cX10_noSeen 11 = .ok (.ireturn, 1) := by decide +kernel
theorem dX10_noSeen_12 : decode cX10_noSeen 12 = .ok (.aload_n 0, 1) := by decide +kernel
theorem dX10_noSeen_13 : decode cX10_noSeen 13 = .ok (.getfield 51, 3) := by decide +kernel
theorem dX10_noSeen_16 : decode cX10_noSeen 16 = .ok (.iload_n 1, 1) := by decide +kernel
theorem dX10_noSeen_17 : decode cX10_noSeen 17 = .ok (.iaload, 1) := by decide +kernel
theorem dX10_noSeen_18 : decode cX10_noSeen 18 = .ok (.iconst 2, 1) := by decide +kernel
theorem dX10_noSeen_19 : decode cX10_noSeen 19 = .ok (.irem, 1) := by decide +kernel
theorem dX10_noSeen_20 : decode cX10_noSeen 20 = .ok (.iconst 1, 1) := by decide +kernel
theorem dX10_noSeen_21 : decode cX10_noSeen 21 = .ok (.if_icmp .eq 22, 3) := by decide +kernel
theorem dX10_noSeen_24 : decode cX10_noSeen 24 = .ok (.aload_n 0, 1) := by decide +kernel
theorem dX10_noSeen_25 : decode cX10_noSeen 25 = .ok (.getfield 51, 3) := by decide +kernel
theorem dX10_noSeen_28 : decode cX10_noSeen 28 = .ok (.iload_n 1, 1) := by decide +kernel
theorem dX10_noSeen_29 : decode cX10_noSeen 29 = .ok (.iaload, 1) := by decide +kernel
theorem dX10_noSeen_30 : decode cX10_noSeen 30 = .ok (.i2l, 1) := by decide +kernel
theorem dX10_noSeen_31 : decode cX10_noSeen 31 = .ok (.ldc2_w 364, 3) := by decide +kernel
theorem dX10_noSeen_34 : decode cX10_noSeen 34 = .ok (.ldc2_w 423, 3) := by decide +kernel
theorem dX10_noSeen_37 : decode cX10_noSeen 37 = .ok (.invokestatic 124, 3) := by decide +kernel
theorem dX10_noSeen_40 : decode cX10_noSeen 40 = .ok (.ifCond .ne 6, 3) := by decide +kernel
theorem dX10_noSeen_43 : decode cX10_noSeen 43 = .ok (.bipush (-4), 2) := by decide +kernel
theorem dX10_noSeen_45 : decode cX10_noSeen 45 = .ok (.ireturn, 1) := by decide +kernel
theorem dX10_noSeen_46 : decode cX10_noSeen 46 = .ok (.iconst 0, 1) := by decide +kernel
theorem dX10_noSeen_47 : decode cX10_noSeen 47 = .ok (.istore_n 3, 1) := by decide +kernel
theorem dX10_noSeen_48 : decode cX10_noSeen 48 = .ok (.iload_n 3, 1) := by decide +kernel
theorem dX10_noSeen_49 : decode cX10_noSeen 49 = .ok (.aload_n 0, 1) := by decide +kernel
theorem dX10_noSeen_50 : decode cX10_noSeen 50 = .ok (.getfield 51, 3) := by decide +kernel
theorem dX10_noSeen_53 : decode cX10_noSeen 53 = .ok (.iload_n 1, 1) := by decide +kernel
theorem dX10_noSeen_54 : decode cX10_noSeen 54 = .ok (.iaload, 1) := by decide +kernel
theorem dX10_noSeen_55 : decode cX10_noSeen 55 = .ok (.if_icmp .ge 60, 3) := by decide +kernel
theorem dX10_noSeen_58 : decode cX10_noSeen 58 = .ok (.iload_n 3, 1) := by decide +kernel
theorem dX10_noSeen_59 : decode cX10_noSeen 59 = .ok (.iconst 2, 1) := by decide +kernel
theorem dX10_noSeen_60 : decode cX10_noSeen 60 = .ok (.irem, 1) := by decide +kernel
theorem dX10_noSeen_61 : decode cX10_noSeen 61 = .ok (.ifCond .ne 24, 3) := by decide +kernel
theorem dX10_noSeen_64 : decode cX10_noSeen 64 = .ok (.aload_n 0, 1) := by decide +kernel
theorem dX10_noSeen_65 : decode cX10_noSeen 65 = .ok (.aload_n 0, 1) := by decide +kernel
theorem dX10_noSeen_66 : decode cX10_noSeen 66 = .ok (.getfield 54, 3) := by decide +kernel
theorem dX10_noSeen_69 : decode cX10_noSeen 69 = .ok (.bipush 40, 2) := by decide +kernel
theorem dX10_noSeen_71 : decode cX10_noSeen 71 = .ok (.iload_n 1, 1) := by decide +kernel
theorem dX10_noSeen_72 : decode cX10_noSeen 72 = .ok (.imul, 1) := by decide +kernel
theorem dX10_noSeen_73 : decode cX10_noSeen 73 = .ok (.iload_n 3, 1) := by decide +kernel
theorem dX10_noSeen_74 : decode cX10_noSeen 74 = .ok (.iadd, 1) := by decide +kernel
theorem dX10_noSeen_75 : decode cX10_noSeen 75 = .ok (.laload, 1) := by decide +kernel
theorem dX10_noSeen_76 : decode cX10_noSeen 76 = .ok (.invokevirtual 260, 3) := by decide +kernel
theorem dX10_noSeen_79 : decode cX10_noSeen 79 = .ok (.ifCond .ne 30, 3) := by decide +kernel
theorem dX10_noSeen_82 : decode cX10_noSeen 82 = .ok (.goto 24, 3) := by decide +kernel
theorem dX10_noSeen_85 : decode cX10_noSeen 85 = .ok (.aload_n 0, 1) := by decide +kernel
theorem dX10_noSeen_86 : decode cX10_noSeen 86 = .ok (.getfield 54, 3) := by decide +kernel
theorem dX10_noSeen_89 : decode cX10_noSeen 89 = .ok (.bipush 40, 2) := by decide +kernel
theorem dX10_noSeen_91 : decode cX10_noSeen 91 = .ok (.iload_n 1, 1) := by decide +kernel
theorem dX10_noSeen_92 : decode cX10_noSeen 92 = .ok (.imul, 1) := by decide +kernel
theorem dX10_noSeen_93 : decode cX10_noSeen 93 = .ok (.iload_n 3, 1) := by decide +kernel
theorem dX10_noSeen_94 : decode cX10_noSeen 94 = .ok (.iadd, 1) := by decide +kernel
theorem dX10_noSeen_95 : decode cX10_noSeen 95 = .ok (.laload, 1) := by decide +kernel
theorem dX10_noSeen_96 : decode cX10_noSeen 96 = .ok (.lconst 0, 1) := by decide +kernel
theorem dX10_noSeen_97 : decode cX10_noSeen 97 = .ok (.ldc2_w 380, 3) := by decide +kernel
theorem dX10_noSeen_100 : decode cX10_noSeen 100 = .ok (.invokestatic 124, 3) := by decide +kernel
theorem dX10_noSeen_103 : decode cX10_noSeen 103 = .ok (.ifCond .ne 6, 3) := by decide +kernel
theorem dX10_noSeen_106 : decode cX10_noSeen 106 = .ok (.bipush (-3), 2) := by decide +kernel
theorem dX10_noSeen_108 : decode cX10_noSeen 108 = .ok (.ireturn, 1) := by decide +kernel
theorem dX10_noSeen_109 : decode cX10_noSeen 109 = .ok (.iinc 3 1, 3) := by decide +kernel
theorem dX10_noSeen_112 : decode cX10_noSeen 112 = .ok (.goto (-64), 3) := by decide +kernel
theorem dX10_noSeen_115 : decode cX10_noSeen 115 = .ok (.iconst 0, 1) := by decide +kernel
theorem dX10_noSeen_116 : decode cX10_noSeen 116 = .ok (.ireturn, 1) := by decide +kernel
theorem dX10_fits_0 : decode cX10_fits 0 = .ok (.aload_n 0, 1) := by decide +kernel
theorem dX10_fits_1 : decode cX10_fits 1 = .ok (.iload_n 2, 1) := by decide +kernel
theorem dX10_fits_2 : decode cX10_fits 2 = .ok (.iload_n 3, 1) := by decide +kernel
theorem dX10_fits_3 : decode cX10_fits 3 = .ok (.iload 4, 2) := by decide +kernel
theorem dX10_fits_5 : decode cX10_fits 5 = .ok (.iconst 1, 1) := by decide +kernel
theorem dX10_fits_6 : decode cX10_fits 6 = .ok (.if_icmp .ne 7, 3) := by decide +kernel
theorem dX10_fits_9 : decode cX10_fits 9 = .ok (.iconst 1, 1) := by decide +kernel
theorem dX10_fits_10 : decode cX10_fits 10 = .ok (.goto 4, 3) := by decide +kernel
theorem dX10_fits_13 : decode cX10_fits 13 = .ok (.iconst 0, 1) := by decide +kernel
theorem dX10_fits_14 : decode cX10_fits 14 = .ok (.aload_n 0, 1) := by decide +kernel
theorem dX10_fits_15 : decode cX10_fits 15 = .ok (.iload_n 2, 1) := by decide +kernel
theorem dX10_fits_16 : decode cX10_fits 16 = .ok (.invokevirtual 244, 3) := by decide +kernel
theorem dX10_fits_19 : decode cX10_fits 19 = .ok (.invokevirtual 279, 3) := by decide +kernel
theorem dX10_fits_22 : decode cX10_fits 22 = .ok (.iload 5, 2) := by decide +kernel
theorem dX10_fits_24 : decode cX10_fits 24 = .ok (.istore 6, 2) := by decide +kernel
theorem dX10_fits_26 : decode cX10_fits 26 = .ok (.iload 6, 2) := by decide +kernel
theorem dX10_fits_28 : decode cX10_fits 28 = .ok (.ifCond .lt 94, 3) := by decide +kernel
theorem dX10_fits_31 : decode cX10_fits 31 = .ok (.iconst 0, 1) := by decide +kernel
theorem dX10_fits_32 : decode cX10_fits 32 = .ok (.istore 7, 2) := by decide +kernel
theorem dX10_fits_34 : decode cX10_fits 34 = .ok (.iload 7, 2) := by decide +kernel
theorem dX10_fits_36 : decode cX10_fits 36 = .ok (.aload_n 0, 1) := by decide +kernel
theorem dX10_fits_37 : decode cX10_fits 37 = .ok (.getfield 51, 3) := by decide +kernel
theorem dX10_fits_40 : decode cX10_fits 40 = .ok (.iload_n 1, 1) := by decide +kernel
theorem dX10_fits_41 : decode cX10_fits 41 = .ok (.iaload, 1) := by decide +kernel
theorem dX10_fits_42 : decode cX10_fits 42 = .ok (.if_icmp .ge 53, 3) := by decide +kernel
theorem dX10_fits_45 : decode cX10_fits 45 = .ok (.aload_n 0, 1) := by decide +kernel
theorem dX10_fits_46 : decode cX10_fits 46 = .ok (.getfield 54, 3) := by decide +kernel
theorem dX10_fits_49 : decode cX10_fits 49 = .ok (.bipush 40, 2) := by decide +kernel
theorem dX10_fits_51 : decode cX10_fits 51 = .ok (.iload_n 1, 1) := by decide +kernel
theorem dX10_fits_52 : decode cX10_fits 52 = .ok (.imul, 1) := by decide +kernel
theorem dX10_fits_53 : decode cX10_fits 53 = .ok (.iload 7, 2) := by decide +kernel
theorem dX10_fits_55 : decode cX10_fits 55 = .ok (.iadd, 1) := by decide +kernel
theorem dX10_fits_56 : decode cX10_fits 56 = .ok (.iconst 1, 1) := by decide +kernel
theorem dX10_fits_57 : decode cX10_fits 57 = .ok (.iadd, 1) := by decide +kernel
theorem dX10_fits_58 : decode cX10_fits 58 = .ok (.laload, 1) := by decide +kernel
theorem dX10_fits_59 : decode cX10_fits 59 = .ok (.iload 6, 2) := by decide +kernel
theorem dX10_fits_61 : decode cX10_fits 61 = .ok (.i2l, 1) := by decide +kernel
theorem dX10_fits_62 : decode cX10_fits 62 = .ok (.lcmp, 1) := by decide +kernel
theorem dX10_fits_63 : decode cX10_fits 63 = .ok (.ifCond .ne 26, 3) := by decide +kernel
theorem dX10_fits_66 : decode cX10_fits 66 = .ok (.aload_n 0, 1) := by decide +kernel
theorem dX10_fits_67 : decode cX10_fits 67 = .ok (.getfield 54, 3) := by decide +kernel
theorem dX10_fits_70 : decode cX10_fits 70 = .ok (.bipush 40, 2) := by decide +kernel
theorem dX10_fits_72 : decode cX10_fits 72 = .ok (.iload_n 1, 1) := by decide +kernel
theorem dX10_fits_73 : decode cX10_fits 73 = .ok (.imul, 1) := by decide +kernel
theorem dX10_fits_74 : decode cX10_fits 74 = .ok (.iload 7, 2) := by decide +kernel
theorem dX10_fits_76 : decode cX10_fits 76 = .ok (.iadd, 1) := by decide +kernel
theorem dX10_fits_77 : decode cX10_fits 77 = .ok (.laload, 1) := by decide +kernel
theorem dX10_fits_78 : decode cX10_fits 78 = .ok (.aload_n 0, 1) := by decide +kernel
theorem dX10_fits_79 : decode cX10_fits 79 = .ok (.invokevirtual 371, 3) := by decide +kernel
theorem dX10_fits_82 : decode cX10_fits 82 = .ok (.i2l, 1) := by decide +kernel
theorem dX10_fits_83 : decode cX10_fits 83 = .ok (.lcmp, 1) := by decide +kernel
theorem dX10_fits_84 : decode cX10_fits 84 = .ok (.ifCond .eq 5, 3) := by decide +kernel
theorem dX10_fits_87 : decode cX10_fits 87 = .ok (.iconst 0, 1) := by decide +kernel
theorem dX10_fits_88 : decode cX10_fits 88 = .ok (.ireturn, 1) := by decide +kernel
theorem dX10_fits_89 : decode cX10_fits 89 = .ok (.iinc 7 2, 3) := by decide +kernel
theorem dX10_fits_92 : decode cX10_fits 92 = .ok (.goto (-58), 3) := by decide +kernel
theorem dX10_fits_95 : decode cX10_fits 95 = .ok (.iload 6, 2) := by decide +kernel
theorem dX10_fits_97 : decode cX10_fits 97 = .ok (.ifCond .le 19, 3) := by decide +kernel
theorem dX10_fits_100 : decode cX10_fits 100 = .ok (.aload_n 0, 1) := by decide +kernel
theorem dX10_fits_101 : decode cX10_fits 101 = .ok (.aload_n 0, 1) := by decide +kernel
theorem dX10_fits_102 : decode cX10_fits 102 = .ok (.getfield 13, 3) := by decide +kernel
theorem dX10_fits_105 : decode cX10_fits 105 = .ok (.sipush 349, 3) := by decide +kernel
theorem dX10_fits_108 : decode cX10_fits 108 = .ok (.iaload, 1) := by decide +kernel
theorem dX10_fits_109 : decode cX10_fits 109 = .ok (.iload 6, 2) := by decide +kernel
theorem dX10_fits_111 : decode cX10_fits 111 = .ok (.isub, 1) := by decide +kernel
theorem dX10_fits_112 : decode cX10_fits 112 = .ok (.iconst 0, 1) := by decide +kernel
theorem dX10_fits_113 : decode cX10_fits 113 = .ok (.invokevirtual 289, 3) := by decide +kernel
theorem dX10_fits_116 : decode cX10_fits 116 = .ok (.iinc 6 (-1), 3) := by decide +kernel
theorem dX10_fits_119 : decode cX10_fits 119 = .ok (.goto (-93), 3) := by decide +kernel
theorem dX10_fits_122 : decode cX10_fits 122 = .ok (.iconst 1, 1) := by decide +kernel
theorem dX10_fits_123 : decode cX10_fits 123 = .ok (.istore 6, 2) := by decide +kernel
theorem dX10_fits_125 : decode cX10_fits 125 = .ok (.iload 6, 2) := by decide +kernel
theorem dX10_fits_127 : decode cX10_fits 127 = .ok (.aload_n 0, 1) := by decide +kernel
theorem dX10_fits_128 : decode cX10_fits 128 = .ok (.getfield 51, 3) := by decide +kernel
theorem dX10_fits_131 : decode cX10_fits 131 = .ok (.iload_n 1, 1) := by decide +kernel
theorem dX10_fits_132 : decode cX10_fits 132 = .ok (.iaload, 1) := by decide +kernel
theorem dX10_fits_133 : decode cX10_fits 133 = .ok (.if_icmp .ge 30, 3) := by decide +kernel
theorem dX10_fits_136 : decode cX10_fits 136 = .ok (.aload_n 0, 1) := by decide +kernel
theorem dX10_fits_137 : decode cX10_fits 137 = .ok (.getfield 54, 3) := by decide +kernel
theorem dX10_fits_140 : decode cX10_fits 140 = .ok (.bipush 40, 2) := by decide +kernel
theorem dX10_fits_142 : decode cX10_fits 142 = .ok (.iload_n 1, 1) := by decide +kernel
theorem dX10_fits_143 : decode cX10_fits 143 = .ok (.imul, 1) := by decide +kernel
theorem dX10_fits_144 : decode cX10_fits 144 = .ok (.iload 6, 2) := by decide +kernel
theorem dX10_fits_146 : decode cX10_fits 146 = .ok (.iadd, 1) := by decide +kernel
theorem dX10_fits_147 : decode cX10_fits 147 = .ok (.laload, 1) := by decide +kernel
theorem dX10_fits_148 : decode cX10_fits 148 = .ok (.iload 5, 2) := by decide +kernel
theorem dX10_fits_150 : decode cX10_fits 150 = .ok (.i2l, 1) := by decide +kernel
theorem dX10_fits_151 : decode cX10_fits 151 = .ok (.lcmp, 1) := by decide +kernel
theorem dX10_fits_152 : decode cX10_fits 152 = .ok (.ifCond .le 5, 3) := by decide +kernel
theorem dX10_fits_155 : decode cX10_fits 155 = .ok (.iconst 0, 1) := by decide +kernel
theorem dX10_fits_156 : decode cX10_fits 156 = .ok (.ireturn, 1) := by decide +kernel
theorem dX10_fits_157 : decode cX10_fits 157 = .ok (.iinc 6 2, 3) := by decide +kernel
theorem dX10_fits_160 : decode cX10_fits 160 = .ok (.goto (-35), 3) := by decide +kernel
theorem dX10_fits_163 : decode cX10_fits 163 = .ok (.iconst 1, 1) := by decide +kernel
theorem dX10_fits_164 : decode cX10_fits 164 = .ok (.ireturn, 1) := by decide +kernel
theorem dX10_laysFits_0 : decode cX10_laysFits 0 = .ok (.aload_n 0, 1) := by decide +kernel
theorem dX10_laysFits_1 : decode cX10_laysFits 1 = .ok (.iconst 0, 1) := by decide +kernel
theorem dX10_laysFits_2 : decode cX10_laysFits 2 = .ok (.putfield 425, 3) := by decide +kernel
theorem dX10_laysFits_5 : decode cX10_laysFits 5 = .ok (.aload_n 0, 1) := by decide +kernel
theorem dX10_laysFits_6 : decode cX10_laysFits 6 = .ok (.iconst 0, 1) := by decide +kernel
theorem dX10_laysFits_7 : decode cX10_laysFits 7 = .ok (.putfield 428, 3) := by decide +kernel
theorem dX10_laysFits_10 : decode cX10_laysFits 10 = .ok (.iconst 0, 1) := by decide +kernel
theorem dX10_laysFits_11 : decode cX10_laysFits 11 = .ok (.istore_n 3, 1) := by decide +kernel
theorem dX10_laysFits_12 : decode cX10_laysFits 12 = .ok (.iload_n 3, 1) := by decide +kernel
theorem dX10_laysFits_13 : decode cX10_laysFits 13 = .ok (.aload_n 0, 1) := by decide +kernel
theorem dX10_laysFits_14 : decode cX10_laysFits 14 = .ok (.getfield 13, 3) := by decide +kernel
theorem dX10_laysFits_17 : decode cX10_laysFits 17 = .ok (.iconst 4, 1) := by decide +kernel
theorem dX10_laysFits_18 : decode cX10_laysFits 18 = .ok (.iaload, 1) := by decide +kernel
theorem dX10_laysFits_19 : decode cX10_laysFits 19 = .ok (.if_icmp .ge 118, 3) := by decide +kernel
theorem dX10_laysFits_22 : decode cX10_laysFits 22 = .ok (.aload_n 0, 1) := by decide +kernel
theorem dX10_laysFits_23 : decode cX10_laysFits 23 = .ok (.iload_n 3, 1) := by decide +kernel
theorem dX10_laysFits_24 : decode cX10_laysFits 24 = .ok (.invokevirtual 244, 3) := by decide +kernel
theorem dX10_laysFits_27 : decode cX10_laysFits 27 = .ok (.iconst (-1), 1) := by decide +kernel
theorem dX10_laysFits_28 : decode cX10_laysFits 28 = .ok (.if_icmp .ne 6, 3) := by decide +kernel
theorem dX10_laysFits_31 : decode cX10_laysFits 31 = .ok (.goto 100, 3) := by decide +kernel
theorem dX10_laysFits_34 : decode cX10_laysFits 34 = .ok (.iconst (-1), 1) := by decide +kernel
theorem dX10_laysFits_35 : decode cX10_laysFits 35 = .ok (.istore 4, 2) := by decide +kernel
theorem dX10_laysFits_37 : decode cX10_laysFits 37 = .ok (.iload 4, 2) := by decide +kernel
theorem dX10_laysFits_39 : decode cX10_laysFits 39 = .ok (.aload_n 0, 1) := by decide +kernel
theorem dX10_laysFits_40 : decode cX10_laysFits 40 = .ok (.getfield 13, 3) := by decide +kernel
theorem dX10_laysFits_43 : decode cX10_laysFits 43 = .ok (.iconst 4, 1) := by decide +kernel
theorem dX10_laysFits_44 : decode cX10_laysFits 44 = .ok (.iaload, 1) := by decide +kernel
theorem dX10_laysFits_45 : decode cX10_laysFits 45 = .ok (.if_icmp .ge 86, 3) := by decide +kernel
theorem dX10_laysFits_48 : decode cX10_laysFits 48 = .ok (.iconst 0, 1) := by decide +kernel
theorem dX10_laysFits_49 : decode cX10_laysFits 49 = .ok (.istore 5, 2) := by decide +kernel
theorem dX10_laysFits_51 : decode cX10_laysFits 51 = .ok (.iload 5, 2) := by decide +kernel
theorem dX10_laysFits_53 : decode cX10_laysFits 53 = .ok (.iconst 2, 1) := by decide +kernel
theorem dX10_laysFits_54 : decode cX10_laysFits 54 = .ok (.if_icmp .ge 71, 3) := by decide +kernel
theorem dX10_laysFits_57 : decode cX10_laysFits 57 = .ok (.iload 4, 2) := by decide +kernel
theorem dX10_laysFits_59 : decode cX10_laysFits 59 = .ok (.iload_n 3, 1) := by decide +kernel
theorem dX10_laysFits_60 : decode cX10_laysFits 60 = .ok (.if_icmp .eq 65, 3) := by decide +kernel
theorem dX10_laysFits_63 : decode cX10_laysFits 63 = .ok (.iconst 0, 1) := by decide +kernel
theorem dX10_laysFits_64 : decode cX10_laysFits 64 = .ok (.istore 6, 2) := by decide +kernel
theorem dX10_laysFits_66 : decode cX10_laysFits 66 = .ok (.iload 6, 2) := by decide +kernel
theorem dX10_laysFits_68 : decode cX10_laysFits 68 = .ok (.bipush 30, 2) := by decide +kernel
theorem dX10_laysFits_70 : decode cX10_laysFits 70 = .ok (.if_icmp .gt 49, 3) := by decide +kernel
theorem dX10_laysFits_73 : decode cX10_laysFits 73 = .ok (.iload 6, 2) := by decide +kernel
theorem dX10_laysFits_75 : decode cX10_laysFits 75 = .ok (.aload_n 0, 1) := by decide +kernel
theorem dX10_laysFits_76 : decode cX10_laysFits 76 = .ok (.getfield 13, 3) := by decide +kernel
theorem dX10_laysFits_79 : decode cX10_laysFits 79 = .ok (.sipush 349, 3) := by decide +kernel
theorem dX10_laysFits_82 : decode cX10_laysFits 82 = .ok (.iaload, 1) := by decide +kernel
theorem dX10_laysFits_83 : decode cX10_laysFits 83 = .ok (.if_icmp .gt 36, 3) := by decide +kernel
theorem dX10_laysFits_86 : decode cX10_laysFits 86 = .ok (.aload_n 0, 1) := by decide +kernel
theorem dX10_laysFits_87 : decode cX10_laysFits 87 = .ok (.iload_n 1, 1) := by decide +kernel
theorem dX10_laysFits_88 : decode cX10_laysFits 88 = .ok (.iload_n 3, 1) := by decide +kernel
theorem dX10_laysFits_89 : decode cX10_laysFits 89 = .ok (.iload 4, 2) := by decide +kernel
theorem dX10_laysFits_91 : decode cX10_laysFits 91 = .ok (.iload 5, 2) := by decide +kernel
theorem dX10_laysFits_93 : decode cX10_laysFits 93 = .ok (.iload 6, 2) := by decide +kernel
theorem dX10_laysFits_95 : decode cX10_laysFits 95 = .ok (.invokevirtual 431, 3) := by decide +kernel
theorem dX10_laysFits_98 : decode cX10_laysFits 98 = .ok (.ifCond .eq 15, 3) := by decide +kernel
theorem dX10_laysFits_101 : decode cX10_laysFits 101 = .ok (.aload_n 0, 1) := by decide +kernel
theorem dX10_laysFits_102 : decode cX10_laysFits 102 = .ok (.iload_n 3, 1) := by decide +kernel
theorem dX10_laysFits_103 : decode cX10_laysFits 103 = .ok (.iload 4, 2) := by decide +kernel
theorem dX10_laysFits_105 : decode cX10_laysFits 105 = .ok (.iload 5, 2) := by decide +kernel
theorem dX10_laysFits_107 : decode cX10_laysFits 107 = .ok (.iload 6, 2) := by decide +kernel
theorem dX10_laysFits_109 : decode cX10_laysFits 109 = .ok (.iload_n 2, 1) := by decide +kernel
theorem dX10_laysFits_110 : decode cX10_laysFits 110 = .ok (.invokevirtual 435, 3) := by decide +kernel
theorem dX10_laysFits_113 : decode cX10_laysFits 113 = .ok (.iinc 6 1, 3) := by decide +kernel
theorem dX10_laysFits_116 : decode cX10_laysFits 116 = .ok (.goto (-50), 3) := by decide +kernel
theorem dX10_laysFits_119 : decode cX10_laysFits 119 = .ok (.iinc 5 1, 3) := by decide +kernel
theorem dX10_laysFits_122 : decode cX10_laysFits 122 = .ok (.goto (-71), 3) := by decide +kernel
theorem dX10_laysFits_125 : decode cX10_laysFits 125 = .ok (.iinc 4 1, 3) := by decide +kernel
theorem dX10_laysFits_128 : decode cX10_laysFits 128 = .ok (.goto (-91), 3) := by decide +kernel
theorem dX10_laysFits_131 : decode cX10_laysFits 131 = .ok (.iinc 3 1, 3) := by decide +kernel
theorem dX10_laysFits_134 : decode cX10_laysFits 134 = .ok (.goto (-122), 3) := by decide +kernel
theorem dX10_laysFits_137 : decode cX10_laysFits 137 = .ok (.return_, 1) := by decide +kernel
theorem dX10_isFit_0 : decode cX10_isFit 0 = .ok (.aload_n 0, 1) := by decide +kernel
theorem dX10_isFit_1 : decode cX10_isFit 1 = .ok (.getfield 425, 3) := by decide +kernel
theorem dX10_isFit_4 : decode cX10_isFit 4 = .ok (.iload 5, 2) := by decide +kernel
theorem dX10_isFit_6 : decode cX10_isFit 6 = .ok (.if_icmp .ne 24, 3) := by decide +kernel
theorem dX10_isFit_9 : decode cX10_isFit 9 = .ok (.aload_n 0, 1) := by decide +kernel
theorem dX10_isFit_10 : decode cX10_isFit 10 = .ok (.iload_n 1, 1) := by decide +kernel
theorem dX10_isFit_11 : decode cX10_isFit 11 = .ok (.putfield 439, 3) := by decide +kernel
theorem dX10_isFit_14 : decode cX10_isFit 14 = .ok (.aload_n 0, 1) := by decide +kernel
theorem dX10_isFit_15 : decode cX10_isFit 15 = .ok (.iload_n 2, 1) := by decide +kernel
theorem dX10_isFit_16 : decode cX10_isFit 16 = .ok (.putfield 442, 3) := by decide +kernel
theorem dX10_isFit_19 : decode cX10_isFit 19 = .ok (.aload_n 0, 1) := by decide +kernel
theorem dX10_isFit_20 : decode cX10_isFit 20 = .ok (.iload_n 3, 1) := by decide +kernel
theorem dX10_isFit_21 : decode cX10_isFit 21 = .ok (.putfield 445, 3) := by decide +kernel
theorem dX10_isFit_24 : decode cX10_isFit 24 = .ok (.aload_n 0, 1) := by decide +kernel
theorem dX10_isFit_25 : decode cX10_isFit 25 = .ok (.iload 4, 2) := by decide +kernel
theorem dX10_isFit_27 : decode cX10_isFit 27 = .ok (.putfield 448, 3) := by decide +kernel
theorem dX10_isFit_30 : decode cX10_isFit 30 = .ok (.aload_n 0, 1) := by decide +kernel
theorem dX10_isFit_31 : decode cX10_isFit 31 = .ok (.dup, 1) := by decide +kernel
theorem dX10_isFit_32 : decode cX10_isFit 32 = .ok (.getfield 425, 3) := by decide +kernel
theorem dX10_isFit_35 : decode cX10_isFit 35 = .ok (.iconst 1, 1) := by decide +kernel
theorem dX10_isFit_36 : decode cX10_isFit 36 = .ok (.iadd, 1) := by decide +kernel
theorem dX10_isFit_37 : decode cX10_isFit 37 = .ok (.putfield 425, 3) := by decide +kernel
theorem dX10_isFit_40 : decode cX10_isFit 40 = .ok (.aload_n 0, 1) := by decide +kernel
theorem dX10_isFit_41 : decode cX10_isFit 41 = .ok (.dup, 1) := by decide +kernel
theorem dX10_isFit_42 : decode cX10_isFit 42 = .ok (.getfield 428, 3) := by decide +kernel
theorem dX10_isFit_45 : decode cX10_isFit 45 = .ok (.iconst 1, 1) := by decide +kernel
theorem dX10_isFit_46 : decode cX10_isFit 46 = .ok (.iload_n 1, 1) := by decide +kernel
theorem dX10_isFit_47 : decode cX10_isFit 47 = .ok (.ishl, 1) := by decide +kernel
theorem dX10_isFit_48 : decode cX10_isFit 48 = .ok (.ior, 1) := by decide +kernel
theorem dX10_isFit_49 : decode cX10_isFit 49 = .ok (.putfield 428, 3) := by decide +kernel
theorem dX10_isFit_52 : decode cX10_isFit 52 = .ok (.return_, 1) := by decide +kernel
theorem dX10_seen_0 : decode cX10_seen 0 = .ok (.aload_n 0, 1) := by decide +kernel
theorem dX10_seen_1 : decode cX10_seen 1 = .ok (.iconst 0, 1) := by decide +kernel
theorem dX10_seen_2 : decode cX10_seen 2 = .ok (.putfield 1, 3) := by decide +kernel
theorem dX10_seen_5 : decode cX10_seen 5 = .ok (.aload_n 0, 1) := by decide +kernel
theorem dX10_seen_6 : decode cX10_seen 6 = .ok (.iload_n 1, 1) := by decide +kernel
theorem dX10_seen_7 : decode cX10_seen 7 = .ok (.invokevirtual 451, 3) := by decide +kernel
theorem dX10_seen_10 : decode cX10_seen 10 = .ok (.istore_n 2, 1) := by decide +kernel
theorem dX10_seen_11 : decode cX10_seen 11 = .ok (.iload_n 2, 1) := by decide +kernel
theorem dX10_seen_12 : decode cX10_seen 12 = .ok (.ifCond .eq 5, 3) := by decide +kernel
theorem dX10_seen_15 : decode cX10_seen 15 = .ok (.iload_n 2, 1) := by decide +kernel
theorem dX10_seen_16 : decode cX10_seen 16 = .ok (.ireturn, 1) := by decide +kernel
theorem dX10_seen_17 : decode cX10_seen 17 = .ok (.aload_n 0, 1) := by decide +kernel
theorem dX10_seen_18 : decode cX10_seen 18 = .ok (.iload_n 1, 1) := by decide +kernel
theorem dX10_seen_19 : decode cX10_seen 19 = .ok (.iconst (-1), 1) := by decide +kernel
theorem dX10_seen_20 : decode cX10_seen 20 = .ok (.invokevirtual 454, 3) := by decide +kernel
theorem dX10_seen_23 : decode cX10_seen 23 = .ok (.aload_n 0, 1) := by decide +kernel
theorem dX10_seen_24 : decode cX10_seen 24 = .ok (.getfield 425, 3) := by decide +kernel
theorem dX10_seen_27 : decode cX10_seen 27 = .ok (.ireturn, 1) := by decide +kernel
theorem dX10_thrower_0 : decode cX10_thrower 0 = .ok (.aload_n 0, 1) := by decide +kernel
theorem dX10_thrower_1 : decode cX10_thrower 1 = .ok (.iconst 0, 1) := by decide +kernel
theorem dX10_thrower_2 : decode cX10_thrower 2 = .ok (.putfield 1, 3) := by decide +kernel
theorem dX10_thrower_5 : decode cX10_thrower 5 = .ok (.iload_n 3, 1) := by decide +kernel
theorem dX10_thrower_6 : decode cX10_thrower 6 = .ok (.i2l, 1) := by decide +kernel
theorem dX10_thrower_7 : decode cX10_thrower 7 = .ok (.lconst 0, 1) := by decide +kernel
theorem dX10_thrower_8 : decode cX10_thrower 8 = .ok (.ldc2_w 337, 3) := by decide +kernel
theorem dX10_thrower_11 : decode cX10_thrower 11 = .ok (.invokestatic 124, 3) := by decide +kernel
theorem dX10_thrower_14 : decode cX10_thrower 14 = .ok (.ifCond .ne 6, 3) := by decide +kernel
theorem dX10_thrower_17 : decode cX10_thrower 17 = .ok (.bipush (-2), 2) := by decide +kernel
theorem dX10_thrower_19 : decode cX10_thrower 19 = .ok (.ireturn, 1) := by decide +kernel
theorem dX10_thrower_20 : decode cX10_thrower 20 = .ok (.aload_n 0, 1) := by decide +kernel
theorem dX10_thrower_21 : decode cX10_thrower 21 = .ok (.iload_n 1, 1) := by decide +kernel
theorem dX10_thrower_22 : decode cX10_thrower 22 = .ok (.invokevirtual 451, 3) := by decide +kernel
theorem dX10_thrower_25 : decode cX10_thrower 25 = .ok (.istore 4, 2) := by decide +kernel
theorem dX10_thrower_27 : decode cX10_thrower 27 = .ok (.iload 4, 2) := by decide +kernel
theorem dX10_thrower_29 : decode cX10_thrower 29 = .ok (.ifCond .eq 6, 3) := by decide +kernel
theorem dX10_thrower_32 : decode cX10_thrower 32 = .ok (.iload 4, 2) := by decide +kernel
theorem dX10_thrower_34 : decode cX10_thrower 34 = .ok (.ireturn, 1) := by decide +kernel
theorem dX10_thrower_35 : decode cX10_thrower 35 = .ok (.iload_n 2, 1) := by decide +kernel
theorem dX10_thrower_36 : decode cX10_thrower 36 = .ok (.ifCond .ge 6, 3) := by decide +kernel
theorem dX10_thrower_39 : decode cX10_thrower 39 = .ok (.bipush (-3), 2) := by decide +kernel
theorem dX10_thrower_41 : decode cX10_thrower 41 = .ok (.ireturn, 1) := by decide +kernel
theorem dX10_thrower_42 : decode cX10_thrower 42 = .ok (.aload_n 0, 1) := by decide +kernel
theorem dX10_thrower_43 : decode cX10_thrower 43 = .ok (.iload_n 1, 1) := by decide +kernel
theorem dX10_thrower_44 : decode cX10_thrower 44 = .ok (.iload_n 2, 1) := by decide +kernel
theorem dX10_thrower_45 : decode cX10_thrower 45 = .ok (.invokevirtual 454, 3) := by decide +kernel
theorem dX10_thrower_48 : decode cX10_thrower 48 = .ok (.iload_n 2, 1) := by decide +kernel
theorem dX10_thrower_49 : decode cX10_thrower 49 = .ok (.aload_n 0, 1) := by decide +kernel
theorem dX10_thrower_50 : decode cX10_thrower 50 = .ok (.getfield 425, 3) := by decide +kernel
theorem dX10_thrower_53 : decode cX10_thrower 53 = .ok (.if_icmp .lt 15, 3) := by decide +kernel
theorem dX10_thrower_56 : decode cX10_thrower 56 = .ok (.iload_n 3, 1) := by decide +kernel
theorem dX10_thrower_57 : decode cX10_thrower 57 = .ok (.iconst 1, 1) := by decide +kernel
theorem dX10_thrower_58 : decode cX10_thrower 58 = .ok (.if_icmp .ne 8, 3) := by decide +kernel
theorem dX10_thrower_61 : decode cX10_thrower 61 = .ok (.bipush (-9), 2) := by decide +kernel
theorem dX10_thrower_63 : decode cX10_thrower 63 = .ok (.goto 4, 3) := by decide +kernel
theorem dX10_thrower_66 : decode cX10_thrower 66 = .ok (.iconst (-1), 1) := by decide +kernel
theorem dX10_thrower_67 : decode cX10_thrower 67 = .ok (.ireturn, 1) := by decide +kernel
theorem dX10_thrower_68 : decode cX10_thrower 68 = .ok (.iload_n 3, 1) := by decide +kernel
theorem dX10_thrower_69 : decode cX10_thrower 69 = .ok (.ifCond .ne 10, 3) := by decide +kernel
theorem dX10_thrower_72 : decode cX10_thrower 72 = .ok (.aload_n 0, 1) := by decide +kernel
theorem dX10_thrower_73 : decode cX10_thrower 73 = .ok (.getfield 439, 3) := by decide +kernel
theorem dX10_thrower_76 : decode cX10_thrower 76 = .ok (.goto 31, 3) := by decide +kernel
theorem dX10_thrower_79 : decode cX10_thrower 79 = .ok (.iload_n 3, 1) := by decide +kernel
theorem dX10_thrower_80 : decode cX10_thrower 80 = .ok (.iconst 1, 1) := by decide +kernel
theorem dX10_thrower_81 : decode cX10_thrower 81 = .ok (.if_icmp .ne 10, 3) := by decide +kernel
theorem dX10_thrower_84 : decode cX10_thrower 84 = .ok (.aload_n 0, 1) := by decide +kernel
theorem dX10_thrower_85 : decode cX10_thrower 85 = .ok (.getfield 442, 3) := by decide +kernel
theorem dX10_thrower_88 : decode cX10_thrower 88 = .ok (.goto 19, 3) := by decide +kernel
theorem dX10_thrower_91 : decode cX10_thrower 91 = .ok (.iload_n 3, 1) := by decide +kernel
theorem dX10_thrower_92 : decode cX10_thrower 92 = .ok (.iconst 2, 1) := by decide +kernel
theorem dX10_thrower_93 : decode cX10_thrower 93 = .ok (.if_icmp .ne 10, 3) := by decide +kernel
theorem dX10_thrower_96 : decode cX10_thrower 96 = .ok (.aload_n 0, 1) := by decide +kernel
theorem dX10_thrower_97 : decode cX10_thrower 97 = .ok (.getfield 445, 3) := by decide +kernel
theorem dX10_thrower_100 : decode cX10_thrower 100 = .ok (.goto 7, 3) := by decide +kernel
theorem dX10_thrower_103 : decode cX10_thrower 103 = .ok (.aload_n 0, 1) := by decide +kernel
theorem dX10_thrower_104 : decode cX10_thrower 104 = .ok (.getfield 448, 3) := by decide +kernel
theorem dX10_thrower_107 : decode cX10_thrower 107 = .ok (.ireturn, 1) := by decide +kernel
theorem dX10_suspects_0 : decode cX10_suspects 0 = .ok (.aload_n 0, 1) := by decide +kernel
theorem dX10_suspects_1 : decode cX10_suspects 1 = .ok (.iconst 0, 1) := by decide +kernel
theorem dX10_suspects_2 : decode cX10_suspects 2 = .ok (.putfield 1, 3) := by decide +kernel
theorem dX10_suspects_5 : decode cX10_suspects 5 = .ok (.aload_n 0, 1) := by decide +kernel
theorem dX10_suspects_6 : decode cX10_suspects 6 = .ok (.iload_n 1, 1) := by decide +kernel
theorem dX10_suspects_7 : decode cX10_suspects 7 = .ok (.invokevirtual 451, 3) := by decide +kernel
theorem dX10_suspects_10 : decode cX10_suspects 10 = .ok (.istore_n 2, 1) := by decide +kernel
theorem dX10_suspects_11 : decode cX10_suspects 11 = .ok (.iload_n 2, 1) := by decide +kernel
theorem dX10_suspects_12 : decode cX10_suspects 12 = .ok (.ifCond .eq 5, 3) := by decide +kernel
theorem dX10_suspects_15 : decode cX10_suspects 15 = .ok (.iload_n 2, 1) := by decide +kernel
theorem dX10_suspects_16 : decode cX10_suspects 16 = .ok (.ireturn, 1) := by decide +kernel
theorem dX10_suspects_17 : decode cX10_suspects 17 = .ok (.aload_n 0, 1) := by decide +kernel
theorem dX10_suspects_18 : decode cX10_suspects 18 = .ok (.iload_n 1, 1) := by decide +kernel
theorem dX10_suspects_19 : decode cX10_suspects 19 = .ok (.iconst (-1), 1) := by decide +kernel
theorem dX10_suspects_20 : decode cX10_suspects 20 = .ok (.invokevirtual 454, 3) := by decide +kernel
theorem dX10_suspects_23 : decode cX10_suspects 23 = .ok (.aload_n 0, 1) := by decide +kernel
theorem dX10_suspects_24 : decode cX10_suspects 24 = .ok (.getfield 428, 3) := by decide +kernel
theorem dX10_suspects_27 : decode cX10_suspects 27 = .ok (.ireturn, 1) := by decide +kernel
theorem dX10_cut_0 : decode cX10_cut 0 = .ok (.iload_n 2, 1) := by decide +kernel
theorem dX10_cut_1 : decode cX10_cut 1 = .ok (.ifCond .ne 10, 3) := by decide +kernel
theorem dX10_cut_4 : decode cX10_cut 4 = .ok (.lload_n 0, 1) := by decide +kernel
theorem dX10_cut_5 : decode cX10_cut 5 = .ok (.l2i, 1) := by decide +kernel
theorem dX10_cut_6 : decode cX10_cut 6 = .ok (.i2b, 1) := by decide +kernel
theorem dX10_cut_7 : decode cX10_cut 7 = .ok (.i2l, 1) := by decide +kernel
theorem dX10_cut_8 : decode cX10_cut 8 = .ok (.goto 27, 3) := by decide +kernel
theorem dX10_cut_11 : decode cX10_cut 11 = .ok (.iload_n 2, 1) := by decide +kernel
theorem dX10_cut_12 : decode cX10_cut 12 = .ok (.iconst 1, 1) := by decide +kernel
theorem dX10_cut_13 : decode cX10_cut 13 = .ok (.if_icmp .ne 10, 3) := by decide +kernel
theorem dX10_cut_16 : decode cX10_cut 16 = .ok (.lload_n 0, 1) := by decide +kernel
theorem dX10_cut_17 : decode cX10_cut 17 = .ok (.l2i, 1) := by decide +kernel
theorem dX10_cut_18 : decode cX10_cut 18 = .ok (.i2s, 1) := by decide +kernel
theorem dX10_cut_19 : decode cX10_cut 19 = .ok (.i2l, 1) := by decide +kernel
theorem dX10_cut_20 : decode cX10_cut 20 = .ok (.goto 15, 3) := by decide +kernel
theorem dX10_cut_23 : decode cX10_cut 23 = .ok (.iload_n 2, 1) := by decide +kernel
theorem dX10_cut_24 : decode cX10_cut 24 = .ok (.iconst 2, 1) := by decide +kernel
theorem dX10_cut_25 : decode cX10_cut 25 = .ok (.if_icmp .ne 9, 3) := by decide +kernel
theorem dX10_cut_28 : decode cX10_cut 28 = .ok (.lload_n 0, 1) := by decide +kernel
theorem dX10_cut_29 : decode cX10_cut 29 = .ok (.l2i, 1) := by decide +kernel
theorem dX10_cut_30 : decode cX10_cut 30 = .ok (.i2l, 1) := by decide +kernel
theorem dX10_cut_31 : decode cX10_cut 31 = .ok (.goto 4, 3) := by decide +kernel
theorem dX10_cut_34 : decode cX10_cut 34 = .ok (.lload_n 0, 1) := by decide +kernel
theorem dX10_cut_35 : decode cX10_cut 35 = .ok (.lreturn, 1) := by decide +kernel
theorem dX10_numbers_0 : decode cX10_numbers 0 = .ok (.aload_n 0, 1) := by decide +kernel
theorem dX10_numbers_1 : decode cX10_numbers 1 = .ok (.iconst 0, 1) := by decide +kernel
theorem dX10_numbers_2 : decode cX10_numbers 2 = .ok (.putfield 1, 3) := by decide +kernel
theorem dX10_numbers_5 : decode cX10_numbers 5 = .ok (.iload_n 1, 1) := by decide +kernel
theorem dX10_numbers_6 : decode cX10_numbers 6 = .ok (.i2l, 1) := by decide +kernel
theorem dX10_numbers_7 : decode cX10_numbers 7 = .ok (.lconst 0, 1) := by decide +kernel
theorem dX10_numbers_8 : decode cX10_numbers 8 = .ok (.ldc2_w 337, 3) := by decide +kernel
theorem dX10_numbers_11 : decode cX10_numbers 11 = .ok (.invokestatic 124, 3) := by decide +kernel
theorem dX10_numbers_14 : decode cX10_numbers 14 = .ok (.ifCond .eq 15, 3) := by decide +kernel
theorem dX10_numbers_17 : decode cX10_numbers 17 = .ok (.iload_n 2, 1) := by decide +kernel
theorem dX10_numbers_18 : decode cX10_numbers 18 = .ok (.i2l, 1) := by decide +kernel
theorem dX10_numbers_19 : decode cX10_numbers 19 = .ok (.lconst 0, 1) := by decide +kernel
theorem dX10_numbers_20 : decode cX10_numbers 20 = .ok (.ldc2_w 337, 3) := by decide +kernel
theorem dX10_numbers_23 : decode cX10_numbers 23 = .ok (.invokestatic 124, 3) := by decide +kernel
theorem dX10_numbers_26 : decode cX10_numbers 26 = .ok (.ifCond .ne 6, 3) := by decide +kernel
theorem dX10_numbers_29 : decode cX10_numbers 29 = .ok (.bipush (-2), 2) := by decide +kernel
theorem dX10_numbers_31 : decode cX10_numbers 31 = .ok (.ireturn, 1) := by decide +kernel
theorem dX10_numbers_32 : decode cX10_numbers 32 = .ok (.iload_n 3, 1) := by decide +kernel
theorem dX10_numbers_33 : decode cX10_numbers 33 = .ok (.i2l, 1) := by decide +kernel
theorem dX10_numbers_34 : decode cX10_numbers 34 = .ok (.lconst 0, 1) := by decide +kernel
theorem dX10_numbers_35 : decode cX10_numbers 35 = .ok (.ldc2_w 358, 3) := by decide +kernel
theorem dX10_numbers_38 : decode cX10_numbers 38 = .ok (.invokestatic 124, 3) := by decide +kernel
theorem dX10_numbers_41 : decode cX10_numbers 41 = .ok (.ifCond .ne 6, 3) := by decide +kernel
theorem dX10_numbers_44 : decode cX10_numbers 44 = .ok (.bipush (-3), 2) := by decide +kernel
theorem dX10_numbers_46 : decode cX10_numbers 46 = .ok (.ireturn, 1) := by decide +kernel
theorem dX10_numbers_47 : decode cX10_numbers 47 = .ok (.aload_n 0, 1) := by decide +kernel
theorem dX10_numbers_48 : decode cX10_numbers 48 = .ok (.getfield 48, 3) := by decide +kernel
theorem dX10_numbers_51 : decode cX10_numbers 51 = .ok (.iload_n 1, 1) := by decide +kernel
theorem dX10_numbers_52 : decode cX10_numbers 52 = .ok (.iload_n 2, 1) := by decide +kernel
theorem dX10_numbers_53 : decode cX10_numbers 53 = .ok (.iastore, 1) := by decide +kernel
theorem dX10_numbers_54 : decode cX10_numbers 54 = .ok (.aload_n 0, 1) := by decide +kernel
