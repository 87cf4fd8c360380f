theorem dX9_comesTo_44 : decode cX9_comesTo 44 = .ok (.sipush 200, 3) := by decide +kernel
theorem dX9_comesTo_47 : decode cX9_comesTo 47 = .ok (.if_icmp .gt 42, 3) := by decide +kernel
theorem dX9_comesTo_50 : decode cX9_comesTo 50 = .ok (.aload_n 0, 1) := by decide +kernel
theorem dX9_comesTo_51 : decode cX9_comesTo 51 = .ok (.getfield 52, 3) := by decide +kernel
theorem dX9_comesTo_54 : decode cX9_comesTo 54 = .ok (.invokevirtual 311, 3) := by decide +kernel
theorem dX9_comesTo_57 : decode cX9_comesTo 57 = .ok (.iload_n 2, 1) := by decide +kernel
theorem dX9_comesTo_58 : decode cX9_comesTo 58 = .ok (.if_icmp .ne 5, 3) := by decide +kernel
theorem dX9_comesTo_61 : decode cX9_comesTo 61 = .ok (.iload_n 3, 1) := by decide +kernel
theorem dX9_comesTo_62 : decode cX9_comesTo 62 = .ok (.ireturn, 1) := by decide +kernel
theorem dX9_comesTo_63 : decode cX9_comesTo 63 = .ok (.aload_n 0, 1) := by decide +kernel
theorem dX9_comesTo_64 : decode cX9_comesTo 64 = .ok (.getfield 23, 3) := by decide +kernel
theorem dX9_comesTo_67 : decode cX9_comesTo 67 = .ok (.aload_n 0, 1) := by decide +kernel
theorem dX9_comesTo_68 : decode cX9_comesTo 68 = .ok (.getfield 52, 3) := by decide +kernel
theorem dX9_comesTo_71 : decode cX9_comesTo 71 = .ok (.aload_n 0, 1) := by decide +kernel
theorem dX9_comesTo_72 : decode cX9_comesTo 72 = .ok (.getfield 35, 3) := by decide +kernel
theorem dX9_comesTo_75 : decode cX9_comesTo 75 = .ok (.getfield 169, 3) := by decide +kernel
theorem dX9_comesTo_78 : decode cX9_comesTo 78 = .ok (.iload_n 3, 1) := by decide +kernel
theorem dX9_comesTo_79 : decode cX9_comesTo 79 = .ok (.iadd, 1) := by decide +kernel
theorem dX9_comesTo_80 : decode cX9_comesTo 80 = .ok (.invokevirtual 307, 3) := by decide +kernel
theorem dX9_comesTo_83 : decode cX9_comesTo 83 = .ok (.iinc 3 1, 3) := by decide +kernel
theorem dX9_comesTo_86 : decode cX9_comesTo 86 = .ok (.goto (-43), 3) := by decide +kernel
theorem dX9_comesTo_89 : decode cX9_comesTo 89 = .ok (.iconst (-1), 1) := by decide +kernel
theorem dX9_comesTo_90 : decode cX9_comesTo 90 = .ok (.ireturn, 1) := by decide +kernel
theorem dX9_keeper_0 : decode cX9_keeper 0 = .ok (.iload_n 2, 1) := by decide +kernel
theorem dX9_keeper_1 : decode cX9_keeper 1 = .ok (.iconst (-1), 1) := by decide +kernel
theorem dX9_keeper_2 : decode cX9_keeper 2 = .ok (.if_icmp .ne 11, 3) := by decide +kernel
theorem dX9_keeper_5 : decode cX9_keeper 5 = .ok (.aload_n 0, 1) := by decide +kernel
theorem dX9_keeper_6 : decode cX9_keeper 6 = .ok (.iload_n 1, 1) := by decide +kernel
theorem dX9_keeper_7 : decode cX9_keeper 7 = .ok (.invokevirtual 314, 3) := by decide +kernel
theorem dX9_keeper_10 : decode cX9_keeper 10 = .ok (.goto 9, 3) := by decide +kernel
theorem dX9_keeper_13 : decode cX9_keeper 13 = .ok (.aload_n 0, 1) := by decide +kernel
theorem dX9_keeper_14 : decode cX9_keeper 14 = .ok (.iload_n 1, 1) := by decide +kernel
theorem dX9_keeper_15 : decode cX9_keeper 15 = .ok (.iload_n 2, 1) := by decide +kernel
theorem dX9_keeper_16 : decode cX9_keeper 16 = .ok (.invokevirtual 317, 3) := by decide +kernel
theorem dX9_keeper_19 : decode cX9_keeper 19 = .ok (.istore 5, 2) := by decide +kernel
theorem dX9_keeper_21 : decode cX9_keeper 21 = .ok (.iload 5, 2) := by decide +kernel
theorem dX9_keeper_23 : decode cX9_keeper 23 = .ok (.bipush (-2), 2) := by decide +kernel
theorem dX9_keeper_25 : decode cX9_keeper 25 = .ok (.if_icmp .ne 6, 3) := by decide +kernel
theorem dX9_keeper_28 : decode cX9_keeper 28 = .ok (.bipush (-2), 2) := by decide +kernel
theorem dX9_keeper_30 : decode cX9_keeper 30 = .ok (.ireturn, 1) := by decide +kernel
theorem dX9_keeper_31 : decode cX9_keeper 31 = .ok (.iload 4, 2) := by decide +kernel
theorem dX9_keeper_33 : decode cX9_keeper 33 = .ok (.ifCond .lt 10, 3) := by decide +kernel
theorem dX9_keeper_36 : decode cX9_keeper 36 = .ok (.iload 4, 2) := by decide +kernel
theorem dX9_keeper_38 : decode cX9_keeper 38 = .ok (.bipush 30, 2) := by decide +kernel
theorem dX9_keeper_40 : decode cX9_keeper 40 = .ok (.if_icmp .le 6, 3) := by decide +kernel
theorem dX9_keeper_43 : decode cX9_keeper 43 = .ok (.bipush (-3), 2) := by decide +kernel
theorem dX9_keeper_45 : decode cX9_keeper 45 = .ok (.ireturn, 1) := by decide +kernel
theorem dX9_keeper_46 : decode cX9_keeper 46 = .ok (.iload 5, 2) := by decide +kernel
theorem dX9_keeper_48 : decode cX9_keeper 48 = .ok (.ifCond .eq 6, 3) := by decide +kernel
theorem dX9_keeper_51 : decode cX9_keeper 51 = .ok (.iload 5, 2) := by decide +kernel
theorem dX9_keeper_53 : decode cX9_keeper 53 = .ok (.ireturn, 1) := by decide +kernel
theorem dX9_keeper_54 : decode cX9_keeper 54 = .ok (.aload_n 0, 1) := by decide +kernel
theorem dX9_keeper_55 : decode cX9_keeper 55 = .ok (.getfield 23, 3) := by decide +kernel
theorem dX9_keeper_58 : decode cX9_keeper 58 = .ok (.iload_n 1, 1) := by decide +kernel
theorem dX9_keeper_59 : decode cX9_keeper 59 = .ok (.iload_n 2, 1) := by decide +kernel
theorem dX9_keeper_60 : decode cX9_keeper 60 = .ok (.iload_n 3, 1) := by decide +kernel
theorem dX9_keeper_61 : decode cX9_keeper 61 = .ok (.aload_n 0, 1) := by decide +kernel
theorem dX9_keeper_62 : decode cX9_keeper 62 = .ok (.getfield 35, 3) := by decide +kernel
theorem dX9_keeper_65 : decode cX9_keeper 65 = .ok (.getfield 169, 3) := by decide +kernel
theorem dX9_keeper_68 : decode cX9_keeper 68 = .ok (.iload 4, 2) := by decide +kernel
theorem dX9_keeper_70 : decode cX9_keeper 70 = .ok (.iadd, 1) := by decide +kernel
theorem dX9_keeper_71 : decode cX9_keeper 71 = .ok (.invokevirtual 320, 3) := by decide +kernel
theorem dX9_keeper_74 : decode cX9_keeper 74 = .ok (.invokestatic 324, 3) := by decide +kernel
theorem dX9_keeper_77 : decode cX9_keeper 77 = .ok (.ireturn, 1) := by decide +kernel
theorem dX9_reaches_0 : decode cX9_reaches 0 = .ok (.aload_n 0, 1) := by decide +kernel
theorem dX9_reaches_1 : decode cX9_reaches 1 = .ok (.iload_n 1, 1) := by decide +kernel
theorem dX9_reaches_2 : decode cX9_reaches 2 = .ok (.iload_n 2, 1) := by decide +kernel
theorem dX9_reaches_3 : decode cX9_reaches 3 = .ok (.invokevirtual 317, 3) := by decide +kernel
theorem dX9_reaches_6 : decode cX9_reaches 6 = .ok (.istore 5, 2) := by decide +kernel
theorem dX9_reaches_8 : decode cX9_reaches 8 = .ok (.iload 5, 2) := by decide +kernel
theorem dX9_reaches_10 : decode cX9_reaches 10 = .ok (.bipush (-2), 2) := by decide +kernel
theorem dX9_reaches_12 : decode cX9_reaches 12 = .ok (.if_icmp .ne 6, 3) := by decide +kernel
theorem dX9_reaches_15 : decode cX9_reaches 15 = .ok (.bipush (-2), 2) := by decide +kernel
theorem dX9_reaches_17 : decode cX9_reaches 17 = .ok (.ireturn, 1) := by decide +kernel
theorem dX9_reaches_18 : decode cX9_reaches 18 = .ok (.iload 4, 2) := by decide +kernel
theorem dX9_reaches_20 : decode cX9_reaches 20 = .ok (.ifCond .lt 10, 3) := by decide +kernel
theorem dX9_reaches_23 : decode cX9_reaches 23 = .ok (.iload 4, 2) := by decide +kernel
theorem dX9_reaches_25 : decode cX9_reaches 25 = .ok (.bipush 30, 2) := by decide +kernel
theorem dX9_reaches_27 : decode cX9_reaches 27 = .ok (.if_icmp .le 6, 3) := by decide +kernel
theorem dX9_reaches_30 : decode cX9_reaches 30 = .ok (.bipush (-3), 2) := by decide +kernel
theorem dX9_reaches_32 : decode cX9_reaches 32 = .ok (.ireturn, 1) := by decide +kernel
theorem dX9_reaches_33 : decode cX9_reaches 33 = .ok (.iload 5, 2) := by decide +kernel
theorem dX9_reaches_35 : decode cX9_reaches 35 = .ok (.ifCond .eq 6, 3) := by decide +kernel
theorem dX9_reaches_38 : decode cX9_reaches 38 = .ok (.iload 5, 2) := by decide +kernel
theorem dX9_reaches_40 : decode cX9_reaches 40 = .ok (.ireturn, 1) := by decide +kernel
theorem dX9_reaches_41 : decode cX9_reaches 41 = .ok (.aload_n 0, 1) := by decide +kernel
theorem dX9_reaches_42 : decode cX9_reaches 42 = .ok (.getfield 23, 3) := by decide +kernel
theorem dX9_reaches_45 : decode cX9_reaches 45 = .ok (.iload_n 1, 1) := by decide +kernel
theorem dX9_reaches_46 : decode cX9_reaches 46 = .ok (.iload_n 2, 1) := by decide +kernel
theorem dX9_reaches_47 : decode cX9_reaches 47 = .ok (.iload_n 3, 1) := by decide +kernel
theorem dX9_reaches_48 : decode cX9_reaches 48 = .ok (.aload_n 0, 1) := by decide +kernel
theorem dX9_reaches_49 : decode cX9_reaches 49 = .ok (.getfield 35, 3) := by decide +kernel
theorem dX9_reaches_52 : decode cX9_reaches 52 = .ok (.getfield 169, 3) := by decide +kernel
theorem dX9_reaches_55 : decode cX9_reaches 55 = .ok (.iload 4, 2) := by decide +kernel
theorem dX9_reaches_57 : decode cX9_reaches 57 = .ok (.iadd, 1) := by decide +kernel
theorem dX9_reaches_58 : decode cX9_reaches 58 = .ok (.invokevirtual 320, 3) := by decide +kernel
theorem dX9_reaches_61 : decode cX9_reaches 61 = .ok (.istore 6, 2) := by decide +kernel
theorem dX9_reaches_63 : decode cX9_reaches 63 = .ok (.iload 6, 2) := by decide +kernel
theorem dX9_reaches_65 : decode cX9_reaches 65 = .ok (.invokestatic 324, 3) := by decide +kernel
theorem dX9_reaches_68 : decode cX9_reaches 68 = .ok (.iload_n 2, 1) := by decide +kernel
theorem dX9_reaches_69 : decode cX9_reaches 69 = .ok (.if_icmp .ne 14, 3) := by decide +kernel
theorem dX9_reaches_72 : decode cX9_reaches 72 = .ok (.iload 4, 2) := by decide +kernel
theorem dX9_reaches_74 : decode cX9_reaches 74 = .ok (.iload 6, 2) := by decide +kernel
theorem dX9_reaches_76 : decode cX9_reaches 76 = .ok (.invokestatic 327, 3) := by decide +kernel
theorem dX9_reaches_79 : decode cX9_reaches 79 = .ok (.iadd, 1) := by decide +kernel
theorem dX9_reaches_80 : decode cX9_reaches 80 = .ok (.goto 4, 3) := by decide +kernel
theorem dX9_reaches_83 : decode cX9_reaches 83 = .ok (.iconst (-1), 1) := by decide +kernel
theorem dX9_reaches_84 : decode cX9_reaches 84 = .ok (.ireturn, 1) := by decide +kernel
theorem dX9_pairCode_0 : decode cX9_pairCode 0 = .ok (.aload_n 0, 1) := by decide +kernel
theorem dX9_pairCode_1 : decode cX9_pairCode 1 = .ok (.getfield 31, 3) := by decide +kernel
theorem dX9_pairCode_4 : decode cX9_pairCode 4 = .ok (.iload_n 2, 1) := by decide +kernel
theorem dX9_pairCode_5 : decode cX9_pairCode 5 = .ok (.invokevirtual 140, 3) := by decide +kernel
theorem dX9_pairCode_8 : decode cX9_pairCode 8 = .ok (.ifCond .eq 8, 3) := by decide +kernel
theorem dX9_pairCode_11 : decode cX9_pairCode 11 = .ok (.iload_n 1, 1) := by decide +kernel
theorem dX9_pairCode_12 : decode cX9_pairCode 12 = .ok (.iload_n 2, 1) := by decide +kernel
theorem dX9_pairCode_13 : decode cX9_pairCode 13 = .ok (.if_icmp .ne 6, 3) := by decide +kernel
theorem dX9_pairCode_16 : decode cX9_pairCode 16 = .ok (.bipush (-2), 2) := by decide +kernel
theorem dX9_pairCode_18 : decode cX9_pairCode 18 = .ok (.ireturn, 1) := by decide +kernel
theorem dX9_pairCode_19 : decode cX9_pairCode 19 = .ok (.aload_n 0, 1) := by decide +kernel
theorem dX9_pairCode_20 : decode cX9_pairCode 20 = .ok (.iload_n 1, 1) := by decide +kernel
theorem dX9_pairCode_21 : decode cX9_pairCode 21 = .ok (.invokevirtual 314, 3) := by decide +kernel
theorem dX9_pairCode_24 : decode cX9_pairCode 24 = .ok (.ireturn, 1) := by decide +kernel
theorem dX9_throwerCode_0 : decode cX9_throwerCode 0 = .ok (.aload_n 0, 1) := by decide +kernel
theorem dX9_throwerCode_1 : decode cX9_throwerCode 1 = .ok (.getfield 31, 3) := by decide +kernel
theorem dX9_throwerCode_4 : decode cX9_throwerCode 4 = .ok (.iload_n 1, 1) := by decide +kernel
theorem dX9_throwerCode_5 : decode cX9_throwerCode 5 = .ok (.invokevirtual 140, 3) := by decide +kernel
theorem dX9_throwerCode_8 : decode cX9_throwerCode 8 = .ok (.ifCond .ne 6, 3) := by decide +kernel
theorem dX9_throwerCode_11 : decode cX9_throwerCode 11 = .ok (.bipush (-2), 2) := by decide +kernel
theorem dX9_throwerCode_13 : decode cX9_throwerCode 13 = .ok (.ireturn, 1) := by decide +kernel
theorem dX9_throwerCode_14 : decode cX9_throwerCode 14 = .ok (.aload_n 0, 1) := by decide +kernel
theorem dX9_throwerCode_15 : decode cX9_throwerCode 15 = .ok (.getfield 31, 3) := by decide +kernel
theorem dX9_throwerCode_18 : decode cX9_throwerCode 18 = .ok (.iload_n 1, 1) := by decide +kernel
theorem dX9_throwerCode_19 : decode cX9_throwerCode 19 = .ok (.invokevirtual 152, 3) := by decide +kernel
theorem dX9_throwerCode_22 : decode cX9_throwerCode 22 = .ok (.iconst (-1), 1) := by decide +kernel
theorem dX9_throwerCode_23 : decode cX9_throwerCode 23 = .ok (.if_icmp .ne 8, 3) := by decide +kernel
theorem dX9_throwerCode_26 : decode cX9_throwerCode 26 = .ok (.bipush (-5), 2) := by decide +kernel
theorem dX9_throwerCode_28 : decode cX9_throwerCode 28 = .ok (.goto 4, 3) := by decide +kernel
theorem dX9_throwerCode_31 : decode cX9_throwerCode 31 = .ok (.iconst 0, 1) := by decide +kernel
theorem dX9_throwerCode_32 : decode cX9_throwerCode 32 = .ok (.ireturn, 1) := by decide +kernel
theorem dX9_best_0 : decode cX9_best 0 = .ok (.aload_n 0, 1) := by decide +kernel
theorem dX9_best_1 : decode cX9_best 1 = .ok (.iload_n 1, 1) := by decide +kernel
theorem dX9_best_2 : decode cX9_best 2 = .ok (.iload_n 2, 1) := by decide +kernel
theorem dX9_best_3 : decode cX9_best 3 = .ok (.invokevirtual 317, 3) := by decide +kernel
theorem dX9_best_6 : decode cX9_best 6 = .ok (.istore 4, 2) := by decide +kernel
theorem dX9_best_8 : decode cX9_best 8 = .ok (.iload 4, 2) := by decide +kernel
theorem dX9_best_10 : decode cX9_best 10 = .ok (.bipush (-2), 2) := by decide +kernel
theorem dX9_best_12 : decode cX9_best 12 = .ok (.if_icmp .eq 12, 3) := by decide +kernel
theorem dX9_best_15 : decode cX9_best 15 = .ok (.iload_n 3, 1) := by decide +kernel
theorem dX9_best_16 : decode cX9_best 16 = .ok (.ifCond .lt 8, 3) := by decide +kernel
theorem dX9_best_19 : decode cX9_best 19 = .ok (.iload_n 3, 1) := by decide +kernel
theorem dX9_best_20 : decode cX9_best 20 = .ok (.iconst 2, 1) := by decide +kernel
theorem dX9_best_21 : decode cX9_best 21 = .ok (.if_icmp .le 6, 3) := by decide +kernel
theorem dX9_best_24 : decode cX9_best 24 = .ok (.bipush (-2), 2) := by decide +kernel
theorem dX9_best_26 : decode cX9_best 26 = .ok (.ireturn, 1) := by decide +kernel
theorem dX9_best_27 : decode cX9_best 27 = .ok (.iload 4, 2) := by decide +kernel
theorem dX9_best_29 : decode cX9_best 29 = .ok (.ifCond .eq 6, 3) := by decide +kernel
theorem dX9_best_32 : decode cX9_best 32 = .ok (.iload 4, 2) := by decide +kernel
theorem dX9_best_34 : decode cX9_best 34 = .ok (.ireturn, 1) := by decide +kernel
theorem dX9_best_35 : decode cX9_best 35 = .ok (.aload_n 0, 1) := by decide +kernel
theorem dX9_best_36 : decode cX9_best 36 = .ok (.getfield 23, 3) := by decide +kernel
theorem dX9_best_39 : decode cX9_best 39 = .ok (.iload_n 1, 1) := by decide +kernel
theorem dX9_best_40 : decode cX9_best 40 = .ok (.iload_n 2, 1) := by decide +kernel
theorem dX9_best_41 : decode cX9_best 41 = .ok (.aload_n 0, 1) := by decide +kernel
theorem dX9_best_42 : decode cX9_best 42 = .ok (.getfield 35, 3) := by decide +kernel
theorem dX9_best_45 : decode cX9_best 45 = .ok (.getfield 169, 3) := by decide +kernel
theorem dX9_best_48 : decode cX9_best 48 = .ok (.invokevirtual 330, 3) := by decide +kernel
theorem dX9_best_51 : decode cX9_best 51 = .ok (.istore 5, 2) := by decide +kernel
theorem dX9_best_53 : decode cX9_best 53 = .ok (.iload 5, 2) := by decide +kernel
theorem dX9_best_55 : decode cX9_best 55 = .ok (.iconst (-1), 1) := by decide +kernel
theorem dX9_best_56 : decode cX9_best 56 = .ok (.if_icmp .ne 5, 3) := by decide +kernel
theorem dX9_best_59 : decode cX9_best 59 = .ok (.iconst (-1), 1) := by decide +kernel
theorem dX9_best_60 : decode cX9_best 60 = .ok (.ireturn, 1) := by decide +kernel
theorem dX9_best_61 : decode cX9_best 61 = .ok (.iload_n 3, 1) := by decide +kernel
theorem dX9_best_62 : decode cX9_best 62 = .ok (.ifCond .ne 9, 3) := by decide +kernel
theorem dX9_best_65 : decode cX9_best 65 = .ok (.iload 5, 2) := by decide +kernel
theorem dX9_best_67 : decode cX9_best 67 = .ok (.invokestatic 333, 3) := by decide +kernel
theorem dX9_best_70 : decode cX9_best 70 = .ok (.ireturn, 1) := by decide +kernel
theorem dX9_best_71 : decode cX9_best 71 = .ok (.iload_n 3, 1) := by decide +kernel
theorem dX9_best_72 : decode cX9_best 72 = .ok (.iconst 1, 1) := by decide +kernel
theorem dX9_best_73 : decode cX9_best 73 = .ok (.if_icmp .ne 11, 3) := by decide +kernel
theorem dX9_best_76 : decode cX9_best 76 = .ok (.iload 5, 2) := by decide +kernel
theorem dX9_best_78 : decode cX9_best 78 = .ok (.invokestatic 336, 3) := by decide +kernel
theorem dX9_best_81 : decode cX9_best 81 = .ok (.goto 8, 3) := by decide +kernel
theorem dX9_best_84 : decode cX9_best 84 = .ok (.iload 5, 2) := by decide +kernel
theorem dX9_best_86 : decode cX9_best 86 = .ok (.invokestatic 339, 3) := by decide +kernel
theorem dX9_best_89 : decode cX9_best 89 = .ok (.ireturn, 1) := by decide +kernel
theorem dX9_reachers_0 : decode cX9_reachers 0 = .ok (.aload_n 0, 1) := by decide +kernel
theorem dX9_reachers_1 : decode cX9_reachers 1 = .ok (.getfield 31, 3) := by decide +kernel
theorem dX9_reachers_4 : decode cX9_reachers 4 = .ok (.iload_n 1, 1) := by decide +kernel
theorem dX9_reachers_5 : decode cX9_reachers 5 = .ok (.invokevirtual 140, 3) := by decide +kernel
theorem dX9_reachers_8 : decode cX9_reachers 8 = .ok (.ifCond .ne 6, 3) := by decide +kernel
theorem dX9_reachers_11 : decode cX9_reachers 11 = .ok (.bipush (-2), 2) := by decide +kernel
theorem dX9_reachers_13 : decode cX9_reachers 13 = .ok (.ireturn, 1) := by decide +kernel
theorem dX9_reachers_14 : decode cX9_reachers 14 = .ok (.iconst 0, 1) := by decide +kernel
theorem dX9_reachers_15 : decode cX9_reachers 15 = .ok (.istore_n 2, 1) := by decide +kernel
theorem dX9_reachers_16 : decode cX9_reachers 16 = .ok (.iconst 0, 1) := by decide +kernel
theorem dX9_reachers_17 : decode cX9_reachers 17 = .ok (.istore_n 3, 1) := by decide +kernel
theorem dX9_reachers_18 : decode cX9_reachers 18 = .ok (.iload_n 3, 1) := by decide +kernel
theorem dX9_reachers_19 : decode cX9_reachers 19 = .ok (.aload_n 0, 1) := by decide +kernel
theorem dX9_reachers_20 : decode cX9_reachers 20 = .ok (.getfield 31, 3) := by decide +kernel
theorem dX9_reachers_23 : decode cX9_reachers 23 = .ok (.getfield 286, 3) := by decide +kernel
theorem dX9_reachers_26 : decode cX9_reachers 26 = .ok (.if_icmp .ge 40, 3) := by decide +kernel
theorem dX9_reachers_29 : decode cX9_reachers 29 = .ok (.iload_n 3, 1) := by decide +kernel
theorem dX9_reachers_30 : decode cX9_reachers 30 = .ok (.iload_n 1, 1) := by decide +kernel
theorem dX9_reachers_31 : decode cX9_reachers 31 = .ok (.if_icmp .eq 29, 3) := by decide +kernel
theorem dX9_reachers_34 : decode cX9_reachers 34 = .ok (.aload_n 0, 1) := by decide +kernel
theorem dX9_reachers_35 : decode cX9_reachers 35 = .ok (.getfield 23, 3) := by decide +kernel
theorem dX9_reachers_38 : decode cX9_reachers 38 = .ok (.iload_n 3, 1) := by decide +kernel
theorem dX9_reachers_39 : decode cX9_reachers 39 = .ok (.iload_n 1, 1) := by decide +kernel
theorem dX9_reachers_40 : decode cX9_reachers 40 = .ok (.aload_n 0, 1) := by decide +kernel
theorem dX9_reachers_41 : decode cX9_reachers 41 = .ok (.getfield 35, 3) := by decide +kernel
theorem dX9_reachers_44 : decode cX9_reachers 44 = .ok (.getfield 169, 3) := by decide +kernel
theorem dX9_reachers_47 : decode cX9_reachers 47 = .ok (.invokevirtual 330, 3) := by decide +kernel
theorem dX9_reachers_50 : decode cX9_reachers 50 = .ok (.iconst (-1), 1) := by decide +kernel
theorem dX9_reachers_51 : decode cX9_reachers 51 = .ok (.if_icmp .eq 9, 3) := by decide +kernel
theorem dX9_reachers_54 : decode cX9_reachers 54 = .ok (.iload_n 2, 1) := by decide +kernel
theorem dX9_reachers_55 : decode cX9_reachers 55 = .ok (.iconst 1, 1) := by decide +kernel
theorem dX9_reachers_56 : decode cX9_reachers 56 = .ok (.iload_n 3, 1) := by decide +kernel
theorem dX9_reachers_57 : decode cX9_reachers 57 = .ok (.ishl, 1) := by decide +kernel
theorem dX9_reachers_58 : decode cX9_reachers 58 = .ok (.ior, 1) := by decide +kernel
theorem dX9_reachers_59 : decode cX9_reachers 59 = .ok (.istore_n 2, 1) := by decide +kernel
theorem dX9_reachers_60 : decode cX9_reachers 60 = .ok (.iinc 3 1, 3) := by decide +kernel
theorem dX9_reachers_63 : decode cX9_reachers 63 = .ok (.goto (-45), 3) := by decide +kernel
theorem dX9_reachers_66 : decode cX9_reachers 66 = .ok (.iload_n 2, 1) := by decide +kernel
theorem dX9_reachers_67 : decode cX9_reachers 67 = .ok (.ireturn, 1) := by decide +kernel
theorem dX9_relay_0 : decode cX9_relay 0 = .ok (.iload_n 3, 1) := by decide +kernel
theorem dX9_relay_1 : decode cX9_relay 1 = .ok (.ifCond .eq 20, 3) := by decide +kernel
theorem dX9_relay_4 : decode cX9_relay 4 = .ok (.iload_n 3, 1) := by decide +kernel
theorem dX9_relay_5 : decode cX9_relay 5 = .ok (.iconst 1, 1) := by decide +kernel
theorem dX9_relay_6 : decode cX9_relay 6 = .ok (.if_icmp .eq 15, 3) := by decide +kernel
theorem dX9_relay_9 : decode cX9_relay 9 = .ok (.iload_n 3, 1) := by decide +kernel
theorem dX9_relay_10 : decode cX9_relay 10 = .ok (.bipush 10, 2) := by decide +kernel
theorem dX9_relay_12 : decode cX9_relay 12 = .ok (.if_icmp .lt 13, 3) := by decide +kernel
theorem dX9_relay_15 : decode cX9_relay 15 = .ok (.iload_n 3, 1) := by decide +kernel
theorem dX9_relay_16 : decode cX9_relay 16 = .ok (.bipush 16, 2) := by decide +kernel
theorem dX9_relay_18 : decode cX9_relay 18 = .ok (.if_icmp .ge 7, 3) := by decide +kernel
theorem dX9_relay_21 : decode cX9_relay 21 = .ok (.iconst 1, 1) := by decide +kernel
theorem dX9_relay_22 : decode cX9_relay 22 = .ok (.goto 4, 3) := by decide +kernel
theorem dX9_relay_25 : decode cX9_relay 25 = .ok (.iconst 0, 1) := by decide +kernel
theorem dX9_relay_26 : decode cX9_relay 26 = .ok (.istore 4, 2) := by decide +kernel
theorem dX9_relay_28 : decode cX9_relay 28 = .ok (.aload_n 0, 1) := by decide +kernel
theorem dX9_relay_29 : decode cX9_relay 29 = .ok (.iload_n 1, 1) := by decide +kernel
theorem dX9_relay_30 : decode cX9_relay 30 = .ok (.iload_n 2, 1) := by decide +kernel
theorem dX9_relay_31 : decode cX9_relay 31 = .ok (.invokevirtual 317, 3) := by decide +kernel
theorem dX9_relay_34 : decode cX9_relay 34 = .ok (.bipush (-2), 2) := by decide +kernel
theorem dX9_relay_36 : decode cX9_relay 36 = .ok (.if_icmp .eq 8, 3) := by decide +kernel
theorem dX9_relay_39 : decode cX9_relay 39 = .ok (.iload 4, 2) := by decide +kernel
theorem dX9_relay_41 : decode cX9_relay 41 = .ok (.ifCond .ne 6, 3) := by decide +kernel
theorem dX9_relay_44 : decode cX9_relay 44 = .ok (.bipush (-2), 2) := by decide +kernel
theorem dX9_relay_46 : decode cX9_relay 46 = .ok (.ireturn, 1) := by decide +kernel
theorem dX9_relay_47 : decode cX9_relay 47 = .ok (.aload_n 0, 1) := by decide +kernel
theorem dX9_relay_48 : decode cX9_relay 48 = .ok (.getfield 59, 3) := by decide +kernel
theorem dX9_relay_51 : decode cX9_relay 51 = .ok (.iload_n 2, 1) := by decide +kernel
theorem dX9_relay_52 : decode cX9_relay 52 = .ok (.aload_n 0, 1) := by decide +kernel
theorem dX9_relay_53 : decode cX9_relay 53 = .ok (.getfield 35, 3) := by decide +kernel
theorem dX9_relay_56 : decode cX9_relay 56 = .ok (.getfield 169, 3) := by decide +kernel
theorem dX9_relay_59 : decode cX9_relay 59 = .ok (.invokevirtual 342, 3) := by decide +kernel
theorem dX9_relay_62 : decode cX9_relay 62 = .ok (.aload_n 0, 1) := by decide +kernel
theorem dX9_relay_63 : decode cX9_relay 63 = .ok (.getfield 59, 3) := by decide +kernel
theorem dX9_relay_66 : decode cX9_relay 66 = .ok (.aload_n 0, 1) := by decide +kernel
theorem dX9_relay_67 : decode cX9_relay 67 = .ok (.getfield 23, 3) := by decide +kernel
theorem dX9_relay_70 : decode cX9_relay 70 = .ok (.iload_n 1, 1) := by decide +kernel
theorem dX9_relay_71 : decode cX9_relay 71 = .ok (.iconst 0, 1) := by decide +kernel
theorem dX9_relay_72 : decode cX9_relay 72 = .ok (.iconst 0, 1) := by decide +kernel
theorem dX9_relay_73 : decode cX9_relay 73 = .ok (.iconst 1, 1) := by decide +kernel
theorem dX9_relay_74 : decode cX9_relay 74 = .ok (.iload_n 1, 1) := by decide +kernel
theorem dX9_relay_75 : decode cX9_relay 75 = .ok (.ishl, 1) := by decide +kernel
theorem dX9_relay_76 : decode cX9_relay 76 = .ok (.invokevirtual 346, 3) := by decide +kernel
theorem dX9_relay_79 : decode cX9_relay 79 = .ok (.aload_n 0, 1) := by decide +kernel
theorem dX9_relay_80 : decode cX9_relay 80 = .ok (.getfield 59, 3) := by decide +kernel
theorem dX9_relay_83 : decode cX9_relay 83 = .ok (.getfield 350, 3) := by decide +kernel
theorem dX9_relay_86 : decode cX9_relay 86 = .ok (.ifCond .ne 5, 3) := by decide +kernel
theorem dX9_relay_89 : decode cX9_relay 89 = .ok (.iconst (-1), 1) := by decide +kernel
theorem dX9_relay_90 : decode cX9_relay 90 = .ok (.ireturn, 1) := by decide +kernel
theorem dX9_relay_91 : decode cX9_relay 91 = .ok (.iload_n 3, 1) := by decide +kernel
theorem dX9_relay_92 : decode cX9_relay 92 = .ok (.ifCond .ne 11, 3) := by decide +kernel
theorem dX9_relay_95 : decode cX9_relay 95 = .ok (.aload_n 0, 1) := by decide +kernel
theorem dX9_relay_96 : decode cX9_relay 96 = .ok (.getfield 59, 3) := by decide +kernel
theorem dX9_relay_99 : decode cX9_relay 99 = .ok (.getfield 353, 3) := by decide +kernel
theorem dX9_relay_102 : decode cX9_relay 102 = .ok (.ireturn, 1) := by decide +kernel
theorem dX9_relay_103 : decode cX9_relay 103 = .ok (.iload_n 3, 1) := by decide +kernel
theorem dX9_relay_104 : decode cX9_relay 104 = .ok (.iconst 1, 1) := by decide +kernel
theorem dX9_relay_105 : decode cX9_relay 105 = .ok (.if_icmp .ne 13, 3) := by decide +kernel
theorem dX9_relay_108 : decode cX9_relay 108 = .ok (.aload_n 0, 1) := by decide +kernel
theorem dX9_relay_109 : decode cX9_relay 109 = .ok (.getfield 59, 3) := by decide +kernel
theorem dX9_relay_112 : decode cX9_relay 112 = .ok (.getfield 350, 3) := by decide +kernel
theorem dX9_relay_115 : decode cX9_relay 115 = .ok (.goto 14, 3) := by decide +kernel
theorem dX9_relay_118 : decode cX9_relay 118 = .ok (.aload_n 0, 1) := by decide +kernel
theorem dX9_relay_119 : decode cX9_relay 119 = .ok (.getfield 59, 3) := by decide +kernel
theorem dX9_relay_122 : decode cX9_relay 122 = .ok (.iload_n 3, 1) := by decide +kernel
theorem dX9_relay_123 : decode cX9_relay 123 = .ok (.bipush 10, 2) := by decide +kernel
theorem dX9_relay_125 : decode cX9_relay 125 = .ok (.isub, 1) := by decide +kernel
theorem dX9_relay_126 : decode cX9_relay 126 = .ok (.invokevirtual 356, 3) := by decide +kernel
theorem dX9_relay_129 : decode cX9_relay 129 = .ok (.ireturn, 1) := by decide +kernel
theorem dX9_keepers_0 : decode cX9_keepers 0 = .ok (.iload_n 1, 1) := by decide +kernel
theorem dX9_keepers_1 : decode cX9_keepers 1 = .ok (.ifCond .lt 9, 3) := by decide +kernel
theorem dX9_keepers_4 : decode cX9_keepers 4 = .ok (.iload_n 1, 1) := by decide +kernel
theorem dX9_keepers_5 : decode cX9_keepers 5 = .ok (.bipush 30, 2) := by decide +kernel
theorem dX9_keepers_7 : decode cX9_keepers 7 = .ok (.if_icmp .le 6, 3) := by decide +kernel
theorem dX9_keepers_10 : decode cX9_keepers 10 = .ok (.bipush (-3), 2) := by decide +kernel
theorem dX9_keepers_12 : decode cX9_keepers 12 = .ok (.ireturn, 1) := by decide +kernel
theorem dX9_keepers_13 : decode cX9_keepers 13 = .ok (.iconst 0, 1) := by decide +kernel
theorem dX9_keepers_14 : decode cX9_keepers 14 = .ok (.istore_n 2, 1) := by decide +kernel
theorem dX9_keepers_15 : decode cX9_keepers 15 = .ok (.iconst 0, 1) := by decide +kernel
theorem dX9_keepers_16 : decode cX9_keepers 16 = .ok (.istore_n 3, 1) := by decide +kernel
theorem dX9_keepers_17 : decode cX9_keepers 17 = .ok (.iload_n 3, 1) := by decide +kernel
theorem dX9_keepers_18 : decode cX9_keepers 18 = .ok (.aload_n 0, 1) := by decide +kernel
theorem dX9_keepers_19 : decode cX9_keepers 19 = .ok (.getfield 31, 3) := by decide +kernel
theorem dX9_keepers_22 : decode cX9_keepers 22 = .ok (.getfield 286, 3) := by decide +kernel
theorem dX9_keepers_25 : decode cX9_keepers 25 = .ok (.if_icmp .ge 46, 3) := by decide +kernel
theorem dX9_keepers_28 : decode cX9_keepers 28 = .ok (.aload_n 0, 1) := by decide +kernel
theorem dX9_keepers_29 : decode cX9_keepers 29 = .ok (.getfield 23, 3) := by decide +kernel
theorem dX9_keepers_32 : decode cX9_keepers 32 = .ok (.iload_n 3, 1) := by decide +kernel
theorem dX9_keepers_33 : decode cX9_keepers 33 = .ok (.iconst (-1), 1) := by decide +kernel
theorem dX9_keepers_34 : decode cX9_keepers 34 = .ok (.iconst 0, 1) := by decide +kernel
theorem dX9_keepers_35 : decode cX9_keepers 35 = .ok (.aload_n 0, 1) := by decide +kernel
theorem dX9_keepers_36 : decode cX9_keepers 36 = .ok (.getfield 35, 3) := by decide +kernel
theorem dX9_keepers_39 : decode cX9_keepers 39 = .ok (.getfield 169, 3) := by decide +kernel
theorem dX9_keepers_42 : decode cX9_keepers 42 = .ok (.iload_n 1, 1) := by decide +kernel
theorem dX9_keepers_43 : decode cX9_keepers 43 = .ok (.iadd, 1) := by decide +kernel
theorem dX9_keepers_44 : decode cX9_keepers 44 = .ok (.invokevirtual 320, 3) := by decide +kernel
theorem dX9_keepers_47 : decode cX9_keepers 47 = .ok (.invokestatic 324, 3) := by decide +kernel
theorem dX9_keepers_50 : decode cX9_keepers 50 = .ok (.istore 4, 2) := by decide +kernel
theorem dX9_keepers_52 : decode cX9_keepers 52 = .ok (.iload 4, 2) := by decide +kernel
theorem dX9_keepers_54 : decode cX9_keepers 54 = .ok (.iconst (-1), 1) := by decide +kernel
theorem dX9_keepers_55 : decode cX9_keepers 55 = .ok (.if_icmp .eq 10, 3) := by decide +kernel
theorem dX9_keepers_58 : decode cX9_keepers 58 = .ok (.iload_n 2, 1) := by decide +kernel
theorem dX9_keepers_59 : decode cX9_keepers 59 = .ok (.iconst 1, 1) := by decide +kernel
theorem dX9_keepers_60 : decode cX9_keepers 60 = .ok (.iload 4, 2) := by decide +kernel
theorem dX9_keepers_62 : decode cX9_keepers 62 = .ok (.ishl, 1) := by decide +kernel
theorem dX9_keepers_63 : decode cX9_keepers 63 = .ok (.ior, 1) := by decide +kernel
theorem dX9_keepers_64 : decode cX9_keepers 64 = .ok (.istore_n 2, 1) := by decide +kernel
theorem dX9_keepers_65 : decode cX9_keepers 65 = .ok (.iinc 3 1, 3) := by decide +kernel
theorem dX9_keepers_68 : decode cX9_keepers 68 = .ok (.goto (-51), 3) := by decide +kernel
theorem dX9_keepers_71 : decode cX9_keepers 71 = .ok (.iload_n 2, 1) := by decide +kernel
theorem dX9_keepers_72 : decode cX9_keepers 72 = .ok (.ireturn, 1) := by decide +kernel
theorem dX9_without_0 : decode cX9_without 0 = .ok (.aload_n 0, 1) := by decide +kernel
theorem dX9_without_1 : decode cX9_without 1 = .ok (.iload_n 1, 1) := by decide +kernel
theorem dX9_without_2 : decode cX9_without 2 = .ok (.iload_n 2, 1) := by decide +kernel
theorem dX9_without_3 : decode cX9_without 3 = .ok (.invokevirtual 317, 3) := by decide +kernel
theorem dX9_without_6 : decode cX9_without 6 = .ok (.istore 4, 2) := by decide +kernel
theorem dX9_without_8 : decode cX9_without 8 = .ok (.iload 4, 2) := by decide +kernel
theorem dX9_without_10 : decode cX9_without 10 = .ok (.bipush (-2), 2) := by decide +kernel
theorem dX9_without_12 : decode cX9_without 12 = .ok (.if_icmp .eq 24, 3) := by decide +kernel
theorem dX9_without_15 : decode cX9_without 15 = .ok (.aload_n 0, 1) := by decide +kernel
theorem dX9_without_16 : decode cX9_without 16 = .ok (.getfield 31, 3) := by decide +kernel
theorem dX9_without_19 : decode cX9_without 19 = .ok (.iload_n 3, 1) := by decide +kernel
theorem dX9_without_20 : decode cX9_without 20 = .ok (.invokevirtual 140, 3) := by decide +kernel
theorem dX9_without_23 : decode cX9_without 23 = .ok (.ifCond .eq 13, 3) := by decide +kernel
theorem dX9_without_26 : decode cX9_without 26 = .ok (.iload_n 3, 1) := by decide +kernel
theorem dX9_without_27 : decode cX9_without 27 = .ok (.iload_n 1, 1) := by decide +kernel
theorem dX9_without_28 : decode cX9_without 28 = .ok (.if_icmp .eq 8, 3) := by decide +kernel
theorem dX9_without_31 : decode cX9_without 31 = .ok (.iload_n 3, 1) := by decide +kernel
theorem dX9_without_32 : decode cX9_without 32 = .ok (.iload_n 2, 1) := by decide +kernel
theorem dX9_without_33 : decode cX9_without 33 = .ok (.if_icmp .ne 6, 3) := by decide +kernel
theorem dX9_without_36 : decode cX9_without 36 = .ok (.bipush (-2), 2) := by decide +kernel
theorem dX9_without_38 : decode cX9_without 38 = .ok (.ireturn, 1) := by decide +kernel
theorem dX9_without_39 : decode cX9_without 39 = .ok (.iload 4, 2) := by decide +kernel
theorem dX9_without_41 : decode cX9_without 41 = .ok (.ifCond .eq 6, 3) := by decide +kernel
theorem dX9_without_44 : decode cX9_without 44 = .ok (.iload 4, 2) := by decide +kernel
theorem dX9_without_46 : decode cX9_without 46 = .ok (.ireturn, 1) := by decide +kernel
theorem dX9_without_47 : decode cX9_without 47 = .ok (.aload_n 0, 1) := by decide +kernel
theorem dX9_without_48 : decode cX9_without 48 = .ok (.getfield 23, 3) := by decide +kernel
theorem dX9_without_51 : decode cX9_without 51 = .ok (.iload_n 1, 1) := by decide +kernel
theorem dX9_without_52 : decode cX9_without 52 = .ok (.iload_n 2, 1) := by decide +kernel
theorem dX9_without_53 : decode cX9_without 53 = .ok (.aload_n 0, 1) := by decide +kernel
theorem dX9_without_54 : decode cX9_without 54 = .ok (.getfield 35, 3) := by decide +kernel
theorem dX9_without_57 : decode cX9_without 57 = .ok (.getfield 169, 3) := by decide +kernel
theorem dX9_without_60 : decode cX9_without 60 = .ok (.invokevirtual 330, 3) := by decide +kernel
theorem dX9_without_63 : decode cX9_without 63 = .ok (.istore 5, 2) := by decide +kernel
theorem dX9_without_65 : decode cX9_without 65 = .ok (.iload 5, 2) := by decide +kernel
theorem dX9_without_67 : decode cX9_without 67 = .ok (.iconst (-1), 1) := by decide +kernel
theorem dX9_without_68 : decode cX9_without 68 = .ok (.if_icmp .ne 5, 3) := by decide +kernel
theorem dX9_without_71 : decode cX9_without 71 = .ok (.iconst (-1), 1) := by decide +kernel
theorem dX9_without_72 : decode cX9_without 72 = .ok (.ireturn, 1) := by decide +kernel
theorem dX9_without_73 : decode cX9_without 73 = .ok (.aload_n 0, 1) := by decide +kernel
theorem dX9_without_74 : decode cX9_without 74 = .ok (.getfield 23, 3) := by decide +kernel
theorem dX9_without_77 : decode cX9_without 77 = .ok (.iload_n 3, 1) := by decide +kernel
theorem dX9_without_78 : decode cX9_without 78 = .ok (.putfield 359, 3) := by decide +kernel
theorem dX9_without_81 : decode cX9_without 81 = .ok (.aload_n 0, 1) := by decide +kernel
theorem dX9_without_82 : decode cX9_without 82 = .ok (.getfield 23, 3) := by decide +kernel
theorem dX9_without_85 : decode cX9_without 85 = .ok (.iload_n 1, 1) := by decide +kernel
theorem dX9_without_86 : decode cX9_without 86 = .ok (.iload_n 2, 1) := by decide +kernel
theorem dX9_without_87 : decode cX9_without 87 = .ok (.aload_n 0, 1) := by decide +kernel
theorem dX9_without_88 : decode cX9_without 88 = .ok (.getfield 35, 3) := by decide +kernel
theorem dX9_without_91 : decode cX9_without 91 = .ok (.getfield 169, 3) := by decide +kernel
theorem dX9_without_94 : decode cX9_without 94 = .ok (.invokevirtual 330, 3) := by decide +kernel
theorem dX9_without_97 : decode cX9_without 97 = .ok (.istore 6, 2) := by decide +kernel
theorem dX9_without_99 : decode cX9_without 99 = .ok (.aload_n 0, 1) := by decide +kernel
theorem dX9_without_100 : decode cX9_without 100 = .ok (.getfield 23, 3) := by decide +kernel
theorem dX9_without_103 : decode cX9_without 103 = .ok (.iconst (-1), 1) := by decide +kernel
theorem dX9_without_104 : decode cX9_without 104 = .ok (.putfield 359, 3) := by decide +kernel
theorem dX9_without_107 : decode cX9_without 107 = .ok (.iload 6, 2) := by decide +kernel
theorem dX9_without_109 : decode cX9_without 109 = .ok (.iconst (-1), 1) := by decide +kernel
theorem dX9_without_110 : decode cX9_without 110 = .ok (.if_icmp .ne 7, 3) := by decide +kernel
theorem dX9_without_113 : decode cX9_without 113 = .ok (.iconst (-1), 1) := by decide +kernel
theorem dX9_without_114 : decode cX9_without 114 = .ok (.goto 14, 3) := by decide +kernel
theorem dX9_without_117 : decode cX9_without 117 = .ok (.iload 6, 2) := by decide +kernel
theorem dX9_without_119 : decode cX9_without 119 = .ok (.invokestatic 333, 3) := by decide +kernel
theorem dX9_without_122 : decode cX9_without 122 = .ok (.iload 5, 2) := by decide +kernel
theorem dX9_without_124 : decode cX9_without 124 = .ok (.invokestatic 333, 3) := by decide +kernel
theorem dX9_without_127 : decode cX9_without 127 = .ok (.isub, 1) := by decide +kernel
theorem dX9_without_128 : decode cX9_without 128 = .ok (.ireturn, 1) := by decide +kernel
theorem dX9_catches_0 : decode cX9_catches 0 = .ok (.aload_n 0, 1) := by decide +kernel
theorem dX9_catches_1 : decode cX9_catches 1 = .ok (.getfield 31, 3) := by decide +kernel
theorem dX9_catches_4 : decode cX9_catches 4 = .ok (.iload_n 1, 1) := by decide +kernel
theorem dX9_catches_5 : decode cX9_catches 5 = .ok (.invokevirtual 132, 3) := by decide +kernel
theorem dX9_catches_8 : decode cX9_catches 8 = .ok (.ifCond .ne 6, 3) := by decide +kernel
theorem dX9_catches_11 : decode cX9_catches 11 = .ok (.bipush (-2), 2) := by decide +kernel
theorem dX9_catches_13 : decode cX9_catches 13 = .ok (.ireturn, 1) := by decide +kernel
theorem dX9_catches_14 : decode cX9_catches 14 = .ok (.iload_n 2, 1) := by decide +kernel
theorem dX9_catches_15 : decode cX9_catches 15 = .ok (.iconst 1, 1) := by decide +kernel
theorem dX9_catches_16 : decode cX9_catches 16 = .ok (.if_icmp .lt 9, 3) := by decide +kernel
theorem dX9_catches_19 : decode cX9_catches 19 = .ok (.iload_n 2, 1) := by decide +kernel
theorem dX9_catches_20 : decode cX9_catches 20 = .ok (.bipush 60, 2) := by decide +kernel
theorem dX9_catches_22 : decode cX9_catches 22 = .ok (.if_icmp .le 6, 3) := by decide +kernel
theorem dX9_catches_25 : decode cX9_catches 25 = .ok (.bipush (-3), 2) := by decide +kernel
theorem dX9_catches_27 : decode cX9_catches 27 = .ok (.ireturn, 1) := by decide +kernel
theorem dX9_catches_28 : decode cX9_catches 28 = .ok (.aload_n 0, 1) := by decide +kernel
theorem dX9_catches_29 : decode cX9_catches 29 = .ok (.getfield 31, 3) := by decide +kernel
theorem dX9_catches_32 : decode cX9_catches 32 = .ok (.iload_n 1, 1) := by decide +kernel
theorem dX9_catches_33 : decode cX9_catches 33 = .ok (.invokevirtual 229, 3) := by decide +kernel
theorem dX9_catches_36 : decode cX9_catches 36 = .ok (.ifCond .ne 6, 3) := by decide +kernel
theorem dX9_catches_39 : decode cX9_catches 39 = .ok (.bipush (-5), 2) := by decide +kernel
theorem dX9_catches_41 : decode cX9_catches 41 = .ok (.ireturn, 1) := by decide +kernel
theorem dX9_catches_42 : decode cX9_catches 42 = .ok (.aload_n 0, 1) := by decide +kernel
theorem dX9_catches_43 : decode cX9_catches 43 = .ok (.iload_n 2, 1) := by decide +kernel
theorem dX9_catches_44 : decode cX9_catches 44 = .ok (.invokevirtual 362, 3) := by decide +kernel
theorem dX9_catches_47 : decode cX9_catches 47 = .ok (.aload_n 0, 1) := by decide +kernel
theorem dX9_catches_48 : decode cX9_catches 48 = .ok (.iload_n 1, 1) := by decide +kernel
theorem dX9_catches_49 : decode cX9_catches 49 = .ok (.invokevirtual 365, 3) := by decide +kernel
theorem dX9_catches_52 : decode cX9_catches 52 = .ok (.ireturn, 1) := by decide +kernel
theorem dX9_net_0 : decode cX9_net 0 = .ok (.iload_n 2, 1) := by decide +kernel
theorem dX9_net_1 : decode cX9_net 1 = .ok (.ifCond .lt 8, 3) := by decide +kernel
theorem dX9_net_4 : decode cX9_net 4 = .ok (.iload_n 2, 1) := by decide +kernel
theorem dX9_net_5 : decode cX9_net 5 = .ok (.iconst 1, 1) := by decide +kernel
theorem dX9_net_6 : decode cX9_net 6 = .ok (.if_icmp .le 6, 3) := by decide +kernel
theorem dX9_net_9 : decode cX9_net 9 = .ok (.bipush (-2), 2) := by decide +kernel
theorem dX9_net_11 : decode cX9_net 11 = .ok (.ireturn, 1) := by decide +kernel
theorem dX9_net_12 : decode cX9_net 12 = .ok (.iload_n 1, 1) := by decide +kernel
theorem dX9_net_13 : decode cX9_net 13 = .ok (.iconst 1, 1) := by decide +kernel
theorem dX9_net_14 : decode cX9_net 14 = .ok (.if_icmp .lt 9, 3) := by decide +kernel
theorem dX9_net_17 : decode cX9_net 17 = .ok (.iload_n 1, 1) := by decide +kernel
theorem dX9_net_18 : decode cX9_net 18 = .ok (.bipush 60, 2) := by decide +kernel
theorem dX9_net_20 : decode cX9_net 20 = .ok (.if_icmp .le 6, 3) := by decide +kernel
theorem dX9_net_23 : decode cX9_net 23 = .ok (.bipush (-3), 2) := by decide +kernel
theorem dX9_net_25 : decode cX9_net 25 = .ok (.ireturn, 1) := by decide +kernel
theorem dX9_net_26 : decode cX9_net 26 = .ok (.aload_n 0, 1) := by decide +kernel
theorem dX9_net_27 : decode cX9_net 27 = .ok (.iload_n 1, 1) := by decide +kernel
theorem dX9_net_28 : decode cX9_net 28 = .ok (.invokevirtual 362, 3) := by decide +kernel
theorem dX9_net_31 : decode cX9_net 31 = .ok (.iconst (-1), 1) := by decide +kernel
theorem dX9_net_32 : decode cX9_net 32 = .ok (.istore_n 3, 1) := by decide +kernel
theorem dX9_net_33 : decode cX9_net 33 = .ok (.iconst (-1), 1) := by decide +kernel
theorem dX9_net_34 : decode cX9_net 34 = .ok (.istore 4, 2) := by decide +kernel
theorem dX9_net_36 : decode cX9_net 36 = .ok (.iconst 0, 1) := by decide +kernel
theorem dX9_net_37 : decode cX9_net 37 = .ok (.istore 5, 2) := by decide +kernel
theorem dX9_net_39 : decode cX9_net 39 = .ok (.iload 5, 2) := by decide +kernel
theorem dX9_net_41 : decode cX9_net 41 = .ok (.aload_n 0, 1) := by decide +kernel
theorem dX9_net_42 : decode cX9_net 42 = .ok (.getfield 31, 3) := by decide +kernel
theorem dX9_net_45 : decode cX9_net 45 = .ok (.invokevirtual 368, 3) := by decide +kernel
theorem dX9_net_48 : decode cX9_net 48 = .ok (.if_icmp .ge 50, 3) := by decide +kernel
theorem dX9_net_51 : decode cX9_net 51 = .ok (.aload_n 0, 1) := by decide +kernel
theorem dX9_net_52 : decode cX9_net 52 = .ok (.getfield 31, 3) := by decide +kernel
theorem dX9_net_55 : decode cX9_net 55 = .ok (.iload 5, 2) := by decide +kernel
theorem dX9_net_57 : decode cX9_net 57 = .ok (.invokevirtual 229, 3) := by decide +kernel
theorem dX9_net_60 : decode cX9_net 60 = .ok (.ifCond .eq 15, 3) := by decide +kernel
theorem dX9_net_63 : decode cX9_net 63 = .ok (.aload_n 0, 1) := by decide +kernel
theorem dX9_net_64 : decode cX9_net 64 = .ok (.iload 5, 2) := by decide +kernel
theorem dX9_net_66 : decode cX9_net 66 = .ok (.invokevirtual 365, 3) := by decide +kernel
theorem dX9_net_69 : decode cX9_net 69 = .ok (.invokestatic 371, 3) := by decide +kernel
theorem dX9_net_72 : decode cX9_net 72 = .ok (.goto 4, 3) := by decide +kernel
theorem dX9_net_75 : decode cX9_net 75 = .ok (.iconst (-1), 1) := by decide +kernel
theorem dX9_net_76 : decode cX9_net 76 = .ok (.istore 6, 2) := by decide +kernel
theorem dX9_net_78 : decode cX9_net 78 = .ok (.iload 6, 2) := by decide +kernel
theorem dX9_net_80 : decode cX9_net 80 = .ok (.iload 4, 2) := by decide +kernel
theorem dX9_net_82 : decode cX9_net 82 = .ok (.if_icmp .le 10, 3) := by decide +kernel
theorem dX9_net_85 : decode cX9_net 85 = .ok (.iload 6, 2) := by decide +kernel
theorem dX9_net_87 : decode cX9_net 87 = .ok (.istore 4, 2) := by decide +kernel
theorem dX9_net_89 : decode cX9_net 89 = .ok (.iload 5, 2) := by decide +kernel
theorem dX9_net_91 : decode cX9_net 91 = .ok (.istore_n 3, 1) := by decide +kernel
theorem dX9_net_92 : decode cX9_net 92 = .ok (.iinc 5 1, 3) := by decide +kernel
theorem dX9_net_95 : decode cX9_net 95 = .ok (.goto (-56), 3) := by decide +kernel
theorem dX9_net_98 : decode cX9_net 98 = .ok (.iload_n 2, 1) := by decide +kernel
theorem dX9_net_99 : decode cX9_net 99 = .ok (.ifCond .ne 7, 3) := by decide +kernel
theorem dX9_net_102 : decode cX9_net 102 = .ok (.iload_n 3, 1) := by decide +kernel
theorem dX9_net_103 : decode cX9_net 103 = .ok (.goto 5, 3) := by decide +kernel
theorem dX9_net_106 : decode cX9_net 106 = .ok (.iload 4, 2) := by decide +kernel
theorem dX9_net_108 : decode cX9_net 108 = .ok (.ireturn, 1) := by decide +kernel
theorem dX9_calm_0 : decode cX9_calm 0 = .ok (.iload_n 1, 1) := by decide +kernel
theorem dX9_calm_1 : decode cX9_calm 1 = .ok (.iconst 1, 1) := by decide +kernel
theorem dX9_calm_2 : decode cX9_calm 2 = .ok (.if_icmp .lt 9, 3) := by decide +kernel
theorem dX9_calm_5 : decode cX9_calm 5 = .ok (.iload_n 1, 1) := by decide +kernel
theorem dX9_calm_6 : decode cX9_calm 6 = .ok (.bipush 60, 2) := by decide +kernel
theorem dX9_calm_8 : decode cX9_calm 8 = .ok (.if_icmp .le 7, 3) := by decide +kernel
theorem dX9_calm_11 : decode cX9_calm 11 = .ok (.ldc2_w 376, 3) := by decide +kernel
theorem dX9_calm_14 : decode cX9_calm 14 = .ok (.lreturn, 1) := by decide +kernel
theorem dX9_calm_15 : decode cX9_calm 15 = .ok (.aload_n 0, 1) := by decide +kernel
theorem dX9_calm_16 : decode cX9_calm 16 = .ok (.iload_n 1, 1) := by decide +kernel
theorem dX9_calm_17 : decode cX9_calm 17 = .ok (.invokevirtual 362, 3) := by decide +kernel
theorem dX9_calm_20 : decode cX9_calm 20 = .ok (.lconst 0, 1) := by decide +kernel
theorem dX9_calm_21 : decode cX9_calm 21 = .ok (.lstore_n 2, 1) := by decide +kernel
theorem dX9_calm_22 : decode cX9_calm 22 = .ok (.iconst 0, 1) := by decide +kernel
theorem dX9_calm_23 : decode cX9_calm 23 = .ok (.istore 4, 2) := by decide +kernel
theorem dX9_calm_25 : decode cX9_calm 25 = .ok (.iload 4, 2) := by decide +kernel
theorem dX9_calm_27 : decode cX9_calm 27 = .ok (.aload_n 0, 1) := by decide +kernel
theorem dX9_calm_28 : decode cX9_calm 28 = .ok (.getfield 31, 3) := by decide +kernel
theorem dX9_calm_31 : decode cX9_calm 31 = .ok (.invokevirtual 368, 3) := by decide +kernel
theorem dX9_calm_34 : decode cX9_calm 34 = .ok (.if_icmp .ge 28, 3) := by decide +kernel
theorem dX9_calm_37 : decode cX9_calm 37 = .ok (.aload_n 0, 1) := by decide +kernel
theorem dX9_calm_38 : decode cX9_calm 38 = .ok (.getfield 31, 3) := by decide +kernel
theorem dX9_calm_41 : decode cX9_calm 41 = .ok (.iload 4, 2) := by decide +kernel
theorem dX9_calm_43 : decode cX9_calm 43 = .ok (.invokevirtual 229, 3) := by decide +kernel
theorem dX9_calm_46 : decode cX9_calm 46 = .ok (.ifCond .eq 10, 3) := by decide +kernel
theorem dX9_calm_49 : decode cX9_calm 49 = .ok (.lload_n 2, 1) := by decide +kernel
theorem dX9_calm_50 : decode cX9_calm 50 = .ok (.lconst 1, 1) := by decide +kernel
theorem dX9_calm_51 : decode cX9_calm 51 = .ok (.iload 4, 2) := by decide +kernel
theorem dX9_calm_53 : decode cX9_calm 53 = .ok (.lshl, 1) := by decide +kernel
theorem dX9_calm_54 : decode cX9_calm 54 = .ok (.lor, 1) := by decide +kernel
theorem dX9_calm_55 : decode cX9_calm 55 = .ok (.lstore_n 2, 1) := by decide +kernel
theorem dX9_calm_56 : decode cX9_calm 56 = .ok (.iinc 4 1, 3) := by decide +kernel
theorem dX9_calm_59 : decode cX9_calm 59 = .ok (.goto (-34), 3) := by decide +kernel
theorem dX9_calm_62 : decode cX9_calm 62 = .ok (.iconst 0, 1) := by decide +kernel
theorem dX9_calm_63 : decode cX9_calm 63 = .ok (.istore 4, 2) := by decide +kernel
theorem dX9_calm_65 : decode cX9_calm 65 = .ok (.iload 4, 2) := by decide +kernel
theorem dX9_calm_67 : decode cX9_calm 67 = .ok (.aload_n 0, 1) := by decide +kernel
theorem dX9_calm_68 : decode cX9_calm 68 = .ok (.getfield 70, 3) := by decide +kernel
theorem dX9_calm_71 : decode cX9_calm 71 = .ok (.arraylength, 1) := by decide +kernel
theorem dX9_calm_72 : decode cX9_calm 72 = .ok (.if_icmp .ge 51, 3) := by decide +kernel
theorem dX9_calm_75 : decode cX9_calm 75 = .ok (.aload_n 0, 1) := by decide +kernel
theorem dX9_calm_76 : decode cX9_calm 76 = .ok (.getfield 35, 3) := by decide +kernel
theorem dX9_calm_79 : decode cX9_calm 79 = .ok (.iload 4, 2) := by decide +kernel
theorem dX9_calm_81 : decode cX9_calm 81 = .ok (.invokevirtual 175, 3) := by decide +kernel
theorem dX9_calm_84 : decode cX9_calm 84 = .ok (.ifCond .eq 33, 3) := by decide +kernel
theorem dX9_calm_87 : decode cX9_calm 87 = .ok (.aload_n 0, 1) := by decide +kernel
theorem dX9_calm_88 : decode cX9_calm 88 = .ok (.getfield 35, 3) := by decide +kernel
theorem dX9_calm_91 : decode cX9_calm 91 = .ok (.getfield 178, 3) := by decide +kernel
theorem dX9_calm_94 : decode cX9_calm 94 = .ok (.iload 4, 2) := by decide +kernel
theorem dX9_calm_96 : decode cX9_calm 96 = .ok (.aaload, 1) := by decide +kernel
theorem dX9_calm_97 : decode cX9_calm 97 = .ok (.getfield 182, 3) := by decide +kernel
theorem dX9_calm_100 : decode cX9_calm 100 = .ok (.ifCond .ne 17, 3) := by decide +kernel
theorem dX9_calm_103 : decode cX9_calm 103 = .ok (.lload_n 2, 1) := by decide +kernel
theorem dX9_calm_104 : decode cX9_calm 104 = .ok (.aload_n 0, 1) := by decide +kernel
theorem dX9_calm_105 : decode cX9_calm 105 = .ok (.getfield 70, 3) := by decide +kernel
theorem dX9_calm_108 : decode cX9_calm 108 = .ok (.iload 4, 2) := by decide +kernel
theorem dX9_calm_110 : decode cX9_calm 110 = .ok (.laload, 1) := by decide +kernel
theorem dX9_calm_111 : decode cX9_calm 111 = .ok (.ldc2_w 279, 3) := by decide +kernel
theorem dX9_calm_114 : decode cX9_calm 114 = .ok (.lxor, 1) := by decide +kernel
theorem dX9_calm_115 : decode cX9_calm 115 = .ok (.land, 1) := by decide +kernel
theorem dX9_calm_116 : decode cX9_calm 116 = .ok (.lstore_n 2, 1) := by decide +kernel
theorem dX9_calm_117 : decode cX9_calm 117 = .ok (.iinc 4 1, 3) := by decide +kernel
theorem dX9_calm_120 : decode cX9_calm 120 = .ok (.goto (-55), 3) := by decide +kernel
theorem dX9_calm_123 : decode cX9_calm 123 = .ok (.lload_n 2, 1) := by decide +kernel
theorem dX9_calm_124 : decode cX9_calm 124 = .ok (.lreturn, 1) := by decide +kernel
theorem dX9_followAll_0 : decode cX9_followAll 0 = .ok (.iconst 0, 1) := by decide +kernel
theorem dX9_followAll_1 : decode cX9_followAll 1 = .ok (.istore_n 2, 1) := by decide +kernel
theorem dX9_followAll_2 : decode cX9_followAll 2 = .ok (.iload_n 2, 1) := by decide +kernel
theorem dX9_followAll_3 : decode cX9_followAll 3 = .ok (.aload_n 0, 1) := by decide +kernel
theorem dX9_followAll_4 : decode cX9_followAll 4 = .ok (.getfield 70, 3) := by decide +kernel
theorem dX9_followAll_7 : decode cX9_followAll 7 = .ok (.arraylength, 1) := by decide +kernel
theorem dX9_followAll_8 : decode cX9_followAll 8 = .ok (.if_icmp .ge 68, 3) := by decide +kernel
theorem dX9_followAll_11 : decode cX9_followAll 11 = .ok (.aload_n 0, 1) := by decide +kernel
theorem dX9_followAll_12 : decode cX9_followAll 12 = .ok (.getfield 70, 3) := by decide +kernel
theorem dX9_followAll_15 : decode cX9_followAll 15 = .ok (.iload_n 2, 1) := by decide +kernel
theorem dX9_followAll_16 : decode cX9_followAll 16 = .ok (.lconst 0, 1) := by decide +kernel
theorem dX9_followAll_17 : decode cX9_followAll 17 = .ok (.lastore, 1) := by decide +kernel
theorem dX9_followAll_18 : decode cX9_followAll 18 = .ok (.aload_n 0, 1) := by decide +kernel
theorem dX9_followAll_19 : decode cX9_followAll 19 = .ok (.getfield 35, 3) := by decide +kernel
theorem dX9_followAll_22 : decode cX9_followAll 22 = .ok (.iload_n 2, 1) := by decide +kernel
theorem dX9_followAll_23 : decode cX9_followAll 23 = .ok (.invokevirtual 175, 3) := by decide +kernel
theorem dX9_followAll_26 : decode cX9_followAll 26 = .ok (.ifCond .eq 44, 3) := by decide +kernel
theorem dX9_followAll_29 : decode cX9_followAll 29 = .ok (.aload_n 0, 1) := by decide +kernel
theorem dX9_followAll_30 : decode cX9_followAll 30 = .ok (.getfield 52, 3) := by decide +kernel
theorem dX9_followAll_33 : decode cX9_followAll 33 = .ok (.aload_n 0, 1) := by decide +kernel
theorem dX9_followAll_34 : decode cX9_followAll 34 = .ok (.getfield 35, 3) := by decide +kernel
theorem dX9_followAll_37 : decode cX9_followAll 37 = .ok (.getfield 178, 3) := by decide +kernel
theorem dX9_followAll_40 : decode cX9_followAll 40 = .ok (.iload_n 2, 1) := by decide +kernel
theorem dX9_followAll_41 : decode cX9_followAll 41 = .ok (.aaload, 1) := by decide +kernel
theorem dX9_followAll_42 : decode cX9_followAll 42 = .ok (.invokevirtual 300, 3) := by decide +kernel
theorem dX9_followAll_45 : decode cX9_followAll 45 = .ok (.aload_n 0, 1) := by decide +kernel
theorem dX9_followAll_46 : decode cX9_followAll 46 = .ok (.getfield 70, 3) := by decide +kernel
theorem dX9_followAll_49 : decode cX9_followAll 49 = .ok (.iload_n 2, 1) := by decide +kernel
theorem dX9_followAll_50 : decode cX9_followAll 50 = .ok (.aload_n 0, 1) := by decide +kernel
theorem dX9_followAll_51 : decode cX9_followAll 51 = .ok (.getfield 23, 3) := by decide +kernel
theorem dX9_followAll_54 : decode cX9_followAll 54 = .ok (.aload_n 0, 1) := by decide +kernel
theorem dX9_followAll_55 : decode cX9_followAll 55 = .ok (.getfield 52, 3) := by decide +kernel
theorem dX9_followAll_58 : decode cX9_followAll 58 = .ok (.aload_n 0, 1) := by decide +kernel
theorem dX9_followAll_59 : decode cX9_followAll 59 = .ok (.getfield 35, 3) := by decide +kernel
theorem dX9_followAll_62 : decode cX9_followAll 62 = .ok (.getfield 169, 3) := by decide +kernel
theorem dX9_followAll_65 : decode cX9_followAll 65 = .ok (.iload_n 1, 1) := by decide +kernel
theorem dX9_followAll_66 : decode cX9_followAll 66 = .ok (.invokevirtual 378, 3) := by decide +kernel
theorem dX9_followAll_69 : decode cX9_followAll 69 = .ok (.lastore, 1) := by decide +kernel
theorem dX9_followAll_70 : decode cX9_followAll 70 = .ok (.iinc 2 1, 3) := by decide +kernel
theorem dX9_followAll_73 : decode cX9_followAll 73 = .ok (.goto (-71), 3) := by decide +kernel
theorem dX9_followAll_76 : decode cX9_followAll 76 = .ok (.return_, 1) := by decide +kernel
theorem dX9_caughtOn_0 : decode cX9_caughtOn 0 = .ok (.iconst 0, 1) := by decide +kernel
theorem dX9_caughtOn_1 : decode cX9_caughtOn 1 = .ok (.istore_n 2, 1) := by decide +kernel
theorem dX9_caughtOn_2 : decode cX9_caughtOn 2 = .ok (.iconst 0, 1) := by decide +kernel
theorem dX9_caughtOn_3 : decode cX9_caughtOn 3 = .ok (.istore_n 3, 1) := by decide +kernel
theorem dX9_caughtOn_4 : decode cX9_caughtOn 4 = .ok (.iload_n 3, 1) := by decide +kernel
theorem dX9_caughtOn_5 : decode cX9_caughtOn 5 = .ok (.aload_n 0, 1) := by decide +kernel
theorem dX9_caughtOn_6 : decode cX9_caughtOn 6 = .ok (.getfield 70, 3) := by decide +kernel
theorem dX9_caughtOn_9 : decode cX9_caughtOn 9 = .ok (.arraylength, 1) := by decide +kernel
theorem dX9_caughtOn_10 : decode cX9_caughtOn 10 = .ok (.if_icmp .ge 30, 3) := by decide +kernel
theorem dX9_caughtOn_13 : decode cX9_caughtOn 13 = .ok (.aload_n 0, 1) := by decide +kernel
theorem dX9_caughtOn_14 : decode cX9_caughtOn 14 = .ok (.getfield 70, 3) := by decide +kernel
theorem dX9_caughtOn_17 : decode cX9_caughtOn 17 = .ok (.iload_n 3, 1) := by decide +kernel
theorem dX9_caughtOn_18 : decode cX9_caughtOn 18 = .ok (.laload, 1) := by decide +kernel
theorem dX9_caughtOn_19 : decode cX9_caughtOn 19 = .ok (.iload_n 1, 1) := by decide +kernel
theorem dX9_caughtOn_20 : decode cX9_caughtOn 20 = .ok (.lshr, 1) := by decide +kernel
theorem dX9_caughtOn_21 : decode cX9_caughtOn 21 = .ok (.lconst 1, 1) := by decide +kernel
theorem dX9_caughtOn_22 : decode cX9_caughtOn 22 = .ok (.land, 1) := by decide +kernel
theorem dX9_caughtOn_23 : decode cX9_caughtOn 23 = .ok (.lconst 0, 1) := by decide +kernel
theorem dX9_caughtOn_24 : decode cX9_caughtOn 24 = .ok (.lcmp, 1) := by decide +kernel
theorem dX9_caughtOn_25 : decode cX9_caughtOn 25 = .ok (.ifCond .eq 9, 3) := by decide +kernel
theorem dX9_caughtOn_28 : decode cX9_caughtOn 28 = .ok (.iload_n 2, 1) := by decide +kernel
theorem dX9_caughtOn_29 : decode cX9_caughtOn 29 = .ok (.iconst 1, 1) := by decide +kernel
theorem dX9_caughtOn_30 : decode cX9_caughtOn 30 = .ok (.iload_n 3, 1) := by decide +kernel
theorem dX9_caughtOn_31 : decode cX9_caughtOn 31 = .ok (.ishl, 1) := by decide +kernel
theorem dX9_caughtOn_32 : decode cX9_caughtOn 32 = .ok (.ior, 1) := by decide +kernel
theorem dX9_caughtOn_33 : decode cX9_caughtOn 33 = .ok (.istore_n 2, 1) := by decide +kernel
theorem dX9_caughtOn_34 : decode cX9_caughtOn 34 = .ok (.iinc 3 1, 3) := by decide +kernel
theorem dX9_caughtOn_37 : decode cX9_caughtOn 37 = .ok (.goto (-33), 3) := by decide +kernel
theorem dX9_caughtOn_40 : decode cX9_caughtOn 40 = .ok (.iload_n 2, 1) := by decide +kernel
theorem dX9_caughtOn_41 : decode cX9_caughtOn 41 = .ok (.ireturn, 1) := by decide +kernel
theorem dX9_deadly_0 : decode cX9_deadly 0 = .ok (.lconst 0, 1) := by decide +kernel
theorem dX9_deadly_1 : decode cX9_deadly 1 = .ok (.lstore_n 2, 1) := by decide +kernel
theorem dX9_deadly_2 : decode cX9_deadly 2 = .ok (.iconst 0, 1) := by decide +kernel
theorem dX9_deadly_3 : decode cX9_deadly 3 = .ok (.istore 4, 2) := by decide +kernel
theorem dX9_deadly_5 : decode cX9_deadly 5 = .ok (.iload 4, 2) := by decide +kernel
theorem dX9_deadly_7 : decode cX9_deadly 7 = .ok (.aload_n 0, 1) := by decide +kernel
theorem dX9_deadly_8 : decode cX9_deadly 8 = .ok (.getfield 31, 3) := by decide +kernel
theorem dX9_deadly_11 : decode cX9_deadly 11 = .ok (.invokevirtual 368, 3) := by decide +kernel
theorem dX9_deadly_14 : decode cX9_deadly 14 = .ok (.if_icmp .ge 70, 3) := by decide +kernel
theorem dX9_deadly_17 : decode cX9_deadly 17 = .ok (.aload_n 0, 1) := by decide +kernel
theorem dX9_deadly_18 : decode cX9_deadly 18 = .ok (.getfield 31, 3) := by decide +kernel
theorem dX9_deadly_21 : decode cX9_deadly 21 = .ok (.iload 4, 2) := by decide +kernel
theorem dX9_deadly_23 : decode cX9_deadly 23 = .ok (.invokevirtual 229, 3) := by decide +kernel
theorem dX9_deadly_26 : decode cX9_deadly 26 = .ok (.ifCond .eq 52, 3) := by decide +kernel
theorem dX9_deadly_29 : decode cX9_deadly 29 = .ok (.aload_n 0, 1) := by decide +kernel
theorem dX9_deadly_30 : decode cX9_deadly 30 = .ok (.getfield 52, 3) := by decide +kernel
theorem dX9_deadly_33 : decode cX9_deadly 33 = .ok (.iconst (-1), 1) := by decide +kernel
theorem dX9_deadly_34 : decode cX9_deadly 34 = .ok (.iconst (-1), 1) := by decide +kernel
theorem dX9_deadly_35 : decode cX9_deadly 35 = .ok (.iload_n 1, 1) := by decide +kernel
theorem dX9_deadly_36 : decode cX9_deadly 36 = .ok (.iload 4, 2) := by decide +kernel
theorem dX9_deadly_38 : decode cX9_deadly 38 = .ok (.invokevirtual 382, 3) := by decide +kernel
theorem dX9_deadly_41 : decode cX9_deadly 41 = .ok (.aload_n 0, 1) := by decide +kernel
theorem dX9_deadly_42 : decode cX9_deadly 42 = .ok (.getfield 23, 3) := by decide +kernel
theorem dX9_deadly_45 : decode cX9_deadly 45 = .ok (.aload_n 0, 1) := by decide +kernel
theorem dX9_deadly_46 : decode cX9_deadly 46 = .ok (.getfield 52, 3) := by decide +kernel
theorem dX9_deadly_49 : decode cX9_deadly 49 = .ok (.aload_n 0, 1) := by decide +kernel
theorem dX9_deadly_50 : decode cX9_deadly 50 = .ok (.getfield 35, 3) := by decide +kernel
theorem dX9_deadly_53 : decode cX9_deadly 53 = .ok (.getfield 169, 3) := by decide +kernel
theorem dX9_deadly_56 : decode cX9_deadly 56 = .ok (.invokevirtual 303, 3) := by decide +kernel
theorem dX9_deadly_59 : decode cX9_deadly 59 = .ok (.pop, 1) := by decide +kernel
theorem dX9_deadly_60 : decode cX9_deadly 60 = .ok (.aload_n 0, 1) := by decide +kernel
theorem dX9_deadly_61 : decode cX9_deadly 61 = .ok (.getfield 52, 3) := by decide +kernel
theorem dX9_deadly_64 : decode cX9_deadly 64 = .ok (.getfield 182, 3) := by decide +kernel
theorem dX9_deadly_67 : decode cX9_deadly 67 = .ok (.iconst 3, 1) := by decide +kernel
theorem dX9_deadly_68 : decode cX9_deadly 68 = .ok (.if_icmp .ne 10, 3) := by decide +kernel
theorem dX9_deadly_71 : decode cX9_deadly 71 = .ok (.lload_n 2, 1) := by decide +kernel
theorem dX9_deadly_72 : decode cX9_deadly 72 = .ok (.lconst 1, 1) := by decide +kernel
theorem dX9_deadly_73 : decode cX9_deadly 73 = .ok (.iload 4, 2) := by decide +kernel
theorem dX9_deadly_75 : decode cX9_deadly 75 = .ok (.lshl, 1) := by decide +kernel
theorem dX9_deadly_76 : decode cX9_deadly 76 = .ok (.lor, 1) := by decide +kernel
theorem dX9_deadly_77 : decode cX9_deadly 77 = .ok (.lstore_n 2, 1) := by decide +kernel
theorem dX9_deadly_78 : decode cX9_deadly 78 = .ok (.iinc 4 1, 3) := by decide +kernel
theorem dX9_deadly_81 : decode cX9_deadly 81 = .ok (.goto (-76), 3) := by decide +kernel
theorem dX9_deadly_84 : decode cX9_deadly 84 = .ok (.lload_n 2, 1) := by decide +kernel
theorem dX9_deadly_85 : decode cX9_deadly 85 = .ok (.lreturn, 1) := by decide +kernel
theorem dX9_eddy_0 : decode cX9_eddy 0 = .ok (.aload_n 0, 1) := by decide +kernel
theorem dX9_eddy_1 : decode cX9_eddy 1 = .ok (.getfield 31, 3) := by decide +kernel
theorem dX9_eddy_4 : decode cX9_eddy 4 = .ok (.iload_n 1, 1) := by decide +kernel
theorem dX9_eddy_5 : decode cX9_eddy 5 = .ok (.invokevirtual 132, 3) := by decide +kernel
theorem dX9_eddy_8 : decode cX9_eddy 8 = .ok (.ifCond .ne 6, 3) := by decide +kernel
theorem dX9_eddy_11 : decode cX9_eddy 11 = .ok (.bipush (-2), 2) := by decide +kernel
theorem dX9_eddy_13 : decode cX9_eddy 13 = .ok (.ireturn, 1) := by decide +kernel
theorem dX9_eddy_14 : decode cX9_eddy 14 = .ok (.aload_n 0, 1) := by decide +kernel
theorem dX9_eddy_15 : decode cX9_eddy 15 = .ok (.getfield 31, 3) := by decide +kernel
theorem dX9_eddy_18 : decode cX9_eddy 18 = .ok (.iload_n 1, 1) := by decide +kernel
theorem dX9_eddy_19 : decode cX9_eddy 19 = .ok (.invokevirtual 229, 3) := by decide +kernel
theorem dX9_eddy_22 : decode cX9_eddy 22 = .ok (.ifCond .ne 6, 3) := by decide +kernel
theorem dX9_eddy_25 : decode cX9_eddy 25 = .ok (.bipush (-5), 2) := by decide +kernel
theorem dX9_eddy_27 : decode cX9_eddy 27 = .ok (.ireturn, 1) := by decide +kernel
theorem dX9_eddy_28 : decode cX9_eddy 28 = .ok (.aload_n 0, 1) := by decide +kernel
theorem dX9_eddy_29 : decode cX9_eddy 29 = .ok (.getfield 52, 3) := by decide +kernel
theorem dX9_eddy_32 : decode cX9_eddy 32 = .ok (.iconst (-1), 1) := by decide +kernel
theorem dX9_eddy_33 : decode cX9_eddy 33 = .ok (.iconst (-1), 1) := by decide +kernel
theorem dX9_eddy_34 : decode cX9_eddy 34 = .ok (.iload_n 2, 1) := by decide +kernel
theorem dX9_eddy_35 : decode cX9_eddy 35 = .ok (.iload_n 1, 1) := by decide +kernel
theorem dX9_eddy_36 : decode cX9_eddy 36 = .ok (.invokevirtual 382, 3) := by decide +kernel
theorem dX9_eddy_39 : decode cX9_eddy 39 = .ok (.iconst 1, 1) := by decide +kernel
theorem dX9_eddy_40 : decode cX9_eddy 40 = .ok (.istore_n 3, 1) := by decide +kernel
theorem dX9_eddy_41 : decode cX9_eddy 41 = .ok (.iload_n 3, 1) := by decide +kernel
theorem dX9_eddy_42 : decode cX9_eddy 42 = .ok (.sipush 200, 3) := by decide +kernel
theorem dX9_eddy_45 : decode cX9_eddy 45 = .ok (.if_icmp .gt 78, 3) := by decide +kernel
theorem dX9_eddy_48 : decode cX9_eddy 48 = .ok (.aload_n 0, 1) := by decide +kernel
theorem dX9_eddy_49 : decode cX9_eddy 49 = .ok (.getfield 23, 3) := by decide +kernel
theorem dX9_eddy_52 : decode cX9_eddy 52 = .ok (.aload_n 0, 1) := by decide +kernel
theorem dX9_eddy_53 : decode cX9_eddy 53 = .ok (.getfield 52, 3) := by decide +kernel
theorem dX9_eddy_56 : decode cX9_eddy 56 = .ok (.aload_n 0, 1) := by decide +kernel
theorem dX9_eddy_57 : decode cX9_eddy 57 = .ok (.getfield 35, 3) := by decide +kernel
theorem dX9_eddy_60 : decode cX9_eddy 60 = .ok (.getfield 169, 3) := by decide +kernel
theorem dX9_eddy_63 : decode cX9_eddy 63 = .ok (.iload_n 3, 1) := by decide +kernel
theorem dX9_eddy_64 : decode cX9_eddy 64 = .ok (.iadd, 1) := by decide +kernel
theorem dX9_eddy_65 : decode cX9_eddy 65 = .ok (.iconst 1, 1) := by decide +kernel
theorem dX9_eddy_66 : decode cX9_eddy 66 = .ok (.isub, 1) := by decide +kernel
theorem dX9_eddy_67 : decode cX9_eddy 67 = .ok (.invokevirtual 385, 3) := by decide +kernel
theorem dX9_eddy_70 : decode cX9_eddy 70 = .ok (.aload_n 0, 1) := by decide +kernel
theorem dX9_eddy_71 : decode cX9_eddy 71 = .ok (.getfield 52, 3) := by decide +kernel
theorem dX9_eddy_74 : decode cX9_eddy 74 = .ok (.getfield 182, 3) := by decide +kernel
theorem dX9_eddy_77 : decode cX9_eddy 77 = .ok (.ifCond .eq 5, 3) := by decide +kernel
theorem dX9_eddy_80 : decode cX9_eddy 80 = .ok (.iconst (-1), 1) := by decide +kernel
theorem dX9_eddy_81 : decode cX9_eddy 81 = .ok (.ireturn, 1) := by decide +kernel
theorem dX9_eddy_82 : decode cX9_eddy 82 = .ok (.aload_n 0, 1) := by decide +kernel
theorem dX9_eddy_83 : decode cX9_eddy 83 = .ok (.getfield 52, 3) := by decide +kernel
theorem dX9_eddy_86 : decode cX9_eddy 86 = .ok (.getfield 185, 3) := by decide +kernel
theorem dX9_eddy_89 : decode cX9_eddy 89 = .ok (.iload_n 1, 1) := by decide +kernel
theorem dX9_eddy_90 : decode cX9_eddy 90 = .ok (.if_icmp .ne 27, 3) := by decide +kernel
theorem dX9_eddy_93 : decode cX9_eddy 93 = .ok (.aload_n 0, 1) := by decide +kernel
theorem dX9_eddy_94 : decode cX9_eddy 94 = .ok (.getfield 31, 3) := by decide +kernel
theorem dX9_eddy_97 : decode cX9_eddy 97 = .ok (.iload_n 3, 1) := by decide +kernel
theorem dX9_eddy_98 : decode cX9_eddy 98 = .ok (.invokevirtual 388, 3) := by decide +kernel
theorem dX9_eddy_101 : decode cX9_eddy 101 = .ok (.ifCond .ne 16, 3) := by decide +kernel
theorem dX9_eddy_104 : decode cX9_eddy 104 = .ok (.aload_n 0, 1) := by decide +kernel
theorem dX9_eddy_105 : decode cX9_eddy 105 = .ok (.getfield 31, 3) := by decide +kernel
theorem dX9_eddy_108 : decode cX9_eddy 108 = .ok (.iload_n 3, 1) := by decide +kernel
theorem dX9_eddy_109 : decode cX9_eddy 109 = .ok (.invokevirtual 391, 3) := by decide +kernel
theorem dX9_eddy_112 : decode cX9_eddy 112 = .ok (.ifCond .ne 5, 3) := by decide +kernel
theorem dX9_eddy_115 : decode cX9_eddy 115 = .ok (.iload_n 3, 1) := by decide +kernel
theorem dX9_eddy_116 : decode cX9_eddy 116 = .ok (.ireturn, 1) := by decide +kernel
theorem dX9_eddy_117 : decode cX9_eddy 117 = .ok (.iinc 3 1, 3) := by decide +kernel
theorem dX9_eddy_120 : decode cX9_eddy 120 = .ok (.goto (-79), 3) := by decide +kernel
theorem dX9_eddy_123 : decode cX9_eddy 123 = .ok (.iconst (-1), 1) := by decide +kernel
theorem dX9_eddy_124 : decode cX9_eddy 124 = .ok (.ireturn, 1) := by decide +kernel
theorem dX9_seen_0 : decode cX9_seen 0 = .ok (.aload_n 0, 1) := by decide +kernel
theorem dX9_seen_1 : decode cX9_seen 1 = .ok (.iload_n 1, 1) := by decide +kernel
theorem dX9_seen_2 : decode cX9_seen 2 = .ok (.invokevirtual 394, 3) := by decide +kernel
theorem dX9_seen_5 : decode cX9_seen 5 = .ok (.istore_n 2, 1) := by decide +kernel
theorem dX9_seen_6 : decode cX9_seen 6 = .ok (.iload_n 2, 1) := by decide +kernel
theorem dX9_seen_7 : decode cX9_seen 7 = .ok (.ifCond .ne 10, 3) := by decide +kernel
theorem dX9_seen_10 : decode cX9_seen 10 = .ok (.iload_n 1, 1) := by decide +kernel
theorem dX9_seen_11 : decode cX9_seen 11 = .ok (.invokestatic 248, 3) := by decide +kernel
theorem dX9_seen_14 : decode cX9_seen 14 = .ok (.ifCond .ne 5, 3) := by decide +kernel
theorem dX9_seen_17 : decode cX9_seen 17 = .ok (.iload_n 2, 1) := by decide +kernel
theorem dX9_seen_18 : decode cX9_seen 18 = .ok (.ireturn, 1) := by decide +kernel
theorem dX9_seen_19 : decode cX9_seen 19 = .ok (.aload_n 0, 1) := by decide +kernel
theorem dX9_seen_20 : decode cX9_seen 20 = .ok (.getfield 66, 3) := by decide +kernel
theorem dX9_seen_23 : decode cX9_seen 23 = .ok (.aload_n 0, 1) := by decide +kernel
theorem dX9_seen_24 : decode cX9_seen 24 = .ok (.getfield 23, 3) := by decide +kernel
theorem dX9_seen_27 : decode cX9_seen 27 = .ok (.aload_n 0, 1) := by decide +kernel
theorem dX9_seen_28 : decode cX9_seen 28 = .ok (.getfield 76, 3) := by decide +kernel
theorem dX9_seen_31 : decode cX9_seen 31 = .ok (.iload_n 1, 1) := by decide +kernel
theorem dX9_seen_32 : decode cX9_seen 32 = .ok (.aaload, 1) := by decide +kernel
theorem dX9_seen_33 : decode cX9_seen 33 = .ok (.aload_n 0, 1) := by decide +kernel
theorem dX9_seen_34 : decode cX9_seen 34 = .ok (.getfield 35, 3) := by decide +kernel
theorem dX9_seen_37 : decode cX9_seen 37 = .ok (.getfield 169, 3) := by decide +kernel
theorem dX9_seen_40 : decode cX9_seen 40 = .ok (.iconst (-1), 1) := by decide +kernel
theorem dX9_seen_41 : decode cX9_seen 41 = .ok (.invokevirtual 397, 3) := by decide +kernel
theorem dX9_seen_44 : decode cX9_seen 44 = .ok (.aload_n 0, 1) := by decide +kernel
theorem dX9_seen_45 : decode cX9_seen 45 = .ok (.getfield 66, 3) := by decide +kernel
theorem dX9_seen_48 : decode cX9_seen 48 = .ok (.getfield 401, 3) := by decide +kernel
theorem dX9_seen_51 : decode cX9_seen 51 = .ok (.ireturn, 1) := by decide +kernel
theorem dX9_thrower_0 : decode cX9_thrower 0 = .ok (.iload_n 1, 1) := by decide +kernel
theorem dX9_thrower_1 : decode cX9_thrower 1 = .ok (.invokestatic 248, 3) := by decide +kernel
theorem dX9_thrower_4 : decode cX9_thrower 4 = .ok (.ifCond .eq 12, 3) := by decide +kernel
theorem dX9_thrower_7 : decode cX9_thrower 7 = .ok (.iload_n 3, 1) := by decide +kernel
theorem dX9_thrower_8 : decode cX9_thrower 8 = .ok (.ifCond .lt 8, 3) := by decide +kernel
theorem dX9_thrower_11 : decode cX9_thrower 11 = .ok (.iload_n 3, 1) := by decide +kernel
theorem dX9_thrower_12 : decode cX9_thrower 12 = .ok (.iconst 3, 1) := by decide +kernel
theorem dX9_thrower_13 : decode cX9_thrower 13 = .ok (.if_icmp .le 6, 3) := by decide +kernel
theorem dX9_thrower_16 : decode cX9_thrower 16 = .ok (.bipush (-2), 2) := by decide +kernel
theorem dX9_thrower_18 : decode cX9_thrower 18 = .ok (.ireturn, 1) := by decide +kernel
theorem dX9_thrower_19 : decode cX9_thrower 19 = .ok (.aload_n 0, 1) := by decide +kernel
theorem dX9_thrower_20 : decode cX9_thrower 20 = .ok (.iload_n 1, 1) := by decide +kernel
theorem dX9_thrower_21 : decode cX9_thrower 21 = .ok (.invokevirtual 394, 3) := by decide +kernel
theorem dX9_thrower_24 : decode cX9_thrower 24 = .ok (.istore 4, 2) := by decide +kernel
theorem dX9_thrower_26 : decode cX9_thrower 26 = .ok (.iload 4, 2) := by decide +kernel
theorem dX9_thrower_28 : decode cX9_thrower 28 = .ok (.ifCond .eq 6, 3) := by decide +kernel
theorem dX9_thrower_31 : decode cX9_thrower 31 = .ok (.iload 4, 2) := by decide +kernel
theorem dX9_thrower_33 : decode cX9_thrower 33 = .ok (.ireturn, 1) := by decide +kernel
theorem dX9_thrower_34 : decode cX9_thrower 34 = .ok (.iload_n 2, 1) := by decide +kernel
theorem dX9_thrower_35 : decode cX9_thrower 35 = .ok (.ifCond .ge 6, 3) := by decide +kernel
theorem dX9_thrower_38 : decode cX9_thrower 38 = .ok (.bipush (-3), 2) := by decide +kernel
theorem dX9_thrower_40 : decode cX9_thrower 40 = .ok (.ireturn, 1) := by decide +kernel
theorem dX9_thrower_41 : decode cX9_thrower 41 = .ok (.aload_n 0, 1) := by decide +kernel
theorem dX9_thrower_42 : decode cX9_thrower 42 = .ok (.getfield 66, 3) := by decide +kernel
theorem dX9_thrower_45 : decode cX9_thrower 45 = .ok (.aload_n 0, 1) := by decide +kernel
theorem dX9_thrower_46 : decode cX9_thrower 46 = .ok (.getfield 23, 3) := by decide +kernel
theorem dX9_thrower_49 : decode cX9_thrower 49 = .ok (.aload_n 0, 1) := by decide +kernel
theorem dX9_thrower_50 : decode cX9_thrower 50 = .ok (.getfield 76, 3) := by decide +kernel
theorem dX9_thrower_53 : decode cX9_thrower 53 = .ok (.iload_n 1, 1) := by decide +kernel
theorem dX9_thrower_54 : decode cX9_thrower 54 = .ok (.aaload, 1) := by decide +kernel
theorem dX9_thrower_55 : decode cX9_thrower 55 = .ok (.aload_n 0, 1) := by decide +kernel
theorem dX9_thrower_56 : decode cX9_thrower 56 = .ok (.getfield 35, 3) := by decide +kernel
theorem dX9_thrower_59 : decode cX9_thrower 59 = .ok (.getfield 169, 3) := by decide +kernel
theorem dX9_thrower_62 : decode cX9_thrower 62 = .ok (.iload_n 2, 1) := by decide +kernel
theorem dX9_thrower_63 : decode cX9_thrower 63 = .ok (.invokevirtual 397, 3) := by decide +kernel
theorem dX9_thrower_66 : decode cX9_thrower 66 = .ok (.iload_n 2, 1) := by decide +kernel
theorem dX9_thrower_67 : decode cX9_thrower 67 = .ok (.aload_n 0, 1) := by decide +kernel
theorem dX9_thrower_68 : decode cX9_thrower 68 = .ok (.getfield 66, 3) := by decide +kernel
theorem dX9_thrower_71 : decode cX9_thrower 71 = .ok (.getfield 401, 3) := by decide +kernel
theorem dX9_thrower_74 : decode cX9_thrower 74 = .ok (.if_icmp .lt 15, 3) := by decide +kernel
theorem dX9_thrower_77 : decode cX9_thrower 77 = .ok (.iload_n 3, 1) := by decide +kernel
theorem dX9_thrower_78 : decode cX9_thrower 78 = .ok (.iconst 1, 1) := by decide +kernel
theorem dX9_thrower_79 : decode cX9_thrower 79 = .ok (.if_icmp .ne 8, 3) := by decide +kernel
theorem dX9_thrower_82 : decode cX9_thrower 82 = .ok (.bipush (-9), 2) := by decide +kernel
theorem dX9_thrower_84 : decode cX9_thrower 84 = .ok (.goto 4, 3) := by decide +kernel
theorem dX9_thrower_87 : decode cX9_thrower 87 = .ok (.iconst (-1), 1) := by decide +kernel
theorem dX9_thrower_88 : decode cX9_thrower 88 = .ok (.ireturn, 1) := by decide +kernel
theorem dX9_thrower_89 : decode cX9_thrower 89 = .ok (.aload_n 0, 1) := by decide +kernel
theorem dX9_thrower_90 : decode cX9_thrower 90 = .ok (.getfield 66, 3) := by decide +kernel
theorem dX9_thrower_93 : decode cX9_thrower 93 = .ok (.getfield 404, 3) := by decide +kernel
theorem dX9_thrower_96 : decode cX9_thrower 96 = .ok (.iload_n 3, 1) := by decide +kernel
theorem dX9_thrower_97 : decode cX9_thrower 97 = .ok (.iaload, 1) := by decide +kernel
theorem dX9_thrower_98 : decode cX9_thrower 98 = .ok (.ireturn, 1) := by decide +kernel
theorem dX9_suspects_0 : decode cX9_suspects 0 = .ok (.aload_n 0, 1) := by decide +kernel
theorem dX9_suspects_1 : decode cX9_suspects 1 = .ok (.iload_n 1, 1) := by decide +kernel
theorem dX9_suspects_2 : decode cX9_suspects 2 = .ok (.invokevirtual 394, 3) := by decide +kernel
theorem dX9_suspects_5 : decode cX9_suspects 5 = .ok (.istore_n 2, 1) := by decide +kernel
theorem dX9_suspects_6 : decode cX9_suspects 6 = .ok (.iload_n 2, 1) := by decide +kernel
theorem dX9_suspects_7 : decode cX9_suspects 7 = .ok (.ifCond .ne 10, 3) := by decide +kernel
theorem dX9_suspects_10 : decode cX9_suspects 10 = .ok (.iload_n 1, 1) := by decide +kernel
theorem dX9_suspects_11 : decode cX9_suspects 11 = .ok (.invokestatic 248, 3) := by decide +kernel
theorem dX9_suspects_14 : decode cX9_suspects 14 = .ok (.ifCond .ne 5, 3) := by decide +kernel
theorem dX9_suspects_17 : decode cX9_suspects 17 = .ok (.iload_n 2, 1) := by decide +kernel
theorem dX9_suspects_18 : decode cX9_suspects 18 = .ok (.ireturn, 1) := by decide +kernel
theorem dX9_suspects_19 : decode cX9_suspects 19 = .ok (.aload_n 0, 1) := by decide +kernel
theorem dX9_suspects_20 : decode cX9_suspects 20 = .ok (.getfield 66, 3) := by decide +kernel
theorem dX9_suspects_23 : decode cX9_suspects 23 = .ok (.aload_n 0, 1) := by decide +kernel
theorem dX9_suspects_24 : decode cX9_suspects 24 = .ok (.getfield 23, 3) := by decide +kernel
theorem dX9_suspects_27 : decode cX9_suspects 27 = .ok (.aload_n 0, 1) := by decide +kernel
theorem dX9_suspects_28 : decode cX9_suspects 28 = .ok (.getfield 76, 3) := by decide +kernel
theorem dX9_suspects_31 : decode cX9_suspects 31 = .ok (.iload_n 1, 1) := by decide +kernel
theorem dX9_suspects_32 : decode cX9_suspects 32 = .ok (.aaload, 1) := by decide +kernel
theorem dX9_suspects_33 : decode cX9_suspects 33 = .ok (.aload_n 0, 1) := by decide +kernel
theorem dX9_suspects_34 : decode cX9_suspects 34 = .ok (.getfield 35, 3) := by decide +kernel
theorem dX9_suspects_37 : decode cX9_suspects 37 = .ok (.getfield 169, 3) := by decide +kernel
theorem dX9_suspects_40 : decode cX9_suspects 40 = .ok (.iconst (-1), 1) := by decide +kernel
theorem dX9_suspects_41 : decode cX9_suspects 41 = .ok (.invokevirtual 397, 3) := by decide +kernel
theorem dX9_suspects_44 : decode cX9_suspects 44 = .ok (.aload_n 0, 1) := by decide +kernel
theorem dX9_suspects_45 : decode cX9_suspects 45 = .ok (.getfield 66, 3) := by decide +kernel
theorem dX9_suspects_48 : decode cX9_suspects 48 = .ok (.getfield 407, 3) := by decide +kernel
theorem dX9_suspects_51 : decode cX9_suspects 51 = .ok (.ireturn, 1) := by decide +kernel
theorem dX9_seenCode_0 : decode cX9_seenCode 0 = .ok (.iload_n 1, 1) := by decide +kernel
theorem dX9_seenCode_1 : decode cX9_seenCode 1 = .ok (.invokestatic 248, 3) := by decide +kernel
theorem dX9_seenCode_4 : decode cX9_seenCode 4 = .ok (.ifCond .ne 6, 3) := by decide +kernel
theorem dX9_seenCode_7 : decode cX9_seenCode 7 = .ok (.bipush (-2), 2) := by decide +kernel
theorem dX9_seenCode_9 : decode cX9_seenCode 9 = .ok (.ireturn, 1) := by decide +kernel
theorem dX9_seenCode_10 : decode cX9_seenCode 10 = .ok (.aload_n 0, 1) := by decide +kernel
theorem dX9_seenCode_11 : decode cX9_seenCode 11 = .ok (.getfield 76, 3) := by decide +kernel
theorem dX9_seenCode_14 : decode cX9_seenCode 14 = .ok (.iload_n 1, 1) := by decide +kernel
theorem dX9_seenCode_15 : decode cX9_seenCode 15 = .ok (.aaload, 1) := by decide +kernel
theorem dX9_seenCode_16 : decode cX9_seenCode 16 = .ok (.astore_n 2, 1) := by decide +kernel
theorem dX9_seenCode_17 : decode cX9_seenCode 17 = .ok (.aload_n 2, 1) := by decide +kernel
theorem dX9_seenCode_18 : decode cX9_seenCode 18 = .ok (.invokevirtual 251, 3) := by decide +kernel
theorem dX9_seenCode_21 : decode cX9_seenCode 21 = .ok (.ifCond .eq 6, 3) := by decide +kernel
theorem dX9_seenCode_24 : decode cX9_seenCode 24 = .ok (.bipush (-6), 2) := by decide +kernel
theorem dX9_seenCode_26 : decode cX9_seenCode 26 = .ok (.ireturn, 1) := by decide +kernel
theorem dX9_seenCode_27 : decode cX9_seenCode 27 = .ok (.aload_n 2, 1) := by decide +kernel
theorem dX9_seenCode_28 : decode cX9_seenCode 28 = .ok (.getfield 261, 3) := by decide +kernel
theorem dX9_seenCode_31 : decode cX9_seenCode 31 = .ok (.iconst 2, 1) := by decide +kernel
theorem dX9_seenCode_32 : decode cX9_seenCode 32 = .ok (.if_icmp .lt 21, 3) := by decide +kernel
theorem dX9_seenCode_35 : decode cX9_seenCode 35 = .ok (.aload_n 2, 1) := by decide +kernel
theorem dX9_seenCode_36 : decode cX9_seenCode 36 = .ok (.getfield 261, 3) := by decide +kernel
theorem dX9_seenCode_39 : decode cX9_seenCode 39 = .ok (.bipush 8, 2) := by decide +kernel
theorem dX9_seenCode_41 : decode cX9_seenCode 41 = .ok (.if_icmp .gt 12, 3) := by decide +kernel
theorem dX9_seenCode_44 : decode cX9_seenCode 44 = .ok (.aload_n 2, 1) := by decide +kernel
theorem dX9_seenCode_45 : decode cX9_seenCode 45 = .ok (.getfield 261, 3) := by decide +kernel
theorem dX9_seenCode_48 : decode cX9_seenCode 48 = .ok (.iconst 2, 1) := by decide +kernel
theorem dX9_seenCode_49 : decode cX9_seenCode 49 = .ok (.irem, 1) := by decide +kernel
theorem dX9_seenCode_50 : decode cX9_seenCode 50 = .ok (.ifCond .eq 6, 3) := by decide +kernel
theorem dX9_seenCode_53 : decode cX9_seenCode 53 = .ok (.bipush (-4), 2) := by decide +kernel
theorem dX9_seenCode_55 : decode cX9_seenCode 55 = .ok (.ireturn, 1) := by decide +kernel
theorem dX9_seenCode_56 : decode cX9_seenCode 56 = .ok (.iconst 0, 1) := by decide +kernel
theorem dX9_seenCode_57 : decode cX9_seenCode 57 = .ok (.istore_n 3, 1) := by decide +kernel
theorem dX9_seenCode_58 : decode cX9_seenCode 58 = .ok (.iload_n 3, 1) := by decide +kernel
theorem dX9_seenCode_59 : decode cX9_seenCode 59 = .ok (.aload_n 2, 1) := by decide +kernel
theorem dX9_seenCode_60 : decode cX9_seenCode 60 = .ok (.getfield 261, 3) := by decide +kernel
theorem dX9_seenCode_63 : decode cX9_seenCode 63 = .ok (.if_icmp .ge 65, 3) := by decide +kernel
theorem dX9_seenCode_66 : decode cX9_seenCode 66 = .ok (.aload_n 2, 1) := by decide +kernel
theorem dX9_seenCode_67 : decode cX9_seenCode 67 = .ok (.iload_n 3, 1) := by decide +kernel
theorem dX9_seenCode_68 : decode cX9_seenCode 68 = .ok (.invokevirtual 264, 3) := by decide +kernel
theorem dX9_seenCode_71 : decode cX9_seenCode 71 = .ok (.lstore 4, 2) := by decide +kernel
theorem dX9_seenCode_73 : decode cX9_seenCode 73 = .ok (.aload_n 2, 1) := by decide +kernel
theorem dX9_seenCode_74 : decode cX9_seenCode 74 = .ok (.iload_n 3, 1) := by decide +kernel
theorem dX9_seenCode_75 : decode cX9_seenCode 75 = .ok (.iconst 1, 1) := by decide +kernel
theorem dX9_seenCode_76 : decode cX9_seenCode 76 = .ok (.iadd, 1) := by decide +kernel
theorem dX9_seenCode_77 : decode cX9_seenCode 77 = .ok (.invokevirtual 264, 3) := by decide +kernel
theorem dX9_seenCode_80 : decode cX9_seenCode 80 = .ok (.lstore 6, 2) := by decide +kernel
theorem dX9_seenCode_82 : decode cX9_seenCode 82 = .ok (.lload 4, 2) := by decide +kernel
theorem dX9_seenCode_84 : decode cX9_seenCode 84 = .ok (.lconst 0, 1) := by decide +kernel
theorem dX9_seenCode_85 : decode cX9_seenCode 85 = .ok (.lcmp, 1) := by decide +kernel
theorem dX9_seenCode_86 : decode cX9_seenCode 86 = .ok (.ifCond .lt 33, 3) := by decide +kernel
theorem dX9_seenCode_89 : decode cX9_seenCode 89 = .ok (.lload 4, 2) := by decide +kernel
theorem dX9_seenCode_91 : decode cX9_seenCode 91 = .ok (.aload_n 0, 1) := by decide +kernel
theorem dX9_seenCode_92 : decode cX9_seenCode 92 = .ok (.getfield 31, 3) := by decide +kernel
theorem dX9_seenCode_95 : decode cX9_seenCode 95 = .ok (.invokevirtual 368, 3) := by decide +kernel
theorem dX9_seenCode_98 : decode cX9_seenCode 98 = .ok (.i2l, 1) := by decide +kernel
theorem dX9_seenCode_99 : decode cX9_seenCode 99 = .ok (.lcmp, 1) := by decide +kernel
theorem dX9_seenCode_100 : decode cX9_seenCode 100 = .ok (.ifCond .ge 19, 3) := by decide +kernel
theorem dX9_seenCode_103 : decode cX9_seenCode 103 = .ok (.lload 6, 2) := by decide +kernel
theorem dX9_seenCode_105 : decode cX9_seenCode 105 = .ok (.lconst 0, 1) := by decide +kernel
theorem dX9_seenCode_106 : decode cX9_seenCode 106 = .ok (.lcmp, 1) := by decide +kernel
theorem dX9_seenCode_107 : decode cX9_seenCode 107 = .ok (.ifCond .lt 12, 3) := by decide +kernel
theorem dX9_seenCode_110 : decode cX9_seenCode 110 = .ok (.lload 6, 2) := by decide +kernel
theorem dX9_seenCode_112 : decode cX9_seenCode 112 = .ok (.ldc2_w 410, 3) := by decide +kernel
theorem dX9_seenCode_115 : decode cX9_seenCode 115 = .ok (.lcmp, 1) := by decide +kernel
theorem dX9_seenCode_116 : decode cX9_seenCode 116 = .ok (.ifCond .le 6, 3) := by decide +kernel
theorem dX9_seenCode_119 : decode cX9_seenCode 119 = .ok (.bipush (-3), 2) := by decide +kernel
theorem dX9_seenCode_121 : decode cX9_seenCode 121 = .ok (.ireturn, 1) := by decide +kernel
theorem dX9_seenCode_122 : decode cX9_seenCode 122 = .ok (.iinc 3 2, 3) := by decide +kernel
theorem dX9_seenCode_125 : decode cX9_seenCode 125 = .ok (.goto (-67), 3) := by decide +kernel
theorem dX9_seenCode_128 : decode cX9_seenCode 128 = .ok (.iconst 0, 1) := by decide +kernel
theorem dX9_seenCode_129 : decode cX9_seenCode 129 = .ok (.ireturn, 1) := by decide +kernel
theorem dX9_isTray_0 : decode cX9_isTray 0 = .ok (.iload_n 0, 1) := by decide +kernel
theorem dX9_isTray_1 : decode cX9_isTray 1 = .ok (.ifCond .lt 12, 3) := by decide +kernel
theorem dX9_isTray_4 : decode cX9_isTray 4 = .ok (.iload_n 0, 1) := by decide +kernel
theorem dX9_isTray_5 : decode cX9_isTray 5 = .ok (.iconst 4, 1) := by decide +kernel
theorem dX9_isTray_6 : decode cX9_isTray 6 = .ok (.if_icmp .ge 7, 3) := by decide +kernel
theorem dX9_isTray_9 : decode cX9_isTray 9 = .ok (.iconst 1, 1) := by decide +kernel
theorem dX9_isTray_10 : decode cX9_isTray 10 = .ok (.goto 4, 3) := by decide +kernel
theorem dX9_isTray_13 : decode cX9_isTray 13 = .ok (.iconst 0, 1) := by decide +kernel
theorem dX9_isTray_14 : decode cX9_isTray 14 = .ok (.ireturn, 1) := by decide +kernel
theorem dX9_numbers_0 : decode cX9_numbers 0 = .ok (.iload_n 1, 1) := by decide +kernel
theorem dX9_numbers_1 : decode cX9_numbers 1 = .ok (.invokestatic 248, 3) := by decide +kernel
theorem dX9_numbers_4 : decode cX9_numbers 4 = .ok (.ifCond .eq 12, 3) := by decide +kernel
theorem dX9_numbers_7 : decode cX9_numbers 7 = .ok (.iload_n 2, 1) := by decide +kernel
theorem dX9_numbers_8 : decode cX9_numbers 8 = .ok (.ifCond .lt 8, 3) := by decide +kernel
theorem dX9_numbers_11 : decode cX9_numbers 11 = .ok (.iload_n 2, 1) := by decide +kernel
theorem dX9_numbers_12 : decode cX9_numbers 12 = .ok (.iconst 4, 1) := by decide +kernel
theorem dX9_numbers_13 : decode cX9_numbers 13 = .ok (.if_icmp .lt 6, 3) := by decide +kernel
theorem dX9_numbers_16 : decode cX9_numbers 16 = .ok (.bipush (-2), 2) := by decide +kernel
theorem dX9_numbers_18 : decode cX9_numbers 18 = .ok (.ireturn, 1) := by decide +kernel
theorem dX9_numbers_19 : decode cX9_numbers 19 = .ok (.iload_n 3, 1) := by decide +kernel
theorem dX9_numbers_20 : decode cX9_numbers 20 = .ok (.ifCond .lt 9, 3) := by decide +kernel
theorem dX9_numbers_23 : decode cX9_numbers 23 = .ok (.iload_n 3, 1) := by decide +kernel
theorem dX9_numbers_24 : decode cX9_numbers 24 = .ok (.bipush 40, 2) := by decide +kernel
theorem dX9_numbers_26 : decode cX9_numbers 26 = .ok (.if_icmp .le 6, 3) := by decide +kernel
theorem dX9_numbers_29 : decode cX9_numbers 29 = .ok (.bipush (-3), 2) := by decide +kernel
theorem dX9_numbers_31 : decode cX9_numbers 31 = .ok (.ireturn, 1) := by decide +kernel
theorem dX9_numbers_32 : decode cX9_numbers 32 = .ok (.aload_n 0, 1) := by decide +kernel
theorem dX9_numbers_33 : decode cX9_numbers 33 = .ok (.getfield 76, 3) := by decide +kernel
theorem dX9_numbers_36 : decode cX9_numbers 36 = .ok (.iload_n 1, 1) := by decide +kernel
theorem dX9_numbers_37 : decode cX9_numbers 37 = .ok (.aaload, 1) := by decide +kernel
theorem dX9_numbers_38 : decode cX9_numbers 38 = .ok (.iload_n 2, 1) := by decide +kernel
theorem dX9_numbers_39 : decode cX9_numbers 39 = .ok (.iload_n 3, 1) := by decide +kernel
theorem dX9_numbers_40 : decode cX9_numbers 40 = .ok (.invokevirtual 412, 3) := by decide +kernel
theorem dX9_numbers_43 : decode cX9_numbers 43 = .ok (.iconst 0, 1) := by decide +kernel
theorem dX9_numbers_44 : decode cX9_numbers 44 = .ok (.ireturn, 1) := by decide +kernel
theorem dX9_write_0 : decode cX9_write 0 = .ok (.iload_n 1, 1) := by decide +kernel
theorem dX9_write_1 : decode cX9_write 1 = .ok (.invokestatic 248, 3) := by decide +kernel
theorem dX9_write_4 : decode cX9_write 4 = .ok (.ifCond .ne 7, 3) := by decide +kernel
theorem dX9_write_7 : decode cX9_write 7 = .ok (.ldc2_w 415, 3) := by decide +kernel
theorem dX9_write_10 : decode cX9_write 10 = .ok (.lreturn, 1) := by decide +kernel
theorem dX9_write_11 : decode cX9_write 11 = .ok (.aload_n 0, 1) := by decide +kernel
theorem dX9_write_12 : decode cX9_write 12 = .ok (.getfield 76, 3) := by decide +kernel
theorem dX9_write_15 : decode cX9_write 15 = .ok (.iload_n 1, 1) := by decide +kernel
theorem dX9_write_16 : decode cX9_write 16 = .ok (.aaload, 1) := by decide +kernel
theorem dX9_write_17 : decode cX9_write 17 = .ok (.invokevirtual 251, 3) := by decide +kernel
theorem dX9_write_20 : decode cX9_write 20 = .ok (.ifCond .eq 7, 3) := by decide +kernel
theorem dX9_write_23 : decode cX9_write 23 = .ok (.ldc2_w 417, 3) := by decide +kernel
theorem dX9_write_26 : decode cX9_write 26 = .ok (.lreturn, 1) := by decide +kernel
theorem dX9_write_27 : decode cX9_write 27 = .ok (.iload_n 2, 1) := by decide +kernel
theorem dX9_write_28 : decode cX9_write 28 = .ok (.ifCond .lt 16, 3) := by decide +kernel
theorem dX9_write_31 : decode cX9_write 31 = .ok (.iload_n 2, 1) := by decide +kernel
theorem dX9_write_32 : decode cX9_write 32 = .ok (.aload_n 0, 1) := by decide +kernel
theorem dX9_write_33 : decode cX9_write 33 = .ok (.getfield 76, 3) := by decide +kernel
theorem dX9_write_36 : decode cX9_write 36 = .ok (.iload_n 1, 1) := by decide +kernel
theorem dX9_write_37 : decode cX9_write 37 = .ok (.aaload, 1) := by decide +kernel
theorem dX9_write_38 : decode cX9_write 38 = .ok (.getfield 261, 3) := by decide +kernel
theorem dX9_write_41 : decode cX9_write 41 = .ok (.if_icmp .lt 7, 3) := by decide +kernel
theorem dX9_write_44 : decode cX9_write 44 = .ok (.ldc2_w 419, 3) := by decide +kernel
theorem dX9_write_47 : decode cX9_write 47 = .ok (.lreturn, 1) := by decide +kernel
theorem dX9_write_48 : decode cX9_write 48 = .ok (.aload_n 0, 1) := by decide +kernel
theorem dX9_write_49 : decode cX9_write 49 = .ok (.getfield 76, 3) := by decide +kernel
theorem dX9_write_52 : decode cX9_write 52 = .ok (.iload_n 1, 1) := by decide +kernel
theorem dX9_write_53 : decode cX9_write 53 = .ok (.aaload, 1) := by decide +kernel
theorem dX9_write_54 : decode cX9_write 54 = .ok (.iload_n 2, 1) := by decide +kernel
theorem dX9_write_55 : decode cX9_write 55 = .ok (.lload_n 3, 1) := by decide +kernel
theorem dX9_write_56 : decode cX9_write 56 = .ok (.invokevirtual 421, 3) := by decide +kernel
theorem dX9_write_59 : decode cX9_write 59 = .ok (.aload_n 0, 1) := by decide +kernel
theorem dX9_write_60 : decode cX9_write 60 = .ok (.getfield 76, 3) := by decide +kernel
theorem dX9_write_63 : decode cX9_write 63 = .ok (.iload_n 1, 1) := by decide +kernel
theorem dX9_write_64 : decode cX9_write 64 = .ok (.aaload, 1) := by decide +kernel
theorem dX9_write_65 : decode cX9_write 65 = .ok (.iload_n 2, 1) := by decide +kernel
theorem dX9_write_66 : decode cX9_write 66 = .ok (.invokevirtual 264, 3) := by decide +kernel
theorem dX9_write_69 : decode cX9_write 69 = .ok (.lreturn, 1) := by decide +kernel
theorem dX9_lists_0 : decode cX9_lists 0 = .ok (.iload_n 1, 1) := by decide +kernel
theorem dX9_lists_1 : decode cX9_lists 1 = .ok (.invokestatic 248, 3) := by decide +kernel
theorem dX9_lists_4 : decode cX9_lists 4 = .ok (.ifCond .eq 14, 3) := by decide +kernel
theorem dX9_lists_7 : decode cX9_lists 7 = .ok (.aload_n 0, 1) := by decide +kernel
theorem dX9_lists_8 : decode cX9_lists 8 = .ok (.getfield 35, 3) := by decide +kernel
theorem dX9_lists_11 : decode cX9_lists 11 = .ok (.iload_n 2, 1) := by decide +kernel
theorem dX9_lists_12 : decode cX9_lists 12 = .ok (.invokevirtual 175, 3) := by decide +kernel
theorem dX9_lists_15 : decode cX9_lists 15 = .ok (.ifCond .ne 6, 3) := by decide +kernel
theorem dX9_lists_18 : decode cX9_lists 18 = .ok (.bipush (-2), 2) := by decide +kernel
theorem dX9_lists_20 : decode cX9_lists 20 = .ok (.ireturn, 1) := by decide +kernel
theorem dX9_lists_21 : decode cX9_lists 21 = .ok (.aload_n 0, 1) := by decide +kernel
theorem dX9_lists_22 : decode cX9_lists 22 = .ok (.getfield 76, 3) := by decide +kernel
theorem dX9_lists_25 : decode cX9_lists 25 = .ok (.iload_n 1, 1) := by decide +kernel
theorem dX9_lists_26 : decode cX9_lists 26 = .ok (.aaload, 1) := by decide +kernel
theorem dX9_lists_27 : decode cX9_lists 27 = .ok (.astore_n 3, 1) := by decide +kernel
theorem dX9_lists_28 : decode cX9_lists 28 = .ok (.aload_n 3, 1) := by decide +kernel
theorem dX9_lists_29 : decode cX9_lists 29 = .ok (.invokevirtual 251, 3) := by decide +kernel
theorem dX9_lists_32 : decode cX9_lists 32 = .ok (.ifCond .eq 6, 3) := by decide +kernel
theorem dX9_lists_35 : decode cX9_lists 35 = .ok (.bipush (-6), 2) := by decide +kernel
theorem dX9_lists_37 : decode cX9_lists 37 = .ok (.ireturn, 1) := by decide +kernel
theorem dX9_lists_38 : decode cX9_lists 38 = .ok (.aload_n 0, 1) := by decide +kernel
theorem dX9_lists_39 : decode cX9_lists 39 = .ok (.getfield 52, 3) := by decide +kernel
theorem dX9_lists_42 : decode cX9_lists 42 = .ok (.aload_n 0, 1) := by decide +kernel
theorem dX9_lists_43 : decode cX9_lists 43 = .ok (.getfield 35, 3) := by decide +kernel
theorem dX9_lists_46 : decode cX9_lists 46 = .ok (.getfield 178, 3) := by decide +kernel
theorem dX9_lists_49 : decode cX9_lists 49 = .ok (.iload_n 2, 1) := by decide +kernel
theorem dX9_lists_50 : decode cX9_lists 50 = .ok (.aaload, 1) := by decide +kernel
theorem dX9_lists_51 : decode cX9_lists 51 = .ok (.invokevirtual 300, 3) := by decide +kernel
theorem dX9_lists_54 : decode cX9_lists 54 = .ok (.iconst 0, 1) := by decide +kernel
theorem dX9_lists_55 : decode cX9_lists 55 = .ok (.istore 4, 2) := by decide +kernel
theorem dX9_lists_57 : decode cX9_lists 57 = .ok (.iload 4, 2) := by decide +kernel
theorem dX9_lists_59 : decode cX9_lists 59 = .ok (.aload_n 3, 1) := by decide +kernel
theorem dX9_lists_60 : decode cX9_lists 60 = .ok (.getfield 261, 3) := by decide +kernel
theorem dX9_lists_63 : decode cX9_lists 63 = .ok (.if_icmp .ge 44, 3) := by decide +kernel
theorem dX9_lists_66 : decode cX9_lists 66 = .ok (.aload_n 3, 1) := by decide +kernel
theorem dX9_lists_67 : decode cX9_lists 67 = .ok (.iload 4, 2) := by decide +kernel
theorem dX9_lists_69 : decode cX9_lists 69 = .ok (.aload_n 0, 1) := by decide +kernel
theorem dX9_lists_70 : decode cX9_lists 70 = .ok (.getfield 52, 3) := by decide +kernel
theorem dX9_lists_73 : decode cX9_lists 73 = .ok (.invokevirtual 311, 3) := by decide +kernel
theorem dX9_lists_76 : decode cX9_lists 76 = .ok (.i2l, 1) := by decide +kernel
theorem dX9_lists_77 : decode cX9_lists 77 = .ok (.invokevirtual 421, 3) := by decide +kernel
theorem dX9_lists_80 : decode cX9_lists 80 = .ok (.aload_n 0, 1) := by decide +kernel
theorem dX9_lists_81 : decode cX9_lists 81 = .ok (.getfield 23, 3) := by decide +kernel
theorem dX9_lists_84 : decode cX9_lists 84 = .ok (.aload_n 0, 1) := by decide +kernel
theorem dX9_lists_85 : decode cX9_lists 85 = .ok (.getfield 52, 3) := by decide +kernel
theorem dX9_lists_88 : decode cX9_lists 88 = .ok (.aload_n 0, 1) := by decide +kernel
theorem dX9_lists_89 : decode cX9_lists 89 = .ok (.getfield 35, 3) := by decide +kernel
theorem dX9_lists_92 : decode cX9_lists 92 = .ok (.getfield 169, 3) := by decide +kernel
theorem dX9_lists_95 : decode cX9_lists 95 = .ok (.iload 4, 2) := by decide +kernel
theorem dX9_lists_97 : decode cX9_lists 97 = .ok (.iadd, 1) := by decide +kernel
theorem dX9_lists_98 : decode cX9_lists 98 = .ok (.invokevirtual 307, 3) := by decide +kernel
theorem dX9_lists_101 : decode cX9_lists 101 = .ok (.iinc 4 1, 3) := by decide +kernel
theorem dX9_lists_104 : decode cX9_lists 104 = .ok (.goto (-47), 3) := by decide +kernel
theorem dX9_lists_107 : decode cX9_lists 107 = .ok (.aload_n 3, 1) := by decide +kernel
theorem dX9_lists_108 : decode cX9_lists 108 = .ok (.getfield 261, 3) := by decide +kernel
theorem dX9_lists_111 : decode cX9_lists 111 = .ok (.ireturn, 1) := by decide +kernel
theorem dX9_image_0 : decode cX9_image 0 = .ok (.iload_n 1, 1) := by decide +kernel
theorem dX9_image_1 : decode cX9_image 1 = .ok (.ifCond .lt 8, 3) := by decide +kernel
theorem dX9_image_4 : decode cX9_image 4 = .ok (.iload_n 1, 1) := by decide +kernel
theorem dX9_image_5 : decode cX9_image 5 = .ok (.iconst 2, 1) := by decide +kernel
theorem dX9_image_6 : decode cX9_image 6 = .ok (.if_icmp .lt 6, 3) := by decide +kernel
theorem dX9_image_9 : decode cX9_image 9 = .ok (.bipush (-2), 2) := by decide +kernel
theorem dX9_image_11 : decode cX9_image 11 = .ok (.ireturn, 1) := by decide +kernel
theorem dX9_image_12 : decode cX9_image 12 = .ok (.aload_n 0, 1) := by decide +kernel
theorem dX9_image_13 : decode cX9_image 13 = .ok (.getfield 82, 3) := by decide +kernel
theorem dX9_image_16 : decode cX9_image 16 = .ok (.iload_n 1, 1) := by decide +kernel
theorem dX9_image_17 : decode cX9_image 17 = .ok (.aaload, 1) := by decide +kernel
theorem dX9_image_18 : decode cX9_image 18 = .ok (.aload_n 0, 1) := by decide +kernel
theorem dX9_image_19 : decode cX9_image 19 = .ok (.getfield 31, 3) := by decide +kernel
theorem dX9_image_22 : decode cX9_image 22 = .ok (.invokevirtual 112, 3) := by decide +kernel
theorem dX9_image_25 : decode cX9_image 25 = .ok (.aload_n 0, 1) := by decide +kernel
theorem dX9_image_26 : decode cX9_image 26 = .ok (.getfield 86, 3) := by decide +kernel
theorem dX9_image_29 : decode cX9_image 29 = .ok (.iload_n 1, 1) := by decide +kernel
theorem dX9_image_30 : decode cX9_image 30 = .ok (.aaload, 1) := by decide +kernel
theorem dX9_image_31 : decode cX9_image 31 = .ok (.aload_n 0, 1) := by decide +kernel
theorem dX9_image_32 : decode cX9_image 32 = .ok (.getfield 35, 3) := by decide +kernel
theorem dX9_image_35 : decode cX9_image 35 = .ok (.invokevirtual 255, 3) := by decide +kernel
theorem dX9_image_38 : decode cX9_image 38 = .ok (.aload_n 0, 1) := by decide +kernel
theorem dX9_image_39 : decode cX9_image 39 = .ok (.getfield 90, 3) := by decide +kernel
theorem dX9_image_42 : decode cX9_image 42 = .ok (.iload_n 1, 1) := by decide +kernel
theorem dX9_image_43 : decode cX9_image 43 = .ok (.iconst 1, 1) := by decide +kernel
theorem dX9_image_44 : decode cX9_image 44 = .ok (.bastore, 1) := by decide +kernel
theorem dX9_image_45 : decode cX9_image 45 = .ok (.iconst 0, 1) := by decide +kernel
theorem dX9_image_46 : decode cX9_image 46 = .ok (.ireturn, 1) := by decide +kernel
theorem dX9_restore_0 : decode cX9_restore 0 = .ok (.iload_n 1, 1) := by decide +kernel
theorem dX9_restore_1 : decode cX9_restore 1 = .ok (.ifCond .lt 8, 3) := by decide +kernel
theorem dX9_restore_4 : decode cX9_restore 4 = .ok (.iload_n 1, 1) := by decide +kernel
theorem dX9_restore_5 : decode cX9_restore 5 = .ok (.iconst 2, 1) := by decide +kernel
theorem dX9_restore_6 : decode cX9_restore 6 = .ok (.if_icmp .lt 6, 3) := by decide +kernel
theorem dX9_restore_9 : decode cX9_restore 9 = .ok (.bipush (-2), 2) := by decide +kernel
theorem dX9_restore_11 : decode cX9_restore 11 = .ok (.ireturn, 1) := by decide +kernel
theorem dX9_restore_12 : decode cX9_restore 12 = .ok (.aload_n 0, 1) := by decide +kernel
theorem dX9_restore_13 : decode cX9_restore 13 = .ok (.getfield 90, 3) := by decide +kernel
theorem dX9_restore_16 : decode cX9_restore 16 = .ok (.iload_n 1, 1) := by decide +kernel
theorem dX9_restore_17 : decode cX9_restore 17 = .ok (.baload, 1) := by decide +kernel
theorem dX9_restore_18 : decode cX9_restore 18 = .ok (.ifCond .ne 6, 3) := by decide +kernel
theorem dX9_restore_21 : decode cX9_restore 21 = .ok (.bipush (-5), 2) := by decide +kernel
theorem dX9_restore_23 : decode cX9_restore 23 = .ok (.ireturn, 1) := by decide +kernel
theorem dX9_restore_24 : decode cX9_restore 24 = .ok (.aload_n 0, 1) := by decide +kernel
theorem dX9_restore_25 : decode cX9_restore 25 = .ok (.getfield 31, 3) := by decide +kernel
theorem dX9_restore_28 : decode cX9_restore 28 = .ok (.aload_n 0, 1) := by decide +kernel
theorem dX9_restore_29 : decode cX9_restore 29 = .ok (.getfield 82, 3) := by decide +kernel
theorem dX9_restore_32 : decode cX9_restore 32 = .ok (.iload_n 1, 1) := by decide +kernel
theorem dX9_restore_33 : decode cX9_restore 33 = .ok (.aaload, 1) := by decide +kernel
theorem dX9_restore_34 : decode cX9_restore 34 = .ok (.invokevirtual 112, 3) := by decide +kernel
theorem dX9_restore_37 : decode cX9_restore 37 = .ok (.aload_n 0, 1) := by decide +kernel
theorem dX9_restore_38 : decode cX9_restore 38 = .ok (.getfield 35, 3) := by decide +kernel
theorem dX9_restore_41 : decode cX9_restore 41 = .ok (.aload_n 0, 1) := by decide +kernel
theorem dX9_restore_42 : decode cX9_restore 42 = .ok (.getfield 86, 3) := by decide +kernel
theorem dX9_restore_45 : decode cX9_restore 45 = .ok (.iload_n 1, 1) := by decide +kernel
theorem dX9_restore_46 : decode cX9_restore 46 = .ok (.aaload, 1) := by decide +kernel
theorem dX9_restore_47 : decode cX9_restore 47 = .ok (.invokevirtual 255, 3) := by decide +kernel
theorem dX9_restore_50 : decode cX9_restore 50 = .ok (.aload_n 0, 1) := by decide +kernel
theorem dX9_restore_51 : decode cX9_restore 51 = .ok (.invokevirtual 119, 3) := by decide +kernel
theorem dX9_restore_54 : decode cX9_restore 54 = .ok (.iconst 0, 1) := by decide +kernel
theorem dX9_restore_55 : decode cX9_restore 55 = .ok (.ireturn, 1) := by decide +kernel
theorem dX9_count_0 : decode cX9_count 0 = .ok (.iload_n 1, 1) := by decide +kernel
theorem dX9_count_1 : decode cX9_count 1 = .ok (.tableswitch 196 0 13 #[71, 79, 87, 95, 103, 111, 120, 129, 137, 152, 167, 175, 180, 188], 71) := by decide +kernel
theorem dX9_count_72 : decode cX9_count 72 = .ok (.aload_n 0, 1) := by decide +kernel
theorem dX9_count_73 : decode cX9_count 73 = .ok (.getfield 31, 3) := by decide +kernel
theorem dX9_count_76 : decode cX9_count 76 = .ok (.getfield 425, 3) := by decide +kernel
theorem dX9_count_79 : decode cX9_count 79 = .ok (.ireturn, 1) := by decide +kernel
theorem dX9_count_80 : decode cX9_count 80 = .ok (.aload_n 0, 1) := by decide +kernel
theorem dX9_count_81 : decode cX9_count 81 = .ok (.getfield 31, 3) := by decide +kernel
theorem dX9_count_84 : decode cX9_count 84 = .ok (.getfield 428, 3) := by decide +kernel
theorem dX9_count_87 : decode cX9_count 87 = .ok (.ireturn, 1) := by decide +kernel
theorem dX9_count_88 : decode cX9_count 88 = .ok (.aload_n 0, 1) := by decide +kernel
theorem dX9_count_89 : decode cX9_count 89 = .ok (.getfield 31, 3) := by decide +kernel
theorem dX9_count_92 : decode cX9_count 92 = .ok (.getfield 162, 3) := by decide +kernel
theorem dX9_count_95 : decode cX9_count 95 = .ok (.ireturn, 1) := by decide +kernel
theorem dX9_count_96 : decode cX9_count 96 = .ok (.aload_n 0, 1) := by decide +kernel
theorem dX9_count_97 : decode cX9_count 97 = .ok (.getfield 31, 3) := by decide +kernel
theorem dX9_count_100 : decode cX9_count 100 = .ok (.getfield 286, 3) := by decide +kernel
theorem dX9_count_103 : decode cX9_count 103 = .ok (.ireturn, 1) := by decide +kernel
theorem dX9_count_104 : decode cX9_count 104 = .ok (.aload_n 0, 1) := by decide +kernel
theorem dX9_count_105 : decode cX9_count 105 = .ok (.getfield 35, 3) := by decide +kernel
theorem dX9_count_108 : decode cX9_count 108 = .ok (.getfield 272, 3) := by decide +kernel
theorem dX9_count_111 : decode cX9_count 111 = .ok (.ireturn, 1) := by decide +kernel
theorem dX9_count_112 : decode cX9_count 112 = .ok (.aload_n 0, 1) := by decide +kernel
theorem dX9_count_113 : decode cX9_count 113 = .ok (.getfield 35, 3) := by decide +kernel
theorem dX9_count_116 : decode cX9_count 116 = .ok (.iconst 0, 1) := by decide +kernel
theorem dX9_count_117 : decode cX9_count 117 = .ok (.invokevirtual 222, 3) := by decide +kernel
theorem dX9_count_120 : decode cX9_count 120 = .ok (.ireturn, 1) := by decide +kernel
theorem dX9_count_121 : decode cX9_count 121 = .ok (.aload_n 0, 1) := by decide +kernel
theorem dX9_count_122 : decode cX9_count 122 = .ok (.getfield 35, 3) := by decide +kernel
theorem dX9_count_125 : decode cX9_count 125 = .ok (.iconst 2, 1) := by decide +kernel
theorem dX9_count_126 : decode cX9_count 126 = .ok (.invokevirtual 222, 3) := by decide +kernel
theorem dX9_count_129 : decode cX9_count 129 = .ok (.ireturn, 1) := by decide +kernel
theorem dX9_count_130 : decode cX9_count 130 = .ok (.aload_n 0, 1) := by decide +kernel
theorem dX9_count_131 : decode cX9_count 131 = .ok (.getfield 35, 3) := by decide +kernel
theorem dX9_count_134 : decode cX9_count 134 = .ok (.getfield 169, 3) := by decide +kernel
theorem dX9_count_137 : decode cX9_count 137 = .ok (.ireturn, 1) := by decide +kernel
theorem dX9_count_138 : decode cX9_count 138 = .ok (.aload_n 0, 1) := by decide +kernel
theorem dX9_count_139 : decode cX9_count 139 = .ok (.getfield 31, 3) := by decide +kernel
theorem dX9_count_142 : decode cX9_count 142 = .ok (.aload_n 0, 1) := by decide +kernel
theorem dX9_count_143 : decode cX9_count 143 = .ok (.getfield 35, 3) := by decide +kernel
theorem dX9_count_146 : decode cX9_count 146 = .ok (.getfield 169, 3) := by decide +kernel
theorem dX9_count_149 : decode cX9_count 149 = .ok (.invokevirtual 388, 3) := by decide +kernel
theorem dX9_count_152 : decode cX9_count 152 = .ok (.ireturn, 1) := by decide +kernel
theorem dX9_count_153 : decode cX9_count 153 = .ok (.aload_n 0, 1) := by decide +kernel
theorem dX9_count_154 : decode cX9_count 154 = .ok (.getfield 31, 3) := by decide +kernel
theorem dX9_count_157 : decode cX9_count 157 = .ok (.aload_n 0, 1) := by decide +kernel
theorem dX9_count_158 : decode cX9_count 158 = .ok (.getfield 35, 3) := by decide +kernel
theorem dX9_count_161 : decode cX9_count 161 = .ok (.getfield 169, 3) := by decide +kernel
theorem dX9_count_164 : decode cX9_count 164 = .ok (.invokevirtual 391, 3) := by decide +kernel
theorem dX9_count_167 : decode cX9_count 167 = .ok (.ireturn, 1) := by decide +kernel
theorem dX9_count_168 : decode cX9_count 168 = .ok (.aload_n 0, 1) := by decide +kernel
theorem dX9_count_169 : decode cX9_count 169 = .ok (.getfield 45, 3) := by decide +kernel
theorem dX9_count_172 : decode cX9_count 172 = .ok (.getfield 241, 3) := by decide +kernel
theorem dX9_count_175 : decode cX9_count 175 = .ok (.ireturn, 1) := by decide +kernel
theorem dX9_count_176 : decode cX9_count 176 = .ok (.aload_n 0, 1) := by decide +kernel
theorem dX9_count_177 : decode cX9_count 177 = .ok (.getfield 96, 3) := by decide +kernel
theorem dX9_count_180 : decode cX9_count 180 = .ok (.ireturn, 1) := by decide +kernel
theorem dX9_count_181 : decode cX9_count 181 = .ok (.aload_n 0, 1) := by decide +kernel
theorem dX9_count_182 : decode cX9_count 182 = .ok (.getfield 31, 3) := by decide +kernel
theorem dX9_count_185 : decode cX9_count 185 = .ok (.getfield 122, 3) := by decide +kernel
theorem dX9_count_188 : decode cX9_count 188 = .ok (.ireturn, 1) := by decide +kernel
theorem dX9_count_189 : decode cX9_count 189 = .ok (.aload_n 0, 1) := by decide +kernel
theorem dX9_count_190 : decode cX9_count 190 = .ok (.getfield 31, 3) := by decide +kernel
theorem dX9_count_193 : decode cX9_count 193 = .ok (.getfield 431, 3) := by decide +kernel
theorem dX9_count_196 : decode cX9_count 196 = .ok (.ireturn, 1) := by decide +kernel
theorem dX9_count_197 : decode cX9_count 197 = .ok (.iconst (-1), 1) := by decide +kernel
theorem dX9_count_198 : decode cX9_count 198 = .ok (.ireturn, 1) := by decide +kernel
theorem dX10_within_0 : decode cX10_within 0 = .ok (.lload_n 0, 1) := by decide +kernel
theorem dX10_within_1 : decode cX10_within 1 = .ok (.lload_n 2, 1) := by decide +kernel
theorem dX10_within_2 : decode cX10_within 2 = .ok (.lcmp, 1) := by decide +kernel
theorem dX10_within_3 : decode cX10_within 3 = .ok (.ifCond .lt 14, 3) := by decide +kernel
theorem dX10_within_6 : decode cX10_within 6 = .ok (.lload_n 0, 1) := by decide +kernel
theorem dX10_within_7 : decode cX10_within 7 = .ok (.lload 4, 2) := by decide +kernel
theorem dX10_within_9 : decode cX10_within 9 = .ok (.lcmp, 1) := by decide +kernel
theorem dX10_within_10 : decode cX10_within 10 = .ok (.ifCond .gt 7, 3) := by decide +kernel
theorem dX10_within_13 : decode cX10_within 13 = .ok (.iconst 1, 1) := by decide +kernel
theorem dX10_within_14 : decode cX10_within 14 = .ok (.goto 4, 3) := by decide +kernel
theorem dX10_within_17 : decode cX10_within 17 = .ok (.iconst 0, 1) := by decide +kernel
theorem dX10_within_18 : decode cX10_within 18 = .ok (.ireturn, 1) := by decide +kernel
theorem dX10_init_0 : decode cX10_init 0 = .ok (.aload_n 0, 1) := by decide +kernel
theorem dX10_init_1 : decode cX10_init 1 = .ok (.invokespecial 7, 3) := by decide +kernel
theorem dX10_init_4 : decode cX10_init 4 = .ok (.aload_n 0, 1) := by decide +kernel
theorem dX10_init_5 : decode cX10_init 5 = .ok (.sipush 5736, 3) := by decide +kernel
theorem dX10_init_8 : decode cX10_init 8 = .ok (.newarray .int, 2) := by decide +kernel
theorem dX10_init_10 : decode cX10_init 10 = .ok (.putfield 13, 3) := by decide +kernel
theorem dX10_init_13 : decode cX10_init 13 = .ok (.aload_n 0, 1) := by decide +kernel
theorem dX10_init_14 : decode cX10_init 14 = .ok (.iconst 2, 1) := by decide +kernel
theorem dX10_init_15 : decode cX10_init 15 = .ok (.newarray .boolean, 2) := by decide +kernel
theorem dX10_init_17 : decode cX10_init 17 = .ok (.putfield 17, 3) := by decide +kernel
theorem dX10_init_20 : decode cX10_init 20 = .ok (.aload_n 0, 1) := by decide +kernel
theorem dX10_init_21 : decode cX10_init 21 = .ok (.sipush 900, 3) := by decide +kernel
theorem dX10_init_24 : decode cX10_init 24 = .ok (.newarray .int, 2) := by decide +kernel
theorem dX10_init_26 : decode cX10_init 26 = .ok (.putfield 21, 3) := by decide +kernel
theorem dX10_init_29 : decode cX10_init 29 = .ok (.aload_n 0, 1) := by decide +kernel
theorem dX10_init_30 : decode cX10_init 30 = .ok (.sipush 1912, 3) := by decide +kernel
theorem dX10_init_33 : decode cX10_init 33 = .ok (.newarray .int, 2) := by decide +kernel
theorem dX10_init_35 : decode cX10_init 35 = .ok (.putfield 24, 3) := by decide +kernel
theorem dX10_init_38 : decode cX10_init 38 = .ok (.aload_n 0, 1) := by decide +kernel
theorem dX10_init_39 : decode cX10_init 39 = .ok (.iconst (-1), 1) := by decide +kernel
theorem dX10_init_40 : decode cX10_init 40 = .ok (.putfield 27, 3) := by decide +kernel
theorem dX10_init_43 : decode cX10_init 43 = .ok (.aload_n 0, 1) := by decide +kernel
theorem dX10_init_44 : decode cX10_init 44 = .ok (.bipush 8, 2) := by decide +kernel
theorem dX10_init_46 : decode cX10_init 46 = .ok (.newarray .int, 2) := by decide +kernel
theorem dX10_init_48 : decode cX10_init 48 = .ok (.putfield 30, 3) := by decide +kernel
theorem dX10_init_51 : decode cX10_init 51 = .ok (.aload_n 0, 1) := by decide +kernel
theorem dX10_init_52 : decode cX10_init 52 = .ok (.sipush 900, 3) := by decide +kernel
theorem dX10_init_55 : decode cX10_init 55 = .ok (.newarray .int, 2) := by decide +kernel
theorem dX10_init_57 : decode cX10_init 57 = .ok (.putfield 33, 3) := by decide +kernel
theorem dX10_init_60 : decode cX10_init 60 = .ok (.aload_n 0, 1) := by decide +kernel
theorem dX10_init_61 : decode cX10_init 61 = .ok (.iconst (-1), 1) := by decide +kernel
theorem dX10_init_62 : decode cX10_init 62 = .ok (.putfield 36, 3) := by decide +kernel
theorem dX10_init_65 : decode cX10_init 65 = .ok (.aload_n 0, 1) := by decide +kernel
theorem dX10_init_66 : decode cX10_init 66 = .ok (.bipush 66, 2) := by decide +kernel
theorem dX10_init_68 : decode cX10_init 68 = .ok (.newarray .int, 2) := by decide +kernel
theorem dX10_init_70 : decode cX10_init 70 = .ok (.putfield 39, 3) := by decide +kernel
theorem dX10_init_73 : decode cX10_init 73 = .ok (.aload_n 0, 1) := by decide +kernel
theorem dX10_init_74 : decode cX10_init 74 = .ok (.bipush 6, 2) := by decide +kernel
theorem dX10_init_76 : decode cX10_init 76 = .ok (.newarray .int, 2) := by decide +kernel
theorem dX10_init_78 : decode cX10_init 78 = .ok (.putfield 42, 3) := by decide +kernel
theorem dX10_init_81 : decode cX10_init 81 = .ok (.aload_n 0, 1) := by decide +kernel
theorem dX10_init_82 : decode cX10_init 82 = .ok (.bipush 6, 2) := by decide +kernel
theorem dX10_init_84 : decode cX10_init 84 = .ok (.newarray .int, 2) := by decide +kernel
theorem dX10_init_86 : decode cX10_init 86 = .ok (.putfield 45, 3) := by decide +kernel
theorem dX10_init_89 : decode cX10_init 89 = .ok (.aload_n 0, 1) := by decide +kernel
theorem dX10_init_90 : decode cX10_init 90 = .ok (.iconst 4, 1) := by decide +kernel
theorem dX10_init_91 : decode cX10_init 91 = .ok (.newarray .int, 2) := by decide +kernel
theorem dX10_init_93 : decode cX10_init 93 = .ok (.dup, 1) := by decide +kernel
theorem dX10_init_94 : decode cX10_init 94 = .ok (.iconst 0, 1) := by decide +kernel
theorem dX10_init_95 : decode cX10_init 95 = .ok (.iconst (-1), 1) := by decide +kernel
theorem dX10_init_96 : decode cX10_init 96 = .ok (.iastore, 1) := by decide +kernel
theorem dX10_init_97 : decode cX10_init 97 = .ok (.dup, 1) := by decide +kernel
theorem dX10_init_98 : decode cX10_init 98 = .ok (.iconst 1, 1) := by decide +kernel
theorem dX10_init_99 : decode cX10_init 99 = .ok (.iconst (-1), 1) := by decide +kernel
theorem dX10_init_100 : decode cX10_init 100 = .ok (.iastore, 1) := by decide +kernel
theorem dX10_init_101 : decode cX10_init 101 = .ok (.dup, 1) := by decide +kernel
theorem dX10_init_102 : decode cX10_init 102 = .ok (.iconst 2, 1) := by decide +kernel
theorem dX10_init_103 : decode cX10_init 103 = .ok (.iconst (-1), 1) := by decide +kernel
theorem dX10_init_104 : decode cX10_init 104 = .ok (.iastore, 1) := by decide +kernel
theorem dX10_init_105 : decode cX10_init 105 = .ok (.dup, 1) := by decide +kernel
theorem dX10_init_106 : decode cX10_init 106 = .ok (.iconst 3, 1) := by decide +kernel
theorem dX10_init_107 : decode cX10_init 107 = .ok (.iconst (-1), 1) := by decide +kernel
theorem dX10_init_108 : decode cX10_init 108 = .ok (.iastore, 1) := by decide +kernel
theorem dX10_init_109 : decode cX10_init 109 = .ok (.putfield 48, 3) := by decide +kernel
theorem dX10_init_112 : decode cX10_init 112 = .ok (.aload_n 0, 1) := by decide +kernel
theorem dX10_init_113 : decode cX10_init 113 = .ok (.iconst 4, 1) := by decide +kernel
theorem dX10_init_114 : decode cX10_init 114 = .ok (.newarray .int, 2) := by decide +kernel
theorem dX10_init_116 : decode cX10_init 116 = .ok (.putfield 51, 3) := by decide +kernel
theorem dX10_init_119 : decode cX10_init 119 = .ok (.aload_n 0, 1) := by decide +kernel
theorem dX10_init_120 : decode cX10_init 120 = .ok (.sipush 160, 3) := by decide +kernel
theorem dX10_init_123 : decode cX10_init 123 = .ok (.newarray .long, 2) := by decide +kernel
theorem dX10_init_125 : decode cX10_init 125 = .ok (.putfield 54, 3) := by decide +kernel
theorem dX10_init_128 : decode cX10_init 128 = .ok (.aload_n 0, 1) := by decide +kernel
theorem dX10_init_129 : decode cX10_init 129 = .ok (.getfield 13, 3) := by decide +kernel
theorem dX10_init_132 : decode cX10_init 132 = .ok (.invokestatic 58, 3) := by decide +kernel
theorem dX10_init_135 : decode cX10_init 135 = .ok (.return_, 1) := by decide +kernel
theorem dX10_plain_0 : decode cX10_plain 0 = .ok (.iconst 0, 1) := by decide +kernel
theorem dX10_plain_1 : decode cX10_plain 1 = .ok (.istore_n 1, 1) := by decide +kernel
theorem dX10_plain_2 : decode cX10_plain 2 = .ok (.iload_n 1, 1) := by decide +kernel
theorem dX10_plain_3 : decode cX10_plain 3 = .ok (.sipush 1912, 3) := by decide +kernel
theorem dX10_plain_6 : decode cX10_plain 6 = .ok (.if_icmp .ge 13, 3) := by decide +kernel
theorem dX10_plain_9 : decode cX10_plain 9 = .ok (.aload_n 0, 1) := by decide +kernel
theorem dX10_plain_10 : decode cX10_plain 10 = .ok (.iload_n 1, 1) := by decide +kernel
theorem dX10_plain_11 : decode cX10_plain 11 = .ok (.iconst 0, 1) := by decide +kernel
theorem dX10_plain_12 : decode cX10_plain 12 = .ok (.iastore, 1) := by decide +kernel
theorem dX10_plain_13 : decode cX10_plain 13 = .ok (.iinc 1 1, 3) := by decide +kernel
theorem dX10_plain_16 : decode cX10_plain 16 = .ok (.goto (-14), 3) := by decide +kernel
theorem dX10_plain_19 : decode cX10_plain 19 = .ok (.aload_n 0, 1) := by decide +kernel
theorem dX10_plain_20 : decode cX10_plain 20 = .ok (.iconst 3, 1) := by decide +kernel
theorem dX10_plain_21 : decode cX10_plain 21 = .ok (.iconst 1, 1) := by decide +kernel
theorem dX10_plain_22 : decode cX10_plain 22 = .ok (.iastore, 1) := by decide +kernel
theorem dX10_plain_23 : decode cX10_plain 23 = .ok (.return_, 1) := by decide +kernel
theorem dX10_feed_0 : decode cX10_feed 0 = .ok (.aload_n 0, 1) := by decide +kernel
theorem dX10_feed_1 : decode cX10_feed 1 = .ok (.iconst 0, 1) := by decide +kernel
theorem dX10_feed_2 : decode cX10_feed 2 = .ok (.putfield 1, 3) := by decide +kernel
theorem dX10_feed_5 : decode cX10_feed 5 = .ok (.aload_n 0, 1) := by decide +kernel
theorem dX10_feed_6 : decode cX10_feed 6 = .ok (.getfield 62, 3) := by decide +kernel
theorem dX10_feed_9 : decode cX10_feed 9 = .ok (.bipush 20, 2) := by decide +kernel
theorem dX10_feed_11 : decode cX10_feed 11 = .ok (.iadd, 1) := by decide +kernel
theorem dX10_feed_12 : decode cX10_feed 12 = .ok (.sipush 900, 3) := by decide +kernel
theorem dX10_feed_15 : decode cX10_feed 15 = .ok (.if_icmp .le 6, 3) := by decide +kernel
theorem dX10_feed_18 : decode cX10_feed 18 = .ok (.bipush (-5), 2) := by decide +kernel
theorem dX10_feed_20 : decode cX10_feed 20 = .ok (.ireturn, 1) := by decide +kernel
theorem dX10_feed_21 : decode cX10_feed 21 = .ok (.iconst 0, 1) := by decide +kernel
theorem dX10_feed_22 : decode cX10_feed 22 = .ok (.istore 6, 2) := by decide +kernel
theorem dX10_feed_24 : decode cX10_feed 24 = .ok (.iload 6, 2) := by decide +kernel
theorem dX10_feed_26 : decode cX10_feed 26 = .ok (.bipush 20, 2) := by decide +kernel
theorem dX10_feed_28 : decode cX10_feed 28 = .ok (.if_icmp .ge 93, 3) := by decide +kernel
theorem dX10_feed_31 : decode cX10_feed 31 = .ok (.iload 6, 2) := by decide +kernel
theorem dX10_feed_33 : decode cX10_feed 33 = .ok (.iconst 4, 1) := by decide +kernel
theorem dX10_feed_34 : decode cX10_feed 34 = .ok (.if_icmp .ge 7, 3) := by decide +kernel
theorem dX10_feed_37 : decode cX10_feed 37 = .ok (.iload_n 1, 1) := by decide +kernel
theorem dX10_feed_38 : decode cX10_feed 38 = .ok (.goto 39, 3) := by decide +kernel
theorem dX10_feed_41 : decode cX10_feed 41 = .ok (.iload 6, 2) := by decide +kernel
theorem dX10_feed_43 : decode cX10_feed 43 = .ok (.bipush 8, 2) := by decide +kernel
theorem dX10_feed_45 : decode cX10_feed 45 = .ok (.if_icmp .ge 7, 3) := by decide +kernel
theorem dX10_feed_48 : decode cX10_feed 48 = .ok (.iload_n 2, 1) := by decide +kernel
theorem dX10_feed_49 : decode cX10_feed 49 = .ok (.goto 28, 3) := by decide +kernel
theorem dX10_feed_52 : decode cX10_feed 52 = .ok (.iload 6, 2) := by decide +kernel
theorem dX10_feed_54 : decode cX10_feed 54 = .ok (.bipush 12, 2) := by decide +kernel
theorem dX10_feed_56 : decode cX10_feed 56 = .ok (.if_icmp .ge 7, 3) := by decide +kernel
theorem dX10_feed_59 : decode cX10_feed 59 = .ok (.iload_n 3, 1) := by decide +kernel
theorem dX10_feed_60 : decode cX10_feed 60 = .ok (.goto 17, 3) := by decide +kernel
theorem dX10_feed_63 : decode cX10_feed 63 = .ok (.iload 6, 2) := by decide +kernel
theorem dX10_feed_65 : decode cX10_feed 65 = .ok (.bipush 16, 2) := by decide +kernel
theorem dX10_feed_67 : decode cX10_feed 67 = .ok (.if_icmp .ge 8, 3) := by decide +kernel
theorem dX10_feed_70 : decode cX10_feed 70 = .ok (.iload 4, 2) := by decide +kernel
theorem dX10_feed_72 : decode cX10_feed 72 = .ok (.goto 5, 3) := by decide +kernel
theorem dX10_feed_75 : decode cX10_feed 75 = .ok (.iload 5, 2) := by decide +kernel
theorem dX10_feed_77 : decode cX10_feed 77 = .ok (.istore 7, 2) := by decide +kernel
theorem dX10_feed_79 : decode cX10_feed 79 = .ok (.aload_n 0, 1) := by decide +kernel
theorem dX10_feed_80 : decode cX10_feed 80 = .ok (.getfield 21, 3) := by decide +kernel
theorem dX10_feed_83 : decode cX10_feed 83 = .ok (.aload_n 0, 1) := by decide +kernel
theorem dX10_feed_84 : decode cX10_feed 84 = .ok (.getfield 62, 3) := by decide +kernel
theorem dX10_feed_87 : decode cX10_feed 87 = .ok (.iload 7, 2) := by decide +kernel
theorem dX10_feed_89 : decode cX10_feed 89 = .ok (.bipush 24, 2) := by decide +kernel
theorem dX10_feed_91 : decode cX10_feed 91 = .ok (.bipush 8, 2) := by decide +kernel
theorem dX10_feed_93 : decode cX10_feed 93 = .ok (.iload 6, 2) := by decide +kernel
theorem dX10_feed_95 : decode cX10_feed 95 = .ok (.iconst 4, 1) := by decide +kernel
theorem dX10_feed_96 : decode cX10_feed 96 = .ok (.irem, 1) := by decide +kernel
theorem dX10_feed_97 : decode cX10_feed 97 = .ok (.imul, 1) := by decide +kernel
theorem dX10_feed_98 : decode cX10_feed 98 = .ok (.isub, 1) := by decide +kernel
theorem dX10_feed_99 : decode cX10_feed 99 = .ok (.ishr, 1) := by decide +kernel
theorem dX10_feed_100 : decode cX10_feed 100 = .ok (.sipush 255, 3) := by decide +kernel
theorem dX10_feed_103 : decode cX10_feed 103 = .ok (.iand, 1) := by decide +kernel
theorem dX10_feed_104 : decode cX10_feed 104 = .ok (.iastore, 1) := by decide +kernel
theorem dX10_feed_105 : decode cX10_feed 105 = .ok (.aload_n 0, 1) := by decide +kernel
theorem dX10_feed_106 : decode cX10_feed 106 = .ok (.dup, 1) := by decide +kernel
theorem dX10_feed_107 : decode cX10_feed 107 = .ok (.getfield 62, 3) := by decide +kernel
theorem dX10_feed_110 : decode cX10_feed 110 = .ok (.iconst 1, 1) := by decide +kernel
theorem dX10_feed_111 : decode cX10_feed 111 = .ok (.iadd, 1) := by decide +kernel
theorem dX10_feed_112 : decode cX10_feed 112 = .ok (.putfield 62, 3) := by decide +kernel
theorem dX10_feed_115 : decode cX10_feed 115 = .ok (.iinc 6 1, 3) := by decide +kernel
theorem dX10_feed_118 : decode cX10_feed 118 = .ok (.goto (-94), 3) := by decide +kernel
theorem dX10_feed_121 : decode cX10_feed 121 = .ok (.aload_n 0, 1) := by decide +kernel
theorem dX10_feed_122 : decode cX10_feed 122 = .ok (.getfield 62, 3) := by decide +kernel
theorem dX10_feed_125 : decode cX10_feed 125 = .ok (.ireturn, 1) := by decide +kernel
theorem dX10_see_0 : decode cX10_see 0 = .ok (.iload_n 1, 1) := by decide +kernel
theorem dX10_see_1 : decode cX10_see 1 = .ok (.aload_n 0, 1) := by decide +kernel
theorem dX10_see_2 : decode cX10_see 2 = .ok (.getfield 65, 3) := by decide +kernel
theorem dX10_see_5 : decode cX10_see 5 = .ok (.if_icmp .ge 12, 3) := by decide +kernel
theorem dX10_see_8 : decode cX10_see 8 = .ok (.aload_n 0, 1) := by decide +kernel
theorem dX10_see_9 : decode cX10_see 9 = .ok (.getfield 21, 3) := by decide +kernel
theorem dX10_see_12 : decode cX10_see 12 = .ok (.iload_n 1, 1) := by decide +kernel
theorem dX10_see_13 : decode cX10_see 13 = .ok (.iaload, 1) := by decide +kernel
theorem dX10_see_14 : decode cX10_see 14 = .ok (.goto 4, 3) := by decide +kernel
theorem dX10_see_17 : decode cX10_see 17 = .ok (.iconst (-1), 1) := by decide +kernel
theorem dX10_see_18 : decode cX10_see 18 = .ok (.ireturn, 1) := by decide +kernel
theorem dX10_isSmall_0 : decode cX10_isSmall 0 = .ok (.iload_n 0, 1) := by decide +kernel
theorem dX10_isSmall_1 : decode cX10_isSmall 1 = .ok (.bipush 97, 2) := by decide +kernel
theorem dX10_isSmall_3 : decode cX10_isSmall 3 = .ok (.if_icmp .lt 13, 3) := by decide +kernel
theorem dX10_isSmall_6 : decode cX10_isSmall 6 = .ok (.iload_n 0, 1) := by decide +kernel
theorem dX10_isSmall_7 : decode cX10_isSmall 7 = .ok (.bipush 122, 2) := by decide +kernel
theorem dX10_isSmall_9 : decode cX10_isSmall 9 = .ok (.if_icmp .gt 7, 3) := by decide +kernel
theorem dX10_isSmall_12 : decode cX10_isSmall 12 = .ok (.iconst 1, 1) := by decide +kernel
theorem dX10_isSmall_13 : decode cX10_isSmall 13 = .ok (.goto 4, 3) := by decide +kernel
theorem dX10_isSmall_16 : decode cX10_isSmall 16 = .ok (.iconst 0, 1) := by decide +kernel
theorem dX10_isSmall_17 : decode cX10_isSmall 17 = .ok (.ireturn, 1) := by decide +kernel
theorem dX10_isDigit_0 : decode cX10_isDigit 0 = .ok (.iload_n 0, 1) := by decide +kernel
theorem dX10_isDigit_1 : decode cX10_isDigit 1 = .ok (.bipush 48, 2) := by decide +kernel
theorem dX10_isDigit_3 : decode cX10_isDigit 3 = .ok (.if_icmp .lt 13, 3) := by decide +kernel
theorem dX10_isDigit_6 : decode cX10_isDigit 6 = .ok (.iload_n 0, 1) := by decide +kernel
theorem dX10_isDigit_7 : decode cX10_isDigit 7 = .ok (.bipush 57, 2) := by decide +kernel
theorem dX10_isDigit_9 : decode cX10_isDigit 9 = .ok (.if_icmp .gt 7, 3) := by decide +kernel
theorem dX10_isDigit_12 : decode cX10_isDigit 12 = .ok (.iconst 1, 1) := by decide +kernel
theorem dX10_isDigit_13 : decode cX10_isDigit 13 = .ok (.goto 4, 3) := by decide +kernel
theorem dX10_isDigit_16 : decode cX10_isDigit 16 = .ok (.iconst 0, 1) := by decide +kernel
theorem dX10_isDigit_17 : decode cX10_isDigit 17 = .ok (.ireturn, 1) := by decide +kernel
theorem dX10_keyAt_0 : decode cX10_keyAt 0 = .ok (.iconst 0, 1) := by decide +kernel
theorem dX10_keyAt_1 : decode cX10_keyAt 1 = .ok (.istore_n 1, 1) := by decide +kernel
theorem dX10_keyAt_2 : decode cX10_keyAt 2 = .ok (.iconst 1, 1) := by decide +kernel
theorem dX10_keyAt_3 : decode cX10_keyAt 3 = .ok (.istore_n 2, 1) := by decide +kernel
theorem dX10_keyAt_4 : decode cX10_keyAt 4 = .ok (.iload_n 2, 1) := by decide +kernel
theorem dX10_keyAt_5 : decode cX10_keyAt 5 = .ok (.ldc 68, 2) := by decide +kernel
theorem dX10_keyAt_7 : decode cX10_keyAt 7 = .ok (.invokevirtual 70, 3) := by decide +kernel
theorem dX10_keyAt_10 : decode cX10_keyAt 10 = .ok (.if_icmp .ge 113, 3) := by decide +kernel
theorem dX10_keyAt_13 : decode cX10_keyAt 13 = .ok (.iconst 0, 1) := by decide +kernel
theorem dX10_keyAt_14 : decode cX10_keyAt 14 = .ok (.istore_n 3, 1) := by decide +kernel
theorem dX10_keyAt_15 : decode cX10_keyAt 15 = .ok (.ldc 68, 2) := by decide +kernel
theorem dX10_keyAt_17 : decode cX10_keyAt 17 = .ok (.iload_n 2, 1) := by decide +kernel
theorem dX10_keyAt_18 : decode cX10_keyAt 18 = .ok (.iload_n 3, 1) := by decide +kernel
theorem dX10_keyAt_19 : decode cX10_keyAt 19 = .ok (.iadd, 1) := by decide +kernel
theorem dX10_keyAt_20 : decode cX10_keyAt 20 = .ok (.invokevirtual 76, 3) := by decide +kernel
theorem dX10_keyAt_23 : decode cX10_keyAt 23 = .ok (.bipush 32, 2) := by decide +kernel
theorem dX10_keyAt_25 : decode cX10_keyAt 25 = .ok (.if_icmp .eq 44, 3) := by decide +kernel
theorem dX10_keyAt_28 : decode cX10_keyAt 28 = .ok (.aload_n 0, 1) := by decide +kernel
theorem dX10_keyAt_29 : decode cX10_keyAt 29 = .ok (.getfield 80, 3) := by decide +kernel
theorem dX10_keyAt_32 : decode cX10_keyAt 32 = .ok (.iload_n 3, 1) := by decide +kernel
theorem dX10_keyAt_33 : decode cX10_keyAt 33 = .ok (.iadd, 1) := by decide +kernel
theorem dX10_keyAt_34 : decode cX10_keyAt 34 = .ok (.aload_n 0, 1) := by decide +kernel
theorem dX10_keyAt_35 : decode cX10_keyAt 35 = .ok (.getfield 83, 3) := by decide +kernel
theorem dX10_keyAt_38 : decode cX10_keyAt 38 = .ok (.if_icmp .ge 31, 3) := by decide +kernel
theorem dX10_keyAt_41 : decode cX10_keyAt 41 = .ok (.aload_n 0, 1) := by decide +kernel
theorem dX10_keyAt_42 : decode cX10_keyAt 42 = .ok (.getfield 21, 3) := by decide +kernel
theorem dX10_keyAt_45 : decode cX10_keyAt 45 = .ok (.aload_n 0, 1) := by decide +kernel
theorem dX10_keyAt_46 : decode cX10_keyAt 46 = .ok (.getfield 80, 3) := by decide +kernel
theorem dX10_keyAt_49 : decode cX10_keyAt 49 = .ok (.iload_n 3, 1) := by decide +kernel
theorem dX10_keyAt_50 : decode cX10_keyAt 50 = .ok (.iadd, 1) := by decide +kernel
theorem dX10_keyAt_51 : decode cX10_keyAt 51 = .ok (.iaload, 1) := by decide +kernel
theorem dX10_keyAt_52 : decode cX10_keyAt 52 = .ok (.ldc 68, 2) := by decide +kernel
theorem dX10_keyAt_54 : decode cX10_keyAt 54 = .ok (.iload_n 2, 1) := by decide +kernel
theorem dX10_keyAt_55 : decode cX10_keyAt 55 = .ok (.iload_n 3, 1) := by decide +kernel
theorem dX10_keyAt_56 : decode cX10_keyAt 56 = .ok (.iadd, 1) := by decide +kernel
theorem dX10_keyAt_57 : decode cX10_keyAt 57 = .ok (.invokevirtual 76, 3) := by decide +kernel
theorem dX10_keyAt_60 : decode cX10_keyAt 60 = .ok (.if_icmp .ne 9, 3) := by decide +kernel
theorem dX10_keyAt_63 : decode cX10_keyAt 63 = .ok (.iinc 3 1, 3) := by decide +kernel
theorem dX10_keyAt_66 : decode cX10_keyAt 66 = .ok (.goto (-51), 3) := by decide +kernel
theorem dX10_keyAt_69 : decode cX10_keyAt 69 = .ok (.ldc 68, 2) := by decide +kernel
theorem dX10_keyAt_71 : decode cX10_keyAt 71 = .ok (.iload_n 2, 1) := by decide +kernel
theorem dX10_keyAt_72 : decode cX10_keyAt 72 = .ok (.iload_n 3, 1) := by decide +kernel
theorem dX10_keyAt_73 : decode cX10_keyAt 73 = .ok (.iadd, 1) := by decide +kernel
theorem dX10_keyAt_74 : decode cX10_keyAt 74 = .ok (.invokevirtual 76, 3) := by decide +kernel
theorem dX10_keyAt_77 : decode cX10_keyAt 77 = .ok (.bipush 32, 2) := by decide +kernel
theorem dX10_keyAt_79 : decode cX10_keyAt 79 = .ok (.if_icmp .ne 18, 3) := by decide +kernel
theorem dX10_keyAt_82 : decode cX10_keyAt 82 = .ok (.aload_n 0, 1) := by decide +kernel
theorem dX10_keyAt_83 : decode cX10_keyAt 83 = .ok (.getfield 80, 3) := by decide +kernel
theorem dX10_keyAt_86 : decode cX10_keyAt 86 = .ok (.iload_n 3, 1) := by decide +kernel
theorem dX10_keyAt_87 : decode cX10_keyAt 87 = .ok (.iadd, 1) := by decide +kernel
theorem dX10_keyAt_88 : decode cX10_keyAt 88 = .ok (.aload_n 0, 1) := by decide +kernel
theorem dX10_keyAt_89 : decode cX10_keyAt 89 = .ok (.getfield 83, 3) := by decide +kernel
theorem dX10_keyAt_92 : decode cX10_keyAt 92 = .ok (.if_icmp .ne 5, 3) := by decide +kernel
theorem dX10_keyAt_95 : decode cX10_keyAt 95 = .ok (.iload_n 1, 1) := by decide +kernel
theorem dX10_keyAt_96 : decode cX10_keyAt 96 = .ok (.ireturn, 1) := by decide +kernel
theorem dX10_keyAt_97 : decode cX10_keyAt 97 = .ok (.ldc 68, 2) := by decide +kernel
theorem dX10_keyAt_99 : decode cX10_keyAt 99 = .ok (.iload_n 2, 1) := by decide +kernel
theorem dX10_keyAt_100 : decode cX10_keyAt 100 = .ok (.invokevirtual 76, 3) := by decide +kernel
theorem dX10_keyAt_103 : decode cX10_keyAt 103 = .ok (.bipush 32, 2) := by decide +kernel
theorem dX10_keyAt_105 : decode cX10_keyAt 105 = .ok (.if_icmp .eq 9, 3) := by decide +kernel
theorem dX10_keyAt_108 : decode cX10_keyAt 108 = .ok (.iinc 2 1, 3) := by decide +kernel
theorem dX10_keyAt_111 : decode cX10_keyAt 111 = .ok (.goto (-14), 3) := by decide +kernel
theorem dX10_keyAt_114 : decode cX10_keyAt 114 = .ok (.iinc 2 1, 3) := by decide +kernel
theorem dX10_keyAt_117 : decode cX10_keyAt 117 = .ok (.iinc 1 1, 3) := by decide +kernel
theorem dX10_keyAt_120 : decode cX10_keyAt 120 = .ok (.goto (-116), 3) := by decide +kernel
theorem dX10_keyAt_123 : decode cX10_keyAt 123 = .ok (.bipush 30, 2) := by decide +kernel
theorem dX10_keyAt_125 : decode cX10_keyAt 125 = .ok (.ireturn, 1) := by decide +kernel
theorem dX10_next_0 : decode cX10_next 0 = .ok (.aload_n 0, 1) := by decide +kernel
theorem dX10_next_1 : decode cX10_next 1 = .ok (.aload_n 0, 1) := by decide +kernel
theorem dX10_next_2 : decode cX10_next 2 = .ok (.getfield 83, 3) := by decide +kernel
theorem dX10_next_5 : decode cX10_next 5 = .ok (.putfield 80, 3) := by decide +kernel
theorem dX10_next_8 : decode cX10_next 8 = .ok (.aload_n 0, 1) := by decide +kernel
theorem dX10_next_9 : decode cX10_next 9 = .ok (.aload_n 0, 1) := by decide +kernel
theorem dX10_next_10 : decode cX10_next 10 = .ok (.getfield 80, 3) := by decide +kernel
theorem dX10_next_13 : decode cX10_next 13 = .ok (.invokevirtual 86, 3) := by decide +kernel
theorem dX10_next_16 : decode cX10_next 16 = .ok (.bipush 10, 2) := by decide +kernel
theorem dX10_next_18 : decode cX10_next 18 = .ok (.if_icmp .eq 16, 3) := by decide +kernel
theorem dX10_next_21 : decode cX10_next 21 = .ok (.aload_n 0, 1) := by decide +kernel
theorem dX10_next_22 : decode cX10_next 22 = .ok (.aload_n 0, 1) := by decide +kernel
theorem dX10_next_23 : decode cX10_next 23 = .ok (.getfield 80, 3) := by decide +kernel
theorem dX10_next_26 : decode cX10_next 26 = .ok (.invokevirtual 86, 3) := by decide +kernel
theorem dX10_next_29 : decode cX10_next 29 = .ok (.bipush 32, 2) := by decide +kernel
theorem dX10_next_31 : decode cX10_next 31 = .ok (.if_icmp .ne 16, 3) := by decide +kernel
theorem dX10_next_34 : decode cX10_next 34 = .ok (.aload_n 0, 1) := by decide +kernel
theorem dX10_next_35 : decode cX10_next 35 = .ok (.dup, 1) := by decide +kernel
theorem dX10_next_36 : decode cX10_next 36 = .ok (.getfield 80, 3) := by decide +kernel
theorem dX10_next_39 : decode cX10_next 39 = .ok (.iconst 1, 1) := by decide +kernel
theorem dX10_next_40 : decode cX10_next 40 = .ok (.iadd, 1) := by decide +kernel
theorem dX10_next_41 : decode cX10_next 41 = .ok (.putfield 80, 3) := by decide +kernel
theorem dX10_next_44 : decode cX10_next 44 = .ok (.goto (-36), 3) := by decide +kernel
theorem dX10_next_47 : decode cX10_next 47 = .ok (.aload_n 0, 1) := by decide +kernel
theorem dX10_next_48 : decode cX10_next 48 = .ok (.aload_n 0, 1) := by decide +kernel
theorem dX10_next_49 : decode cX10_next 49 = .ok (.getfield 80, 3) := by decide +kernel
theorem dX10_next_52 : decode cX10_next 52 = .ok (.putfield 83, 3) := by decide +kernel
theorem dX10_next_55 : decode cX10_next 55 = .ok (.aload_n 0, 1) := by decide +kernel
theorem dX10_next_56 : decode cX10_next 56 = .ok (.getfield 80, 3) := by decide +kernel
theorem dX10_next_59 : decode cX10_next 59 = .ok (.aload_n 0, 1) := by decide +kernel
theorem dX10_next_60 : decode cX10_next 60 = .ok (.getfield 65, 3) := by decide +kernel
theorem dX10_next_63 : decode cX10_next 63 = .ok (.if_icmp .lt 12, 3) := by decide +kernel
theorem dX10_next_66 : decode cX10_next 66 = .ok (.aload_n 0, 1) := by decide +kernel
theorem dX10_next_67 : decode cX10_next 67 = .ok (.bipush 32, 2) := by decide +kernel
theorem dX10_next_69 : decode cX10_next 69 = .ok (.putfield 90, 3) := by decide +kernel
theorem dX10_next_72 : decode cX10_next 72 = .ok (.goto 222, 3) := by decide +kernel
theorem dX10_next_75 : decode cX10_next 75 = .ok (.aload_n 0, 1) := by decide +kernel
theorem dX10_next_76 : decode cX10_next 76 = .ok (.aload_n 0, 1) := by decide +kernel
theorem dX10_next_77 : decode cX10_next 77 = .ok (.getfield 80, 3) := by decide +kernel
theorem dX10_next_80 : decode cX10_next 80 = .ok (.invokevirtual 86, 3) := by decide +kernel
theorem dX10_next_83 : decode cX10_next 83 = .ok (.invokestatic 93, 3) := by decide +kernel
theorem dX10_next_86 : decode cX10_next 86 = .ok (.ifCond .eq 41, 3) := by decide +kernel
theorem dX10_next_89 : decode cX10_next 89 = .ok (.aload_n 0, 1) := by decide +kernel
theorem dX10_next_90 : decode cX10_next 90 = .ok (.aload_n 0, 1) := by decide +kernel
theorem dX10_next_91 : decode cX10_next 91 = .ok (.getfield 83, 3) := by decide +kernel
theorem dX10_next_94 : decode cX10_next 94 = .ok (.invokevirtual 86, 3) := by decide +kernel
theorem dX10_next_97 : decode cX10_next 97 = .ok (.invokestatic 93, 3) := by decide +kernel
theorem dX10_next_100 : decode cX10_next 100 = .ok (.ifCond .eq 16, 3) := by decide +kernel
theorem dX10_next_103 : decode cX10_next 103 = .ok (.aload_n 0, 1) := by decide +kernel
theorem dX10_next_104 : decode cX10_next 104 = .ok (.dup, 1) := by decide +kernel
theorem dX10_next_105 : decode cX10_next 105 = .ok (.getfield 83, 3) := by decide +kernel
theorem dX10_next_108 : decode cX10_next 108 = .ok (.iconst 1, 1) := by decide +kernel
theorem dX10_next_109 : decode cX10_next 109 = .ok (.iadd, 1) := by decide +kernel
theorem dX10_next_110 : decode cX10_next 110 = .ok (.putfield 83, 3) := by decide +kernel
theorem dX10_next_113 : decode cX10_next 113 = .ok (.goto (-24), 3) := by decide +kernel
theorem dX10_next_116 : decode cX10_next 116 = .ok (.aload_n 0, 1) := by decide +kernel
theorem dX10_next_117 : decode cX10_next 117 = .ok (.aload_n 0, 1) := by decide +kernel
theorem dX10_next_118 : decode cX10_next 118 = .ok (.invokevirtual 97, 3) := by decide +kernel
theorem dX10_next_121 : decode cX10_next 121 = .ok (.putfield 90, 3) := by decide +kernel
theorem dX10_next_124 : decode cX10_next 124 = .ok (.goto 170, 3) := by decide +kernel
theorem dX10_next_127 : decode cX10_next 127 = .ok (.aload_n 0, 1) := by decide +kernel
theorem dX10_next_128 : decode cX10_next 128 = .ok (.aload_n 0, 1) := by decide +kernel
theorem dX10_next_129 : decode cX10_next 129 = .ok (.getfield 80, 3) := by decide +kernel
