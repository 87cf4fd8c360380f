theorem dX10_goes_22 : decode cX10_goes 22 = .ok (.iconst 1, 1) := by decide +kernel
theorem dX10_goes_23 : decode cX10_goes 23 = .ok (.iaload, 1) := by decide +kernel
theorem dX10_goes_24 : decode cX10_goes 24 = .ok (.iload_n 1, 1) := by decide +kernel
theorem dX10_goes_25 : decode cX10_goes 25 = .ok (.invokevirtual 201, 3) := by decide +kernel
theorem dX10_goes_28 : decode cX10_goes 28 = .ok (.istore_n 2, 1) := by decide +kernel
theorem dX10_goes_29 : decode cX10_goes 29 = .ok (.iload_n 2, 1) := by decide +kernel
theorem dX10_goes_30 : decode cX10_goes 30 = .ok (.iconst (-1), 1) := by decide +kernel
theorem dX10_goes_31 : decode cX10_goes 31 = .ok (.if_icmp .ne 4, 3) := by decide +kernel
theorem dX10_goes_34 : decode cX10_goes 34 = .ok (.return_, 1) := by decide +kernel
theorem dX10_goes_35 : decode cX10_goes 35 = .ok (.aload_n 0, 1) := by decide +kernel
theorem dX10_goes_36 : decode cX10_goes 36 = .ok (.getfield 30, 3) := by decide +kernel
theorem dX10_goes_39 : decode cX10_goes 39 = .ok (.iconst 1, 1) := by decide +kernel
theorem dX10_goes_40 : decode cX10_goes 40 = .ok (.iload_n 2, 1) := by decide +kernel
theorem dX10_goes_41 : decode cX10_goes 41 = .ok (.iastore, 1) := by decide +kernel
theorem dX10_goes_42 : decode cX10_goes 42 = .ok (.aload_n 0, 1) := by decide +kernel
theorem dX10_goes_43 : decode cX10_goes 43 = .ok (.getfield 30, 3) := by decide +kernel
theorem dX10_goes_46 : decode cX10_goes 46 = .ok (.iconst 0, 1) := by decide +kernel
theorem dX10_goes_47 : decode cX10_goes 47 = .ok (.aload_n 0, 1) := by decide +kernel
theorem dX10_goes_48 : decode cX10_goes 48 = .ok (.getfield 13, 3) := by decide +kernel
theorem dX10_goes_51 : decode cX10_goes 51 = .ok (.bipush 14, 2) := by decide +kernel
theorem dX10_goes_53 : decode cX10_goes 53 = .ok (.iload_n 2, 1) := by decide +kernel
theorem dX10_goes_54 : decode cX10_goes 54 = .ok (.iadd, 1) := by decide +kernel
theorem dX10_goes_55 : decode cX10_goes 55 = .ok (.iaload, 1) := by decide +kernel
theorem dX10_goes_56 : decode cX10_goes 56 = .ok (.ifCond .ne 7, 3) := by decide +kernel
theorem dX10_goes_59 : decode cX10_goes 59 = .ok (.iconst 0, 1) := by decide +kernel
theorem dX10_goes_60 : decode cX10_goes 60 = .ok (.goto 21, 3) := by decide +kernel
theorem dX10_goes_63 : decode cX10_goes 63 = .ok (.aload_n 0, 1) := by decide +kernel
theorem dX10_goes_64 : decode cX10_goes 64 = .ok (.getfield 13, 3) := by decide +kernel
theorem dX10_goes_67 : decode cX10_goes 67 = .ok (.bipush 14, 2) := by decide +kernel
theorem dX10_goes_69 : decode cX10_goes 69 = .ok (.iload_n 2, 1) := by decide +kernel
theorem dX10_goes_70 : decode cX10_goes 70 = .ok (.iadd, 1) := by decide +kernel
theorem dX10_goes_71 : decode cX10_goes 71 = .ok (.iaload, 1) := by decide +kernel
theorem dX10_goes_72 : decode cX10_goes 72 = .ok (.iconst 1, 1) := by decide +kernel
theorem dX10_goes_73 : decode cX10_goes 73 = .ok (.if_icmp .ne 7, 3) := by decide +kernel
theorem dX10_goes_76 : decode cX10_goes 76 = .ok (.iconst 3, 1) := by decide +kernel
theorem dX10_goes_77 : decode cX10_goes 77 = .ok (.goto 4, 3) := by decide +kernel
theorem dX10_goes_80 : decode cX10_goes 80 = .ok (.iconst 1, 1) := by decide +kernel
theorem dX10_goes_81 : decode cX10_goes 81 = .ok (.iastore, 1) := by decide +kernel
theorem dX10_goes_82 : decode cX10_goes 82 = .ok (.return_, 1) := by decide +kernel
theorem dX10_goesCurrent_0 : decode cX10_goesCurrent 0 = .ok (.aload_n 0, 1) := by decide +kernel
theorem dX10_goesCurrent_1 : decode cX10_goesCurrent 1 = .ok (.getfield 30, 3) := by decide +kernel
theorem dX10_goesCurrent_4 : decode cX10_goesCurrent 4 = .ok (.iconst 0, 1) := by decide +kernel
theorem dX10_goesCurrent_5 : decode cX10_goesCurrent 5 = .ok (.iaload, 1) := by decide +kernel
theorem dX10_goesCurrent_6 : decode cX10_goesCurrent 6 = .ok (.ifCond .ne 30, 3) := by decide +kernel
theorem dX10_goesCurrent_9 : decode cX10_goesCurrent 9 = .ok (.aload_n 0, 1) := by decide +kernel
theorem dX10_goesCurrent_10 : decode cX10_goesCurrent 10 = .ok (.aload_n 0, 1) := by decide +kernel
theorem dX10_goesCurrent_11 : decode cX10_goesCurrent 11 = .ok (.getfield 13, 3) := by decide +kernel
theorem dX10_goesCurrent_14 : decode cX10_goesCurrent 14 = .ok (.bipush 50, 2) := by decide +kernel
theorem dX10_goesCurrent_16 : decode cX10_goesCurrent 16 = .ok (.bipush 6, 2) := by decide +kernel
theorem dX10_goesCurrent_18 : decode cX10_goesCurrent 18 = .ok (.aload_n 0, 1) := by decide +kernel
theorem dX10_goesCurrent_19 : decode cX10_goesCurrent 19 = .ok (.getfield 30, 3) := by decide +kernel
theorem dX10_goesCurrent_22 : decode cX10_goesCurrent 22 = .ok (.iconst 1, 1) := by decide +kernel
theorem dX10_goesCurrent_23 : decode cX10_goesCurrent 23 = .ok (.iaload, 1) := by decide +kernel
theorem dX10_goesCurrent_24 : decode cX10_goesCurrent 24 = .ok (.imul, 1) := by decide +kernel
theorem dX10_goesCurrent_25 : decode cX10_goesCurrent 25 = .ok (.iadd, 1) := by decide +kernel
theorem dX10_goesCurrent_26 : decode cX10_goesCurrent 26 = .ok (.aload_n 0, 1) := by decide +kernel
theorem dX10_goesCurrent_27 : decode cX10_goesCurrent 27 = .ok (.iload_n 1, 1) := by decide +kernel
theorem dX10_goesCurrent_28 : decode cX10_goesCurrent 28 = .ok (.invokevirtual 211, 3) := by decide +kernel
theorem dX10_goesCurrent_31 : decode cX10_goesCurrent 31 = .ok (.iadd, 1) := by decide +kernel
theorem dX10_goesCurrent_32 : decode cX10_goesCurrent 32 = .ok (.iaload, 1) := by decide +kernel
theorem dX10_goesCurrent_33 : decode cX10_goesCurrent 33 = .ok (.invokevirtual 233, 3) := by decide +kernel
theorem dX10_goesCurrent_36 : decode cX10_goesCurrent 36 = .ok (.return_, 1) := by decide +kernel
theorem dX10_isKept_0 : decode cX10_isKept 0 = .ok (.aload_n 0, 1) := by decide +kernel
theorem dX10_isKept_1 : decode cX10_isKept 1 = .ok (.iload_n 1, 1) := by decide +kernel
theorem dX10_isKept_2 : decode cX10_isKept 2 = .ok (.putfield 217, 3) := by decide +kernel
theorem dX10_isKept_5 : decode cX10_isKept 5 = .ok (.aload_n 0, 1) := by decide +kernel
theorem dX10_isKept_6 : decode cX10_isKept 6 = .ok (.getfield 30, 3) := by decide +kernel
theorem dX10_isKept_9 : decode cX10_isKept 9 = .ok (.iconst 3, 1) := by decide +kernel
theorem dX10_isKept_10 : decode cX10_isKept 10 = .ok (.iaload, 1) := by decide +kernel
theorem dX10_isKept_11 : decode cX10_isKept 11 = .ok (.iload_n 1, 1) := by decide +kernel
theorem dX10_isKept_12 : decode cX10_isKept 12 = .ok (.if_icmp .eq 35, 3) := by decide +kernel
theorem dX10_isKept_15 : decode cX10_isKept 15 = .ok (.aload_n 0, 1) := by decide +kernel
theorem dX10_isKept_16 : decode cX10_isKept 16 = .ok (.getfield 30, 3) := by decide +kernel
theorem dX10_isKept_19 : decode cX10_isKept 19 = .ok (.iconst 3, 1) := by decide +kernel
theorem dX10_isKept_20 : decode cX10_isKept 20 = .ok (.iaload, 1) := by decide +kernel
theorem dX10_isKept_21 : decode cX10_isKept 21 = .ok (.iconst (-1), 1) := by decide +kernel
theorem dX10_isKept_22 : decode cX10_isKept 22 = .ok (.if_icmp .eq 25, 3) := by decide +kernel
theorem dX10_isKept_25 : decode cX10_isKept 25 = .ok (.aload_n 0, 1) := by decide +kernel
theorem dX10_isKept_26 : decode cX10_isKept 26 = .ok (.getfield 13, 3) := by decide +kernel
theorem dX10_isKept_29 : decode cX10_isKept 29 = .ok (.bipush 9, 2) := by decide +kernel
theorem dX10_isKept_31 : decode cX10_isKept 31 = .ok (.iaload, 1) := by decide +kernel
theorem dX10_isKept_32 : decode cX10_isKept 32 = .ok (.iconst 1, 1) := by decide +kernel
theorem dX10_isKept_33 : decode cX10_isKept 33 = .ok (.if_icmp .ne 18, 3) := by decide +kernel
theorem dX10_isKept_36 : decode cX10_isKept 36 = .ok (.aload_n 0, 1) := by decide +kernel
theorem dX10_isKept_37 : decode cX10_isKept 37 = .ok (.iconst 1, 1) := by decide +kernel
theorem dX10_isKept_38 : decode cX10_isKept 38 = .ok (.iconst 0, 1) := by decide +kernel
theorem dX10_isKept_39 : decode cX10_isKept 39 = .ok (.iload_n 2, 1) := by decide +kernel
theorem dX10_isKept_40 : decode cX10_isKept 40 = .ok (.invokevirtual 230, 3) := by decide +kernel
theorem dX10_isKept_43 : decode cX10_isKept 43 = .ok (.iconst 1, 1) := by decide +kernel
theorem dX10_isKept_44 : decode cX10_isKept 44 = .ok (.if_icmp .ne 7, 3) := by decide +kernel
theorem dX10_isKept_47 : decode cX10_isKept 47 = .ok (.iconst 1, 1) := by decide +kernel
theorem dX10_isKept_48 : decode cX10_isKept 48 = .ok (.goto 4, 3) := by decide +kernel
theorem dX10_isKept_51 : decode cX10_isKept 51 = .ok (.iconst 0, 1) := by decide +kernel
theorem dX10_isKept_52 : decode cX10_isKept 52 = .ok (.ireturn, 1) := by decide +kernel
theorem dX10_isFound_0 : decode cX10_isFound 0 = .ok (.aload_n 0, 1) := by decide +kernel
theorem dX10_isFound_1 : decode cX10_isFound 1 = .ok (.getfield 13, 3) := by decide +kernel
theorem dX10_isFound_4 : decode cX10_isFound 4 = .ok (.bipush 14, 2) := by decide +kernel
theorem dX10_isFound_6 : decode cX10_isFound 6 = .ok (.aload_n 0, 1) := by decide +kernel
theorem dX10_isFound_7 : decode cX10_isFound 7 = .ok (.getfield 30, 3) := by decide +kernel
theorem dX10_isFound_10 : decode cX10_isFound 10 = .ok (.iconst 1, 1) := by decide +kernel
theorem dX10_isFound_11 : decode cX10_isFound 11 = .ok (.iaload, 1) := by decide +kernel
theorem dX10_isFound_12 : decode cX10_isFound 12 = .ok (.iadd, 1) := by decide +kernel
theorem dX10_isFound_13 : decode cX10_isFound 13 = .ok (.iaload, 1) := by decide +kernel
theorem dX10_isFound_14 : decode cX10_isFound 14 = .ok (.bipush 10, 2) := by decide +kernel
theorem dX10_isFound_16 : decode cX10_isFound 16 = .ok (.isub, 1) := by decide +kernel
theorem dX10_isFound_17 : decode cX10_isFound 17 = .ok (.istore_n 2, 1) := by decide +kernel
theorem dX10_isFound_18 : decode cX10_isFound 18 = .ok (.iload_n 2, 1) := by decide +kernel
theorem dX10_isFound_19 : decode cX10_isFound 19 = .ok (.aload_n 0, 1) := by decide +kernel
theorem dX10_isFound_20 : decode cX10_isFound 20 = .ok (.getfield 36, 3) := by decide +kernel
theorem dX10_isFound_23 : decode cX10_isFound 23 = .ok (.if_icmp .eq 25, 3) := by decide +kernel
theorem dX10_isFound_26 : decode cX10_isFound 26 = .ok (.aload_n 0, 1) := by decide +kernel
theorem dX10_isFound_27 : decode cX10_isFound 27 = .ok (.getfield 13, 3) := by decide +kernel
theorem dX10_isFound_30 : decode cX10_isFound 30 = .ok (.sipush 278, 3) := by decide +kernel
theorem dX10_isFound_33 : decode cX10_isFound 33 = .ok (.iload_n 2, 1) := by decide +kernel
theorem dX10_isFound_34 : decode cX10_isFound 34 = .ok (.iadd, 1) := by decide +kernel
theorem dX10_isFound_35 : decode cX10_isFound 35 = .ok (.iaload, 1) := by decide +kernel
theorem dX10_isFound_36 : decode cX10_isFound 36 = .ok (.i2l, 1) := by decide +kernel
theorem dX10_isFound_37 : decode cX10_isFound 37 = .ok (.aload_n 0, 1) := by decide +kernel
theorem dX10_isFound_38 : decode cX10_isFound 38 = .ok (.iload_n 1, 1) := by decide +kernel
theorem dX10_isFound_39 : decode cX10_isFound 39 = .ok (.invokevirtual 211, 3) := by decide +kernel
theorem dX10_isFound_42 : decode cX10_isFound 42 = .ok (.invokestatic 236, 3) := by decide +kernel
theorem dX10_isFound_45 : decode cX10_isFound 45 = .ok (.ifCond .ne 4, 3) := by decide +kernel
theorem dX10_isFound_48 : decode cX10_isFound 48 = .ok (.return_, 1) := by decide +kernel
theorem dX10_isFound_49 : decode cX10_isFound 49 = .ok (.aload_n 0, 1) := by decide +kernel
theorem dX10_isFound_50 : decode cX10_isFound 50 = .ok (.iload_n 2, 1) := by decide +kernel
theorem dX10_isFound_51 : decode cX10_isFound 51 = .ok (.iload_n 1, 1) := by decide +kernel
theorem dX10_isFound_52 : decode cX10_isFound 52 = .ok (.invokevirtual 240, 3) := by decide +kernel
theorem dX10_isFound_55 : decode cX10_isFound 55 = .ok (.ifCond .eq 19, 3) := by decide +kernel
theorem dX10_isFound_58 : decode cX10_isFound 58 = .ok (.aload_n 0, 1) := by decide +kernel
theorem dX10_isFound_59 : decode cX10_isFound 59 = .ok (.getfield 30, 3) := by decide +kernel
theorem dX10_isFound_62 : decode cX10_isFound 62 = .ok (.iconst 0, 1) := by decide +kernel
theorem dX10_isFound_63 : decode cX10_isFound 63 = .ok (.iconst 2, 1) := by decide +kernel
theorem dX10_isFound_64 : decode cX10_isFound 64 = .ok (.iastore, 1) := by decide +kernel
theorem dX10_isFound_65 : decode cX10_isFound 65 = .ok (.aload_n 0, 1) := by decide +kernel
theorem dX10_isFound_66 : decode cX10_isFound 66 = .ok (.getfield 30, 3) := by decide +kernel
theorem dX10_isFound_69 : decode cX10_isFound 69 = .ok (.bipush 7, 2) := by decide +kernel
theorem dX10_isFound_71 : decode cX10_isFound 71 = .ok (.iload_n 2, 1) := by decide +kernel
theorem dX10_isFound_72 : decode cX10_isFound 72 = .ok (.iastore, 1) := by decide +kernel
theorem dX10_isFound_73 : decode cX10_isFound 73 = .ok (.return_, 1) := by decide +kernel
theorem dX10_isFound_74 : decode cX10_isFound 74 = .ok (.aload_n 0, 1) := by decide +kernel
theorem dX10_isFound_75 : decode cX10_isFound 75 = .ok (.getfield 30, 3) := by decide +kernel
theorem dX10_isFound_78 : decode cX10_isFound 78 = .ok (.bipush 6, 2) := by decide +kernel
theorem dX10_isFound_80 : decode cX10_isFound 80 = .ok (.dup2, 1) := by decide +kernel
theorem dX10_isFound_81 : decode cX10_isFound 81 = .ok (.iaload, 1) := by decide +kernel
theorem dX10_isFound_82 : decode cX10_isFound 82 = .ok (.iconst 1, 1) := by decide +kernel
theorem dX10_isFound_83 : decode cX10_isFound 83 = .ok (.iadd, 1) := by decide +kernel
theorem dX10_isFound_84 : decode cX10_isFound 84 = .ok (.iastore, 1) := by decide +kernel
theorem dX10_isFound_85 : decode cX10_isFound 85 = .ok (.aload_n 0, 1) := by decide +kernel
theorem dX10_isFound_86 : decode cX10_isFound 86 = .ok (.iload_n 2, 1) := by decide +kernel
theorem dX10_isFound_87 : decode cX10_isFound 87 = .ok (.invokevirtual 244, 3) := by decide +kernel
theorem dX10_isFound_90 : decode cX10_isFound 90 = .ok (.iconst (-1), 1) := by decide +kernel
theorem dX10_isFound_91 : decode cX10_isFound 91 = .ok (.if_icmp .ne 4, 3) := by decide +kernel
theorem dX10_isFound_94 : decode cX10_isFound 94 = .ok (.return_, 1) := by decide +kernel
theorem dX10_isFound_95 : decode cX10_isFound 95 = .ok (.aload_n 0, 1) := by decide +kernel
theorem dX10_isFound_96 : decode cX10_isFound 96 = .ok (.getfield 30, 3) := by decide +kernel
theorem dX10_isFound_99 : decode cX10_isFound 99 = .ok (.iconst 1, 1) := by decide +kernel
theorem dX10_isFound_100 : decode cX10_isFound 100 = .ok (.aload_n 0, 1) := by decide +kernel
theorem dX10_isFound_101 : decode cX10_isFound 101 = .ok (.iload_n 2, 1) := by decide +kernel
theorem dX10_isFound_102 : decode cX10_isFound 102 = .ok (.invokevirtual 244, 3) := by decide +kernel
theorem dX10_isFound_105 : decode cX10_isFound 105 = .ok (.iastore, 1) := by decide +kernel
theorem dX10_isFound_106 : decode cX10_isFound 106 = .ok (.aload_n 0, 1) := by decide +kernel
theorem dX10_isFound_107 : decode cX10_isFound 107 = .ok (.getfield 30, 3) := by decide +kernel
theorem dX10_isFound_110 : decode cX10_isFound 110 = .ok (.iconst 0, 1) := by decide +kernel
theorem dX10_isFound_111 : decode cX10_isFound 111 = .ok (.iconst 0, 1) := by decide +kernel
theorem dX10_isFound_112 : decode cX10_isFound 112 = .ok (.iastore, 1) := by decide +kernel
theorem dX10_isFound_113 : decode cX10_isFound 113 = .ok (.return_, 1) := by decide +kernel
theorem dX10_isOn_0 : decode cX10_isOn 0 = .ok (.aload_n 0, 1) := by decide +kernel
theorem dX10_isOn_1 : decode cX10_isOn 1 = .ok (.getfield 30, 3) := by decide +kernel
theorem dX10_isOn_4 : decode cX10_isOn 4 = .ok (.iconst 0, 1) := by decide +kernel
theorem dX10_isOn_5 : decode cX10_isOn 5 = .ok (.iaload, 1) := by decide +kernel
theorem dX10_isOn_6 : decode cX10_isOn 6 = .ok (.ifCond .eq 13, 3) := by decide +kernel
theorem dX10_isOn_9 : decode cX10_isOn 9 = .ok (.aload_n 0, 1) := by decide +kernel
theorem dX10_isOn_10 : decode cX10_isOn 10 = .ok (.getfield 30, 3) := by decide +kernel
theorem dX10_isOn_13 : decode cX10_isOn 13 = .ok (.iconst 0, 1) := by decide +kernel
theorem dX10_isOn_14 : decode cX10_isOn 14 = .ok (.iaload, 1) := by decide +kernel
theorem dX10_isOn_15 : decode cX10_isOn 15 = .ok (.iconst 1, 1) := by decide +kernel
theorem dX10_isOn_16 : decode cX10_isOn 16 = .ok (.if_icmp .ne 7, 3) := by decide +kernel
theorem dX10_isOn_19 : decode cX10_isOn 19 = .ok (.iconst 1, 1) := by decide +kernel
theorem dX10_isOn_20 : decode cX10_isOn 20 = .ok (.goto 4, 3) := by decide +kernel
theorem dX10_isOn_23 : decode cX10_isOn 23 = .ok (.iconst 0, 1) := by decide +kernel
theorem dX10_isOn_24 : decode cX10_isOn 24 = .ok (.ireturn, 1) := by decide +kernel
theorem dX10_goesTide_0 : decode cX10_goesTide 0 = .ok (.aload_n 0, 1) := by decide +kernel
theorem dX10_goesTide_1 : decode cX10_goesTide 1 = .ok (.invokevirtual 247, 3) := by decide +kernel
theorem dX10_goesTide_4 : decode cX10_goesTide 4 = .ok (.ifCond .ne 4, 3) := by decide +kernel
theorem dX10_goesTide_7 : decode cX10_goesTide 7 = .ok (.return_, 1) := by decide +kernel
theorem dX10_goesTide_8 : decode cX10_goesTide 8 = .ok (.aload_n 0, 1) := by decide +kernel
theorem dX10_goesTide_9 : decode cX10_goesTide 9 = .ok (.iload_n 1, 1) := by decide +kernel
theorem dX10_goesTide_10 : decode cX10_goesTide 10 = .ok (.invokevirtual 251, 3) := by decide +kernel
theorem dX10_goesTide_13 : decode cX10_goesTide 13 = .ok (.aload_n 0, 1) := by decide +kernel
theorem dX10_goesTide_14 : decode cX10_goesTide 14 = .ok (.getfield 13, 3) := by decide +kernel
theorem dX10_goesTide_17 : decode cX10_goesTide 17 = .ok (.iconst 5, 1) := by decide +kernel
theorem dX10_goesTide_18 : decode cX10_goesTide 18 = .ok (.iaload, 1) := by decide +kernel
theorem dX10_goesTide_19 : decode cX10_goesTide 19 = .ok (.ifCond .le 23, 3) := by decide +kernel
theorem dX10_goesTide_22 : decode cX10_goesTide 22 = .ok (.aload_n 0, 1) := by decide +kernel
theorem dX10_goesTide_23 : decode cX10_goesTide 23 = .ok (.iload_n 1, 1) := by decide +kernel
theorem dX10_goesTide_24 : decode cX10_goesTide 24 = .ok (.invokevirtual 214, 3) := by decide +kernel
theorem dX10_goesTide_27 : decode cX10_goesTide 27 = .ok (.aload_n 0, 1) := by decide +kernel
theorem dX10_goesTide_28 : decode cX10_goesTide 28 = .ok (.getfield 13, 3) := by decide +kernel
theorem dX10_goesTide_31 : decode cX10_goesTide 31 = .ok (.bipush 6, 2) := by decide +kernel
theorem dX10_goesTide_33 : decode cX10_goesTide 33 = .ok (.iaload, 1) := by decide +kernel
theorem dX10_goesTide_34 : decode cX10_goesTide 34 = .ok (.if_icmp .ge 8, 3) := by decide +kernel
theorem dX10_goesTide_37 : decode cX10_goesTide 37 = .ok (.aload_n 0, 1) := by decide +kernel
theorem dX10_goesTide_38 : decode cX10_goesTide 38 = .ok (.iload_n 1, 1) := by decide +kernel
theorem dX10_goesTide_39 : decode cX10_goesTide 39 = .ok (.invokevirtual 251, 3) := by decide +kernel
theorem dX10_goesTide_42 : decode cX10_goesTide 42 = .ok (.aload_n 0, 1) := by decide +kernel
theorem dX10_goesTide_43 : decode cX10_goesTide 43 = .ok (.getfield 30, 3) := by decide +kernel
theorem dX10_goesTide_46 : decode cX10_goesTide 46 = .ok (.iconst 0, 1) := by decide +kernel
theorem dX10_goesTide_47 : decode cX10_goesTide 47 = .ok (.iaload, 1) := by decide +kernel
theorem dX10_goesTide_48 : decode cX10_goesTide 48 = .ok (.ifCond .ne 27, 3) := by decide +kernel
theorem dX10_goesTide_51 : decode cX10_goesTide 51 = .ok (.aload_n 0, 1) := by decide +kernel
theorem dX10_goesTide_52 : decode cX10_goesTide 52 = .ok (.getfield 30, 3) := by decide +kernel
theorem dX10_goesTide_55 : decode cX10_goesTide 55 = .ok (.iconst 4, 1) := by decide +kernel
theorem dX10_goesTide_56 : decode cX10_goesTide 56 = .ok (.iaload, 1) := by decide +kernel
theorem dX10_goesTide_57 : decode cX10_goesTide 57 = .ok (.ifCond .ne 18, 3) := by decide +kernel
theorem dX10_goesTide_60 : decode cX10_goesTide 60 = .ok (.aload_n 0, 1) := by decide +kernel
theorem dX10_goesTide_61 : decode cX10_goesTide 61 = .ok (.aload_n 0, 1) := by decide +kernel
theorem dX10_goesTide_62 : decode cX10_goesTide 62 = .ok (.aload_n 0, 1) := by decide +kernel
theorem dX10_goesTide_63 : decode cX10_goesTide 63 = .ok (.getfield 30, 3) := by decide +kernel
theorem dX10_goesTide_66 : decode cX10_goesTide 66 = .ok (.iconst 1, 1) := by decide +kernel
theorem dX10_goesTide_67 : decode cX10_goesTide 67 = .ok (.iaload, 1) := by decide +kernel
theorem dX10_goesTide_68 : decode cX10_goesTide 68 = .ok (.iload_n 1, 1) := by decide +kernel
theorem dX10_goesTide_69 : decode cX10_goesTide 69 = .ok (.invokevirtual 254, 3) := by decide +kernel
theorem dX10_goesTide_72 : decode cX10_goesTide 72 = .ok (.invokevirtual 233, 3) := by decide +kernel
theorem dX10_goesTide_75 : decode cX10_goesTide 75 = .ok (.aload_n 0, 1) := by decide +kernel
theorem dX10_goesTide_76 : decode cX10_goesTide 76 = .ok (.invokevirtual 247, 3) := by decide +kernel
theorem dX10_goesTide_79 : decode cX10_goesTide 79 = .ok (.ifCond .ne 4, 3) := by decide +kernel
theorem dX10_goesTide_82 : decode cX10_goesTide 82 = .ok (.return_, 1) := by decide +kernel
theorem dX10_goesTide_83 : decode cX10_goesTide 83 = .ok (.aload_n 0, 1) := by decide +kernel
theorem dX10_goesTide_84 : decode cX10_goesTide 84 = .ok (.getfield 30, 3) := by decide +kernel
theorem dX10_goesTide_87 : decode cX10_goesTide 87 = .ok (.iconst 5, 1) := by decide +kernel
theorem dX10_goesTide_88 : decode cX10_goesTide 88 = .ok (.dup2, 1) := by decide +kernel
theorem dX10_goesTide_89 : decode cX10_goesTide 89 = .ok (.iaload, 1) := by decide +kernel
theorem dX10_goesTide_90 : decode cX10_goesTide 90 = .ok (.iconst 1, 1) := by decide +kernel
theorem dX10_goesTide_91 : decode cX10_goesTide 91 = .ok (.iadd, 1) := by decide +kernel
theorem dX10_goesTide_92 : decode cX10_goesTide 92 = .ok (.iastore, 1) := by decide +kernel
theorem dX10_goesTide_93 : decode cX10_goesTide 93 = .ok (.aload_n 0, 1) := by decide +kernel
theorem dX10_goesTide_94 : decode cX10_goesTide 94 = .ok (.getfield 30, 3) := by decide +kernel
theorem dX10_goesTide_97 : decode cX10_goesTide 97 = .ok (.iconst 0, 1) := by decide +kernel
theorem dX10_goesTide_98 : decode cX10_goesTide 98 = .ok (.iaload, 1) := by decide +kernel
theorem dX10_goesTide_99 : decode cX10_goesTide 99 = .ok (.ifCond .ne 40, 3) := by decide +kernel
theorem dX10_goesTide_102 : decode cX10_goesTide 102 = .ok (.iload_n 2, 1) := by decide +kernel
theorem dX10_goesTide_103 : decode cX10_goesTide 103 = .ok (.ifCond .ne 36, 3) := by decide +kernel
theorem dX10_goesTide_106 : decode cX10_goesTide 106 = .ok (.aload_n 0, 1) := by decide +kernel
theorem dX10_goesTide_107 : decode cX10_goesTide 107 = .ok (.getfield 13, 3) := by decide +kernel
theorem dX10_goesTide_110 : decode cX10_goesTide 110 = .ok (.bipush 7, 2) := by decide +kernel
theorem dX10_goesTide_112 : decode cX10_goesTide 112 = .ok (.iaload, 1) := by decide +kernel
theorem dX10_goesTide_113 : decode cX10_goesTide 113 = .ok (.ifCond .le 26, 3) := by decide +kernel
theorem dX10_goesTide_116 : decode cX10_goesTide 116 = .ok (.aload_n 0, 1) := by decide +kernel
theorem dX10_goesTide_117 : decode cX10_goesTide 117 = .ok (.getfield 30, 3) := by decide +kernel
theorem dX10_goesTide_120 : decode cX10_goesTide 120 = .ok (.iconst 5, 1) := by decide +kernel
theorem dX10_goesTide_121 : decode cX10_goesTide 121 = .ok (.iaload, 1) := by decide +kernel
theorem dX10_goesTide_122 : decode cX10_goesTide 122 = .ok (.aload_n 0, 1) := by decide +kernel
theorem dX10_goesTide_123 : decode cX10_goesTide 123 = .ok (.getfield 13, 3) := by decide +kernel
theorem dX10_goesTide_126 : decode cX10_goesTide 126 = .ok (.bipush 7, 2) := by decide +kernel
theorem dX10_goesTide_128 : decode cX10_goesTide 128 = .ok (.iaload, 1) := by decide +kernel
theorem dX10_goesTide_129 : decode cX10_goesTide 129 = .ok (.if_icmp .lt 10, 3) := by decide +kernel
theorem dX10_goesTide_132 : decode cX10_goesTide 132 = .ok (.aload_n 0, 1) := by decide +kernel
theorem dX10_goesTide_133 : decode cX10_goesTide 133 = .ok (.getfield 30, 3) := by decide +kernel
theorem dX10_goesTide_136 : decode cX10_goesTide 136 = .ok (.iconst 0, 1) := by decide +kernel
theorem dX10_goesTide_137 : decode cX10_goesTide 137 = .ok (.iconst 4, 1) := by decide +kernel
theorem dX10_goesTide_138 : decode cX10_goesTide 138 = .ok (.iastore, 1) := by decide +kernel
theorem dX10_goesTide_139 : decode cX10_goesTide 139 = .ok (.aload_n 0, 1) := by decide +kernel
theorem dX10_goesTide_140 : decode cX10_goesTide 140 = .ok (.getfield 30, 3) := by decide +kernel
theorem dX10_goesTide_143 : decode cX10_goesTide 143 = .ok (.iconst 0, 1) := by decide +kernel
theorem dX10_goesTide_144 : decode cX10_goesTide 144 = .ok (.iaload, 1) := by decide +kernel
theorem dX10_goesTide_145 : decode cX10_goesTide 145 = .ok (.iconst 1, 1) := by decide +kernel
theorem dX10_goesTide_146 : decode cX10_goesTide 146 = .ok (.if_icmp .ne 8, 3) := by decide +kernel
theorem dX10_goesTide_149 : decode cX10_goesTide 149 = .ok (.aload_n 0, 1) := by decide +kernel
theorem dX10_goesTide_150 : decode cX10_goesTide 150 = .ok (.iload_n 1, 1) := by decide +kernel
theorem dX10_goesTide_151 : decode cX10_goesTide 151 = .ok (.invokevirtual 257, 3) := by decide +kernel
theorem dX10_goesTide_154 : decode cX10_goesTide 154 = .ok (.return_, 1) := by decide +kernel
theorem dX10_loads_0 : decode cX10_loads 0 = .ok (.iconst 0, 1) := by decide +kernel
theorem dX10_loads_1 : decode cX10_loads 1 = .ok (.istore_n 2, 1) := by decide +kernel
theorem dX10_loads_2 : decode cX10_loads 2 = .ok (.iload_n 2, 1) := by decide +kernel
theorem dX10_loads_3 : decode cX10_loads 3 = .ok (.bipush 8, 2) := by decide +kernel
theorem dX10_loads_5 : decode cX10_loads 5 = .ok (.if_icmp .ge 30, 3) := by decide +kernel
theorem dX10_loads_8 : decode cX10_loads 8 = .ok (.aload_n 0, 1) := by decide +kernel
theorem dX10_loads_9 : decode cX10_loads 9 = .ok (.getfield 30, 3) := by decide +kernel
theorem dX10_loads_12 : decode cX10_loads 12 = .ok (.iload_n 2, 1) := by decide +kernel
theorem dX10_loads_13 : decode cX10_loads 13 = .ok (.aload_n 0, 1) := by decide +kernel
theorem dX10_loads_14 : decode cX10_loads 14 = .ok (.getfield 13, 3) := by decide +kernel
theorem dX10_loads_17 : decode cX10_loads 17 = .ok (.sipush 284, 3) := by decide +kernel
theorem dX10_loads_20 : decode cX10_loads 20 = .ok (.bipush 8, 2) := by decide +kernel
theorem dX10_loads_22 : decode cX10_loads 22 = .ok (.iload_n 1, 1) := by decide +kernel
theorem dX10_loads_23 : decode cX10_loads 23 = .ok (.imul, 1) := by decide +kernel
theorem dX10_loads_24 : decode cX10_loads 24 = .ok (.iadd, 1) := by decide +kernel
theorem dX10_loads_25 : decode cX10_loads 25 = .ok (.iload_n 2, 1) := by decide +kernel
theorem dX10_loads_26 : decode cX10_loads 26 = .ok (.iadd, 1) := by decide +kernel
theorem dX10_loads_27 : decode cX10_loads 27 = .ok (.iaload, 1) := by decide +kernel
theorem dX10_loads_28 : decode cX10_loads 28 = .ok (.iastore, 1) := by decide +kernel
theorem dX10_loads_29 : decode cX10_loads 29 = .ok (.iinc 2 1, 3) := by decide +kernel
theorem dX10_loads_32 : decode cX10_loads 32 = .ok (.goto (-30), 3) := by decide +kernel
theorem dX10_loads_35 : decode cX10_loads 35 = .ok (.return_, 1) := by decide +kernel
theorem dX10_stores_0 : decode cX10_stores 0 = .ok (.iconst 0, 1) := by decide +kernel
theorem dX10_stores_1 : decode cX10_stores 1 = .ok (.istore_n 2, 1) := by decide +kernel
theorem dX10_stores_2 : decode cX10_stores 2 = .ok (.iload_n 2, 1) := by decide +kernel
theorem dX10_stores_3 : decode cX10_stores 3 = .ok (.bipush 8, 2) := by decide +kernel
theorem dX10_stores_5 : decode cX10_stores 5 = .ok (.if_icmp .ge 30, 3) := by decide +kernel
theorem dX10_stores_8 : decode cX10_stores 8 = .ok (.aload_n 0, 1) := by decide +kernel
theorem dX10_stores_9 : decode cX10_stores 9 = .ok (.getfield 13, 3) := by decide +kernel
theorem dX10_stores_12 : decode cX10_stores 12 = .ok (.sipush 284, 3) := by decide +kernel
theorem dX10_stores_15 : decode cX10_stores 15 = .ok (.bipush 8, 2) := by decide +kernel
theorem dX10_stores_17 : decode cX10_stores 17 = .ok (.iload_n 1, 1) := by decide +kernel
theorem dX10_stores_18 : decode cX10_stores 18 = .ok (.imul, 1) := by decide +kernel
theorem dX10_stores_19 : decode cX10_stores 19 = .ok (.iadd, 1) := by decide +kernel
theorem dX10_stores_20 : decode cX10_stores 20 = .ok (.iload_n 2, 1) := by decide +kernel
theorem dX10_stores_21 : decode cX10_stores 21 = .ok (.iadd, 1) := by decide +kernel
theorem dX10_stores_22 : decode cX10_stores 22 = .ok (.aload_n 0, 1) := by decide +kernel
theorem dX10_stores_23 : decode cX10_stores 23 = .ok (.getfield 30, 3) := by decide +kernel
theorem dX10_stores_26 : decode cX10_stores 26 = .ok (.iload_n 2, 1) := by decide +kernel
theorem dX10_stores_27 : decode cX10_stores 27 = .ok (.iaload, 1) := by decide +kernel
theorem dX10_stores_28 : decode cX10_stores 28 = .ok (.iastore, 1) := by decide +kernel
theorem dX10_stores_29 : decode cX10_stores 29 = .ok (.iinc 2 1, 3) := by decide +kernel
theorem dX10_stores_32 : decode cX10_stores 32 = .ok (.goto (-30), 3) := by decide +kernel
theorem dX10_stores_35 : decode cX10_stores 35 = .ok (.return_, 1) := by decide +kernel
theorem dX10_isThrown_0 : decode cX10_isThrown 0 = .ok (.aload_n 0, 1) := by decide +kernel
theorem dX10_isThrown_1 : decode cX10_isThrown 1 = .ok (.getfield 30, 3) := by decide +kernel
theorem dX10_isThrown_4 : decode cX10_isThrown 4 = .ok (.iconst 0, 1) := by decide +kernel
theorem dX10_isThrown_5 : decode cX10_isThrown 5 = .ok (.iconst 0, 1) := by decide +kernel
theorem dX10_isThrown_6 : decode cX10_isThrown 6 = .ok (.iastore, 1) := by decide +kernel
theorem dX10_isThrown_7 : decode cX10_isThrown 7 = .ok (.aload_n 0, 1) := by decide +kernel
theorem dX10_isThrown_8 : decode cX10_isThrown 8 = .ok (.getfield 30, 3) := by decide +kernel
theorem dX10_isThrown_11 : decode cX10_isThrown 11 = .ok (.iconst 1, 1) := by decide +kernel
theorem dX10_isThrown_12 : decode cX10_isThrown 12 = .ok (.iload 4, 2) := by decide +kernel
theorem dX10_isThrown_14 : decode cX10_isThrown 14 = .ok (.iastore, 1) := by decide +kernel
theorem dX10_isThrown_15 : decode cX10_isThrown 15 = .ok (.aload_n 0, 1) := by decide +kernel
theorem dX10_isThrown_16 : decode cX10_isThrown 16 = .ok (.getfield 30, 3) := by decide +kernel
theorem dX10_isThrown_19 : decode cX10_isThrown 19 = .ok (.iconst 2, 1) := by decide +kernel
theorem dX10_isThrown_20 : decode cX10_isThrown 20 = .ok (.iload_n 1, 1) := by decide +kernel
theorem dX10_isThrown_21 : decode cX10_isThrown 21 = .ok (.iastore, 1) := by decide +kernel
theorem dX10_isThrown_22 : decode cX10_isThrown 22 = .ok (.aload_n 0, 1) := by decide +kernel
theorem dX10_isThrown_23 : decode cX10_isThrown 23 = .ok (.getfield 30, 3) := by decide +kernel
theorem dX10_isThrown_26 : decode cX10_isThrown 26 = .ok (.iconst 3, 1) := by decide +kernel
theorem dX10_isThrown_27 : decode cX10_isThrown 27 = .ok (.iload_n 2, 1) := by decide +kernel
theorem dX10_isThrown_28 : decode cX10_isThrown 28 = .ok (.iastore, 1) := by decide +kernel
theorem dX10_isThrown_29 : decode cX10_isThrown 29 = .ok (.aload_n 0, 1) := by decide +kernel
theorem dX10_isThrown_30 : decode cX10_isThrown 30 = .ok (.getfield 30, 3) := by decide +kernel
theorem dX10_isThrown_33 : decode cX10_isThrown 33 = .ok (.iconst 4, 1) := by decide +kernel
theorem dX10_isThrown_34 : decode cX10_isThrown 34 = .ok (.iload_n 3, 1) := by decide +kernel
theorem dX10_isThrown_35 : decode cX10_isThrown 35 = .ok (.ifCond .eq 7, 3) := by decide +kernel
theorem dX10_isThrown_38 : decode cX10_isThrown 38 = .ok (.iconst 1, 1) := by decide +kernel
theorem dX10_isThrown_39 : decode cX10_isThrown 39 = .ok (.goto 4, 3) := by decide +kernel
theorem dX10_isThrown_42 : decode cX10_isThrown 42 = .ok (.iconst 0, 1) := by decide +kernel
theorem dX10_isThrown_43 : decode cX10_isThrown 43 = .ok (.iastore, 1) := by decide +kernel
theorem dX10_isThrown_44 : decode cX10_isThrown 44 = .ok (.aload_n 0, 1) := by decide +kernel
theorem dX10_isThrown_45 : decode cX10_isThrown 45 = .ok (.getfield 30, 3) := by decide +kernel
theorem dX10_isThrown_48 : decode cX10_isThrown 48 = .ok (.iconst 5, 1) := by decide +kernel
theorem dX10_isThrown_49 : decode cX10_isThrown 49 = .ok (.iconst 0, 1) := by decide +kernel
theorem dX10_isThrown_50 : decode cX10_isThrown 50 = .ok (.iastore, 1) := by decide +kernel
theorem dX10_isThrown_51 : decode cX10_isThrown 51 = .ok (.aload_n 0, 1) := by decide +kernel
theorem dX10_isThrown_52 : decode cX10_isThrown 52 = .ok (.getfield 30, 3) := by decide +kernel
theorem dX10_isThrown_55 : decode cX10_isThrown 55 = .ok (.bipush 6, 2) := by decide +kernel
theorem dX10_isThrown_57 : decode cX10_isThrown 57 = .ok (.iconst 0, 1) := by decide +kernel
theorem dX10_isThrown_58 : decode cX10_isThrown 58 = .ok (.iastore, 1) := by decide +kernel
theorem dX10_isThrown_59 : decode cX10_isThrown 59 = .ok (.aload_n 0, 1) := by decide +kernel
theorem dX10_isThrown_60 : decode cX10_isThrown 60 = .ok (.getfield 30, 3) := by decide +kernel
theorem dX10_isThrown_63 : decode cX10_isThrown 63 = .ok (.bipush 7, 2) := by decide +kernel
theorem dX10_isThrown_65 : decode cX10_isThrown 65 = .ok (.iconst (-1), 1) := by decide +kernel
theorem dX10_isThrown_66 : decode cX10_isThrown 66 = .ok (.iastore, 1) := by decide +kernel
theorem dX10_isThrown_67 : decode cX10_isThrown 67 = .ok (.return_, 1) := by decide +kernel
theorem dX10_cell_0 : decode cX10_cell 0 = .ok (.aload_n 0, 1) := by decide +kernel
theorem dX10_cell_1 : decode cX10_cell 1 = .ok (.iconst 0, 1) := by decide +kernel
theorem dX10_cell_2 : decode cX10_cell 2 = .ok (.putfield 1, 3) := by decide +kernel
theorem dX10_cell_5 : decode cX10_cell 5 = .ok (.aload_n 0, 1) := by decide +kernel
theorem dX10_cell_6 : decode cX10_cell 6 = .ok (.iload_n 1, 1) := by decide +kernel
theorem dX10_cell_7 : decode cX10_cell 7 = .ok (.i2l, 1) := by decide +kernel
theorem dX10_cell_8 : decode cX10_cell 8 = .ok (.invokevirtual 260, 3) := by decide +kernel
theorem dX10_cell_11 : decode cX10_cell 11 = .ok (.ifCond .eq 15, 3) := by decide +kernel
theorem dX10_cell_14 : decode cX10_cell 14 = .ok (.aload_n 0, 1) := by decide +kernel
theorem dX10_cell_15 : decode cX10_cell 15 = .ok (.getfield 13, 3) := by decide +kernel
theorem dX10_cell_18 : decode cX10_cell 18 = .ok (.bipush 14, 2) := by decide +kernel
theorem dX10_cell_20 : decode cX10_cell 20 = .ok (.iload_n 1, 1) := by decide +kernel
theorem dX10_cell_21 : decode cX10_cell 21 = .ok (.iadd, 1) := by decide +kernel
theorem dX10_cell_22 : decode cX10_cell 22 = .ok (.iaload, 1) := by decide +kernel
theorem dX10_cell_23 : decode cX10_cell 23 = .ok (.goto 5, 3) := by decide +kernel
theorem dX10_cell_26 : decode cX10_cell 26 = .ok (.bipush (-2), 2) := by decide +kernel
theorem dX10_cell_28 : decode cX10_cell 28 = .ok (.ireturn, 1) := by decide +kernel
theorem dX10_stateSet_0 : decode cX10_stateSet 0 = .ok (.iconst 0, 1) := by decide +kernel
theorem dX10_stateSet_1 : decode cX10_stateSet 1 = .ok (.istore_n 3, 1) := by decide +kernel
theorem dX10_stateSet_2 : decode cX10_stateSet 2 = .ok (.iconst 0, 1) := by decide +kernel
theorem dX10_stateSet_3 : decode cX10_stateSet 3 = .ok (.istore 4, 2) := by decide +kernel
theorem dX10_stateSet_5 : decode cX10_stateSet 5 = .ok (.iload 4, 2) := by decide +kernel
theorem dX10_stateSet_7 : decode cX10_stateSet 7 = .ok (.aload_n 0, 1) := by decide +kernel
theorem dX10_stateSet_8 : decode cX10_stateSet 8 = .ok (.getfield 13, 3) := by decide +kernel
theorem dX10_stateSet_11 : decode cX10_stateSet 11 = .ok (.sipush 348, 3) := by decide +kernel
theorem dX10_stateSet_14 : decode cX10_stateSet 14 = .ok (.iaload, 1) := by decide +kernel
theorem dX10_stateSet_15 : decode cX10_stateSet 15 = .ok (.if_icmp .ge 109, 3) := by decide +kernel
theorem dX10_stateSet_18 : decode cX10_stateSet 18 = .ok (.iload_n 2, 1) := by decide +kernel
theorem dX10_stateSet_19 : decode cX10_stateSet 19 = .ok (.iconst 1, 1) := by decide +kernel
theorem dX10_stateSet_20 : decode cX10_stateSet 20 = .ok (.if_icmp .ne 40, 3) := by decide +kernel
theorem dX10_stateSet_23 : decode cX10_stateSet 23 = .ok (.aload_n 0, 1) := by decide +kernel
theorem dX10_stateSet_24 : decode cX10_stateSet 24 = .ok (.getfield 13, 3) := by decide +kernel
theorem dX10_stateSet_27 : decode cX10_stateSet 27 = .ok (.sipush 284, 3) := by decide +kernel
theorem dX10_stateSet_30 : decode cX10_stateSet 30 = .ok (.bipush 8, 2) := by decide +kernel
theorem dX10_stateSet_32 : decode cX10_stateSet 32 = .ok (.iload 4, 2) := by decide +kernel
theorem dX10_stateSet_34 : decode cX10_stateSet 34 = .ok (.imul, 1) := by decide +kernel
theorem dX10_stateSet_35 : decode cX10_stateSet 35 = .ok (.iadd, 1) := by decide +kernel
theorem dX10_stateSet_36 : decode cX10_stateSet 36 = .ok (.iconst 1, 1) := by decide +kernel
theorem dX10_stateSet_37 : decode cX10_stateSet 37 = .ok (.iadd, 1) := by decide +kernel
theorem dX10_stateSet_38 : decode cX10_stateSet 38 = .ok (.iaload, 1) := by decide +kernel
theorem dX10_stateSet_39 : decode cX10_stateSet 39 = .ok (.aload_n 0, 1) := by decide +kernel
theorem dX10_stateSet_40 : decode cX10_stateSet 40 = .ok (.getfield 13, 3) := by decide +kernel
theorem dX10_stateSet_43 : decode cX10_stateSet 43 = .ok (.sipush 266, 3) := by decide +kernel
theorem dX10_stateSet_46 : decode cX10_stateSet 46 = .ok (.iload_n 1, 1) := by decide +kernel
theorem dX10_stateSet_47 : decode cX10_stateSet 47 = .ok (.iadd, 1) := by decide +kernel
theorem dX10_stateSet_48 : decode cX10_stateSet 48 = .ok (.iaload, 1) := by decide +kernel
theorem dX10_stateSet_49 : decode cX10_stateSet 49 = .ok (.if_icmp .ne 7, 3) := by decide +kernel
theorem dX10_stateSet_52 : decode cX10_stateSet 52 = .ok (.iconst 1, 1) := by decide +kernel
theorem dX10_stateSet_53 : decode cX10_stateSet 53 = .ok (.goto 33, 3) := by decide +kernel
theorem dX10_stateSet_56 : decode cX10_stateSet 56 = .ok (.iconst 0, 1) := by decide +kernel
theorem dX10_stateSet_57 : decode cX10_stateSet 57 = .ok (.goto 29, 3) := by decide +kernel
theorem dX10_stateSet_60 : decode cX10_stateSet 60 = .ok (.aload_n 0, 1) := by decide +kernel
theorem dX10_stateSet_61 : decode cX10_stateSet 61 = .ok (.getfield 13, 3) := by decide +kernel
theorem dX10_stateSet_64 : decode cX10_stateSet 64 = .ok (.sipush 284, 3) := by decide +kernel
theorem dX10_stateSet_67 : decode cX10_stateSet 67 = .ok (.bipush 8, 2) := by decide +kernel
theorem dX10_stateSet_69 : decode cX10_stateSet 69 = .ok (.iload 4, 2) := by decide +kernel
theorem dX10_stateSet_71 : decode cX10_stateSet 71 = .ok (.imul, 1) := by decide +kernel
theorem dX10_stateSet_72 : decode cX10_stateSet 72 = .ok (.iadd, 1) := by decide +kernel
theorem dX10_stateSet_73 : decode cX10_stateSet 73 = .ok (.bipush 7, 2) := by decide +kernel
theorem dX10_stateSet_75 : decode cX10_stateSet 75 = .ok (.iadd, 1) := by decide +kernel
theorem dX10_stateSet_76 : decode cX10_stateSet 76 = .ok (.iaload, 1) := by decide +kernel
theorem dX10_stateSet_77 : decode cX10_stateSet 77 = .ok (.iload_n 1, 1) := by decide +kernel
theorem dX10_stateSet_78 : decode cX10_stateSet 78 = .ok (.if_icmp .ne 7, 3) := by decide +kernel
theorem dX10_stateSet_81 : decode cX10_stateSet 81 = .ok (.iconst 1, 1) := by decide +kernel
theorem dX10_stateSet_82 : decode cX10_stateSet 82 = .ok (.goto 4, 3) := by decide +kernel
theorem dX10_stateSet_85 : decode cX10_stateSet 85 = .ok (.iconst 0, 1) := by decide +kernel
theorem dX10_stateSet_86 : decode cX10_stateSet 86 = .ok (.istore 5, 2) := by decide +kernel
theorem dX10_stateSet_88 : decode cX10_stateSet 88 = .ok (.aload_n 0, 1) := by decide +kernel
theorem dX10_stateSet_89 : decode cX10_stateSet 89 = .ok (.getfield 13, 3) := by decide +kernel
theorem dX10_stateSet_92 : decode cX10_stateSet 92 = .ok (.sipush 284, 3) := by decide +kernel
theorem dX10_stateSet_95 : decode cX10_stateSet 95 = .ok (.bipush 8, 2) := by decide +kernel
theorem dX10_stateSet_97 : decode cX10_stateSet 97 = .ok (.iload 4, 2) := by decide +kernel
theorem dX10_stateSet_99 : decode cX10_stateSet 99 = .ok (.imul, 1) := by decide +kernel
theorem dX10_stateSet_100 : decode cX10_stateSet 100 = .ok (.iadd, 1) := by decide +kernel
theorem dX10_stateSet_101 : decode cX10_stateSet 101 = .ok (.iaload, 1) := by decide +kernel
theorem dX10_stateSet_102 : decode cX10_stateSet 102 = .ok (.iload_n 2, 1) := by decide +kernel
theorem dX10_stateSet_103 : decode cX10_stateSet 103 = .ok (.if_icmp .ne 15, 3) := by decide +kernel
theorem dX10_stateSet_106 : decode cX10_stateSet 106 = .ok (.iload 5, 2) := by decide +kernel
theorem dX10_stateSet_108 : decode cX10_stateSet 108 = .ok (.ifCond .eq 10, 3) := by decide +kernel
theorem dX10_stateSet_111 : decode cX10_stateSet 111 = .ok (.iload_n 3, 1) := by decide +kernel
theorem dX10_stateSet_112 : decode cX10_stateSet 112 = .ok (.iconst 1, 1) := by decide +kernel
theorem dX10_stateSet_113 : decode cX10_stateSet 113 = .ok (.iload 4, 2) := by decide +kernel
theorem dX10_stateSet_115 : decode cX10_stateSet 115 = .ok (.ishl, 1) := by decide +kernel
theorem dX10_stateSet_116 : decode cX10_stateSet 116 = .ok (.ior, 1) := by decide +kernel
theorem dX10_stateSet_117 : decode cX10_stateSet 117 = .ok (.istore_n 3, 1) := by decide +kernel
theorem dX10_stateSet_118 : decode cX10_stateSet 118 = .ok (.iinc 4 1, 3) := by decide +kernel
theorem dX10_stateSet_121 : decode cX10_stateSet 121 = .ok (.goto (-116), 3) := by decide +kernel
theorem dX10_stateSet_124 : decode cX10_stateSet 124 = .ok (.iload_n 3, 1) := by decide +kernel
theorem dX10_stateSet_125 : decode cX10_stateSet 125 = .ok (.ireturn, 1) := by decide +kernel
theorem dX10_shore_0 : decode cX10_shore 0 = .ok (.aload_n 0, 1) := by decide +kernel
theorem dX10_shore_1 : decode cX10_shore 1 = .ok (.iconst 0, 1) := by decide +kernel
theorem dX10_shore_2 : decode cX10_shore 2 = .ok (.putfield 1, 3) := by decide +kernel
theorem dX10_shore_5 : decode cX10_shore 5 = .ok (.aload_n 0, 1) := by decide +kernel
theorem dX10_shore_6 : decode cX10_shore 6 = .ok (.iload_n 1, 1) := by decide +kernel
theorem dX10_shore_7 : decode cX10_shore 7 = .ok (.i2l, 1) := by decide +kernel
theorem dX10_shore_8 : decode cX10_shore 8 = .ok (.invokevirtual 264, 3) := by decide +kernel
theorem dX10_shore_11 : decode cX10_shore 11 = .ok (.ifCond .ne 6, 3) := by decide +kernel
theorem dX10_shore_14 : decode cX10_shore 14 = .ok (.bipush (-2), 2) := by decide +kernel
theorem dX10_shore_16 : decode cX10_shore 16 = .ok (.ireturn, 1) := by decide +kernel
theorem dX10_shore_17 : decode cX10_shore 17 = .ok (.iload_n 2, 1) := by decide +kernel
theorem dX10_shore_18 : decode cX10_shore 18 = .ok (.tableswitch 91 0 5 #[38, 49, 60, 71, 77, 84], 38) := by decide +kernel
theorem dX10_shore_56 : decode cX10_shore 56 = .ok (.aload_n 0, 1) := by decide +kernel
theorem dX10_shore_57 : decode cX10_shore 57 = .ok (.getfield 13, 3) := by decide +kernel
theorem dX10_shore_60 : decode cX10_shore 60 = .ok (.sipush 266, 3) := by decide +kernel
theorem dX10_shore_63 : decode cX10_shore 63 = .ok (.iload_n 1, 1) := by decide +kernel
theorem dX10_shore_64 : decode cX10_shore 64 = .ok (.iadd, 1) := by decide +kernel
theorem dX10_shore_65 : decode cX10_shore 65 = .ok (.iaload, 1) := by decide +kernel
theorem dX10_shore_66 : decode cX10_shore 66 = .ok (.ireturn, 1) := by decide +kernel
theorem dX10_shore_67 : decode cX10_shore 67 = .ok (.aload_n 0, 1) := by decide +kernel
theorem dX10_shore_68 : decode cX10_shore 68 = .ok (.getfield 13, 3) := by decide +kernel
theorem dX10_shore_71 : decode cX10_shore 71 = .ok (.sipush 272, 3) := by decide +kernel
theorem dX10_shore_74 : decode cX10_shore 74 = .ok (.iload_n 1, 1) := by decide +kernel
theorem dX10_shore_75 : decode cX10_shore 75 = .ok (.iadd, 1) := by decide +kernel
theorem dX10_shore_76 : decode cX10_shore 76 = .ok (.iaload, 1) := by decide +kernel
theorem dX10_shore_77 : decode cX10_shore 77 = .ok (.ireturn, 1) := by decide +kernel
theorem dX10_shore_78 : decode cX10_shore 78 = .ok (.aload_n 0, 1) := by decide +kernel
theorem dX10_shore_79 : decode cX10_shore 79 = .ok (.getfield 13, 3) := by decide +kernel
theorem dX10_shore_82 : decode cX10_shore 82 = .ok (.sipush 278, 3) := by decide +kernel
theorem dX10_shore_85 : decode cX10_shore 85 = .ok (.iload_n 1, 1) := by decide +kernel
theorem dX10_shore_86 : decode cX10_shore 86 = .ok (.iadd, 1) := by decide +kernel
theorem dX10_shore_87 : decode cX10_shore 87 = .ok (.iaload, 1) := by decide +kernel
theorem dX10_shore_88 : decode cX10_shore 88 = .ok (.ireturn, 1) := by decide +kernel
theorem dX10_shore_89 : decode cX10_shore 89 = .ok (.aload_n 0, 1) := by decide +kernel
theorem dX10_shore_90 : decode cX10_shore 90 = .ok (.iload_n 1, 1) := by decide +kernel
theorem dX10_shore_91 : decode cX10_shore 91 = .ok (.invokevirtual 244, 3) := by decide +kernel
theorem dX10_shore_94 : decode cX10_shore 94 = .ok (.ireturn, 1) := by decide +kernel
theorem dX10_shore_95 : decode cX10_shore 95 = .ok (.aload_n 0, 1) := by decide +kernel
theorem dX10_shore_96 : decode cX10_shore 96 = .ok (.iload_n 1, 1) := by decide +kernel
theorem dX10_shore_97 : decode cX10_shore 97 = .ok (.iconst 1, 1) := by decide +kernel
theorem dX10_shore_98 : decode cX10_shore 98 = .ok (.invokevirtual 267, 3) := by decide +kernel
theorem dX10_shore_101 : decode cX10_shore 101 = .ok (.ireturn, 1) := by decide +kernel
theorem dX10_shore_102 : decode cX10_shore 102 = .ok (.aload_n 0, 1) := by decide +kernel
theorem dX10_shore_103 : decode cX10_shore 103 = .ok (.iload_n 1, 1) := by decide +kernel
theorem dX10_shore_104 : decode cX10_shore 104 = .ok (.iconst 2, 1) := by decide +kernel
theorem dX10_shore_105 : decode cX10_shore 105 = .ok (.invokevirtual 267, 3) := by decide +kernel
theorem dX10_shore_108 : decode cX10_shore 108 = .ok (.ireturn, 1) := by decide +kernel
theorem dX10_shore_109 : decode cX10_shore 109 = .ok (.bipush (-2), 2) := by decide +kernel
theorem dX10_shore_111 : decode cX10_shore 111 = .ok (.ireturn, 1) := by decide +kernel
theorem dX10_current_0 : decode cX10_current 0 = .ok (.aload_n 0, 1) := by decide +kernel
theorem dX10_current_1 : decode cX10_current 1 = .ok (.iconst 0, 1) := by decide +kernel
theorem dX10_current_2 : decode cX10_current 2 = .ok (.putfield 1, 3) := by decide +kernel
theorem dX10_current_5 : decode cX10_current 5 = .ok (.aload_n 0, 1) := by decide +kernel
theorem dX10_current_6 : decode cX10_current 6 = .ok (.iload_n 1, 1) := by decide +kernel
theorem dX10_current_7 : decode cX10_current 7 = .ok (.i2l, 1) := by decide +kernel
theorem dX10_current_8 : decode cX10_current 8 = .ok (.invokevirtual 260, 3) := by decide +kernel
theorem dX10_current_11 : decode cX10_current 11 = .ok (.ifCond .eq 38, 3) := by decide +kernel
theorem dX10_current_14 : decode cX10_current 14 = .ok (.iload_n 2, 1) := by decide +kernel
theorem dX10_current_15 : decode cX10_current 15 = .ok (.i2l, 1) := by decide +kernel
theorem dX10_current_16 : decode cX10_current 16 = .ok (.lconst 0, 1) := by decide +kernel
theorem dX10_current_17 : decode cX10_current 17 = .ok (.aload_n 0, 1) := by decide +kernel
theorem dX10_current_18 : decode cX10_current 18 = .ok (.getfield 13, 3) := by decide +kernel
theorem dX10_current_21 : decode cX10_current 21 = .ok (.iconst 3, 1) := by decide +kernel
theorem dX10_current_22 : decode cX10_current 22 = .ok (.iaload, 1) := by decide +kernel
theorem dX10_current_23 : decode cX10_current 23 = .ok (.iconst 1, 1) := by decide +kernel
theorem dX10_current_24 : decode cX10_current 24 = .ok (.isub, 1) := by decide +kernel
theorem dX10_current_25 : decode cX10_current 25 = .ok (.i2l, 1) := by decide +kernel
theorem dX10_current_26 : decode cX10_current 26 = .ok (.invokestatic 124, 3) := by decide +kernel
theorem dX10_current_29 : decode cX10_current 29 = .ok (.ifCond .eq 20, 3) := by decide +kernel
theorem dX10_current_32 : decode cX10_current 32 = .ok (.aload_n 0, 1) := by decide +kernel
theorem dX10_current_33 : decode cX10_current 33 = .ok (.getfield 13, 3) := by decide +kernel
theorem dX10_current_36 : decode cX10_current 36 = .ok (.bipush 50, 2) := by decide +kernel
theorem dX10_current_38 : decode cX10_current 38 = .ok (.bipush 6, 2) := by decide +kernel
theorem dX10_current_40 : decode cX10_current 40 = .ok (.iload_n 1, 1) := by decide +kernel
theorem dX10_current_41 : decode cX10_current 41 = .ok (.imul, 1) := by decide +kernel
theorem dX10_current_42 : decode cX10_current 42 = .ok (.iadd, 1) := by decide +kernel
theorem dX10_current_43 : decode cX10_current 43 = .ok (.iload_n 2, 1) := by decide +kernel
theorem dX10_current_44 : decode cX10_current 44 = .ok (.iadd, 1) := by decide +kernel
theorem dX10_current_45 : decode cX10_current 45 = .ok (.iaload, 1) := by decide +kernel
theorem dX10_current_46 : decode cX10_current 46 = .ok (.goto 5, 3) := by decide +kernel
theorem dX10_current_49 : decode cX10_current 49 = .ok (.bipush (-2), 2) := by decide +kernel
theorem dX10_current_51 : decode cX10_current 51 = .ok (.ireturn, 1) := by decide +kernel
theorem dX10_wind_0 : decode cX10_wind 0 = .ok (.aload_n 0, 1) := by decide +kernel
theorem dX10_wind_1 : decode cX10_wind 1 = .ok (.iconst 0, 1) := by decide +kernel
theorem dX10_wind_2 : decode cX10_wind 2 = .ok (.putfield 1, 3) := by decide +kernel
theorem dX10_wind_5 : decode cX10_wind 5 = .ok (.aload_n 0, 1) := by decide +kernel
theorem dX10_wind_6 : decode cX10_wind 6 = .ok (.iload_n 1, 1) := by decide +kernel
theorem dX10_wind_7 : decode cX10_wind 7 = .ok (.i2l, 1) := by decide +kernel
theorem dX10_wind_8 : decode cX10_wind 8 = .ok (.invokevirtual 260, 3) := by decide +kernel
theorem dX10_wind_11 : decode cX10_wind 11 = .ok (.ifCond .ne 6, 3) := by decide +kernel
theorem dX10_wind_14 : decode cX10_wind 14 = .ok (.bipush (-2), 2) := by decide +kernel
theorem dX10_wind_16 : decode cX10_wind 16 = .ok (.ireturn, 1) := by decide +kernel
theorem dX10_wind_17 : decode cX10_wind 17 = .ok (.iload_n 2, 1) := by decide +kernel
theorem dX10_wind_18 : decode cX10_wind 18 = .ok (.i2l, 1) := by decide +kernel
theorem dX10_wind_19 : decode cX10_wind 19 = .ok (.lconst 0, 1) := by decide +kernel
theorem dX10_wind_20 : decode cX10_wind 20 = .ok (.ldc2_w 270, 3) := by decide +kernel
theorem dX10_wind_23 : decode cX10_wind 23 = .ok (.invokestatic 124, 3) := by decide +kernel
theorem dX10_wind_26 : decode cX10_wind 26 = .ok (.ifCond .eq 21, 3) := by decide +kernel
theorem dX10_wind_29 : decode cX10_wind 29 = .ok (.aload_n 0, 1) := by decide +kernel
theorem dX10_wind_30 : decode cX10_wind 30 = .ok (.iload_n 1, 1) := by decide +kernel
theorem dX10_wind_31 : decode cX10_wind 31 = .ok (.aload_n 0, 1) := by decide +kernel
theorem dX10_wind_32 : decode cX10_wind 32 = .ok (.getfield 13, 3) := by decide +kernel
theorem dX10_wind_35 : decode cX10_wind 35 = .ok (.sipush 349, 3) := by decide +kernel
theorem dX10_wind_38 : decode cX10_wind 38 = .ok (.iaload, 1) := by decide +kernel
theorem dX10_wind_39 : decode cX10_wind 39 = .ok (.iload_n 2, 1) := by decide +kernel
theorem dX10_wind_40 : decode cX10_wind 40 = .ok (.iadd, 1) := by decide +kernel
theorem dX10_wind_41 : decode cX10_wind 41 = .ok (.invokevirtual 254, 3) := by decide +kernel
theorem dX10_wind_44 : decode cX10_wind 44 = .ok (.goto 5, 3) := by decide +kernel
theorem dX10_wind_47 : decode cX10_wind 47 = .ok (.bipush (-3), 2) := by decide +kernel
theorem dX10_wind_49 : decode cX10_wind 49 = .ok (.ireturn, 1) := by decide +kernel
theorem dX10_bottle_0 : decode cX10_bottle 0 = .ok (.aload_n 0, 1) := by decide +kernel
theorem dX10_bottle_1 : decode cX10_bottle 1 = .ok (.iconst 0, 1) := by decide +kernel
theorem dX10_bottle_2 : decode cX10_bottle 2 = .ok (.putfield 1, 3) := by decide +kernel
theorem dX10_bottle_5 : decode cX10_bottle 5 = .ok (.aload_n 0, 1) := by decide +kernel
theorem dX10_bottle_6 : decode cX10_bottle 6 = .ok (.iload_n 1, 1) := by decide +kernel
theorem dX10_bottle_7 : decode cX10_bottle 7 = .ok (.i2l, 1) := by decide +kernel
theorem dX10_bottle_8 : decode cX10_bottle 8 = .ok (.invokevirtual 272, 3) := by decide +kernel
theorem dX10_bottle_11 : decode cX10_bottle 11 = .ok (.ifCond .eq 33, 3) := by decide +kernel
theorem dX10_bottle_14 : decode cX10_bottle 14 = .ok (.iload_n 2, 1) := by decide +kernel
theorem dX10_bottle_15 : decode cX10_bottle 15 = .ok (.i2l, 1) := by decide +kernel
theorem dX10_bottle_16 : decode cX10_bottle 16 = .ok (.lconst 0, 1) := by decide +kernel
theorem dX10_bottle_17 : decode cX10_bottle 17 = .ok (.ldc2_w 275, 3) := by decide +kernel
theorem dX10_bottle_20 : decode cX10_bottle 20 = .ok (.invokestatic 124, 3) := by decide +kernel
theorem dX10_bottle_23 : decode cX10_bottle 23 = .ok (.ifCond .eq 21, 3) := by decide +kernel
theorem dX10_bottle_26 : decode cX10_bottle 26 = .ok (.aload_n 0, 1) := by decide +kernel
theorem dX10_bottle_27 : decode cX10_bottle 27 = .ok (.getfield 13, 3) := by decide +kernel
theorem dX10_bottle_30 : decode cX10_bottle 30 = .ok (.sipush 284, 3) := by decide +kernel
theorem dX10_bottle_33 : decode cX10_bottle 33 = .ok (.bipush 8, 2) := by decide +kernel
theorem dX10_bottle_35 : decode cX10_bottle 35 = .ok (.iload_n 1, 1) := by decide +kernel
theorem dX10_bottle_36 : decode cX10_bottle 36 = .ok (.imul, 1) := by decide +kernel
theorem dX10_bottle_37 : decode cX10_bottle 37 = .ok (.iadd, 1) := by decide +kernel
theorem dX10_bottle_38 : decode cX10_bottle 38 = .ok (.iload_n 2, 1) := by decide +kernel
theorem dX10_bottle_39 : decode cX10_bottle 39 = .ok (.iadd, 1) := by decide +kernel
theorem dX10_bottle_40 : decode cX10_bottle 40 = .ok (.iaload, 1) := by decide +kernel
theorem dX10_bottle_41 : decode cX10_bottle 41 = .ok (.goto 5, 3) := by decide +kernel
theorem dX10_bottle_44 : decode cX10_bottle 44 = .ok (.bipush (-8), 2) := by decide +kernel
theorem dX10_bottle_46 : decode cX10_bottle 46 = .ok (.ireturn, 1) := by decide +kernel
theorem dX10_keepsAll_0 : decode cX10_keepsAll 0 = .ok (.iconst 0, 1) := by decide +kernel
theorem dX10_keepsAll_1 : decode cX10_keepsAll 1 = .ok (.istore_n 1, 1) := by decide +kernel
theorem dX10_keepsAll_2 : decode cX10_keepsAll 2 = .ok (.iload_n 1, 1) := by decide +kernel
theorem dX10_keepsAll_3 : decode cX10_keepsAll 3 = .ok (.bipush 66, 2) := by decide +kernel
theorem dX10_keepsAll_5 : decode cX10_keepsAll 5 = .ok (.if_icmp .ge 25, 3) := by decide +kernel
theorem dX10_keepsAll_8 : decode cX10_keepsAll 8 = .ok (.aload_n 0, 1) := by decide +kernel
theorem dX10_keepsAll_9 : decode cX10_keepsAll 9 = .ok (.getfield 39, 3) := by decide +kernel
theorem dX10_keepsAll_12 : decode cX10_keepsAll 12 = .ok (.iload_n 1, 1) := by decide +kernel
theorem dX10_keepsAll_13 : decode cX10_keepsAll 13 = .ok (.aload_n 0, 1) := by decide +kernel
theorem dX10_keepsAll_14 : decode cX10_keepsAll 14 = .ok (.getfield 13, 3) := by decide +kernel
theorem dX10_keepsAll_17 : decode cX10_keepsAll 17 = .ok (.sipush 284, 3) := by decide +kernel
theorem dX10_keepsAll_20 : decode cX10_keepsAll 20 = .ok (.iload_n 1, 1) := by decide +kernel
theorem dX10_keepsAll_21 : decode cX10_keepsAll 21 = .ok (.iadd, 1) := by decide +kernel
theorem dX10_keepsAll_22 : decode cX10_keepsAll 22 = .ok (.iaload, 1) := by decide +kernel
theorem dX10_keepsAll_23 : decode cX10_keepsAll 23 = .ok (.iastore, 1) := by decide +kernel
theorem dX10_keepsAll_24 : decode cX10_keepsAll 24 = .ok (.iinc 1 1, 3) := by decide +kernel
theorem dX10_keepsAll_27 : decode cX10_keepsAll 27 = .ok (.goto (-25), 3) := by decide +kernel
theorem dX10_keepsAll_30 : decode cX10_keepsAll 30 = .ok (.return_, 1) := by decide +kernel
theorem dX10_isAgain_0 : decode cX10_isAgain 0 = .ok (.iconst 0, 1) := by decide +kernel
theorem dX10_isAgain_1 : decode cX10_isAgain 1 = .ok (.istore_n 1, 1) := by decide +kernel
theorem dX10_isAgain_2 : decode cX10_isAgain 2 = .ok (.iload_n 1, 1) := by decide +kernel
theorem dX10_isAgain_3 : decode cX10_isAgain 3 = .ok (.bipush 66, 2) := by decide +kernel
theorem dX10_isAgain_5 : decode cX10_isAgain 5 = .ok (.if_icmp .ge 25, 3) := by decide +kernel
theorem dX10_isAgain_8 : decode cX10_isAgain 8 = .ok (.aload_n 0, 1) := by decide +kernel
theorem dX10_isAgain_9 : decode cX10_isAgain 9 = .ok (.getfield 13, 3) := by decide +kernel
theorem dX10_isAgain_12 : decode cX10_isAgain 12 = .ok (.sipush 284, 3) := by decide +kernel
theorem dX10_isAgain_15 : decode cX10_isAgain 15 = .ok (.iload_n 1, 1) := by decide +kernel
theorem dX10_isAgain_16 : decode cX10_isAgain 16 = .ok (.iadd, 1) := by decide +kernel
theorem dX10_isAgain_17 : decode cX10_isAgain 17 = .ok (.aload_n 0, 1) := by decide +kernel
theorem dX10_isAgain_18 : decode cX10_isAgain 18 = .ok (.getfield 39, 3) := by decide +kernel
theorem dX10_isAgain_21 : decode cX10_isAgain 21 = .ok (.iload_n 1, 1) := by decide +kernel
theorem dX10_isAgain_22 : decode cX10_isAgain 22 = .ok (.iaload, 1) := by decide +kernel
theorem dX10_isAgain_23 : decode cX10_isAgain 23 = .ok (.iastore, 1) := by decide +kernel
theorem dX10_isAgain_24 : decode cX10_isAgain 24 = .ok (.iinc 1 1, 3) := by decide +kernel
theorem dX10_isAgain_27 : decode cX10_isAgain 27 = .ok (.goto (-25), 3) := by decide +kernel
theorem dX10_isAgain_30 : decode cX10_isAgain 30 = .ok (.return_, 1) := by decide +kernel
theorem dX10_notes_0 : decode cX10_notes 0 = .ok (.aload_n 0, 1) := by decide +kernel
theorem dX10_notes_1 : decode cX10_notes 1 = .ok (.getfield 13, 3) := by decide +kernel
theorem dX10_notes_4 : decode cX10_notes 4 = .ok (.sipush 350, 3) := by decide +kernel
theorem dX10_notes_7 : decode cX10_notes 7 = .ok (.iaload, 1) := by decide +kernel
theorem dX10_notes_8 : decode cX10_notes 8 = .ok (.bipush 10, 2) := by decide +kernel
theorem dX10_notes_10 : decode cX10_notes 10 = .ok (.if_icmp .ne 50, 3) := by decide +kernel
theorem dX10_notes_13 : decode cX10_notes 13 = .ok (.iconst 0, 1) := by decide +kernel
theorem dX10_notes_14 : decode cX10_notes 14 = .ok (.istore_n 1, 1) := by decide +kernel
theorem dX10_notes_15 : decode cX10_notes 15 = .ok (.iload_n 1, 1) := by decide +kernel
theorem dX10_notes_16 : decode cX10_notes 16 = .ok (.sipush 594, 3) := by decide +kernel
theorem dX10_notes_19 : decode cX10_notes 19 = .ok (.if_icmp .ge 29, 3) := by decide +kernel
theorem dX10_notes_22 : decode cX10_notes 22 = .ok (.aload_n 0, 1) := by decide +kernel
theorem dX10_notes_23 : decode cX10_notes 23 = .ok (.getfield 13, 3) := by decide +kernel
theorem dX10_notes_26 : decode cX10_notes 26 = .ok (.sipush 351, 3) := by decide +kernel
theorem dX10_notes_29 : decode cX10_notes 29 = .ok (.iload_n 1, 1) := by decide +kernel
theorem dX10_notes_30 : decode cX10_notes 30 = .ok (.iadd, 1) := by decide +kernel
theorem dX10_notes_31 : decode cX10_notes 31 = .ok (.aload_n 0, 1) := by decide +kernel
theorem dX10_notes_32 : decode cX10_notes 32 = .ok (.getfield 13, 3) := by decide +kernel
theorem dX10_notes_35 : decode cX10_notes 35 = .ok (.sipush 417, 3) := by decide +kernel
theorem dX10_notes_38 : decode cX10_notes 38 = .ok (.iload_n 1, 1) := by decide +kernel
theorem dX10_notes_39 : decode cX10_notes 39 = .ok (.iadd, 1) := by decide +kernel
theorem dX10_notes_40 : decode cX10_notes 40 = .ok (.iaload, 1) := by decide +kernel
theorem dX10_notes_41 : decode cX10_notes 41 = .ok (.iastore, 1) := by decide +kernel
theorem dX10_notes_42 : decode cX10_notes 42 = .ok (.iinc 1 1, 3) := by decide +kernel
theorem dX10_notes_45 : decode cX10_notes 45 = .ok (.goto (-30), 3) := by decide +kernel
theorem dX10_notes_48 : decode cX10_notes 48 = .ok (.aload_n 0, 1) := by decide +kernel
theorem dX10_notes_49 : decode cX10_notes 49 = .ok (.getfield 13, 3) := by decide +kernel
theorem dX10_notes_52 : decode cX10_notes 52 = .ok (.sipush 350, 3) := by decide +kernel
theorem dX10_notes_55 : decode cX10_notes 55 = .ok (.dup2, 1) := by decide +kernel
theorem dX10_notes_56 : decode cX10_notes 56 = .ok (.iaload, 1) := by decide +kernel
theorem dX10_notes_57 : decode cX10_notes 57 = .ok (.iconst 1, 1) := by decide +kernel
theorem dX10_notes_58 : decode cX10_notes 58 = .ok (.isub, 1) := by decide +kernel
theorem dX10_notes_59 : decode cX10_notes 59 = .ok (.iastore, 1) := by decide +kernel
theorem dX10_notes_60 : decode cX10_notes 60 = .ok (.iconst 0, 1) := by decide +kernel
theorem dX10_notes_61 : decode cX10_notes 61 = .ok (.istore_n 1, 1) := by decide +kernel
theorem dX10_notes_62 : decode cX10_notes 62 = .ok (.iload_n 1, 1) := by decide +kernel
theorem dX10_notes_63 : decode cX10_notes 63 = .ok (.bipush 66, 2) := by decide +kernel
theorem dX10_notes_65 : decode cX10_notes 65 = .ok (.if_icmp .ge 37, 3) := by decide +kernel
theorem dX10_notes_68 : decode cX10_notes 68 = .ok (.aload_n 0, 1) := by decide +kernel
theorem dX10_notes_69 : decode cX10_notes 69 = .ok (.getfield 13, 3) := by decide +kernel
theorem dX10_notes_72 : decode cX10_notes 72 = .ok (.sipush 351, 3) := by decide +kernel
theorem dX10_notes_75 : decode cX10_notes 75 = .ok (.bipush 66, 2) := by decide +kernel
theorem dX10_notes_77 : decode cX10_notes 77 = .ok (.aload_n 0, 1) := by decide +kernel
theorem dX10_notes_78 : decode cX10_notes 78 = .ok (.getfield 13, 3) := by decide +kernel
theorem dX10_notes_81 : decode cX10_notes 81 = .ok (.sipush 350, 3) := by decide +kernel
theorem dX10_notes_84 : decode cX10_notes 84 = .ok (.iaload, 1) := by decide +kernel
theorem dX10_notes_85 : decode cX10_notes 85 = .ok (.imul, 1) := by decide +kernel
theorem dX10_notes_86 : decode cX10_notes 86 = .ok (.iadd, 1) := by decide +kernel
theorem dX10_notes_87 : decode cX10_notes 87 = .ok (.iload_n 1, 1) := by decide +kernel
theorem dX10_notes_88 : decode cX10_notes 88 = .ok (.iadd, 1) := by decide +kernel
theorem dX10_notes_89 : decode cX10_notes 89 = .ok (.aload_n 0, 1) := by decide +kernel
theorem dX10_notes_90 : decode cX10_notes 90 = .ok (.getfield 39, 3) := by decide +kernel
theorem dX10_notes_93 : decode cX10_notes 93 = .ok (.iload_n 1, 1) := by decide +kernel
theorem dX10_notes_94 : decode cX10_notes 94 = .ok (.iaload, 1) := by decide +kernel
theorem dX10_notes_95 : decode cX10_notes 95 = .ok (.iastore, 1) := by decide +kernel
theorem dX10_notes_96 : decode cX10_notes 96 = .ok (.iinc 1 1, 3) := by decide +kernel
theorem dX10_notes_99 : decode cX10_notes 99 = .ok (.goto (-37), 3) := by decide +kernel
theorem dX10_notes_102 : decode cX10_notes 102 = .ok (.aload_n 0, 1) := by decide +kernel
theorem dX10_notes_103 : decode cX10_notes 103 = .ok (.getfield 13, 3) := by decide +kernel
theorem dX10_notes_106 : decode cX10_notes 106 = .ok (.sipush 350, 3) := by decide +kernel
theorem dX10_notes_109 : decode cX10_notes 109 = .ok (.dup2, 1) := by decide +kernel
theorem dX10_notes_110 : decode cX10_notes 110 = .ok (.iaload, 1) := by decide +kernel
theorem dX10_notes_111 : decode cX10_notes 111 = .ok (.iconst 1, 1) := by decide +kernel
theorem dX10_notes_112 : decode cX10_notes 112 = .ok (.iadd, 1) := by decide +kernel
theorem dX10_notes_113 : decode cX10_notes 113 = .ok (.iastore, 1) := by decide +kernel
theorem dX10_notes_114 : decode cX10_notes 114 = .ok (.return_, 1) := by decide +kernel
theorem dX10_whyThrow_0 : decode cX10_whyThrow 0 = .ok (.aload_n 0, 1) := by decide +kernel
theorem dX10_whyThrow_1 : decode cX10_whyThrow 1 = .ok (.lload_n 1, 1) := by decide +kernel
theorem dX10_whyThrow_2 : decode cX10_whyThrow 2 = .ok (.invokevirtual 264, 3) := by decide +kernel
theorem dX10_whyThrow_5 : decode cX10_whyThrow 5 = .ok (.ifCond .eq 25, 3) := by decide +kernel
theorem dX10_whyThrow_8 : decode cX10_whyThrow 8 = .ok (.lload_n 3, 1) := by decide +kernel
theorem dX10_whyThrow_9 : decode cX10_whyThrow 9 = .ok (.ldc2_w 277, 3) := by decide +kernel
theorem dX10_whyThrow_12 : decode cX10_whyThrow 12 = .ok (.lcmp, 1) := by decide +kernel
theorem dX10_whyThrow_13 : decode cX10_whyThrow 13 = .ok (.ifCond .eq 11, 3) := by decide +kernel
theorem dX10_whyThrow_16 : decode cX10_whyThrow 16 = .ok (.aload_n 0, 1) := by decide +kernel
theorem dX10_whyThrow_17 : decode cX10_whyThrow 17 = .ok (.lload_n 3, 1) := by decide +kernel
theorem dX10_whyThrow_18 : decode cX10_whyThrow 18 = .ok (.invokevirtual 264, 3) := by decide +kernel
theorem dX10_whyThrow_21 : decode cX10_whyThrow 21 = .ok (.ifCond .eq 9, 3) := by decide +kernel
theorem dX10_whyThrow_24 : decode cX10_whyThrow 24 = .ok (.lload_n 1, 1) := by decide +kernel
theorem dX10_whyThrow_25 : decode cX10_whyThrow 25 = .ok (.lload_n 3, 1) := by decide +kernel
theorem dX10_whyThrow_26 : decode cX10_whyThrow 26 = .ok (.lcmp, 1) := by decide +kernel
theorem dX10_whyThrow_27 : decode cX10_whyThrow 27 = .ok (.ifCond .ne 5, 3) := by decide +kernel
theorem dX10_whyThrow_30 : decode cX10_whyThrow 30 = .ok (.iconst 1, 1) := by decide +kernel
theorem dX10_whyThrow_31 : decode cX10_whyThrow 31 = .ok (.ireturn, 1) := by decide +kernel
theorem dX10_whyThrow_32 : decode cX10_whyThrow 32 = .ok (.aload_n 0, 1) := by decide +kernel
theorem dX10_whyThrow_33 : decode cX10_whyThrow 33 = .ok (.lload_n 1, 1) := by decide +kernel
theorem dX10_whyThrow_34 : decode cX10_whyThrow 34 = .ok (.l2i, 1) := by decide +kernel
theorem dX10_whyThrow_35 : decode cX10_whyThrow 35 = .ok (.invokevirtual 244, 3) := by decide +kernel
theorem dX10_whyThrow_38 : decode cX10_whyThrow 38 = .ok (.iconst (-1), 1) := by decide +kernel
theorem dX10_whyThrow_39 : decode cX10_whyThrow 39 = .ok (.if_icmp .ne 7, 3) := by decide +kernel
theorem dX10_whyThrow_42 : decode cX10_whyThrow 42 = .ok (.iconst 2, 1) := by decide +kernel
theorem dX10_whyThrow_43 : decode cX10_whyThrow 43 = .ok (.goto 21, 3) := by decide +kernel
theorem dX10_whyThrow_46 : decode cX10_whyThrow 46 = .ok (.aload_n 0, 1) := by decide +kernel
theorem dX10_whyThrow_47 : decode cX10_whyThrow 47 = .ok (.getfield 13, 3) := by decide +kernel
theorem dX10_whyThrow_50 : decode cX10_whyThrow 50 = .ok (.sipush 348, 3) := by decide +kernel
theorem dX10_whyThrow_53 : decode cX10_whyThrow 53 = .ok (.iaload, 1) := by decide +kernel
theorem dX10_whyThrow_54 : decode cX10_whyThrow 54 = .ok (.bipush 8, 2) := by decide +kernel
theorem dX10_whyThrow_56 : decode cX10_whyThrow 56 = .ok (.if_icmp .ne 7, 3) := by decide +kernel
theorem dX10_whyThrow_59 : decode cX10_whyThrow 59 = .ok (.iconst 3, 1) := by decide +kernel
theorem dX10_whyThrow_60 : decode cX10_whyThrow 60 = .ok (.goto 4, 3) := by decide +kernel
theorem dX10_whyThrow_63 : decode cX10_whyThrow 63 = .ok (.iconst 0, 1) := by decide +kernel
theorem dX10_whyThrow_64 : decode cX10_whyThrow 64 = .ok (.ireturn, 1) := by decide +kernel
theorem dX10_whyLift_0 : decode cX10_whyLift 0 = .ok (.aload_n 0, 1) := by decide +kernel
theorem dX10_whyLift_1 : decode cX10_whyLift 1 = .ok (.lload_n 1, 1) := by decide +kernel
theorem dX10_whyLift_2 : decode cX10_whyLift 2 = .ok (.invokevirtual 272, 3) := by decide +kernel
theorem dX10_whyLift_5 : decode cX10_whyLift 5 = .ok (.ifCond .ne 7, 3) := by decide +kernel
theorem dX10_whyLift_8 : decode cX10_whyLift 8 = .ok (.iconst 1, 1) := by decide +kernel
theorem dX10_whyLift_9 : decode cX10_whyLift 9 = .ok (.goto 25, 3) := by decide +kernel
theorem dX10_whyLift_12 : decode cX10_whyLift 12 = .ok (.aload_n 0, 1) := by decide +kernel
theorem dX10_whyLift_13 : decode cX10_whyLift 13 = .ok (.getfield 13, 3) := by decide +kernel
theorem dX10_whyLift_16 : decode cX10_whyLift 16 = .ok (.sipush 284, 3) := by decide +kernel
theorem dX10_whyLift_19 : decode cX10_whyLift 19 = .ok (.bipush 8, 2) := by decide +kernel
theorem dX10_whyLift_21 : decode cX10_whyLift 21 = .ok (.lload_n 1, 1) := by decide +kernel
theorem dX10_whyLift_22 : decode cX10_whyLift 22 = .ok (.l2i, 1) := by decide +kernel
theorem dX10_whyLift_23 : decode cX10_whyLift 23 = .ok (.imul, 1) := by decide +kernel
theorem dX10_whyLift_24 : decode cX10_whyLift 24 = .ok (.iadd, 1) := by decide +kernel
theorem dX10_whyLift_25 : decode cX10_whyLift 25 = .ok (.iaload, 1) := by decide +kernel
theorem dX10_whyLift_26 : decode cX10_whyLift 26 = .ok (.ifCond .ne 7, 3) := by decide +kernel
theorem dX10_whyLift_29 : decode cX10_whyLift 29 = .ok (.iconst 0, 1) := by decide +kernel
theorem dX10_whyLift_30 : decode cX10_whyLift 30 = .ok (.goto 4, 3) := by decide +kernel
theorem dX10_whyLift_33 : decode cX10_whyLift 33 = .ok (.iconst 2, 1) := by decide +kernel
theorem dX10_whyLift_34 : decode cX10_whyLift 34 = .ok (.ireturn, 1) := by decide +kernel
theorem dX10_throwsOne_0 : decode cX10_throwsOne 0 = .ok (.aload_n 0, 1) := by decide +kernel
theorem dX10_throwsOne_1 : decode cX10_throwsOne 1 = .ok (.iload_n 1, 1) := by decide +kernel
theorem dX10_throwsOne_2 : decode cX10_throwsOne 2 = .ok (.iload_n 2, 1) := by decide +kernel
theorem dX10_throwsOne_3 : decode cX10_throwsOne 3 = .ok (.iload_n 3, 1) := by decide +kernel
theorem dX10_throwsOne_4 : decode cX10_throwsOne 4 = .ok (.aload_n 0, 1) := by decide +kernel
theorem dX10_throwsOne_5 : decode cX10_throwsOne 5 = .ok (.iload_n 1, 1) := by decide +kernel
theorem dX10_throwsOne_6 : decode cX10_throwsOne 6 = .ok (.invokevirtual 244, 3) := by decide +kernel
theorem dX10_throwsOne_9 : decode cX10_throwsOne 9 = .ok (.invokevirtual 279, 3) := by decide +kernel
theorem dX10_throwsOne_12 : decode cX10_throwsOne 12 = .ok (.aload_n 0, 1) := by decide +kernel
theorem dX10_throwsOne_13 : decode cX10_throwsOne 13 = .ok (.aload_n 0, 1) := by decide +kernel
theorem dX10_throwsOne_14 : decode cX10_throwsOne 14 = .ok (.getfield 13, 3) := by decide +kernel
theorem dX10_throwsOne_17 : decode cX10_throwsOne 17 = .ok (.sipush 348, 3) := by decide +kernel
theorem dX10_throwsOne_20 : decode cX10_throwsOne 20 = .ok (.iaload, 1) := by decide +kernel
theorem dX10_throwsOne_21 : decode cX10_throwsOne 21 = .ok (.invokevirtual 283, 3) := by decide +kernel
theorem dX10_throwsOne_24 : decode cX10_throwsOne 24 = .ok (.aload_n 0, 1) := by decide +kernel
theorem dX10_throwsOne_25 : decode cX10_throwsOne 25 = .ok (.getfield 13, 3) := by decide +kernel
theorem dX10_throwsOne_28 : decode cX10_throwsOne 28 = .ok (.sipush 348, 3) := by decide +kernel
theorem dX10_throwsOne_31 : decode cX10_throwsOne 31 = .ok (.dup2, 1) := by decide +kernel
theorem dX10_throwsOne_32 : decode cX10_throwsOne 32 = .ok (.iaload, 1) := by decide +kernel
theorem dX10_throwsOne_33 : decode cX10_throwsOne 33 = .ok (.iconst 1, 1) := by decide +kernel
theorem dX10_throwsOne_34 : decode cX10_throwsOne 34 = .ok (.iadd, 1) := by decide +kernel
theorem dX10_throwsOne_35 : decode cX10_throwsOne 35 = .ok (.iastore, 1) := by decide +kernel
theorem dX10_throwsOne_36 : decode cX10_throwsOne 36 = .ok (.return_, 1) := by decide +kernel
theorem dX10_tide_0 : decode cX10_tide 0 = .ok (.iconst 0, 1) := by decide +kernel
theorem dX10_tide_1 : decode cX10_tide 1 = .ok (.istore_n 1, 1) := by decide +kernel
theorem dX10_tide_2 : decode cX10_tide 2 = .ok (.iconst 0, 1) := by decide +kernel
theorem dX10_tide_3 : decode cX10_tide 3 = .ok (.istore_n 2, 1) := by decide +kernel
theorem dX10_tide_4 : decode cX10_tide 4 = .ok (.iload_n 2, 1) := by decide +kernel
theorem dX10_tide_5 : decode cX10_tide 5 = .ok (.aload_n 0, 1) := by decide +kernel
theorem dX10_tide_6 : decode cX10_tide 6 = .ok (.getfield 13, 3) := by decide +kernel
theorem dX10_tide_9 : decode cX10_tide 9 = .ok (.sipush 348, 3) := by decide +kernel
theorem dX10_tide_12 : decode cX10_tide 12 = .ok (.iaload, 1) := by decide +kernel
theorem dX10_tide_13 : decode cX10_tide 13 = .ok (.if_icmp .ge 59, 3) := by decide +kernel
theorem dX10_tide_16 : decode cX10_tide 16 = .ok (.aload_n 0, 1) := by decide +kernel
theorem dX10_tide_17 : decode cX10_tide 17 = .ok (.iload_n 2, 1) := by decide +kernel
theorem dX10_tide_18 : decode cX10_tide 18 = .ok (.invokevirtual 286, 3) := by decide +kernel
theorem dX10_tide_21 : decode cX10_tide 21 = .ok (.aload_n 0, 1) := by decide +kernel
theorem dX10_tide_22 : decode cX10_tide 22 = .ok (.invokevirtual 247, 3) := by decide +kernel
theorem dX10_tide_25 : decode cX10_tide 25 = .ok (.istore_n 3, 1) := by decide +kernel
theorem dX10_tide_26 : decode cX10_tide 26 = .ok (.aload_n 0, 1) := by decide +kernel
theorem dX10_tide_27 : decode cX10_tide 27 = .ok (.aload_n 0, 1) := by decide +kernel
theorem dX10_tide_28 : decode cX10_tide 28 = .ok (.getfield 13, 3) := by decide +kernel
theorem dX10_tide_31 : decode cX10_tide 31 = .ok (.sipush 349, 3) := by decide +kernel
theorem dX10_tide_34 : decode cX10_tide 34 = .ok (.iaload, 1) := by decide +kernel
theorem dX10_tide_35 : decode cX10_tide 35 = .ok (.iconst 0, 1) := by decide +kernel
theorem dX10_tide_36 : decode cX10_tide 36 = .ok (.invokevirtual 289, 3) := by decide +kernel
theorem dX10_tide_39 : decode cX10_tide 39 = .ok (.iload_n 1, 1) := by decide +kernel
theorem dX10_tide_40 : decode cX10_tide 40 = .ok (.iload_n 3, 1) := by decide +kernel
theorem dX10_tide_41 : decode cX10_tide 41 = .ok (.ifCond .eq 17, 3) := by decide +kernel
theorem dX10_tide_44 : decode cX10_tide 44 = .ok (.aload_n 0, 1) := by decide +kernel
theorem dX10_tide_45 : decode cX10_tide 45 = .ok (.getfield 30, 3) := by decide +kernel
theorem dX10_tide_48 : decode cX10_tide 48 = .ok (.iconst 0, 1) := by decide +kernel
theorem dX10_tide_49 : decode cX10_tide 49 = .ok (.iaload, 1) := by decide +kernel
theorem dX10_tide_50 : decode cX10_tide 50 = .ok (.iconst 2, 1) := by decide +kernel
theorem dX10_tide_51 : decode cX10_tide 51 = .ok (.if_icmp .ne 7, 3) := by decide +kernel
theorem dX10_tide_54 : decode cX10_tide 54 = .ok (.iconst 1, 1) := by decide +kernel
theorem dX10_tide_55 : decode cX10_tide 55 = .ok (.goto 4, 3) := by decide +kernel
theorem dX10_tide_58 : decode cX10_tide 58 = .ok (.iconst 0, 1) := by decide +kernel
theorem dX10_tide_59 : decode cX10_tide 59 = .ok (.iadd, 1) := by decide +kernel
theorem dX10_tide_60 : decode cX10_tide 60 = .ok (.istore_n 1, 1) := by decide +kernel
theorem dX10_tide_61 : decode cX10_tide 61 = .ok (.aload_n 0, 1) := by decide +kernel
theorem dX10_tide_62 : decode cX10_tide 62 = .ok (.iload_n 2, 1) := by decide +kernel
theorem dX10_tide_63 : decode cX10_tide 63 = .ok (.invokevirtual 283, 3) := by decide +kernel
theorem dX10_tide_66 : decode cX10_tide 66 = .ok (.iinc 2 1, 3) := by decide +kernel
theorem dX10_tide_69 : decode cX10_tide 69 = .ok (.goto (-65), 3) := by decide +kernel
theorem dX10_tide_72 : decode cX10_tide 72 = .ok (.aload_n 0, 1) := by decide +kernel
theorem dX10_tide_73 : decode cX10_tide 73 = .ok (.getfield 13, 3) := by decide +kernel
theorem dX10_tide_76 : decode cX10_tide 76 = .ok (.sipush 349, 3) := by decide +kernel
theorem dX10_tide_79 : decode cX10_tide 79 = .ok (.dup2, 1) := by decide +kernel
theorem dX10_tide_80 : decode cX10_tide 80 = .ok (.iaload, 1) := by decide +kernel
theorem dX10_tide_81 : decode cX10_tide 81 = .ok (.iconst 1, 1) := by decide +kernel
theorem dX10_tide_82 : decode cX10_tide 82 = .ok (.iadd, 1) := by decide +kernel
theorem dX10_tide_83 : decode cX10_tide 83 = .ok (.iastore, 1) := by decide +kernel
theorem dX10_tide_84 : decode cX10_tide 84 = .ok (.iload_n 1, 1) := by decide +kernel
theorem dX10_tide_85 : decode cX10_tide 85 = .ok (.ireturn, 1) := by decide +kernel
theorem dX10_throwsIt_0 : decode cX10_throwsIt 0 = .ok (.aload_n 0, 1) := by decide +kernel
theorem dX10_throwsIt_1 : decode cX10_throwsIt 1 = .ok (.iconst 0, 1) := by decide +kernel
theorem dX10_throwsIt_2 : decode cX10_throwsIt 2 = .ok (.putfield 1, 3) := by decide +kernel
theorem dX10_throwsIt_5 : decode cX10_throwsIt 5 = .ok (.aload_n 0, 1) := by decide +kernel
theorem dX10_throwsIt_6 : decode cX10_throwsIt 6 = .ok (.iload_n 1, 1) := by decide +kernel
theorem dX10_throwsIt_7 : decode cX10_throwsIt 7 = .ok (.i2l, 1) := by decide +kernel
theorem dX10_throwsIt_8 : decode cX10_throwsIt 8 = .ok (.iload_n 2, 1) := by decide +kernel
theorem dX10_throwsIt_9 : decode cX10_throwsIt 9 = .ok (.i2l, 1) := by decide +kernel
theorem dX10_throwsIt_10 : decode cX10_throwsIt 10 = .ok (.invokevirtual 293, 3) := by decide +kernel
theorem dX10_throwsIt_13 : decode cX10_throwsIt 13 = .ok (.istore 4, 2) := by decide +kernel
theorem dX10_throwsIt_15 : decode cX10_throwsIt 15 = .ok (.iload 4, 2) := by decide +kernel
theorem dX10_throwsIt_17 : decode cX10_throwsIt 17 = .ok (.ifCond .eq 9, 3) := by decide +kernel
theorem dX10_throwsIt_20 : decode cX10_throwsIt 20 = .ok (.bipush (-10), 2) := by decide +kernel
theorem dX10_throwsIt_22 : decode cX10_throwsIt 22 = .ok (.iload 4, 2) := by decide +kernel
theorem dX10_throwsIt_24 : decode cX10_throwsIt 24 = .ok (.isub, 1) := by decide +kernel
theorem dX10_throwsIt_25 : decode cX10_throwsIt 25 = .ok (.ireturn, 1) := by decide +kernel
theorem dX10_throwsIt_26 : decode cX10_throwsIt 26 = .ok (.aload_n 0, 1) := by decide +kernel
theorem dX10_throwsIt_27 : decode cX10_throwsIt 27 = .ok (.invokevirtual 297, 3) := by decide +kernel
theorem dX10_throwsIt_30 : decode cX10_throwsIt 30 = .ok (.aload_n 0, 1) := by decide +kernel
theorem dX10_throwsIt_31 : decode cX10_throwsIt 31 = .ok (.iload_n 1, 1) := by decide +kernel
theorem dX10_throwsIt_32 : decode cX10_throwsIt 32 = .ok (.iload_n 2, 1) := by decide +kernel
theorem dX10_throwsIt_33 : decode cX10_throwsIt 33 = .ok (.iload_n 3, 1) := by decide +kernel
theorem dX10_throwsIt_34 : decode cX10_throwsIt 34 = .ok (.invokevirtual 300, 3) := by decide +kernel
theorem dX10_throwsIt_37 : decode cX10_throwsIt 37 = .ok (.aload_n 0, 1) := by decide +kernel
theorem dX10_throwsIt_38 : decode cX10_throwsIt 38 = .ok (.invokevirtual 304, 3) := by decide +kernel
theorem dX10_throwsIt_41 : decode cX10_throwsIt 41 = .ok (.aload_n 0, 1) := by decide +kernel
theorem dX10_throwsIt_42 : decode cX10_throwsIt 42 = .ok (.getfield 13, 3) := by decide +kernel
theorem dX10_throwsIt_45 : decode cX10_throwsIt 45 = .ok (.sipush 348, 3) := by decide +kernel
theorem dX10_throwsIt_48 : decode cX10_throwsIt 48 = .ok (.iaload, 1) := by decide +kernel
theorem dX10_throwsIt_49 : decode cX10_throwsIt 49 = .ok (.iconst 1, 1) := by decide +kernel
theorem dX10_throwsIt_50 : decode cX10_throwsIt 50 = .ok (.isub, 1) := by decide +kernel
theorem dX10_throwsIt_51 : decode cX10_throwsIt 51 = .ok (.ireturn, 1) := by decide +kernel
theorem dX10_tides_0 : decode cX10_tides 0 = .ok (.aload_n 0, 1) := by decide +kernel
theorem dX10_tides_1 : decode cX10_tides 1 = .ok (.iconst 0, 1) := by decide +kernel
theorem dX10_tides_2 : decode cX10_tides 2 = .ok (.putfield 1, 3) := by decide +kernel
theorem dX10_tides_5 : decode cX10_tides 5 = .ok (.iload_n 1, 1) := by decide +kernel
theorem dX10_tides_6 : decode cX10_tides 6 = .ok (.i2l, 1) := by decide +kernel
theorem dX10_tides_7 : decode cX10_tides 7 = .ok (.lconst 1, 1) := by decide +kernel
theorem dX10_tides_8 : decode cX10_tides 8 = .ok (.ldc2_w 307, 3) := by decide +kernel
theorem dX10_tides_11 : decode cX10_tides 11 = .ok (.invokestatic 124, 3) := by decide +kernel
theorem dX10_tides_14 : decode cX10_tides 14 = .ok (.ifCond .ne 6, 3) := by decide +kernel
theorem dX10_tides_17 : decode cX10_tides 17 = .ok (.bipush (-3), 2) := by decide +kernel
theorem dX10_tides_19 : decode cX10_tides 19 = .ok (.ireturn, 1) := by decide +kernel
theorem dX10_tides_20 : decode cX10_tides 20 = .ok (.aload_n 0, 1) := by decide +kernel
theorem dX10_tides_21 : decode cX10_tides 21 = .ok (.invokevirtual 297, 3) := by decide +kernel
theorem dX10_tides_24 : decode cX10_tides 24 = .ok (.iconst 0, 1) := by decide +kernel
theorem dX10_tides_25 : decode cX10_tides 25 = .ok (.istore_n 2, 1) := by decide +kernel
theorem dX10_tides_26 : decode cX10_tides 26 = .ok (.iconst 0, 1) := by decide +kernel
theorem dX10_tides_27 : decode cX10_tides 27 = .ok (.istore_n 3, 1) := by decide +kernel
theorem dX10_tides_28 : decode cX10_tides 28 = .ok (.iload_n 3, 1) := by decide +kernel
theorem dX10_tides_29 : decode cX10_tides 29 = .ok (.iload_n 1, 1) := by decide +kernel
theorem dX10_tides_30 : decode cX10_tides 30 = .ok (.if_icmp .ge 16, 3) := by decide +kernel
theorem dX10_tides_33 : decode cX10_tides 33 = .ok (.iload_n 2, 1) := by decide +kernel
theorem dX10_tides_34 : decode cX10_tides 34 = .ok (.aload_n 0, 1) := by decide +kernel
theorem dX10_tides_35 : decode cX10_tides 35 = .ok (.invokevirtual 309, 3) := by decide +kernel
theorem dX10_tides_38 : decode cX10_tides 38 = .ok (.iadd, 1) := by decide +kernel
theorem dX10_tides_39 : decode cX10_tides 39 = .ok (.istore_n 2, 1) := by decide +kernel
theorem dX10_tides_40 : decode cX10_tides 40 = .ok (.iinc 3 1, 3) := by decide +kernel
theorem dX10_tides_43 : decode cX10_tides 43 = .ok (.goto (-15), 3) := by decide +kernel
theorem dX10_tides_46 : decode cX10_tides 46 = .ok (.aload_n 0, 1) := by decide +kernel
theorem dX10_tides_47 : decode cX10_tides 47 = .ok (.invokevirtual 304, 3) := by decide +kernel
theorem dX10_tides_50 : decode cX10_tides 50 = .ok (.iload_n 2, 1) := by decide +kernel
theorem dX10_tides_51 : decode cX10_tides 51 = .ok (.ireturn, 1) := by decide +kernel
theorem dX10_storm_0 : decode cX10_storm 0 = .ok (.aload_n 0, 1) := by decide +kernel
theorem dX10_storm_1 : decode cX10_storm 1 = .ok (.iconst 0, 1) := by decide +kernel
theorem dX10_storm_2 : decode cX10_storm 2 = .ok (.putfield 1, 3) := by decide +kernel
theorem dX10_storm_5 : decode cX10_storm 5 = .ok (.aload_n 0, 1) := by decide +kernel
theorem dX10_storm_6 : decode cX10_storm 6 = .ok (.iload_n 1, 1) := by decide +kernel
theorem dX10_storm_7 : decode cX10_storm 7 = .ok (.i2l, 1) := by decide +kernel
theorem dX10_storm_8 : decode cX10_storm 8 = .ok (.invokevirtual 260, 3) := by decide +kernel
theorem dX10_storm_11 : decode cX10_storm 11 = .ok (.ifCond .eq 17, 3) := by decide +kernel
theorem dX10_storm_14 : decode cX10_storm 14 = .ok (.aload_n 0, 1) := by decide +kernel
theorem dX10_storm_15 : decode cX10_storm 15 = .ok (.iload_n 2, 1) := by decide +kernel
theorem dX10_storm_16 : decode cX10_storm 16 = .ok (.i2l, 1) := by decide +kernel
theorem dX10_storm_17 : decode cX10_storm 17 = .ok (.invokevirtual 260, 3) := by decide +kernel
theorem dX10_storm_20 : decode cX10_storm 20 = .ok (.ifCond .eq 8, 3) := by decide +kernel
theorem dX10_storm_23 : decode cX10_storm 23 = .ok (.iload_n 1, 1) := by decide +kernel
theorem dX10_storm_24 : decode cX10_storm 24 = .ok (.iload_n 2, 1) := by decide +kernel
theorem dX10_storm_25 : decode cX10_storm 25 = .ok (.if_icmp .ne 6, 3) := by decide +kernel
theorem dX10_storm_28 : decode cX10_storm 28 = .ok (.bipush (-2), 2) := by decide +kernel
theorem dX10_storm_30 : decode cX10_storm 30 = .ok (.ireturn, 1) := by decide +kernel
theorem dX10_storm_31 : decode cX10_storm 31 = .ok (.aload_n 0, 1) := by decide +kernel
theorem dX10_storm_32 : decode cX10_storm 32 = .ok (.iload_n 1, 1) := by decide +kernel
theorem dX10_storm_33 : decode cX10_storm 33 = .ok (.invokevirtual 204, 3) := by decide +kernel
theorem dX10_storm_36 : decode cX10_storm 36 = .ok (.ifCond .eq 11, 3) := by decide +kernel
theorem dX10_storm_39 : decode cX10_storm 39 = .ok (.aload_n 0, 1) := by decide +kernel
theorem dX10_storm_40 : decode cX10_storm 40 = .ok (.iload_n 2, 1) := by decide +kernel
theorem dX10_storm_41 : decode cX10_storm 41 = .ok (.invokevirtual 204, 3) := by decide +kernel
theorem dX10_storm_44 : decode cX10_storm 44 = .ok (.ifCond .ne 6, 3) := by decide +kernel
theorem dX10_storm_47 : decode cX10_storm 47 = .ok (.bipush (-5), 2) := by decide +kernel
theorem dX10_storm_49 : decode cX10_storm 49 = .ok (.ireturn, 1) := by decide +kernel
theorem dX10_storm_50 : decode cX10_storm 50 = .ok (.aload_n 0, 1) := by decide +kernel
theorem dX10_storm_51 : decode cX10_storm 51 = .ok (.invokevirtual 297, 3) := by decide +kernel
theorem dX10_storm_54 : decode cX10_storm 54 = .ok (.iconst 0, 1) := by decide +kernel
theorem dX10_storm_55 : decode cX10_storm 55 = .ok (.istore_n 3, 1) := by decide +kernel
theorem dX10_storm_56 : decode cX10_storm 56 = .ok (.iconst 0, 1) := by decide +kernel
theorem dX10_storm_57 : decode cX10_storm 57 = .ok (.istore 4, 2) := by decide +kernel
theorem dX10_storm_59 : decode cX10_storm 59 = .ok (.iload 4, 2) := by decide +kernel
theorem dX10_storm_61 : decode cX10_storm 61 = .ok (.aload_n 0, 1) := by decide +kernel
theorem dX10_storm_62 : decode cX10_storm 62 = .ok (.getfield 13, 3) := by decide +kernel
theorem dX10_storm_65 : decode cX10_storm 65 = .ok (.sipush 348, 3) := by decide +kernel
theorem dX10_storm_68 : decode cX10_storm 68 = .ok (.iaload, 1) := by decide +kernel
theorem dX10_storm_69 : decode cX10_storm 69 = .ok (.if_icmp .ge 89, 3) := by decide +kernel
theorem dX10_storm_72 : decode cX10_storm 72 = .ok (.aload_n 0, 1) := by decide +kernel
theorem dX10_storm_73 : decode cX10_storm 73 = .ok (.getfield 13, 3) := by decide +kernel
theorem dX10_storm_76 : decode cX10_storm 76 = .ok (.sipush 284, 3) := by decide +kernel
theorem dX10_storm_79 : decode cX10_storm 79 = .ok (.bipush 8, 2) := by decide +kernel
theorem dX10_storm_81 : decode cX10_storm 81 = .ok (.iload 4, 2) := by decide +kernel
theorem dX10_storm_83 : decode cX10_storm 83 = .ok (.imul, 1) := by decide +kernel
theorem dX10_storm_84 : decode cX10_storm 84 = .ok (.iadd, 1) := by decide +kernel
theorem dX10_storm_85 : decode cX10_storm 85 = .ok (.iconst 1, 1) := by decide +kernel
theorem dX10_storm_86 : decode cX10_storm 86 = .ok (.iadd, 1) := by decide +kernel
theorem dX10_storm_87 : decode cX10_storm 87 = .ok (.iaload, 1) := by decide +kernel
theorem dX10_storm_88 : decode cX10_storm 88 = .ok (.istore 5, 2) := by decide +kernel
theorem dX10_storm_90 : decode cX10_storm 90 = .ok (.aload_n 0, 1) := by decide +kernel
theorem dX10_storm_91 : decode cX10_storm 91 = .ok (.getfield 13, 3) := by decide +kernel
theorem dX10_storm_94 : decode cX10_storm 94 = .ok (.sipush 284, 3) := by decide +kernel
theorem dX10_storm_97 : decode cX10_storm 97 = .ok (.bipush 8, 2) := by decide +kernel
theorem dX10_storm_99 : decode cX10_storm 99 = .ok (.iload 4, 2) := by decide +kernel
theorem dX10_storm_101 : decode cX10_storm 101 = .ok (.imul, 1) := by decide +kernel
theorem dX10_storm_102 : decode cX10_storm 102 = .ok (.iadd, 1) := by decide +kernel
theorem dX10_storm_103 : decode cX10_storm 103 = .ok (.iaload, 1) := by decide +kernel
theorem dX10_storm_104 : decode cX10_storm 104 = .ok (.ifCond .ne 48, 3) := by decide +kernel
theorem dX10_storm_107 : decode cX10_storm 107 = .ok (.iload 5, 2) := by decide +kernel
theorem dX10_storm_109 : decode cX10_storm 109 = .ok (.iload_n 1, 1) := by decide +kernel
theorem dX10_storm_110 : decode cX10_storm 110 = .ok (.if_icmp .eq 12, 3) := by decide +kernel
theorem dX10_storm_113 : decode cX10_storm 113 = .ok (.iload 5, 2) := by decide +kernel
theorem dX10_storm_115 : decode cX10_storm 115 = .ok (.iload_n 2, 1) := by decide +kernel
theorem dX10_storm_116 : decode cX10_storm 116 = .ok (.if_icmp .eq 6, 3) := by decide +kernel
theorem dX10_storm_119 : decode cX10_storm 119 = .ok (.goto 33, 3) := by decide +kernel
theorem dX10_storm_122 : decode cX10_storm 122 = .ok (.aload_n 0, 1) := by decide +kernel
theorem dX10_storm_123 : decode cX10_storm 123 = .ok (.getfield 13, 3) := by decide +kernel
theorem dX10_storm_126 : decode cX10_storm 126 = .ok (.sipush 284, 3) := by decide +kernel
theorem dX10_storm_129 : decode cX10_storm 129 = .ok (.bipush 8, 2) := by decide +kernel
theorem dX10_storm_131 : decode cX10_storm 131 = .ok (.iload 4, 2) := by decide +kernel
theorem dX10_storm_133 : decode cX10_storm 133 = .ok (.imul, 1) := by decide +kernel
theorem dX10_storm_134 : decode cX10_storm 134 = .ok (.iadd, 1) := by decide +kernel
theorem dX10_storm_135 : decode cX10_storm 135 = .ok (.iconst 1, 1) := by decide +kernel
theorem dX10_storm_136 : decode cX10_storm 136 = .ok (.iadd, 1) := by decide +kernel
theorem dX10_storm_137 : decode cX10_storm 137 = .ok (.iload 5, 2) := by decide +kernel
theorem dX10_storm_139 : decode cX10_storm 139 = .ok (.iload_n 1, 1) := by decide +kernel
theorem dX10_storm_140 : decode cX10_storm 140 = .ok (.if_icmp .ne 7, 3) := by decide +kernel
theorem dX10_storm_143 : decode cX10_storm 143 = .ok (.iload_n 2, 1) := by decide +kernel
theorem dX10_storm_144 : decode cX10_storm 144 = .ok (.goto 4, 3) := by decide +kernel
theorem dX10_storm_147 : decode cX10_storm 147 = .ok (.iload_n 1, 1) := by decide +kernel
theorem dX10_storm_148 : decode cX10_storm 148 = .ok (.iastore, 1) := by decide +kernel
theorem dX10_storm_149 : decode cX10_storm 149 = .ok (.iinc 3 1, 3) := by decide +kernel
theorem dX10_storm_152 : decode cX10_storm 152 = .ok (.iinc 4 1, 3) := by decide +kernel
theorem dX10_storm_155 : decode cX10_storm 155 = .ok (.goto (-96), 3) := by decide +kernel
theorem dX10_storm_158 : decode cX10_storm 158 = .ok (.iload_n 3, 1) := by decide +kernel
theorem dX10_storm_159 : decode cX10_storm 159 = .ok (.ifCond .le 7, 3) := by decide +kernel
theorem dX10_storm_162 : decode cX10_storm 162 = .ok (.aload_n 0, 1) := by decide +kernel
theorem dX10_storm_163 : decode cX10_storm 163 = .ok (.invokevirtual 304, 3) := by decide +kernel
theorem dX10_storm_166 : decode cX10_storm 166 = .ok (.iload_n 3, 1) := by decide +kernel
theorem dX10_storm_167 : decode cX10_storm 167 = .ok (.ireturn, 1) := by decide +kernel
theorem dX10_lift_0 : decode cX10_lift 0 = .ok (.aload_n 0, 1) := by decide +kernel
theorem dX10_lift_1 : decode cX10_lift 1 = .ok (.iconst 0, 1) := by decide +kernel
theorem dX10_lift_2 : decode cX10_lift 2 = .ok (.putfield 1, 3) := by decide +kernel
theorem dX10_lift_5 : decode cX10_lift 5 = .ok (.aload_n 0, 1) := by decide +kernel
theorem dX10_lift_6 : decode cX10_lift 6 = .ok (.iload_n 1, 1) := by decide +kernel
theorem dX10_lift_7 : decode cX10_lift 7 = .ok (.i2l, 1) := by decide +kernel
theorem dX10_lift_8 : decode cX10_lift 8 = .ok (.invokevirtual 312, 3) := by decide +kernel
theorem dX10_lift_11 : decode cX10_lift 11 = .ok (.istore_n 2, 1) := by decide +kernel
theorem dX10_lift_12 : decode cX10_lift 12 = .ok (.iload_n 2, 1) := by decide +kernel
theorem dX10_lift_13 : decode cX10_lift 13 = .ok (.ifCond .eq 8, 3) := by decide +kernel
theorem dX10_lift_16 : decode cX10_lift 16 = .ok (.bipush (-10), 2) := by decide +kernel
theorem dX10_lift_18 : decode cX10_lift 18 = .ok (.iload_n 2, 1) := by decide +kernel
theorem dX10_lift_19 : decode cX10_lift 19 = .ok (.isub, 1) := by decide +kernel
theorem dX10_lift_20 : decode cX10_lift 20 = .ok (.ireturn, 1) := by decide +kernel
theorem dX10_lift_21 : decode cX10_lift 21 = .ok (.aload_n 0, 1) := by decide +kernel
theorem dX10_lift_22 : decode cX10_lift 22 = .ok (.invokevirtual 297, 3) := by decide +kernel
theorem dX10_lift_25 : decode cX10_lift 25 = .ok (.aload_n 0, 1) := by decide +kernel
theorem dX10_lift_26 : decode cX10_lift 26 = .ok (.getfield 13, 3) := by decide +kernel
theorem dX10_lift_29 : decode cX10_lift 29 = .ok (.sipush 284, 3) := by decide +kernel
theorem dX10_lift_32 : decode cX10_lift 32 = .ok (.bipush 8, 2) := by decide +kernel
theorem dX10_lift_34 : decode cX10_lift 34 = .ok (.iload_n 1, 1) := by decide +kernel
theorem dX10_lift_35 : decode cX10_lift 35 = .ok (.imul, 1) := by decide +kernel
theorem dX10_lift_36 : decode cX10_lift 36 = .ok (.iadd, 1) := by decide +kernel
theorem dX10_lift_37 : decode cX10_lift 37 = .ok (.iconst 5, 1) := by decide +kernel
theorem dX10_lift_38 : decode cX10_lift 38 = .ok (.iastore, 1) := by decide +kernel
theorem dX10_lift_39 : decode cX10_lift 39 = .ok (.aload_n 0, 1) := by decide +kernel
theorem dX10_lift_40 : decode cX10_lift 40 = .ok (.invokevirtual 304, 3) := by decide +kernel
theorem dX10_lift_43 : decode cX10_lift 43 = .ok (.aload_n 0, 1) := by decide +kernel
theorem dX10_lift_44 : decode cX10_lift 44 = .ok (.getfield 13, 3) := by decide +kernel
theorem dX10_lift_47 : decode cX10_lift 47 = .ok (.sipush 284, 3) := by decide +kernel
theorem dX10_lift_50 : decode cX10_lift 50 = .ok (.bipush 8, 2) := by decide +kernel
theorem dX10_lift_52 : decode cX10_lift 52 = .ok (.iload_n 1, 1) := by decide +kernel
theorem dX10_lift_53 : decode cX10_lift 53 = .ok (.imul, 1) := by decide +kernel
theorem dX10_lift_54 : decode cX10_lift 54 = .ok (.iadd, 1) := by decide +kernel
theorem dX10_lift_55 : decode cX10_lift 55 = .ok (.iconst 1, 1) := by decide +kernel
theorem dX10_lift_56 : decode cX10_lift 56 = .ok (.iadd, 1) := by decide +kernel
theorem dX10_lift_57 : decode cX10_lift 57 = .ok (.iaload, 1) := by decide +kernel
theorem dX10_lift_58 : decode cX10_lift 58 = .ok (.ireturn, 1) := by decide +kernel
theorem dX10_undo_0 : decode cX10_undo 0 = .ok (.aload_n 0, 1) := by decide +kernel
theorem dX10_undo_1 : decode cX10_undo 1 = .ok (.iconst 0, 1) := by decide +kernel
theorem dX10_undo_2 : decode cX10_undo 2 = .ok (.putfield 1, 3) := by decide +kernel
theorem dX10_undo_5 : decode cX10_undo 5 = .ok (.iload_n 1, 1) := by decide +kernel
theorem dX10_undo_6 : decode cX10_undo 6 = .ok (.i2l, 1) := by decide +kernel
theorem dX10_undo_7 : decode cX10_undo 7 = .ok (.lconst 1, 1) := by decide +kernel
theorem dX10_undo_8 : decode cX10_undo 8 = .ok (.ldc2_w 316, 3) := by decide +kernel
theorem dX10_undo_11 : decode cX10_undo 11 = .ok (.invokestatic 124, 3) := by decide +kernel
theorem dX10_undo_14 : decode cX10_undo 14 = .ok (.ifCond .eq 15, 3) := by decide +kernel
theorem dX10_undo_17 : decode cX10_undo 17 = .ok (.iload_n 1, 1) := by decide +kernel
theorem dX10_undo_18 : decode cX10_undo 18 = .ok (.aload_n 0, 1) := by decide +kernel
theorem dX10_undo_19 : decode cX10_undo 19 = .ok (.getfield 13, 3) := by decide +kernel
theorem dX10_undo_22 : decode cX10_undo 22 = .ok (.sipush 350, 3) := by decide +kernel
theorem dX10_undo_25 : decode cX10_undo 25 = .ok (.iaload, 1) := by decide +kernel
theorem dX10_undo_26 : decode cX10_undo 26 = .ok (.if_icmp .le 6, 3) := by decide +kernel
theorem dX10_undo_29 : decode cX10_undo 29 = .ok (.bipush (-3), 2) := by decide +kernel
theorem dX10_undo_31 : decode cX10_undo 31 = .ok (.ireturn, 1) := by decide +kernel
theorem dX10_undo_32 : decode cX10_undo 32 = .ok (.aload_n 0, 1) := by decide +kernel
theorem dX10_undo_33 : decode cX10_undo 33 = .ok (.getfield 13, 3) := by decide +kernel
theorem dX10_undo_36 : decode cX10_undo 36 = .ok (.sipush 350, 3) := by decide +kernel
theorem dX10_undo_39 : decode cX10_undo 39 = .ok (.dup2, 1) := by decide +kernel
theorem dX10_undo_40 : decode cX10_undo 40 = .ok (.iaload, 1) := by decide +kernel
theorem dX10_undo_41 : decode cX10_undo 41 = .ok (.iload_n 1, 1) := by decide +kernel
theorem dX10_undo_42 : decode cX10_undo 42 = .ok (.isub, 1) := by decide +kernel
theorem dX10_undo_43 : decode cX10_undo 43 = .ok (.iastore, 1) := by decide +kernel
theorem dX10_undo_44 : decode cX10_undo 44 = .ok (.iconst 0, 1) := by decide +kernel
theorem dX10_undo_45 : decode cX10_undo 45 = .ok (.istore_n 2, 1) := by decide +kernel
theorem dX10_undo_46 : decode cX10_undo 46 = .ok (.iload_n 2, 1) := by decide +kernel
theorem dX10_undo_47 : decode cX10_undo 47 = .ok (.bipush 66, 2) := by decide +kernel
theorem dX10_undo_49 : decode cX10_undo 49 = .ok (.if_icmp .ge 41, 3) := by decide +kernel
theorem dX10_undo_52 : decode cX10_undo 52 = .ok (.aload_n 0, 1) := by decide +kernel
theorem dX10_undo_53 : decode cX10_undo 53 = .ok (.getfield 13, 3) := by decide +kernel
theorem dX10_undo_56 : decode cX10_undo 56 = .ok (.sipush 284, 3) := by decide +kernel
theorem dX10_undo_59 : decode cX10_undo 59 = .ok (.iload_n 2, 1) := by decide +kernel
theorem dX10_undo_60 : decode cX10_undo 60 = .ok (.iadd, 1) := by decide +kernel
theorem dX10_undo_61 : decode cX10_undo 61 = .ok (.aload_n 0, 1) := by decide +kernel
theorem dX10_undo_62 : decode cX10_undo 62 = .ok (.getfield 13, 3) := by decide +kernel
theorem dX10_undo_65 : decode cX10_undo 65 = .ok (.sipush 351, 3) := by decide +kernel
theorem dX10_undo_68 : decode cX10_undo 68 = .ok (.bipush 66, 2) := by decide +kernel
theorem dX10_undo_70 : decode cX10_undo 70 = .ok (.aload_n 0, 1) := by decide +kernel
theorem dX10_undo_71 : decode cX10_undo 71 = .ok (.getfield 13, 3) := by decide +kernel
theorem dX10_undo_74 : decode cX10_undo 74 = .ok (.sipush 350, 3) := by decide +kernel
theorem dX10_undo_77 : decode cX10_undo 77 = .ok (.iaload, 1) := by decide +kernel
theorem dX10_undo_78 : decode cX10_undo 78 = .ok (.imul, 1) := by decide +kernel
theorem dX10_undo_79 : decode cX10_undo 79 = .ok (.iadd, 1) := by decide +kernel
theorem dX10_undo_80 : decode cX10_undo 80 = .ok (.iload_n 2, 1) := by decide +kernel
theorem dX10_undo_81 : decode cX10_undo 81 = .ok (.iadd, 1) := by decide +kernel
theorem dX10_undo_82 : decode cX10_undo 82 = .ok (.iaload, 1) := by decide +kernel
theorem dX10_undo_83 : decode cX10_undo 83 = .ok (.iastore, 1) := by decide +kernel
theorem dX10_undo_84 : decode cX10_undo 84 = .ok (.iinc 2 1, 3) := by decide +kernel
theorem dX10_undo_87 : decode cX10_undo 87 = .ok (.goto (-41), 3) := by decide +kernel
theorem dX10_undo_90 : decode cX10_undo 90 = .ok (.aload_n 0, 1) := by decide +kernel
theorem dX10_undo_91 : decode cX10_undo 91 = .ok (.getfield 13, 3) := by decide +kernel
theorem dX10_undo_94 : decode cX10_undo 94 = .ok (.sipush 350, 3) := by decide +kernel
theorem dX10_undo_97 : decode cX10_undo 97 = .ok (.iaload, 1) := by decide +kernel
theorem dX10_undo_98 : decode cX10_undo 98 = .ok (.ireturn, 1) := by decide +kernel
theorem dX10_whyNot_0 : decode cX10_whyNot 0 = .ok (.lload_n 1, 1) := by decide +kernel
theorem dX10_whyNot_1 : decode cX10_whyNot 1 = .ok (.ldc2_w 277, 3) := by decide +kernel
theorem dX10_whyNot_4 : decode cX10_whyNot 4 = .ok (.lcmp, 1) := by decide +kernel
theorem dX10_whyNot_5 : decode cX10_whyNot 5 = .ok (.ifCond .ne 5, 3) := by decide +kernel
theorem dX10_whyNot_8 : decode cX10_whyNot 8 = .ok (.iconst 0, 1) := by decide +kernel
theorem dX10_whyNot_9 : decode cX10_whyNot 9 = .ok (.ireturn, 1) := by decide +kernel
theorem dX10_whyNot_10 : decode cX10_whyNot 10 = .ok (.lload_n 1, 1) := by decide +kernel
theorem dX10_whyNot_11 : decode cX10_whyNot 11 = .ok (.ldc2_w 318, 3) := by decide +kernel
theorem dX10_whyNot_14 : decode cX10_whyNot 14 = .ok (.ldc2_w 320, 3) := by decide +kernel
theorem dX10_whyNot_17 : decode cX10_whyNot 17 = .ok (.invokestatic 124, 3) := by decide +kernel
theorem dX10_whyNot_20 : decode cX10_whyNot 20 = .ok (.ifCond .eq 13, 3) := by decide +kernel
theorem dX10_whyNot_23 : decode cX10_whyNot 23 = .ok (.aload_n 0, 1) := by decide +kernel
theorem dX10_whyNot_24 : decode cX10_whyNot 24 = .ok (.lload_n 1, 1) := by decide +kernel
theorem dX10_whyNot_25 : decode cX10_whyNot 25 = .ok (.ldc2_w 318, 3) := by decide +kernel
theorem dX10_whyNot_28 : decode cX10_whyNot 28 = .ok (.lsub, 1) := by decide +kernel
theorem dX10_whyNot_29 : decode cX10_whyNot 29 = .ok (.invokevirtual 312, 3) := by decide +kernel
theorem dX10_whyNot_32 : decode cX10_whyNot 32 = .ok (.ireturn, 1) := by decide +kernel
theorem dX10_whyNot_33 : decode cX10_whyNot 33 = .ok (.lload_n 1, 1) := by decide +kernel
theorem dX10_whyNot_34 : decode cX10_whyNot 34 = .ok (.lconst 0, 1) := by decide +kernel
theorem dX10_whyNot_35 : decode cX10_whyNot 35 = .ok (.ldc2_w 322, 3) := by decide +kernel
theorem dX10_whyNot_38 : decode cX10_whyNot 38 = .ok (.invokestatic 124, 3) := by decide +kernel
theorem dX10_whyNot_41 : decode cX10_whyNot 41 = .ok (.ifCond .eq 13, 3) := by decide +kernel
theorem dX10_whyNot_44 : decode cX10_whyNot 44 = .ok (.lload_n 1, 1) := by decide +kernel
theorem dX10_whyNot_45 : decode cX10_whyNot 45 = .ok (.ldc2_w 316, 3) := by decide +kernel
theorem dX10_whyNot_48 : decode cX10_whyNot 48 = .ok (.lrem, 1) := by decide +kernel
theorem dX10_whyNot_49 : decode cX10_whyNot 49 = .ok (.lconst 1, 1) := by decide +kernel
theorem dX10_whyNot_50 : decode cX10_whyNot 50 = .ok (.lcmp, 1) := by decide +kernel
theorem dX10_whyNot_51 : decode cX10_whyNot 51 = .ok (.ifCond .le 5, 3) := by decide +kernel
theorem dX10_whyNot_54 : decode cX10_whyNot 54 = .ok (.iconst 1, 1) := by decide +kernel
theorem dX10_whyNot_55 : decode cX10_whyNot 55 = .ok (.ireturn, 1) := by decide +kernel
theorem dX10_whyNot_56 : decode cX10_whyNot 56 = .ok (.lload_n 1, 1) := by decide +kernel
theorem dX10_whyNot_57 : decode cX10_whyNot 57 = .ok (.ldc2_w 316, 3) := by decide +kernel
theorem dX10_whyNot_60 : decode cX10_whyNot 60 = .ok (.ldiv, 1) := by decide +kernel
theorem dX10_whyNot_61 : decode cX10_whyNot 61 = .ok (.ldc2_w 316, 3) := by decide +kernel
theorem dX10_whyNot_64 : decode cX10_whyNot 64 = .ok (.lrem, 1) := by decide +kernel
theorem dX10_whyNot_65 : decode cX10_whyNot 65 = .ok (.lstore_n 3, 1) := by decide +kernel
theorem dX10_whyNot_66 : decode cX10_whyNot 66 = .ok (.lload_n 3, 1) := by decide +kernel
theorem dX10_whyNot_67 : decode cX10_whyNot 67 = .ok (.ldc2_w 324, 3) := by decide +kernel
theorem dX10_whyNot_70 : decode cX10_whyNot 70 = .ok (.lcmp, 1) := by decide +kernel
theorem dX10_whyNot_71 : decode cX10_whyNot 71 = .ok (.ifCond .ne 18, 3) := by decide +kernel
theorem dX10_whyNot_74 : decode cX10_whyNot 74 = .ok (.aload_n 0, 1) := by decide +kernel
theorem dX10_whyNot_75 : decode cX10_whyNot 75 = .ok (.lload_n 1, 1) := by decide +kernel
theorem dX10_whyNot_76 : decode cX10_whyNot 76 = .ok (.ldc2_w 326, 3) := by decide +kernel
theorem dX10_whyNot_79 : decode cX10_whyNot 79 = .ok (.ldiv, 1) := by decide +kernel
theorem dX10_whyNot_80 : decode cX10_whyNot 80 = .ok (.ldc2_w 277, 3) := by decide +kernel
theorem dX10_whyNot_83 : decode cX10_whyNot 83 = .ok (.invokevirtual 293, 3) := by decide +kernel
theorem dX10_whyNot_86 : decode cX10_whyNot 86 = .ok (.goto 25, 3) := by decide +kernel
theorem dX10_whyNot_89 : decode cX10_whyNot 89 = .ok (.aload_n 0, 1) := by decide +kernel
theorem dX10_whyNot_90 : decode cX10_whyNot 90 = .ok (.lload_n 3, 1) := by decide +kernel
theorem dX10_whyNot_91 : decode cX10_whyNot 91 = .ok (.invokevirtual 264, 3) := by decide +kernel
theorem dX10_whyNot_94 : decode cX10_whyNot 94 = .ok (.ifCond .eq 16, 3) := by decide +kernel
theorem dX10_whyNot_97 : decode cX10_whyNot 97 = .ok (.aload_n 0, 1) := by decide +kernel
theorem dX10_whyNot_98 : decode cX10_whyNot 98 = .ok (.lload_n 1, 1) := by decide +kernel
theorem dX10_whyNot_99 : decode cX10_whyNot 99 = .ok (.ldc2_w 326, 3) := by decide +kernel
theorem dX10_whyNot_102 : decode cX10_whyNot 102 = .ok (.ldiv, 1) := by decide +kernel
theorem dX10_whyNot_103 : decode cX10_whyNot 103 = .ok (.lload_n 3, 1) := by decide +kernel
theorem dX10_whyNot_104 : decode cX10_whyNot 104 = .ok (.invokevirtual 293, 3) := by decide +kernel
theorem dX10_whyNot_107 : decode cX10_whyNot 107 = .ok (.goto 4, 3) := by decide +kernel
theorem dX10_whyNot_110 : decode cX10_whyNot 110 = .ok (.iconst 1, 1) := by decide +kernel
theorem dX10_whyNot_111 : decode cX10_whyNot 111 = .ok (.ireturn, 1) := by decide +kernel
theorem dX10_does_0 : decode cX10_does 0 = .ok (.iload_n 1, 1) := by decide +kernel
theorem dX10_does_1 : decode cX10_does 1 = .ok (.iconst (-1), 1) := by decide +kernel
theorem dX10_does_2 : decode cX10_does 2 = .ok (.if_icmp .ne 11, 3) := by decide +kernel
theorem dX10_does_5 : decode cX10_does 5 = .ok (.aload_n 0, 1) := by decide +kernel
theorem dX10_does_6 : decode cX10_does 6 = .ok (.invokevirtual 309, 3) := by decide +kernel
theorem dX10_does_9 : decode cX10_does 9 = .ok (.pop, 1) := by decide +kernel
theorem dX10_does_10 : decode cX10_does 10 = .ok (.goto 75, 3) := by decide +kernel
theorem dX10_does_13 : decode cX10_does 13 = .ok (.iload_n 1, 1) := by decide +kernel
theorem dX10_does_14 : decode cX10_does 14 = .ok (.sipush 1000, 3) := by decide +kernel
theorem dX10_does_17 : decode cX10_does 17 = .ok (.if_icmp .lt 24, 3) := by decide +kernel
theorem dX10_does_20 : decode cX10_does 20 = .ok (.aload_n 0, 1) := by decide +kernel
theorem dX10_does_21 : decode cX10_does 21 = .ok (.getfield 13, 3) := by decide +kernel
theorem dX10_does_24 : decode cX10_does 24 = .ok (.sipush 284, 3) := by decide +kernel
theorem dX10_does_27 : decode cX10_does 27 = .ok (.bipush 8, 2) := by decide +kernel
theorem dX10_does_29 : decode cX10_does 29 = .ok (.iload_n 1, 1) := by decide +kernel
theorem dX10_does_30 : decode cX10_does 30 = .ok (.sipush 1000, 3) := by decide +kernel
theorem dX10_does_33 : decode cX10_does 33 = .ok (.isub, 1) := by decide +kernel
theorem dX10_does_34 : decode cX10_does 34 = .ok (.imul, 1) := by decide +kernel
theorem dX10_does_35 : decode cX10_does 35 = .ok (.iadd, 1) := by decide +kernel
theorem dX10_does_36 : decode cX10_does 36 = .ok (.iconst 5, 1) := by decide +kernel
theorem dX10_does_37 : decode cX10_does 37 = .ok (.iastore, 1) := by decide +kernel
theorem dX10_does_38 : decode cX10_does 38 = .ok (.goto 47, 3) := by decide +kernel
theorem dX10_does_41 : decode cX10_does 41 = .ok (.aload_n 0, 1) := by decide +kernel
theorem dX10_does_42 : decode cX10_does 42 = .ok (.iload_n 1, 1) := by decide +kernel
theorem dX10_does_43 : decode cX10_does 43 = .ok (.bipush 100, 2) := by decide +kernel
theorem dX10_does_45 : decode cX10_does 45 = .ok (.idiv, 1) := by decide +kernel
theorem dX10_does_46 : decode cX10_does 46 = .ok (.iload_n 1, 1) := by decide +kernel
theorem dX10_does_47 : decode cX10_does 47 = .ok (.bipush 10, 2) := by decide +kernel
theorem dX10_does_49 : decode cX10_does 49 = .ok (.idiv, 1) := by decide +kernel
theorem dX10_does_50 : decode cX10_does 50 = .ok (.bipush 10, 2) := by decide +kernel
theorem dX10_does_52 : decode cX10_does 52 = .ok (.irem, 1) := by decide +kernel
theorem dX10_does_53 : decode cX10_does 53 = .ok (.bipush 9, 2) := by decide +kernel
theorem dX10_does_55 : decode cX10_does 55 = .ok (.if_icmp .ne 7, 3) := by decide +kernel
theorem dX10_does_58 : decode cX10_does 58 = .ok (.iconst (-1), 1) := by decide +kernel
theorem dX10_does_59 : decode cX10_does 59 = .ok (.goto 10, 3) := by decide +kernel
theorem dX10_does_62 : decode cX10_does 62 = .ok (.iload_n 1, 1) := by decide +kernel
theorem dX10_does_63 : decode cX10_does 63 = .ok (.bipush 10, 2) := by decide +kernel
theorem dX10_does_65 : decode cX10_does 65 = .ok (.idiv, 1) := by decide +kernel
theorem dX10_does_66 : decode cX10_does 66 = .ok (.bipush 10, 2) := by decide +kernel
theorem dX10_does_68 : decode cX10_does 68 = .ok (.irem, 1) := by decide +kernel
theorem dX10_does_69 : decode cX10_does 69 = .ok (.iload_n 1, 1) := by decide +kernel
theorem dX10_does_70 : decode cX10_does 70 = .ok (.bipush 10, 2) := by decide +kernel
theorem dX10_does_72 : decode cX10_does 72 = .ok (.irem, 1) := by decide +kernel
theorem dX10_does_73 : decode cX10_does 73 = .ok (.iconst 1, 1) := by decide +kernel
theorem dX10_does_74 : decode cX10_does 74 = .ok (.if_icmp .ne 7, 3) := by decide +kernel
theorem dX10_does_77 : decode cX10_does 77 = .ok (.iconst 1, 1) := by decide +kernel
theorem dX10_does_78 : decode cX10_does 78 = .ok (.goto 4, 3) := by decide +kernel
theorem dX10_does_81 : decode cX10_does 81 = .ok (.iconst 0, 1) := by decide +kernel
theorem dX10_does_82 : decode cX10_does 82 = .ok (.invokevirtual 300, 3) := by decide +kernel
theorem dX10_does_85 : decode cX10_does 85 = .ok (.return_, 1) := by decide +kernel
theorem dX10_tells_0 : decode cX10_tells 0 = .ok (.aload_n 0, 1) := by decide +kernel
theorem dX10_tells_1 : decode cX10_tells 1 = .ok (.iconst 0, 1) := by decide +kernel
theorem dX10_tells_2 : decode cX10_tells 2 = .ok (.putfield 328, 3) := by decide +kernel
theorem dX10_tells_5 : decode cX10_tells 5 = .ok (.iconst 0, 1) := by decide +kernel
theorem dX10_tells_6 : decode cX10_tells 6 = .ok (.istore_n 2, 1) := by decide +kernel
theorem dX10_tells_7 : decode cX10_tells 7 = .ok (.iload_n 2, 1) := by decide +kernel
theorem dX10_tells_8 : decode cX10_tells 8 = .ok (.aload_n 0, 1) := by decide +kernel
theorem dX10_tells_9 : decode cX10_tells 9 = .ok (.getfield 51, 3) := by decide +kernel
theorem dX10_tells_12 : decode cX10_tells 12 = .ok (.iload_n 1, 1) := by decide +kernel
theorem dX10_tells_13 : decode cX10_tells 13 = .ok (.iaload, 1) := by decide +kernel
theorem dX10_tells_14 : decode cX10_tells 14 = .ok (.if_icmp .ge 53, 3) := by decide +kernel
theorem dX10_tells_17 : decode cX10_tells 17 = .ok (.aload_n 0, 1) := by decide +kernel
theorem dX10_tells_18 : decode cX10_tells 18 = .ok (.aload_n 0, 1) := by decide +kernel
theorem dX10_tells_19 : decode cX10_tells 19 = .ok (.aload_n 0, 1) := by decide +kernel
theorem dX10_tells_20 : decode cX10_tells 20 = .ok (.getfield 54, 3) := by decide +kernel
theorem dX10_tells_23 : decode cX10_tells 23 = .ok (.bipush 40, 2) := by decide +kernel
theorem dX10_tells_25 : decode cX10_tells 25 = .ok (.iload_n 1, 1) := by decide +kernel
theorem dX10_tells_26 : decode cX10_tells 26 = .ok (.imul, 1) := by decide +kernel
theorem dX10_tells_27 : decode cX10_tells 27 = .ok (.iload_n 2, 1) := by decide +kernel
theorem dX10_tells_28 : decode cX10_tells 28 = .ok (.iadd, 1) := by decide +kernel
theorem dX10_tells_29 : decode cX10_tells 29 = .ok (.laload, 1) := by decide +kernel
theorem dX10_tells_30 : decode cX10_tells 30 = .ok (.invokevirtual 331, 3) := by decide +kernel
theorem dX10_tells_33 : decode cX10_tells 33 = .ok (.putfield 328, 3) := by decide +kernel
theorem dX10_tells_36 : decode cX10_tells 36 = .ok (.aload_n 0, 1) := by decide +kernel
theorem dX10_tells_37 : decode cX10_tells 37 = .ok (.getfield 328, 3) := by decide +kernel
theorem dX10_tells_40 : decode cX10_tells 40 = .ok (.ifCond .eq 5, 3) := by decide +kernel
theorem dX10_tells_43 : decode cX10_tells 43 = .ok (.iload_n 2, 1) := by decide +kernel
theorem dX10_tells_44 : decode cX10_tells 44 = .ok (.ireturn, 1) := by decide +kernel
theorem dX10_tells_45 : decode cX10_tells 45 = .ok (.aload_n 0, 1) := by decide +kernel
theorem dX10_tells_46 : decode cX10_tells 46 = .ok (.aload_n 0, 1) := by decide +kernel
theorem dX10_tells_47 : decode cX10_tells 47 = .ok (.getfield 54, 3) := by decide +kernel
theorem dX10_tells_50 : decode cX10_tells 50 = .ok (.bipush 40, 2) := by decide +kernel
theorem dX10_tells_52 : decode cX10_tells 52 = .ok (.iload_n 1, 1) := by decide +kernel
theorem dX10_tells_53 : decode cX10_tells 53 = .ok (.imul, 1) := by decide +kernel
theorem dX10_tells_54 : decode cX10_tells 54 = .ok (.iload_n 2, 1) := by decide +kernel
theorem dX10_tells_55 : decode cX10_tells 55 = .ok (.iadd, 1) := by decide +kernel
theorem dX10_tells_56 : decode cX10_tells 56 = .ok (.laload, 1) := by decide +kernel
theorem dX10_tells_57 : decode cX10_tells 57 = .ok (.l2i, 1) := by decide +kernel
theorem dX10_tells_58 : decode cX10_tells 58 = .ok (.invokevirtual 334, 3) := by decide +kernel
theorem dX10_tells_61 : decode cX10_tells 61 = .ok (.iinc 2 1, 3) := by decide +kernel
theorem dX10_tells_64 : decode cX10_tells 64 = .ok (.goto (-57), 3) := by decide +kernel
theorem dX10_tells_67 : decode cX10_tells 67 = .ok (.aload_n 0, 1) := by decide +kernel
theorem dX10_tells_68 : decode cX10_tells 68 = .ok (.getfield 51, 3) := by decide +kernel
theorem dX10_tells_71 : decode cX10_tells 71 = .ok (.iload_n 1, 1) := by decide +kernel
theorem dX10_tells_72 : decode cX10_tells 72 = .ok (.iaload, 1) := by decide +kernel
theorem dX10_tells_73 : decode cX10_tells 73 = .ok (.ireturn, 1) := by decide +kernel
theorem dX10_noTray_0 : decode cX10_noTray 0 = .ok (.iload_n 1, 1) := by decide +kernel
theorem dX10_noTray_1 : decode cX10_noTray 1 = .ok (.i2l, 1) := by decide +kernel
theorem dX10_noTray_2 : decode cX10_noTray 2 = .ok (.lconst 0, 1) := by decide +kernel
theorem dX10_noTray_3 : decode cX10_noTray 3 = .ok (.ldc2_w 337, 3) := by decide +kernel
theorem dX10_noTray_6 : decode cX10_noTray 6 = .ok (.invokestatic 124, 3) := by decide +kernel
theorem dX10_noTray_9 : decode cX10_noTray 9 = .ok (.ifCond .ne 8, 3) := by decide +kernel
theorem dX10_noTray_12 : decode cX10_noTray 12 = .ok (.bipush (-2), 2) := by decide +kernel
theorem dX10_noTray_14 : decode cX10_noTray 14 = .ok (.goto 19, 3) := by decide +kernel
theorem dX10_noTray_17 : decode cX10_noTray 17 = .ok (.aload_n 0, 1) := by decide +kernel
theorem dX10_noTray_18 : decode cX10_noTray 18 = .ok (.getfield 48, 3) := by decide +kernel
theorem dX10_noTray_21 : decode cX10_noTray 21 = .ok (.iload_n 1, 1) := by decide +kernel
theorem dX10_noTray_22 : decode cX10_noTray 22 = .ok (.iaload, 1) := by decide +kernel
theorem dX10_noTray_23 : decode cX10_noTray 23 = .ok (.iconst (-1), 1) := by decide +kernel
theorem dX10_noTray_24 : decode cX10_noTray 24 = .ok (.if_icmp .ne 8, 3) := by decide +kernel
theorem dX10_noTray_27 : decode cX10_noTray 27 = .ok (.bipush (-6), 2) := by decide +kernel
theorem dX10_noTray_29 : decode cX10_noTray 29 = .ok (.goto 4, 3) := by decide +kernel
theorem dX10_noTray_32 : decode cX10_noTray 32 = .ok (.iconst 0, 1) := by decide +kernel
theorem dX10_noTray_33 : decode cX10_noTray 33 = .ok (.ireturn, 1) := by decide +kernel
theorem dX10_manyOf_0 : decode cX10_manyOf 0 = .ok (.iconst 0, 1) := by decide +kernel
theorem dX10_manyOf_1 : decode cX10_manyOf 1 = .ok (.istore_n 2, 1) := by decide +kernel
theorem dX10_manyOf_2 : decode cX10_manyOf 2 = .ok (.iconst 0, 1) := by decide +kernel
theorem dX10_manyOf_3 : decode cX10_manyOf 3 = .ok (.istore_n 3, 1) := by decide +kernel
theorem dX10_manyOf_4 : decode cX10_manyOf 4 = .ok (.iload_n 3, 1) := by decide +kernel
theorem dX10_manyOf_5 : decode cX10_manyOf 5 = .ok (.aload_n 0, 1) := by decide +kernel
theorem dX10_manyOf_6 : decode cX10_manyOf 6 = .ok (.getfield 13, 3) := by decide +kernel
theorem dX10_manyOf_9 : decode cX10_manyOf 9 = .ok (.sipush 348, 3) := by decide +kernel
theorem dX10_manyOf_12 : decode cX10_manyOf 12 = .ok (.iaload, 1) := by decide +kernel
theorem dX10_manyOf_13 : decode cX10_manyOf 13 = .ok (.if_icmp .ge 34, 3) := by decide +kernel
theorem dX10_manyOf_16 : decode cX10_manyOf 16 = .ok (.iload_n 2, 1) := by decide +kernel
theorem dX10_manyOf_17 : decode cX10_manyOf 17 = .ok (.aload_n 0, 1) := by decide +kernel
theorem dX10_manyOf_18 : decode cX10_manyOf 18 = .ok (.getfield 13, 3) := by decide +kernel
theorem dX10_manyOf_21 : decode cX10_manyOf 21 = .ok (.sipush 284, 3) := by decide +kernel
theorem dX10_manyOf_24 : decode cX10_manyOf 24 = .ok (.bipush 8, 2) := by decide +kernel
theorem dX10_manyOf_26 : decode cX10_manyOf 26 = .ok (.iload_n 3, 1) := by decide +kernel
theorem dX10_manyOf_27 : decode cX10_manyOf 27 = .ok (.imul, 1) := by decide +kernel
theorem dX10_manyOf_28 : decode cX10_manyOf 28 = .ok (.iadd, 1) := by decide +kernel
theorem dX10_manyOf_29 : decode cX10_manyOf 29 = .ok (.iaload, 1) := by decide +kernel
theorem dX10_manyOf_30 : decode cX10_manyOf 30 = .ok (.iload_n 1, 1) := by decide +kernel
theorem dX10_manyOf_31 : decode cX10_manyOf 31 = .ok (.if_icmp .ne 7, 3) := by decide +kernel
theorem dX10_manyOf_34 : decode cX10_manyOf 34 = .ok (.iconst 1, 1) := by decide +kernel
theorem dX10_manyOf_35 : decode cX10_manyOf 35 = .ok (.goto 4, 3) := by decide +kernel
theorem dX10_manyOf_38 : decode cX10_manyOf 38 = .ok (.iconst 0, 1) := by decide +kernel
theorem dX10_manyOf_39 : decode cX10_manyOf 39 = .ok (.iadd, 1) := by decide +kernel
theorem dX10_manyOf_40 : decode cX10_manyOf 40 = .ok (.istore_n 2, 1) := by decide +kernel
theorem dX10_manyOf_41 : decode cX10_manyOf 41 = .ok (.iinc 3 1, 3) := by decide +kernel
theorem dX10_manyOf_44 : decode cX10_manyOf 44 = .ok (.goto (-40), 3) := by decide +kernel
theorem dX10_manyOf_47 : decode cX10_manyOf 47 = .ok (.iload_n 2, 1) := by decide +kernel
theorem dX10_manyOf_48 : decode cX10_manyOf 48 = .ok (.ireturn, 1) := by decide +kernel
theorem dX10_judge_0 : decode cX10_judge 0 = .ok (.aload_n 0, 1) := by decide +kernel
theorem dX10_judge_1 : decode cX10_judge 1 = .ok (.iconst 0, 1) := by decide +kernel
theorem dX10_judge_2 : decode cX10_judge 2 = .ok (.putfield 1, 3) := by decide +kernel
theorem dX10_judge_5 : decode cX10_judge 5 = .ok (.iload_n 2, 1) := by decide +kernel
theorem dX10_judge_6 : decode cX10_judge 6 = .ok (.i2l, 1) := by decide +kernel
theorem dX10_judge_7 : decode cX10_judge 7 = .ok (.lconst 0, 1) := by decide +kernel
theorem dX10_judge_8 : decode cX10_judge 8 = .ok (.ldc2_w 337, 3) := by decide +kernel
theorem dX10_judge_11 : decode cX10_judge 11 = .ok (.invokestatic 124, 3) := by decide +kernel
theorem dX10_judge_14 : decode cX10_judge 14 = .ok (.ifCond .ne 6, 3) := by decide +kernel
theorem dX10_judge_17 : decode cX10_judge 17 = .ok (.bipush (-2), 2) := by decide +kernel
theorem dX10_judge_19 : decode cX10_judge 19 = .ok (.ireturn, 1) := by decide +kernel
theorem dX10_judge_20 : decode cX10_judge 20 = .ok (.aload_n 0, 1) := by decide +kernel
theorem dX10_judge_21 : decode cX10_judge 21 = .ok (.iload_n 1, 1) := by decide +kernel
theorem dX10_judge_22 : decode cX10_judge 22 = .ok (.invokevirtual 339, 3) := by decide +kernel
theorem dX10_judge_25 : decode cX10_judge 25 = .ok (.istore_n 3, 1) := by decide +kernel
theorem dX10_judge_26 : decode cX10_judge 26 = .ok (.iload_n 3, 1) := by decide +kernel
theorem dX10_judge_27 : decode cX10_judge 27 = .ok (.ifCond .eq 5, 3) := by decide +kernel
theorem dX10_judge_30 : decode cX10_judge 30 = .ok (.iload_n 3, 1) := by decide +kernel
theorem dX10_judge_31 : decode cX10_judge 31 = .ok (.ireturn, 1) := by decide +kernel
theorem dX10_judge_32 : decode cX10_judge 32 = .ok (.aload_n 0, 1) := by decide +kernel
theorem dX10_judge_33 : decode cX10_judge 33 = .ok (.invokevirtual 297, 3) := by decide +kernel
theorem dX10_judge_36 : decode cX10_judge 36 = .ok (.aload_n 0, 1) := by decide +kernel
theorem dX10_judge_37 : decode cX10_judge 37 = .ok (.iload_n 1, 1) := by decide +kernel
theorem dX10_judge_38 : decode cX10_judge 38 = .ok (.invokevirtual 342, 3) := by decide +kernel
theorem dX10_judge_41 : decode cX10_judge 41 = .ok (.istore 4, 2) := by decide +kernel
theorem dX10_judge_43 : decode cX10_judge 43 = .ok (.aload_n 0, 1) := by decide +kernel
theorem dX10_judge_44 : decode cX10_judge 44 = .ok (.getfield 13, 3) := by decide +kernel
theorem dX10_judge_47 : decode cX10_judge 47 = .ok (.sipush 348, 3) := by decide +kernel
theorem dX10_judge_50 : decode cX10_judge 50 = .ok (.iaload, 1) := by decide +kernel
theorem dX10_judge_51 : decode cX10_judge 51 = .ok (.istore 5, 2) := by decide +kernel
theorem dX10_judge_53 : decode cX10_judge 53 = .ok (.aload_n 0, 1) := by decide +kernel
theorem dX10_judge_54 : decode cX10_judge 54 = .ok (.iconst 2, 1) := by decide +kernel
theorem dX10_judge_55 : decode cX10_judge 55 = .ok (.invokevirtual 345, 3) := by decide +kernel
theorem dX10_judge_58 : decode cX10_judge 58 = .ok (.istore 6, 2) := by decide +kernel
theorem dX10_judge_60 : decode cX10_judge 60 = .ok (.aload_n 0, 1) := by decide +kernel
theorem dX10_judge_61 : decode cX10_judge 61 = .ok (.invokevirtual 348, 3) := by decide +kernel
theorem dX10_judge_64 : decode cX10_judge 64 = .ok (.iload_n 2, 1) := by decide +kernel
theorem dX10_judge_65 : decode cX10_judge 65 = .ok (.ifCond .ne 19, 3) := by decide +kernel
theorem dX10_judge_68 : decode cX10_judge 68 = .ok (.aload_n 0, 1) := by decide +kernel
theorem dX10_judge_69 : decode cX10_judge 69 = .ok (.getfield 328, 3) := by decide +kernel
theorem dX10_judge_72 : decode cX10_judge 72 = .ok (.ifCond .ne 7, 3) := by decide +kernel
theorem dX10_judge_75 : decode cX10_judge 75 = .ok (.iconst (-1), 1) := by decide +kernel
theorem dX10_judge_76 : decode cX10_judge 76 = .ok (.goto 32, 3) := by decide +kernel
theorem dX10_judge_79 : decode cX10_judge 79 = .ok (.iload 4, 2) := by decide +kernel
theorem dX10_judge_81 : decode cX10_judge 81 = .ok (.goto 27, 3) := by decide +kernel
theorem dX10_judge_84 : decode cX10_judge 84 = .ok (.iload_n 2, 1) := by decide +kernel
theorem dX10_judge_85 : decode cX10_judge 85 = .ok (.iconst 1, 1) := by decide +kernel
theorem dX10_judge_86 : decode cX10_judge 86 = .ok (.if_icmp .ne 10, 3) := by decide +kernel
theorem dX10_judge_89 : decode cX10_judge 89 = .ok (.aload_n 0, 1) := by decide +kernel
theorem dX10_judge_90 : decode cX10_judge 90 = .ok (.getfield 328, 3) := by decide +kernel
theorem dX10_judge_93 : decode cX10_judge 93 = .ok (.goto 15, 3) := by decide +kernel
theorem dX10_judge_96 : decode cX10_judge 96 = .ok (.iload_n 2, 1) := by decide +kernel
theorem dX10_judge_97 : decode cX10_judge 97 = .ok (.iconst 2, 1) := by decide +kernel
theorem dX10_judge_98 : decode cX10_judge 98 = .ok (.if_icmp .ne 8, 3) := by decide +kernel
theorem dX10_judge_101 : decode cX10_judge 101 = .ok (.iload 5, 2) := by decide +kernel
theorem dX10_judge_103 : decode cX10_judge 103 = .ok (.goto 5, 3) := by decide +kernel
theorem dX10_judge_106 : decode cX10_judge 106 = .ok (.iload 6, 2) := by decide +kernel
theorem dX10_judge_108 : decode cX10_judge 108 = .ok (.ireturn, 1) := by decide +kernel
theorem dX10_perform_0 : decode cX10_perform 0 = .ok (.aload_n 0, 1) := by decide +kernel
theorem dX10_perform_1 : decode cX10_perform 1 = .ok (.iconst 0, 1) := by decide +kernel
theorem dX10_perform_2 : decode cX10_perform 2 = .ok (.putfield 1, 3) := by decide +kernel
theorem dX10_perform_5 : decode cX10_perform 5 = .ok (.aload_n 0, 1) := by decide +kernel
theorem dX10_perform_6 : decode cX10_perform 6 = .ok (.iload_n 1, 1) := by decide +kernel
theorem dX10_perform_7 : decode cX10_perform 7 = .ok (.invokevirtual 339, 3) := by decide +kernel
theorem dX10_perform_10 : decode cX10_perform 10 = .ok (.istore_n 2, 1) := by decide +kernel
theorem dX10_perform_11 : decode cX10_perform 11 = .ok (.iload_n 2, 1) := by decide +kernel
theorem dX10_perform_12 : decode cX10_perform 12 = .ok (.ifCond .eq 5, 3) := by decide +kernel
theorem dX10_perform_15 : decode cX10_perform 15 = .ok (.iload_n 2, 1) := by decide +kernel
theorem dX10_perform_16 : decode cX10_perform 16 = .ok (.ireturn, 1) := by decide +kernel
theorem dX10_perform_17 : decode cX10_perform 17 = .ok (.aload_n 0, 1) := by decide +kernel
theorem dX10_perform_18 : decode cX10_perform 18 = .ok (.invokevirtual 297, 3) := by decide +kernel
theorem dX10_perform_21 : decode cX10_perform 21 = .ok (.aload_n 0, 1) := by decide +kernel
theorem dX10_perform_22 : decode cX10_perform 22 = .ok (.iload_n 1, 1) := by decide +kernel
theorem dX10_perform_23 : decode cX10_perform 23 = .ok (.invokevirtual 342, 3) := by decide +kernel
theorem dX10_perform_26 : decode cX10_perform 26 = .ok (.istore_n 3, 1) := by decide +kernel
theorem dX10_perform_27 : decode cX10_perform 27 = .ok (.iload_n 3, 1) := by decide +kernel
theorem dX10_perform_28 : decode cX10_perform 28 = .ok (.ifCond .le 7, 3) := by decide +kernel
theorem dX10_perform_31 : decode cX10_perform 31 = .ok (.aload_n 0, 1) := by decide +kernel
theorem dX10_perform_32 : decode cX10_perform 32 = .ok (.invokevirtual 304, 3) := by decide +kernel
theorem dX10_perform_35 : decode cX10_perform 35 = .ok (.iload_n 3, 1) := by decide +kernel
theorem dX10_perform_36 : decode cX10_perform 36 = .ok (.ireturn, 1) := by decide +kernel
theorem dX10_draw_0 : decode cX10_draw 0 = .ok (.aload_n 0, 1) := by decide +kernel
theorem dX10_draw_1 : decode cX10_draw 1 = .ok (.ldc_w 351, 3) := by decide +kernel
theorem dX10_draw_4 : decode cX10_draw 4 = .ok (.aload_n 0, 1) := by decide +kernel
theorem dX10_draw_5 : decode cX10_draw 5 = .ok (.getfield 352, 3) := by decide +kernel
theorem dX10_draw_8 : decode cX10_draw 8 = .ok (.imul, 1) := by decide +kernel
theorem dX10_draw_9 : decode cX10_draw 9 = .ok (.sipush 12345, 3) := by decide +kernel
theorem dX10_draw_12 : decode cX10_draw 12 = .ok (.iadd, 1) := by decide +kernel
theorem dX10_draw_13 : decode cX10_draw 13 = .ok (.putfield 352, 3) := by decide +kernel
theorem dX10_draw_16 : decode cX10_draw 16 = .ok (.aload_n 0, 1) := by decide +kernel
theorem dX10_draw_17 : decode cX10_draw 17 = .ok (.getfield 352, 3) := by decide +kernel
theorem dX10_draw_20 : decode cX10_draw 20 = .ok (.bipush 16, 2) := by decide +kernel
theorem dX10_draw_22 : decode cX10_draw 22 = .ok (.iushr, 1) := by decide +kernel
theorem dX10_draw_23 : decode cX10_draw 23 = .ok (.iload_n 1, 1) := by decide +kernel
theorem dX10_draw_24 : decode cX10_draw 24 = .ok (.irem, 1) := by decide +kernel
theorem dX10_draw_25 : decode cX10_draw 25 = .ok (.ireturn, 1) := by decide +kernel
theorem dX10_drawn_0 : decode cX10_drawn 0 = .ok (.aload_n 0, 1) := by decide +kernel
theorem dX10_drawn_1 : decode cX10_drawn 1 = .ok (.iconst 4, 1) := by decide +kernel
theorem dX10_drawn_2 : decode cX10_drawn 2 = .ok (.invokevirtual 355, 3) := by decide +kernel
theorem dX10_drawn_5 : decode cX10_drawn 5 = .ok (.istore_n 1, 1) := by decide +kernel
theorem dX10_drawn_6 : decode cX10_drawn 6 = .ok (.iload_n 1, 1) := by decide +kernel
theorem dX10_drawn_7 : decode cX10_drawn 7 = .ok (.iconst 2, 1) := by decide +kernel
theorem dX10_drawn_8 : decode cX10_drawn 8 = .ok (.if_icmp .ge 5, 3) := by decide +kernel
theorem dX10_drawn_11 : decode cX10_drawn 11 = .ok (.iconst (-1), 1) := by decide +kernel
theorem dX10_drawn_12 : decode cX10_drawn 12 = .ok (.ireturn, 1) := by decide +kernel
theorem dX10_drawn_13 : decode cX10_drawn 13 = .ok (.iload_n 1, 1) := by decide +kernel
theorem dX10_drawn_14 : decode cX10_drawn 14 = .ok (.iconst 3, 1) := by decide +kernel
theorem dX10_drawn_15 : decode cX10_drawn 15 = .ok (.if_icmp .ne 14, 3) := by decide +kernel
theorem dX10_drawn_18 : decode cX10_drawn 18 = .ok (.sipush 1000, 3) := by decide +kernel
theorem dX10_drawn_21 : decode cX10_drawn 21 = .ok (.aload_n 0, 1) := by decide +kernel
theorem dX10_drawn_22 : decode cX10_drawn 22 = .ok (.bipush 8, 2) := by decide +kernel
theorem dX10_drawn_24 : decode cX10_drawn 24 = .ok (.invokevirtual 355, 3) := by decide +kernel
theorem dX10_drawn_27 : decode cX10_drawn 27 = .ok (.iadd, 1) := by decide +kernel
theorem dX10_drawn_28 : decode cX10_drawn 28 = .ok (.ireturn, 1) := by decide +kernel
theorem dX10_drawn_29 : decode cX10_drawn 29 = .ok (.aload_n 0, 1) := by decide +kernel
theorem dX10_drawn_30 : decode cX10_drawn 30 = .ok (.aload_n 0, 1) := by decide +kernel
theorem dX10_drawn_31 : decode cX10_drawn 31 = .ok (.getfield 13, 3) := by decide +kernel
theorem dX10_drawn_34 : decode cX10_drawn 34 = .ok (.iconst 4, 1) := by decide +kernel
theorem dX10_drawn_35 : decode cX10_drawn 35 = .ok (.iaload, 1) := by decide +kernel
theorem dX10_drawn_36 : decode cX10_drawn 36 = .ok (.invokevirtual 355, 3) := by decide +kernel
theorem dX10_drawn_39 : decode cX10_drawn 39 = .ok (.istore_n 2, 1) := by decide +kernel
theorem dX10_drawn_40 : decode cX10_drawn 40 = .ok (.aload_n 0, 1) := by decide +kernel
theorem dX10_drawn_41 : decode cX10_drawn 41 = .ok (.aload_n 0, 1) := by decide +kernel
theorem dX10_drawn_42 : decode cX10_drawn 42 = .ok (.getfield 13, 3) := by decide +kernel
theorem dX10_drawn_45 : decode cX10_drawn 45 = .ok (.iconst 4, 1) := by decide +kernel
theorem dX10_drawn_46 : decode cX10_drawn 46 = .ok (.iaload, 1) := by decide +kernel
theorem dX10_drawn_47 : decode cX10_drawn 47 = .ok (.invokevirtual 355, 3) := by decide +kernel
theorem dX10_drawn_50 : decode cX10_drawn 50 = .ok (.istore_n 3, 1) := by decide +kernel
theorem dX10_drawn_51 : decode cX10_drawn 51 = .ok (.bipush 100, 2) := by decide +kernel
theorem dX10_drawn_53 : decode cX10_drawn 53 = .ok (.iload_n 2, 1) := by decide +kernel
theorem dX10_drawn_54 : decode cX10_drawn 54 = .ok (.imul, 1) := by decide +kernel
theorem dX10_drawn_55 : decode cX10_drawn 55 = .ok (.bipush 10, 2) := by decide +kernel
theorem dX10_drawn_57 : decode cX10_drawn 57 = .ok (.iload_n 3, 1) := by decide +kernel
theorem dX10_drawn_58 : decode cX10_drawn 58 = .ok (.iload_n 2, 1) := by decide +kernel
theorem dX10_drawn_59 : decode cX10_drawn 59 = .ok (.if_icmp .ne 8, 3) := by decide +kernel
theorem dX10_drawn_62 : decode cX10_drawn 62 = .ok (.bipush 9, 2) := by decide +kernel
theorem dX10_drawn_64 : decode cX10_drawn 64 = .ok (.goto 4, 3) := by decide +kernel
theorem dX10_drawn_67 : decode cX10_drawn 67 = .ok (.iload_n 3, 1) := by decide +kernel
theorem dX10_drawn_68 : decode cX10_drawn 68 = .ok (.imul, 1) := by decide +kernel
theorem dX10_drawn_69 : decode cX10_drawn 69 = .ok (.iadd, 1) := by decide +kernel
theorem dX10_drawn_70 : decode cX10_drawn 70 = .ok (.aload_n 0, 1) := by decide +kernel
theorem dX10_drawn_71 : decode cX10_drawn 71 = .ok (.iconst 2, 1) := by decide +kernel
theorem dX10_drawn_72 : decode cX10_drawn 72 = .ok (.invokevirtual 355, 3) := by decide +kernel
theorem dX10_drawn_75 : decode cX10_drawn 75 = .ok (.iadd, 1) := by decide +kernel
theorem dX10_drawn_76 : decode cX10_drawn 76 = .ok (.ireturn, 1) := by decide +kernel
theorem dX10_season_0 : decode cX10_season 0 = .ok (.aload_n 0, 1) := by decide +kernel
theorem dX10_season_1 : decode cX10_season 1 = .ok (.iconst 0, 1) := by decide +kernel
theorem dX10_season_2 : decode cX10_season 2 = .ok (.putfield 1, 3) := by decide +kernel
theorem dX10_season_5 : decode cX10_season 5 = .ok (.iload_n 2, 1) := by decide +kernel
theorem dX10_season_6 : decode cX10_season 6 = .ok (.i2l, 1) := by decide +kernel
theorem dX10_season_7 : decode cX10_season 7 = .ok (.lconst 1, 1) := by decide +kernel
theorem dX10_season_8 : decode cX10_season 8 = .ok (.ldc2_w 358, 3) := by decide +kernel
theorem dX10_season_11 : decode cX10_season 11 = .ok (.invokestatic 124, 3) := by decide +kernel
theorem dX10_season_14 : decode cX10_season 14 = .ok (.ifCond .ne 6, 3) := by decide +kernel
theorem dX10_season_17 : decode cX10_season 17 = .ok (.bipush (-3), 2) := by decide +kernel
theorem dX10_season_19 : decode cX10_season 19 = .ok (.ireturn, 1) := by decide +kernel
theorem dX10_season_20 : decode cX10_season 20 = .ok (.aload_n 0, 1) := by decide +kernel
theorem dX10_season_21 : decode cX10_season 21 = .ok (.getfield 13, 3) := by decide +kernel
theorem dX10_season_24 : decode cX10_season 24 = .ok (.iconst 4, 1) := by decide +kernel
theorem dX10_season_25 : decode cX10_season 25 = .ok (.iaload, 1) := by decide +kernel
theorem dX10_season_26 : decode cX10_season 26 = .ok (.ifCond .ne 6, 3) := by decide +kernel
theorem dX10_season_29 : decode cX10_season 29 = .ok (.bipush (-5), 2) := by decide +kernel
theorem dX10_season_31 : decode cX10_season 31 = .ok (.ireturn, 1) := by decide +kernel
theorem dX10_season_32 : decode cX10_season 32 = .ok (.aload_n 0, 1) := by decide +kernel
theorem dX10_season_33 : decode cX10_season 33 = .ok (.invokevirtual 297, 3) := by decide +kernel
theorem dX10_season_36 : decode cX10_season 36 = .ok (.aload_n 0, 1) := by decide +kernel
theorem dX10_season_37 : decode cX10_season 37 = .ok (.iload_n 1, 1) := by decide +kernel
theorem dX10_season_38 : decode cX10_season 38 = .ok (.putfield 352, 3) := by decide +kernel
theorem dX10_season_41 : decode cX10_season 41 = .ok (.iconst 0, 1) := by decide +kernel
theorem dX10_season_42 : decode cX10_season 42 = .ok (.istore_n 3, 1) := by decide +kernel
theorem dX10_season_43 : decode cX10_season 43 = .ok (.iconst 0, 1) := by decide +kernel
theorem dX10_season_44 : decode cX10_season 44 = .ok (.istore 4, 2) := by decide +kernel
theorem dX10_season_46 : decode cX10_season 46 = .ok (.iload 4, 2) := by decide +kernel
theorem dX10_season_48 : decode cX10_season 48 = .ok (.iload_n 2, 1) := by decide +kernel
theorem dX10_season_49 : decode cX10_season 49 = .ok (.if_icmp .ge 37, 3) := by decide +kernel
theorem dX10_season_52 : decode cX10_season 52 = .ok (.aload_n 0, 1) := by decide +kernel
theorem dX10_season_53 : decode cX10_season 53 = .ok (.invokevirtual 360, 3) := by decide +kernel
theorem dX10_season_56 : decode cX10_season 56 = .ok (.istore 5, 2) := by decide +kernel
theorem dX10_season_58 : decode cX10_season 58 = .ok (.aload_n 0, 1) := by decide +kernel
theorem dX10_season_59 : decode cX10_season 59 = .ok (.iload 5, 2) := by decide +kernel
theorem dX10_season_61 : decode cX10_season 61 = .ok (.i2l, 1) := by decide +kernel
theorem dX10_season_62 : decode cX10_season 62 = .ok (.invokevirtual 331, 3) := by decide +kernel
theorem dX10_season_65 : decode cX10_season 65 = .ok (.ifCond .eq 6, 3) := by decide +kernel
theorem dX10_season_68 : decode cX10_season 68 = .ok (.goto 12, 3) := by decide +kernel
theorem dX10_season_71 : decode cX10_season 71 = .ok (.aload_n 0, 1) := by decide +kernel
theorem dX10_season_72 : decode cX10_season 72 = .ok (.iload 5, 2) := by decide +kernel
theorem dX10_season_74 : decode cX10_season 74 = .ok (.invokevirtual 334, 3) := by decide +kernel
theorem dX10_season_77 : decode cX10_season 77 = .ok (.iinc 3 1, 3) := by decide +kernel
theorem dX10_season_80 : decode cX10_season 80 = .ok (.iinc 4 1, 3) := by decide +kernel
theorem dX10_season_83 : decode cX10_season 83 = .ok (.goto (-37), 3) := by decide +kernel
theorem dX10_season_86 : decode cX10_season 86 = .ok (.iload_n 3, 1) := by decide +kernel
theorem dX10_season_87 : decode cX10_season 87 = .ok (.ifCond .le 7, 3) := by decide +kernel
theorem dX10_season_90 : decode cX10_season 90 = .ok (.aload_n 0, 1) := by decide +kernel
theorem dX10_season_91 : decode cX10_season 91 = .ok (.invokevirtual 304, 3) := by decide +kernel
theorem dX10_season_94 : decode cX10_season 94 = .ok (.iload_n 3, 1) := by decide +kernel
theorem dX10_season_95 : decode cX10_season 95 = .ok (.ireturn, 1) := by decide +kernel
theorem dX10_endsIn_0 : decode cX10_endsIn 0 = .ok (.iconst 0, 1) := by decide +kernel
theorem dX10_endsIn_1 : decode cX10_endsIn 1 = .ok (.istore_n 3, 1) := by decide +kernel
theorem dX10_endsIn_2 : decode cX10_endsIn 2 = .ok (.iload_n 3, 1) := by decide +kernel
theorem dX10_endsIn_3 : decode cX10_endsIn 3 = .ok (.iload_n 2, 1) := by decide +kernel
theorem dX10_endsIn_4 : decode cX10_endsIn 4 = .ok (.if_icmp .gt 31, 3) := by decide +kernel
theorem dX10_endsIn_7 : decode cX10_endsIn 7 = .ok (.aload_n 0, 1) := by decide +kernel
theorem dX10_endsIn_8 : decode cX10_endsIn 8 = .ok (.invokevirtual 247, 3) := by decide +kernel
theorem dX10_endsIn_11 : decode cX10_endsIn 11 = .ok (.ifCond .ne 5, 3) := by decide +kernel
theorem dX10_endsIn_14 : decode cX10_endsIn 14 = .ok (.iload_n 3, 1) := by decide +kernel
theorem dX10_endsIn_15 : decode cX10_endsIn 15 = .ok (.ireturn, 1) := by decide +kernel
theorem dX10_endsIn_16 : decode cX10_endsIn 16 = .ok (.iload_n 3, 1) := by decide +kernel
theorem dX10_endsIn_17 : decode cX10_endsIn 17 = .ok (.iload_n 2, 1) := by decide +kernel
theorem dX10_endsIn_18 : decode cX10_endsIn 18 = .ok (.if_icmp .ge 11, 3) := by decide +kernel
theorem dX10_endsIn_21 : decode cX10_endsIn 21 = .ok (.aload_n 0, 1) := by decide +kernel
theorem dX10_endsIn_22 : decode cX10_endsIn 22 = .ok (.iload_n 1, 1) := by decide +kernel
theorem dX10_endsIn_23 : decode cX10_endsIn 23 = .ok (.iload_n 3, 1) := by decide +kernel
theorem dX10_endsIn_24 : decode cX10_endsIn 24 = .ok (.iadd, 1) := by decide +kernel
theorem dX10_endsIn_25 : decode cX10_endsIn 25 = .ok (.iconst 0, 1) := by decide +kernel
theorem dX10_endsIn_26 : decode cX10_endsIn 26 = .ok (.invokevirtual 289, 3) := by decide +kernel
theorem dX10_endsIn_29 : decode cX10_endsIn 29 = .ok (.iinc 3 1, 3) := by decide +kernel
theorem dX10_endsIn_32 : decode cX10_endsIn 32 = .ok (.goto (-30), 3) := by decide +kernel
theorem dX10_endsIn_35 : decode cX10_endsIn 35 = .ok (.ldc_w 363, 3) := by decide +kernel
theorem dX10_endsIn_38 : decode cX10_endsIn 38 = .ok (.ireturn, 1) := by decide +kernel
theorem dX10_fate_0 : decode cX10_fate 0 = .ok (.aload_n 0, 1) := by decide +kernel
theorem dX10_fate_1 : decode cX10_fate 1 = .ok (.iconst 0, 1) := by decide +kernel
theorem dX10_fate_2 : decode cX10_fate 2 = .ok (.putfield 1, 3) := by decide +kernel
theorem dX10_fate_5 : decode cX10_fate 5 = .ok (.aload_n 0, 1) := by decide +kernel
theorem dX10_fate_6 : decode cX10_fate 6 = .ok (.iload_n 1, 1) := by decide +kernel
theorem dX10_fate_7 : decode cX10_fate 7 = .ok (.i2l, 1) := by decide +kernel
theorem dX10_fate_8 : decode cX10_fate 8 = .ok (.invokevirtual 272, 3) := by decide +kernel
theorem dX10_fate_11 : decode cX10_fate 11 = .ok (.ifCond .eq 15, 3) := by decide +kernel
theorem dX10_fate_14 : decode cX10_fate 14 = .ok (.iload_n 2, 1) := by decide +kernel
