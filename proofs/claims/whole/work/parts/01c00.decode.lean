theorem dX0_init_0 : decode cX0_init 0 = .ok (.aload_n 0, 1) := by decide +kernel
theorem dX0_init_1 : decode cX0_init 1 = .ok (.invokespecial 3, 3) := by decide +kernel
theorem dX0_init_4 : decode cX0_init 4 = .ok (.aload_n 0, 1) := by decide +kernel
theorem dX0_init_5 : decode cX0_init 5 = .ok (.iconst (-1), 1) := by decide +kernel
theorem dX0_init_6 : decode cX0_init 6 = .ok (.putfield 9, 3) := by decide +kernel
theorem dX0_init_9 : decode cX0_init 9 = .ok (.aload_n 0, 1) := by decide +kernel
theorem dX0_init_10 : decode cX0_init 10 = .ok (.iconst (-1), 1) := by decide +kernel
theorem dX0_init_11 : decode cX0_init 11 = .ok (.putfield 15, 3) := by decide +kernel
theorem dX0_init_14 : decode cX0_init 14 = .ok (.aload_n 0, 1) := by decide +kernel
theorem dX0_init_15 : decode cX0_init 15 = .ok (.iconst (-1), 1) := by decide +kernel
theorem dX0_init_16 : decode cX0_init 16 = .ok (.putfield 18, 3) := by decide +kernel
theorem dX0_init_19 : decode cX0_init 19 = .ok (.return_, 1) := by decide +kernel
theorem dX0_launch_0 : decode cX0_launch 0 = .ok (.aload_n 0, 1) := by decide +kernel
theorem dX0_launch_1 : decode cX0_launch 1 = .ok (.iconst 0, 1) := by decide +kernel
theorem dX0_launch_2 : decode cX0_launch 2 = .ok (.putfield 21, 3) := by decide +kernel
theorem dX0_launch_5 : decode cX0_launch 5 = .ok (.aload_n 0, 1) := by decide +kernel
theorem dX0_launch_6 : decode cX0_launch 6 = .ok (.iload 4, 2) := by decide +kernel
theorem dX0_launch_8 : decode cX0_launch 8 = .ok (.putfield 24, 3) := by decide +kernel
theorem dX0_launch_11 : decode cX0_launch 11 = .ok (.aload_n 0, 1) := by decide +kernel
theorem dX0_launch_12 : decode cX0_launch 12 = .ok (.iload_n 1, 1) := by decide +kernel
theorem dX0_launch_13 : decode cX0_launch 13 = .ok (.putfield 9, 3) := by decide +kernel
theorem dX0_launch_16 : decode cX0_launch 16 = .ok (.aload_n 0, 1) := by decide +kernel
theorem dX0_launch_17 : decode cX0_launch 17 = .ok (.iload_n 2, 1) := by decide +kernel
theorem dX0_launch_18 : decode cX0_launch 18 = .ok (.putfield 15, 3) := by decide +kernel
theorem dX0_launch_21 : decode cX0_launch 21 = .ok (.aload_n 0, 1) := by decide +kernel
theorem dX0_launch_22 : decode cX0_launch 22 = .ok (.iload_n 3, 1) := by decide +kernel
theorem dX0_launch_23 : decode cX0_launch 23 = .ok (.putfield 27, 3) := by decide +kernel
theorem dX0_launch_26 : decode cX0_launch 26 = .ok (.aload_n 0, 1) := by decide +kernel
theorem dX0_launch_27 : decode cX0_launch 27 = .ok (.iconst 0, 1) := by decide +kernel
theorem dX0_launch_28 : decode cX0_launch 28 = .ok (.putfield 31, 3) := by decide +kernel
theorem dX0_launch_31 : decode cX0_launch 31 = .ok (.aload_n 0, 1) := by decide +kernel
theorem dX0_launch_32 : decode cX0_launch 32 = .ok (.iconst 0, 1) := by decide +kernel
theorem dX0_launch_33 : decode cX0_launch 33 = .ok (.putfield 34, 3) := by decide +kernel
theorem dX0_launch_36 : decode cX0_launch 36 = .ok (.aload_n 0, 1) := by decide +kernel
theorem dX0_launch_37 : decode cX0_launch 37 = .ok (.iconst (-1), 1) := by decide +kernel
theorem dX0_launch_38 : decode cX0_launch 38 = .ok (.putfield 18, 3) := by decide +kernel
theorem dX0_launch_41 : decode cX0_launch 41 = .ok (.return_, 1) := by decide +kernel
theorem dX0_takeFrom_0 : decode cX0_takeFrom 0 = .ok (.aload_n 0, 1) := by decide +kernel
theorem dX0_takeFrom_1 : decode cX0_takeFrom 1 = .ok (.aload_n 1, 1) := by decide +kernel
theorem dX0_takeFrom_2 : decode cX0_takeFrom 2 = .ok (.getfield 21, 3) := by decide +kernel
theorem dX0_takeFrom_5 : decode cX0_takeFrom 5 = .ok (.putfield 21, 3) := by decide +kernel
theorem dX0_takeFrom_8 : decode cX0_takeFrom 8 = .ok (.aload_n 0, 1) := by decide +kernel
theorem dX0_takeFrom_9 : decode cX0_takeFrom 9 = .ok (.aload_n 1, 1) := by decide +kernel
theorem dX0_takeFrom_10 : decode cX0_takeFrom 10 = .ok (.getfield 24, 3) := by decide +kernel
theorem dX0_takeFrom_13 : decode cX0_takeFrom 13 = .ok (.putfield 24, 3) := by decide +kernel
theorem dX0_takeFrom_16 : decode cX0_takeFrom 16 = .ok (.aload_n 0, 1) := by decide +kernel
theorem dX0_takeFrom_17 : decode cX0_takeFrom 17 = .ok (.aload_n 1, 1) := by decide +kernel
theorem dX0_takeFrom_18 : decode cX0_takeFrom 18 = .ok (.getfield 9, 3) := by decide +kernel
theorem dX0_takeFrom_21 : decode cX0_takeFrom 21 = .ok (.putfield 9, 3) := by decide +kernel
theorem dX0_takeFrom_24 : decode cX0_takeFrom 24 = .ok (.aload_n 0, 1) := by decide +kernel
theorem dX0_takeFrom_25 : decode cX0_takeFrom 25 = .ok (.aload_n 1, 1) := by decide +kernel
theorem dX0_takeFrom_26 : decode cX0_takeFrom 26 = .ok (.getfield 15, 3) := by decide +kernel
theorem dX0_takeFrom_29 : decode cX0_takeFrom 29 = .ok (.putfield 15, 3) := by decide +kernel
theorem dX0_takeFrom_32 : decode cX0_takeFrom 32 = .ok (.aload_n 0, 1) := by decide +kernel
theorem dX0_takeFrom_33 : decode cX0_takeFrom 33 = .ok (.aload_n 1, 1) := by decide +kernel
theorem dX0_takeFrom_34 : decode cX0_takeFrom 34 = .ok (.getfield 27, 3) := by decide +kernel
theorem dX0_takeFrom_37 : decode cX0_takeFrom 37 = .ok (.putfield 27, 3) := by decide +kernel
theorem dX0_takeFrom_40 : decode cX0_takeFrom 40 = .ok (.aload_n 0, 1) := by decide +kernel
theorem dX0_takeFrom_41 : decode cX0_takeFrom 41 = .ok (.aload_n 1, 1) := by decide +kernel
theorem dX0_takeFrom_42 : decode cX0_takeFrom 42 = .ok (.getfield 31, 3) := by decide +kernel
theorem dX0_takeFrom_45 : decode cX0_takeFrom 45 = .ok (.putfield 31, 3) := by decide +kernel
theorem dX0_takeFrom_48 : decode cX0_takeFrom 48 = .ok (.aload_n 0, 1) := by decide +kernel
theorem dX0_takeFrom_49 : decode cX0_takeFrom 49 = .ok (.aload_n 1, 1) := by decide +kernel
theorem dX0_takeFrom_50 : decode cX0_takeFrom 50 = .ok (.getfield 34, 3) := by decide +kernel
theorem dX0_takeFrom_53 : decode cX0_takeFrom 53 = .ok (.putfield 34, 3) := by decide +kernel
theorem dX0_takeFrom_56 : decode cX0_takeFrom 56 = .ok (.aload_n 0, 1) := by decide +kernel
theorem dX0_takeFrom_57 : decode cX0_takeFrom 57 = .ok (.aload_n 1, 1) := by decide +kernel
theorem dX0_takeFrom_58 : decode cX0_takeFrom 58 = .ok (.getfield 18, 3) := by decide +kernel
theorem dX0_takeFrom_61 : decode cX0_takeFrom 61 = .ok (.putfield 18, 3) := by decide +kernel
theorem dX0_takeFrom_64 : decode cX0_takeFrom 64 = .ok (.return_, 1) := by decide +kernel
theorem dX0_place_0 : decode cX0_place 0 = .ok (.aload_n 0, 1) := by decide +kernel
theorem dX0_place_1 : decode cX0_place 1 = .ok (.getfield 21, 3) := by decide +kernel
theorem dX0_place_4 : decode cX0_place 4 = .ok (.ifCond .eq 11, 3) := by decide +kernel
theorem dX0_place_7 : decode cX0_place 7 = .ok (.aload_n 0, 1) := by decide +kernel
theorem dX0_place_8 : decode cX0_place 8 = .ok (.getfield 21, 3) := by decide +kernel
theorem dX0_place_11 : decode cX0_place 11 = .ok (.iconst 1, 1) := by decide +kernel
theorem dX0_place_12 : decode cX0_place 12 = .ok (.if_icmp .ne 10, 3) := by decide +kernel
theorem dX0_place_15 : decode cX0_place 15 = .ok (.aload_n 0, 1) := by decide +kernel
theorem dX0_place_16 : decode cX0_place 16 = .ok (.getfield 24, 3) := by decide +kernel
theorem dX0_place_19 : decode cX0_place 19 = .ok (.goto 4, 3) := by decide +kernel
theorem dX0_place_22 : decode cX0_place 22 = .ok (.iconst (-1), 1) := by decide +kernel
theorem dX0_place_23 : decode cX0_place 23 = .ok (.ireturn, 1) := by decide +kernel
theorem dX1_init_0 : decode cX1_init 0 = .ok (.aload_n 0, 1) := by decide +kernel
theorem dX1_init_1 : decode cX1_init 1 = .ok (.invokespecial 3, 3) := by decide +kernel
theorem dX1_init_4 : decode cX1_init 4 = .ok (.aload_n 0, 1) := by decide +kernel
theorem dX1_init_5 : decode cX1_init 5 = .ok (.bipush 36, 2) := by decide +kernel
theorem dX1_init_7 : decode cX1_init 7 = .ok (.newarray .int, 2) := by decide +kernel
theorem dX1_init_9 : decode cX1_init 9 = .ok (.putfield 9, 3) := by decide +kernel
theorem dX1_init_12 : decode cX1_init 12 = .ok (.aload_n 0, 1) := by decide +kernel
theorem dX1_init_13 : decode cX1_init 13 = .ok (.sipush 216, 3) := by decide +kernel
theorem dX1_init_16 : decode cX1_init 16 = .ok (.newarray .int, 2) := by decide +kernel
theorem dX1_init_18 : decode cX1_init 18 = .ok (.putfield 15, 3) := by decide +kernel
theorem dX1_init_21 : decode cX1_init 21 = .ok (.aload_n 0, 1) := by decide +kernel
theorem dX1_init_22 : decode cX1_init 22 = .ok (.bipush 6, 2) := by decide +kernel
theorem dX1_init_24 : decode cX1_init 24 = .ok (.newarray .int, 2) := by decide +kernel
theorem dX1_init_26 : decode cX1_init 26 = .ok (.putfield 18, 3) := by decide +kernel
theorem dX1_init_29 : decode cX1_init 29 = .ok (.aload_n 0, 1) := by decide +kernel
theorem dX1_init_30 : decode cX1_init 30 = .ok (.bipush 6, 2) := by decide +kernel
theorem dX1_init_32 : decode cX1_init 32 = .ok (.newarray .int, 2) := by decide +kernel
theorem dX1_init_34 : decode cX1_init 34 = .ok (.putfield 21, 3) := by decide +kernel
theorem dX1_init_37 : decode cX1_init 37 = .ok (.aload_n 0, 1) := by decide +kernel
theorem dX1_init_38 : decode cX1_init 38 = .ok (.bipush 6, 2) := by decide +kernel
theorem dX1_init_40 : decode cX1_init 40 = .ok (.newarray .int, 2) := by decide +kernel
theorem dX1_init_42 : decode cX1_init 42 = .ok (.putfield 24, 3) := by decide +kernel
theorem dX1_init_45 : decode cX1_init 45 = .ok (.aload_n 0, 1) := by decide +kernel
theorem dX1_init_46 : decode cX1_init 46 = .ok (.bipush 6, 2) := by decide +kernel
theorem dX1_init_48 : decode cX1_init 48 = .ok (.newarray .int, 2) := by decide +kernel
theorem dX1_init_50 : decode cX1_init 50 = .ok (.putfield 27, 3) := by decide +kernel
theorem dX1_init_53 : decode cX1_init 53 = .ok (.aload_n 0, 1) := by decide +kernel
theorem dX1_init_54 : decode cX1_init 54 = .ok (.sipush 900, 3) := by decide +kernel
theorem dX1_init_57 : decode cX1_init 57 = .ok (.newarray .int, 2) := by decide +kernel
theorem dX1_init_59 : decode cX1_init 59 = .ok (.putfield 30, 3) := by decide +kernel
theorem dX1_init_62 : decode cX1_init 62 = .ok (.aload_n 0, 1) := by decide +kernel
theorem dX1_init_63 : decode cX1_init 63 = .ok (.iconst 1, 1) := by decide +kernel
theorem dX1_init_64 : decode cX1_init 64 = .ok (.putfield 33, 3) := by decide +kernel
theorem dX1_init_67 : decode cX1_init 67 = .ok (.return_, 1) := by decide +kernel
theorem dX1_clear_0 : decode cX1_clear 0 = .ok (.aload_n 0, 1) := by decide +kernel
theorem dX1_clear_1 : decode cX1_clear 1 = .ok (.getfield 9, 3) := by decide +kernel
theorem dX1_clear_4 : decode cX1_clear 4 = .ok (.iconst 0, 1) := by decide +kernel
theorem dX1_clear_5 : decode cX1_clear 5 = .ok (.invokestatic 37, 3) := by decide +kernel
theorem dX1_clear_8 : decode cX1_clear 8 = .ok (.aload_n 0, 1) := by decide +kernel
theorem dX1_clear_9 : decode cX1_clear 9 = .ok (.getfield 15, 3) := by decide +kernel
theorem dX1_clear_12 : decode cX1_clear 12 = .ok (.iconst 0, 1) := by decide +kernel
theorem dX1_clear_13 : decode cX1_clear 13 = .ok (.invokestatic 37, 3) := by decide +kernel
theorem dX1_clear_16 : decode cX1_clear 16 = .ok (.aload_n 0, 1) := by decide +kernel
theorem dX1_clear_17 : decode cX1_clear 17 = .ok (.iconst 0, 1) := by decide +kernel
theorem dX1_clear_18 : decode cX1_clear 18 = .ok (.putfield 43, 3) := by decide +kernel
theorem dX1_clear_21 : decode cX1_clear 21 = .ok (.aload_n 0, 1) := by decide +kernel
theorem dX1_clear_22 : decode cX1_clear 22 = .ok (.iconst 0, 1) := by decide +kernel
theorem dX1_clear_23 : decode cX1_clear 23 = .ok (.putfield 46, 3) := by decide +kernel
theorem dX1_clear_26 : decode cX1_clear 26 = .ok (.aload_n 0, 1) := by decide +kernel
theorem dX1_clear_27 : decode cX1_clear 27 = .ok (.iconst 0, 1) := by decide +kernel
theorem dX1_clear_28 : decode cX1_clear 28 = .ok (.putfield 49, 3) := by decide +kernel
theorem dX1_clear_31 : decode cX1_clear 31 = .ok (.aload_n 0, 1) := by decide +kernel
theorem dX1_clear_32 : decode cX1_clear 32 = .ok (.iconst 0, 1) := by decide +kernel
theorem dX1_clear_33 : decode cX1_clear 33 = .ok (.putfield 52, 3) := by decide +kernel
theorem dX1_clear_36 : decode cX1_clear 36 = .ok (.aload_n 0, 1) := by decide +kernel
theorem dX1_clear_37 : decode cX1_clear 37 = .ok (.iconst 0, 1) := by decide +kernel
theorem dX1_clear_38 : decode cX1_clear 38 = .ok (.putfield 55, 3) := by decide +kernel
theorem dX1_clear_41 : decode cX1_clear 41 = .ok (.aload_n 0, 1) := by decide +kernel
theorem dX1_clear_42 : decode cX1_clear 42 = .ok (.iconst 0, 1) := by decide +kernel
theorem dX1_clear_43 : decode cX1_clear 43 = .ok (.putfield 58, 3) := by decide +kernel
theorem dX1_clear_46 : decode cX1_clear 46 = .ok (.aload_n 0, 1) := by decide +kernel
theorem dX1_clear_47 : decode cX1_clear 47 = .ok (.iconst 1, 1) := by decide +kernel
theorem dX1_clear_48 : decode cX1_clear 48 = .ok (.putfield 33, 3) := by decide +kernel
theorem dX1_clear_51 : decode cX1_clear 51 = .ok (.aload_n 0, 1) := by decide +kernel
theorem dX1_clear_52 : decode cX1_clear 52 = .ok (.iconst 0, 1) := by decide +kernel
theorem dX1_clear_53 : decode cX1_clear 53 = .ok (.putfield 61, 3) := by decide +kernel
theorem dX1_clear_56 : decode cX1_clear 56 = .ok (.aload_n 0, 1) := by decide +kernel
theorem dX1_clear_57 : decode cX1_clear 57 = .ok (.iconst 0, 1) := by decide +kernel
theorem dX1_clear_58 : decode cX1_clear 58 = .ok (.putfield 64, 3) := by decide +kernel
theorem dX1_clear_61 : decode cX1_clear 61 = .ok (.aload_n 0, 1) := by decide +kernel
theorem dX1_clear_62 : decode cX1_clear 62 = .ok (.iconst 0, 1) := by decide +kernel
theorem dX1_clear_63 : decode cX1_clear 63 = .ok (.putfield 67, 3) := by decide +kernel
theorem dX1_clear_66 : decode cX1_clear 66 = .ok (.aload_n 0, 1) := by decide +kernel
theorem dX1_clear_67 : decode cX1_clear 67 = .ok (.iconst 0, 1) := by decide +kernel
theorem dX1_clear_68 : decode cX1_clear 68 = .ok (.putfield 70, 3) := by decide +kernel
theorem dX1_clear_71 : decode cX1_clear 71 = .ok (.aload_n 0, 1) := by decide +kernel
theorem dX1_clear_72 : decode cX1_clear 72 = .ok (.iconst 0, 1) := by decide +kernel
theorem dX1_clear_73 : decode cX1_clear 73 = .ok (.putfield 73, 3) := by decide +kernel
theorem dX1_clear_76 : decode cX1_clear 76 = .ok (.aload_n 0, 1) := by decide +kernel
theorem dX1_clear_77 : decode cX1_clear 77 = .ok (.iconst 0, 1) := by decide +kernel
theorem dX1_clear_78 : decode cX1_clear 78 = .ok (.putfield 76, 3) := by decide +kernel
theorem dX1_clear_81 : decode cX1_clear 81 = .ok (.return_, 1) := by decide +kernel
theorem dX1_takeFrom_0 : decode cX1_takeFrom 0 = .ok (.aload_n 1, 1) := by decide +kernel
theorem dX1_takeFrom_1 : decode cX1_takeFrom 1 = .ok (.getfield 9, 3) := by decide +kernel
theorem dX1_takeFrom_4 : decode cX1_takeFrom 4 = .ok (.iconst 0, 1) := by decide +kernel
theorem dX1_takeFrom_5 : decode cX1_takeFrom 5 = .ok (.aload_n 0, 1) := by decide +kernel
theorem dX1_takeFrom_6 : decode cX1_takeFrom 6 = .ok (.getfield 9, 3) := by decide +kernel
theorem dX1_takeFrom_9 : decode cX1_takeFrom 9 = .ok (.iconst 0, 1) := by decide +kernel
theorem dX1_takeFrom_10 : decode cX1_takeFrom 10 = .ok (.bipush 36, 2) := by decide +kernel
theorem dX1_takeFrom_12 : decode cX1_takeFrom 12 = .ok (.invokestatic 79, 3) := by decide +kernel
theorem dX1_takeFrom_15 : decode cX1_takeFrom 15 = .ok (.aload_n 1, 1) := by decide +kernel
theorem dX1_takeFrom_16 : decode cX1_takeFrom 16 = .ok (.getfield 15, 3) := by decide +kernel
theorem dX1_takeFrom_19 : decode cX1_takeFrom 19 = .ok (.iconst 0, 1) := by decide +kernel
theorem dX1_takeFrom_20 : decode cX1_takeFrom 20 = .ok (.aload_n 0, 1) := by decide +kernel
theorem dX1_takeFrom_21 : decode cX1_takeFrom 21 = .ok (.getfield 15, 3) := by decide +kernel
theorem dX1_takeFrom_24 : decode cX1_takeFrom 24 = .ok (.iconst 0, 1) := by decide +kernel
theorem dX1_takeFrom_25 : decode cX1_takeFrom 25 = .ok (.sipush 216, 3) := by decide +kernel
theorem dX1_takeFrom_28 : decode cX1_takeFrom 28 = .ok (.invokestatic 79, 3) := by decide +kernel
theorem dX1_takeFrom_31 : decode cX1_takeFrom 31 = .ok (.aload_n 1, 1) := by decide +kernel
theorem dX1_takeFrom_32 : decode cX1_takeFrom 32 = .ok (.getfield 18, 3) := by decide +kernel
theorem dX1_takeFrom_35 : decode cX1_takeFrom 35 = .ok (.iconst 0, 1) := by decide +kernel
theorem dX1_takeFrom_36 : decode cX1_takeFrom 36 = .ok (.aload_n 0, 1) := by decide +kernel
theorem dX1_takeFrom_37 : decode cX1_takeFrom 37 = .ok (.getfield 18, 3) := by decide +kernel
theorem dX1_takeFrom_40 : decode cX1_takeFrom 40 = .ok (.iconst 0, 1) := by decide +kernel
theorem dX1_takeFrom_41 : decode cX1_takeFrom 41 = .ok (.bipush 6, 2) := by decide +kernel
theorem dX1_takeFrom_43 : decode cX1_takeFrom 43 = .ok (.invokestatic 79, 3) := by decide +kernel
theorem dX1_takeFrom_46 : decode cX1_takeFrom 46 = .ok (.aload_n 1, 1) := by decide +kernel
theorem dX1_takeFrom_47 : decode cX1_takeFrom 47 = .ok (.getfield 21, 3) := by decide +kernel
theorem dX1_takeFrom_50 : decode cX1_takeFrom 50 = .ok (.iconst 0, 1) := by decide +kernel
theorem dX1_takeFrom_51 : decode cX1_takeFrom 51 = .ok (.aload_n 0, 1) := by decide +kernel
theorem dX1_takeFrom_52 : decode cX1_takeFrom 52 = .ok (.getfield 21, 3) := by decide +kernel
theorem dX1_takeFrom_55 : decode cX1_takeFrom 55 = .ok (.iconst 0, 1) := by decide +kernel
theorem dX1_takeFrom_56 : decode cX1_takeFrom 56 = .ok (.bipush 6, 2) := by decide +kernel
theorem dX1_takeFrom_58 : decode cX1_takeFrom 58 = .ok (.invokestatic 79, 3) := by decide +kernel
theorem dX1_takeFrom_61 : decode cX1_takeFrom 61 = .ok (.aload_n 1, 1) := by decide +kernel
theorem dX1_takeFrom_62 : decode cX1_takeFrom 62 = .ok (.getfield 24, 3) := by decide +kernel
theorem dX1_takeFrom_65 : decode cX1_takeFrom 65 = .ok (.iconst 0, 1) := by decide +kernel
theorem dX1_takeFrom_66 : decode cX1_takeFrom 66 = .ok (.aload_n 0, 1) := by decide +kernel
theorem dX1_takeFrom_67 : decode cX1_takeFrom 67 = .ok (.getfield 24, 3) := by decide +kernel
theorem dX1_takeFrom_70 : decode cX1_takeFrom 70 = .ok (.iconst 0, 1) := by decide +kernel
theorem dX1_takeFrom_71 : decode cX1_takeFrom 71 = .ok (.bipush 6, 2) := by decide +kernel
theorem dX1_takeFrom_73 : decode cX1_takeFrom 73 = .ok (.invokestatic 79, 3) := by decide +kernel
theorem dX1_takeFrom_76 : decode cX1_takeFrom 76 = .ok (.aload_n 1, 1) := by decide +kernel
theorem dX1_takeFrom_77 : decode cX1_takeFrom 77 = .ok (.getfield 27, 3) := by decide +kernel
theorem dX1_takeFrom_80 : decode cX1_takeFrom 80 = .ok (.iconst 0, 1) := by decide +kernel
theorem dX1_takeFrom_81 : decode cX1_takeFrom 81 = .ok (.aload_n 0, 1) := by decide +kernel
theorem dX1_takeFrom_82 : decode cX1_takeFrom 82 = .ok (.getfield 27, 3) := by decide +kernel
theorem dX1_takeFrom_85 : decode cX1_takeFrom 85 = .ok (.iconst 0, 1) := by decide +kernel
theorem dX1_takeFrom_86 : decode cX1_takeFrom 86 = .ok (.bipush 6, 2) := by decide +kernel
theorem dX1_takeFrom_88 : decode cX1_takeFrom 88 = .ok (.invokestatic 79, 3) := by decide +kernel
theorem dX1_takeFrom_91 : decode cX1_takeFrom 91 = .ok (.aload_n 1, 1) := by decide +kernel
theorem dX1_takeFrom_92 : decode cX1_takeFrom 92 = .ok (.getfield 30, 3) := by decide +kernel
theorem dX1_takeFrom_95 : decode cX1_takeFrom 95 = .ok (.iconst 0, 1) := by decide +kernel
theorem dX1_takeFrom_96 : decode cX1_takeFrom 96 = .ok (.aload_n 0, 1) := by decide +kernel
theorem dX1_takeFrom_97 : decode cX1_takeFrom 97 = .ok (.getfield 30, 3) := by decide +kernel
theorem dX1_takeFrom_100 : decode cX1_takeFrom 100 = .ok (.iconst 0, 1) := by decide +kernel
theorem dX1_takeFrom_101 : decode cX1_takeFrom 101 = .ok (.sipush 900, 3) := by decide +kernel
theorem dX1_takeFrom_104 : decode cX1_takeFrom 104 = .ok (.invokestatic 79, 3) := by decide +kernel
theorem dX1_takeFrom_107 : decode cX1_takeFrom 107 = .ok (.aload_n 0, 1) := by decide +kernel
theorem dX1_takeFrom_108 : decode cX1_takeFrom 108 = .ok (.aload_n 1, 1) := by decide +kernel
theorem dX1_takeFrom_109 : decode cX1_takeFrom 109 = .ok (.getfield 43, 3) := by decide +kernel
theorem dX1_takeFrom_112 : decode cX1_takeFrom 112 = .ok (.putfield 43, 3) := by decide +kernel
theorem dX1_takeFrom_115 : decode cX1_takeFrom 115 = .ok (.aload_n 0, 1) := by decide +kernel
theorem dX1_takeFrom_116 : decode cX1_takeFrom 116 = .ok (.aload_n 1, 1) := by decide +kernel
theorem dX1_takeFrom_117 : decode cX1_takeFrom 117 = .ok (.getfield 46, 3) := by decide +kernel
theorem dX1_takeFrom_120 : decode cX1_takeFrom 120 = .ok (.putfield 46, 3) := by decide +kernel
theorem dX1_takeFrom_123 : decode cX1_takeFrom 123 = .ok (.aload_n 0, 1) := by decide +kernel
theorem dX1_takeFrom_124 : decode cX1_takeFrom 124 = .ok (.aload_n 1, 1) := by decide +kernel
theorem dX1_takeFrom_125 : decode cX1_takeFrom 125 = .ok (.getfield 49, 3) := by decide +kernel
theorem dX1_takeFrom_128 : decode cX1_takeFrom 128 = .ok (.putfield 49, 3) := by decide +kernel
theorem dX1_takeFrom_131 : decode cX1_takeFrom 131 = .ok (.aload_n 0, 1) := by decide +kernel
theorem dX1_takeFrom_132 : decode cX1_takeFrom 132 = .ok (.aload_n 1, 1) := by decide +kernel
theorem dX1_takeFrom_133 : decode cX1_takeFrom 133 = .ok (.getfield 52, 3) := by decide +kernel
theorem dX1_takeFrom_136 : decode cX1_takeFrom 136 = .ok (.putfield 52, 3) := by decide +kernel
theorem dX1_takeFrom_139 : decode cX1_takeFrom 139 = .ok (.aload_n 0, 1) := by decide +kernel
theorem dX1_takeFrom_140 : decode cX1_takeFrom 140 = .ok (.aload_n 1, 1) := by decide +kernel
theorem dX1_takeFrom_141 : decode cX1_takeFrom 141 = .ok (.getfield 55, 3) := by decide +kernel
theorem dX1_takeFrom_144 : decode cX1_takeFrom 144 = .ok (.putfield 55, 3) := by decide +kernel
theorem dX1_takeFrom_147 : decode cX1_takeFrom 147 = .ok (.aload_n 0, 1) := by decide +kernel
theorem dX1_takeFrom_148 : decode cX1_takeFrom 148 = .ok (.aload_n 1, 1) := by decide +kernel
theorem dX1_takeFrom_149 : decode cX1_takeFrom 149 = .ok (.getfield 58, 3) := by decide +kernel
theorem dX1_takeFrom_152 : decode cX1_takeFrom 152 = .ok (.putfield 58, 3) := by decide +kernel
theorem dX1_takeFrom_155 : decode cX1_takeFrom 155 = .ok (.aload_n 0, 1) := by decide +kernel
theorem dX1_takeFrom_156 : decode cX1_takeFrom 156 = .ok (.aload_n 1, 1) := by decide +kernel
theorem dX1_takeFrom_157 : decode cX1_takeFrom 157 = .ok (.getfield 33, 3) := by decide +kernel
theorem dX1_takeFrom_160 : decode cX1_takeFrom 160 = .ok (.putfield 33, 3) := by decide +kernel
theorem dX1_takeFrom_163 : decode cX1_takeFrom 163 = .ok (.aload_n 0, 1) := by decide +kernel
theorem dX1_takeFrom_164 : decode cX1_takeFrom 164 = .ok (.aload_n 1, 1) := by decide +kernel
theorem dX1_takeFrom_165 : decode cX1_takeFrom 165 = .ok (.getfield 61, 3) := by decide +kernel
theorem dX1_takeFrom_168 : decode cX1_takeFrom 168 = .ok (.putfield 61, 3) := by decide +kernel
theorem dX1_takeFrom_171 : decode cX1_takeFrom 171 = .ok (.aload_n 0, 1) := by decide +kernel
theorem dX1_takeFrom_172 : decode cX1_takeFrom 172 = .ok (.aload_n 1, 1) := by decide +kernel
theorem dX1_takeFrom_173 : decode cX1_takeFrom 173 = .ok (.getfield 64, 3) := by decide +kernel
theorem dX1_takeFrom_176 : decode cX1_takeFrom 176 = .ok (.putfield 64, 3) := by decide +kernel
theorem dX1_takeFrom_179 : decode cX1_takeFrom 179 = .ok (.aload_n 0, 1) := by decide +kernel
theorem dX1_takeFrom_180 : decode cX1_takeFrom 180 = .ok (.aload_n 1, 1) := by decide +kernel
theorem dX1_takeFrom_181 : decode cX1_takeFrom 181 = .ok (.getfield 67, 3) := by decide +kernel
theorem dX1_takeFrom_184 : decode cX1_takeFrom 184 = .ok (.putfield 67, 3) := by decide +kernel
theorem dX1_takeFrom_187 : decode cX1_takeFrom 187 = .ok (.aload_n 0, 1) := by decide +kernel
theorem dX1_takeFrom_188 : decode cX1_takeFrom 188 = .ok (.aload_n 1, 1) := by decide +kernel
theorem dX1_takeFrom_189 : decode cX1_takeFrom 189 = .ok (.getfield 70, 3) := by decide +kernel
theorem dX1_takeFrom_192 : decode cX1_takeFrom 192 = .ok (.putfield 70, 3) := by decide +kernel
theorem dX1_takeFrom_195 : decode cX1_takeFrom 195 = .ok (.aload_n 0, 1) := by decide +kernel
theorem dX1_takeFrom_196 : decode cX1_takeFrom 196 = .ok (.aload_n 1, 1) := by decide +kernel
theorem dX1_takeFrom_197 : decode cX1_takeFrom 197 = .ok (.getfield 73, 3) := by decide +kernel
theorem dX1_takeFrom_200 : decode cX1_takeFrom 200 = .ok (.putfield 73, 3) := by decide +kernel
theorem dX1_takeFrom_203 : decode cX1_takeFrom 203 = .ok (.aload_n 0, 1) := by decide +kernel
theorem dX1_takeFrom_204 : decode cX1_takeFrom 204 = .ok (.aload_n 1, 1) := by decide +kernel
theorem dX1_takeFrom_205 : decode cX1_takeFrom 205 = .ok (.getfield 76, 3) := by decide +kernel
theorem dX1_takeFrom_208 : decode cX1_takeFrom 208 = .ok (.putfield 76, 3) := by decide +kernel
theorem dX1_takeFrom_211 : decode cX1_takeFrom 211 = .ok (.return_, 1) := by decide +kernel
theorem dX1_cells_0 : decode cX1_cells 0 = .ok (.aload_n 0, 1) := by decide +kernel
theorem dX1_cells_1 : decode cX1_cells 1 = .ok (.getfield 55, 3) := by decide +kernel
theorem dX1_cells_4 : decode cX1_cells 4 = .ok (.aload_n 0, 1) := by decide +kernel
theorem dX1_cells_5 : decode cX1_cells 5 = .ok (.getfield 58, 3) := by decide +kernel
theorem dX1_cells_8 : decode cX1_cells 8 = .ok (.imul, 1) := by decide +kernel
theorem dX1_cells_9 : decode cX1_cells 9 = .ok (.ireturn, 1) := by decide +kernel
theorem dX1_isCell_0 : decode cX1_isCell 0 = .ok (.iload_n 1, 1) := by decide +kernel
theorem dX1_isCell_1 : decode cX1_isCell 1 = .ok (.ifCond .lt 26, 3) := by decide +kernel
theorem dX1_isCell_4 : decode cX1_isCell 4 = .ok (.iload_n 1, 1) := by decide +kernel
theorem dX1_isCell_5 : decode cX1_isCell 5 = .ok (.aload_n 0, 1) := by decide +kernel
theorem dX1_isCell_6 : decode cX1_isCell 6 = .ok (.getfield 55, 3) := by decide +kernel
theorem dX1_isCell_9 : decode cX1_isCell 9 = .ok (.aload_n 0, 1) := by decide +kernel
theorem dX1_isCell_10 : decode cX1_isCell 10 = .ok (.getfield 58, 3) := by decide +kernel
theorem dX1_isCell_13 : decode cX1_isCell 13 = .ok (.imul, 1) := by decide +kernel
theorem dX1_isCell_14 : decode cX1_isCell 14 = .ok (.if_icmp .ge 13, 3) := by decide +kernel
theorem dX1_isCell_17 : decode cX1_isCell 17 = .ok (.iload_n 1, 1) := by decide +kernel
theorem dX1_isCell_18 : decode cX1_isCell 18 = .ok (.bipush 36, 2) := by decide +kernel
theorem dX1_isCell_20 : decode cX1_isCell 20 = .ok (.if_icmp .ge 7, 3) := by decide +kernel
theorem dX1_isCell_23 : decode cX1_isCell 23 = .ok (.iconst 1, 1) := by decide +kernel
theorem dX1_isCell_24 : decode cX1_isCell 24 = .ok (.goto 4, 3) := by decide +kernel
theorem dX1_isCell_27 : decode cX1_isCell 27 = .ok (.iconst 0, 1) := by decide +kernel
theorem dX1_isCell_28 : decode cX1_isCell 28 = .ok (.ireturn, 1) := by decide +kernel
theorem dX1_isOpen_0 : decode cX1_isOpen 0 = .ok (.iload_n 1, 1) := by decide +kernel
theorem dX1_isOpen_1 : decode cX1_isOpen 1 = .ok (.ifCond .lt 35, 3) := by decide +kernel
theorem dX1_isOpen_4 : decode cX1_isOpen 4 = .ok (.iload_n 1, 1) := by decide +kernel
theorem dX1_isOpen_5 : decode cX1_isOpen 5 = .ok (.aload_n 0, 1) := by decide +kernel
theorem dX1_isOpen_6 : decode cX1_isOpen 6 = .ok (.getfield 55, 3) := by decide +kernel
theorem dX1_isOpen_9 : decode cX1_isOpen 9 = .ok (.aload_n 0, 1) := by decide +kernel
theorem dX1_isOpen_10 : decode cX1_isOpen 10 = .ok (.getfield 58, 3) := by decide +kernel
theorem dX1_isOpen_13 : decode cX1_isOpen 13 = .ok (.imul, 1) := by decide +kernel
theorem dX1_isOpen_14 : decode cX1_isOpen 14 = .ok (.if_icmp .ge 22, 3) := by decide +kernel
theorem dX1_isOpen_17 : decode cX1_isOpen 17 = .ok (.iload_n 1, 1) := by decide +kernel
theorem dX1_isOpen_18 : decode cX1_isOpen 18 = .ok (.bipush 36, 2) := by decide +kernel
theorem dX1_isOpen_20 : decode cX1_isOpen 20 = .ok (.if_icmp .ge 16, 3) := by decide +kernel
theorem dX1_isOpen_23 : decode cX1_isOpen 23 = .ok (.aload_n 0, 1) := by decide +kernel
theorem dX1_isOpen_24 : decode cX1_isOpen 24 = .ok (.getfield 9, 3) := by decide +kernel
theorem dX1_isOpen_27 : decode cX1_isOpen 27 = .ok (.iload_n 1, 1) := by decide +kernel
theorem dX1_isOpen_28 : decode cX1_isOpen 28 = .ok (.iaload, 1) := by decide +kernel
theorem dX1_isOpen_29 : decode cX1_isOpen 29 = .ok (.ifCond .ne 7, 3) := by decide +kernel
theorem dX1_isOpen_32 : decode cX1_isOpen 32 = .ok (.iconst 1, 1) := by decide +kernel
theorem dX1_isOpen_33 : decode cX1_isOpen 33 = .ok (.goto 4, 3) := by decide +kernel
theorem dX1_isOpen_36 : decode cX1_isOpen 36 = .ok (.iconst 0, 1) := by decide +kernel
theorem dX1_isOpen_37 : decode cX1_isOpen 37 = .ok (.ireturn, 1) := by decide +kernel
theorem dX1_isShore_0 : decode cX1_isShore 0 = .ok (.iload_n 1, 1) := by decide +kernel
theorem dX1_isShore_1 : decode cX1_isShore 1 = .ok (.ifCond .lt 21, 3) := by decide +kernel
theorem dX1_isShore_4 : decode cX1_isShore 4 = .ok (.iload_n 1, 1) := by decide +kernel
theorem dX1_isShore_5 : decode cX1_isShore 5 = .ok (.aload_n 0, 1) := by decide +kernel
theorem dX1_isShore_6 : decode cX1_isShore 6 = .ok (.getfield 61, 3) := by decide +kernel
theorem dX1_isShore_9 : decode cX1_isShore 9 = .ok (.if_icmp .ge 13, 3) := by decide +kernel
theorem dX1_isShore_12 : decode cX1_isShore 12 = .ok (.iload_n 1, 1) := by decide +kernel
theorem dX1_isShore_13 : decode cX1_isShore 13 = .ok (.bipush 6, 2) := by decide +kernel
theorem dX1_isShore_15 : decode cX1_isShore 15 = .ok (.if_icmp .ge 7, 3) := by decide +kernel
theorem dX1_isShore_18 : decode cX1_isShore 18 = .ok (.iconst 1, 1) := by decide +kernel
theorem dX1_isShore_19 : decode cX1_isShore 19 = .ok (.goto 4, 3) := by decide +kernel
theorem dX1_isShore_22 : decode cX1_isShore 22 = .ok (.iconst 0, 1) := by decide +kernel
theorem dX1_isShore_23 : decode cX1_isShore 23 = .ok (.ireturn, 1) := by decide +kernel
theorem dX1_currentAt_0 : decode cX1_currentAt 0 = .ok (.aload_n 0, 1) := by decide +kernel
theorem dX1_currentAt_1 : decode cX1_currentAt 1 = .ok (.iload_n 1, 1) := by decide +kernel
theorem dX1_currentAt_2 : decode cX1_currentAt 2 = .ok (.invokevirtual 85, 3) := by decide +kernel
theorem dX1_currentAt_5 : decode cX1_currentAt 5 = .ok (.ifCond .eq 17, 3) := by decide +kernel
theorem dX1_currentAt_8 : decode cX1_currentAt 8 = .ok (.iload_n 2, 1) := by decide +kernel
theorem dX1_currentAt_9 : decode cX1_currentAt 9 = .ok (.ifCond .lt 13, 3) := by decide +kernel
theorem dX1_currentAt_12 : decode cX1_currentAt 12 = .ok (.iload_n 2, 1) := by decide +kernel
theorem dX1_currentAt_13 : decode cX1_currentAt 13 = .ok (.bipush 6, 2) := by decide +kernel
theorem dX1_currentAt_15 : decode cX1_currentAt 15 = .ok (.if_icmp .ge 7, 3) := by decide +kernel
theorem dX1_currentAt_18 : decode cX1_currentAt 18 = .ok (.iconst 1, 1) := by decide +kernel
theorem dX1_currentAt_19 : decode cX1_currentAt 19 = .ok (.goto 4, 3) := by decide +kernel
theorem dX1_currentAt_22 : decode cX1_currentAt 22 = .ok (.iconst 0, 1) := by decide +kernel
theorem dX1_currentAt_23 : decode cX1_currentAt 23 = .ok (.istore_n 3, 1) := by decide +kernel
theorem dX1_currentAt_24 : decode cX1_currentAt 24 = .ok (.iload_n 3, 1) := by decide +kernel
theorem dX1_currentAt_25 : decode cX1_currentAt 25 = .ok (.ifCond .eq 17, 3) := by decide +kernel
theorem dX1_currentAt_28 : decode cX1_currentAt 28 = .ok (.aload_n 0, 1) := by decide +kernel
theorem dX1_currentAt_29 : decode cX1_currentAt 29 = .ok (.getfield 15, 3) := by decide +kernel
theorem dX1_currentAt_32 : decode cX1_currentAt 32 = .ok (.iload_n 1, 1) := by decide +kernel
theorem dX1_currentAt_33 : decode cX1_currentAt 33 = .ok (.bipush 6, 2) := by decide +kernel
theorem dX1_currentAt_35 : decode cX1_currentAt 35 = .ok (.imul, 1) := by decide +kernel
theorem dX1_currentAt_36 : decode cX1_currentAt 36 = .ok (.iload_n 2, 1) := by decide +kernel
theorem dX1_currentAt_37 : decode cX1_currentAt 37 = .ok (.iadd, 1) := by decide +kernel
theorem dX1_currentAt_38 : decode cX1_currentAt 38 = .ok (.iaload, 1) := by decide +kernel
theorem dX1_currentAt_39 : decode cX1_currentAt 39 = .ok (.goto 4, 3) := by decide +kernel
theorem dX1_currentAt_42 : decode cX1_currentAt 42 = .ok (.iconst 0, 1) := by decide +kernel
theorem dX1_currentAt_43 : decode cX1_currentAt 43 = .ok (.ireturn, 1) := by decide +kernel
theorem dX1_beside_0 : decode cX1_beside 0 = .ok (.iload_n 1, 1) := by decide +kernel
theorem dX1_beside_1 : decode cX1_beside 1 = .ok (.ifCond .lt 23, 3) := by decide +kernel
theorem dX1_beside_4 : decode cX1_beside 4 = .ok (.iload_n 1, 1) := by decide +kernel
theorem dX1_beside_5 : decode cX1_beside 5 = .ok (.aload_n 0, 1) := by decide +kernel
theorem dX1_beside_6 : decode cX1_beside 6 = .ok (.getfield 55, 3) := by decide +kernel
theorem dX1_beside_9 : decode cX1_beside 9 = .ok (.aload_n 0, 1) := by decide +kernel
theorem dX1_beside_10 : decode cX1_beside 10 = .ok (.getfield 58, 3) := by decide +kernel
theorem dX1_beside_13 : decode cX1_beside 13 = .ok (.imul, 1) := by decide +kernel
theorem dX1_beside_14 : decode cX1_beside 14 = .ok (.if_icmp .ge 10, 3) := by decide +kernel
theorem dX1_beside_17 : decode cX1_beside 17 = .ok (.aload_n 0, 1) := by decide +kernel
theorem dX1_beside_18 : decode cX1_beside 18 = .ok (.getfield 55, 3) := by decide +kernel
theorem dX1_beside_21 : decode cX1_beside 21 = .ok (.ifCond .gt 5, 3) := by decide +kernel
theorem dX1_beside_24 : decode cX1_beside 24 = .ok (.iconst (-1), 1) := by decide +kernel
theorem dX1_beside_25 : decode cX1_beside 25 = .ok (.ireturn, 1) := by decide +kernel
theorem dX1_beside_26 : decode cX1_beside 26 = .ok (.iload_n 2, 1) := by decide +kernel
theorem dX1_beside_27 : decode cX1_beside 27 = .ok (.tableswitch 117 1 4 #[29, 48, 71, 100], 29) := by decide +kernel
theorem dX1_beside_56 : decode cX1_beside 56 = .ok (.iload_n 1, 1) := by decide +kernel
theorem dX1_beside_57 : decode cX1_beside 57 = .ok (.aload_n 0, 1) := by decide +kernel
theorem dX1_beside_58 : decode cX1_beside 58 = .ok (.getfield 55, 3) := by decide +kernel
theorem dX1_beside_61 : decode cX1_beside 61 = .ok (.if_icmp .lt 12, 3) := by decide +kernel
theorem dX1_beside_64 : decode cX1_beside 64 = .ok (.iload_n 1, 1) := by decide +kernel
theorem dX1_beside_65 : decode cX1_beside 65 = .ok (.aload_n 0, 1) := by decide +kernel
theorem dX1_beside_66 : decode cX1_beside 66 = .ok (.getfield 55, 3) := by decide +kernel
theorem dX1_beside_69 : decode cX1_beside 69 = .ok (.isub, 1) := by decide +kernel
theorem dX1_beside_70 : decode cX1_beside 70 = .ok (.goto 4, 3) := by decide +kernel
theorem dX1_beside_73 : decode cX1_beside 73 = .ok (.iconst (-1), 1) := by decide +kernel
theorem dX1_beside_74 : decode cX1_beside 74 = .ok (.ireturn, 1) := by decide +kernel
theorem dX1_beside_75 : decode cX1_beside 75 = .ok (.iload_n 1, 1) := by decide +kernel
theorem dX1_beside_76 : decode cX1_beside 76 = .ok (.aload_n 0, 1) := by decide +kernel
theorem dX1_beside_77 : decode cX1_beside 77 = .ok (.getfield 55, 3) := by decide +kernel
theorem dX1_beside_80 : decode cX1_beside 80 = .ok (.irem, 1) := by decide +kernel
theorem dX1_beside_81 : decode cX1_beside 81 = .ok (.aload_n 0, 1) := by decide +kernel
theorem dX1_beside_82 : decode cX1_beside 82 = .ok (.getfield 55, 3) := by decide +kernel
theorem dX1_beside_85 : decode cX1_beside 85 = .ok (.iconst 1, 1) := by decide +kernel
theorem dX1_beside_86 : decode cX1_beside 86 = .ok (.isub, 1) := by decide +kernel
theorem dX1_beside_87 : decode cX1_beside 87 = .ok (.if_icmp .ge 9, 3) := by decide +kernel
theorem dX1_beside_90 : decode cX1_beside 90 = .ok (.iload_n 1, 1) := by decide +kernel
theorem dX1_beside_91 : decode cX1_beside 91 = .ok (.iconst 1, 1) := by decide +kernel
theorem dX1_beside_92 : decode cX1_beside 92 = .ok (.iadd, 1) := by decide +kernel
theorem dX1_beside_93 : decode cX1_beside 93 = .ok (.goto 4, 3) := by decide +kernel
theorem dX1_beside_96 : decode cX1_beside 96 = .ok (.iconst (-1), 1) := by decide +kernel
theorem dX1_beside_97 : decode cX1_beside 97 = .ok (.ireturn, 1) := by decide +kernel
theorem dX1_beside_98 : decode cX1_beside 98 = .ok (.iload_n 1, 1) := by decide +kernel
theorem dX1_beside_99 : decode cX1_beside 99 = .ok (.aload_n 0, 1) := by decide +kernel
theorem dX1_beside_100 : decode cX1_beside 100 = .ok (.getfield 55, 3) := by decide +kernel
theorem dX1_beside_103 : decode cX1_beside 103 = .ok (.iadd, 1) := by decide +kernel
theorem dX1_beside_104 : decode cX1_beside 104 = .ok (.aload_n 0, 1) := by decide +kernel
theorem dX1_beside_105 : decode cX1_beside 105 = .ok (.getfield 55, 3) := by decide +kernel
theorem dX1_beside_108 : decode cX1_beside 108 = .ok (.aload_n 0, 1) := by decide +kernel
theorem dX1_beside_109 : decode cX1_beside 109 = .ok (.getfield 58, 3) := by decide +kernel
theorem dX1_beside_112 : decode cX1_beside 112 = .ok (.imul, 1) := by decide +kernel
theorem dX1_beside_113 : decode cX1_beside 113 = .ok (.if_icmp .ge 12, 3) := by decide +kernel
theorem dX1_beside_116 : decode cX1_beside 116 = .ok (.iload_n 1, 1) := by decide +kernel
theorem dX1_beside_117 : decode cX1_beside 117 = .ok (.aload_n 0, 1) := by decide +kernel
theorem dX1_beside_118 : decode cX1_beside 118 = .ok (.getfield 55, 3) := by decide +kernel
theorem dX1_beside_121 : decode cX1_beside 121 = .ok (.iadd, 1) := by decide +kernel
theorem dX1_beside_122 : decode cX1_beside 122 = .ok (.goto 4, 3) := by decide +kernel
theorem dX1_beside_125 : decode cX1_beside 125 = .ok (.iconst (-1), 1) := by decide +kernel
theorem dX1_beside_126 : decode cX1_beside 126 = .ok (.ireturn, 1) := by decide +kernel
theorem dX1_beside_127 : decode cX1_beside 127 = .ok (.iload_n 1, 1) := by decide +kernel
theorem dX1_beside_128 : decode cX1_beside 128 = .ok (.aload_n 0, 1) := by decide +kernel
theorem dX1_beside_129 : decode cX1_beside 129 = .ok (.getfield 55, 3) := by decide +kernel
theorem dX1_beside_132 : decode cX1_beside 132 = .ok (.irem, 1) := by decide +kernel
theorem dX1_beside_133 : decode cX1_beside 133 = .ok (.ifCond .le 9, 3) := by decide +kernel
theorem dX1_beside_136 : decode cX1_beside 136 = .ok (.iload_n 1, 1) := by decide +kernel
theorem dX1_beside_137 : decode cX1_beside 137 = .ok (.iconst 1, 1) := by decide +kernel
theorem dX1_beside_138 : decode cX1_beside 138 = .ok (.isub, 1) := by decide +kernel
theorem dX1_beside_139 : decode cX1_beside 139 = .ok (.goto 4, 3) := by decide +kernel
theorem dX1_beside_142 : decode cX1_beside 142 = .ok (.iconst (-1), 1) := by decide +kernel
theorem dX1_beside_143 : decode cX1_beside 143 = .ok (.ireturn, 1) := by decide +kernel
theorem dX1_beside_144 : decode cX1_beside 144 = .ok (.iconst (-1), 1) := by decide +kernel
theorem dX1_beside_145 : decode cX1_beside 145 = .ok (.ireturn, 1) := by decide +kernel
theorem dX1_aim_0 : decode cX1_aim 0 = .ok (.iconst 0, 1) := by decide +kernel
theorem dX1_aim_1 : decode cX1_aim 1 = .ok (.istore_n 1, 1) := by decide +kernel
theorem dX1_aim_2 : decode cX1_aim 2 = .ok (.iload_n 1, 1) := by decide +kernel
theorem dX1_aim_3 : decode cX1_aim 3 = .ok (.aload_n 0, 1) := by decide +kernel
theorem dX1_aim_4 : decode cX1_aim 4 = .ok (.getfield 61, 3) := by decide +kernel
theorem dX1_aim_7 : decode cX1_aim 7 = .ok (.if_icmp .ge 51, 3) := by decide +kernel
theorem dX1_aim_10 : decode cX1_aim 10 = .ok (.iload_n 1, 1) := by decide +kernel
theorem dX1_aim_11 : decode cX1_aim 11 = .ok (.bipush 6, 2) := by decide +kernel
theorem dX1_aim_13 : decode cX1_aim 13 = .ok (.if_icmp .ge 45, 3) := by decide +kernel
theorem dX1_aim_16 : decode cX1_aim 16 = .ok (.aload_n 0, 1) := by decide +kernel
theorem dX1_aim_17 : decode cX1_aim 17 = .ok (.aload_n 0, 1) := by decide +kernel
theorem dX1_aim_18 : decode cX1_aim 18 = .ok (.getfield 18, 3) := by decide +kernel
theorem dX1_aim_21 : decode cX1_aim 21 = .ok (.iload_n 1, 1) := by decide +kernel
theorem dX1_aim_22 : decode cX1_aim 22 = .ok (.iaload, 1) := by decide +kernel
theorem dX1_aim_23 : decode cX1_aim 23 = .ok (.aload_n 0, 1) := by decide +kernel
theorem dX1_aim_24 : decode cX1_aim 24 = .ok (.getfield 21, 3) := by decide +kernel
theorem dX1_aim_27 : decode cX1_aim 27 = .ok (.iload_n 1, 1) := by decide +kernel
theorem dX1_aim_28 : decode cX1_aim 28 = .ok (.iaload, 1) := by decide +kernel
theorem dX1_aim_29 : decode cX1_aim 29 = .ok (.invokevirtual 89, 3) := by decide +kernel
theorem dX1_aim_32 : decode cX1_aim 32 = .ok (.istore_n 2, 1) := by decide +kernel
theorem dX1_aim_33 : decode cX1_aim 33 = .ok (.aload_n 0, 1) := by decide +kernel
theorem dX1_aim_34 : decode cX1_aim 34 = .ok (.getfield 24, 3) := by decide +kernel
theorem dX1_aim_37 : decode cX1_aim 37 = .ok (.iload_n 1, 1) := by decide +kernel
theorem dX1_aim_38 : decode cX1_aim 38 = .ok (.aload_n 0, 1) := by decide +kernel
theorem dX1_aim_39 : decode cX1_aim 39 = .ok (.iload_n 2, 1) := by decide +kernel
theorem dX1_aim_40 : decode cX1_aim 40 = .ok (.invokevirtual 93, 3) := by decide +kernel
theorem dX1_aim_43 : decode cX1_aim 43 = .ok (.ifCond .eq 7, 3) := by decide +kernel
theorem dX1_aim_46 : decode cX1_aim 46 = .ok (.iload_n 2, 1) := by decide +kernel
theorem dX1_aim_47 : decode cX1_aim 47 = .ok (.goto 4, 3) := by decide +kernel
theorem dX1_aim_50 : decode cX1_aim 50 = .ok (.iconst (-1), 1) := by decide +kernel
theorem dX1_aim_51 : decode cX1_aim 51 = .ok (.iastore, 1) := by decide +kernel
theorem dX1_aim_52 : decode cX1_aim 52 = .ok (.iinc 1 1, 3) := by decide +kernel
theorem dX1_aim_55 : decode cX1_aim 55 = .ok (.goto (-53), 3) := by decide +kernel
theorem dX1_aim_58 : decode cX1_aim 58 = .ok (.return_, 1) := by decide +kernel
theorem dX1_throwCell_0 : decode cX1_throwCell 0 = .ok (.iload_n 1, 1) := by decide +kernel
theorem dX1_throwCell_1 : decode cX1_throwCell 1 = .ok (.ifCond .lt 26, 3) := by decide +kernel
theorem dX1_throwCell_4 : decode cX1_throwCell 4 = .ok (.iload_n 1, 1) := by decide +kernel
theorem dX1_throwCell_5 : decode cX1_throwCell 5 = .ok (.aload_n 0, 1) := by decide +kernel
theorem dX1_throwCell_6 : decode cX1_throwCell 6 = .ok (.getfield 61, 3) := by decide +kernel
theorem dX1_throwCell_9 : decode cX1_throwCell 9 = .ok (.if_icmp .ge 18, 3) := by decide +kernel
theorem dX1_throwCell_12 : decode cX1_throwCell 12 = .ok (.iload_n 1, 1) := by decide +kernel
theorem dX1_throwCell_13 : decode cX1_throwCell 13 = .ok (.bipush 6, 2) := by decide +kernel
theorem dX1_throwCell_15 : decode cX1_throwCell 15 = .ok (.if_icmp .ge 12, 3) := by decide +kernel
theorem dX1_throwCell_18 : decode cX1_throwCell 18 = .ok (.aload_n 0, 1) := by decide +kernel
theorem dX1_throwCell_19 : decode cX1_throwCell 19 = .ok (.getfield 24, 3) := by decide +kernel
theorem dX1_throwCell_22 : decode cX1_throwCell 22 = .ok (.iload_n 1, 1) := by decide +kernel
theorem dX1_throwCell_23 : decode cX1_throwCell 23 = .ok (.iaload, 1) := by decide +kernel
theorem dX1_throwCell_24 : decode cX1_throwCell 24 = .ok (.goto 4, 3) := by decide +kernel
theorem dX1_throwCell_27 : decode cX1_throwCell 27 = .ok (.iconst (-1), 1) := by decide +kernel
theorem dX1_throwCell_28 : decode cX1_throwCell 28 = .ok (.ireturn, 1) := by decide +kernel
theorem dX1_phaseOf_0 : decode cX1_phaseOf 0 = .ok (.aload_n 0, 1) := by decide +kernel
theorem dX1_phaseOf_1 : decode cX1_phaseOf 1 = .ok (.getfield 33, 3) := by decide +kernel
theorem dX1_phaseOf_4 : decode cX1_phaseOf 4 = .ok (.ifCond .le 12, 3) := by decide +kernel
theorem dX1_phaseOf_7 : decode cX1_phaseOf 7 = .ok (.iload_n 1, 1) := by decide +kernel
theorem dX1_phaseOf_8 : decode cX1_phaseOf 8 = .ok (.aload_n 0, 1) := by decide +kernel
theorem dX1_phaseOf_9 : decode cX1_phaseOf 9 = .ok (.getfield 33, 3) := by decide +kernel
theorem dX1_phaseOf_12 : decode cX1_phaseOf 12 = .ok (.irem, 1) := by decide +kernel
theorem dX1_phaseOf_13 : decode cX1_phaseOf 13 = .ok (.goto 4, 3) := by decide +kernel
theorem dX1_phaseOf_16 : decode cX1_phaseOf 16 = .ok (.iconst 0, 1) := by decide +kernel
theorem dX1_phaseOf_17 : decode cX1_phaseOf 17 = .ok (.ireturn, 1) := by decide +kernel
theorem dX1_moonOf_0 : decode cX1_moonOf 0 = .ok (.aload_n 0, 1) := by decide +kernel
theorem dX1_moonOf_1 : decode cX1_moonOf 1 = .ok (.getfield 70, 3) := by decide +kernel
theorem dX1_moonOf_4 : decode cX1_moonOf 4 = .ok (.ifCond .le 12, 3) := by decide +kernel
theorem dX1_moonOf_7 : decode cX1_moonOf 7 = .ok (.iload_n 1, 1) := by decide +kernel
theorem dX1_moonOf_8 : decode cX1_moonOf 8 = .ok (.aload_n 0, 1) := by decide +kernel
theorem dX1_moonOf_9 : decode cX1_moonOf 9 = .ok (.getfield 70, 3) := by decide +kernel
theorem dX1_moonOf_12 : decode cX1_moonOf 12 = .ok (.irem, 1) := by decide +kernel
theorem dX1_moonOf_13 : decode cX1_moonOf 13 = .ok (.goto 4, 3) := by decide +kernel
theorem dX1_moonOf_16 : decode cX1_moonOf 16 = .ok (.iconst 0, 1) := by decide +kernel
theorem dX1_moonOf_17 : decode cX1_moonOf 17 = .ok (.ireturn, 1) := by decide +kernel
theorem dX1_isSpring_0 : decode cX1_isSpring 0 = .ok (.aload_n 0, 1) := by decide +kernel
theorem dX1_isSpring_1 : decode cX1_isSpring 1 = .ok (.getfield 70, 3) := by decide +kernel
theorem dX1_isSpring_4 : decode cX1_isSpring 4 = .ok (.ifCond .le 20, 3) := by decide +kernel
theorem dX1_isSpring_7 : decode cX1_isSpring 7 = .ok (.iload_n 1, 1) := by decide +kernel
theorem dX1_isSpring_8 : decode cX1_isSpring 8 = .ok (.aload_n 0, 1) := by decide +kernel
theorem dX1_isSpring_9 : decode cX1_isSpring 9 = .ok (.getfield 70, 3) := by decide +kernel
theorem dX1_isSpring_12 : decode cX1_isSpring 12 = .ok (.irem, 1) := by decide +kernel
theorem dX1_isSpring_13 : decode cX1_isSpring 13 = .ok (.aload_n 0, 1) := by decide +kernel
theorem dX1_isSpring_14 : decode cX1_isSpring 14 = .ok (.getfield 73, 3) := by decide +kernel
theorem dX1_isSpring_17 : decode cX1_isSpring 17 = .ok (.if_icmp .ge 7, 3) := by decide +kernel
theorem dX1_isSpring_20 : decode cX1_isSpring 20 = .ok (.iconst 1, 1) := by decide +kernel
theorem dX1_isSpring_21 : decode cX1_isSpring 21 = .ok (.goto 4, 3) := by decide +kernel
theorem dX1_isSpring_24 : decode cX1_isSpring 24 = .ok (.iconst 0, 1) := by decide +kernel
theorem dX1_isSpring_25 : decode cX1_isSpring 25 = .ok (.ireturn, 1) := by decide +kernel
theorem dX2_init_0 : decode cX2_init 0 = .ok (.aload_n 0, 1) := by decide +kernel
theorem dX2_init_1 : decode cX2_init 1 = .ok (.invokespecial 3, 3) := by decide +kernel
theorem dX2_init_4 : decode cX2_init 4 = .ok (.aload_n 0, 1) := by decide +kernel
theorem dX2_init_5 : decode cX2_init 5 = .ok (.new 9, 3) := by decide +kernel
theorem dX2_init_8 : decode cX2_init 8 = .ok (.dup, 1) := by decide +kernel
theorem dX2_init_9 : decode cX2_init 9 = .ok (.invokespecial 11, 3) := by decide +kernel
theorem dX2_init_12 : decode cX2_init 12 = .ok (.putfield 12, 3) := by decide +kernel
theorem dX2_init_15 : decode cX2_init 15 = .ok (.aload_n 0, 1) := by decide +kernel
theorem dX2_init_16 : decode cX2_init 16 = .ok (.new 18, 3) := by decide +kernel
theorem dX2_init_19 : decode cX2_init 19 = .ok (.dup, 1) := by decide +kernel
theorem dX2_init_20 : decode cX2_init 20 = .ok (.invokespecial 20, 3) := by decide +kernel
theorem dX2_init_23 : decode cX2_init 23 = .ok (.putfield 21, 3) := by decide +kernel
theorem dX2_init_26 : decode cX2_init 26 = .ok (.aload_n 0, 1) := by decide +kernel
theorem dX2_init_27 : decode cX2_init 27 = .ok (.bipush 7, 2) := by decide +kernel
theorem dX2_init_29 : decode cX2_init 29 = .ok (.newarray .int, 2) := by decide +kernel
theorem dX2_init_31 : decode cX2_init 31 = .ok (.putfield 25, 3) := by decide +kernel
theorem dX2_init_34 : decode cX2_init 34 = .ok (.aload_n 0, 1) := by decide +kernel
theorem dX2_init_35 : decode cX2_init 35 = .ok (.bipush 64, 2) := by decide +kernel
theorem dX2_init_37 : decode cX2_init 37 = .ok (.newarray .int, 2) := by decide +kernel
theorem dX2_init_39 : decode cX2_init 39 = .ok (.putfield 29, 3) := by decide +kernel
theorem dX2_init_42 : decode cX2_init 42 = .ok (.aload_n 0, 1) := by decide +kernel
theorem dX2_init_43 : decode cX2_init 43 = .ok (.iconst (-1), 1) := by decide +kernel
theorem dX2_init_44 : decode cX2_init 44 = .ok (.putfield 32, 3) := by decide +kernel
theorem dX2_init_47 : decode cX2_init 47 = .ok (.return_, 1) := by decide +kernel
theorem dX2_forget_0 : decode cX2_forget 0 = .ok (.aload_n 0, 1) := by decide +kernel
theorem dX2_forget_1 : decode cX2_forget 1 = .ok (.getfield 36, 3) := by decide +kernel
theorem dX2_forget_4 : decode cX2_forget 4 = .ok (.ifnull 11, 3) := by decide +kernel
theorem dX2_forget_7 : decode cX2_forget 7 = .ok (.aload_n 0, 1) := by decide +kernel
theorem dX2_forget_8 : decode cX2_forget 8 = .ok (.getfield 36, 3) := by decide +kernel
theorem dX2_forget_11 : decode cX2_forget 11 = .ok (.iconst 0, 1) := by decide +kernel
theorem dX2_forget_12 : decode cX2_forget 12 = .ok (.invokestatic 40, 3) := by decide +kernel
theorem dX2_forget_15 : decode cX2_forget 15 = .ok (.aload_n 0, 1) := by decide +kernel
theorem dX2_forget_16 : decode cX2_forget 16 = .ok (.getfield 46, 3) := by decide +kernel
theorem dX2_forget_19 : decode cX2_forget 19 = .ok (.ifnull 11, 3) := by decide +kernel
theorem dX2_forget_22 : decode cX2_forget 22 = .ok (.aload_n 0, 1) := by decide +kernel
theorem dX2_forget_23 : decode cX2_forget 23 = .ok (.getfield 46, 3) := by decide +kernel
theorem dX2_forget_26 : decode cX2_forget 26 = .ok (.iconst 0, 1) := by decide +kernel
theorem dX2_forget_27 : decode cX2_forget 27 = .ok (.invokestatic 50, 3) := by decide +kernel
theorem dX2_forget_30 : decode cX2_forget 30 = .ok (.return_, 1) := by decide +kernel
theorem dX2_windAt_0 : decode cX2_windAt 0 = .ok (.aload_n 0, 1) := by decide +kernel
theorem dX2_windAt_1 : decode cX2_windAt 1 = .ok (.getfield 12, 3) := by decide +kernel
theorem dX2_windAt_4 : decode cX2_windAt 4 = .ok (.iload_n 1, 1) := by decide +kernel
theorem dX2_windAt_5 : decode cX2_windAt 5 = .ok (.invokevirtual 53, 3) := by decide +kernel
theorem dX2_windAt_8 : decode cX2_windAt 8 = .ok (.ifCond .eq 30, 3) := by decide +kernel
theorem dX2_windAt_11 : decode cX2_windAt 11 = .ok (.aload_n 0, 1) := by decide +kernel
theorem dX2_windAt_12 : decode cX2_windAt 12 = .ok (.getfield 12, 3) := by decide +kernel
theorem dX2_windAt_15 : decode cX2_windAt 15 = .ok (.getfield 57, 3) := by decide +kernel
theorem dX2_windAt_18 : decode cX2_windAt 18 = .ok (.ifCond .le 20, 3) := by decide +kernel
theorem dX2_windAt_21 : decode cX2_windAt 21 = .ok (.aload_n 0, 1) := by decide +kernel
theorem dX2_windAt_22 : decode cX2_windAt 22 = .ok (.getfield 12, 3) := by decide +kernel
theorem dX2_windAt_25 : decode cX2_windAt 25 = .ok (.getfield 60, 3) := by decide +kernel
theorem dX2_windAt_28 : decode cX2_windAt 28 = .ok (.aload_n 0, 1) := by decide +kernel
theorem dX2_windAt_29 : decode cX2_windAt 29 = .ok (.getfield 12, 3) := by decide +kernel
theorem dX2_windAt_32 : decode cX2_windAt 32 = .ok (.getfield 63, 3) := by decide +kernel
theorem dX2_windAt_35 : decode cX2_windAt 35 = .ok (.if_icmp .lt 5, 3) := by decide +kernel
theorem dX2_windAt_38 : decode cX2_windAt 38 = .ok (.iconst 0, 1) := by decide +kernel
theorem dX2_windAt_39 : decode cX2_windAt 39 = .ok (.ireturn, 1) := by decide +kernel
theorem dX2_windAt_40 : decode cX2_windAt 40 = .ok (.aload_n 0, 1) := by decide +kernel
theorem dX2_windAt_41 : decode cX2_windAt 41 = .ok (.getfield 36, 3) := by decide +kernel
theorem dX2_windAt_44 : decode cX2_windAt 44 = .ok (.ifnonnull 12, 3) := by decide +kernel
theorem dX2_windAt_47 : decode cX2_windAt 47 = .ok (.aload_n 0, 1) := by decide +kernel
theorem dX2_windAt_48 : decode cX2_windAt 48 = .ok (.sipush 6480, 3) := by decide +kernel
theorem dX2_windAt_51 : decode cX2_windAt 51 = .ok (.newarray .byte, 2) := by decide +kernel
theorem dX2_windAt_53 : decode cX2_windAt 53 = .ok (.putfield 36, 3) := by decide +kernel
theorem dX2_windAt_56 : decode cX2_windAt 56 = .ok (.aload_n 0, 1) := by decide +kernel
theorem dX2_windAt_57 : decode cX2_windAt 57 = .ok (.getfield 12, 3) := by decide +kernel
theorem dX2_windAt_60 : decode cX2_windAt 60 = .ok (.iload_n 2, 1) := by decide +kernel
theorem dX2_windAt_61 : decode cX2_windAt 61 = .ok (.invokevirtual 66, 3) := by decide +kernel
theorem dX2_windAt_64 : decode cX2_windAt 64 = .ok (.istore_n 3, 1) := by decide +kernel
theorem dX2_windAt_65 : decode cX2_windAt 65 = .ok (.aload_n 0, 1) := by decide +kernel
theorem dX2_windAt_66 : decode cX2_windAt 66 = .ok (.getfield 12, 3) := by decide +kernel
theorem dX2_windAt_69 : decode cX2_windAt 69 = .ok (.iload_n 2, 1) := by decide +kernel
theorem dX2_windAt_70 : decode cX2_windAt 70 = .ok (.invokevirtual 70, 3) := by decide +kernel
theorem dX2_windAt_73 : decode cX2_windAt 73 = .ok (.istore 4, 2) := by decide +kernel
theorem dX2_windAt_75 : decode cX2_windAt 75 = .ok (.iload_n 1, 1) := by decide +kernel
theorem dX2_windAt_76 : decode cX2_windAt 76 = .ok (.bipush 6, 2) := by decide +kernel
theorem dX2_windAt_78 : decode cX2_windAt 78 = .ok (.imul, 1) := by decide +kernel
theorem dX2_windAt_79 : decode cX2_windAt 79 = .ok (.iload_n 3, 1) := by decide +kernel
theorem dX2_windAt_80 : decode cX2_windAt 80 = .ok (.iadd, 1) := by decide +kernel
theorem dX2_windAt_81 : decode cX2_windAt 81 = .ok (.bipush 30, 2) := by decide +kernel
theorem dX2_windAt_83 : decode cX2_windAt 83 = .ok (.imul, 1) := by decide +kernel
theorem dX2_windAt_84 : decode cX2_windAt 84 = .ok (.iload 4, 2) := by decide +kernel
theorem dX2_windAt_86 : decode cX2_windAt 86 = .ok (.iadd, 1) := by decide +kernel
theorem dX2_windAt_87 : decode cX2_windAt 87 = .ok (.istore 5, 2) := by decide +kernel
theorem dX2_windAt_89 : decode cX2_windAt 89 = .ok (.iload 5, 2) := by decide +kernel
theorem dX2_windAt_91 : decode cX2_windAt 91 = .ok (.ifCond .lt 13, 3) := by decide +kernel
theorem dX2_windAt_94 : decode cX2_windAt 94 = .ok (.iload 5, 2) := by decide +kernel
theorem dX2_windAt_96 : decode cX2_windAt 96 = .ok (.aload_n 0, 1) := by decide +kernel
theorem dX2_windAt_97 : decode cX2_windAt 97 = .ok (.getfield 36, 3) := by decide +kernel
theorem dX2_windAt_100 : decode cX2_windAt 100 = .ok (.arraylength, 1) := by decide +kernel
theorem dX2_windAt_101 : decode cX2_windAt 101 = .ok (.if_icmp .lt 5, 3) := by decide +kernel
theorem dX2_windAt_104 : decode cX2_windAt 104 = .ok (.iconst 0, 1) := by decide +kernel
theorem dX2_windAt_105 : decode cX2_windAt 105 = .ok (.ireturn, 1) := by decide +kernel
theorem dX2_windAt_106 : decode cX2_windAt 106 = .ok (.aload_n 0, 1) := by decide +kernel
theorem dX2_windAt_107 : decode cX2_windAt 107 = .ok (.getfield 36, 3) := by decide +kernel
theorem dX2_windAt_110 : decode cX2_windAt 110 = .ok (.iload 5, 2) := by decide +kernel
theorem dX2_windAt_112 : decode cX2_windAt 112 = .ok (.baload, 1) := by decide +kernel
theorem dX2_windAt_113 : decode cX2_windAt 113 = .ok (.ifCond .ne 84, 3) := by decide +kernel
theorem dX2_windAt_116 : decode cX2_windAt 116 = .ok (.aload_n 0, 1) := by decide +kernel
theorem dX2_windAt_117 : decode cX2_windAt 117 = .ok (.getfield 25, 3) := by decide +kernel
theorem dX2_windAt_120 : decode cX2_windAt 120 = .ok (.iconst 0, 1) := by decide +kernel
theorem dX2_windAt_121 : decode cX2_windAt 121 = .ok (.iload_n 1, 1) := by decide +kernel
theorem dX2_windAt_122 : decode cX2_windAt 122 = .ok (.aload_n 0, 1) := by decide +kernel
theorem dX2_windAt_123 : decode cX2_windAt 123 = .ok (.getfield 12, 3) := by decide +kernel
theorem dX2_windAt_126 : decode cX2_windAt 126 = .ok (.getfield 57, 3) := by decide +kernel
theorem dX2_windAt_129 : decode cX2_windAt 129 = .ok (.irem, 1) := by decide +kernel
theorem dX2_windAt_130 : decode cX2_windAt 130 = .ok (.iastore, 1) := by decide +kernel
theorem dX2_windAt_131 : decode cX2_windAt 131 = .ok (.aload_n 0, 1) := by decide +kernel
theorem dX2_windAt_132 : decode cX2_windAt 132 = .ok (.getfield 25, 3) := by decide +kernel
theorem dX2_windAt_135 : decode cX2_windAt 135 = .ok (.iconst 1, 1) := by decide +kernel
theorem dX2_windAt_136 : decode cX2_windAt 136 = .ok (.iload_n 1, 1) := by decide +kernel
theorem dX2_windAt_137 : decode cX2_windAt 137 = .ok (.aload_n 0, 1) := by decide +kernel
theorem dX2_windAt_138 : decode cX2_windAt 138 = .ok (.getfield 12, 3) := by decide +kernel
theorem dX2_windAt_141 : decode cX2_windAt 141 = .ok (.getfield 57, 3) := by decide +kernel
theorem dX2_windAt_144 : decode cX2_windAt 144 = .ok (.idiv, 1) := by decide +kernel
theorem dX2_windAt_145 : decode cX2_windAt 145 = .ok (.iastore, 1) := by decide +kernel
theorem dX2_windAt_146 : decode cX2_windAt 146 = .ok (.aload_n 0, 1) := by decide +kernel
theorem dX2_windAt_147 : decode cX2_windAt 147 = .ok (.getfield 25, 3) := by decide +kernel
theorem dX2_windAt_150 : decode cX2_windAt 150 = .ok (.iconst 2, 1) := by decide +kernel
theorem dX2_windAt_151 : decode cX2_windAt 151 = .ok (.iload_n 3, 1) := by decide +kernel
theorem dX2_windAt_152 : decode cX2_windAt 152 = .ok (.iastore, 1) := by decide +kernel
theorem dX2_windAt_153 : decode cX2_windAt 153 = .ok (.aload_n 0, 1) := by decide +kernel
theorem dX2_windAt_154 : decode cX2_windAt 154 = .ok (.getfield 25, 3) := by decide +kernel
theorem dX2_windAt_157 : decode cX2_windAt 157 = .ok (.iconst 3, 1) := by decide +kernel
theorem dX2_windAt_158 : decode cX2_windAt 158 = .ok (.iload 4, 2) := by decide +kernel
theorem dX2_windAt_160 : decode cX2_windAt 160 = .ok (.iastore, 1) := by decide +kernel
theorem dX2_windAt_161 : decode cX2_windAt 161 = .ok (.aload_n 0, 1) := by decide +kernel
theorem dX2_windAt_162 : decode cX2_windAt 162 = .ok (.aload_n 0, 1) := by decide +kernel
theorem dX2_windAt_163 : decode cX2_windAt 163 = .ok (.getfield 12, 3) := by decide +kernel
theorem dX2_windAt_166 : decode cX2_windAt 166 = .ok (.getfield 60, 3) := by decide +kernel
theorem dX2_windAt_169 : decode cX2_windAt 169 = .ok (.aload_n 0, 1) := by decide +kernel
theorem dX2_windAt_170 : decode cX2_windAt 170 = .ok (.getfield 12, 3) := by decide +kernel
theorem dX2_windAt_173 : decode cX2_windAt 173 = .ok (.getfield 63, 3) := by decide +kernel
theorem dX2_windAt_176 : decode cX2_windAt 176 = .ok (.invokevirtual 73, 3) := by decide +kernel
theorem dX2_windAt_179 : decode cX2_windAt 179 = .ok (.iconst 5, 1) := by decide +kernel
theorem dX2_windAt_180 : decode cX2_windAt 180 = .ok (.invokestatic 77, 3) := by decide +kernel
theorem dX2_windAt_183 : decode cX2_windAt 183 = .ok (.istore 6, 2) := by decide +kernel
theorem dX2_windAt_185 : decode cX2_windAt 185 = .ok (.aload_n 0, 1) := by decide +kernel
theorem dX2_windAt_186 : decode cX2_windAt 186 = .ok (.getfield 36, 3) := by decide +kernel
theorem dX2_windAt_189 : decode cX2_windAt 189 = .ok (.iload 5, 2) := by decide +kernel
theorem dX2_windAt_191 : decode cX2_windAt 191 = .ok (.iload 6, 2) := by decide +kernel
theorem dX2_windAt_193 : decode cX2_windAt 193 = .ok (.iconst 1, 1) := by decide +kernel
theorem dX2_windAt_194 : decode cX2_windAt 194 = .ok (.iadd, 1) := by decide +kernel
theorem dX2_windAt_195 : decode cX2_windAt 195 = .ok (.i2b, 1) := by decide +kernel
theorem dX2_windAt_196 : decode cX2_windAt 196 = .ok (.bastore, 1) := by decide +kernel
theorem dX2_windAt_197 : decode cX2_windAt 197 = .ok (.aload_n 0, 1) := by decide +kernel
theorem dX2_windAt_198 : decode cX2_windAt 198 = .ok (.getfield 36, 3) := by decide +kernel
theorem dX2_windAt_201 : decode cX2_windAt 201 = .ok (.iload 5, 2) := by decide +kernel
theorem dX2_windAt_203 : decode cX2_windAt 203 = .ok (.baload, 1) := by decide +kernel
theorem dX2_windAt_204 : decode cX2_windAt 204 = .ok (.iconst 1, 1) := by decide +kernel
theorem dX2_windAt_205 : decode cX2_windAt 205 = .ok (.isub, 1) := by decide +kernel
theorem dX2_windAt_206 : decode cX2_windAt 206 = .ok (.ireturn, 1) := by decide +kernel
theorem dX2_lawSays_0 : decode cX2_lawSays 0 = .ok (.iconst 0, 1) := by decide +kernel
theorem dX2_lawSays_1 : decode cX2_lawSays 1 = .ok (.istore_n 3, 1) := by decide +kernel
theorem dX2_lawSays_2 : decode cX2_lawSays 2 = .ok (.iload_n 1, 1) := by decide +kernel
theorem dX2_lawSays_3 : decode cX2_lawSays 3 = .ok (.istore 4, 2) := by decide +kernel
theorem dX2_lawSays_5 : decode cX2_lawSays 5 = .ok (.iload 4, 2) := by decide +kernel
theorem dX2_lawSays_7 : decode cX2_lawSays 7 = .ok (.ifCond .lt 360, 3) := by decide +kernel
theorem dX2_lawSays_10 : decode cX2_lawSays 10 = .ok (.iload 4, 2) := by decide +kernel
theorem dX2_lawSays_12 : decode cX2_lawSays 12 = .ok (.iload_n 2, 1) := by decide +kernel
theorem dX2_lawSays_13 : decode cX2_lawSays 13 = .ok (.if_icmp .ge 354, 3) := by decide +kernel
theorem dX2_lawSays_16 : decode cX2_lawSays 16 = .ok (.iload 4, 2) := by decide +kernel
theorem dX2_lawSays_18 : decode cX2_lawSays 18 = .ok (.sipush 900, 3) := by decide +kernel
theorem dX2_lawSays_21 : decode cX2_lawSays 21 = .ok (.if_icmp .ge 346, 3) := by decide +kernel
theorem dX2_lawSays_24 : decode cX2_lawSays 24 = .ok (.aload_n 0, 1) := by decide +kernel
theorem dX2_lawSays_25 : decode cX2_lawSays 25 = .ok (.getfield 12, 3) := by decide +kernel
theorem dX2_lawSays_28 : decode cX2_lawSays 28 = .ok (.getfield 82, 3) := by decide +kernel
theorem dX2_lawSays_31 : decode cX2_lawSays 31 = .ok (.iload 4, 2) := by decide +kernel
theorem dX2_lawSays_33 : decode cX2_lawSays 33 = .ok (.iaload, 1) := by decide +kernel
theorem dX2_lawSays_34 : decode cX2_lawSays 34 = .ok (.istore 5, 2) := by decide +kernel
theorem dX2_lawSays_36 : decode cX2_lawSays 36 = .ok (.iload 5, 2) := by decide +kernel
theorem dX2_lawSays_38 : decode cX2_lawSays 38 = .ok (.sipush 2000, 3) := by decide +kernel
theorem dX2_lawSays_41 : decode cX2_lawSays 41 = .ok (.if_icmp .ge 55, 3) := by decide +kernel
theorem dX2_lawSays_44 : decode cX2_lawSays 44 = .ok (.iload 5, 2) := by decide +kernel
theorem dX2_lawSays_46 : decode cX2_lawSays 46 = .ok (.sipush 1000, 3) := by decide +kernel
theorem dX2_lawSays_49 : decode cX2_lawSays 49 = .ok (.isub, 1) := by decide +kernel
theorem dX2_lawSays_50 : decode cX2_lawSays 50 = .ok (.istore 6, 2) := by decide +kernel
theorem dX2_lawSays_52 : decode cX2_lawSays 52 = .ok (.iload_n 3, 1) := by decide +kernel
theorem dX2_lawSays_53 : decode cX2_lawSays 53 = .ok (.bipush 64, 2) := by decide +kernel
theorem dX2_lawSays_55 : decode cX2_lawSays 55 = .ok (.if_icmp .ge 10, 3) := by decide +kernel
theorem dX2_lawSays_58 : decode cX2_lawSays 58 = .ok (.iload 6, 2) := by decide +kernel
theorem dX2_lawSays_60 : decode cX2_lawSays 60 = .ok (.bipush 7, 2) := by decide +kernel
theorem dX2_lawSays_62 : decode cX2_lawSays 62 = .ok (.if_icmp .lt 5, 3) := by decide +kernel
theorem dX2_lawSays_65 : decode cX2_lawSays 65 = .ok (.iconst 0, 1) := by decide +kernel
theorem dX2_lawSays_66 : decode cX2_lawSays 66 = .ok (.ireturn, 1) := by decide +kernel
theorem dX2_lawSays_67 : decode cX2_lawSays 67 = .ok (.aload_n 0, 1) := by decide +kernel
theorem dX2_lawSays_68 : decode cX2_lawSays 68 = .ok (.getfield 29, 3) := by decide +kernel
theorem dX2_lawSays_71 : decode cX2_lawSays 71 = .ok (.iload_n 3, 1) := by decide +kernel
theorem dX2_lawSays_72 : decode cX2_lawSays 72 = .ok (.iload 6, 2) := by decide +kernel
theorem dX2_lawSays_74 : decode cX2_lawSays 74 = .ok (.ifCond .ge 8, 3) := by decide +kernel
theorem dX2_lawSays_77 : decode cX2_lawSays 77 = .ok (.iload 5, 2) := by decide +kernel
theorem dX2_lawSays_79 : decode cX2_lawSays 79 = .ok (.goto 10, 3) := by decide +kernel
theorem dX2_lawSays_82 : decode cX2_lawSays 82 = .ok (.aload_n 0, 1) := by decide +kernel
theorem dX2_lawSays_83 : decode cX2_lawSays 83 = .ok (.getfield 25, 3) := by decide +kernel
theorem dX2_lawSays_86 : decode cX2_lawSays 86 = .ok (.iload 6, 2) := by decide +kernel
theorem dX2_lawSays_88 : decode cX2_lawSays 88 = .ok (.iaload, 1) := by decide +kernel
theorem dX2_lawSays_89 : decode cX2_lawSays 89 = .ok (.iastore, 1) := by decide +kernel
theorem dX2_lawSays_90 : decode cX2_lawSays 90 = .ok (.iinc 3 1, 3) := by decide +kernel
theorem dX2_lawSays_93 : decode cX2_lawSays 93 = .ok (.goto 268, 3) := by decide +kernel
theorem dX2_lawSays_96 : decode cX2_lawSays 96 = .ok (.iload 5, 2) := by decide +kernel
theorem dX2_lawSays_98 : decode cX2_lawSays 98 = .ok (.sipush 2003, 3) := by decide +kernel
theorem dX2_lawSays_101 : decode cX2_lawSays 101 = .ok (.if_icmp .ne 7, 3) := by decide +kernel
theorem dX2_lawSays_104 : decode cX2_lawSays 104 = .ok (.iconst 1, 1) := by decide +kernel
theorem dX2_lawSays_105 : decode cX2_lawSays 105 = .ok (.goto 4, 3) := by decide +kernel
theorem dX2_lawSays_108 : decode cX2_lawSays 108 = .ok (.iconst 2, 1) := by decide +kernel
theorem dX2_lawSays_109 : decode cX2_lawSays 109 = .ok (.istore 6, 2) := by decide +kernel
theorem dX2_lawSays_111 : decode cX2_lawSays 111 = .ok (.iload_n 3, 1) := by decide +kernel
theorem dX2_lawSays_112 : decode cX2_lawSays 112 = .ok (.iload 6, 2) := by decide +kernel
theorem dX2_lawSays_114 : decode cX2_lawSays 114 = .ok (.if_icmp .ge 5, 3) := by decide +kernel
theorem dX2_lawSays_117 : decode cX2_lawSays 117 = .ok (.iconst 0, 1) := by decide +kernel
theorem dX2_lawSays_118 : decode cX2_lawSays 118 = .ok (.ireturn, 1) := by decide +kernel
theorem dX2_lawSays_119 : decode cX2_lawSays 119 = .ok (.aload_n 0, 1) := by decide +kernel
theorem dX2_lawSays_120 : decode cX2_lawSays 120 = .ok (.getfield 29, 3) := by decide +kernel
theorem dX2_lawSays_123 : decode cX2_lawSays 123 = .ok (.iload_n 3, 1) := by decide +kernel
theorem dX2_lawSays_124 : decode cX2_lawSays 124 = .ok (.iconst 1, 1) := by decide +kernel
theorem dX2_lawSays_125 : decode cX2_lawSays 125 = .ok (.isub, 1) := by decide +kernel
theorem dX2_lawSays_126 : decode cX2_lawSays 126 = .ok (.iaload, 1) := by decide +kernel
theorem dX2_lawSays_127 : decode cX2_lawSays 127 = .ok (.i2l, 1) := by decide +kernel
theorem dX2_lawSays_128 : decode cX2_lawSays 128 = .ok (.lstore 7, 2) := by decide +kernel
theorem dX2_lawSays_130 : decode cX2_lawSays 130 = .ok (.iload_n 3, 1) := by decide +kernel
theorem dX2_lawSays_131 : decode cX2_lawSays 131 = .ok (.iload 6, 2) := by decide +kernel
theorem dX2_lawSays_133 : decode cX2_lawSays 133 = .ok (.iconst 1, 1) := by decide +kernel
theorem dX2_lawSays_134 : decode cX2_lawSays 134 = .ok (.isub, 1) := by decide +kernel
theorem dX2_lawSays_135 : decode cX2_lawSays 135 = .ok (.isub, 1) := by decide +kernel
theorem dX2_lawSays_136 : decode cX2_lawSays 136 = .ok (.istore_n 3, 1) := by decide +kernel
theorem dX2_lawSays_137 : decode cX2_lawSays 137 = .ok (.aload_n 0, 1) := by decide +kernel
theorem dX2_lawSays_138 : decode cX2_lawSays 138 = .ok (.getfield 29, 3) := by decide +kernel
theorem dX2_lawSays_141 : decode cX2_lawSays 141 = .ok (.iload_n 3, 1) := by decide +kernel
theorem dX2_lawSays_142 : decode cX2_lawSays 142 = .ok (.iconst 1, 1) := by decide +kernel
theorem dX2_lawSays_143 : decode cX2_lawSays 143 = .ok (.isub, 1) := by decide +kernel
theorem dX2_lawSays_144 : decode cX2_lawSays 144 = .ok (.iaload, 1) := by decide +kernel
theorem dX2_lawSays_145 : decode cX2_lawSays 145 = .ok (.i2l, 1) := by decide +kernel
theorem dX2_lawSays_146 : decode cX2_lawSays 146 = .ok (.lstore 9, 2) := by decide +kernel
theorem dX2_lawSays_148 : decode cX2_lawSays 148 = .ok (.lconst 0, 1) := by decide +kernel
theorem dX2_lawSays_149 : decode cX2_lawSays 149 = .ok (.lstore 11, 2) := by decide +kernel
theorem dX2_lawSays_151 : decode cX2_lawSays 151 = .ok (.iload 5, 2) := by decide +kernel
theorem dX2_lawSays_153 : decode cX2_lawSays 153 = .ok (.lookupswitch 179 #[(2001, 169), (2002, 159), (2042, 95), (2043, 75), (2045, 85), (2060, 123), (2061, 105), (2062, 141)], 75) := by decide +kernel
theorem dX2_lawSays_228 : decode cX2_lawSays 228 = .ok (.lload 9, 2) := by decide +kernel
theorem dX2_lawSays_230 : decode cX2_lawSays 230 = .ok (.lload 7, 2) := by decide +kernel
theorem dX2_lawSays_232 : decode cX2_lawSays 232 = .ok (.ladd, 1) := by decide +kernel
theorem dX2_lawSays_233 : decode cX2_lawSays 233 = .ok (.lstore 11, 2) := by decide +kernel
theorem dX2_lawSays_235 : decode cX2_lawSays 235 = .ok (.goto 103, 3) := by decide +kernel
theorem dX2_lawSays_238 : decode cX2_lawSays 238 = .ok (.lload 9, 2) := by decide +kernel
theorem dX2_lawSays_240 : decode cX2_lawSays 240 = .ok (.lload 7, 2) := by decide +kernel
theorem dX2_lawSays_242 : decode cX2_lawSays 242 = .ok (.lsub, 1) := by decide +kernel
theorem dX2_lawSays_243 : decode cX2_lawSays 243 = .ok (.lstore 11, 2) := by decide +kernel
theorem dX2_lawSays_245 : decode cX2_lawSays 245 = .ok (.goto 93, 3) := by decide +kernel
theorem dX2_lawSays_248 : decode cX2_lawSays 248 = .ok (.lload 9, 2) := by decide +kernel
theorem dX2_lawSays_250 : decode cX2_lawSays 250 = .ok (.lload 7, 2) := by decide +kernel
theorem dX2_lawSays_252 : decode cX2_lawSays 252 = .ok (.lmul, 1) := by decide +kernel
theorem dX2_lawSays_253 : decode cX2_lawSays 253 = .ok (.lstore 11, 2) := by decide +kernel
theorem dX2_lawSays_255 : decode cX2_lawSays 255 = .ok (.goto 83, 3) := by decide +kernel
theorem dX2_lawSays_258 : decode cX2_lawSays 258 = .ok (.lload 9, 2) := by decide +kernel
theorem dX2_lawSays_260 : decode cX2_lawSays 260 = .ok (.lload 7, 2) := by decide +kernel
theorem dX2_lawSays_262 : decode cX2_lawSays 262 = .ok (.lcmp, 1) := by decide +kernel
theorem dX2_lawSays_263 : decode cX2_lawSays 263 = .ok (.ifCond .ne 7, 3) := by decide +kernel
theorem dX2_lawSays_266 : decode cX2_lawSays 266 = .ok (.lconst 1, 1) := by decide +kernel
theorem dX2_lawSays_267 : decode cX2_lawSays 267 = .ok (.goto 4, 3) := by decide +kernel
theorem dX2_lawSays_270 : decode cX2_lawSays 270 = .ok (.lconst 0, 1) := by decide +kernel
theorem dX2_lawSays_271 : decode cX2_lawSays 271 = .ok (.lstore 11, 2) := by decide +kernel
theorem dX2_lawSays_273 : decode cX2_lawSays 273 = .ok (.goto 65, 3) := by decide +kernel
theorem dX2_lawSays_276 : decode cX2_lawSays 276 = .ok (.lload 9, 2) := by decide +kernel
theorem dX2_lawSays_278 : decode cX2_lawSays 278 = .ok (.lload 7, 2) := by decide +kernel
theorem dX2_lawSays_280 : decode cX2_lawSays 280 = .ok (.lcmp, 1) := by decide +kernel
theorem dX2_lawSays_281 : decode cX2_lawSays 281 = .ok (.ifCond .ge 7, 3) := by decide +kernel
theorem dX2_lawSays_284 : decode cX2_lawSays 284 = .ok (.lconst 1, 1) := by decide +kernel
theorem dX2_lawSays_285 : decode cX2_lawSays 285 = .ok (.goto 4, 3) := by decide +kernel
theorem dX2_lawSays_288 : decode cX2_lawSays 288 = .ok (.lconst 0, 1) := by decide +kernel
theorem dX2_lawSays_289 : decode cX2_lawSays 289 = .ok (.lstore 11, 2) := by decide +kernel
theorem dX2_lawSays_291 : decode cX2_lawSays 291 = .ok (.goto 47, 3) := by decide +kernel
theorem dX2_lawSays_294 : decode cX2_lawSays 294 = .ok (.lload 9, 2) := by decide +kernel
theorem dX2_lawSays_296 : decode cX2_lawSays 296 = .ok (.lload 7, 2) := by decide +kernel
theorem dX2_lawSays_298 : decode cX2_lawSays 298 = .ok (.lcmp, 1) := by decide +kernel
theorem dX2_lawSays_299 : decode cX2_lawSays 299 = .ok (.ifCond .le 7, 3) := by decide +kernel
theorem dX2_lawSays_302 : decode cX2_lawSays 302 = .ok (.lconst 1, 1) := by decide +kernel
theorem dX2_lawSays_303 : decode cX2_lawSays 303 = .ok (.goto 4, 3) := by decide +kernel
theorem dX2_lawSays_306 : decode cX2_lawSays 306 = .ok (.lconst 0, 1) := by decide +kernel
theorem dX2_lawSays_307 : decode cX2_lawSays 307 = .ok (.lstore 11, 2) := by decide +kernel
theorem dX2_lawSays_309 : decode cX2_lawSays 309 = .ok (.goto 29, 3) := by decide +kernel
theorem dX2_lawSays_312 : decode cX2_lawSays 312 = .ok (.lload 9, 2) := by decide +kernel
theorem dX2_lawSays_314 : decode cX2_lawSays 314 = .ok (.lload 7, 2) := by decide +kernel
theorem dX2_lawSays_316 : decode cX2_lawSays 316 = .ok (.land, 1) := by decide +kernel
theorem dX2_lawSays_317 : decode cX2_lawSays 317 = .ok (.lstore 11, 2) := by decide +kernel
theorem dX2_lawSays_319 : decode cX2_lawSays 319 = .ok (.goto 19, 3) := by decide +kernel
theorem dX2_lawSays_322 : decode cX2_lawSays 322 = .ok (.lload 9, 2) := by decide +kernel
theorem dX2_lawSays_324 : decode cX2_lawSays 324 = .ok (.lload 7, 2) := by decide +kernel
theorem dX2_lawSays_326 : decode cX2_lawSays 326 = .ok (.lor, 1) := by decide +kernel
theorem dX2_lawSays_327 : decode cX2_lawSays 327 = .ok (.lstore 11, 2) := by decide +kernel
theorem dX2_lawSays_329 : decode cX2_lawSays 329 = .ok (.goto 9, 3) := by decide +kernel
theorem dX2_lawSays_332 : decode cX2_lawSays 332 = .ok (.lconst 1, 1) := by decide +kernel
theorem dX2_lawSays_333 : decode cX2_lawSays 333 = .ok (.lload 9, 2) := by decide +kernel
theorem dX2_lawSays_335 : decode cX2_lawSays 335 = .ok (.lsub, 1) := by decide +kernel
theorem dX2_lawSays_336 : decode cX2_lawSays 336 = .ok (.lstore 11, 2) := by decide +kernel
theorem dX2_lawSays_338 : decode cX2_lawSays 338 = .ok (.aload_n 0, 1) := by decide +kernel
theorem dX2_lawSays_339 : decode cX2_lawSays 339 = .ok (.getfield 29, 3) := by decide +kernel
theorem dX2_lawSays_342 : decode cX2_lawSays 342 = .ok (.iload_n 3, 1) := by decide +kernel
theorem dX2_lawSays_343 : decode cX2_lawSays 343 = .ok (.iconst 1, 1) := by decide +kernel
theorem dX2_lawSays_344 : decode cX2_lawSays 344 = .ok (.isub, 1) := by decide +kernel
theorem dX2_lawSays_345 : decode cX2_lawSays 345 = .ok (.ldc2_w 85, 3) := by decide +kernel
theorem dX2_lawSays_348 : decode cX2_lawSays 348 = .ok (.ldc2_w 87, 3) := by decide +kernel
theorem dX2_lawSays_351 : decode cX2_lawSays 351 = .ok (.lload 11, 2) := by decide +kernel
theorem dX2_lawSays_353 : decode cX2_lawSays 353 = .ok (.invokestatic 89, 3) := by decide +kernel
theorem dX2_lawSays_356 : decode cX2_lawSays 356 = .ok (.invokestatic 93, 3) := by decide +kernel
theorem dX2_lawSays_359 : decode cX2_lawSays 359 = .ok (.l2i, 1) := by decide +kernel
theorem dX2_lawSays_360 : decode cX2_lawSays 360 = .ok (.iastore, 1) := by decide +kernel
theorem dX2_lawSays_361 : decode cX2_lawSays 361 = .ok (.iinc 4 1, 3) := by decide +kernel
theorem dX2_lawSays_364 : decode cX2_lawSays 364 = .ok (.goto (-359), 3) := by decide +kernel
theorem dX2_lawSays_367 : decode cX2_lawSays 367 = .ok (.iload_n 3, 1) := by decide +kernel
theorem dX2_lawSays_368 : decode cX2_lawSays 368 = .ok (.ifCond .le 12, 3) := by decide +kernel
theorem dX2_lawSays_371 : decode cX2_lawSays 371 = .ok (.aload_n 0, 1) := by decide +kernel
theorem dX2_lawSays_372 : decode cX2_lawSays 372 = .ok (.getfield 29, 3) := by decide +kernel
theorem dX2_lawSays_375 : decode cX2_lawSays 375 = .ok (.iconst 0, 1) := by decide +kernel
theorem dX2_lawSays_376 : decode cX2_lawSays 376 = .ok (.iaload, 1) := by decide +kernel
theorem dX2_lawSays_377 : decode cX2_lawSays 377 = .ok (.goto 4, 3) := by decide +kernel
theorem dX2_lawSays_380 : decode cX2_lawSays 380 = .ok (.iconst 0, 1) := by decide +kernel
theorem dX2_lawSays_381 : decode cX2_lawSays 381 = .ok (.ireturn, 1) := by decide +kernel
theorem dX2_carry_0 : decode cX2_carry 0 = .ok (.aload_n 1, 1) := by decide +kernel
theorem dX2_carry_1 : decode cX2_carry 1 = .ok (.getfield 96, 3) := by decide +kernel
theorem dX2_carry_4 : decode cX2_carry 4 = .ok (.ifCond .eq 12, 3) := by decide +kernel
theorem dX2_carry_7 : decode cX2_carry 7 = .ok (.aload_n 1, 1) := by decide +kernel
theorem dX2_carry_8 : decode cX2_carry 8 = .ok (.getfield 96, 3) := by decide +kernel
theorem dX2_carry_11 : decode cX2_carry 11 = .ok (.iconst 1, 1) := by decide +kernel
theorem dX2_carry_12 : decode cX2_carry 12 = .ok (.if_icmp .eq 4, 3) := by decide +kernel
theorem dX2_carry_15 : decode cX2_carry 15 = .ok (.return_, 1) := by decide +kernel
theorem dX2_carry_16 : decode cX2_carry 16 = .ok (.aload_n 0, 1) := by decide +kernel
theorem dX2_carry_17 : decode cX2_carry 17 = .ok (.aload_n 1, 1) := by decide +kernel
theorem dX2_carry_18 : decode cX2_carry 18 = .ok (.iload_n 2, 1) := by decide +kernel
theorem dX2_carry_19 : decode cX2_carry 19 = .ok (.invokevirtual 99, 3) := by decide +kernel
theorem dX2_carry_22 : decode cX2_carry 22 = .ok (.aload_n 1, 1) := by decide +kernel
theorem dX2_carry_23 : decode cX2_carry 23 = .ok (.getfield 96, 3) := by decide +kernel
theorem dX2_carry_26 : decode cX2_carry 26 = .ok (.iconst 3, 1) := by decide +kernel
theorem dX2_carry_27 : decode cX2_carry 27 = .ok (.if_icmp .ne 4, 3) := by decide +kernel
theorem dX2_carry_30 : decode cX2_carry 30 = .ok (.return_, 1) := by decide +kernel
theorem dX2_carry_31 : decode cX2_carry 31 = .ok (.aload_n 1, 1) := by decide +kernel
theorem dX2_carry_32 : decode cX2_carry 32 = .ok (.dup, 1) := by decide +kernel
theorem dX2_carry_33 : decode cX2_carry 33 = .ok (.getfield 103, 3) := by decide +kernel
theorem dX2_carry_36 : decode cX2_carry 36 = .ok (.iconst 1, 1) := by decide +kernel
theorem dX2_carry_37 : decode cX2_carry 37 = .ok (.iadd, 1) := by decide +kernel
theorem dX2_carry_38 : decode cX2_carry 38 = .ok (.putfield 103, 3) := by decide +kernel
theorem dX2_carry_41 : decode cX2_carry 41 = .ok (.aload_n 1, 1) := by decide +kernel
theorem dX2_carry_42 : decode cX2_carry 42 = .ok (.getfield 96, 3) := by decide +kernel
theorem dX2_carry_45 : decode cX2_carry 45 = .ok (.ifCond .ne 32, 3) := by decide +kernel
theorem dX2_carry_48 : decode cX2_carry 48 = .ok (.aload_n 0, 1) := by decide +kernel
theorem dX2_carry_49 : decode cX2_carry 49 = .ok (.getfield 12, 3) := by decide +kernel
theorem dX2_carry_52 : decode cX2_carry 52 = .ok (.getfield 106, 3) := by decide +kernel
theorem dX2_carry_55 : decode cX2_carry 55 = .ok (.ifCond .le 22, 3) := by decide +kernel
theorem dX2_carry_58 : decode cX2_carry 58 = .ok (.aload_n 1, 1) := by decide +kernel
theorem dX2_carry_59 : decode cX2_carry 59 = .ok (.getfield 103, 3) := by decide +kernel
theorem dX2_carry_62 : decode cX2_carry 62 = .ok (.aload_n 0, 1) := by decide +kernel
theorem dX2_carry_63 : decode cX2_carry 63 = .ok (.getfield 12, 3) := by decide +kernel
theorem dX2_carry_66 : decode cX2_carry 66 = .ok (.getfield 106, 3) := by decide +kernel
theorem dX2_carry_69 : decode cX2_carry 69 = .ok (.if_icmp .lt 8, 3) := by decide +kernel
theorem dX2_carry_72 : decode cX2_carry 72 = .ok (.aload_n 1, 1) := by decide +kernel
theorem dX2_carry_73 : decode cX2_carry 73 = .ok (.iconst 4, 1) := by decide +kernel
theorem dX2_carry_74 : decode cX2_carry 74 = .ok (.putfield 96, 3) := by decide +kernel
theorem dX2_carry_77 : decode cX2_carry 77 = .ok (.aload_n 1, 1) := by decide +kernel
theorem dX2_carry_78 : decode cX2_carry 78 = .ok (.getfield 96, 3) := by decide +kernel
theorem dX2_carry_81 : decode cX2_carry 81 = .ok (.iconst 1, 1) := by decide +kernel
theorem dX2_carry_82 : decode cX2_carry 82 = .ok (.if_icmp .ne 9, 3) := by decide +kernel
theorem dX2_carry_85 : decode cX2_carry 85 = .ok (.aload_n 0, 1) := by decide +kernel
theorem dX2_carry_86 : decode cX2_carry 86 = .ok (.aload_n 1, 1) := by decide +kernel
theorem dX2_carry_87 : decode cX2_carry 87 = .ok (.iload_n 2, 1) := by decide +kernel
theorem dX2_carry_88 : decode cX2_carry 88 = .ok (.invokevirtual 109, 3) := by decide +kernel
theorem dX2_carry_91 : decode cX2_carry 91 = .ok (.return_, 1) := by decide +kernel
theorem dX2_go_0 : decode cX2_go 0 = .ok (.aload_n 0, 1) := by decide +kernel
theorem dX2_go_1 : decode cX2_go 1 = .ok (.getfield 12, 3) := by decide +kernel
theorem dX2_go_4 : decode cX2_go 4 = .ok (.iload_n 2, 1) := by decide +kernel
theorem dX2_go_5 : decode cX2_go 5 = .ok (.invokevirtual 66, 3) := by decide +kernel
theorem dX2_go_8 : decode cX2_go 8 = .ok (.istore_n 3, 1) := by decide +kernel
theorem dX2_go_9 : decode cX2_go 9 = .ok (.aload_n 1, 1) := by decide +kernel
theorem dX2_go_10 : decode cX2_go 10 = .ok (.getfield 96, 3) := by decide +kernel
theorem dX2_go_13 : decode cX2_go 13 = .ok (.ifCond .ne 20, 3) := by decide +kernel
theorem dX2_go_16 : decode cX2_go 16 = .ok (.aload_n 0, 1) := by decide +kernel
theorem dX2_go_17 : decode cX2_go 17 = .ok (.aload_n 1, 1) := by decide +kernel
theorem dX2_go_18 : decode cX2_go 18 = .ok (.aload_n 0, 1) := by decide +kernel
theorem dX2_go_19 : decode cX2_go 19 = .ok (.getfield 12, 3) := by decide +kernel
theorem dX2_go_22 : decode cX2_go 22 = .ok (.aload_n 1, 1) := by decide +kernel
theorem dX2_go_23 : decode cX2_go 23 = .ok (.getfield 112, 3) := by decide +kernel
theorem dX2_go_26 : decode cX2_go 26 = .ok (.iload_n 3, 1) := by decide +kernel
theorem dX2_go_27 : decode cX2_go 27 = .ok (.invokevirtual 115, 3) := by decide +kernel
theorem dX2_go_30 : decode cX2_go 30 = .ok (.invokevirtual 118, 3) := by decide +kernel
theorem dX2_go_33 : decode cX2_go 33 = .ok (.aload_n 1, 1) := by decide +kernel
theorem dX2_go_34 : decode cX2_go 34 = .ok (.getfield 96, 3) := by decide +kernel
theorem dX2_go_37 : decode cX2_go 37 = .ok (.ifCond .ne 31, 3) := by decide +kernel
theorem dX2_go_40 : decode cX2_go 40 = .ok (.aload_n 0, 1) := by decide +kernel
theorem dX2_go_41 : decode cX2_go 41 = .ok (.getfield 12, 3) := by decide +kernel
theorem dX2_go_44 : decode cX2_go 44 = .ok (.iload_n 2, 1) := by decide +kernel
theorem dX2_go_45 : decode cX2_go 45 = .ok (.invokevirtual 121, 3) := by decide +kernel
theorem dX2_go_48 : decode cX2_go 48 = .ok (.ifCond .eq 20, 3) := by decide +kernel
theorem dX2_go_51 : decode cX2_go 51 = .ok (.aload_n 0, 1) := by decide +kernel
theorem dX2_go_52 : decode cX2_go 52 = .ok (.aload_n 1, 1) := by decide +kernel
theorem dX2_go_53 : decode cX2_go 53 = .ok (.aload_n 0, 1) := by decide +kernel
theorem dX2_go_54 : decode cX2_go 54 = .ok (.getfield 12, 3) := by decide +kernel
theorem dX2_go_57 : decode cX2_go 57 = .ok (.aload_n 1, 1) := by decide +kernel
theorem dX2_go_58 : decode cX2_go 58 = .ok (.getfield 112, 3) := by decide +kernel
theorem dX2_go_61 : decode cX2_go 61 = .ok (.iload_n 3, 1) := by decide +kernel
theorem dX2_go_62 : decode cX2_go 62 = .ok (.invokevirtual 115, 3) := by decide +kernel
theorem dX2_go_65 : decode cX2_go 65 = .ok (.invokevirtual 118, 3) := by decide +kernel
theorem dX2_go_68 : decode cX2_go 68 = .ok (.aload_n 1, 1) := by decide +kernel
theorem dX2_go_69 : decode cX2_go 69 = .ok (.getfield 96, 3) := by decide +kernel
theorem dX2_go_72 : decode cX2_go 72 = .ok (.ifCond .ne 24, 3) := by decide +kernel
theorem dX2_go_75 : decode cX2_go 75 = .ok (.aload_n 1, 1) := by decide +kernel
theorem dX2_go_76 : decode cX2_go 76 = .ok (.getfield 124, 3) := by decide +kernel
theorem dX2_go_79 : decode cX2_go 79 = .ok (.ifCond .ne 17, 3) := by decide +kernel
theorem dX2_go_82 : decode cX2_go 82 = .ok (.aload_n 0, 1) := by decide +kernel
theorem dX2_go_83 : decode cX2_go 83 = .ok (.aload_n 1, 1) := by decide +kernel
theorem dX2_go_84 : decode cX2_go 84 = .ok (.aload_n 0, 1) := by decide +kernel
theorem dX2_go_85 : decode cX2_go 85 = .ok (.aload_n 1, 1) := by decide +kernel
theorem dX2_go_86 : decode cX2_go 86 = .ok (.getfield 112, 3) := by decide +kernel
theorem dX2_go_89 : decode cX2_go 89 = .ok (.iload_n 2, 1) := by decide +kernel
theorem dX2_go_90 : decode cX2_go 90 = .ok (.invokevirtual 128, 3) := by decide +kernel
theorem dX2_go_93 : decode cX2_go 93 = .ok (.invokevirtual 118, 3) := by decide +kernel
theorem dX2_go_96 : decode cX2_go 96 = .ok (.return_, 1) := by decide +kernel
theorem dX2_step_0 : decode cX2_step 0 = .ok (.aload_n 0, 1) := by decide +kernel
theorem dX2_step_1 : decode cX2_step 1 = .ok (.getfield 12, 3) := by decide +kernel
theorem dX2_step_4 : decode cX2_step 4 = .ok (.aload_n 1, 1) := by decide +kernel
theorem dX2_step_5 : decode cX2_step 5 = .ok (.getfield 112, 3) := by decide +kernel
theorem dX2_step_8 : decode cX2_step 8 = .ok (.iload_n 2, 1) := by decide +kernel
theorem dX2_step_9 : decode cX2_step 9 = .ok (.invokevirtual 131, 3) := by decide +kernel
theorem dX2_step_12 : decode cX2_step 12 = .ok (.istore_n 3, 1) := by decide +kernel
theorem dX2_step_13 : decode cX2_step 13 = .ok (.aload_n 0, 1) := by decide +kernel
theorem dX2_step_14 : decode cX2_step 14 = .ok (.getfield 12, 3) := by decide +kernel
theorem dX2_step_17 : decode cX2_step 17 = .ok (.iload_n 3, 1) := by decide +kernel
theorem dX2_step_18 : decode cX2_step 18 = .ok (.invokevirtual 53, 3) := by decide +kernel
theorem dX2_step_21 : decode cX2_step 21 = .ok (.ifCond .ne 4, 3) := by decide +kernel
theorem dX2_step_24 : decode cX2_step 24 = .ok (.return_, 1) := by decide +kernel
theorem dX2_step_25 : decode cX2_step 25 = .ok (.aload_n 1, 1) := by decide +kernel
theorem dX2_step_26 : decode cX2_step 26 = .ok (.iload_n 3, 1) := by decide +kernel
theorem dX2_step_27 : decode cX2_step 27 = .ok (.putfield 112, 3) := by decide +kernel
theorem dX2_step_30 : decode cX2_step 30 = .ok (.aload_n 0, 1) := by decide +kernel
theorem dX2_step_31 : decode cX2_step 31 = .ok (.getfield 12, 3) := by decide +kernel
theorem dX2_step_34 : decode cX2_step 34 = .ok (.getfield 134, 3) := by decide +kernel
theorem dX2_step_37 : decode cX2_step 37 = .ok (.iload_n 3, 1) := by decide +kernel
theorem dX2_step_38 : decode cX2_step 38 = .ok (.iaload, 1) := by decide +kernel
theorem dX2_step_39 : decode cX2_step 39 = .ok (.iconst 1, 1) := by decide +kernel
theorem dX2_step_40 : decode cX2_step 40 = .ok (.if_icmp .ne 11, 3) := by decide +kernel
theorem dX2_step_43 : decode cX2_step 43 = .ok (.aload_n 1, 1) := by decide +kernel
theorem dX2_step_44 : decode cX2_step 44 = .ok (.iconst 3, 1) := by decide +kernel
theorem dX2_step_45 : decode cX2_step 45 = .ok (.putfield 96, 3) := by decide +kernel
theorem dX2_step_48 : decode cX2_step 48 = .ok (.goto 22, 3) := by decide +kernel
theorem dX2_step_51 : decode cX2_step 51 = .ok (.aload_n 0, 1) := by decide +kernel
theorem dX2_step_52 : decode cX2_step 52 = .ok (.getfield 12, 3) := by decide +kernel
theorem dX2_step_55 : decode cX2_step 55 = .ok (.getfield 134, 3) := by decide +kernel
theorem dX2_step_58 : decode cX2_step 58 = .ok (.iload_n 3, 1) := by decide +kernel
theorem dX2_step_59 : decode cX2_step 59 = .ok (.iaload, 1) := by decide +kernel
theorem dX2_step_60 : decode cX2_step 60 = .ok (.bipush 10, 2) := by decide +kernel
theorem dX2_step_62 : decode cX2_step 62 = .ok (.if_icmp .lt 8, 3) := by decide +kernel
theorem dX2_step_65 : decode cX2_step 65 = .ok (.aload_n 1, 1) := by decide +kernel
theorem dX2_step_66 : decode cX2_step 66 = .ok (.iconst 1, 1) := by decide +kernel
theorem dX2_step_67 : decode cX2_step 67 = .ok (.putfield 96, 3) := by decide +kernel
theorem dX2_step_70 : decode cX2_step 70 = .ok (.return_, 1) := by decide +kernel
theorem dX2_find_0 : decode cX2_find 0 = .ok (.aload_n 0, 1) := by decide +kernel
theorem dX2_find_1 : decode cX2_find 1 = .ok (.getfield 12, 3) := by decide +kernel
theorem dX2_find_4 : decode cX2_find 4 = .ok (.aload_n 1, 1) := by decide +kernel
theorem dX2_find_5 : decode cX2_find 5 = .ok (.getfield 112, 3) := by decide +kernel
theorem dX2_find_8 : decode cX2_find 8 = .ok (.invokevirtual 53, 3) := by decide +kernel
theorem dX2_find_11 : decode cX2_find 11 = .ok (.ifCond .eq 21, 3) := by decide +kernel
theorem dX2_find_14 : decode cX2_find 14 = .ok (.aload_n 0, 1) := by decide +kernel
theorem dX2_find_15 : decode cX2_find 15 = .ok (.getfield 12, 3) := by decide +kernel
theorem dX2_find_18 : decode cX2_find 18 = .ok (.getfield 134, 3) := by decide +kernel
theorem dX2_find_21 : decode cX2_find 21 = .ok (.aload_n 1, 1) := by decide +kernel
theorem dX2_find_22 : decode cX2_find 22 = .ok (.getfield 112, 3) := by decide +kernel
theorem dX2_find_25 : decode cX2_find 25 = .ok (.iaload, 1) := by decide +kernel
theorem dX2_find_26 : decode cX2_find 26 = .ok (.bipush 10, 2) := by decide +kernel
theorem dX2_find_28 : decode cX2_find 28 = .ok (.isub, 1) := by decide +kernel
theorem dX2_find_29 : decode cX2_find 29 = .ok (.goto 4, 3) := by decide +kernel
theorem dX2_find_32 : decode cX2_find 32 = .ok (.iconst (-1), 1) := by decide +kernel
theorem dX2_find_33 : decode cX2_find 33 = .ok (.istore_n 3, 1) := by decide +kernel
theorem dX2_find_34 : decode cX2_find 34 = .ok (.aload_n 0, 1) := by decide +kernel
theorem dX2_find_35 : decode cX2_find 35 = .ok (.getfield 12, 3) := by decide +kernel
theorem dX2_find_38 : decode cX2_find 38 = .ok (.iload_n 2, 1) := by decide +kernel
theorem dX2_find_39 : decode cX2_find 39 = .ok (.invokevirtual 66, 3) := by decide +kernel
theorem dX2_find_42 : decode cX2_find 42 = .ok (.istore 4, 2) := by decide +kernel
theorem dX2_find_44 : decode cX2_find 44 = .ok (.aload_n 0, 1) := by decide +kernel
theorem dX2_find_45 : decode cX2_find 45 = .ok (.getfield 12, 3) := by decide +kernel
theorem dX2_find_48 : decode cX2_find 48 = .ok (.iload_n 3, 1) := by decide +kernel
theorem dX2_find_49 : decode cX2_find 49 = .ok (.invokevirtual 137, 3) := by decide +kernel
theorem dX2_find_52 : decode cX2_find 52 = .ok (.ifCond .eq 28, 3) := by decide +kernel
theorem dX2_find_55 : decode cX2_find 55 = .ok (.iload_n 3, 1) := by decide +kernel
theorem dX2_find_56 : decode cX2_find 56 = .ok (.aload_n 0, 1) := by decide +kernel
theorem dX2_find_57 : decode cX2_find 57 = .ok (.getfield 32, 3) := by decide +kernel
theorem dX2_find_60 : decode cX2_find 60 = .ok (.if_icmp .eq 20, 3) := by decide +kernel
theorem dX2_find_63 : decode cX2_find 63 = .ok (.aload_n 0, 1) := by decide +kernel
theorem dX2_find_64 : decode cX2_find 64 = .ok (.getfield 12, 3) := by decide +kernel
theorem dX2_find_67 : decode cX2_find 67 = .ok (.getfield 140, 3) := by decide +kernel
theorem dX2_find_70 : decode cX2_find 70 = .ok (.iload_n 3, 1) := by decide +kernel
theorem dX2_find_71 : decode cX2_find 71 = .ok (.iaload, 1) := by decide +kernel
theorem dX2_find_72 : decode cX2_find 72 = .ok (.iload 4, 2) := by decide +kernel
theorem dX2_find_74 : decode cX2_find 74 = .ok (.ishr, 1) := by decide +kernel
theorem dX2_find_75 : decode cX2_find 75 = .ok (.iconst 1, 1) := by decide +kernel
theorem dX2_find_76 : decode cX2_find 76 = .ok (.iand, 1) := by decide +kernel
theorem dX2_find_77 : decode cX2_find 77 = .ok (.ifCond .ne 4, 3) := by decide +kernel
theorem dX2_find_80 : decode cX2_find 80 = .ok (.return_, 1) := by decide +kernel
theorem dX2_find_81 : decode cX2_find 81 = .ok (.aload_n 1, 1) := by decide +kernel
theorem dX2_find_82 : decode cX2_find 82 = .ok (.getfield 143, 3) := by decide +kernel
theorem dX2_find_85 : decode cX2_find 85 = .ok (.iconst (-1), 1) := by decide +kernel
theorem dX2_find_86 : decode cX2_find 86 = .ok (.if_icmp .eq 22, 3) := by decide +kernel
theorem dX2_find_89 : decode cX2_find 89 = .ok (.aload_n 1, 1) := by decide +kernel
theorem dX2_find_90 : decode cX2_find 90 = .ok (.getfield 143, 3) := by decide +kernel
theorem dX2_find_93 : decode cX2_find 93 = .ok (.iload_n 3, 1) := by decide +kernel
theorem dX2_find_94 : decode cX2_find 94 = .ok (.if_icmp .eq 14, 3) := by decide +kernel
theorem dX2_find_97 : decode cX2_find 97 = .ok (.aload_n 0, 1) := by decide +kernel
theorem dX2_find_98 : decode cX2_find 98 = .ok (.aload_n 1, 1) := by decide +kernel
theorem dX2_find_99 : decode cX2_find 99 = .ok (.iload_n 3, 1) := by decide +kernel
theorem dX2_find_100 : decode cX2_find 100 = .ok (.iload 4, 2) := by decide +kernel
theorem dX2_find_102 : decode cX2_find 102 = .ok (.invokevirtual 146, 3) := by decide +kernel
theorem dX2_find_105 : decode cX2_find 105 = .ok (.ifCond .eq 14, 3) := by decide +kernel
theorem dX2_find_108 : decode cX2_find 108 = .ok (.aload_n 1, 1) := by decide +kernel
theorem dX2_find_109 : decode cX2_find 109 = .ok (.iconst 2, 1) := by decide +kernel
theorem dX2_find_110 : decode cX2_find 110 = .ok (.putfield 96, 3) := by decide +kernel
theorem dX2_find_113 : decode cX2_find 113 = .ok (.aload_n 1, 1) := by decide +kernel
theorem dX2_find_114 : decode cX2_find 114 = .ok (.iload_n 3, 1) := by decide +kernel
theorem dX2_find_115 : decode cX2_find 115 = .ok (.putfield 150, 3) := by decide +kernel
theorem dX2_find_118 : decode cX2_find 118 = .ok (.return_, 1) := by decide +kernel
theorem dX2_find_119 : decode cX2_find 119 = .ok (.aload_n 1, 1) := by decide +kernel
theorem dX2_find_120 : decode cX2_find 120 = .ok (.dup, 1) := by decide +kernel
theorem dX2_find_121 : decode cX2_find 121 = .ok (.getfield 153, 3) := by decide +kernel
theorem dX2_find_124 : decode cX2_find 124 = .ok (.iconst 1, 1) := by decide +kernel
theorem dX2_find_125 : decode cX2_find 125 = .ok (.iadd, 1) := by decide +kernel
theorem dX2_find_126 : decode cX2_find 126 = .ok (.putfield 153, 3) := by decide +kernel
theorem dX2_find_129 : decode cX2_find 129 = .ok (.aload_n 0, 1) := by decide +kernel
theorem dX2_find_130 : decode cX2_find 130 = .ok (.getfield 12, 3) := by decide +kernel
theorem dX2_find_133 : decode cX2_find 133 = .ok (.iload_n 3, 1) := by decide +kernel
theorem dX2_find_134 : decode cX2_find 134 = .ok (.invokevirtual 156, 3) := by decide +kernel
theorem dX2_find_137 : decode cX2_find 137 = .ok (.istore 5, 2) := by decide +kernel
theorem dX2_find_139 : decode cX2_find 139 = .ok (.iload 5, 2) := by decide +kernel
theorem dX2_find_141 : decode cX2_find 141 = .ok (.iconst (-1), 1) := by decide +kernel
theorem dX2_find_142 : decode cX2_find 142 = .ok (.if_icmp .eq 14, 3) := by decide +kernel
theorem dX2_find_145 : decode cX2_find 145 = .ok (.aload_n 1, 1) := by decide +kernel
theorem dX2_find_146 : decode cX2_find 146 = .ok (.iconst 0, 1) := by decide +kernel
theorem dX2_find_147 : decode cX2_find 147 = .ok (.putfield 96, 3) := by decide +kernel
theorem dX2_find_150 : decode cX2_find 150 = .ok (.aload_n 1, 1) := by decide +kernel
theorem dX2_find_151 : decode cX2_find 151 = .ok (.iload 5, 2) := by decide +kernel
theorem dX2_find_153 : decode cX2_find 153 = .ok (.putfield 112, 3) := by decide +kernel
theorem dX2_find_156 : decode cX2_find 156 = .ok (.return_, 1) := by decide +kernel
theorem dX2_keepsIt_0 : decode cX2_keepsIt 0 = .ok (.aload_n 0, 1) := by decide +kernel
theorem dX2_keepsIt_1 : decode cX2_keepsIt 1 = .ok (.getfield 12, 3) := by decide +kernel
theorem dX2_keepsIt_4 : decode cX2_keepsIt 4 = .ok (.getfield 159, 3) := by decide +kernel
theorem dX2_keepsIt_7 : decode cX2_keepsIt 7 = .ok (.aload_n 0, 1) := by decide +kernel
theorem dX2_keepsIt_8 : decode cX2_keepsIt 8 = .ok (.getfield 12, 3) := by decide +kernel
theorem dX2_keepsIt_11 : decode cX2_keepsIt 11 = .ok (.getfield 162, 3) := by decide +kernel
theorem dX2_keepsIt_14 : decode cX2_keepsIt 14 = .ok (.if_icmp .lt 5, 3) := by decide +kernel
theorem dX2_keepsIt_17 : decode cX2_keepsIt 17 = .ok (.iconst 0, 1) := by decide +kernel
theorem dX2_keepsIt_18 : decode cX2_keepsIt 18 = .ok (.ireturn, 1) := by decide +kernel
theorem dX2_keepsIt_19 : decode cX2_keepsIt 19 = .ok (.aload_n 0, 1) := by decide +kernel
theorem dX2_keepsIt_20 : decode cX2_keepsIt 20 = .ok (.getfield 25, 3) := by decide +kernel
theorem dX2_keepsIt_23 : decode cX2_keepsIt 23 = .ok (.iconst 0, 1) := by decide +kernel
theorem dX2_keepsIt_24 : decode cX2_keepsIt 24 = .ok (.aload_n 1, 1) := by decide +kernel
theorem dX2_keepsIt_25 : decode cX2_keepsIt 25 = .ok (.getfield 165, 3) := by decide +kernel
theorem dX2_keepsIt_28 : decode cX2_keepsIt 28 = .ok (.iastore, 1) := by decide +kernel
theorem dX2_keepsIt_29 : decode cX2_keepsIt 29 = .ok (.aload_n 0, 1) := by decide +kernel
theorem dX2_keepsIt_30 : decode cX2_keepsIt 30 = .ok (.getfield 25, 3) := by decide +kernel
theorem dX2_keepsIt_33 : decode cX2_keepsIt 33 = .ok (.iconst 1, 1) := by decide +kernel
theorem dX2_keepsIt_34 : decode cX2_keepsIt 34 = .ok (.aload_n 1, 1) := by decide +kernel
theorem dX2_keepsIt_35 : decode cX2_keepsIt 35 = .ok (.getfield 143, 3) := by decide +kernel
theorem dX2_keepsIt_38 : decode cX2_keepsIt 38 = .ok (.iastore, 1) := by decide +kernel
theorem dX2_keepsIt_39 : decode cX2_keepsIt 39 = .ok (.aload_n 0, 1) := by decide +kernel
theorem dX2_keepsIt_40 : decode cX2_keepsIt 40 = .ok (.getfield 25, 3) := by decide +kernel
theorem dX2_keepsIt_43 : decode cX2_keepsIt 43 = .ok (.iconst 2, 1) := by decide +kernel
theorem dX2_keepsIt_44 : decode cX2_keepsIt 44 = .ok (.iload_n 2, 1) := by decide +kernel
theorem dX2_keepsIt_45 : decode cX2_keepsIt 45 = .ok (.iastore, 1) := by decide +kernel
theorem dX2_keepsIt_46 : decode cX2_keepsIt 46 = .ok (.aload_n 0, 1) := by decide +kernel
theorem dX2_keepsIt_47 : decode cX2_keepsIt 47 = .ok (.getfield 25, 3) := by decide +kernel
theorem dX2_keepsIt_50 : decode cX2_keepsIt 50 = .ok (.iconst 3, 1) := by decide +kernel
theorem dX2_keepsIt_51 : decode cX2_keepsIt 51 = .ok (.aload_n 1, 1) := by decide +kernel
theorem dX2_keepsIt_52 : decode cX2_keepsIt 52 = .ok (.getfield 103, 3) := by decide +kernel
theorem dX2_keepsIt_55 : decode cX2_keepsIt 55 = .ok (.iastore, 1) := by decide +kernel
theorem dX2_keepsIt_56 : decode cX2_keepsIt 56 = .ok (.aload_n 0, 1) := by decide +kernel
theorem dX2_keepsIt_57 : decode cX2_keepsIt 57 = .ok (.getfield 25, 3) := by decide +kernel
theorem dX2_keepsIt_60 : decode cX2_keepsIt 60 = .ok (.iconst 4, 1) := by decide +kernel
theorem dX2_keepsIt_61 : decode cX2_keepsIt 61 = .ok (.aload_n 1, 1) := by decide +kernel
theorem dX2_keepsIt_62 : decode cX2_keepsIt 62 = .ok (.getfield 153, 3) := by decide +kernel
theorem dX2_keepsIt_65 : decode cX2_keepsIt 65 = .ok (.iastore, 1) := by decide +kernel
theorem dX2_keepsIt_66 : decode cX2_keepsIt 66 = .ok (.aload_n 0, 1) := by decide +kernel
theorem dX2_keepsIt_67 : decode cX2_keepsIt 67 = .ok (.getfield 25, 3) := by decide +kernel
theorem dX2_keepsIt_70 : decode cX2_keepsIt 70 = .ok (.iconst 5, 1) := by decide +kernel
theorem dX2_keepsIt_71 : decode cX2_keepsIt 71 = .ok (.aload_n 1, 1) := by decide +kernel
theorem dX2_keepsIt_72 : decode cX2_keepsIt 72 = .ok (.getfield 124, 3) := by decide +kernel
theorem dX2_keepsIt_75 : decode cX2_keepsIt 75 = .ok (.ifCond .eq 7, 3) := by decide +kernel
theorem dX2_keepsIt_78 : decode cX2_keepsIt 78 = .ok (.iconst 1, 1) := by decide +kernel
theorem dX2_keepsIt_79 : decode cX2_keepsIt 79 = .ok (.goto 4, 3) := by decide +kernel
theorem dX2_keepsIt_82 : decode cX2_keepsIt 82 = .ok (.iconst 0, 1) := by decide +kernel
theorem dX2_keepsIt_83 : decode cX2_keepsIt 83 = .ok (.iastore, 1) := by decide +kernel
theorem dX2_keepsIt_84 : decode cX2_keepsIt 84 = .ok (.aload_n 0, 1) := by decide +kernel
theorem dX2_keepsIt_85 : decode cX2_keepsIt 85 = .ok (.getfield 25, 3) := by decide +kernel
theorem dX2_keepsIt_88 : decode cX2_keepsIt 88 = .ok (.bipush 6, 2) := by decide +kernel
theorem dX2_keepsIt_90 : decode cX2_keepsIt 90 = .ok (.iload_n 3, 1) := by decide +kernel
theorem dX2_keepsIt_91 : decode cX2_keepsIt 91 = .ok (.iastore, 1) := by decide +kernel
theorem dX2_keepsIt_92 : decode cX2_keepsIt 92 = .ok (.aload_n 0, 1) := by decide +kernel
theorem dX2_keepsIt_93 : decode cX2_keepsIt 93 = .ok (.aload_n 0, 1) := by decide +kernel
theorem dX2_keepsIt_94 : decode cX2_keepsIt 94 = .ok (.getfield 12, 3) := by decide +kernel
theorem dX2_keepsIt_97 : decode cX2_keepsIt 97 = .ok (.getfield 159, 3) := by decide +kernel
theorem dX2_keepsIt_100 : decode cX2_keepsIt 100 = .ok (.aload_n 0, 1) := by decide +kernel
theorem dX2_keepsIt_101 : decode cX2_keepsIt 101 = .ok (.getfield 12, 3) := by decide +kernel
theorem dX2_keepsIt_104 : decode cX2_keepsIt 104 = .ok (.getfield 162, 3) := by decide +kernel
theorem dX2_keepsIt_107 : decode cX2_keepsIt 107 = .ok (.invokevirtual 73, 3) := by decide +kernel
theorem dX2_keepsIt_110 : decode cX2_keepsIt 110 = .ok (.ifCond .eq 7, 3) := by decide +kernel
theorem dX2_keepsIt_113 : decode cX2_keepsIt 113 = .ok (.iconst 1, 1) := by decide +kernel
theorem dX2_keepsIt_114 : decode cX2_keepsIt 114 = .ok (.goto 4, 3) := by decide +kernel
theorem dX2_keepsIt_117 : decode cX2_keepsIt 117 = .ok (.iconst 0, 1) := by decide +kernel
theorem dX2_keepsIt_118 : decode cX2_keepsIt 118 = .ok (.ireturn, 1) := by decide +kernel
theorem dX2_settle_0 : decode cX2_settle 0 = .ok (.iconst 0, 1) := by decide +kernel
theorem dX2_settle_1 : decode cX2_settle 1 = .ok (.istore_n 3, 1) := by decide +kernel
theorem dX2_settle_2 : decode cX2_settle 2 = .ok (.iload_n 3, 1) := by decide +kernel
theorem dX2_settle_3 : decode cX2_settle 3 = .ok (.sipush 200, 3) := by decide +kernel
theorem dX2_settle_6 : decode cX2_settle 6 = .ok (.if_icmp .ge 34, 3) := by decide +kernel
theorem dX2_settle_9 : decode cX2_settle 9 = .ok (.aload_n 1, 1) := by decide +kernel
theorem dX2_settle_10 : decode cX2_settle 10 = .ok (.getfield 96, 3) := by decide +kernel
theorem dX2_settle_13 : decode cX2_settle 13 = .ok (.ifCond .eq 13, 3) := by decide +kernel
theorem dX2_settle_16 : decode cX2_settle 16 = .ok (.aload_n 1, 1) := by decide +kernel
theorem dX2_settle_17 : decode cX2_settle 17 = .ok (.getfield 96, 3) := by decide +kernel
theorem dX2_settle_20 : decode cX2_settle 20 = .ok (.iconst 1, 1) := by decide +kernel
theorem dX2_settle_21 : decode cX2_settle 21 = .ok (.if_icmp .eq 5, 3) := by decide +kernel
theorem dX2_settle_24 : decode cX2_settle 24 = .ok (.iload_n 3, 1) := by decide +kernel
theorem dX2_settle_25 : decode cX2_settle 25 = .ok (.ireturn, 1) := by decide +kernel
theorem dX2_settle_26 : decode cX2_settle 26 = .ok (.aload_n 0, 1) := by decide +kernel
theorem dX2_settle_27 : decode cX2_settle 27 = .ok (.aload_n 1, 1) := by decide +kernel
theorem dX2_settle_28 : decode cX2_settle 28 = .ok (.iload_n 2, 1) := by decide +kernel
theorem dX2_settle_29 : decode cX2_settle 29 = .ok (.iload_n 3, 1) := by decide +kernel
theorem dX2_settle_30 : decode cX2_settle 30 = .ok (.iadd, 1) := by decide +kernel
theorem dX2_settle_31 : decode cX2_settle 31 = .ok (.invokevirtual 168, 3) := by decide +kernel
theorem dX2_settle_34 : decode cX2_settle 34 = .ok (.iinc 3 1, 3) := by decide +kernel
theorem dX2_settle_37 : decode cX2_settle 37 = .ok (.goto (-35), 3) := by decide +kernel
theorem dX2_settle_40 : decode cX2_settle 40 = .ok (.aload_n 1, 1) := by decide +kernel
theorem dX2_settle_41 : decode cX2_settle 41 = .ok (.getfield 96, 3) := by decide +kernel
theorem dX2_settle_44 : decode cX2_settle 44 = .ok (.ifCond .eq 17, 3) := by decide +kernel
theorem dX2_settle_47 : decode cX2_settle 47 = .ok (.aload_n 1, 1) := by decide +kernel
theorem dX2_settle_48 : decode cX2_settle 48 = .ok (.getfield 96, 3) := by decide +kernel
theorem dX2_settle_51 : decode cX2_settle 51 = .ok (.iconst 1, 1) := by decide +kernel
theorem dX2_settle_52 : decode cX2_settle 52 = .ok (.if_icmp .eq 9, 3) := by decide +kernel
theorem dX2_settle_55 : decode cX2_settle 55 = .ok (.sipush 200, 3) := by decide +kernel
theorem dX2_settle_58 : decode cX2_settle 58 = .ok (.goto 4, 3) := by decide +kernel
theorem dX2_settle_61 : decode cX2_settle 61 = .ok (.iconst (-1), 1) := by decide +kernel
theorem dX2_settle_62 : decode cX2_settle 62 = .ok (.ireturn, 1) := by decide +kernel
theorem dX2_trail_0 : decode cX2_trail 0 = .ok (.lconst 0, 1) := by decide +kernel
theorem dX2_trail_1 : decode cX2_trail 1 = .ok (.lstore 4, 2) := by decide +kernel
theorem dX2_trail_3 : decode cX2_trail 3 = .ok (.iconst 0, 1) := by decide +kernel
theorem dX2_trail_4 : decode cX2_trail 4 = .ok (.istore 6, 2) := by decide +kernel
theorem dX2_trail_6 : decode cX2_trail 6 = .ok (.iload 6, 2) := by decide +kernel
theorem dX2_trail_8 : decode cX2_trail 8 = .ok (.iload_n 3, 1) := by decide +kernel
theorem dX2_trail_9 : decode cX2_trail 9 = .ok (.if_icmp .gt 43, 3) := by decide +kernel
theorem dX2_trail_12 : decode cX2_trail 12 = .ok (.iload 6, 2) := by decide +kernel
theorem dX2_trail_14 : decode cX2_trail 14 = .ok (.ifCond .le 14, 3) := by decide +kernel
theorem dX2_trail_17 : decode cX2_trail 17 = .ok (.aload_n 0, 1) := by decide +kernel
theorem dX2_trail_18 : decode cX2_trail 18 = .ok (.aload_n 1, 1) := by decide +kernel
theorem dX2_trail_19 : decode cX2_trail 19 = .ok (.iload_n 2, 1) := by decide +kernel
theorem dX2_trail_20 : decode cX2_trail 20 = .ok (.iload 6, 2) := by decide +kernel
theorem dX2_trail_22 : decode cX2_trail 22 = .ok (.iadd, 1) := by decide +kernel
theorem dX2_trail_23 : decode cX2_trail 23 = .ok (.iconst 1, 1) := by decide +kernel
theorem dX2_trail_24 : decode cX2_trail 24 = .ok (.isub, 1) := by decide +kernel
theorem dX2_trail_25 : decode cX2_trail 25 = .ok (.invokevirtual 168, 3) := by decide +kernel
theorem dX2_trail_28 : decode cX2_trail 28 = .ok (.aload_n 1, 1) := by decide +kernel
theorem dX2_trail_29 : decode cX2_trail 29 = .ok (.getfield 96, 3) := by decide +kernel
theorem dX2_trail_32 : decode cX2_trail 32 = .ok (.ifCond .ne 14, 3) := by decide +kernel
theorem dX2_trail_35 : decode cX2_trail 35 = .ok (.lload 4, 2) := by decide +kernel
theorem dX2_trail_37 : decode cX2_trail 37 = .ok (.lconst 1, 1) := by decide +kernel
theorem dX2_trail_38 : decode cX2_trail 38 = .ok (.aload_n 1, 1) := by decide +kernel
theorem dX2_trail_39 : decode cX2_trail 39 = .ok (.getfield 112, 3) := by decide +kernel
theorem dX2_trail_42 : decode cX2_trail 42 = .ok (.lshl, 1) := by decide +kernel
theorem dX2_trail_43 : decode cX2_trail 43 = .ok (.lor, 1) := by decide +kernel
theorem dX2_trail_44 : decode cX2_trail 44 = .ok (.lstore 4, 2) := by decide +kernel
theorem dX2_trail_46 : decode cX2_trail 46 = .ok (.iinc 6 1, 3) := by decide +kernel
theorem dX2_trail_49 : decode cX2_trail 49 = .ok (.goto (-43), 3) := by decide +kernel
theorem dX2_trail_52 : decode cX2_trail 52 = .ok (.lload 4, 2) := by decide +kernel
theorem dX2_trail_54 : decode cX2_trail 54 = .ok (.lreturn, 1) := by decide +kernel
theorem dX2_outcome_0 : decode cX2_outcome 0 = .ok (.aload_n 0, 1) := by decide +kernel
theorem dX2_outcome_1 : decode cX2_outcome 1 = .ok (.getfield 12, 3) := by decide +kernel
theorem dX2_outcome_4 : decode cX2_outcome 4 = .ok (.iload_n 1, 1) := by decide +kernel
theorem dX2_outcome_5 : decode cX2_outcome 5 = .ok (.invokevirtual 156, 3) := by decide +kernel
theorem dX2_outcome_8 : decode cX2_outcome 8 = .ok (.istore 5, 2) := by decide +kernel
theorem dX2_outcome_10 : decode cX2_outcome 10 = .ok (.iload 5, 2) := by decide +kernel
theorem dX2_outcome_12 : decode cX2_outcome 12 = .ok (.iconst (-1), 1) := by decide +kernel
theorem dX2_outcome_13 : decode cX2_outcome 13 = .ok (.if_icmp .ne 5, 3) := by decide +kernel
theorem dX2_outcome_16 : decode cX2_outcome 16 = .ok (.iconst 1, 1) := by decide +kernel
theorem dX2_outcome_17 : decode cX2_outcome 17 = .ok (.ireturn, 1) := by decide +kernel
theorem dX2_outcome_18 : decode cX2_outcome 18 = .ok (.aload_n 0, 1) := by decide +kernel
theorem dX2_outcome_19 : decode cX2_outcome 19 = .ok (.getfield 46, 3) := by decide +kernel
theorem dX2_outcome_22 : decode cX2_outcome 22 = .ok (.ifnonnull 12, 3) := by decide +kernel
theorem dX2_outcome_25 : decode cX2_outcome 25 = .ok (.aload_n 0, 1) := by decide +kernel
theorem dX2_outcome_26 : decode cX2_outcome 26 = .ok (.sipush 12960, 3) := by decide +kernel
theorem dX2_outcome_29 : decode cX2_outcome 29 = .ok (.newarray .short, 2) := by decide +kernel
theorem dX2_outcome_31 : decode cX2_outcome 31 = .ok (.putfield 46, 3) := by decide +kernel
theorem dX2_outcome_34 : decode cX2_outcome 34 = .ok (.iload_n 1, 1) := by decide +kernel
theorem dX2_outcome_35 : decode cX2_outcome 35 = .ok (.bipush 6, 2) := by decide +kernel
theorem dX2_outcome_37 : decode cX2_outcome 37 = .ok (.imul, 1) := by decide +kernel
theorem dX2_outcome_38 : decode cX2_outcome 38 = .ok (.iload_n 2, 1) := by decide +kernel
theorem dX2_outcome_39 : decode cX2_outcome 39 = .ok (.iconst (-1), 1) := by decide +kernel
theorem dX2_outcome_40 : decode cX2_outcome 40 = .ok (.if_icmp .ne 7, 3) := by decide +kernel
theorem dX2_outcome_43 : decode cX2_outcome 43 = .ok (.iload_n 1, 1) := by decide +kernel
theorem dX2_outcome_44 : decode cX2_outcome 44 = .ok (.goto 4, 3) := by decide +kernel
theorem dX2_outcome_47 : decode cX2_outcome 47 = .ok (.iload_n 2, 1) := by decide +kernel
theorem dX2_outcome_48 : decode cX2_outcome 48 = .ok (.iadd, 1) := by decide +kernel
theorem dX2_outcome_49 : decode cX2_outcome 49 = .ok (.istore 6, 2) := by decide +kernel
theorem dX2_outcome_51 : decode cX2_outcome 51 = .ok (.iload 6, 2) := by decide +kernel
theorem dX2_outcome_53 : decode cX2_outcome 53 = .ok (.iconst 2, 1) := by decide +kernel
theorem dX2_outcome_54 : decode cX2_outcome 54 = .ok (.imul, 1) := by decide +kernel
theorem dX2_outcome_55 : decode cX2_outcome 55 = .ok (.iload_n 3, 1) := by decide +kernel
theorem dX2_outcome_56 : decode cX2_outcome 56 = .ok (.ifCond .eq 7, 3) := by decide +kernel
theorem dX2_outcome_59 : decode cX2_outcome 59 = .ok (.iconst 1, 1) := by decide +kernel
theorem dX2_outcome_60 : decode cX2_outcome 60 = .ok (.goto 4, 3) := by decide +kernel
theorem dX2_outcome_63 : decode cX2_outcome 63 = .ok (.iconst 0, 1) := by decide +kernel
theorem dX2_outcome_64 : decode cX2_outcome 64 = .ok (.iadd, 1) := by decide +kernel
theorem dX2_outcome_65 : decode cX2_outcome 65 = .ok (.istore 7, 2) := by decide +kernel
theorem dX2_outcome_67 : decode cX2_outcome 67 = .ok (.iload 7, 2) := by decide +kernel
theorem dX2_outcome_69 : decode cX2_outcome 69 = .ok (.bipush 6, 2) := by decide +kernel
theorem dX2_outcome_71 : decode cX2_outcome 71 = .ok (.imul, 1) := by decide +kernel
theorem dX2_outcome_72 : decode cX2_outcome 72 = .ok (.aload_n 0, 1) := by decide +kernel
theorem dX2_outcome_73 : decode cX2_outcome 73 = .ok (.getfield 12, 3) := by decide +kernel
theorem dX2_outcome_76 : decode cX2_outcome 76 = .ok (.iload 4, 2) := by decide +kernel
theorem dX2_outcome_78 : decode cX2_outcome 78 = .ok (.invokevirtual 66, 3) := by decide +kernel
theorem dX2_outcome_81 : decode cX2_outcome 81 = .ok (.iadd, 1) := by decide +kernel
theorem dX2_outcome_82 : decode cX2_outcome 82 = .ok (.bipush 30, 2) := by decide +kernel
theorem dX2_outcome_84 : decode cX2_outcome 84 = .ok (.imul, 1) := by decide +kernel
theorem dX2_outcome_85 : decode cX2_outcome 85 = .ok (.aload_n 0, 1) := by decide +kernel
theorem dX2_outcome_86 : decode cX2_outcome 86 = .ok (.getfield 12, 3) := by decide +kernel
theorem dX2_outcome_89 : decode cX2_outcome 89 = .ok (.iload 4, 2) := by decide +kernel
theorem dX2_outcome_91 : decode cX2_outcome 91 = .ok (.invokevirtual 70, 3) := by decide +kernel
theorem dX2_outcome_94 : decode cX2_outcome 94 = .ok (.iadd, 1) := by decide +kernel
theorem dX2_outcome_95 : decode cX2_outcome 95 = .ok (.istore 8, 2) := by decide +kernel
theorem dX2_outcome_97 : decode cX2_outcome 97 = .ok (.aload_n 0, 1) := by decide +kernel
theorem dX2_outcome_98 : decode cX2_outcome 98 = .ok (.getfield 32, 3) := by decide +kernel
theorem dX2_outcome_101 : decode cX2_outcome 101 = .ok (.iconst (-1), 1) := by decide +kernel
theorem dX2_outcome_102 : decode cX2_outcome 102 = .ok (.if_icmp .ne 22, 3) := by decide +kernel
theorem dX2_outcome_105 : decode cX2_outcome 105 = .ok (.iload 8, 2) := by decide +kernel
theorem dX2_outcome_107 : decode cX2_outcome 107 = .ok (.ifCond .lt 17, 3) := by decide +kernel
theorem dX2_outcome_110 : decode cX2_outcome 110 = .ok (.iload 8, 2) := by decide +kernel
theorem dX2_outcome_112 : decode cX2_outcome 112 = .ok (.aload_n 0, 1) := by decide +kernel
theorem dX2_outcome_113 : decode cX2_outcome 113 = .ok (.getfield 46, 3) := by decide +kernel
theorem dX2_outcome_116 : decode cX2_outcome 116 = .ok (.arraylength, 1) := by decide +kernel
theorem dX2_outcome_117 : decode cX2_outcome 117 = .ok (.if_icmp .ge 7, 3) := by decide +kernel
theorem dX2_outcome_120 : decode cX2_outcome 120 = .ok (.iconst 1, 1) := by decide +kernel
theorem dX2_outcome_121 : decode cX2_outcome 121 = .ok (.goto 4, 3) := by decide +kernel
theorem dX2_outcome_124 : decode cX2_outcome 124 = .ok (.iconst 0, 1) := by decide +kernel
theorem dX2_outcome_125 : decode cX2_outcome 125 = .ok (.istore 9, 2) := by decide +kernel
theorem dX2_outcome_127 : decode cX2_outcome 127 = .ok (.iload 9, 2) := by decide +kernel
theorem dX2_outcome_129 : decode cX2_outcome 129 = .ok (.ifCond .eq 21, 3) := by decide +kernel
theorem dX2_outcome_132 : decode cX2_outcome 132 = .ok (.aload_n 0, 1) := by decide +kernel
theorem dX2_outcome_133 : decode cX2_outcome 133 = .ok (.getfield 46, 3) := by decide +kernel
theorem dX2_outcome_136 : decode cX2_outcome 136 = .ok (.iload 8, 2) := by decide +kernel
theorem dX2_outcome_138 : decode cX2_outcome 138 = .ok (.saload, 1) := by decide +kernel
theorem dX2_outcome_139 : decode cX2_outcome 139 = .ok (.ifCond .eq 11, 3) := by decide +kernel
theorem dX2_outcome_142 : decode cX2_outcome 142 = .ok (.aload_n 0, 1) := by decide +kernel
theorem dX2_outcome_143 : decode cX2_outcome 143 = .ok (.getfield 46, 3) := by decide +kernel
theorem dX2_outcome_146 : decode cX2_outcome 146 = .ok (.iload 8, 2) := by decide +kernel
theorem dX2_outcome_148 : decode cX2_outcome 148 = .ok (.saload, 1) := by decide +kernel
theorem dX2_outcome_149 : decode cX2_outcome 149 = .ok (.ireturn, 1) := by decide +kernel
theorem dX2_outcome_150 : decode cX2_outcome 150 = .ok (.aload_n 0, 1) := by decide +kernel
theorem dX2_outcome_151 : decode cX2_outcome 151 = .ok (.getfield 21, 3) := by decide +kernel
theorem dX2_outcome_154 : decode cX2_outcome 154 = .ok (.iload_n 1, 1) := by decide +kernel
theorem dX2_outcome_155 : decode cX2_outcome 155 = .ok (.iload_n 2, 1) := by decide +kernel
theorem dX2_outcome_156 : decode cX2_outcome 156 = .ok (.iload_n 3, 1) := by decide +kernel
theorem dX2_outcome_157 : decode cX2_outcome 157 = .ok (.iload 5, 2) := by decide +kernel
theorem dX2_outcome_159 : decode cX2_outcome 159 = .ok (.invokevirtual 171, 3) := by decide +kernel
theorem dX2_outcome_162 : decode cX2_outcome 162 = .ok (.iconst 0, 1) := by decide +kernel
theorem dX2_outcome_163 : decode cX2_outcome 163 = .ok (.istore 10, 2) := by decide +kernel
theorem dX2_outcome_165 : decode cX2_outcome 165 = .ok (.iload 10, 2) := by decide +kernel
theorem dX2_outcome_167 : decode cX2_outcome 167 = .ok (.sipush 200, 3) := by decide +kernel
theorem dX2_outcome_170 : decode cX2_outcome 170 = .ok (.if_icmp .ge 43, 3) := by decide +kernel
theorem dX2_outcome_173 : decode cX2_outcome 173 = .ok (.aload_n 0, 1) := by decide +kernel
theorem dX2_outcome_174 : decode cX2_outcome 174 = .ok (.getfield 21, 3) := by decide +kernel
theorem dX2_outcome_177 : decode cX2_outcome 177 = .ok (.getfield 96, 3) := by decide +kernel
theorem dX2_outcome_180 : decode cX2_outcome 180 = .ok (.ifCond .eq 14, 3) := by decide +kernel
theorem dX2_outcome_183 : decode cX2_outcome 183 = .ok (.aload_n 0, 1) := by decide +kernel
theorem dX2_outcome_184 : decode cX2_outcome 184 = .ok (.getfield 21, 3) := by decide +kernel
theorem dX2_outcome_187 : decode cX2_outcome 187 = .ok (.getfield 96, 3) := by decide +kernel
theorem dX2_outcome_190 : decode cX2_outcome 190 = .ok (.iconst 1, 1) := by decide +kernel
theorem dX2_outcome_191 : decode cX2_outcome 191 = .ok (.if_icmp .ne 22, 3) := by decide +kernel
theorem dX2_outcome_194 : decode cX2_outcome 194 = .ok (.aload_n 0, 1) := by decide +kernel
theorem dX2_outcome_195 : decode cX2_outcome 195 = .ok (.aload_n 0, 1) := by decide +kernel
theorem dX2_outcome_196 : decode cX2_outcome 196 = .ok (.getfield 21, 3) := by decide +kernel
theorem dX2_outcome_199 : decode cX2_outcome 199 = .ok (.iload 4, 2) := by decide +kernel
theorem dX2_outcome_201 : decode cX2_outcome 201 = .ok (.iload 10, 2) := by decide +kernel
theorem dX2_outcome_203 : decode cX2_outcome 203 = .ok (.iadd, 1) := by decide +kernel
theorem dX2_outcome_204 : decode cX2_outcome 204 = .ok (.invokevirtual 168, 3) := by decide +kernel
theorem dX2_outcome_207 : decode cX2_outcome 207 = .ok (.iinc 10 1, 3) := by decide +kernel
theorem dX2_outcome_210 : decode cX2_outcome 210 = .ok (.goto (-45), 3) := by decide +kernel
theorem dX2_outcome_213 : decode cX2_outcome 213 = .ok (.aload_n 0, 1) := by decide +kernel
theorem dX2_outcome_214 : decode cX2_outcome 214 = .ok (.getfield 21, 3) := by decide +kernel
theorem dX2_outcome_217 : decode cX2_outcome 217 = .ok (.getfield 96, 3) := by decide +kernel
theorem dX2_outcome_220 : decode cX2_outcome 220 = .ok (.iconst 2, 1) := by decide +kernel
theorem dX2_outcome_221 : decode cX2_outcome 221 = .ok (.if_icmp .ne 21, 3) := by decide +kernel
theorem dX2_outcome_224 : decode cX2_outcome 224 = .ok (.iload 10, 2) := by decide +kernel
theorem dX2_outcome_226 : decode cX2_outcome 226 = .ok (.bipush 8, 2) := by decide +kernel
theorem dX2_outcome_228 : decode cX2_outcome 228 = .ok (.imul, 1) := by decide +kernel
theorem dX2_outcome_229 : decode cX2_outcome 229 = .ok (.aload_n 0, 1) := by decide +kernel
theorem dX2_outcome_230 : decode cX2_outcome 230 = .ok (.getfield 21, 3) := by decide +kernel
theorem dX2_outcome_233 : decode cX2_outcome 233 = .ok (.getfield 150, 3) := by decide +kernel
theorem dX2_outcome_236 : decode cX2_outcome 236 = .ok (.iadd, 1) := by decide +kernel
theorem dX2_outcome_237 : decode cX2_outcome 237 = .ok (.iconst 2, 1) := by decide +kernel
theorem dX2_outcome_238 : decode cX2_outcome 238 = .ok (.iadd, 1) := by decide +kernel
theorem dX2_outcome_239 : decode cX2_outcome 239 = .ok (.goto 4, 3) := by decide +kernel
theorem dX2_outcome_242 : decode cX2_outcome 242 = .ok (.iconst 1, 1) := by decide +kernel
theorem dX2_outcome_243 : decode cX2_outcome 243 = .ok (.istore 11, 2) := by decide +kernel
theorem dX2_outcome_245 : decode cX2_outcome 245 = .ok (.iload 9, 2) := by decide +kernel
theorem dX2_outcome_247 : decode cX2_outcome 247 = .ok (.ifCond .eq 13, 3) := by decide +kernel
theorem dX2_outcome_250 : decode cX2_outcome 250 = .ok (.aload_n 0, 1) := by decide +kernel
theorem dX2_outcome_251 : decode cX2_outcome 251 = .ok (.getfield 46, 3) := by decide +kernel
theorem dX2_outcome_254 : decode cX2_outcome 254 = .ok (.iload 8, 2) := by decide +kernel
theorem dX2_outcome_256 : decode cX2_outcome 256 = .ok (.iload 11, 2) := by decide +kernel
theorem dX2_outcome_258 : decode cX2_outcome 258 = .ok (.i2s, 1) := by decide +kernel
theorem dX2_outcome_259 : decode cX2_outcome 259 = .ok (.sastore, 1) := by decide +kernel
theorem dX2_outcome_260 : decode cX2_outcome 260 = .ok (.iload 11, 2) := by decide +kernel
theorem dX2_outcome_262 : decode cX2_outcome 262 = .ok (.ireturn, 1) := by decide +kernel
theorem dX2_keeperOf_0 : decode cX2_keeperOf 0 = .ok (.iload_n 0, 1) := by decide +kernel
theorem dX2_keeperOf_1 : decode cX2_keeperOf 1 = .ok (.bipush 7, 2) := by decide +kernel
theorem dX2_keeperOf_3 : decode cX2_keeperOf 3 = .ok (.iand, 1) := by decide +kernel
theorem dX2_keeperOf_4 : decode cX2_keeperOf 4 = .ok (.iconst 2, 1) := by decide +kernel
theorem dX2_keeperOf_5 : decode cX2_keeperOf 5 = .ok (.isub, 1) := by decide +kernel
theorem dX2_keeperOf_6 : decode cX2_keeperOf 6 = .ok (.ireturn, 1) := by decide +kernel
theorem dX2_tidesOf_0 : decode cX2_tidesOf 0 = .ok (.iload_n 0, 1) := by decide +kernel
theorem dX2_tidesOf_1 : decode cX2_tidesOf 1 = .ok (.iconst 3, 1) := by decide +kernel
theorem dX2_tidesOf_2 : decode cX2_tidesOf 2 = .ok (.ishr, 1) := by decide +kernel
theorem dX2_tidesOf_3 : decode cX2_tidesOf 3 = .ok (.ireturn, 1) := by decide +kernel
theorem dX2_soonest_0 : decode cX2_soonest 0 = .ok (.iconst (-1), 1) := by decide +kernel
theorem dX2_soonest_1 : decode cX2_soonest 1 = .ok (.istore 4, 2) := by decide +kernel
theorem dX2_soonest_3 : decode cX2_soonest 3 = .ok (.iconst 0, 1) := by decide +kernel
theorem dX2_soonest_4 : decode cX2_soonest 4 = .ok (.istore 5, 2) := by decide +kernel
theorem dX2_soonest_6 : decode cX2_soonest 6 = .ok (.iload 5, 2) := by decide +kernel
theorem dX2_soonest_8 : decode cX2_soonest 8 = .ok (.bipush 30, 2) := by decide +kernel
theorem dX2_soonest_10 : decode cX2_soonest 10 = .ok (.if_icmp .gt 110, 3) := by decide +kernel
theorem dX2_soonest_13 : decode cX2_soonest 13 = .ok (.iload 4, 2) := by decide +kernel
theorem dX2_soonest_15 : decode cX2_soonest 15 = .ok (.iconst (-1), 1) := by decide +kernel
theorem dX2_soonest_16 : decode cX2_soonest 16 = .ok (.if_icmp .eq 13, 3) := by decide +kernel
theorem dX2_soonest_19 : decode cX2_soonest 19 = .ok (.iload 5, 2) := by decide +kernel
theorem dX2_soonest_21 : decode cX2_soonest 21 = .ok (.iload 4, 2) := by decide +kernel
theorem dX2_soonest_23 : decode cX2_soonest 23 = .ok (.bipush 6, 2) := by decide +kernel
theorem dX2_soonest_25 : decode cX2_soonest 25 = .ok (.ishr, 1) := by decide +kernel
theorem dX2_soonest_26 : decode cX2_soonest 26 = .ok (.if_icmp .ge 94, 3) := by decide +kernel
theorem dX2_soonest_29 : decode cX2_soonest 29 = .ok (.iconst 0, 1) := by decide +kernel
theorem dX2_soonest_30 : decode cX2_soonest 30 = .ok (.istore 6, 2) := by decide +kernel
theorem dX2_soonest_32 : decode cX2_soonest 32 = .ok (.iload 6, 2) := by decide +kernel
theorem dX2_soonest_34 : decode cX2_soonest 34 = .ok (.iconst 2, 1) := by decide +kernel
theorem dX2_soonest_35 : decode cX2_soonest 35 = .ok (.if_icmp .ge 79, 3) := by decide +kernel
theorem dX2_soonest_38 : decode cX2_soonest 38 = .ok (.aload_n 0, 1) := by decide +kernel
theorem dX2_soonest_39 : decode cX2_soonest 39 = .ok (.iload_n 1, 1) := by decide +kernel
theorem dX2_soonest_40 : decode cX2_soonest 40 = .ok (.iload_n 2, 1) := by decide +kernel
theorem dX2_soonest_41 : decode cX2_soonest 41 = .ok (.iload 6, 2) := by decide +kernel
theorem dX2_soonest_43 : decode cX2_soonest 43 = .ok (.iconst 1, 1) := by decide +kernel
theorem dX2_soonest_44 : decode cX2_soonest 44 = .ok (.if_icmp .ne 7, 3) := by decide +kernel
theorem dX2_soonest_47 : decode cX2_soonest 47 = .ok (.iconst 1, 1) := by decide +kernel
theorem dX2_soonest_48 : decode cX2_soonest 48 = .ok (.goto 4, 3) := by decide +kernel
theorem dX2_soonest_51 : decode cX2_soonest 51 = .ok (.iconst 0, 1) := by decide +kernel
theorem dX2_soonest_52 : decode cX2_soonest 52 = .ok (.iload_n 3, 1) := by decide +kernel
theorem dX2_soonest_53 : decode cX2_soonest 53 = .ok (.iload 5, 2) := by decide +kernel
theorem dX2_soonest_55 : decode cX2_soonest 55 = .ok (.iadd, 1) := by decide +kernel
theorem dX2_soonest_56 : decode cX2_soonest 56 = .ok (.invokevirtual 175, 3) := by decide +kernel
theorem dX2_soonest_59 : decode cX2_soonest 59 = .ok (.istore 7, 2) := by decide +kernel
theorem dX2_soonest_61 : decode cX2_soonest 61 = .ok (.iload 5, 2) := by decide +kernel
theorem dX2_soonest_63 : decode cX2_soonest 63 = .ok (.iload 7, 2) := by decide +kernel
theorem dX2_soonest_65 : decode cX2_soonest 65 = .ok (.invokestatic 179, 3) := by decide +kernel
theorem dX2_soonest_68 : decode cX2_soonest 68 = .ok (.iadd, 1) := by decide +kernel
theorem dX2_soonest_69 : decode cX2_soonest 69 = .ok (.bipush 64, 2) := by decide +kernel
theorem dX2_soonest_71 : decode cX2_soonest 71 = .ok (.imul, 1) := by decide +kernel
theorem dX2_soonest_72 : decode cX2_soonest 72 = .ok (.iload 5, 2) := by decide +kernel
theorem dX2_soonest_74 : decode cX2_soonest 74 = .ok (.iconst 2, 1) := by decide +kernel
theorem dX2_soonest_75 : decode cX2_soonest 75 = .ok (.imul, 1) := by decide +kernel
theorem dX2_soonest_76 : decode cX2_soonest 76 = .ok (.iadd, 1) := by decide +kernel
theorem dX2_soonest_77 : decode cX2_soonest 77 = .ok (.iload 6, 2) := by decide +kernel
theorem dX2_soonest_79 : decode cX2_soonest 79 = .ok (.iadd, 1) := by decide +kernel
theorem dX2_soonest_80 : decode cX2_soonest 80 = .ok (.istore 8, 2) := by decide +kernel
theorem dX2_soonest_82 : decode cX2_soonest 82 = .ok (.iload 7, 2) := by decide +kernel
theorem dX2_soonest_84 : decode cX2_soonest 84 = .ok (.invokestatic 182, 3) := by decide +kernel
theorem dX2_soonest_87 : decode cX2_soonest 87 = .ok (.iload_n 2, 1) := by decide +kernel
theorem dX2_soonest_88 : decode cX2_soonest 88 = .ok (.if_icmp .ne 20, 3) := by decide +kernel
theorem dX2_soonest_91 : decode cX2_soonest 91 = .ok (.iload 4, 2) := by decide +kernel
theorem dX2_soonest_93 : decode cX2_soonest 93 = .ok (.iconst (-1), 1) := by decide +kernel
theorem dX2_soonest_94 : decode cX2_soonest 94 = .ok (.if_icmp .eq 10, 3) := by decide +kernel
theorem dX2_soonest_97 : decode cX2_soonest 97 = .ok (.iload 8, 2) := by decide +kernel
theorem dX2_soonest_99 : decode cX2_soonest 99 = .ok (.iload 4, 2) := by decide +kernel
theorem dX2_soonest_101 : decode cX2_soonest 101 = .ok (.if_icmp .ge 7, 3) := by decide +kernel
theorem dX2_soonest_104 : decode cX2_soonest 104 = .ok (.iload 8, 2) := by decide +kernel
theorem dX2_soonest_106 : decode cX2_soonest 106 = .ok (.istore 4, 2) := by decide +kernel
theorem dX2_soonest_108 : decode cX2_soonest 108 = .ok (.iinc 6 1, 3) := by decide +kernel
theorem dX2_soonest_111 : decode cX2_soonest 111 = .ok (.goto (-79), 3) := by decide +kernel
theorem dX2_soonest_114 : decode cX2_soonest 114 = .ok (.iinc 5 1, 3) := by decide +kernel
theorem dX2_soonest_117 : decode cX2_soonest 117 = .ok (.goto (-111), 3) := by decide +kernel
theorem dX2_soonest_120 : decode cX2_soonest 120 = .ok (.iload 4, 2) := by decide +kernel
theorem dX2_soonest_122 : decode cX2_soonest 122 = .ok (.ireturn, 1) := by decide +kernel
theorem dX2_arrivalOf_0 : decode cX2_arrivalOf 0 = .ok (.iload_n 0, 1) := by decide +kernel
theorem dX2_arrivalOf_1 : decode cX2_arrivalOf 1 = .ok (.bipush 6, 2) := by decide +kernel
theorem dX2_arrivalOf_3 : decode cX2_arrivalOf 3 = .ok (.ishr, 1) := by decide +kernel
theorem dX2_arrivalOf_4 : decode cX2_arrivalOf 4 = .ok (.ireturn, 1) := by decide +kernel
theorem dX2_waitOf_0 : decode cX2_waitOf 0 = .ok (.iload_n 0, 1) := by decide +kernel
theorem dX2_waitOf_1 : decode cX2_waitOf 1 = .ok (.iconst 1, 1) := by decide +kernel
theorem dX2_waitOf_2 : decode cX2_waitOf 2 = .ok (.ishr, 1) := by decide +kernel
theorem dX2_waitOf_3 : decode cX2_waitOf 3 = .ok (.bipush 31, 2) := by decide +kernel
theorem dX2_waitOf_5 : decode cX2_waitOf 5 = .ok (.iand, 1) := by decide +kernel
theorem dX2_waitOf_6 : decode cX2_waitOf 6 = .ok (.ireturn, 1) := by decide +kernel
theorem dX2_weightOf_0 : decode cX2_weightOf 0 = .ok (.iload_n 0, 1) := by decide +kernel
theorem dX2_weightOf_1 : decode cX2_weightOf 1 = .ok (.iconst 1, 1) := by decide +kernel
theorem dX2_weightOf_2 : decode cX2_weightOf 2 = .ok (.iand, 1) := by decide +kernel
theorem dX2_weightOf_3 : decode cX2_weightOf 3 = .ok (.ireturn, 1) := by decide +kernel
theorem dX3_init_0 : decode cX3_init 0 = .ok (.aload_n 0, 1) := by decide +kernel
theorem dX3_init_1 : decode cX3_init 1 = .ok (.invokespecial 3, 3) := by decide +kernel
theorem dX3_init_4 : decode cX3_init 4 = .ok (.aload_n 0, 1) := by decide +kernel
theorem dX3_init_5 : decode cX3_init 5 = .ok (.bipush 11, 2) := by decide +kernel
theorem dX3_init_7 : decode cX3_init 7 = .ok (.anewarray 9, 3) := by decide +kernel
theorem dX3_init_10 : decode cX3_init 10 = .ok (.putfield 11, 3) := by decide +kernel
theorem dX3_init_13 : decode cX3_init 13 = .ok (.iconst 0, 1) := by decide +kernel
theorem dX3_init_14 : decode cX3_init 14 = .ok (.istore_n 1, 1) := by decide +kernel
theorem dX3_init_15 : decode cX3_init 15 = .ok (.iload_n 1, 1) := by decide +kernel
theorem dX3_init_16 : decode cX3_init 16 = .ok (.bipush 10, 2) := by decide +kernel
theorem dX3_init_18 : decode cX3_init 18 = .ok (.if_icmp .gt 22, 3) := by decide +kernel
theorem dX3_init_21 : decode cX3_init 21 = .ok (.aload_n 0, 1) := by decide +kernel
theorem dX3_init_22 : decode cX3_init 22 = .ok (.getfield 11, 3) := by decide +kernel
theorem dX3_init_25 : decode cX3_init 25 = .ok (.iload_n 1, 1) := by decide +kernel
theorem dX3_init_26 : decode cX3_init 26 = .ok (.new 9, 3) := by decide +kernel
theorem dX3_init_29 : decode cX3_init 29 = .ok (.dup, 1) := by decide +kernel
theorem dX3_init_30 : decode cX3_init 30 = .ok (.invokespecial 17, 3) := by decide +kernel
theorem dX3_init_33 : decode cX3_init 33 = .ok (.aastore, 1) := by decide +kernel
theorem dX3_init_34 : decode cX3_init 34 = .ok (.iinc 1 1, 3) := by decide +kernel
theorem dX3_init_37 : decode cX3_init 37 = .ok (.goto (-22), 3) := by decide +kernel
theorem dX3_init_40 : decode cX3_init 40 = .ok (.return_, 1) := by decide +kernel
theorem dX3_clear_0 : decode cX3_clear 0 = .ok (.aload_n 0, 1) := by decide +kernel
theorem dX3_clear_1 : decode cX3_clear 1 = .ok (.iconst 0, 1) := by decide +kernel
theorem dX3_clear_2 : decode cX3_clear 2 = .ok (.putfield 18, 3) := by decide +kernel
theorem dX3_clear_5 : decode cX3_clear 5 = .ok (.aload_n 0, 1) := by decide +kernel
theorem dX3_clear_6 : decode cX3_clear 6 = .ok (.iconst 0, 1) := by decide +kernel
theorem dX3_clear_7 : decode cX3_clear 7 = .ok (.putfield 22, 3) := by decide +kernel
theorem dX3_clear_10 : decode cX3_clear 10 = .ok (.return_, 1) := by decide +kernel
theorem dX3_slot_0 : decode cX3_slot 0 = .ok (.aload_n 0, 1) := by decide +kernel
theorem dX3_slot_1 : decode cX3_slot 1 = .ok (.getfield 11, 3) := by decide +kernel
theorem dX3_slot_4 : decode cX3_slot 4 = .ok (.aload_n 0, 1) := by decide +kernel
theorem dX3_slot_5 : decode cX3_slot 5 = .ok (.getfield 18, 3) := by decide +kernel
theorem dX3_slot_8 : decode cX3_slot 8 = .ok (.iload_n 1, 1) := by decide +kernel
theorem dX3_slot_9 : decode cX3_slot 9 = .ok (.iadd, 1) := by decide +kernel
theorem dX3_slot_10 : decode cX3_slot 10 = .ok (.bipush 11, 2) := by decide +kernel
theorem dX3_slot_12 : decode cX3_slot 12 = .ok (.invokestatic 25, 3) := by decide +kernel
theorem dX3_slot_15 : decode cX3_slot 15 = .ok (.aaload, 1) := by decide +kernel
theorem dX3_slot_16 : decode cX3_slot 16 = .ok (.areturn, 1) := by decide +kernel
theorem dX3_draft_0 : decode cX3_draft 0 = .ok (.aload_n 0, 1) := by decide +kernel
theorem dX3_draft_1 : decode cX3_draft 1 = .ok (.aload_n 0, 1) := by decide +kernel
theorem dX3_draft_2 : decode cX3_draft 2 = .ok (.getfield 22, 3) := by decide +kernel
theorem dX3_draft_5 : decode cX3_draft 5 = .ok (.invokevirtual 31, 3) := by decide +kernel
theorem dX3_draft_8 : decode cX3_draft 8 = .ok (.aload_n 1, 1) := by decide +kernel
theorem dX3_draft_9 : decode cX3_draft 9 = .ok (.invokevirtual 35, 3) := by decide +kernel
theorem dX3_draft_12 : decode cX3_draft 12 = .ok (.return_, 1) := by decide +kernel
theorem dX3_commit_0 : decode cX3_commit 0 = .ok (.aload_n 0, 1) := by decide +kernel
theorem dX3_commit_1 : decode cX3_commit 1 = .ok (.getfield 22, 3) := by decide +kernel
theorem dX3_commit_4 : decode cX3_commit 4 = .ok (.bipush 10, 2) := by decide +kernel
theorem dX3_commit_6 : decode cX3_commit 6 = .ok (.if_icmp .ge 16, 3) := by decide +kernel
theorem dX3_commit_9 : decode cX3_commit 9 = .ok (.aload_n 0, 1) := by decide +kernel
theorem dX3_commit_10 : decode cX3_commit 10 = .ok (.dup, 1) := by decide +kernel
theorem dX3_commit_11 : decode cX3_commit 11 = .ok (.getfield 22, 3) := by decide +kernel
theorem dX3_commit_14 : decode cX3_commit 14 = .ok (.iconst 1, 1) := by decide +kernel
theorem dX3_commit_15 : decode cX3_commit 15 = .ok (.iadd, 1) := by decide +kernel
theorem dX3_commit_16 : decode cX3_commit 16 = .ok (.putfield 22, 3) := by decide +kernel
theorem dX3_commit_19 : decode cX3_commit 19 = .ok (.goto 18, 3) := by decide +kernel
theorem dX3_commit_22 : decode cX3_commit 22 = .ok (.aload_n 0, 1) := by decide +kernel
theorem dX3_commit_23 : decode cX3_commit 23 = .ok (.aload_n 0, 1) := by decide +kernel
theorem dX3_commit_24 : decode cX3_commit 24 = .ok (.getfield 18, 3) := by decide +kernel
theorem dX3_commit_27 : decode cX3_commit 27 = .ok (.iconst 1, 1) := by decide +kernel
theorem dX3_commit_28 : decode cX3_commit 28 = .ok (.iadd, 1) := by decide +kernel
theorem dX3_commit_29 : decode cX3_commit 29 = .ok (.bipush 11, 2) := by decide +kernel
theorem dX3_commit_31 : decode cX3_commit 31 = .ok (.invokestatic 25, 3) := by decide +kernel
theorem dX3_commit_34 : decode cX3_commit 34 = .ok (.putfield 18, 3) := by decide +kernel
theorem dX3_commit_37 : decode cX3_commit 37 = .ok (.return_, 1) := by decide +kernel
theorem dX3_bringBack_0 : decode cX3_bringBack 0 = .ok (.aload_n 0, 1) := by decide +kernel
theorem dX3_bringBack_1 : decode cX3_bringBack 1 = .ok (.dup, 1) := by decide +kernel
theorem dX3_bringBack_2 : decode cX3_bringBack 2 = .ok (.getfield 22, 3) := by decide +kernel
theorem dX3_bringBack_5 : decode cX3_bringBack 5 = .ok (.iload_n 1, 1) := by decide +kernel
theorem dX3_bringBack_6 : decode cX3_bringBack 6 = .ok (.isub, 1) := by decide +kernel
theorem dX3_bringBack_7 : decode cX3_bringBack 7 = .ok (.putfield 22, 3) := by decide +kernel
theorem dX3_bringBack_10 : decode cX3_bringBack 10 = .ok (.aload_n 2, 1) := by decide +kernel
theorem dX3_bringBack_11 : decode cX3_bringBack 11 = .ok (.aload_n 0, 1) := by decide +kernel
theorem dX3_bringBack_12 : decode cX3_bringBack 12 = .ok (.aload_n 0, 1) := by decide +kernel
theorem dX3_bringBack_13 : decode cX3_bringBack 13 = .ok (.getfield 22, 3) := by decide +kernel
theorem dX3_bringBack_16 : decode cX3_bringBack 16 = .ok (.invokevirtual 31, 3) := by decide +kernel
theorem dX3_bringBack_19 : decode cX3_bringBack 19 = .ok (.invokevirtual 35, 3) := by decide +kernel
theorem dX3_bringBack_22 : decode cX3_bringBack 22 = .ok (.return_, 1) := by decide +kernel
theorem dX4_init_0 : decode cX4_init 0 = .ok (.aload_n 0, 1) := by decide +kernel
theorem dX4_init_1 : decode cX4_init 1 = .ok (.invokespecial 3, 3) := by decide +kernel
theorem dX4_init_4 : decode cX4_init 4 = .ok (.aload_n 0, 1) := by decide +kernel
theorem dX4_init_5 : decode cX4_init 5 = .ok (.new 9, 3) := by decide +kernel
theorem dX4_init_8 : decode cX4_init 8 = .ok (.dup, 1) := by decide +kernel
theorem dX4_init_9 : decode cX4_init 9 = .ok (.invokespecial 11, 3) := by decide +kernel
theorem dX4_init_12 : decode cX4_init 12 = .ok (.putfield 12, 3) := by decide +kernel
theorem dX4_init_15 : decode cX4_init 15 = .ok (.aload_n 0, 1) := by decide +kernel
theorem dX4_init_16 : decode cX4_init 16 = .ok (.iconst (-1), 1) := by decide +kernel
theorem dX4_init_17 : decode cX4_init 17 = .ok (.putfield 18, 3) := by decide +kernel
theorem dX4_init_20 : decode cX4_init 20 = .ok (.aload_n 0, 1) := by decide +kernel
theorem dX4_init_21 : decode cX4_init 21 = .ok (.iconst 0, 1) := by decide +kernel
theorem dX4_init_22 : decode cX4_init 22 = .ok (.newarray .byte, 2) := by decide +kernel
theorem dX4_init_24 : decode cX4_init 24 = .ok (.putfield 22, 3) := by decide +kernel
theorem dX4_init_27 : decode cX4_init 27 = .ok (.return_, 1) := by decide +kernel
theorem dX4_reads_0 : decode cX4_reads 0 = .ok (.aload_n 0, 1) := by decide +kernel
theorem dX4_reads_1 : decode cX4_reads 1 = .ok (.aload_n 1, 1) := by decide +kernel
theorem dX4_reads_2 : decode cX4_reads 2 = .ok (.putfield 22, 3) := by decide +kernel
theorem dX4_reads_5 : decode cX4_reads 5 = .ok (.aload_n 0, 1) := by decide +kernel
