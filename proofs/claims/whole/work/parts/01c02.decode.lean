theorem dX7_clear_5 : decode cX7_clear 5 = .ok (.aload_n 0, 1) := by decide +kernel
theorem dX7_clear_6 : decode cX7_clear 6 = .ok (.iconst 0, 1) := by decide +kernel
theorem dX7_clear_7 : decode cX7_clear 7 = .ok (.putfield 22, 3) := by decide +kernel
theorem dX7_clear_10 : decode cX7_clear 10 = .ok (.return_, 1) := by decide +kernel
theorem dX7_takeFrom_0 : decode cX7_takeFrom 0 = .ok (.aload_n 0, 1) := by decide +kernel
theorem dX7_takeFrom_1 : decode cX7_takeFrom 1 = .ok (.aload_n 1, 1) := by decide +kernel
theorem dX7_takeFrom_2 : decode cX7_takeFrom 2 = .ok (.getfield 18, 3) := by decide +kernel
theorem dX7_takeFrom_5 : decode cX7_takeFrom 5 = .ok (.putfield 18, 3) := by decide +kernel
theorem dX7_takeFrom_8 : decode cX7_takeFrom 8 = .ok (.aload_n 0, 1) := by decide +kernel
theorem dX7_takeFrom_9 : decode cX7_takeFrom 9 = .ok (.aload_n 1, 1) := by decide +kernel
theorem dX7_takeFrom_10 : decode cX7_takeFrom 10 = .ok (.getfield 22, 3) := by decide +kernel
theorem dX7_takeFrom_13 : decode cX7_takeFrom 13 = .ok (.putfield 22, 3) := by decide +kernel
theorem dX7_takeFrom_16 : decode cX7_takeFrom 16 = .ok (.iconst 0, 1) := by decide +kernel
theorem dX7_takeFrom_17 : decode cX7_takeFrom 17 = .ok (.istore_n 2, 1) := by decide +kernel
theorem dX7_takeFrom_18 : decode cX7_takeFrom 18 = .ok (.iload_n 2, 1) := by decide +kernel
theorem dX7_takeFrom_19 : decode cX7_takeFrom 19 = .ok (.aload_n 0, 1) := by decide +kernel
theorem dX7_takeFrom_20 : decode cX7_takeFrom 20 = .ok (.getfield 18, 3) := by decide +kernel
theorem dX7_takeFrom_23 : decode cX7_takeFrom 23 = .ok (.if_icmp .ge 30, 3) := by decide +kernel
theorem dX7_takeFrom_26 : decode cX7_takeFrom 26 = .ok (.iload_n 2, 1) := by decide +kernel
theorem dX7_takeFrom_27 : decode cX7_takeFrom 27 = .ok (.bipush 8, 2) := by decide +kernel
theorem dX7_takeFrom_29 : decode cX7_takeFrom 29 = .ok (.if_icmp .ge 24, 3) := by decide +kernel
theorem dX7_takeFrom_32 : decode cX7_takeFrom 32 = .ok (.aload_n 0, 1) := by decide +kernel
theorem dX7_takeFrom_33 : decode cX7_takeFrom 33 = .ok (.getfield 11, 3) := by decide +kernel
theorem dX7_takeFrom_36 : decode cX7_takeFrom 36 = .ok (.iload_n 2, 1) := by decide +kernel
theorem dX7_takeFrom_37 : decode cX7_takeFrom 37 = .ok (.aaload, 1) := by decide +kernel
theorem dX7_takeFrom_38 : decode cX7_takeFrom 38 = .ok (.aload_n 1, 1) := by decide +kernel
theorem dX7_takeFrom_39 : decode cX7_takeFrom 39 = .ok (.getfield 11, 3) := by decide +kernel
theorem dX7_takeFrom_42 : decode cX7_takeFrom 42 = .ok (.iload_n 2, 1) := by decide +kernel
theorem dX7_takeFrom_43 : decode cX7_takeFrom 43 = .ok (.aaload, 1) := by decide +kernel
theorem dX7_takeFrom_44 : decode cX7_takeFrom 44 = .ok (.invokevirtual 25, 3) := by decide +kernel
theorem dX7_takeFrom_47 : decode cX7_takeFrom 47 = .ok (.iinc 2 1, 3) := by decide +kernel
theorem dX7_takeFrom_50 : decode cX7_takeFrom 50 = .ok (.goto (-32), 3) := by decide +kernel
theorem dX7_takeFrom_53 : decode cX7_takeFrom 53 = .ok (.return_, 1) := by decide +kernel
theorem dX7_has_0 : decode cX7_has 0 = .ok (.iload_n 1, 1) := by decide +kernel
theorem dX7_has_1 : decode cX7_has 1 = .ok (.ifCond .lt 21, 3) := by decide +kernel
theorem dX7_has_4 : decode cX7_has 4 = .ok (.iload_n 1, 1) := by decide +kernel
theorem dX7_has_5 : decode cX7_has 5 = .ok (.aload_n 0, 1) := by decide +kernel
theorem dX7_has_6 : decode cX7_has 6 = .ok (.getfield 18, 3) := by decide +kernel
theorem dX7_has_9 : decode cX7_has 9 = .ok (.if_icmp .ge 13, 3) := by decide +kernel
theorem dX7_has_12 : decode cX7_has 12 = .ok (.iload_n 1, 1) := by decide +kernel
theorem dX7_has_13 : decode cX7_has 13 = .ok (.bipush 8, 2) := by decide +kernel
theorem dX7_has_15 : decode cX7_has 15 = .ok (.if_icmp .ge 7, 3) := by decide +kernel
theorem dX7_has_18 : decode cX7_has 18 = .ok (.iconst 1, 1) := by decide +kernel
theorem dX7_has_19 : decode cX7_has 19 = .ok (.goto 4, 3) := by decide +kernel
theorem dX7_has_22 : decode cX7_has 22 = .ok (.iconst 0, 1) := by decide +kernel
theorem dX7_has_23 : decode cX7_has 23 = .ok (.ireturn, 1) := by decide +kernel
theorem dX7_countOf_0 : decode cX7_countOf 0 = .ok (.iconst 0, 1) := by decide +kernel
theorem dX7_countOf_1 : decode cX7_countOf 1 = .ok (.istore_n 2, 1) := by decide +kernel
theorem dX7_countOf_2 : decode cX7_countOf 2 = .ok (.iconst 0, 1) := by decide +kernel
theorem dX7_countOf_3 : decode cX7_countOf 3 = .ok (.istore_n 3, 1) := by decide +kernel
theorem dX7_countOf_4 : decode cX7_countOf 4 = .ok (.iload_n 3, 1) := by decide +kernel
theorem dX7_countOf_5 : decode cX7_countOf 5 = .ok (.aload_n 0, 1) := by decide +kernel
theorem dX7_countOf_6 : decode cX7_countOf 6 = .ok (.getfield 18, 3) := by decide +kernel
theorem dX7_countOf_9 : decode cX7_countOf 9 = .ok (.if_icmp .ge 31, 3) := by decide +kernel
theorem dX7_countOf_12 : decode cX7_countOf 12 = .ok (.iload_n 3, 1) := by decide +kernel
theorem dX7_countOf_13 : decode cX7_countOf 13 = .ok (.bipush 8, 2) := by decide +kernel
theorem dX7_countOf_15 : decode cX7_countOf 15 = .ok (.if_icmp .ge 25, 3) := by decide +kernel
theorem dX7_countOf_18 : decode cX7_countOf 18 = .ok (.aload_n 0, 1) := by decide +kernel
theorem dX7_countOf_19 : decode cX7_countOf 19 = .ok (.getfield 11, 3) := by decide +kernel
theorem dX7_countOf_22 : decode cX7_countOf 22 = .ok (.iload_n 3, 1) := by decide +kernel
theorem dX7_countOf_23 : decode cX7_countOf 23 = .ok (.aaload, 1) := by decide +kernel
theorem dX7_countOf_24 : decode cX7_countOf 24 = .ok (.getfield 29, 3) := by decide +kernel
theorem dX7_countOf_27 : decode cX7_countOf 27 = .ok (.iload_n 1, 1) := by decide +kernel
theorem dX7_countOf_28 : decode cX7_countOf 28 = .ok (.if_icmp .ne 6, 3) := by decide +kernel
theorem dX7_countOf_31 : decode cX7_countOf 31 = .ok (.iinc 2 1, 3) := by decide +kernel
theorem dX7_countOf_34 : decode cX7_countOf 34 = .ok (.iinc 3 1, 3) := by decide +kernel
theorem dX7_countOf_37 : decode cX7_countOf 37 = .ok (.goto (-33), 3) := by decide +kernel
theorem dX7_countOf_40 : decode cX7_countOf 40 = .ok (.iload_n 2, 1) := by decide +kernel
theorem dX7_countOf_41 : decode cX7_countOf 41 = .ok (.ireturn, 1) := by decide +kernel
theorem dX7_lyingOn_0 : decode cX7_lyingOn 0 = .ok (.iconst 0, 1) := by decide +kernel
theorem dX7_lyingOn_1 : decode cX7_lyingOn 1 = .ok (.istore_n 2, 1) := by decide +kernel
theorem dX7_lyingOn_2 : decode cX7_lyingOn 2 = .ok (.iconst 0, 1) := by decide +kernel
theorem dX7_lyingOn_3 : decode cX7_lyingOn 3 = .ok (.istore_n 3, 1) := by decide +kernel
theorem dX7_lyingOn_4 : decode cX7_lyingOn 4 = .ok (.iload_n 3, 1) := by decide +kernel
theorem dX7_lyingOn_5 : decode cX7_lyingOn 5 = .ok (.aload_n 0, 1) := by decide +kernel
theorem dX7_lyingOn_6 : decode cX7_lyingOn 6 = .ok (.getfield 18, 3) := by decide +kernel
theorem dX7_lyingOn_9 : decode cX7_lyingOn 9 = .ok (.if_icmp .ge 47, 3) := by decide +kernel
theorem dX7_lyingOn_12 : decode cX7_lyingOn 12 = .ok (.iload_n 3, 1) := by decide +kernel
theorem dX7_lyingOn_13 : decode cX7_lyingOn 13 = .ok (.bipush 8, 2) := by decide +kernel
theorem dX7_lyingOn_15 : decode cX7_lyingOn 15 = .ok (.if_icmp .ge 41, 3) := by decide +kernel
theorem dX7_lyingOn_18 : decode cX7_lyingOn 18 = .ok (.aload_n 0, 1) := by decide +kernel
theorem dX7_lyingOn_19 : decode cX7_lyingOn 19 = .ok (.getfield 11, 3) := by decide +kernel
theorem dX7_lyingOn_22 : decode cX7_lyingOn 22 = .ok (.iload_n 3, 1) := by decide +kernel
theorem dX7_lyingOn_23 : decode cX7_lyingOn 23 = .ok (.aaload, 1) := by decide +kernel
theorem dX7_lyingOn_24 : decode cX7_lyingOn 24 = .ok (.getfield 29, 3) := by decide +kernel
theorem dX7_lyingOn_27 : decode cX7_lyingOn 27 = .ok (.iconst 1, 1) := by decide +kernel
theorem dX7_lyingOn_28 : decode cX7_lyingOn 28 = .ok (.if_icmp .ne 22, 3) := by decide +kernel
theorem dX7_lyingOn_31 : decode cX7_lyingOn 31 = .ok (.aload_n 0, 1) := by decide +kernel
theorem dX7_lyingOn_32 : decode cX7_lyingOn 32 = .ok (.getfield 11, 3) := by decide +kernel
theorem dX7_lyingOn_35 : decode cX7_lyingOn 35 = .ok (.iload_n 3, 1) := by decide +kernel
theorem dX7_lyingOn_36 : decode cX7_lyingOn 36 = .ok (.aaload, 1) := by decide +kernel
theorem dX7_lyingOn_37 : decode cX7_lyingOn 37 = .ok (.getfield 32, 3) := by decide +kernel
theorem dX7_lyingOn_40 : decode cX7_lyingOn 40 = .ok (.iload_n 1, 1) := by decide +kernel
theorem dX7_lyingOn_41 : decode cX7_lyingOn 41 = .ok (.if_icmp .ne 9, 3) := by decide +kernel
theorem dX7_lyingOn_44 : decode cX7_lyingOn 44 = .ok (.iload_n 2, 1) := by decide +kernel
theorem dX7_lyingOn_45 : decode cX7_lyingOn 45 = .ok (.iconst 1, 1) := by decide +kernel
theorem dX7_lyingOn_46 : decode cX7_lyingOn 46 = .ok (.iload_n 3, 1) := by decide +kernel
theorem dX7_lyingOn_47 : decode cX7_lyingOn 47 = .ok (.ishl, 1) := by decide +kernel
theorem dX7_lyingOn_48 : decode cX7_lyingOn 48 = .ok (.ior, 1) := by decide +kernel
theorem dX7_lyingOn_49 : decode cX7_lyingOn 49 = .ok (.istore_n 2, 1) := by decide +kernel
theorem dX7_lyingOn_50 : decode cX7_lyingOn 50 = .ok (.iinc 3 1, 3) := by decide +kernel
theorem dX7_lyingOn_53 : decode cX7_lyingOn 53 = .ok (.goto (-49), 3) := by decide +kernel
theorem dX7_lyingOn_56 : decode cX7_lyingOn 56 = .ok (.iload_n 2, 1) := by decide +kernel
theorem dX7_lyingOn_57 : decode cX7_lyingOn 57 = .ok (.ireturn, 1) := by decide +kernel
theorem dX7_keptBy_0 : decode cX7_keptBy 0 = .ok (.iconst 0, 1) := by decide +kernel
theorem dX7_keptBy_1 : decode cX7_keptBy 1 = .ok (.istore_n 2, 1) := by decide +kernel
theorem dX7_keptBy_2 : decode cX7_keptBy 2 = .ok (.iconst 0, 1) := by decide +kernel
theorem dX7_keptBy_3 : decode cX7_keptBy 3 = .ok (.istore_n 3, 1) := by decide +kernel
theorem dX7_keptBy_4 : decode cX7_keptBy 4 = .ok (.iload_n 3, 1) := by decide +kernel
theorem dX7_keptBy_5 : decode cX7_keptBy 5 = .ok (.aload_n 0, 1) := by decide +kernel
theorem dX7_keptBy_6 : decode cX7_keptBy 6 = .ok (.getfield 18, 3) := by decide +kernel
theorem dX7_keptBy_9 : decode cX7_keptBy 9 = .ok (.if_icmp .ge 47, 3) := by decide +kernel
theorem dX7_keptBy_12 : decode cX7_keptBy 12 = .ok (.iload_n 3, 1) := by decide +kernel
theorem dX7_keptBy_13 : decode cX7_keptBy 13 = .ok (.bipush 8, 2) := by decide +kernel
theorem dX7_keptBy_15 : decode cX7_keptBy 15 = .ok (.if_icmp .ge 41, 3) := by decide +kernel
theorem dX7_keptBy_18 : decode cX7_keptBy 18 = .ok (.aload_n 0, 1) := by decide +kernel
theorem dX7_keptBy_19 : decode cX7_keptBy 19 = .ok (.getfield 11, 3) := by decide +kernel
theorem dX7_keptBy_22 : decode cX7_keptBy 22 = .ok (.iload_n 3, 1) := by decide +kernel
theorem dX7_keptBy_23 : decode cX7_keptBy 23 = .ok (.aaload, 1) := by decide +kernel
theorem dX7_keptBy_24 : decode cX7_keptBy 24 = .ok (.getfield 29, 3) := by decide +kernel
theorem dX7_keptBy_27 : decode cX7_keptBy 27 = .ok (.iconst 2, 1) := by decide +kernel
theorem dX7_keptBy_28 : decode cX7_keptBy 28 = .ok (.if_icmp .ne 22, 3) := by decide +kernel
theorem dX7_keptBy_31 : decode cX7_keptBy 31 = .ok (.aload_n 0, 1) := by decide +kernel
theorem dX7_keptBy_32 : decode cX7_keptBy 32 = .ok (.getfield 11, 3) := by decide +kernel
theorem dX7_keptBy_35 : decode cX7_keptBy 35 = .ok (.iload_n 3, 1) := by decide +kernel
theorem dX7_keptBy_36 : decode cX7_keptBy 36 = .ok (.aaload, 1) := by decide +kernel
theorem dX7_keptBy_37 : decode cX7_keptBy 37 = .ok (.getfield 35, 3) := by decide +kernel
theorem dX7_keptBy_40 : decode cX7_keptBy 40 = .ok (.iload_n 1, 1) := by decide +kernel
theorem dX7_keptBy_41 : decode cX7_keptBy 41 = .ok (.if_icmp .ne 9, 3) := by decide +kernel
theorem dX7_keptBy_44 : decode cX7_keptBy 44 = .ok (.iload_n 2, 1) := by decide +kernel
theorem dX7_keptBy_45 : decode cX7_keptBy 45 = .ok (.iconst 1, 1) := by decide +kernel
theorem dX7_keptBy_46 : decode cX7_keptBy 46 = .ok (.iload_n 3, 1) := by decide +kernel
theorem dX7_keptBy_47 : decode cX7_keptBy 47 = .ok (.ishl, 1) := by decide +kernel
theorem dX7_keptBy_48 : decode cX7_keptBy 48 = .ok (.ior, 1) := by decide +kernel
theorem dX7_keptBy_49 : decode cX7_keptBy 49 = .ok (.istore_n 2, 1) := by decide +kernel
theorem dX7_keptBy_50 : decode cX7_keptBy 50 = .ok (.iinc 3 1, 3) := by decide +kernel
theorem dX7_keptBy_53 : decode cX7_keptBy 53 = .ok (.goto (-49), 3) := by decide +kernel
theorem dX7_keptBy_56 : decode cX7_keptBy 56 = .ok (.iload_n 2, 1) := by decide +kernel
theorem dX7_keptBy_57 : decode cX7_keptBy 57 = .ok (.ireturn, 1) := by decide +kernel
theorem dX7_whyNotThrown_0 : decode cX7_whyNotThrown 0 = .ok (.aload_n 1, 1) := by decide +kernel
theorem dX7_whyNotThrown_1 : decode cX7_whyNotThrown 1 = .ok (.iload_n 2, 1) := by decide +kernel
theorem dX7_whyNotThrown_2 : decode cX7_whyNotThrown 2 = .ok (.invokevirtual 38, 3) := by decide +kernel
theorem dX7_whyNotThrown_5 : decode cX7_whyNotThrown 5 = .ok (.ifCond .eq 21, 3) := by decide +kernel
theorem dX7_whyNotThrown_8 : decode cX7_whyNotThrown 8 = .ok (.iload_n 2, 1) := by decide +kernel
theorem dX7_whyNotThrown_9 : decode cX7_whyNotThrown 9 = .ok (.iload_n 3, 1) := by decide +kernel
theorem dX7_whyNotThrown_10 : decode cX7_whyNotThrown 10 = .ok (.if_icmp .eq 16, 3) := by decide +kernel
theorem dX7_whyNotThrown_13 : decode cX7_whyNotThrown 13 = .ok (.iload_n 3, 1) := by decide +kernel
theorem dX7_whyNotThrown_14 : decode cX7_whyNotThrown 14 = .ok (.iconst (-1), 1) := by decide +kernel
theorem dX7_whyNotThrown_15 : decode cX7_whyNotThrown 15 = .ok (.if_icmp .eq 13, 3) := by decide +kernel
theorem dX7_whyNotThrown_18 : decode cX7_whyNotThrown 18 = .ok (.aload_n 1, 1) := by decide +kernel
theorem dX7_whyNotThrown_19 : decode cX7_whyNotThrown 19 = .ok (.iload_n 3, 1) := by decide +kernel
theorem dX7_whyNotThrown_20 : decode cX7_whyNotThrown 20 = .ok (.invokevirtual 38, 3) := by decide +kernel
theorem dX7_whyNotThrown_23 : decode cX7_whyNotThrown 23 = .ok (.ifCond .ne 5, 3) := by decide +kernel
theorem dX7_whyNotThrown_26 : decode cX7_whyNotThrown 26 = .ok (.iconst 1, 1) := by decide +kernel
theorem dX7_whyNotThrown_27 : decode cX7_whyNotThrown 27 = .ok (.ireturn, 1) := by decide +kernel
theorem dX7_whyNotThrown_28 : decode cX7_whyNotThrown 28 = .ok (.aload_n 1, 1) := by decide +kernel
theorem dX7_whyNotThrown_29 : decode cX7_whyNotThrown 29 = .ok (.iload_n 2, 1) := by decide +kernel
theorem dX7_whyNotThrown_30 : decode cX7_whyNotThrown 30 = .ok (.invokevirtual 44, 3) := by decide +kernel
theorem dX7_whyNotThrown_33 : decode cX7_whyNotThrown 33 = .ok (.iconst (-1), 1) := by decide +kernel
theorem dX7_whyNotThrown_34 : decode cX7_whyNotThrown 34 = .ok (.if_icmp .ne 5, 3) := by decide +kernel
theorem dX7_whyNotThrown_37 : decode cX7_whyNotThrown 37 = .ok (.iconst 2, 1) := by decide +kernel
theorem dX7_whyNotThrown_38 : decode cX7_whyNotThrown 38 = .ok (.ireturn, 1) := by decide +kernel
theorem dX7_whyNotThrown_39 : decode cX7_whyNotThrown 39 = .ok (.aload_n 0, 1) := by decide +kernel
theorem dX7_whyNotThrown_40 : decode cX7_whyNotThrown 40 = .ok (.getfield 18, 3) := by decide +kernel
theorem dX7_whyNotThrown_43 : decode cX7_whyNotThrown 43 = .ok (.bipush 8, 2) := by decide +kernel
theorem dX7_whyNotThrown_45 : decode cX7_whyNotThrown 45 = .ok (.if_icmp .lt 7, 3) := by decide +kernel
theorem dX7_whyNotThrown_48 : decode cX7_whyNotThrown 48 = .ok (.iconst 3, 1) := by decide +kernel
theorem dX7_whyNotThrown_49 : decode cX7_whyNotThrown 49 = .ok (.goto 4, 3) := by decide +kernel
theorem dX7_whyNotThrown_52 : decode cX7_whyNotThrown 52 = .ok (.iconst 0, 1) := by decide +kernel
theorem dX7_whyNotThrown_53 : decode cX7_whyNotThrown 53 = .ok (.ireturn, 1) := by decide +kernel
theorem dX7_launch_0 : decode cX7_launch 0 = .ok (.aload_n 0, 1) := by decide +kernel
theorem dX7_launch_1 : decode cX7_launch 1 = .ok (.getfield 18, 3) := by decide +kernel
theorem dX7_launch_4 : decode cX7_launch 4 = .ok (.ifCond .lt 12, 3) := by decide +kernel
theorem dX7_launch_7 : decode cX7_launch 7 = .ok (.aload_n 0, 1) := by decide +kernel
theorem dX7_launch_8 : decode cX7_launch 8 = .ok (.getfield 18, 3) := by decide +kernel
theorem dX7_launch_11 : decode cX7_launch 11 = .ok (.bipush 8, 2) := by decide +kernel
theorem dX7_launch_13 : decode cX7_launch 13 = .ok (.if_icmp .lt 5, 3) := by decide +kernel
theorem dX7_launch_16 : decode cX7_launch 16 = .ok (.iconst (-1), 1) := by decide +kernel
theorem dX7_launch_17 : decode cX7_launch 17 = .ok (.ireturn, 1) := by decide +kernel
theorem dX7_launch_18 : decode cX7_launch 18 = .ok (.aload_n 0, 1) := by decide +kernel
theorem dX7_launch_19 : decode cX7_launch 19 = .ok (.getfield 11, 3) := by decide +kernel
theorem dX7_launch_22 : decode cX7_launch 22 = .ok (.aload_n 0, 1) := by decide +kernel
theorem dX7_launch_23 : decode cX7_launch 23 = .ok (.getfield 18, 3) := by decide +kernel
theorem dX7_launch_26 : decode cX7_launch 26 = .ok (.aaload, 1) := by decide +kernel
theorem dX7_launch_27 : decode cX7_launch 27 = .ok (.iload_n 2, 1) := by decide +kernel
theorem dX7_launch_28 : decode cX7_launch 28 = .ok (.iload_n 3, 1) := by decide +kernel
theorem dX7_launch_29 : decode cX7_launch 29 = .ok (.iload 4, 2) := by decide +kernel
theorem dX7_launch_31 : decode cX7_launch 31 = .ok (.aload_n 1, 1) := by decide +kernel
theorem dX7_launch_32 : decode cX7_launch 32 = .ok (.iload_n 2, 1) := by decide +kernel
theorem dX7_launch_33 : decode cX7_launch 33 = .ok (.invokevirtual 44, 3) := by decide +kernel
theorem dX7_launch_36 : decode cX7_launch 36 = .ok (.invokevirtual 48, 3) := by decide +kernel
theorem dX7_launch_39 : decode cX7_launch 39 = .ok (.aload_n 0, 1) := by decide +kernel
theorem dX7_launch_40 : decode cX7_launch 40 = .ok (.dup, 1) := by decide +kernel
theorem dX7_launch_41 : decode cX7_launch 41 = .ok (.getfield 18, 3) := by decide +kernel
theorem dX7_launch_44 : decode cX7_launch 44 = .ok (.iconst 1, 1) := by decide +kernel
theorem dX7_launch_45 : decode cX7_launch 45 = .ok (.iadd, 1) := by decide +kernel
theorem dX7_launch_46 : decode cX7_launch 46 = .ok (.putfield 18, 3) := by decide +kernel
theorem dX7_launch_49 : decode cX7_launch 49 = .ok (.aload_n 0, 1) := by decide +kernel
theorem dX7_launch_50 : decode cX7_launch 50 = .ok (.getfield 18, 3) := by decide +kernel
theorem dX7_launch_53 : decode cX7_launch 53 = .ok (.iconst 1, 1) := by decide +kernel
theorem dX7_launch_54 : decode cX7_launch 54 = .ok (.isub, 1) := by decide +kernel
theorem dX7_launch_55 : decode cX7_launch 55 = .ok (.ireturn, 1) := by decide +kernel
theorem dX7_whyNotLifted_0 : decode cX7_whyNotLifted 0 = .ok (.aload_n 0, 1) := by decide +kernel
theorem dX7_whyNotLifted_1 : decode cX7_whyNotLifted 1 = .ok (.iload_n 1, 1) := by decide +kernel
theorem dX7_whyNotLifted_2 : decode cX7_whyNotLifted 2 = .ok (.invokevirtual 52, 3) := by decide +kernel
theorem dX7_whyNotLifted_5 : decode cX7_whyNotLifted 5 = .ok (.ifCond .ne 5, 3) := by decide +kernel
theorem dX7_whyNotLifted_8 : decode cX7_whyNotLifted 8 = .ok (.iconst 1, 1) := by decide +kernel
theorem dX7_whyNotLifted_9 : decode cX7_whyNotLifted 9 = .ok (.ireturn, 1) := by decide +kernel
theorem dX7_whyNotLifted_10 : decode cX7_whyNotLifted 10 = .ok (.aload_n 0, 1) := by decide +kernel
theorem dX7_whyNotLifted_11 : decode cX7_whyNotLifted 11 = .ok (.getfield 11, 3) := by decide +kernel
theorem dX7_whyNotLifted_14 : decode cX7_whyNotLifted 14 = .ok (.iload_n 1, 1) := by decide +kernel
theorem dX7_whyNotLifted_15 : decode cX7_whyNotLifted 15 = .ok (.aaload, 1) := by decide +kernel
theorem dX7_whyNotLifted_16 : decode cX7_whyNotLifted 16 = .ok (.getfield 29, 3) := by decide +kernel
theorem dX7_whyNotLifted_19 : decode cX7_whyNotLifted 19 = .ok (.ifCond .ne 7, 3) := by decide +kernel
theorem dX7_whyNotLifted_22 : decode cX7_whyNotLifted 22 = .ok (.iconst 0, 1) := by decide +kernel
theorem dX7_whyNotLifted_23 : decode cX7_whyNotLifted 23 = .ok (.goto 4, 3) := by decide +kernel
theorem dX7_whyNotLifted_26 : decode cX7_whyNotLifted 26 = .ok (.iconst 2, 1) := by decide +kernel
theorem dX7_whyNotLifted_27 : decode cX7_whyNotLifted 27 = .ok (.ireturn, 1) := by decide +kernel
theorem dX7_raise_0 : decode cX7_raise 0 = .ok (.aload_n 0, 1) := by decide +kernel
theorem dX7_raise_1 : decode cX7_raise 1 = .ok (.iload_n 1, 1) := by decide +kernel
theorem dX7_raise_2 : decode cX7_raise 2 = .ok (.invokevirtual 52, 3) := by decide +kernel
theorem dX7_raise_5 : decode cX7_raise 5 = .ok (.ifCond .eq 13, 3) := by decide +kernel
theorem dX7_raise_8 : decode cX7_raise 8 = .ok (.aload_n 0, 1) := by decide +kernel
theorem dX7_raise_9 : decode cX7_raise 9 = .ok (.getfield 11, 3) := by decide +kernel
theorem dX7_raise_12 : decode cX7_raise 12 = .ok (.iload_n 1, 1) := by decide +kernel
theorem dX7_raise_13 : decode cX7_raise 13 = .ok (.aaload, 1) := by decide +kernel
theorem dX7_raise_14 : decode cX7_raise 14 = .ok (.iconst 5, 1) := by decide +kernel
theorem dX7_raise_15 : decode cX7_raise 15 = .ok (.putfield 29, 3) := by decide +kernel
theorem dX7_raise_18 : decode cX7_raise 18 = .ok (.return_, 1) := by decide +kernel
theorem dX7_swap_0 : decode cX7_swap 0 = .ok (.iconst 0, 1) := by decide +kernel
theorem dX7_swap_1 : decode cX7_swap 1 = .ok (.istore_n 3, 1) := by decide +kernel
theorem dX7_swap_2 : decode cX7_swap 2 = .ok (.iconst 0, 1) := by decide +kernel
theorem dX7_swap_3 : decode cX7_swap 3 = .ok (.istore 4, 2) := by decide +kernel
theorem dX7_swap_5 : decode cX7_swap 5 = .ok (.iload 4, 2) := by decide +kernel
theorem dX7_swap_7 : decode cX7_swap 7 = .ok (.aload_n 0, 1) := by decide +kernel
theorem dX7_swap_8 : decode cX7_swap 8 = .ok (.getfield 18, 3) := by decide +kernel
theorem dX7_swap_11 : decode cX7_swap 11 = .ok (.if_icmp .ge 73, 3) := by decide +kernel
theorem dX7_swap_14 : decode cX7_swap 14 = .ok (.iload 4, 2) := by decide +kernel
theorem dX7_swap_16 : decode cX7_swap 16 = .ok (.bipush 8, 2) := by decide +kernel
theorem dX7_swap_18 : decode cX7_swap 18 = .ok (.if_icmp .ge 66, 3) := by decide +kernel
theorem dX7_swap_21 : decode cX7_swap 21 = .ok (.aload_n 0, 1) := by decide +kernel
theorem dX7_swap_22 : decode cX7_swap 22 = .ok (.getfield 11, 3) := by decide +kernel
theorem dX7_swap_25 : decode cX7_swap 25 = .ok (.iload 4, 2) := by decide +kernel
theorem dX7_swap_27 : decode cX7_swap 27 = .ok (.aaload, 1) := by decide +kernel
theorem dX7_swap_28 : decode cX7_swap 28 = .ok (.astore 5, 2) := by decide +kernel
theorem dX7_swap_30 : decode cX7_swap 30 = .ok (.aload 5, 2) := by decide +kernel
theorem dX7_swap_32 : decode cX7_swap 32 = .ok (.getfield 29, 3) := by decide +kernel
theorem dX7_swap_35 : decode cX7_swap 35 = .ok (.ifCond .ne 43, 3) := by decide +kernel
theorem dX7_swap_38 : decode cX7_swap 38 = .ok (.aload 5, 2) := by decide +kernel
theorem dX7_swap_40 : decode cX7_swap 40 = .ok (.getfield 32, 3) := by decide +kernel
theorem dX7_swap_43 : decode cX7_swap 43 = .ok (.iload_n 1, 1) := by decide +kernel
theorem dX7_swap_44 : decode cX7_swap 44 = .ok (.if_icmp .eq 12, 3) := by decide +kernel
theorem dX7_swap_47 : decode cX7_swap 47 = .ok (.aload 5, 2) := by decide +kernel
theorem dX7_swap_49 : decode cX7_swap 49 = .ok (.getfield 32, 3) := by decide +kernel
theorem dX7_swap_52 : decode cX7_swap 52 = .ok (.iload_n 2, 1) := by decide +kernel
theorem dX7_swap_53 : decode cX7_swap 53 = .ok (.if_icmp .ne 25, 3) := by decide +kernel
theorem dX7_swap_56 : decode cX7_swap 56 = .ok (.aload 5, 2) := by decide +kernel
theorem dX7_swap_58 : decode cX7_swap 58 = .ok (.aload 5, 2) := by decide +kernel
theorem dX7_swap_60 : decode cX7_swap 60 = .ok (.getfield 32, 3) := by decide +kernel
theorem dX7_swap_63 : decode cX7_swap 63 = .ok (.iload_n 1, 1) := by decide +kernel
theorem dX7_swap_64 : decode cX7_swap 64 = .ok (.if_icmp .ne 7, 3) := by decide +kernel
theorem dX7_swap_67 : decode cX7_swap 67 = .ok (.iload_n 2, 1) := by decide +kernel
theorem dX7_swap_68 : decode cX7_swap 68 = .ok (.goto 4, 3) := by decide +kernel
theorem dX7_swap_71 : decode cX7_swap 71 = .ok (.iload_n 1, 1) := by decide +kernel
theorem dX7_swap_72 : decode cX7_swap 72 = .ok (.putfield 32, 3) := by decide +kernel
theorem dX7_swap_75 : decode cX7_swap 75 = .ok (.iinc 3 1, 3) := by decide +kernel
theorem dX7_swap_78 : decode cX7_swap 78 = .ok (.iinc 4 1, 3) := by decide +kernel
theorem dX7_swap_81 : decode cX7_swap 81 = .ok (.goto (-76), 3) := by decide +kernel
theorem dX7_swap_84 : decode cX7_swap 84 = .ok (.iload_n 3, 1) := by decide +kernel
theorem dX7_swap_85 : decode cX7_swap 85 = .ok (.ireturn, 1) := by decide +kernel
theorem dX7_ebb_0 : decode cX7_ebb 0 = .ok (.iconst 0, 1) := by decide +kernel
theorem dX7_ebb_1 : decode cX7_ebb 1 = .ok (.istore_n 2, 1) := by decide +kernel
theorem dX7_ebb_2 : decode cX7_ebb 2 = .ok (.iload_n 2, 1) := by decide +kernel
theorem dX7_ebb_3 : decode cX7_ebb 3 = .ok (.aload_n 0, 1) := by decide +kernel
theorem dX7_ebb_4 : decode cX7_ebb 4 = .ok (.getfield 18, 3) := by decide +kernel
theorem dX7_ebb_7 : decode cX7_ebb 7 = .ok (.if_icmp .ge 29, 3) := by decide +kernel
theorem dX7_ebb_10 : decode cX7_ebb 10 = .ok (.iload_n 2, 1) := by decide +kernel
theorem dX7_ebb_11 : decode cX7_ebb 11 = .ok (.bipush 8, 2) := by decide +kernel
theorem dX7_ebb_13 : decode cX7_ebb 13 = .ok (.if_icmp .ge 23, 3) := by decide +kernel
theorem dX7_ebb_16 : decode cX7_ebb 16 = .ok (.aload_n 1, 1) := by decide +kernel
theorem dX7_ebb_17 : decode cX7_ebb 17 = .ok (.aload_n 0, 1) := by decide +kernel
theorem dX7_ebb_18 : decode cX7_ebb 18 = .ok (.getfield 11, 3) := by decide +kernel
theorem dX7_ebb_21 : decode cX7_ebb 21 = .ok (.iload_n 2, 1) := by decide +kernel
theorem dX7_ebb_22 : decode cX7_ebb 22 = .ok (.aaload, 1) := by decide +kernel
theorem dX7_ebb_23 : decode cX7_ebb 23 = .ok (.aload_n 0, 1) := by decide +kernel
theorem dX7_ebb_24 : decode cX7_ebb 24 = .ok (.getfield 22, 3) := by decide +kernel
theorem dX7_ebb_27 : decode cX7_ebb 27 = .ok (.invokevirtual 55, 3) := by decide +kernel
theorem dX7_ebb_30 : decode cX7_ebb 30 = .ok (.iinc 2 1, 3) := by decide +kernel
theorem dX7_ebb_33 : decode cX7_ebb 33 = .ok (.goto (-31), 3) := by decide +kernel
theorem dX7_ebb_36 : decode cX7_ebb 36 = .ok (.aload_n 0, 1) := by decide +kernel
theorem dX7_ebb_37 : decode cX7_ebb 37 = .ok (.dup, 1) := by decide +kernel
theorem dX7_ebb_38 : decode cX7_ebb 38 = .ok (.getfield 22, 3) := by decide +kernel
theorem dX7_ebb_41 : decode cX7_ebb 41 = .ok (.iconst 1, 1) := by decide +kernel
theorem dX7_ebb_42 : decode cX7_ebb 42 = .ok (.iadd, 1) := by decide +kernel
theorem dX7_ebb_43 : decode cX7_ebb 43 = .ok (.putfield 22, 3) := by decide +kernel
theorem dX7_ebb_46 : decode cX7_ebb 46 = .ok (.return_, 1) := by decide +kernel
theorem dX8_init_0 : decode cX8_init 0 = .ok (.aload_n 0, 1) := by decide +kernel
theorem dX8_init_1 : decode cX8_init 1 = .ok (.invokespecial 3, 3) := by decide +kernel
theorem dX8_init_4 : decode cX8_init 4 = .ok (.aload_n 0, 1) := by decide +kernel
theorem dX8_init_5 : decode cX8_init 5 = .ok (.new 9, 3) := by decide +kernel
theorem dX8_init_8 : decode cX8_init 8 = .ok (.dup, 1) := by decide +kernel
theorem dX8_init_9 : decode cX8_init 9 = .ok (.invokespecial 11, 3) := by decide +kernel
theorem dX8_init_12 : decode cX8_init 12 = .ok (.putfield 12, 3) := by decide +kernel
theorem dX8_init_15 : decode cX8_init 15 = .ok (.aload_n 0, 1) := by decide +kernel
theorem dX8_init_16 : decode cX8_init 16 = .ok (.iconst 4, 1) := by decide +kernel
theorem dX8_init_17 : decode cX8_init 17 = .ok (.newarray .int, 2) := by decide +kernel
theorem dX8_init_19 : decode cX8_init 19 = .ok (.putfield 18, 3) := by decide +kernel
theorem dX8_init_22 : decode cX8_init 22 = .ok (.return_, 1) := by decide +kernel
theorem dX8_hear_0 : decode cX8_hear 0 = .ok (.aload_n 0, 1) := by decide +kernel
theorem dX8_hear_1 : decode cX8_hear 1 = .ok (.iconst 0, 1) := by decide +kernel
theorem dX8_hear_2 : decode cX8_hear 2 = .ok (.putfield 22, 3) := by decide +kernel
theorem dX8_hear_5 : decode cX8_hear 5 = .ok (.aload_n 0, 1) := by decide +kernel
theorem dX8_hear_6 : decode cX8_hear 6 = .ok (.iconst 0, 1) := by decide +kernel
theorem dX8_hear_7 : decode cX8_hear 7 = .ok (.putfield 26, 3) := by decide +kernel
theorem dX8_hear_10 : decode cX8_hear 10 = .ok (.aload_n 1, 1) := by decide +kernel
theorem dX8_hear_11 : decode cX8_hear 11 = .ok (.getfield 29, 3) := by decide +kernel
theorem dX8_hear_14 : decode cX8_hear 14 = .ok (.getfield 35, 3) := by decide +kernel
theorem dX8_hear_17 : decode cX8_hear 17 = .ok (.istore 5, 2) := by decide +kernel
theorem dX8_hear_19 : decode cX8_hear 19 = .ok (.iconst 0, 1) := by decide +kernel
theorem dX8_hear_20 : decode cX8_hear 20 = .ok (.istore 6, 2) := by decide +kernel
theorem dX8_hear_22 : decode cX8_hear 22 = .ok (.iload 6, 2) := by decide +kernel
theorem dX8_hear_24 : decode cX8_hear 24 = .ok (.iload 5, 2) := by decide +kernel
theorem dX8_hear_26 : decode cX8_hear 26 = .ok (.if_icmp .ge 58, 3) := by decide +kernel
theorem dX8_hear_29 : decode cX8_hear 29 = .ok (.iconst (-1), 1) := by decide +kernel
theorem dX8_hear_30 : decode cX8_hear 30 = .ok (.istore 7, 2) := by decide +kernel
theorem dX8_hear_32 : decode cX8_hear 32 = .ok (.iload 7, 2) := by decide +kernel
theorem dX8_hear_34 : decode cX8_hear 34 = .ok (.iload 5, 2) := by decide +kernel
theorem dX8_hear_36 : decode cX8_hear 36 = .ok (.if_icmp .ge 42, 3) := by decide +kernel
theorem dX8_hear_39 : decode cX8_hear 39 = .ok (.iload 7, 2) := by decide +kernel
theorem dX8_hear_41 : decode cX8_hear 41 = .ok (.iload 6, 2) := by decide +kernel
theorem dX8_hear_43 : decode cX8_hear 43 = .ok (.if_icmp .eq 29, 3) := by decide +kernel
theorem dX8_hear_46 : decode cX8_hear 46 = .ok (.aload_n 1, 1) := by decide +kernel
theorem dX8_hear_47 : decode cX8_hear 47 = .ok (.getfield 29, 3) := by decide +kernel
theorem dX8_hear_50 : decode cX8_hear 50 = .ok (.iload 6, 2) := by decide +kernel
theorem dX8_hear_52 : decode cX8_hear 52 = .ok (.invokevirtual 40, 3) := by decide +kernel
theorem dX8_hear_55 : decode cX8_hear 55 = .ok (.iconst (-1), 1) := by decide +kernel
theorem dX8_hear_56 : decode cX8_hear 56 = .ok (.if_icmp .eq 16, 3) := by decide +kernel
theorem dX8_hear_59 : decode cX8_hear 59 = .ok (.aload_n 0, 1) := by decide +kernel
theorem dX8_hear_60 : decode cX8_hear 60 = .ok (.aload_n 1, 1) := by decide +kernel
theorem dX8_hear_61 : decode cX8_hear 61 = .ok (.aload_n 2, 1) := by decide +kernel
theorem dX8_hear_62 : decode cX8_hear 62 = .ok (.iload_n 3, 1) := by decide +kernel
theorem dX8_hear_63 : decode cX8_hear 63 = .ok (.iload 4, 2) := by decide +kernel
theorem dX8_hear_65 : decode cX8_hear 65 = .ok (.iload 6, 2) := by decide +kernel
theorem dX8_hear_67 : decode cX8_hear 67 = .ok (.iload 7, 2) := by decide +kernel
theorem dX8_hear_69 : decode cX8_hear 69 = .ok (.invokevirtual 44, 3) := by decide +kernel
theorem dX8_hear_72 : decode cX8_hear 72 = .ok (.iinc 7 1, 3) := by decide +kernel
theorem dX8_hear_75 : decode cX8_hear 75 = .ok (.goto (-43), 3) := by decide +kernel
theorem dX8_hear_78 : decode cX8_hear 78 = .ok (.iinc 6 1, 3) := by decide +kernel
theorem dX8_hear_81 : decode cX8_hear 81 = .ok (.goto (-59), 3) := by decide +kernel
theorem dX8_hear_84 : decode cX8_hear 84 = .ok (.return_, 1) := by decide +kernel
theorem dX8_hearOf_0 : decode cX8_hearOf 0 = .ok (.iconst 0, 1) := by decide +kernel
theorem dX8_hearOf_1 : decode cX8_hearOf 1 = .ok (.istore 7, 2) := by decide +kernel
theorem dX8_hearOf_3 : decode cX8_hearOf 3 = .ok (.iload 7, 2) := by decide +kernel
theorem dX8_hearOf_5 : decode cX8_hearOf 5 = .ok (.iconst 2, 1) := by decide +kernel
theorem dX8_hearOf_6 : decode cX8_hearOf 6 = .ok (.if_icmp .ge 138, 3) := by decide +kernel
theorem dX8_hearOf_9 : decode cX8_hearOf 9 = .ok (.iconst 0, 1) := by decide +kernel
theorem dX8_hearOf_10 : decode cX8_hearOf 10 = .ok (.istore 8, 2) := by decide +kernel
theorem dX8_hearOf_12 : decode cX8_hearOf 12 = .ok (.iload 8, 2) := by decide +kernel
theorem dX8_hearOf_14 : decode cX8_hearOf 14 = .ok (.bipush 30, 2) := by decide +kernel
theorem dX8_hearOf_16 : decode cX8_hearOf 16 = .ok (.if_icmp .gt 122, 3) := by decide +kernel
theorem dX8_hearOf_19 : decode cX8_hearOf 19 = .ok (.iload 8, 2) := by decide +kernel
theorem dX8_hearOf_21 : decode cX8_hearOf 21 = .ok (.iload_n 3, 1) := by decide +kernel
theorem dX8_hearOf_22 : decode cX8_hearOf 22 = .ok (.if_icmp .gt 116, 3) := by decide +kernel
theorem dX8_hearOf_25 : decode cX8_hearOf 25 = .ok (.aload_n 0, 1) := by decide +kernel
theorem dX8_hearOf_26 : decode cX8_hearOf 26 = .ok (.getfield 12, 3) := by decide +kernel
theorem dX8_hearOf_29 : decode cX8_hearOf 29 = .ok (.iload 5, 2) := by decide +kernel
theorem dX8_hearOf_31 : decode cX8_hearOf 31 = .ok (.iload 6, 2) := by decide +kernel
theorem dX8_hearOf_33 : decode cX8_hearOf 33 = .ok (.iload 7, 2) := by decide +kernel
theorem dX8_hearOf_35 : decode cX8_hearOf 35 = .ok (.iconst 1, 1) := by decide +kernel
theorem dX8_hearOf_36 : decode cX8_hearOf 36 = .ok (.if_icmp .ne 7, 3) := by decide +kernel
theorem dX8_hearOf_39 : decode cX8_hearOf 39 = .ok (.iconst 1, 1) := by decide +kernel
theorem dX8_hearOf_40 : decode cX8_hearOf 40 = .ok (.goto 4, 3) := by decide +kernel
theorem dX8_hearOf_43 : decode cX8_hearOf 43 = .ok (.iconst 0, 1) := by decide +kernel
theorem dX8_hearOf_44 : decode cX8_hearOf 44 = .ok (.aload_n 1, 1) := by decide +kernel
theorem dX8_hearOf_45 : decode cX8_hearOf 45 = .ok (.getfield 29, 3) := by decide +kernel
theorem dX8_hearOf_48 : decode cX8_hearOf 48 = .ok (.iload 5, 2) := by decide +kernel
theorem dX8_hearOf_50 : decode cX8_hearOf 50 = .ok (.invokevirtual 40, 3) := by decide +kernel
theorem dX8_hearOf_53 : decode cX8_hearOf 53 = .ok (.invokevirtual 48, 3) := by decide +kernel
theorem dX8_hearOf_56 : decode cX8_hearOf 56 = .ok (.aload_n 0, 1) := by decide +kernel
theorem dX8_hearOf_57 : decode cX8_hearOf 57 = .ok (.aload_n 1, 1) := by decide +kernel
theorem dX8_hearOf_58 : decode cX8_hearOf 58 = .ok (.aload_n 2, 1) := by decide +kernel
theorem dX8_hearOf_59 : decode cX8_hearOf 59 = .ok (.iload_n 3, 1) := by decide +kernel
theorem dX8_hearOf_60 : decode cX8_hearOf 60 = .ok (.iload 8, 2) := by decide +kernel
theorem dX8_hearOf_62 : decode cX8_hearOf 62 = .ok (.invokevirtual 52, 3) := by decide +kernel
theorem dX8_hearOf_65 : decode cX8_hearOf 65 = .ok (.ifCond .eq 67, 3) := by decide +kernel
theorem dX8_hearOf_68 : decode cX8_hearOf 68 = .ok (.aload_n 0, 1) := by decide +kernel
theorem dX8_hearOf_69 : decode cX8_hearOf 69 = .ok (.getfield 22, 3) := by decide +kernel
theorem dX8_hearOf_72 : decode cX8_hearOf 72 = .ok (.iload 4, 2) := by decide +kernel
theorem dX8_hearOf_74 : decode cX8_hearOf 74 = .ok (.if_icmp .ne 35, 3) := by decide +kernel
theorem dX8_hearOf_77 : decode cX8_hearOf 77 = .ok (.aload_n 0, 1) := by decide +kernel
theorem dX8_hearOf_78 : decode cX8_hearOf 78 = .ok (.getfield 18, 3) := by decide +kernel
theorem dX8_hearOf_81 : decode cX8_hearOf 81 = .ok (.iconst 0, 1) := by decide +kernel
theorem dX8_hearOf_82 : decode cX8_hearOf 82 = .ok (.iload 5, 2) := by decide +kernel
theorem dX8_hearOf_84 : decode cX8_hearOf 84 = .ok (.iastore, 1) := by decide +kernel
theorem dX8_hearOf_85 : decode cX8_hearOf 85 = .ok (.aload_n 0, 1) := by decide +kernel
theorem dX8_hearOf_86 : decode cX8_hearOf 86 = .ok (.getfield 18, 3) := by decide +kernel
theorem dX8_hearOf_89 : decode cX8_hearOf 89 = .ok (.iconst 1, 1) := by decide +kernel
theorem dX8_hearOf_90 : decode cX8_hearOf 90 = .ok (.iload 6, 2) := by decide +kernel
theorem dX8_hearOf_92 : decode cX8_hearOf 92 = .ok (.iastore, 1) := by decide +kernel
theorem dX8_hearOf_93 : decode cX8_hearOf 93 = .ok (.aload_n 0, 1) := by decide +kernel
theorem dX8_hearOf_94 : decode cX8_hearOf 94 = .ok (.getfield 18, 3) := by decide +kernel
theorem dX8_hearOf_97 : decode cX8_hearOf 97 = .ok (.iconst 2, 1) := by decide +kernel
theorem dX8_hearOf_98 : decode cX8_hearOf 98 = .ok (.iload 7, 2) := by decide +kernel
theorem dX8_hearOf_100 : decode cX8_hearOf 100 = .ok (.iastore, 1) := by decide +kernel
theorem dX8_hearOf_101 : decode cX8_hearOf 101 = .ok (.aload_n 0, 1) := by decide +kernel
theorem dX8_hearOf_102 : decode cX8_hearOf 102 = .ok (.getfield 18, 3) := by decide +kernel
theorem dX8_hearOf_105 : decode cX8_hearOf 105 = .ok (.iconst 3, 1) := by decide +kernel
theorem dX8_hearOf_106 : decode cX8_hearOf 106 = .ok (.iload 8, 2) := by decide +kernel
theorem dX8_hearOf_108 : decode cX8_hearOf 108 = .ok (.iastore, 1) := by decide +kernel
theorem dX8_hearOf_109 : decode cX8_hearOf 109 = .ok (.aload_n 0, 1) := by decide +kernel
theorem dX8_hearOf_110 : decode cX8_hearOf 110 = .ok (.dup, 1) := by decide +kernel
theorem dX8_hearOf_111 : decode cX8_hearOf 111 = .ok (.getfield 22, 3) := by decide +kernel
theorem dX8_hearOf_114 : decode cX8_hearOf 114 = .ok (.iconst 1, 1) := by decide +kernel
theorem dX8_hearOf_115 : decode cX8_hearOf 115 = .ok (.iadd, 1) := by decide +kernel
theorem dX8_hearOf_116 : decode cX8_hearOf 116 = .ok (.putfield 22, 3) := by decide +kernel
theorem dX8_hearOf_119 : decode cX8_hearOf 119 = .ok (.aload_n 0, 1) := by decide +kernel
theorem dX8_hearOf_120 : decode cX8_hearOf 120 = .ok (.dup, 1) := by decide +kernel
theorem dX8_hearOf_121 : decode cX8_hearOf 121 = .ok (.getfield 26, 3) := by decide +kernel
theorem dX8_hearOf_124 : decode cX8_hearOf 124 = .ok (.iconst 1, 1) := by decide +kernel
theorem dX8_hearOf_125 : decode cX8_hearOf 125 = .ok (.iload 5, 2) := by decide +kernel
theorem dX8_hearOf_127 : decode cX8_hearOf 127 = .ok (.ishl, 1) := by decide +kernel
theorem dX8_hearOf_128 : decode cX8_hearOf 128 = .ok (.ior, 1) := by decide +kernel
theorem dX8_hearOf_129 : decode cX8_hearOf 129 = .ok (.putfield 26, 3) := by decide +kernel
theorem dX8_hearOf_132 : decode cX8_hearOf 132 = .ok (.iinc 8 1, 3) := by decide +kernel
theorem dX8_hearOf_135 : decode cX8_hearOf 135 = .ok (.goto (-123), 3) := by decide +kernel
theorem dX8_hearOf_138 : decode cX8_hearOf 138 = .ok (.iinc 7 1, 3) := by decide +kernel
theorem dX8_hearOf_141 : decode cX8_hearOf 141 = .ok (.goto (-138), 3) := by decide +kernel
theorem dX8_hearOf_144 : decode cX8_hearOf 144 = .ok (.return_, 1) := by decide +kernel
theorem dX8_fits_0 : decode cX8_fits 0 = .ok (.iconst 0, 1) := by decide +kernel
theorem dX8_fits_1 : decode cX8_fits 1 = .ok (.istore 5, 2) := by decide +kernel
theorem dX8_fits_3 : decode cX8_fits 3 = .ok (.iload 4, 2) := by decide +kernel
theorem dX8_fits_5 : decode cX8_fits 5 = .ok (.istore 6, 2) := by decide +kernel
theorem dX8_fits_7 : decode cX8_fits 7 = .ok (.iload 6, 2) := by decide +kernel
theorem dX8_fits_9 : decode cX8_fits 9 = .ok (.ifCond .lt 77, 3) := by decide +kernel
theorem dX8_fits_12 : decode cX8_fits 12 = .ok (.iconst 0, 1) := by decide +kernel
theorem dX8_fits_13 : decode cX8_fits 13 = .ok (.istore 7, 2) := by decide +kernel
theorem dX8_fits_15 : decode cX8_fits 15 = .ok (.iload 7, 2) := by decide +kernel
theorem dX8_fits_17 : decode cX8_fits 17 = .ok (.aload_n 2, 1) := by decide +kernel
theorem dX8_fits_18 : decode cX8_fits 18 = .ok (.getfield 56, 3) := by decide +kernel
theorem dX8_fits_21 : decode cX8_fits 21 = .ok (.if_icmp .ge 47, 3) := by decide +kernel
theorem dX8_fits_24 : decode cX8_fits 24 = .ok (.aload_n 2, 1) := by decide +kernel
theorem dX8_fits_25 : decode cX8_fits 25 = .ok (.iload 7, 2) := by decide +kernel
theorem dX8_fits_27 : decode cX8_fits 27 = .ok (.iconst 1, 1) := by decide +kernel
theorem dX8_fits_28 : decode cX8_fits 28 = .ok (.iadd, 1) := by decide +kernel
theorem dX8_fits_29 : decode cX8_fits 29 = .ok (.invokevirtual 61, 3) := by decide +kernel
theorem dX8_fits_32 : decode cX8_fits 32 = .ok (.iload 6, 2) := by decide +kernel
theorem dX8_fits_34 : decode cX8_fits 34 = .ok (.i2l, 1) := by decide +kernel
theorem dX8_fits_35 : decode cX8_fits 35 = .ok (.lcmp, 1) := by decide +kernel
theorem dX8_fits_36 : decode cX8_fits 36 = .ok (.ifCond .ne 26, 3) := by decide +kernel
theorem dX8_fits_39 : decode cX8_fits 39 = .ok (.aload_n 2, 1) := by decide +kernel
theorem dX8_fits_40 : decode cX8_fits 40 = .ok (.iload 7, 2) := by decide +kernel
theorem dX8_fits_42 : decode cX8_fits 42 = .ok (.invokevirtual 61, 3) := by decide +kernel
theorem dX8_fits_45 : decode cX8_fits 45 = .ok (.aload_n 0, 1) := by decide +kernel
theorem dX8_fits_46 : decode cX8_fits 46 = .ok (.getfield 12, 3) := by decide +kernel
theorem dX8_fits_49 : decode cX8_fits 49 = .ok (.invokevirtual 65, 3) := by decide +kernel
theorem dX8_fits_52 : decode cX8_fits 52 = .ok (.i2l, 1) := by decide +kernel
theorem dX8_fits_53 : decode cX8_fits 53 = .ok (.lcmp, 1) := by decide +kernel
theorem dX8_fits_54 : decode cX8_fits 54 = .ok (.ifCond .eq 5, 3) := by decide +kernel
theorem dX8_fits_57 : decode cX8_fits 57 = .ok (.iconst 0, 1) := by decide +kernel
theorem dX8_fits_58 : decode cX8_fits 58 = .ok (.ireturn, 1) := by decide +kernel
theorem dX8_fits_59 : decode cX8_fits 59 = .ok (.iinc 5 1, 3) := by decide +kernel
theorem dX8_fits_62 : decode cX8_fits 62 = .ok (.iinc 7 2, 3) := by decide +kernel
theorem dX8_fits_65 : decode cX8_fits 65 = .ok (.goto (-50), 3) := by decide +kernel
theorem dX8_fits_68 : decode cX8_fits 68 = .ok (.aload_n 1, 1) := by decide +kernel
theorem dX8_fits_69 : decode cX8_fits 69 = .ok (.aload_n 0, 1) := by decide +kernel
theorem dX8_fits_70 : decode cX8_fits 70 = .ok (.getfield 12, 3) := by decide +kernel
theorem dX8_fits_73 : decode cX8_fits 73 = .ok (.iload_n 3, 1) := by decide +kernel
theorem dX8_fits_74 : decode cX8_fits 74 = .ok (.iload 6, 2) := by decide +kernel
theorem dX8_fits_76 : decode cX8_fits 76 = .ok (.isub, 1) := by decide +kernel
theorem dX8_fits_77 : decode cX8_fits 77 = .ok (.invokevirtual 69, 3) := by decide +kernel
theorem dX8_fits_80 : decode cX8_fits 80 = .ok (.iinc 6 (-1), 3) := by decide +kernel
theorem dX8_fits_83 : decode cX8_fits 83 = .ok (.goto (-76), 3) := by decide +kernel
theorem dX8_fits_86 : decode cX8_fits 86 = .ok (.iload 5, 2) := by decide +kernel
theorem dX8_fits_88 : decode cX8_fits 88 = .ok (.iconst 2, 1) := by decide +kernel
theorem dX8_fits_89 : decode cX8_fits 89 = .ok (.imul, 1) := by decide +kernel
theorem dX8_fits_90 : decode cX8_fits 90 = .ok (.aload_n 2, 1) := by decide +kernel
theorem dX8_fits_91 : decode cX8_fits 91 = .ok (.getfield 56, 3) := by decide +kernel
theorem dX8_fits_94 : decode cX8_fits 94 = .ok (.if_icmp .ne 7, 3) := by decide +kernel
theorem dX8_fits_97 : decode cX8_fits 97 = .ok (.iconst 1, 1) := by decide +kernel
theorem dX8_fits_98 : decode cX8_fits 98 = .ok (.goto 4, 3) := by decide +kernel
theorem dX8_fits_101 : decode cX8_fits 101 = .ok (.iconst 0, 1) := by decide +kernel
theorem dX8_fits_102 : decode cX8_fits 102 = .ok (.ireturn, 1) := by decide +kernel
theorem dX9_init_0 : decode cX9_init 0 = .ok (.aload_n 0, 1) := by decide +kernel
theorem dX9_init_1 : decode cX9_init 1 = .ok (.invokespecial 3, 3) := by decide +kernel
theorem dX9_init_4 : decode cX9_init 4 = .ok (.aload_n 0, 1) := by decide +kernel
theorem dX9_init_5 : decode cX9_init 5 = .ok (.sipush 900, 3) := by decide +kernel
theorem dX9_init_8 : decode cX9_init 8 = .ok (.newarray .byte, 2) := by decide +kernel
theorem dX9_init_10 : decode cX9_init 10 = .ok (.putfield 9, 3) := by decide +kernel
theorem dX9_init_13 : decode cX9_init 13 = .ok (.aload_n 0, 1) := by decide +kernel
theorem dX9_init_14 : decode cX9_init 14 = .ok (.new 13, 3) := by decide +kernel
theorem dX9_init_17 : decode cX9_init 17 = .ok (.dup, 1) := by decide +kernel
theorem dX9_init_18 : decode cX9_init 18 = .ok (.invokespecial 15, 3) := by decide +kernel
theorem dX9_init_21 : decode cX9_init 21 = .ok (.putfield 16, 3) := by decide +kernel
theorem dX9_init_24 : decode cX9_init 24 = .ok (.aload_n 0, 1) := by decide +kernel
theorem dX9_init_25 : decode cX9_init 25 = .ok (.new 20, 3) := by decide +kernel
theorem dX9_init_28 : decode cX9_init 28 = .ok (.dup, 1) := by decide +kernel
theorem dX9_init_29 : decode cX9_init 29 = .ok (.invokespecial 22, 3) := by decide +kernel
theorem dX9_init_32 : decode cX9_init 32 = .ok (.putfield 23, 3) := by decide +kernel
theorem dX9_init_35 : decode cX9_init 35 = .ok (.aload_n 0, 1) := by decide +kernel
theorem dX9_init_36 : decode cX9_init 36 = .ok (.aload_n 0, 1) := by decide +kernel
theorem dX9_init_37 : decode cX9_init 37 = .ok (.getfield 23, 3) := by decide +kernel
theorem dX9_init_40 : decode cX9_init 40 = .ok (.getfield 27, 3) := by decide +kernel
theorem dX9_init_43 : decode cX9_init 43 = .ok (.putfield 31, 3) := by decide +kernel
theorem dX9_init_46 : decode cX9_init 46 = .ok (.aload_n 0, 1) := by decide +kernel
theorem dX9_init_47 : decode cX9_init 47 = .ok (.new 32, 3) := by decide +kernel
theorem dX9_init_50 : decode cX9_init 50 = .ok (.dup, 1) := by decide +kernel
theorem dX9_init_51 : decode cX9_init 51 = .ok (.invokespecial 34, 3) := by decide +kernel
theorem dX9_init_54 : decode cX9_init 54 = .ok (.putfield 35, 3) := by decide +kernel
theorem dX9_init_57 : decode cX9_init 57 = .ok (.aload_n 0, 1) := by decide +kernel
theorem dX9_init_58 : decode cX9_init 58 = .ok (.new 32, 3) := by decide +kernel
theorem dX9_init_61 : decode cX9_init 61 = .ok (.dup, 1) := by decide +kernel
theorem dX9_init_62 : decode cX9_init 62 = .ok (.invokespecial 34, 3) := by decide +kernel
theorem dX9_init_65 : decode cX9_init 65 = .ok (.putfield 39, 3) := by decide +kernel
theorem dX9_init_68 : decode cX9_init 68 = .ok (.aload_n 0, 1) := by decide +kernel
theorem dX9_init_69 : decode cX9_init 69 = .ok (.new 42, 3) := by decide +kernel
theorem dX9_init_72 : decode cX9_init 72 = .ok (.dup, 1) := by decide +kernel
theorem dX9_init_73 : decode cX9_init 73 = .ok (.invokespecial 44, 3) := by decide +kernel
theorem dX9_init_76 : decode cX9_init 76 = .ok (.putfield 45, 3) := by decide +kernel
theorem dX9_init_79 : decode cX9_init 79 = .ok (.aload_n 0, 1) := by decide +kernel
theorem dX9_init_80 : decode cX9_init 80 = .ok (.new 49, 3) := by decide +kernel
theorem dX9_init_83 : decode cX9_init 83 = .ok (.dup, 1) := by decide +kernel
theorem dX9_init_84 : decode cX9_init 84 = .ok (.invokespecial 51, 3) := by decide +kernel
theorem dX9_init_87 : decode cX9_init 87 = .ok (.putfield 52, 3) := by decide +kernel
theorem dX9_init_90 : decode cX9_init 90 = .ok (.aload_n 0, 1) := by decide +kernel
theorem dX9_init_91 : decode cX9_init 91 = .ok (.new 56, 3) := by decide +kernel
theorem dX9_init_94 : decode cX9_init 94 = .ok (.dup, 1) := by decide +kernel
theorem dX9_init_95 : decode cX9_init 95 = .ok (.invokespecial 58, 3) := by decide +kernel
theorem dX9_init_98 : decode cX9_init 98 = .ok (.putfield 59, 3) := by decide +kernel
theorem dX9_init_101 : decode cX9_init 101 = .ok (.aload_n 0, 1) := by decide +kernel
theorem dX9_init_102 : decode cX9_init 102 = .ok (.new 63, 3) := by decide +kernel
theorem dX9_init_105 : decode cX9_init 105 = .ok (.dup, 1) := by decide +kernel
theorem dX9_init_106 : decode cX9_init 106 = .ok (.invokespecial 65, 3) := by decide +kernel
theorem dX9_init_109 : decode cX9_init 109 = .ok (.putfield 66, 3) := by decide +kernel
theorem dX9_init_112 : decode cX9_init 112 = .ok (.aload_n 0, 1) := by decide +kernel
theorem dX9_init_113 : decode cX9_init 113 = .ok (.bipush 8, 2) := by decide +kernel
theorem dX9_init_115 : decode cX9_init 115 = .ok (.newarray .long, 2) := by decide +kernel
theorem dX9_init_117 : decode cX9_init 117 = .ok (.putfield 70, 3) := by decide +kernel
theorem dX9_init_120 : decode cX9_init 120 = .ok (.aload_n 0, 1) := by decide +kernel
theorem dX9_init_121 : decode cX9_init 121 = .ok (.iconst 4, 1) := by decide +kernel
theorem dX9_init_122 : decode cX9_init 122 = .ok (.anewarray 74, 3) := by decide +kernel
theorem dX9_init_125 : decode cX9_init 125 = .ok (.putfield 76, 3) := by decide +kernel
theorem dX9_init_128 : decode cX9_init 128 = .ok (.aload_n 0, 1) := by decide +kernel
theorem dX9_init_129 : decode cX9_init 129 = .ok (.iconst 2, 1) := by decide +kernel
theorem dX9_init_130 : decode cX9_init 130 = .ok (.anewarray 80, 3) := by decide +kernel
theorem dX9_init_133 : decode cX9_init 133 = .ok (.putfield 82, 3) := by decide +kernel
theorem dX9_init_136 : decode cX9_init 136 = .ok (.aload_n 0, 1) := by decide +kernel
theorem dX9_init_137 : decode cX9_init 137 = .ok (.iconst 2, 1) := by decide +kernel
theorem dX9_init_138 : decode cX9_init 138 = .ok (.anewarray 32, 3) := by decide +kernel
theorem dX9_init_141 : decode cX9_init 141 = .ok (.putfield 86, 3) := by decide +kernel
theorem dX9_init_144 : decode cX9_init 144 = .ok (.aload_n 0, 1) := by decide +kernel
theorem dX9_init_145 : decode cX9_init 145 = .ok (.iconst 2, 1) := by decide +kernel
theorem dX9_init_146 : decode cX9_init 146 = .ok (.newarray .boolean, 2) := by decide +kernel
theorem dX9_init_148 : decode cX9_init 148 = .ok (.putfield 90, 3) := by decide +kernel
theorem dX9_init_151 : decode cX9_init 151 = .ok (.iconst 0, 1) := by decide +kernel
theorem dX9_init_152 : decode cX9_init 152 = .ok (.istore_n 1, 1) := by decide +kernel
theorem dX9_init_153 : decode cX9_init 153 = .ok (.iload_n 1, 1) := by decide +kernel
theorem dX9_init_154 : decode cX9_init 154 = .ok (.iconst 4, 1) := by decide +kernel
theorem dX9_init_155 : decode cX9_init 155 = .ok (.if_icmp .ge 22, 3) := by decide +kernel
theorem dX9_init_158 : decode cX9_init 158 = .ok (.aload_n 0, 1) := by decide +kernel
theorem dX9_init_159 : decode cX9_init 159 = .ok (.getfield 76, 3) := by decide +kernel
theorem dX9_init_162 : decode cX9_init 162 = .ok (.iload_n 1, 1) := by decide +kernel
theorem dX9_init_163 : decode cX9_init 163 = .ok (.new 74, 3) := by decide +kernel
theorem dX9_init_166 : decode cX9_init 166 = .ok (.dup, 1) := by decide +kernel
theorem dX9_init_167 : decode cX9_init 167 = .ok (.invokespecial 94, 3) := by decide +kernel
theorem dX9_init_170 : decode cX9_init 170 = .ok (.aastore, 1) := by decide +kernel
theorem dX9_init_171 : decode cX9_init 171 = .ok (.iinc 1 1, 3) := by decide +kernel
theorem dX9_init_174 : decode cX9_init 174 = .ok (.goto (-21), 3) := by decide +kernel
theorem dX9_init_177 : decode cX9_init 177 = .ok (.iconst 0, 1) := by decide +kernel
theorem dX9_init_178 : decode cX9_init 178 = .ok (.istore_n 1, 1) := by decide +kernel
theorem dX9_init_179 : decode cX9_init 179 = .ok (.iload_n 1, 1) := by decide +kernel
theorem dX9_init_180 : decode cX9_init 180 = .ok (.iconst 2, 1) := by decide +kernel
theorem dX9_init_181 : decode cX9_init 181 = .ok (.if_icmp .ge 35, 3) := by decide +kernel
theorem dX9_init_184 : decode cX9_init 184 = .ok (.aload_n 0, 1) := by decide +kernel
theorem dX9_init_185 : decode cX9_init 185 = .ok (.getfield 82, 3) := by decide +kernel
theorem dX9_init_188 : decode cX9_init 188 = .ok (.iload_n 1, 1) := by decide +kernel
theorem dX9_init_189 : decode cX9_init 189 = .ok (.new 80, 3) := by decide +kernel
theorem dX9_init_192 : decode cX9_init 192 = .ok (.dup, 1) := by decide +kernel
theorem dX9_init_193 : decode cX9_init 193 = .ok (.invokespecial 95, 3) := by decide +kernel
theorem dX9_init_196 : decode cX9_init 196 = .ok (.aastore, 1) := by decide +kernel
theorem dX9_init_197 : decode cX9_init 197 = .ok (.aload_n 0, 1) := by decide +kernel
theorem dX9_init_198 : decode cX9_init 198 = .ok (.getfield 86, 3) := by decide +kernel
theorem dX9_init_201 : decode cX9_init 201 = .ok (.iload_n 1, 1) := by decide +kernel
theorem dX9_init_202 : decode cX9_init 202 = .ok (.new 32, 3) := by decide +kernel
theorem dX9_init_205 : decode cX9_init 205 = .ok (.dup, 1) := by decide +kernel
theorem dX9_init_206 : decode cX9_init 206 = .ok (.invokespecial 34, 3) := by decide +kernel
theorem dX9_init_209 : decode cX9_init 209 = .ok (.aastore, 1) := by decide +kernel
theorem dX9_init_210 : decode cX9_init 210 = .ok (.iinc 1 1, 3) := by decide +kernel
theorem dX9_init_213 : decode cX9_init 213 = .ok (.goto (-34), 3) := by decide +kernel
theorem dX9_init_216 : decode cX9_init 216 = .ok (.return_, 1) := by decide +kernel
theorem dX9_feed_0 : decode cX9_feed 0 = .ok (.aload_n 0, 1) := by decide +kernel
theorem dX9_feed_1 : decode cX9_feed 1 = .ok (.getfield 96, 3) := by decide +kernel
theorem dX9_feed_4 : decode cX9_feed 4 = .ok (.bipush 20, 2) := by decide +kernel
theorem dX9_feed_6 : decode cX9_feed 6 = .ok (.iadd, 1) := by decide +kernel
theorem dX9_feed_7 : decode cX9_feed 7 = .ok (.sipush 900, 3) := by decide +kernel
theorem dX9_feed_10 : decode cX9_feed 10 = .ok (.if_icmp .le 6, 3) := by decide +kernel
theorem dX9_feed_13 : decode cX9_feed 13 = .ok (.bipush (-5), 2) := by decide +kernel
theorem dX9_feed_15 : decode cX9_feed 15 = .ok (.ireturn, 1) := by decide +kernel
theorem dX9_feed_16 : decode cX9_feed 16 = .ok (.aload_n 0, 1) := by decide +kernel
theorem dX9_feed_17 : decode cX9_feed 17 = .ok (.iload_n 1, 1) := by decide +kernel
theorem dX9_feed_18 : decode cX9_feed 18 = .ok (.invokevirtual 100, 3) := by decide +kernel
theorem dX9_feed_21 : decode cX9_feed 21 = .ok (.aload_n 0, 1) := by decide +kernel
theorem dX9_feed_22 : decode cX9_feed 22 = .ok (.iload_n 2, 1) := by decide +kernel
theorem dX9_feed_23 : decode cX9_feed 23 = .ok (.invokevirtual 100, 3) := by decide +kernel
theorem dX9_feed_26 : decode cX9_feed 26 = .ok (.aload_n 0, 1) := by decide +kernel
theorem dX9_feed_27 : decode cX9_feed 27 = .ok (.iload_n 3, 1) := by decide +kernel
theorem dX9_feed_28 : decode cX9_feed 28 = .ok (.invokevirtual 100, 3) := by decide +kernel
theorem dX9_feed_31 : decode cX9_feed 31 = .ok (.aload_n 0, 1) := by decide +kernel
theorem dX9_feed_32 : decode cX9_feed 32 = .ok (.iload 4, 2) := by decide +kernel
theorem dX9_feed_34 : decode cX9_feed 34 = .ok (.invokevirtual 100, 3) := by decide +kernel
theorem dX9_feed_37 : decode cX9_feed 37 = .ok (.aload_n 0, 1) := by decide +kernel
theorem dX9_feed_38 : decode cX9_feed 38 = .ok (.iload 5, 2) := by decide +kernel
theorem dX9_feed_40 : decode cX9_feed 40 = .ok (.invokevirtual 100, 3) := by decide +kernel
theorem dX9_feed_43 : decode cX9_feed 43 = .ok (.aload_n 0, 1) := by decide +kernel
theorem dX9_feed_44 : decode cX9_feed 44 = .ok (.getfield 96, 3) := by decide +kernel
theorem dX9_feed_47 : decode cX9_feed 47 = .ok (.ireturn, 1) := by decide +kernel
theorem dX9_tapeFour_0 : decode cX9_tapeFour 0 = .ok (.bipush 24, 2) := by decide +kernel
theorem dX9_tapeFour_2 : decode cX9_tapeFour 2 = .ok (.istore_n 2, 1) := by decide +kernel
theorem dX9_tapeFour_3 : decode cX9_tapeFour 3 = .ok (.iload_n 2, 1) := by decide +kernel
theorem dX9_tapeFour_4 : decode cX9_tapeFour 4 = .ok (.ifCond .lt 51, 3) := by decide +kernel
theorem dX9_tapeFour_7 : decode cX9_tapeFour 7 = .ok (.aload_n 0, 1) := by decide +kernel
theorem dX9_tapeFour_8 : decode cX9_tapeFour 8 = .ok (.getfield 96, 3) := by decide +kernel
theorem dX9_tapeFour_11 : decode cX9_tapeFour 11 = .ok (.ifCond .lt 38, 3) := by decide +kernel
theorem dX9_tapeFour_14 : decode cX9_tapeFour 14 = .ok (.aload_n 0, 1) := by decide +kernel
theorem dX9_tapeFour_15 : decode cX9_tapeFour 15 = .ok (.getfield 96, 3) := by decide +kernel
theorem dX9_tapeFour_18 : decode cX9_tapeFour 18 = .ok (.aload_n 0, 1) := by decide +kernel
theorem dX9_tapeFour_19 : decode cX9_tapeFour 19 = .ok (.getfield 9, 3) := by decide +kernel
theorem dX9_tapeFour_22 : decode cX9_tapeFour 22 = .ok (.arraylength, 1) := by decide +kernel
theorem dX9_tapeFour_23 : decode cX9_tapeFour 23 = .ok (.if_icmp .ge 26, 3) := by decide +kernel
theorem dX9_tapeFour_26 : decode cX9_tapeFour 26 = .ok (.aload_n 0, 1) := by decide +kernel
theorem dX9_tapeFour_27 : decode cX9_tapeFour 27 = .ok (.getfield 9, 3) := by decide +kernel
theorem dX9_tapeFour_30 : decode cX9_tapeFour 30 = .ok (.aload_n 0, 1) := by decide +kernel
theorem dX9_tapeFour_31 : decode cX9_tapeFour 31 = .ok (.getfield 96, 3) := by decide +kernel
theorem dX9_tapeFour_34 : decode cX9_tapeFour 34 = .ok (.iload_n 1, 1) := by decide +kernel
theorem dX9_tapeFour_35 : decode cX9_tapeFour 35 = .ok (.iload_n 2, 1) := by decide +kernel
theorem dX9_tapeFour_36 : decode cX9_tapeFour 36 = .ok (.ishr, 1) := by decide +kernel
theorem dX9_tapeFour_37 : decode cX9_tapeFour 37 = .ok (.i2b, 1) := by decide +kernel
theorem dX9_tapeFour_38 : decode cX9_tapeFour 38 = .ok (.bastore, 1) := by decide +kernel
theorem dX9_tapeFour_39 : decode cX9_tapeFour 39 = .ok (.aload_n 0, 1) := by decide +kernel
theorem dX9_tapeFour_40 : decode cX9_tapeFour 40 = .ok (.dup, 1) := by decide +kernel
theorem dX9_tapeFour_41 : decode cX9_tapeFour 41 = .ok (.getfield 96, 3) := by decide +kernel
theorem dX9_tapeFour_44 : decode cX9_tapeFour 44 = .ok (.iconst 1, 1) := by decide +kernel
theorem dX9_tapeFour_45 : decode cX9_tapeFour 45 = .ok (.iadd, 1) := by decide +kernel
theorem dX9_tapeFour_46 : decode cX9_tapeFour 46 = .ok (.putfield 96, 3) := by decide +kernel
theorem dX9_tapeFour_49 : decode cX9_tapeFour 49 = .ok (.iinc 2 (-8), 3) := by decide +kernel
theorem dX9_tapeFour_52 : decode cX9_tapeFour 52 = .ok (.goto (-49), 3) := by decide +kernel
theorem dX9_tapeFour_55 : decode cX9_tapeFour 55 = .ok (.return_, 1) := by decide +kernel
theorem dX9_sea_0 : decode cX9_sea 0 = .ok (.iload_n 1, 1) := by decide +kernel
theorem dX9_sea_1 : decode cX9_sea 1 = .ok (.ifCond .lt 11, 3) := by decide +kernel
theorem dX9_sea_4 : decode cX9_sea 4 = .ok (.iload_n 1, 1) := by decide +kernel
theorem dX9_sea_5 : decode cX9_sea 5 = .ok (.aload_n 0, 1) := by decide +kernel
theorem dX9_sea_6 : decode cX9_sea 6 = .ok (.getfield 96, 3) := by decide +kernel
theorem dX9_sea_9 : decode cX9_sea 9 = .ok (.if_icmp .le 6, 3) := by decide +kernel
theorem dX9_sea_12 : decode cX9_sea 12 = .ok (.bipush (-3), 2) := by decide +kernel
theorem dX9_sea_14 : decode cX9_sea 14 = .ok (.ireturn, 1) := by decide +kernel
theorem dX9_sea_15 : decode cX9_sea 15 = .ok (.aload_n 0, 1) := by decide +kernel
theorem dX9_sea_16 : decode cX9_sea 16 = .ok (.iconst 0, 1) := by decide +kernel
theorem dX9_sea_17 : decode cX9_sea 17 = .ok (.putfield 96, 3) := by decide +kernel
theorem dX9_sea_20 : decode cX9_sea 20 = .ok (.aload_n 0, 1) := by decide +kernel
theorem dX9_sea_21 : decode cX9_sea 21 = .ok (.getfield 16, 3) := by decide +kernel
theorem dX9_sea_24 : decode cX9_sea 24 = .ok (.aload_n 0, 1) := by decide +kernel
theorem dX9_sea_25 : decode cX9_sea 25 = .ok (.getfield 9, 3) := by decide +kernel
theorem dX9_sea_28 : decode cX9_sea 28 = .ok (.iload_n 1, 1) := by decide +kernel
theorem dX9_sea_29 : decode cX9_sea 29 = .ok (.invokevirtual 104, 3) := by decide +kernel
theorem dX9_sea_32 : decode cX9_sea 32 = .ok (.ifCond .ne 14, 3) := by decide +kernel
theorem dX9_sea_35 : decode cX9_sea 35 = .ok (.bipush (-30), 2) := by decide +kernel
theorem dX9_sea_37 : decode cX9_sea 37 = .ok (.aload_n 0, 1) := by decide +kernel
theorem dX9_sea_38 : decode cX9_sea 38 = .ok (.getfield 16, 3) := by decide +kernel
theorem dX9_sea_41 : decode cX9_sea 41 = .ok (.getfield 108, 3) := by decide +kernel
theorem dX9_sea_44 : decode cX9_sea 44 = .ok (.isub, 1) := by decide +kernel
theorem dX9_sea_45 : decode cX9_sea 45 = .ok (.ireturn, 1) := by decide +kernel
theorem dX9_sea_46 : decode cX9_sea 46 = .ok (.aload_n 0, 1) := by decide +kernel
theorem dX9_sea_47 : decode cX9_sea 47 = .ok (.getfield 31, 3) := by decide +kernel
theorem dX9_sea_50 : decode cX9_sea 50 = .ok (.aload_n 0, 1) := by decide +kernel
theorem dX9_sea_51 : decode cX9_sea 51 = .ok (.getfield 16, 3) := by decide +kernel
theorem dX9_sea_54 : decode cX9_sea 54 = .ok (.getfield 111, 3) := by decide +kernel
theorem dX9_sea_57 : decode cX9_sea 57 = .ok (.invokevirtual 112, 3) := by decide +kernel
theorem dX9_sea_60 : decode cX9_sea 60 = .ok (.aload_n 0, 1) := by decide +kernel
theorem dX9_sea_61 : decode cX9_sea 61 = .ok (.getfield 35, 3) := by decide +kernel
theorem dX9_sea_64 : decode cX9_sea 64 = .ok (.invokevirtual 116, 3) := by decide +kernel
theorem dX9_sea_67 : decode cX9_sea 67 = .ok (.aload_n 0, 1) := by decide +kernel
theorem dX9_sea_68 : decode cX9_sea 68 = .ok (.invokevirtual 119, 3) := by decide +kernel
theorem dX9_sea_71 : decode cX9_sea 71 = .ok (.aload_n 0, 1) := by decide +kernel
theorem dX9_sea_72 : decode cX9_sea 72 = .ok (.getfield 31, 3) := by decide +kernel
theorem dX9_sea_75 : decode cX9_sea 75 = .ok (.getfield 122, 3) := by decide +kernel
theorem dX9_sea_78 : decode cX9_sea 78 = .ok (.ireturn, 1) := by decide +kernel
theorem dX9_becomeOther_0 : decode cX9_becomeOther 0 = .ok (.aload_n 0, 1) := by decide +kernel
theorem dX9_becomeOther_1 : decode cX9_becomeOther 1 = .ok (.getfield 23, 3) := by decide +kernel
theorem dX9_becomeOther_4 : decode cX9_becomeOther 4 = .ok (.invokevirtual 125, 3) := by decide +kernel
theorem dX9_becomeOther_7 : decode cX9_becomeOther 7 = .ok (.aload_n 0, 1) := by decide +kernel
theorem dX9_becomeOther_8 : decode cX9_becomeOther 8 = .ok (.getfield 45, 3) := by decide +kernel
theorem dX9_becomeOther_11 : decode cX9_becomeOther 11 = .ok (.invokevirtual 128, 3) := by decide +kernel
theorem dX9_becomeOther_14 : decode cX9_becomeOther 14 = .ok (.return_, 1) := by decide +kernel
theorem dX9_fault_0 : decode cX9_fault 0 = .ok (.iload_n 1, 1) := by decide +kernel
theorem dX9_fault_1 : decode cX9_fault 1 = .ok (.ifCond .ne 11, 3) := by decide +kernel
theorem dX9_fault_4 : decode cX9_fault 4 = .ok (.aload_n 0, 1) := by decide +kernel
theorem dX9_fault_5 : decode cX9_fault 5 = .ok (.getfield 16, 3) := by decide +kernel
theorem dX9_fault_8 : decode cX9_fault 8 = .ok (.getfield 108, 3) := by decide +kernel
theorem dX9_fault_11 : decode cX9_fault 11 = .ok (.ireturn, 1) := by decide +kernel
theorem dX9_fault_12 : decode cX9_fault 12 = .ok (.iload_n 1, 1) := by decide +kernel
theorem dX9_fault_13 : decode cX9_fault 13 = .ok (.iconst 1, 1) := by decide +kernel
theorem dX9_fault_14 : decode cX9_fault 14 = .ok (.if_icmp .ne 13, 3) := by decide +kernel
theorem dX9_fault_17 : decode cX9_fault 17 = .ok (.aload_n 0, 1) := by decide +kernel
theorem dX9_fault_18 : decode cX9_fault 18 = .ok (.getfield 16, 3) := by decide +kernel
theorem dX9_fault_21 : decode cX9_fault 21 = .ok (.getfield 129, 3) := by decide +kernel
theorem dX9_fault_24 : decode cX9_fault 24 = .ok (.goto 4, 3) := by decide +kernel
theorem dX9_fault_27 : decode cX9_fault 27 = .ok (.iconst (-1), 1) := by decide +kernel
theorem dX9_fault_28 : decode cX9_fault 28 = .ok (.ireturn, 1) := by decide +kernel
theorem dX9_cell_0 : decode cX9_cell 0 = .ok (.aload_n 0, 1) := by decide +kernel
theorem dX9_cell_1 : decode cX9_cell 1 = .ok (.getfield 31, 3) := by decide +kernel
theorem dX9_cell_4 : decode cX9_cell 4 = .ok (.iload_n 1, 1) := by decide +kernel
theorem dX9_cell_5 : decode cX9_cell 5 = .ok (.invokevirtual 132, 3) := by decide +kernel
theorem dX9_cell_8 : decode cX9_cell 8 = .ok (.ifCond .eq 15, 3) := by decide +kernel
theorem dX9_cell_11 : decode cX9_cell 11 = .ok (.aload_n 0, 1) := by decide +kernel
theorem dX9_cell_12 : decode cX9_cell 12 = .ok (.getfield 31, 3) := by decide +kernel
theorem dX9_cell_15 : decode cX9_cell 15 = .ok (.getfield 136, 3) := by decide +kernel
theorem dX9_cell_18 : decode cX9_cell 18 = .ok (.iload_n 1, 1) := by decide +kernel
theorem dX9_cell_19 : decode cX9_cell 19 = .ok (.iaload, 1) := by decide +kernel
theorem dX9_cell_20 : decode cX9_cell 20 = .ok (.goto 5, 3) := by decide +kernel
theorem dX9_cell_23 : decode cX9_cell 23 = .ok (.bipush (-2), 2) := by decide +kernel
theorem dX9_cell_25 : decode cX9_cell 25 = .ok (.ireturn, 1) := by decide +kernel
theorem dX9_shore_0 : decode cX9_shore 0 = .ok (.aload_n 0, 1) := by decide +kernel
theorem dX9_shore_1 : decode cX9_shore 1 = .ok (.getfield 31, 3) := by decide +kernel
theorem dX9_shore_4 : decode cX9_shore 4 = .ok (.iload_n 1, 1) := by decide +kernel
theorem dX9_shore_5 : decode cX9_shore 5 = .ok (.invokevirtual 140, 3) := by decide +kernel
theorem dX9_shore_8 : decode cX9_shore 8 = .ok (.ifCond .ne 6, 3) := by decide +kernel
theorem dX9_shore_11 : decode cX9_shore 11 = .ok (.bipush (-2), 2) := by decide +kernel
theorem dX9_shore_13 : decode cX9_shore 13 = .ok (.ireturn, 1) := by decide +kernel
theorem dX9_shore_14 : decode cX9_shore 14 = .ok (.iload_n 2, 1) := by decide +kernel
theorem dX9_shore_15 : decode cX9_shore 15 = .ok (.tableswitch 102 0 5 #[37, 47, 57, 67, 76, 93], 37) := by decide +kernel
theorem dX9_shore_52 : decode cX9_shore 52 = .ok (.aload_n 0, 1) := by decide +kernel
theorem dX9_shore_53 : decode cX9_shore 53 = .ok (.getfield 31, 3) := by decide +kernel
theorem dX9_shore_56 : decode cX9_shore 56 = .ok (.getfield 143, 3) := by decide +kernel
theorem dX9_shore_59 : decode cX9_shore 59 = .ok (.iload_n 1, 1) := by decide +kernel
theorem dX9_shore_60 : decode cX9_shore 60 = .ok (.iaload, 1) := by decide +kernel
theorem dX9_shore_61 : decode cX9_shore 61 = .ok (.ireturn, 1) := by decide +kernel
theorem dX9_shore_62 : decode cX9_shore 62 = .ok (.aload_n 0, 1) := by decide +kernel
theorem dX9_shore_63 : decode cX9_shore 63 = .ok (.getfield 31, 3) := by decide +kernel
theorem dX9_shore_66 : decode cX9_shore 66 = .ok (.getfield 146, 3) := by decide +kernel
theorem dX9_shore_69 : decode cX9_shore 69 = .ok (.iload_n 1, 1) := by decide +kernel
theorem dX9_shore_70 : decode cX9_shore 70 = .ok (.iaload, 1) := by decide +kernel
theorem dX9_shore_71 : decode cX9_shore 71 = .ok (.ireturn, 1) := by decide +kernel
theorem dX9_shore_72 : decode cX9_shore 72 = .ok (.aload_n 0, 1) := by decide +kernel
theorem dX9_shore_73 : decode cX9_shore 73 = .ok (.getfield 31, 3) := by decide +kernel
theorem dX9_shore_76 : decode cX9_shore 76 = .ok (.getfield 149, 3) := by decide +kernel
theorem dX9_shore_79 : decode cX9_shore 79 = .ok (.iload_n 1, 1) := by decide +kernel
theorem dX9_shore_80 : decode cX9_shore 80 = .ok (.iaload, 1) := by decide +kernel
theorem dX9_shore_81 : decode cX9_shore 81 = .ok (.ireturn, 1) := by decide +kernel
theorem dX9_shore_82 : decode cX9_shore 82 = .ok (.aload_n 0, 1) := by decide +kernel
theorem dX9_shore_83 : decode cX9_shore 83 = .ok (.getfield 31, 3) := by decide +kernel
theorem dX9_shore_86 : decode cX9_shore 86 = .ok (.iload_n 1, 1) := by decide +kernel
theorem dX9_shore_87 : decode cX9_shore 87 = .ok (.invokevirtual 152, 3) := by decide +kernel
theorem dX9_shore_90 : decode cX9_shore 90 = .ok (.ireturn, 1) := by decide +kernel
theorem dX9_shore_91 : decode cX9_shore 91 = .ok (.aload_n 0, 1) := by decide +kernel
theorem dX9_shore_92 : decode cX9_shore 92 = .ok (.getfield 35, 3) := by decide +kernel
theorem dX9_shore_95 : decode cX9_shore 95 = .ok (.aload_n 0, 1) := by decide +kernel
theorem dX9_shore_96 : decode cX9_shore 96 = .ok (.getfield 31, 3) := by decide +kernel
theorem dX9_shore_99 : decode cX9_shore 99 = .ok (.getfield 143, 3) := by decide +kernel
theorem dX9_shore_102 : decode cX9_shore 102 = .ok (.iload_n 1, 1) := by decide +kernel
theorem dX9_shore_103 : decode cX9_shore 103 = .ok (.iaload, 1) := by decide +kernel
theorem dX9_shore_104 : decode cX9_shore 104 = .ok (.invokevirtual 156, 3) := by decide +kernel
theorem dX9_shore_107 : decode cX9_shore 107 = .ok (.ireturn, 1) := by decide +kernel
theorem dX9_shore_108 : decode cX9_shore 108 = .ok (.aload_n 0, 1) := by decide +kernel
theorem dX9_shore_109 : decode cX9_shore 109 = .ok (.getfield 35, 3) := by decide +kernel
theorem dX9_shore_112 : decode cX9_shore 112 = .ok (.iload_n 1, 1) := by decide +kernel
theorem dX9_shore_113 : decode cX9_shore 113 = .ok (.invokevirtual 159, 3) := by decide +kernel
theorem dX9_shore_116 : decode cX9_shore 116 = .ok (.ireturn, 1) := by decide +kernel
theorem dX9_shore_117 : decode cX9_shore 117 = .ok (.bipush (-2), 2) := by decide +kernel
theorem dX9_shore_119 : decode cX9_shore 119 = .ok (.ireturn, 1) := by decide +kernel
theorem dX9_current_0 : decode cX9_current 0 = .ok (.aload_n 0, 1) := by decide +kernel
theorem dX9_current_1 : decode cX9_current 1 = .ok (.getfield 31, 3) := by decide +kernel
theorem dX9_current_4 : decode cX9_current 4 = .ok (.iload_n 1, 1) := by decide +kernel
theorem dX9_current_5 : decode cX9_current 5 = .ok (.invokevirtual 132, 3) := by decide +kernel
theorem dX9_current_8 : decode cX9_current 8 = .ok (.ifCond .eq 18, 3) := by decide +kernel
theorem dX9_current_11 : decode cX9_current 11 = .ok (.iload_n 2, 1) := by decide +kernel
theorem dX9_current_12 : decode cX9_current 12 = .ok (.ifCond .lt 14, 3) := by decide +kernel
theorem dX9_current_15 : decode cX9_current 15 = .ok (.iload_n 2, 1) := by decide +kernel
theorem dX9_current_16 : decode cX9_current 16 = .ok (.aload_n 0, 1) := by decide +kernel
theorem dX9_current_17 : decode cX9_current 17 = .ok (.getfield 31, 3) := by decide +kernel
theorem dX9_current_20 : decode cX9_current 20 = .ok (.getfield 162, 3) := by decide +kernel
theorem dX9_current_23 : decode cX9_current 23 = .ok (.if_icmp .lt 6, 3) := by decide +kernel
theorem dX9_current_26 : decode cX9_current 26 = .ok (.bipush (-2), 2) := by decide +kernel
theorem dX9_current_28 : decode cX9_current 28 = .ok (.ireturn, 1) := by decide +kernel
theorem dX9_current_29 : decode cX9_current 29 = .ok (.aload_n 0, 1) := by decide +kernel
theorem dX9_current_30 : decode cX9_current 30 = .ok (.getfield 31, 3) := by decide +kernel
theorem dX9_current_33 : decode cX9_current 33 = .ok (.iload_n 1, 1) := by decide +kernel
theorem dX9_current_34 : decode cX9_current 34 = .ok (.iload_n 2, 1) := by decide +kernel
theorem dX9_current_35 : decode cX9_current 35 = .ok (.invokevirtual 165, 3) := by decide +kernel
theorem dX9_current_38 : decode cX9_current 38 = .ok (.ireturn, 1) := by decide +kernel
theorem dX9_wind_0 : decode cX9_wind 0 = .ok (.aload_n 0, 1) := by decide +kernel
theorem dX9_wind_1 : decode cX9_wind 1 = .ok (.getfield 31, 3) := by decide +kernel
theorem dX9_wind_4 : decode cX9_wind 4 = .ok (.iload_n 1, 1) := by decide +kernel
theorem dX9_wind_5 : decode cX9_wind 5 = .ok (.invokevirtual 132, 3) := by decide +kernel
theorem dX9_wind_8 : decode cX9_wind 8 = .ok (.ifCond .ne 6, 3) := by decide +kernel
theorem dX9_wind_11 : decode cX9_wind 11 = .ok (.bipush (-2), 2) := by decide +kernel
theorem dX9_wind_13 : decode cX9_wind 13 = .ok (.ireturn, 1) := by decide +kernel
theorem dX9_wind_14 : decode cX9_wind 14 = .ok (.iload_n 2, 1) := by decide +kernel
theorem dX9_wind_15 : decode cX9_wind 15 = .ok (.ifCond .lt 10, 3) := by decide +kernel
theorem dX9_wind_18 : decode cX9_wind 18 = .ok (.iload_n 2, 1) := by decide +kernel
theorem dX9_wind_19 : decode cX9_wind 19 = .ok (.sipush 999, 3) := by decide +kernel
theorem dX9_wind_22 : decode cX9_wind 22 = .ok (.if_icmp .le 6, 3) := by decide +kernel
theorem dX9_wind_25 : decode cX9_wind 25 = .ok (.bipush (-3), 2) := by decide +kernel
theorem dX9_wind_27 : decode cX9_wind 27 = .ok (.ireturn, 1) := by decide +kernel
theorem dX9_wind_28 : decode cX9_wind 28 = .ok (.aload_n 0, 1) := by decide +kernel
theorem dX9_wind_29 : decode cX9_wind 29 = .ok (.getfield 23, 3) := by decide +kernel
theorem dX9_wind_32 : decode cX9_wind 32 = .ok (.iload_n 1, 1) := by decide +kernel
theorem dX9_wind_33 : decode cX9_wind 33 = .ok (.aload_n 0, 1) := by decide +kernel
theorem dX9_wind_34 : decode cX9_wind 34 = .ok (.getfield 35, 3) := by decide +kernel
theorem dX9_wind_37 : decode cX9_wind 37 = .ok (.getfield 169, 3) := by decide +kernel
theorem dX9_wind_40 : decode cX9_wind 40 = .ok (.iload_n 2, 1) := by decide +kernel
theorem dX9_wind_41 : decode cX9_wind 41 = .ok (.iadd, 1) := by decide +kernel
theorem dX9_wind_42 : decode cX9_wind 42 = .ok (.invokevirtual 172, 3) := by decide +kernel
theorem dX9_wind_45 : decode cX9_wind 45 = .ok (.ireturn, 1) := by decide +kernel
theorem dX9_bottle_0 : decode cX9_bottle 0 = .ok (.aload_n 0, 1) := by decide +kernel
theorem dX9_bottle_1 : decode cX9_bottle 1 = .ok (.getfield 35, 3) := by decide +kernel
theorem dX9_bottle_4 : decode cX9_bottle 4 = .ok (.iload_n 1, 1) := by decide +kernel
theorem dX9_bottle_5 : decode cX9_bottle 5 = .ok (.invokevirtual 175, 3) := by decide +kernel
theorem dX9_bottle_8 : decode cX9_bottle 8 = .ok (.ifCond .ne 6, 3) := by decide +kernel
theorem dX9_bottle_11 : decode cX9_bottle 11 = .ok (.bipush (-8), 2) := by decide +kernel
theorem dX9_bottle_13 : decode cX9_bottle 13 = .ok (.ireturn, 1) := by decide +kernel
theorem dX9_bottle_14 : decode cX9_bottle 14 = .ok (.aload_n 0, 1) := by decide +kernel
theorem dX9_bottle_15 : decode cX9_bottle 15 = .ok (.getfield 35, 3) := by decide +kernel
theorem dX9_bottle_18 : decode cX9_bottle 18 = .ok (.getfield 178, 3) := by decide +kernel
theorem dX9_bottle_21 : decode cX9_bottle 21 = .ok (.iload_n 1, 1) := by decide +kernel
theorem dX9_bottle_22 : decode cX9_bottle 22 = .ok (.aaload, 1) := by decide +kernel
theorem dX9_bottle_23 : decode cX9_bottle 23 = .ok (.astore_n 3, 1) := by decide +kernel
theorem dX9_bottle_24 : decode cX9_bottle 24 = .ok (.iload_n 2, 1) := by decide +kernel
theorem dX9_bottle_25 : decode cX9_bottle 25 = .ok (.tableswitch 95 0 7 #[47, 52, 57, 62, 67, 80, 85, 90], 47) := by decide +kernel
theorem dX9_bottle_72 : decode cX9_bottle 72 = .ok (.aload_n 3, 1) := by decide +kernel
theorem dX9_bottle_73 : decode cX9_bottle 73 = .ok (.getfield 182, 3) := by decide +kernel
theorem dX9_bottle_76 : decode cX9_bottle 76 = .ok (.ireturn, 1) := by decide +kernel
theorem dX9_bottle_77 : decode cX9_bottle 77 = .ok (.aload_n 3, 1) := by decide +kernel
theorem dX9_bottle_78 : decode cX9_bottle 78 = .ok (.getfield 185, 3) := by decide +kernel
theorem dX9_bottle_81 : decode cX9_bottle 81 = .ok (.ireturn, 1) := by decide +kernel
theorem dX9_bottle_82 : decode cX9_bottle 82 = .ok (.aload_n 3, 1) := by decide +kernel
theorem dX9_bottle_83 : decode cX9_bottle 83 = .ok (.getfield 188, 3) := by decide +kernel
theorem dX9_bottle_86 : decode cX9_bottle 86 = .ok (.ireturn, 1) := by decide +kernel
theorem dX9_bottle_87 : decode cX9_bottle 87 = .ok (.aload_n 3, 1) := by decide +kernel
theorem dX9_bottle_88 : decode cX9_bottle 88 = .ok (.getfield 191, 3) := by decide +kernel
theorem dX9_bottle_91 : decode cX9_bottle 91 = .ok (.ireturn, 1) := by decide +kernel
theorem dX9_bottle_92 : decode cX9_bottle 92 = .ok (.aload_n 3, 1) := by decide +kernel
theorem dX9_bottle_93 : decode cX9_bottle 93 = .ok (.getfield 194, 3) := by decide +kernel
theorem dX9_bottle_96 : decode cX9_bottle 96 = .ok (.ifCond .eq 7, 3) := by decide +kernel
theorem dX9_bottle_99 : decode cX9_bottle 99 = .ok (.iconst 1, 1) := by decide +kernel
theorem dX9_bottle_100 : decode cX9_bottle 100 = .ok (.goto 4, 3) := by decide +kernel
theorem dX9_bottle_103 : decode cX9_bottle 103 = .ok (.iconst 0, 1) := by decide +kernel
theorem dX9_bottle_104 : decode cX9_bottle 104 = .ok (.ireturn, 1) := by decide +kernel
theorem dX9_bottle_105 : decode cX9_bottle 105 = .ok (.aload_n 3, 1) := by decide +kernel
theorem dX9_bottle_106 : decode cX9_bottle 106 = .ok (.getfield 198, 3) := by decide +kernel
theorem dX9_bottle_109 : decode cX9_bottle 109 = .ok (.ireturn, 1) := by decide +kernel
theorem dX9_bottle_110 : decode cX9_bottle 110 = .ok (.aload_n 3, 1) := by decide +kernel
theorem dX9_bottle_111 : decode cX9_bottle 111 = .ok (.getfield 201, 3) := by decide +kernel
theorem dX9_bottle_114 : decode cX9_bottle 114 = .ok (.ireturn, 1) := by decide +kernel
theorem dX9_bottle_115 : decode cX9_bottle 115 = .ok (.aload_n 3, 1) := by decide +kernel
theorem dX9_bottle_116 : decode cX9_bottle 116 = .ok (.getfield 204, 3) := by decide +kernel
theorem dX9_bottle_119 : decode cX9_bottle 119 = .ok (.ireturn, 1) := by decide +kernel
theorem dX9_bottle_120 : decode cX9_bottle 120 = .ok (.bipush (-8), 2) := by decide +kernel
theorem dX9_bottle_122 : decode cX9_bottle 122 = .ok (.ireturn, 1) := by decide +kernel
theorem dX9_throwsIt_0 : decode cX9_throwsIt 0 = .ok (.aload_n 0, 1) := by decide +kernel
theorem dX9_throwsIt_1 : decode cX9_throwsIt 1 = .ok (.getfield 35, 3) := by decide +kernel
theorem dX9_throwsIt_4 : decode cX9_throwsIt 4 = .ok (.aload_n 0, 1) := by decide +kernel
theorem dX9_throwsIt_5 : decode cX9_throwsIt 5 = .ok (.getfield 31, 3) := by decide +kernel
theorem dX9_throwsIt_8 : decode cX9_throwsIt 8 = .ok (.iload_n 1, 1) := by decide +kernel
theorem dX9_throwsIt_9 : decode cX9_throwsIt 9 = .ok (.iload_n 2, 1) := by decide +kernel
theorem dX9_throwsIt_10 : decode cX9_throwsIt 10 = .ok (.invokevirtual 207, 3) := by decide +kernel
theorem dX9_throwsIt_13 : decode cX9_throwsIt 13 = .ok (.istore 4, 2) := by decide +kernel
theorem dX9_throwsIt_15 : decode cX9_throwsIt 15 = .ok (.iload 4, 2) := by decide +kernel
theorem dX9_throwsIt_17 : decode cX9_throwsIt 17 = .ok (.ifCond .eq 9, 3) := by decide +kernel
theorem dX9_throwsIt_20 : decode cX9_throwsIt 20 = .ok (.bipush (-10), 2) := by decide +kernel
theorem dX9_throwsIt_22 : decode cX9_throwsIt 22 = .ok (.iload 4, 2) := by decide +kernel
theorem dX9_throwsIt_24 : decode cX9_throwsIt 24 = .ok (.isub, 1) := by decide +kernel
theorem dX9_throwsIt_25 : decode cX9_throwsIt 25 = .ok (.ireturn, 1) := by decide +kernel
theorem dX9_throwsIt_26 : decode cX9_throwsIt 26 = .ok (.aload_n 0, 1) := by decide +kernel
theorem dX9_throwsIt_27 : decode cX9_throwsIt 27 = .ok (.getfield 45, 3) := by decide +kernel
theorem dX9_throwsIt_30 : decode cX9_throwsIt 30 = .ok (.aload_n 0, 1) := by decide +kernel
theorem dX9_throwsIt_31 : decode cX9_throwsIt 31 = .ok (.getfield 35, 3) := by decide +kernel
theorem dX9_throwsIt_34 : decode cX9_throwsIt 34 = .ok (.invokevirtual 211, 3) := by decide +kernel
theorem dX9_throwsIt_37 : decode cX9_throwsIt 37 = .ok (.aload_n 0, 1) := by decide +kernel
theorem dX9_throwsIt_38 : decode cX9_throwsIt 38 = .ok (.getfield 45, 3) := by decide +kernel
theorem dX9_throwsIt_41 : decode cX9_throwsIt 41 = .ok (.invokevirtual 215, 3) := by decide +kernel
theorem dX9_throwsIt_44 : decode cX9_throwsIt 44 = .ok (.aload_n 0, 1) := by decide +kernel
theorem dX9_throwsIt_45 : decode cX9_throwsIt 45 = .ok (.getfield 35, 3) := by decide +kernel
theorem dX9_throwsIt_48 : decode cX9_throwsIt 48 = .ok (.aload_n 0, 1) := by decide +kernel
theorem dX9_throwsIt_49 : decode cX9_throwsIt 49 = .ok (.getfield 31, 3) := by decide +kernel
theorem dX9_throwsIt_52 : decode cX9_throwsIt 52 = .ok (.iload_n 1, 1) := by decide +kernel
theorem dX9_throwsIt_53 : decode cX9_throwsIt 53 = .ok (.iload_n 2, 1) := by decide +kernel
theorem dX9_throwsIt_54 : decode cX9_throwsIt 54 = .ok (.iload_n 3, 1) := by decide +kernel
theorem dX9_throwsIt_55 : decode cX9_throwsIt 55 = .ok (.invokevirtual 218, 3) := by decide +kernel
theorem dX9_throwsIt_58 : decode cX9_throwsIt 58 = .ok (.ireturn, 1) := by decide +kernel
theorem dX9_tides_0 : decode cX9_tides 0 = .ok (.iload_n 1, 1) := by decide +kernel
theorem dX9_tides_1 : decode cX9_tides 1 = .ok (.iconst 1, 1) := by decide +kernel
theorem dX9_tides_2 : decode cX9_tides 2 = .ok (.if_icmp .lt 9, 3) := by decide +kernel
theorem dX9_tides_5 : decode cX9_tides 5 = .ok (.iload_n 1, 1) := by decide +kernel
theorem dX9_tides_6 : decode cX9_tides 6 = .ok (.bipush 99, 2) := by decide +kernel
theorem dX9_tides_8 : decode cX9_tides 8 = .ok (.if_icmp .le 6, 3) := by decide +kernel
theorem dX9_tides_11 : decode cX9_tides 11 = .ok (.bipush (-3), 2) := by decide +kernel
theorem dX9_tides_13 : decode cX9_tides 13 = .ok (.ireturn, 1) := by decide +kernel
theorem dX9_tides_14 : decode cX9_tides 14 = .ok (.aload_n 0, 1) := by decide +kernel
theorem dX9_tides_15 : decode cX9_tides 15 = .ok (.getfield 45, 3) := by decide +kernel
theorem dX9_tides_18 : decode cX9_tides 18 = .ok (.aload_n 0, 1) := by decide +kernel
theorem dX9_tides_19 : decode cX9_tides 19 = .ok (.getfield 35, 3) := by decide +kernel
theorem dX9_tides_22 : decode cX9_tides 22 = .ok (.invokevirtual 211, 3) := by decide +kernel
theorem dX9_tides_25 : decode cX9_tides 25 = .ok (.aload_n 0, 1) := by decide +kernel
theorem dX9_tides_26 : decode cX9_tides 26 = .ok (.getfield 45, 3) := by decide +kernel
theorem dX9_tides_29 : decode cX9_tides 29 = .ok (.invokevirtual 215, 3) := by decide +kernel
theorem dX9_tides_32 : decode cX9_tides 32 = .ok (.aload_n 0, 1) := by decide +kernel
theorem dX9_tides_33 : decode cX9_tides 33 = .ok (.getfield 35, 3) := by decide +kernel
theorem dX9_tides_36 : decode cX9_tides 36 = .ok (.iconst 2, 1) := by decide +kernel
theorem dX9_tides_37 : decode cX9_tides 37 = .ok (.invokevirtual 222, 3) := by decide +kernel
theorem dX9_tides_40 : decode cX9_tides 40 = .ok (.istore_n 2, 1) := by decide +kernel
theorem dX9_tides_41 : decode cX9_tides 41 = .ok (.iconst 0, 1) := by decide +kernel
theorem dX9_tides_42 : decode cX9_tides 42 = .ok (.istore_n 3, 1) := by decide +kernel
theorem dX9_tides_43 : decode cX9_tides 43 = .ok (.iload_n 3, 1) := by decide +kernel
theorem dX9_tides_44 : decode cX9_tides 44 = .ok (.iload_n 1, 1) := by decide +kernel
theorem dX9_tides_45 : decode cX9_tides 45 = .ok (.if_icmp .ge 20, 3) := by decide +kernel
theorem dX9_tides_48 : decode cX9_tides 48 = .ok (.aload_n 0, 1) := by decide +kernel
theorem dX9_tides_49 : decode cX9_tides 49 = .ok (.getfield 35, 3) := by decide +kernel
theorem dX9_tides_52 : decode cX9_tides 52 = .ok (.aload_n 0, 1) := by decide +kernel
theorem dX9_tides_53 : decode cX9_tides 53 = .ok (.getfield 23, 3) := by decide +kernel
theorem dX9_tides_56 : decode cX9_tides 56 = .ok (.invokevirtual 225, 3) := by decide +kernel
theorem dX9_tides_59 : decode cX9_tides 59 = .ok (.iinc 3 1, 3) := by decide +kernel
theorem dX9_tides_62 : decode cX9_tides 62 = .ok (.goto (-19), 3) := by decide +kernel
theorem dX9_tides_65 : decode cX9_tides 65 = .ok (.aload_n 0, 1) := by decide +kernel
theorem dX9_tides_66 : decode cX9_tides 66 = .ok (.getfield 35, 3) := by decide +kernel
theorem dX9_tides_69 : decode cX9_tides 69 = .ok (.iconst 2, 1) := by decide +kernel
theorem dX9_tides_70 : decode cX9_tides 70 = .ok (.invokevirtual 222, 3) := by decide +kernel
theorem dX9_tides_73 : decode cX9_tides 73 = .ok (.iload_n 2, 1) := by decide +kernel
theorem dX9_tides_74 : decode cX9_tides 74 = .ok (.isub, 1) := by decide +kernel
theorem dX9_tides_75 : decode cX9_tides 75 = .ok (.ireturn, 1) := by decide +kernel
theorem dX9_storm_0 : decode cX9_storm 0 = .ok (.aload_n 0, 1) := by decide +kernel
theorem dX9_storm_1 : decode cX9_storm 1 = .ok (.getfield 31, 3) := by decide +kernel
theorem dX9_storm_4 : decode cX9_storm 4 = .ok (.iload_n 1, 1) := by decide +kernel
theorem dX9_storm_5 : decode cX9_storm 5 = .ok (.invokevirtual 132, 3) := by decide +kernel
theorem dX9_storm_8 : decode cX9_storm 8 = .ok (.ifCond .eq 19, 3) := by decide +kernel
theorem dX9_storm_11 : decode cX9_storm 11 = .ok (.aload_n 0, 1) := by decide +kernel
theorem dX9_storm_12 : decode cX9_storm 12 = .ok (.getfield 31, 3) := by decide +kernel
theorem dX9_storm_15 : decode cX9_storm 15 = .ok (.iload_n 2, 1) := by decide +kernel
theorem dX9_storm_16 : decode cX9_storm 16 = .ok (.invokevirtual 132, 3) := by decide +kernel
theorem dX9_storm_19 : decode cX9_storm 19 = .ok (.ifCond .eq 8, 3) := by decide +kernel
theorem dX9_storm_22 : decode cX9_storm 22 = .ok (.iload_n 1, 1) := by decide +kernel
theorem dX9_storm_23 : decode cX9_storm 23 = .ok (.iload_n 2, 1) := by decide +kernel
theorem dX9_storm_24 : decode cX9_storm 24 = .ok (.if_icmp .ne 6, 3) := by decide +kernel
theorem dX9_storm_27 : decode cX9_storm 27 = .ok (.bipush (-2), 2) := by decide +kernel
theorem dX9_storm_29 : decode cX9_storm 29 = .ok (.ireturn, 1) := by decide +kernel
theorem dX9_storm_30 : decode cX9_storm 30 = .ok (.aload_n 0, 1) := by decide +kernel
theorem dX9_storm_31 : decode cX9_storm 31 = .ok (.getfield 31, 3) := by decide +kernel
theorem dX9_storm_34 : decode cX9_storm 34 = .ok (.iload_n 1, 1) := by decide +kernel
theorem dX9_storm_35 : decode cX9_storm 35 = .ok (.invokevirtual 229, 3) := by decide +kernel
theorem dX9_storm_38 : decode cX9_storm 38 = .ok (.ifCond .eq 14, 3) := by decide +kernel
theorem dX9_storm_41 : decode cX9_storm 41 = .ok (.aload_n 0, 1) := by decide +kernel
theorem dX9_storm_42 : decode cX9_storm 42 = .ok (.getfield 31, 3) := by decide +kernel
theorem dX9_storm_45 : decode cX9_storm 45 = .ok (.iload_n 2, 1) := by decide +kernel
theorem dX9_storm_46 : decode cX9_storm 46 = .ok (.invokevirtual 229, 3) := by decide +kernel
theorem dX9_storm_49 : decode cX9_storm 49 = .ok (.ifCond .ne 6, 3) := by decide +kernel
theorem dX9_storm_52 : decode cX9_storm 52 = .ok (.bipush (-5), 2) := by decide +kernel
theorem dX9_storm_54 : decode cX9_storm 54 = .ok (.ireturn, 1) := by decide +kernel
theorem dX9_storm_55 : decode cX9_storm 55 = .ok (.aload_n 0, 1) := by decide +kernel
theorem dX9_storm_56 : decode cX9_storm 56 = .ok (.getfield 45, 3) := by decide +kernel
theorem dX9_storm_59 : decode cX9_storm 59 = .ok (.aload_n 0, 1) := by decide +kernel
theorem dX9_storm_60 : decode cX9_storm 60 = .ok (.getfield 35, 3) := by decide +kernel
theorem dX9_storm_63 : decode cX9_storm 63 = .ok (.invokevirtual 211, 3) := by decide +kernel
theorem dX9_storm_66 : decode cX9_storm 66 = .ok (.aload_n 0, 1) := by decide +kernel
theorem dX9_storm_67 : decode cX9_storm 67 = .ok (.getfield 35, 3) := by decide +kernel
theorem dX9_storm_70 : decode cX9_storm 70 = .ok (.iload_n 1, 1) := by decide +kernel
theorem dX9_storm_71 : decode cX9_storm 71 = .ok (.iload_n 2, 1) := by decide +kernel
theorem dX9_storm_72 : decode cX9_storm 72 = .ok (.invokevirtual 232, 3) := by decide +kernel
theorem dX9_storm_75 : decode cX9_storm 75 = .ok (.istore_n 3, 1) := by decide +kernel
theorem dX9_storm_76 : decode cX9_storm 76 = .ok (.iload_n 3, 1) := by decide +kernel
theorem dX9_storm_77 : decode cX9_storm 77 = .ok (.ifCond .le 10, 3) := by decide +kernel
theorem dX9_storm_80 : decode cX9_storm 80 = .ok (.aload_n 0, 1) := by decide +kernel
theorem dX9_storm_81 : decode cX9_storm 81 = .ok (.getfield 45, 3) := by decide +kernel
theorem dX9_storm_84 : decode cX9_storm 84 = .ok (.invokevirtual 215, 3) := by decide +kernel
theorem dX9_storm_87 : decode cX9_storm 87 = .ok (.iload_n 3, 1) := by decide +kernel
theorem dX9_storm_88 : decode cX9_storm 88 = .ok (.ireturn, 1) := by decide +kernel
theorem dX9_lift_0 : decode cX9_lift 0 = .ok (.aload_n 0, 1) := by decide +kernel
theorem dX9_lift_1 : decode cX9_lift 1 = .ok (.getfield 35, 3) := by decide +kernel
theorem dX9_lift_4 : decode cX9_lift 4 = .ok (.iload_n 1, 1) := by decide +kernel
theorem dX9_lift_5 : decode cX9_lift 5 = .ok (.invokevirtual 235, 3) := by decide +kernel
theorem dX9_lift_8 : decode cX9_lift 8 = .ok (.istore_n 2, 1) := by decide +kernel
theorem dX9_lift_9 : decode cX9_lift 9 = .ok (.iload_n 2, 1) := by decide +kernel
theorem dX9_lift_10 : decode cX9_lift 10 = .ok (.ifCond .ne 14, 3) := by decide +kernel
theorem dX9_lift_13 : decode cX9_lift 13 = .ok (.aload_n 0, 1) := by decide +kernel
theorem dX9_lift_14 : decode cX9_lift 14 = .ok (.getfield 35, 3) := by decide +kernel
theorem dX9_lift_17 : decode cX9_lift 17 = .ok (.iload_n 1, 1) := by decide +kernel
theorem dX9_lift_18 : decode cX9_lift 18 = .ok (.invokevirtual 175, 3) := by decide +kernel
theorem dX9_lift_21 : decode cX9_lift 21 = .ok (.ifCond .ne 8, 3) := by decide +kernel
theorem dX9_lift_24 : decode cX9_lift 24 = .ok (.bipush (-10), 2) := by decide +kernel
theorem dX9_lift_26 : decode cX9_lift 26 = .ok (.iload_n 2, 1) := by decide +kernel
theorem dX9_lift_27 : decode cX9_lift 27 = .ok (.isub, 1) := by decide +kernel
theorem dX9_lift_28 : decode cX9_lift 28 = .ok (.ireturn, 1) := by decide +kernel
theorem dX9_lift_29 : decode cX9_lift 29 = .ok (.aload_n 0, 1) := by decide +kernel
theorem dX9_lift_30 : decode cX9_lift 30 = .ok (.getfield 45, 3) := by decide +kernel
theorem dX9_lift_33 : decode cX9_lift 33 = .ok (.aload_n 0, 1) := by decide +kernel
theorem dX9_lift_34 : decode cX9_lift 34 = .ok (.getfield 35, 3) := by decide +kernel
theorem dX9_lift_37 : decode cX9_lift 37 = .ok (.invokevirtual 211, 3) := by decide +kernel
theorem dX9_lift_40 : decode cX9_lift 40 = .ok (.aload_n 0, 1) := by decide +kernel
theorem dX9_lift_41 : decode cX9_lift 41 = .ok (.getfield 45, 3) := by decide +kernel
theorem dX9_lift_44 : decode cX9_lift 44 = .ok (.invokevirtual 215, 3) := by decide +kernel
theorem dX9_lift_47 : decode cX9_lift 47 = .ok (.aload_n 0, 1) := by decide +kernel
theorem dX9_lift_48 : decode cX9_lift 48 = .ok (.getfield 35, 3) := by decide +kernel
theorem dX9_lift_51 : decode cX9_lift 51 = .ok (.iload_n 1, 1) := by decide +kernel
theorem dX9_lift_52 : decode cX9_lift 52 = .ok (.invokevirtual 238, 3) := by decide +kernel
theorem dX9_lift_55 : decode cX9_lift 55 = .ok (.aload_n 0, 1) := by decide +kernel
theorem dX9_lift_56 : decode cX9_lift 56 = .ok (.getfield 35, 3) := by decide +kernel
theorem dX9_lift_59 : decode cX9_lift 59 = .ok (.getfield 178, 3) := by decide +kernel
theorem dX9_lift_62 : decode cX9_lift 62 = .ok (.iload_n 1, 1) := by decide +kernel
theorem dX9_lift_63 : decode cX9_lift 63 = .ok (.aaload, 1) := by decide +kernel
theorem dX9_lift_64 : decode cX9_lift 64 = .ok (.getfield 185, 3) := by decide +kernel
theorem dX9_lift_67 : decode cX9_lift 67 = .ok (.ireturn, 1) := by decide +kernel
theorem dX9_undo_0 : decode cX9_undo 0 = .ok (.iload_n 1, 1) := by decide +kernel
theorem dX9_undo_1 : decode cX9_undo 1 = .ok (.iconst 1, 1) := by decide +kernel
theorem dX9_undo_2 : decode cX9_undo 2 = .ok (.if_icmp .lt 20, 3) := by decide +kernel
theorem dX9_undo_5 : decode cX9_undo 5 = .ok (.iload_n 1, 1) := by decide +kernel
theorem dX9_undo_6 : decode cX9_undo 6 = .ok (.bipush 10, 2) := by decide +kernel
theorem dX9_undo_8 : decode cX9_undo 8 = .ok (.if_icmp .gt 14, 3) := by decide +kernel
theorem dX9_undo_11 : decode cX9_undo 11 = .ok (.iload_n 1, 1) := by decide +kernel
theorem dX9_undo_12 : decode cX9_undo 12 = .ok (.aload_n 0, 1) := by decide +kernel
theorem dX9_undo_13 : decode cX9_undo 13 = .ok (.getfield 45, 3) := by decide +kernel
theorem dX9_undo_16 : decode cX9_undo 16 = .ok (.getfield 241, 3) := by decide +kernel
theorem dX9_undo_19 : decode cX9_undo 19 = .ok (.if_icmp .le 6, 3) := by decide +kernel
theorem dX9_undo_22 : decode cX9_undo 22 = .ok (.bipush (-3), 2) := by decide +kernel
theorem dX9_undo_24 : decode cX9_undo 24 = .ok (.ireturn, 1) := by decide +kernel
theorem dX9_undo_25 : decode cX9_undo 25 = .ok (.aload_n 0, 1) := by decide +kernel
theorem dX9_undo_26 : decode cX9_undo 26 = .ok (.getfield 45, 3) := by decide +kernel
theorem dX9_undo_29 : decode cX9_undo 29 = .ok (.iload_n 1, 1) := by decide +kernel
theorem dX9_undo_30 : decode cX9_undo 30 = .ok (.aload_n 0, 1) := by decide +kernel
theorem dX9_undo_31 : decode cX9_undo 31 = .ok (.getfield 35, 3) := by decide +kernel
theorem dX9_undo_34 : decode cX9_undo 34 = .ok (.invokevirtual 244, 3) := by decide +kernel
theorem dX9_undo_37 : decode cX9_undo 37 = .ok (.aload_n 0, 1) := by decide +kernel
theorem dX9_undo_38 : decode cX9_undo 38 = .ok (.getfield 45, 3) := by decide +kernel
theorem dX9_undo_41 : decode cX9_undo 41 = .ok (.getfield 241, 3) := by decide +kernel
theorem dX9_undo_44 : decode cX9_undo 44 = .ok (.ireturn, 1) := by decide +kernel
theorem dX9_judge_0 : decode cX9_judge 0 = .ok (.iload_n 1, 1) := by decide +kernel
theorem dX9_judge_1 : decode cX9_judge 1 = .ok (.invokestatic 248, 3) := by decide +kernel
theorem dX9_judge_4 : decode cX9_judge 4 = .ok (.ifCond .eq 12, 3) := by decide +kernel
theorem dX9_judge_7 : decode cX9_judge 7 = .ok (.iload_n 2, 1) := by decide +kernel
theorem dX9_judge_8 : decode cX9_judge 8 = .ok (.ifCond .lt 8, 3) := by decide +kernel
theorem dX9_judge_11 : decode cX9_judge 11 = .ok (.iload_n 2, 1) := by decide +kernel
theorem dX9_judge_12 : decode cX9_judge 12 = .ok (.iconst 3, 1) := by decide +kernel
theorem dX9_judge_13 : decode cX9_judge 13 = .ok (.if_icmp .le 6, 3) := by decide +kernel
theorem dX9_judge_16 : decode cX9_judge 16 = .ok (.bipush (-2), 2) := by decide +kernel
theorem dX9_judge_18 : decode cX9_judge 18 = .ok (.ireturn, 1) := by decide +kernel
theorem dX9_judge_19 : decode cX9_judge 19 = .ok (.aload_n 0, 1) := by decide +kernel
theorem dX9_judge_20 : decode cX9_judge 20 = .ok (.getfield 76, 3) := by decide +kernel
theorem dX9_judge_23 : decode cX9_judge 23 = .ok (.iload_n 1, 1) := by decide +kernel
theorem dX9_judge_24 : decode cX9_judge 24 = .ok (.aaload, 1) := by decide +kernel
theorem dX9_judge_25 : decode cX9_judge 25 = .ok (.invokevirtual 251, 3) := by decide +kernel
theorem dX9_judge_28 : decode cX9_judge 28 = .ok (.ifCond .eq 6, 3) := by decide +kernel
theorem dX9_judge_31 : decode cX9_judge 31 = .ok (.bipush (-6), 2) := by decide +kernel
theorem dX9_judge_33 : decode cX9_judge 33 = .ok (.ireturn, 1) := by decide +kernel
theorem dX9_judge_34 : decode cX9_judge 34 = .ok (.aload_n 0, 1) := by decide +kernel
theorem dX9_judge_35 : decode cX9_judge 35 = .ok (.getfield 39, 3) := by decide +kernel
theorem dX9_judge_38 : decode cX9_judge 38 = .ok (.aload_n 0, 1) := by decide +kernel
theorem dX9_judge_39 : decode cX9_judge 39 = .ok (.getfield 35, 3) := by decide +kernel
theorem dX9_judge_42 : decode cX9_judge 42 = .ok (.invokevirtual 255, 3) := by decide +kernel
theorem dX9_judge_45 : decode cX9_judge 45 = .ok (.aload_n 0, 1) := by decide +kernel
theorem dX9_judge_46 : decode cX9_judge 46 = .ok (.aload_n 0, 1) := by decide +kernel
theorem dX9_judge_47 : decode cX9_judge 47 = .ok (.getfield 39, 3) := by decide +kernel
theorem dX9_judge_50 : decode cX9_judge 50 = .ok (.aload_n 0, 1) := by decide +kernel
theorem dX9_judge_51 : decode cX9_judge 51 = .ok (.getfield 76, 3) := by decide +kernel
theorem dX9_judge_54 : decode cX9_judge 54 = .ok (.iload_n 1, 1) := by decide +kernel
theorem dX9_judge_55 : decode cX9_judge 55 = .ok (.aaload, 1) := by decide +kernel
theorem dX9_judge_56 : decode cX9_judge 56 = .ok (.invokevirtual 257, 3) := by decide +kernel
theorem dX9_judge_59 : decode cX9_judge 59 = .ok (.istore_n 3, 1) := by decide +kernel
theorem dX9_judge_60 : decode cX9_judge 60 = .ok (.iload_n 3, 1) := by decide +kernel
theorem dX9_judge_61 : decode cX9_judge 61 = .ok (.aload_n 0, 1) := by decide +kernel
theorem dX9_judge_62 : decode cX9_judge 62 = .ok (.getfield 76, 3) := by decide +kernel
theorem dX9_judge_65 : decode cX9_judge 65 = .ok (.iload_n 1, 1) := by decide +kernel
theorem dX9_judge_66 : decode cX9_judge 66 = .ok (.aaload, 1) := by decide +kernel
theorem dX9_judge_67 : decode cX9_judge 67 = .ok (.getfield 261, 3) := by decide +kernel
theorem dX9_judge_70 : decode cX9_judge 70 = .ok (.if_icmp .lt 7, 3) := by decide +kernel
theorem dX9_judge_73 : decode cX9_judge 73 = .ok (.iconst 1, 1) := by decide +kernel
theorem dX9_judge_74 : decode cX9_judge 74 = .ok (.goto 4, 3) := by decide +kernel
theorem dX9_judge_77 : decode cX9_judge 77 = .ok (.iconst 0, 1) := by decide +kernel
theorem dX9_judge_78 : decode cX9_judge 78 = .ok (.istore 4, 2) := by decide +kernel
theorem dX9_judge_80 : decode cX9_judge 80 = .ok (.iload_n 2, 1) := by decide +kernel
theorem dX9_judge_81 : decode cX9_judge 81 = .ok (.tableswitch 74 0 2 #[27, 38, 66], 27) := by decide +kernel
theorem dX9_judge_108 : decode cX9_judge 108 = .ok (.iload 4, 2) := by decide +kernel
theorem dX9_judge_110 : decode cX9_judge 110 = .ok (.ifCond .eq 7, 3) := by decide +kernel
theorem dX9_judge_113 : decode cX9_judge 113 = .ok (.iconst (-1), 1) := by decide +kernel
theorem dX9_judge_114 : decode cX9_judge 114 = .ok (.goto 4, 3) := by decide +kernel
theorem dX9_judge_117 : decode cX9_judge 117 = .ok (.iload_n 3, 1) := by decide +kernel
theorem dX9_judge_118 : decode cX9_judge 118 = .ok (.ireturn, 1) := by decide +kernel
theorem dX9_judge_119 : decode cX9_judge 119 = .ok (.iload 4, 2) := by decide +kernel
theorem dX9_judge_121 : decode cX9_judge 121 = .ok (.ifCond .eq 7, 3) := by decide +kernel
theorem dX9_judge_124 : decode cX9_judge 124 = .ok (.iconst 0, 1) := by decide +kernel
theorem dX9_judge_125 : decode cX9_judge 125 = .ok (.goto 21, 3) := by decide +kernel
theorem dX9_judge_128 : decode cX9_judge 128 = .ok (.aload_n 0, 1) := by decide +kernel
theorem dX9_judge_129 : decode cX9_judge 129 = .ok (.aload_n 0, 1) := by decide +kernel
theorem dX9_judge_130 : decode cX9_judge 130 = .ok (.getfield 39, 3) := by decide +kernel
theorem dX9_judge_133 : decode cX9_judge 133 = .ok (.aload_n 0, 1) := by decide +kernel
theorem dX9_judge_134 : decode cX9_judge 134 = .ok (.getfield 76, 3) := by decide +kernel
theorem dX9_judge_137 : decode cX9_judge 137 = .ok (.iload_n 1, 1) := by decide +kernel
theorem dX9_judge_138 : decode cX9_judge 138 = .ok (.aaload, 1) := by decide +kernel
theorem dX9_judge_139 : decode cX9_judge 139 = .ok (.iload_n 3, 1) := by decide +kernel
theorem dX9_judge_140 : decode cX9_judge 140 = .ok (.invokevirtual 264, 3) := by decide +kernel
theorem dX9_judge_143 : decode cX9_judge 143 = .ok (.invokevirtual 268, 3) := by decide +kernel
theorem dX9_judge_146 : decode cX9_judge 146 = .ok (.ireturn, 1) := by decide +kernel
theorem dX9_judge_147 : decode cX9_judge 147 = .ok (.aload_n 0, 1) := by decide +kernel
theorem dX9_judge_148 : decode cX9_judge 148 = .ok (.getfield 39, 3) := by decide +kernel
theorem dX9_judge_151 : decode cX9_judge 151 = .ok (.getfield 272, 3) := by decide +kernel
theorem dX9_judge_154 : decode cX9_judge 154 = .ok (.ireturn, 1) := by decide +kernel
theorem dX9_judge_155 : decode cX9_judge 155 = .ok (.aload_n 0, 1) := by decide +kernel
theorem dX9_judge_156 : decode cX9_judge 156 = .ok (.getfield 39, 3) := by decide +kernel
theorem dX9_judge_159 : decode cX9_judge 159 = .ok (.iconst 2, 1) := by decide +kernel
theorem dX9_judge_160 : decode cX9_judge 160 = .ok (.invokevirtual 222, 3) := by decide +kernel
theorem dX9_judge_163 : decode cX9_judge 163 = .ok (.ireturn, 1) := by decide +kernel
theorem dX9_perform_0 : decode cX9_perform 0 = .ok (.iload_n 1, 1) := by decide +kernel
theorem dX9_perform_1 : decode cX9_perform 1 = .ok (.invokestatic 248, 3) := by decide +kernel
theorem dX9_perform_4 : decode cX9_perform 4 = .ok (.ifCond .ne 6, 3) := by decide +kernel
theorem dX9_perform_7 : decode cX9_perform 7 = .ok (.bipush (-2), 2) := by decide +kernel
theorem dX9_perform_9 : decode cX9_perform 9 = .ok (.ireturn, 1) := by decide +kernel
theorem dX9_perform_10 : decode cX9_perform 10 = .ok (.aload_n 0, 1) := by decide +kernel
theorem dX9_perform_11 : decode cX9_perform 11 = .ok (.getfield 76, 3) := by decide +kernel
theorem dX9_perform_14 : decode cX9_perform 14 = .ok (.iload_n 1, 1) := by decide +kernel
theorem dX9_perform_15 : decode cX9_perform 15 = .ok (.aaload, 1) := by decide +kernel
theorem dX9_perform_16 : decode cX9_perform 16 = .ok (.invokevirtual 251, 3) := by decide +kernel
theorem dX9_perform_19 : decode cX9_perform 19 = .ok (.ifCond .eq 6, 3) := by decide +kernel
theorem dX9_perform_22 : decode cX9_perform 22 = .ok (.bipush (-6), 2) := by decide +kernel
theorem dX9_perform_24 : decode cX9_perform 24 = .ok (.ireturn, 1) := by decide +kernel
theorem dX9_perform_25 : decode cX9_perform 25 = .ok (.aload_n 0, 1) := by decide +kernel
theorem dX9_perform_26 : decode cX9_perform 26 = .ok (.getfield 45, 3) := by decide +kernel
theorem dX9_perform_29 : decode cX9_perform 29 = .ok (.aload_n 0, 1) := by decide +kernel
theorem dX9_perform_30 : decode cX9_perform 30 = .ok (.getfield 35, 3) := by decide +kernel
theorem dX9_perform_33 : decode cX9_perform 33 = .ok (.invokevirtual 211, 3) := by decide +kernel
theorem dX9_perform_36 : decode cX9_perform 36 = .ok (.aload_n 0, 1) := by decide +kernel
theorem dX9_perform_37 : decode cX9_perform 37 = .ok (.aload_n 0, 1) := by decide +kernel
theorem dX9_perform_38 : decode cX9_perform 38 = .ok (.getfield 35, 3) := by decide +kernel
theorem dX9_perform_41 : decode cX9_perform 41 = .ok (.aload_n 0, 1) := by decide +kernel
theorem dX9_perform_42 : decode cX9_perform 42 = .ok (.getfield 76, 3) := by decide +kernel
theorem dX9_perform_45 : decode cX9_perform 45 = .ok (.iload_n 1, 1) := by decide +kernel
theorem dX9_perform_46 : decode cX9_perform 46 = .ok (.aaload, 1) := by decide +kernel
theorem dX9_perform_47 : decode cX9_perform 47 = .ok (.invokevirtual 257, 3) := by decide +kernel
theorem dX9_perform_50 : decode cX9_perform 50 = .ok (.istore_n 2, 1) := by decide +kernel
theorem dX9_perform_51 : decode cX9_perform 51 = .ok (.iload_n 2, 1) := by decide +kernel
theorem dX9_perform_52 : decode cX9_perform 52 = .ok (.ifCond .le 10, 3) := by decide +kernel
theorem dX9_perform_55 : decode cX9_perform 55 = .ok (.aload_n 0, 1) := by decide +kernel
theorem dX9_perform_56 : decode cX9_perform 56 = .ok (.getfield 45, 3) := by decide +kernel
theorem dX9_perform_59 : decode cX9_perform 59 = .ok (.invokevirtual 215, 3) := by decide +kernel
theorem dX9_perform_62 : decode cX9_perform 62 = .ok (.iload_n 2, 1) := by decide +kernel
theorem dX9_perform_63 : decode cX9_perform 63 = .ok (.ireturn, 1) := by decide +kernel
theorem dX9_doAll_0 : decode cX9_doAll 0 = .ok (.iconst 0, 1) := by decide +kernel
theorem dX9_doAll_1 : decode cX9_doAll 1 = .ok (.istore_n 3, 1) := by decide +kernel
theorem dX9_doAll_2 : decode cX9_doAll 2 = .ok (.iload_n 3, 1) := by decide +kernel
theorem dX9_doAll_3 : decode cX9_doAll 3 = .ok (.aload_n 2, 1) := by decide +kernel
theorem dX9_doAll_4 : decode cX9_doAll 4 = .ok (.getfield 261, 3) := by decide +kernel
theorem dX9_doAll_7 : decode cX9_doAll 7 = .ok (.if_icmp .ge 36, 3) := by decide +kernel
theorem dX9_doAll_10 : decode cX9_doAll 10 = .ok (.aload_n 2, 1) := by decide +kernel
theorem dX9_doAll_11 : decode cX9_doAll 11 = .ok (.iload_n 3, 1) := by decide +kernel
theorem dX9_doAll_12 : decode cX9_doAll 12 = .ok (.invokevirtual 264, 3) := by decide +kernel
theorem dX9_doAll_15 : decode cX9_doAll 15 = .ok (.lstore 4, 2) := by decide +kernel
theorem dX9_doAll_17 : decode cX9_doAll 17 = .ok (.aload_n 0, 1) := by decide +kernel
theorem dX9_doAll_18 : decode cX9_doAll 18 = .ok (.aload_n 1, 1) := by decide +kernel
theorem dX9_doAll_19 : decode cX9_doAll 19 = .ok (.lload 4, 2) := by decide +kernel
theorem dX9_doAll_21 : decode cX9_doAll 21 = .ok (.invokevirtual 268, 3) := by decide +kernel
theorem dX9_doAll_24 : decode cX9_doAll 24 = .ok (.ifCond .eq 5, 3) := by decide +kernel
theorem dX9_doAll_27 : decode cX9_doAll 27 = .ok (.iload_n 3, 1) := by decide +kernel
theorem dX9_doAll_28 : decode cX9_doAll 28 = .ok (.ireturn, 1) := by decide +kernel
theorem dX9_doAll_29 : decode cX9_doAll 29 = .ok (.aload_n 0, 1) := by decide +kernel
theorem dX9_doAll_30 : decode cX9_doAll 30 = .ok (.aload_n 1, 1) := by decide +kernel
theorem dX9_doAll_31 : decode cX9_doAll 31 = .ok (.lload 4, 2) := by decide +kernel
theorem dX9_doAll_33 : decode cX9_doAll 33 = .ok (.l2i, 1) := by decide +kernel
theorem dX9_doAll_34 : decode cX9_doAll 34 = .ok (.invokevirtual 275, 3) := by decide +kernel
theorem dX9_doAll_37 : decode cX9_doAll 37 = .ok (.iinc 3 1, 3) := by decide +kernel
theorem dX9_doAll_40 : decode cX9_doAll 40 = .ok (.goto (-38), 3) := by decide +kernel
theorem dX9_doAll_43 : decode cX9_doAll 43 = .ok (.aload_n 2, 1) := by decide +kernel
theorem dX9_doAll_44 : decode cX9_doAll 44 = .ok (.getfield 261, 3) := by decide +kernel
theorem dX9_doAll_47 : decode cX9_doAll 47 = .ok (.ireturn, 1) := by decide +kernel
theorem dX9_whyNotDone_0 : decode cX9_whyNotDone 0 = .ok (.lload_n 2, 1) := by decide +kernel
theorem dX9_whyNotDone_1 : decode cX9_whyNotDone 1 = .ok (.ldc2_w 279, 3) := by decide +kernel
theorem dX9_whyNotDone_4 : decode cX9_whyNotDone 4 = .ok (.lcmp, 1) := by decide +kernel
theorem dX9_whyNotDone_5 : decode cX9_whyNotDone 5 = .ok (.ifCond .ne 5, 3) := by decide +kernel
theorem dX9_whyNotDone_8 : decode cX9_whyNotDone 8 = .ok (.iconst 0, 1) := by decide +kernel
theorem dX9_whyNotDone_9 : decode cX9_whyNotDone 9 = .ok (.ireturn, 1) := by decide +kernel
theorem dX9_whyNotDone_10 : decode cX9_whyNotDone 10 = .ok (.lload_n 2, 1) := by decide +kernel
theorem dX9_whyNotDone_11 : decode cX9_whyNotDone 11 = .ok (.lconst 0, 1) := by decide +kernel
theorem dX9_whyNotDone_12 : decode cX9_whyNotDone 12 = .ok (.lcmp, 1) := by decide +kernel
theorem dX9_whyNotDone_13 : decode cX9_whyNotDone 13 = .ok (.ifCond .lt 11, 3) := by decide +kernel
theorem dX9_whyNotDone_16 : decode cX9_whyNotDone 16 = .ok (.lload_n 2, 1) := by decide +kernel
theorem dX9_whyNotDone_17 : decode cX9_whyNotDone 17 = .ok (.ldc2_w 281, 3) := by decide +kernel
theorem dX9_whyNotDone_20 : decode cX9_whyNotDone 20 = .ok (.lcmp, 1) := by decide +kernel
theorem dX9_whyNotDone_21 : decode cX9_whyNotDone 21 = .ok (.ifCond .lt 5, 3) := by decide +kernel
theorem dX9_whyNotDone_24 : decode cX9_whyNotDone 24 = .ok (.iconst 1, 1) := by decide +kernel
theorem dX9_whyNotDone_25 : decode cX9_whyNotDone 25 = .ok (.ireturn, 1) := by decide +kernel
theorem dX9_whyNotDone_26 : decode cX9_whyNotDone 26 = .ok (.lload_n 2, 1) := by decide +kernel
theorem dX9_whyNotDone_27 : decode cX9_whyNotDone 27 = .ok (.l2i, 1) := by decide +kernel
theorem dX9_whyNotDone_28 : decode cX9_whyNotDone 28 = .ok (.istore 4, 2) := by decide +kernel
theorem dX9_whyNotDone_30 : decode cX9_whyNotDone 30 = .ok (.iload 4, 2) := by decide +kernel
theorem dX9_whyNotDone_32 : decode cX9_whyNotDone 32 = .ok (.sipush 1000, 3) := by decide +kernel
theorem dX9_whyNotDone_35 : decode cX9_whyNotDone 35 = .ok (.if_icmp .lt 14, 3) := by decide +kernel
theorem dX9_whyNotDone_38 : decode cX9_whyNotDone 38 = .ok (.aload_n 1, 1) := by decide +kernel
theorem dX9_whyNotDone_39 : decode cX9_whyNotDone 39 = .ok (.iload 4, 2) := by decide +kernel
theorem dX9_whyNotDone_41 : decode cX9_whyNotDone 41 = .ok (.sipush 1000, 3) := by decide +kernel
theorem dX9_whyNotDone_44 : decode cX9_whyNotDone 44 = .ok (.isub, 1) := by decide +kernel
theorem dX9_whyNotDone_45 : decode cX9_whyNotDone 45 = .ok (.invokevirtual 235, 3) := by decide +kernel
theorem dX9_whyNotDone_48 : decode cX9_whyNotDone 48 = .ok (.ireturn, 1) := by decide +kernel
theorem dX9_whyNotDone_49 : decode cX9_whyNotDone 49 = .ok (.iload 4, 2) := by decide +kernel
theorem dX9_whyNotDone_51 : decode cX9_whyNotDone 51 = .ok (.bipush 10, 2) := by decide +kernel
theorem dX9_whyNotDone_53 : decode cX9_whyNotDone 53 = .ok (.irem, 1) := by decide +kernel
theorem dX9_whyNotDone_54 : decode cX9_whyNotDone 54 = .ok (.iconst 1, 1) := by decide +kernel
theorem dX9_whyNotDone_55 : decode cX9_whyNotDone 55 = .ok (.if_icmp .le 5, 3) := by decide +kernel
theorem dX9_whyNotDone_58 : decode cX9_whyNotDone 58 = .ok (.iconst 1, 1) := by decide +kernel
theorem dX9_whyNotDone_59 : decode cX9_whyNotDone 59 = .ok (.ireturn, 1) := by decide +kernel
theorem dX9_whyNotDone_60 : decode cX9_whyNotDone 60 = .ok (.aload_n 1, 1) := by decide +kernel
theorem dX9_whyNotDone_61 : decode cX9_whyNotDone 61 = .ok (.aload_n 0, 1) := by decide +kernel
theorem dX9_whyNotDone_62 : decode cX9_whyNotDone 62 = .ok (.getfield 31, 3) := by decide +kernel
theorem dX9_whyNotDone_65 : decode cX9_whyNotDone 65 = .ok (.iload 4, 2) := by decide +kernel
theorem dX9_whyNotDone_67 : decode cX9_whyNotDone 67 = .ok (.bipush 100, 2) := by decide +kernel
theorem dX9_whyNotDone_69 : decode cX9_whyNotDone 69 = .ok (.idiv, 1) := by decide +kernel
theorem dX9_whyNotDone_70 : decode cX9_whyNotDone 70 = .ok (.iload 4, 2) := by decide +kernel
theorem dX9_whyNotDone_72 : decode cX9_whyNotDone 72 = .ok (.invokestatic 283, 3) := by decide +kernel
theorem dX9_whyNotDone_75 : decode cX9_whyNotDone 75 = .ok (.invokevirtual 207, 3) := by decide +kernel
theorem dX9_whyNotDone_78 : decode cX9_whyNotDone 78 = .ok (.ireturn, 1) := by decide +kernel
theorem dX9_toldTo_0 : decode cX9_toldTo 0 = .ok (.iload_n 0, 1) := by decide +kernel
theorem dX9_toldTo_1 : decode cX9_toldTo 1 = .ok (.bipush 10, 2) := by decide +kernel
theorem dX9_toldTo_3 : decode cX9_toldTo 3 = .ok (.idiv, 1) := by decide +kernel
theorem dX9_toldTo_4 : decode cX9_toldTo 4 = .ok (.bipush 10, 2) := by decide +kernel
theorem dX9_toldTo_6 : decode cX9_toldTo 6 = .ok (.irem, 1) := by decide +kernel
theorem dX9_toldTo_7 : decode cX9_toldTo 7 = .ok (.istore_n 1, 1) := by decide +kernel
theorem dX9_toldTo_8 : decode cX9_toldTo 8 = .ok (.iload_n 1, 1) := by decide +kernel
theorem dX9_toldTo_9 : decode cX9_toldTo 9 = .ok (.bipush 9, 2) := by decide +kernel
theorem dX9_toldTo_11 : decode cX9_toldTo 11 = .ok (.if_icmp .ne 7, 3) := by decide +kernel
theorem dX9_toldTo_14 : decode cX9_toldTo 14 = .ok (.iconst (-1), 1) := by decide +kernel
theorem dX9_toldTo_15 : decode cX9_toldTo 15 = .ok (.goto 4, 3) := by decide +kernel
theorem dX9_toldTo_18 : decode cX9_toldTo 18 = .ok (.iload_n 1, 1) := by decide +kernel
theorem dX9_toldTo_19 : decode cX9_toldTo 19 = .ok (.ireturn, 1) := by decide +kernel
theorem dX9_doOne_0 : decode cX9_doOne 0 = .ok (.iload_n 2, 1) := by decide +kernel
theorem dX9_doOne_1 : decode cX9_doOne 1 = .ok (.iconst (-1), 1) := by decide +kernel
theorem dX9_doOne_2 : decode cX9_doOne 2 = .ok (.if_icmp .ne 14, 3) := by decide +kernel
theorem dX9_doOne_5 : decode cX9_doOne 5 = .ok (.aload_n 1, 1) := by decide +kernel
theorem dX9_doOne_6 : decode cX9_doOne 6 = .ok (.aload_n 0, 1) := by decide +kernel
theorem dX9_doOne_7 : decode cX9_doOne 7 = .ok (.getfield 23, 3) := by decide +kernel
theorem dX9_doOne_10 : decode cX9_doOne 10 = .ok (.invokevirtual 225, 3) := by decide +kernel
theorem dX9_doOne_13 : decode cX9_doOne 13 = .ok (.goto 52, 3) := by decide +kernel
theorem dX9_doOne_16 : decode cX9_doOne 16 = .ok (.iload_n 2, 1) := by decide +kernel
theorem dX9_doOne_17 : decode cX9_doOne 17 = .ok (.sipush 1000, 3) := by decide +kernel
theorem dX9_doOne_20 : decode cX9_doOne 20 = .ok (.if_icmp .lt 15, 3) := by decide +kernel
theorem dX9_doOne_23 : decode cX9_doOne 23 = .ok (.aload_n 1, 1) := by decide +kernel
theorem dX9_doOne_24 : decode cX9_doOne 24 = .ok (.iload_n 2, 1) := by decide +kernel
theorem dX9_doOne_25 : decode cX9_doOne 25 = .ok (.sipush 1000, 3) := by decide +kernel
theorem dX9_doOne_28 : decode cX9_doOne 28 = .ok (.isub, 1) := by decide +kernel
theorem dX9_doOne_29 : decode cX9_doOne 29 = .ok (.invokevirtual 238, 3) := by decide +kernel
theorem dX9_doOne_32 : decode cX9_doOne 32 = .ok (.goto 33, 3) := by decide +kernel
theorem dX9_doOne_35 : decode cX9_doOne 35 = .ok (.aload_n 1, 1) := by decide +kernel
theorem dX9_doOne_36 : decode cX9_doOne 36 = .ok (.aload_n 0, 1) := by decide +kernel
theorem dX9_doOne_37 : decode cX9_doOne 37 = .ok (.getfield 31, 3) := by decide +kernel
theorem dX9_doOne_40 : decode cX9_doOne 40 = .ok (.iload_n 2, 1) := by decide +kernel
theorem dX9_doOne_41 : decode cX9_doOne 41 = .ok (.bipush 100, 2) := by decide +kernel
theorem dX9_doOne_43 : decode cX9_doOne 43 = .ok (.idiv, 1) := by decide +kernel
theorem dX9_doOne_44 : decode cX9_doOne 44 = .ok (.iload_n 2, 1) := by decide +kernel
theorem dX9_doOne_45 : decode cX9_doOne 45 = .ok (.invokestatic 283, 3) := by decide +kernel
theorem dX9_doOne_48 : decode cX9_doOne 48 = .ok (.iload_n 2, 1) := by decide +kernel
theorem dX9_doOne_49 : decode cX9_doOne 49 = .ok (.bipush 10, 2) := by decide +kernel
theorem dX9_doOne_51 : decode cX9_doOne 51 = .ok (.irem, 1) := by decide +kernel
theorem dX9_doOne_52 : decode cX9_doOne 52 = .ok (.iconst 1, 1) := by decide +kernel
theorem dX9_doOne_53 : decode cX9_doOne 53 = .ok (.if_icmp .ne 7, 3) := by decide +kernel
theorem dX9_doOne_56 : decode cX9_doOne 56 = .ok (.iconst 1, 1) := by decide +kernel
theorem dX9_doOne_57 : decode cX9_doOne 57 = .ok (.goto 4, 3) := by decide +kernel
theorem dX9_doOne_60 : decode cX9_doOne 60 = .ok (.iconst 0, 1) := by decide +kernel
theorem dX9_doOne_61 : decode cX9_doOne 61 = .ok (.invokevirtual 218, 3) := by decide +kernel
theorem dX9_doOne_64 : decode cX9_doOne 64 = .ok (.pop, 1) := by decide +kernel
theorem dX9_doOne_65 : decode cX9_doOne 65 = .ok (.return_, 1) := by decide +kernel
theorem dX9_season_0 : decode cX9_season 0 = .ok (.iload_n 2, 1) := by decide +kernel
theorem dX9_season_1 : decode cX9_season 1 = .ok (.iconst 1, 1) := by decide +kernel
theorem dX9_season_2 : decode cX9_season 2 = .ok (.if_icmp .lt 9, 3) := by decide +kernel
theorem dX9_season_5 : decode cX9_season 5 = .ok (.iload_n 2, 1) := by decide +kernel
theorem dX9_season_6 : decode cX9_season 6 = .ok (.bipush 40, 2) := by decide +kernel
theorem dX9_season_8 : decode cX9_season 8 = .ok (.if_icmp .le 6, 3) := by decide +kernel
theorem dX9_season_11 : decode cX9_season 11 = .ok (.bipush (-3), 2) := by decide +kernel
theorem dX9_season_13 : decode cX9_season 13 = .ok (.ireturn, 1) := by decide +kernel
theorem dX9_season_14 : decode cX9_season 14 = .ok (.aload_n 0, 1) := by decide +kernel
theorem dX9_season_15 : decode cX9_season 15 = .ok (.getfield 31, 3) := by decide +kernel
theorem dX9_season_18 : decode cX9_season 18 = .ok (.getfield 286, 3) := by decide +kernel
theorem dX9_season_21 : decode cX9_season 21 = .ok (.ifCond .gt 6, 3) := by decide +kernel
theorem dX9_season_24 : decode cX9_season 24 = .ok (.bipush (-5), 2) := by decide +kernel
theorem dX9_season_26 : decode cX9_season 26 = .ok (.ireturn, 1) := by decide +kernel
theorem dX9_season_27 : decode cX9_season 27 = .ok (.aload_n 0, 1) := by decide +kernel
theorem dX9_season_28 : decode cX9_season 28 = .ok (.getfield 45, 3) := by decide +kernel
theorem dX9_season_31 : decode cX9_season 31 = .ok (.aload_n 0, 1) := by decide +kernel
theorem dX9_season_32 : decode cX9_season 32 = .ok (.getfield 35, 3) := by decide +kernel
theorem dX9_season_35 : decode cX9_season 35 = .ok (.invokevirtual 211, 3) := by decide +kernel
theorem dX9_season_38 : decode cX9_season 38 = .ok (.iconst 0, 1) := by decide +kernel
theorem dX9_season_39 : decode cX9_season 39 = .ok (.istore_n 3, 1) := by decide +kernel
theorem dX9_season_40 : decode cX9_season 40 = .ok (.iload_n 1, 1) := by decide +kernel
theorem dX9_season_41 : decode cX9_season 41 = .ok (.istore 4, 2) := by decide +kernel
theorem dX9_season_43 : decode cX9_season 43 = .ok (.iconst 0, 1) := by decide +kernel
theorem dX9_season_44 : decode cX9_season 44 = .ok (.istore 5, 2) := by decide +kernel
theorem dX9_season_46 : decode cX9_season 46 = .ok (.iload 5, 2) := by decide +kernel
theorem dX9_season_48 : decode cX9_season 48 = .ok (.iload_n 2, 1) := by decide +kernel
theorem dX9_season_49 : decode cX9_season 49 = .ok (.if_icmp .ge 150, 3) := by decide +kernel
theorem dX9_season_52 : decode cX9_season 52 = .ok (.iload 4, 2) := by decide +kernel
theorem dX9_season_54 : decode cX9_season 54 = .ok (.invokestatic 289, 3) := by decide +kernel
theorem dX9_season_57 : decode cX9_season 57 = .ok (.istore 4, 2) := by decide +kernel
theorem dX9_season_59 : decode cX9_season 59 = .ok (.iconst (-1), 1) := by decide +kernel
theorem dX9_season_60 : decode cX9_season 60 = .ok (.istore 6, 2) := by decide +kernel
theorem dX9_season_62 : decode cX9_season 62 = .ok (.iload 4, 2) := by decide +kernel
theorem dX9_season_64 : decode cX9_season 64 = .ok (.invokestatic 292, 3) := by decide +kernel
theorem dX9_season_67 : decode cX9_season 67 = .ok (.iconst 4, 1) := by decide +kernel
theorem dX9_season_68 : decode cX9_season 68 = .ok (.irem, 1) := by decide +kernel
theorem dX9_season_69 : decode cX9_season 69 = .ok (.istore 7, 2) := by decide +kernel
theorem dX9_season_71 : decode cX9_season 71 = .ok (.iload 7, 2) := by decide +kernel
theorem dX9_season_73 : decode cX9_season 73 = .ok (.iconst 2, 1) := by decide +kernel
theorem dX9_season_74 : decode cX9_season 74 = .ok (.if_icmp .ne 65, 3) := by decide +kernel
theorem dX9_season_77 : decode cX9_season 77 = .ok (.iload 4, 2) := by decide +kernel
theorem dX9_season_79 : decode cX9_season 79 = .ok (.invokestatic 289, 3) := by decide +kernel
theorem dX9_season_82 : decode cX9_season 82 = .ok (.istore 8, 2) := by decide +kernel
theorem dX9_season_84 : decode cX9_season 84 = .ok (.iload 8, 2) := by decide +kernel
theorem dX9_season_86 : decode cX9_season 86 = .ok (.invokestatic 289, 3) := by decide +kernel
theorem dX9_season_89 : decode cX9_season 89 = .ok (.istore 9, 2) := by decide +kernel
theorem dX9_season_91 : decode cX9_season 91 = .ok (.iload 9, 2) := by decide +kernel
theorem dX9_season_93 : decode cX9_season 93 = .ok (.invokestatic 289, 3) := by decide +kernel
theorem dX9_season_96 : decode cX9_season 96 = .ok (.istore 4, 2) := by decide +kernel
theorem dX9_season_98 : decode cX9_season 98 = .ok (.iload 8, 2) := by decide +kernel
theorem dX9_season_100 : decode cX9_season 100 = .ok (.invokestatic 292, 3) := by decide +kernel
theorem dX9_season_103 : decode cX9_season 103 = .ok (.aload_n 0, 1) := by decide +kernel
theorem dX9_season_104 : decode cX9_season 104 = .ok (.getfield 31, 3) := by decide +kernel
theorem dX9_season_107 : decode cX9_season 107 = .ok (.getfield 286, 3) := by decide +kernel
theorem dX9_season_110 : decode cX9_season 110 = .ok (.irem, 1) := by decide +kernel
theorem dX9_season_111 : decode cX9_season 111 = .ok (.iload 9, 2) := by decide +kernel
theorem dX9_season_113 : decode cX9_season 113 = .ok (.invokestatic 292, 3) := by decide +kernel
theorem dX9_season_116 : decode cX9_season 116 = .ok (.aload_n 0, 1) := by decide +kernel
theorem dX9_season_117 : decode cX9_season 117 = .ok (.getfield 31, 3) := by decide +kernel
theorem dX9_season_120 : decode cX9_season 120 = .ok (.getfield 286, 3) := by decide +kernel
theorem dX9_season_123 : decode cX9_season 123 = .ok (.irem, 1) := by decide +kernel
theorem dX9_season_124 : decode cX9_season 124 = .ok (.iload 4, 2) := by decide +kernel
theorem dX9_season_126 : decode cX9_season 126 = .ok (.invokestatic 292, 3) := by decide +kernel
theorem dX9_season_129 : decode cX9_season 129 = .ok (.iconst 2, 1) := by decide +kernel
theorem dX9_season_130 : decode cX9_season 130 = .ok (.irem, 1) := by decide +kernel
theorem dX9_season_131 : decode cX9_season 131 = .ok (.invokestatic 295, 3) := by decide +kernel
theorem dX9_season_134 : decode cX9_season 134 = .ok (.istore 6, 2) := by decide +kernel
theorem dX9_season_136 : decode cX9_season 136 = .ok (.goto 30, 3) := by decide +kernel
theorem dX9_season_139 : decode cX9_season 139 = .ok (.iload 7, 2) := by decide +kernel
theorem dX9_season_141 : decode cX9_season 141 = .ok (.iconst 3, 1) := by decide +kernel
theorem dX9_season_142 : decode cX9_season 142 = .ok (.if_icmp .ne 24, 3) := by decide +kernel
theorem dX9_season_145 : decode cX9_season 145 = .ok (.iload 4, 2) := by decide +kernel
theorem dX9_season_147 : decode cX9_season 147 = .ok (.invokestatic 289, 3) := by decide +kernel
theorem dX9_season_150 : decode cX9_season 150 = .ok (.istore 4, 2) := by decide +kernel
theorem dX9_season_152 : decode cX9_season 152 = .ok (.sipush 1000, 3) := by decide +kernel
theorem dX9_season_155 : decode cX9_season 155 = .ok (.iload 4, 2) := by decide +kernel
theorem dX9_season_157 : decode cX9_season 157 = .ok (.invokestatic 292, 3) := by decide +kernel
theorem dX9_season_160 : decode cX9_season 160 = .ok (.bipush 8, 2) := by decide +kernel
theorem dX9_season_162 : decode cX9_season 162 = .ok (.irem, 1) := by decide +kernel
theorem dX9_season_163 : decode cX9_season 163 = .ok (.iadd, 1) := by decide +kernel
theorem dX9_season_164 : decode cX9_season 164 = .ok (.istore 6, 2) := by decide +kernel
theorem dX9_season_166 : decode cX9_season 166 = .ok (.aload_n 0, 1) := by decide +kernel
theorem dX9_season_167 : decode cX9_season 167 = .ok (.aload_n 0, 1) := by decide +kernel
theorem dX9_season_168 : decode cX9_season 168 = .ok (.getfield 35, 3) := by decide +kernel
theorem dX9_season_171 : decode cX9_season 171 = .ok (.iload 6, 2) := by decide +kernel
theorem dX9_season_173 : decode cX9_season 173 = .ok (.i2l, 1) := by decide +kernel
theorem dX9_season_174 : decode cX9_season 174 = .ok (.invokevirtual 268, 3) := by decide +kernel
theorem dX9_season_177 : decode cX9_season 177 = .ok (.ifCond .ne 16, 3) := by decide +kernel
theorem dX9_season_180 : decode cX9_season 180 = .ok (.aload_n 0, 1) := by decide +kernel
theorem dX9_season_181 : decode cX9_season 181 = .ok (.aload_n 0, 1) := by decide +kernel
theorem dX9_season_182 : decode cX9_season 182 = .ok (.getfield 35, 3) := by decide +kernel
theorem dX9_season_185 : decode cX9_season 185 = .ok (.iload 6, 2) := by decide +kernel
theorem dX9_season_187 : decode cX9_season 187 = .ok (.invokevirtual 275, 3) := by decide +kernel
theorem dX9_season_190 : decode cX9_season 190 = .ok (.iinc 3 1, 3) := by decide +kernel
theorem dX9_season_193 : decode cX9_season 193 = .ok (.iinc 5 1, 3) := by decide +kernel
theorem dX9_season_196 : decode cX9_season 196 = .ok (.goto (-150), 3) := by decide +kernel
theorem dX9_season_199 : decode cX9_season 199 = .ok (.iload_n 3, 1) := by decide +kernel
theorem dX9_season_200 : decode cX9_season 200 = .ok (.ifCond .le 10, 3) := by decide +kernel
theorem dX9_season_203 : decode cX9_season 203 = .ok (.aload_n 0, 1) := by decide +kernel
theorem dX9_season_204 : decode cX9_season 204 = .ok (.getfield 45, 3) := by decide +kernel
theorem dX9_season_207 : decode cX9_season 207 = .ok (.invokevirtual 215, 3) := by decide +kernel
theorem dX9_season_210 : decode cX9_season 210 = .ok (.iload_n 3, 1) := by decide +kernel
theorem dX9_season_211 : decode cX9_season 211 = .ok (.ireturn, 1) := by decide +kernel
theorem dX9_stir_0 : decode cX9_stir 0 = .ok (.ldc_w 299, 3) := by decide +kernel
theorem dX9_stir_3 : decode cX9_stir 3 = .ok (.iload_n 0, 1) := by decide +kernel
theorem dX9_stir_4 : decode cX9_stir 4 = .ok (.imul, 1) := by decide +kernel
theorem dX9_stir_5 : decode cX9_stir 5 = .ok (.sipush 12345, 3) := by decide +kernel
theorem dX9_stir_8 : decode cX9_stir 8 = .ok (.iadd, 1) := by decide +kernel
theorem dX9_stir_9 : decode cX9_stir 9 = .ok (.ireturn, 1) := by decide +kernel
theorem dX9_drawn_0 : decode cX9_drawn 0 = .ok (.iload_n 0, 1) := by decide +kernel
theorem dX9_drawn_1 : decode cX9_drawn 1 = .ok (.bipush 16, 2) := by decide +kernel
theorem dX9_drawn_3 : decode cX9_drawn 3 = .ok (.iushr, 1) := by decide +kernel
theorem dX9_drawn_4 : decode cX9_drawn 4 = .ok (.ireturn, 1) := by decide +kernel
theorem dX9_throwDeed_0 : decode cX9_throwDeed 0 = .ok (.bipush 100, 2) := by decide +kernel
theorem dX9_throwDeed_2 : decode cX9_throwDeed 2 = .ok (.iload_n 0, 1) := by decide +kernel
theorem dX9_throwDeed_3 : decode cX9_throwDeed 3 = .ok (.imul, 1) := by decide +kernel
theorem dX9_throwDeed_4 : decode cX9_throwDeed 4 = .ok (.bipush 10, 2) := by decide +kernel
theorem dX9_throwDeed_6 : decode cX9_throwDeed 6 = .ok (.iload_n 0, 1) := by decide +kernel
theorem dX9_throwDeed_7 : decode cX9_throwDeed 7 = .ok (.iload_n 1, 1) := by decide +kernel
theorem dX9_throwDeed_8 : decode cX9_throwDeed 8 = .ok (.if_icmp .ne 8, 3) := by decide +kernel
theorem dX9_throwDeed_11 : decode cX9_throwDeed 11 = .ok (.bipush 9, 2) := by decide +kernel
theorem dX9_throwDeed_13 : decode cX9_throwDeed 13 = .ok (.goto 4, 3) := by decide +kernel
theorem dX9_throwDeed_16 : decode cX9_throwDeed 16 = .ok (.iload_n 1, 1) := by decide +kernel
theorem dX9_throwDeed_17 : decode cX9_throwDeed 17 = .ok (.imul, 1) := by decide +kernel
theorem dX9_throwDeed_18 : decode cX9_throwDeed 18 = .ok (.iadd, 1) := by decide +kernel
theorem dX9_throwDeed_19 : decode cX9_throwDeed 19 = .ok (.iload_n 2, 1) := by decide +kernel
theorem dX9_throwDeed_20 : decode cX9_throwDeed 20 = .ok (.iadd, 1) := by decide +kernel
theorem dX9_throwDeed_21 : decode cX9_throwDeed 21 = .ok (.ireturn, 1) := by decide +kernel
theorem dX9_fate_0 : decode cX9_fate 0 = .ok (.aload_n 0, 1) := by decide +kernel
theorem dX9_fate_1 : decode cX9_fate 1 = .ok (.getfield 35, 3) := by decide +kernel
theorem dX9_fate_4 : decode cX9_fate 4 = .ok (.iload_n 1, 1) := by decide +kernel
theorem dX9_fate_5 : decode cX9_fate 5 = .ok (.invokevirtual 175, 3) := by decide +kernel
theorem dX9_fate_8 : decode cX9_fate 8 = .ok (.ifCond .eq 12, 3) := by decide +kernel
theorem dX9_fate_11 : decode cX9_fate 11 = .ok (.iload_n 2, 1) := by decide +kernel
theorem dX9_fate_12 : decode cX9_fate 12 = .ok (.ifCond .lt 8, 3) := by decide +kernel
theorem dX9_fate_15 : decode cX9_fate 15 = .ok (.iload_n 2, 1) := by decide +kernel
theorem dX9_fate_16 : decode cX9_fate 16 = .ok (.iconst 2, 1) := by decide +kernel
theorem dX9_fate_17 : decode cX9_fate 17 = .ok (.if_icmp .le 6, 3) := by decide +kernel
theorem dX9_fate_20 : decode cX9_fate 20 = .ok (.bipush (-8), 2) := by decide +kernel
theorem dX9_fate_22 : decode cX9_fate 22 = .ok (.ireturn, 1) := by decide +kernel
theorem dX9_fate_23 : decode cX9_fate 23 = .ok (.aload_n 0, 1) := by decide +kernel
theorem dX9_fate_24 : decode cX9_fate 24 = .ok (.getfield 52, 3) := by decide +kernel
theorem dX9_fate_27 : decode cX9_fate 27 = .ok (.aload_n 0, 1) := by decide +kernel
theorem dX9_fate_28 : decode cX9_fate 28 = .ok (.getfield 35, 3) := by decide +kernel
theorem dX9_fate_31 : decode cX9_fate 31 = .ok (.getfield 178, 3) := by decide +kernel
theorem dX9_fate_34 : decode cX9_fate 34 = .ok (.iload_n 1, 1) := by decide +kernel
theorem dX9_fate_35 : decode cX9_fate 35 = .ok (.aaload, 1) := by decide +kernel
theorem dX9_fate_36 : decode cX9_fate 36 = .ok (.invokevirtual 300, 3) := by decide +kernel
theorem dX9_fate_39 : decode cX9_fate 39 = .ok (.aload_n 0, 1) := by decide +kernel
theorem dX9_fate_40 : decode cX9_fate 40 = .ok (.getfield 23, 3) := by decide +kernel
theorem dX9_fate_43 : decode cX9_fate 43 = .ok (.aload_n 0, 1) := by decide +kernel
theorem dX9_fate_44 : decode cX9_fate 44 = .ok (.getfield 52, 3) := by decide +kernel
theorem dX9_fate_47 : decode cX9_fate 47 = .ok (.aload_n 0, 1) := by decide +kernel
theorem dX9_fate_48 : decode cX9_fate 48 = .ok (.getfield 35, 3) := by decide +kernel
theorem dX9_fate_51 : decode cX9_fate 51 = .ok (.getfield 169, 3) := by decide +kernel
theorem dX9_fate_54 : decode cX9_fate 54 = .ok (.invokevirtual 303, 3) := by decide +kernel
theorem dX9_fate_57 : decode cX9_fate 57 = .ok (.istore_n 3, 1) := by decide +kernel
theorem dX9_fate_58 : decode cX9_fate 58 = .ok (.iload_n 2, 1) := by decide +kernel
theorem dX9_fate_59 : decode cX9_fate 59 = .ok (.ifCond .ne 11, 3) := by decide +kernel
theorem dX9_fate_62 : decode cX9_fate 62 = .ok (.aload_n 0, 1) := by decide +kernel
theorem dX9_fate_63 : decode cX9_fate 63 = .ok (.getfield 52, 3) := by decide +kernel
theorem dX9_fate_66 : decode cX9_fate 66 = .ok (.getfield 182, 3) := by decide +kernel
theorem dX9_fate_69 : decode cX9_fate 69 = .ok (.ireturn, 1) := by decide +kernel
theorem dX9_fate_70 : decode cX9_fate 70 = .ok (.iload_n 2, 1) := by decide +kernel
theorem dX9_fate_71 : decode cX9_fate 71 = .ok (.iconst 1, 1) := by decide +kernel
theorem dX9_fate_72 : decode cX9_fate 72 = .ok (.if_icmp .ne 7, 3) := by decide +kernel
theorem dX9_fate_75 : decode cX9_fate 75 = .ok (.iload_n 3, 1) := by decide +kernel
theorem dX9_fate_76 : decode cX9_fate 76 = .ok (.goto 10, 3) := by decide +kernel
theorem dX9_fate_79 : decode cX9_fate 79 = .ok (.aload_n 0, 1) := by decide +kernel
theorem dX9_fate_80 : decode cX9_fate 80 = .ok (.getfield 52, 3) := by decide +kernel
theorem dX9_fate_83 : decode cX9_fate 83 = .ok (.getfield 204, 3) := by decide +kernel
theorem dX9_fate_86 : decode cX9_fate 86 = .ok (.ireturn, 1) := by decide +kernel
theorem dX9_whereIn_0 : decode cX9_whereIn 0 = .ok (.aload_n 0, 1) := by decide +kernel
theorem dX9_whereIn_1 : decode cX9_whereIn 1 = .ok (.getfield 35, 3) := by decide +kernel
theorem dX9_whereIn_4 : decode cX9_whereIn 4 = .ok (.iload_n 1, 1) := by decide +kernel
theorem dX9_whereIn_5 : decode cX9_whereIn 5 = .ok (.invokevirtual 175, 3) := by decide +kernel
theorem dX9_whereIn_8 : decode cX9_whereIn 8 = .ok (.ifCond .ne 6, 3) := by decide +kernel
theorem dX9_whereIn_11 : decode cX9_whereIn 11 = .ok (.bipush (-2), 2) := by decide +kernel
theorem dX9_whereIn_13 : decode cX9_whereIn 13 = .ok (.ireturn, 1) := by decide +kernel
theorem dX9_whereIn_14 : decode cX9_whereIn 14 = .ok (.iload_n 2, 1) := by decide +kernel
theorem dX9_whereIn_15 : decode cX9_whereIn 15 = .ok (.ifCond .lt 10, 3) := by decide +kernel
theorem dX9_whereIn_18 : decode cX9_whereIn 18 = .ok (.iload_n 2, 1) := by decide +kernel
theorem dX9_whereIn_19 : decode cX9_whereIn 19 = .ok (.sipush 200, 3) := by decide +kernel
theorem dX9_whereIn_22 : decode cX9_whereIn 22 = .ok (.if_icmp .le 6, 3) := by decide +kernel
theorem dX9_whereIn_25 : decode cX9_whereIn 25 = .ok (.bipush (-3), 2) := by decide +kernel
theorem dX9_whereIn_27 : decode cX9_whereIn 27 = .ok (.ireturn, 1) := by decide +kernel
theorem dX9_whereIn_28 : decode cX9_whereIn 28 = .ok (.aload_n 0, 1) := by decide +kernel
theorem dX9_whereIn_29 : decode cX9_whereIn 29 = .ok (.getfield 52, 3) := by decide +kernel
theorem dX9_whereIn_32 : decode cX9_whereIn 32 = .ok (.aload_n 0, 1) := by decide +kernel
theorem dX9_whereIn_33 : decode cX9_whereIn 33 = .ok (.getfield 35, 3) := by decide +kernel
theorem dX9_whereIn_36 : decode cX9_whereIn 36 = .ok (.getfield 178, 3) := by decide +kernel
theorem dX9_whereIn_39 : decode cX9_whereIn 39 = .ok (.iload_n 1, 1) := by decide +kernel
theorem dX9_whereIn_40 : decode cX9_whereIn 40 = .ok (.aaload, 1) := by decide +kernel
theorem dX9_whereIn_41 : decode cX9_whereIn 41 = .ok (.invokevirtual 300, 3) := by decide +kernel
theorem dX9_whereIn_44 : decode cX9_whereIn 44 = .ok (.iconst 0, 1) := by decide +kernel
theorem dX9_whereIn_45 : decode cX9_whereIn 45 = .ok (.istore_n 3, 1) := by decide +kernel
theorem dX9_whereIn_46 : decode cX9_whereIn 46 = .ok (.iload_n 3, 1) := by decide +kernel
theorem dX9_whereIn_47 : decode cX9_whereIn 47 = .ok (.iload_n 2, 1) := by decide +kernel
theorem dX9_whereIn_48 : decode cX9_whereIn 48 = .ok (.if_icmp .ge 29, 3) := by decide +kernel
theorem dX9_whereIn_51 : decode cX9_whereIn 51 = .ok (.aload_n 0, 1) := by decide +kernel
theorem dX9_whereIn_52 : decode cX9_whereIn 52 = .ok (.getfield 23, 3) := by decide +kernel
theorem dX9_whereIn_55 : decode cX9_whereIn 55 = .ok (.aload_n 0, 1) := by decide +kernel
theorem dX9_whereIn_56 : decode cX9_whereIn 56 = .ok (.getfield 52, 3) := by decide +kernel
theorem dX9_whereIn_59 : decode cX9_whereIn 59 = .ok (.aload_n 0, 1) := by decide +kernel
theorem dX9_whereIn_60 : decode cX9_whereIn 60 = .ok (.getfield 35, 3) := by decide +kernel
theorem dX9_whereIn_63 : decode cX9_whereIn 63 = .ok (.getfield 169, 3) := by decide +kernel
theorem dX9_whereIn_66 : decode cX9_whereIn 66 = .ok (.iload_n 3, 1) := by decide +kernel
theorem dX9_whereIn_67 : decode cX9_whereIn 67 = .ok (.iadd, 1) := by decide +kernel
theorem dX9_whereIn_68 : decode cX9_whereIn 68 = .ok (.invokevirtual 307, 3) := by decide +kernel
theorem dX9_whereIn_71 : decode cX9_whereIn 71 = .ok (.iinc 3 1, 3) := by decide +kernel
theorem dX9_whereIn_74 : decode cX9_whereIn 74 = .ok (.goto (-28), 3) := by decide +kernel
theorem dX9_whereIn_77 : decode cX9_whereIn 77 = .ok (.aload_n 0, 1) := by decide +kernel
theorem dX9_whereIn_78 : decode cX9_whereIn 78 = .ok (.getfield 52, 3) := by decide +kernel
theorem dX9_whereIn_81 : decode cX9_whereIn 81 = .ok (.invokevirtual 311, 3) := by decide +kernel
theorem dX9_whereIn_84 : decode cX9_whereIn 84 = .ok (.ireturn, 1) := by decide +kernel
theorem dX9_comesTo_0 : decode cX9_comesTo 0 = .ok (.aload_n 0, 1) := by decide +kernel
theorem dX9_comesTo_1 : decode cX9_comesTo 1 = .ok (.getfield 35, 3) := by decide +kernel
theorem dX9_comesTo_4 : decode cX9_comesTo 4 = .ok (.iload_n 1, 1) := by decide +kernel
theorem dX9_comesTo_5 : decode cX9_comesTo 5 = .ok (.invokevirtual 175, 3) := by decide +kernel
theorem dX9_comesTo_8 : decode cX9_comesTo 8 = .ok (.ifCond .eq 14, 3) := by decide +kernel
theorem dX9_comesTo_11 : decode cX9_comesTo 11 = .ok (.aload_n 0, 1) := by decide +kernel
theorem dX9_comesTo_12 : decode cX9_comesTo 12 = .ok (.getfield 31, 3) := by decide +kernel
theorem dX9_comesTo_15 : decode cX9_comesTo 15 = .ok (.iload_n 2, 1) := by decide +kernel
theorem dX9_comesTo_16 : decode cX9_comesTo 16 = .ok (.invokevirtual 132, 3) := by decide +kernel
theorem dX9_comesTo_19 : decode cX9_comesTo 19 = .ok (.ifCond .ne 6, 3) := by decide +kernel
theorem dX9_comesTo_22 : decode cX9_comesTo 22 = .ok (.bipush (-2), 2) := by decide +kernel
theorem dX9_comesTo_24 : decode cX9_comesTo 24 = .ok (.ireturn, 1) := by decide +kernel
theorem dX9_comesTo_25 : decode cX9_comesTo 25 = .ok (.aload_n 0, 1) := by decide +kernel
theorem dX9_comesTo_26 : decode cX9_comesTo 26 = .ok (.getfield 52, 3) := by decide +kernel
theorem dX9_comesTo_29 : decode cX9_comesTo 29 = .ok (.aload_n 0, 1) := by decide +kernel
theorem dX9_comesTo_30 : decode cX9_comesTo 30 = .ok (.getfield 35, 3) := by decide +kernel
theorem dX9_comesTo_33 : decode cX9_comesTo 33 = .ok (.getfield 178, 3) := by decide +kernel
theorem dX9_comesTo_36 : decode cX9_comesTo 36 = .ok (.iload_n 1, 1) := by decide +kernel
theorem dX9_comesTo_37 : decode cX9_comesTo 37 = .ok (.aaload, 1) := by decide +kernel
theorem dX9_comesTo_38 : decode cX9_comesTo 38 = .ok (.invokevirtual 300, 3) := by decide +kernel
theorem dX9_comesTo_41 : decode cX9_comesTo 41 = .ok (.iconst 0, 1) := by decide +kernel
theorem dX9_comesTo_42 : decode cX9_comesTo 42 = .ok (.istore_n 3, 1) := by decide +kernel
theorem dX9_comesTo_43 : decode cX9_comesTo 43 = .ok (.iload_n 3, 1) := by decide +kernel
