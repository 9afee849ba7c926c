theorem d0_0 : decode prog_1_method_1_code 0 = .ok (.aload_n 0, 1) := by decide +kernel
theorem d0_1 : decode prog_1_method_1_code 1 = .ok (.invokespecial 3, 3) := by decide +kernel
theorem d0_4 : decode prog_1_method_1_code 4 = .ok (.aload_n 0, 1) := by decide +kernel
theorem d0_5 : decode prog_1_method_1_code 5 = .ok (.new 9, 3) := by decide +kernel
theorem d0_8 : decode prog_1_method_1_code 8 = .ok (.dup, 1) := by decide +kernel
theorem d0_9 : decode prog_1_method_1_code 9 = .ok (.invokespecial 11, 3) := by decide +kernel
theorem d0_12 : decode prog_1_method_1_code 12 = .ok (.putfield 12, 3) := by decide +kernel
theorem d0_15 : decode prog_1_method_1_code 15 = .ok (.aload_n 0, 1) := by decide +kernel
theorem d0_16 : decode prog_1_method_1_code 16 = .ok (.new 16, 3) := by decide +kernel
theorem d0_19 : decode prog_1_method_1_code 19 = .ok (.dup, 1) := by decide +kernel
theorem d0_20 : decode prog_1_method_1_code 20 = .ok (.invokespecial 18, 3) := by decide +kernel
theorem d0_23 : decode prog_1_method_1_code 23 = .ok (.putfield 19, 3) := by decide +kernel
theorem d0_26 : decode prog_1_method_1_code 26 = .ok (.aload_n 0, 1) := by decide +kernel
theorem d0_27 : decode prog_1_method_1_code 27 = .ok (.new 23, 3) := by decide +kernel
theorem d0_30 : decode prog_1_method_1_code 30 = .ok (.dup, 1) := by decide +kernel
theorem d0_31 : decode prog_1_method_1_code 31 = .ok (.invokespecial 25, 3) := by decide +kernel
theorem d0_34 : decode prog_1_method_1_code 34 = .ok (.putfield 26, 3) := by decide +kernel
theorem d0_37 : decode prog_1_method_1_code 37 = .ok (.aload_n 0, 1) := by decide +kernel
theorem d0_38 : decode prog_1_method_1_code 38 = .ok (.new 30, 3) := by decide +kernel
theorem d0_41 : decode prog_1_method_1_code 41 = .ok (.dup, 1) := by decide +kernel
theorem d0_42 : decode prog_1_method_1_code 42 = .ok (.invokespecial 32, 3) := by decide +kernel
theorem d0_45 : decode prog_1_method_1_code 45 = .ok (.putfield 33, 3) := by decide +kernel
theorem d0_48 : decode prog_1_method_1_code 48 = .ok (.aload_n 0, 1) := by decide +kernel
theorem d0_49 : decode prog_1_method_1_code 49 = .ok (.new 37, 3) := by decide +kernel
theorem d0_52 : decode prog_1_method_1_code 52 = .ok (.dup, 1) := by decide +kernel
theorem d0_53 : decode prog_1_method_1_code 53 = .ok (.invokespecial 39, 3) := by decide +kernel
theorem d0_56 : decode prog_1_method_1_code 56 = .ok (.putfield 40, 3) := by decide +kernel
theorem d0_59 : decode prog_1_method_1_code 59 = .ok (.aload_n 0, 1) := by decide +kernel
theorem d0_60 : decode prog_1_method_1_code 60 = .ok (.new 44, 3) := by decide +kernel
theorem d0_63 : decode prog_1_method_1_code 63 = .ok (.dup, 1) := by decide +kernel
theorem d0_64 : decode prog_1_method_1_code 64 = .ok (.invokespecial 46, 3) := by decide +kernel
theorem d0_67 : decode prog_1_method_1_code 67 = .ok (.putfield 47, 3) := by decide +kernel
theorem d0_70 : decode prog_1_method_1_code 70 = .ok (.aload_n 0, 1) := by decide +kernel
theorem d0_71 : decode prog_1_method_1_code 71 = .ok (.new 51, 3) := by decide +kernel
theorem d0_74 : decode prog_1_method_1_code 74 = .ok (.dup, 1) := by decide +kernel
theorem d0_75 : decode prog_1_method_1_code 75 = .ok (.invokespecial 53, 3) := by decide +kernel
theorem d0_78 : decode prog_1_method_1_code 78 = .ok (.putfield 54, 3) := by decide +kernel
theorem d0_81 : decode prog_1_method_1_code 81 = .ok (.aload_n 0, 1) := by decide +kernel
theorem d0_82 : decode prog_1_method_1_code 82 = .ok (.new 58, 3) := by decide +kernel
theorem d0_85 : decode prog_1_method_1_code 85 = .ok (.dup, 1) := by decide +kernel
theorem d0_86 : decode prog_1_method_1_code 86 = .ok (.invokespecial 60, 3) := by decide +kernel
theorem d0_89 : decode prog_1_method_1_code 89 = .ok (.putfield 61, 3) := by decide +kernel
theorem d0_92 : decode prog_1_method_1_code 92 = .ok (.aload_n 0, 1) := by decide +kernel
theorem d0_93 : decode prog_1_method_1_code 93 = .ok (.iconst 0, 1) := by decide +kernel
theorem d0_94 : decode prog_1_method_1_code 94 = .ok (.putfield 65, 3) := by decide +kernel
theorem d0_97 : decode prog_1_method_1_code 97 = .ok (.aload_n 0, 1) := by decide +kernel
theorem d0_98 : decode prog_1_method_1_code 98 = .ok (.iconst 0, 1) := by decide +kernel
theorem d0_99 : decode prog_1_method_1_code 99 = .ok (.putfield 69, 3) := by decide +kernel
theorem d0_102 : decode prog_1_method_1_code 102 = .ok (.aload_n 0, 1) := by decide +kernel
theorem d0_103 : decode prog_1_method_1_code 103 = .ok (.iconst 0, 1) := by decide +kernel
theorem d0_104 : decode prog_1_method_1_code 104 = .ok (.putfield 72, 3) := by decide +kernel
theorem d0_107 : decode prog_1_method_1_code 107 = .ok (.aload_n 0, 1) := by decide +kernel
theorem d0_108 : decode prog_1_method_1_code 108 = .ok (.iconst 0, 1) := by decide +kernel
theorem d0_109 : decode prog_1_method_1_code 109 = .ok (.putfield 75, 3) := by decide +kernel
theorem d0_112 : decode prog_1_method_1_code 112 = .ok (.return_, 1) := by decide +kernel
theorem d1_0 : decode prog_1_method_2_code 0 = .ok (.iload_n 1, 1) := by decide +kernel
theorem d1_1 : decode prog_1_method_2_code 1 = .ok (.invokestatic 78, 3) := by decide +kernel
theorem d1_4 : decode prog_1_method_2_code 4 = .ok (.ifCond .ne 6, 3) := by decide +kernel
theorem d1_7 : decode prog_1_method_2_code 7 = .ok (.bipush (-2), 2) := by decide +kernel
theorem d1_9 : decode prog_1_method_2_code 9 = .ok (.ireturn, 1) := by decide +kernel
theorem d1_10 : decode prog_1_method_2_code 10 = .ok (.aload_n 0, 1) := by decide +kernel
theorem d1_11 : decode prog_1_method_2_code 11 = .ok (.getfield 12, 3) := by decide +kernel
theorem d1_14 : decode prog_1_method_2_code 14 = .ok (.getfield 82, 3) := by decide +kernel
theorem d1_17 : decode prog_1_method_2_code 17 = .ok (.bipush 12, 2) := by decide +kernel
theorem d1_19 : decode prog_1_method_2_code 19 = .ok (.if_icmp .lt 6, 3) := by decide +kernel
theorem d1_22 : decode prog_1_method_2_code 22 = .ok (.bipush (-4), 2) := by decide +kernel
theorem d1_24 : decode prog_1_method_2_code 24 = .ok (.ireturn, 1) := by decide +kernel
theorem d1_25 : decode prog_1_method_2_code 25 = .ok (.aload_n 0, 1) := by decide +kernel
theorem d1_26 : decode prog_1_method_2_code 26 = .ok (.invokevirtual 86, 3) := by decide +kernel
theorem d1_29 : decode prog_1_method_2_code 29 = .ok (.aload_n 0, 1) := by decide +kernel
theorem d1_30 : decode prog_1_method_2_code 30 = .ok (.getfield 12, 3) := by decide +kernel
theorem d1_33 : decode prog_1_method_2_code 33 = .ok (.iload_n 1, 1) := by decide +kernel
theorem d1_34 : decode prog_1_method_2_code 34 = .ok (.invokevirtual 89, 3) := by decide +kernel
theorem d1_37 : decode prog_1_method_2_code 37 = .ok (.ireturn, 1) := by decide +kernel
theorem d2_0 : decode prog_1_method_3_code 0 = .ok (.aload_n 0, 1) := by decide +kernel
theorem d2_1 : decode prog_1_method_3_code 1 = .ok (.getfield 12, 3) := by decide +kernel
theorem d2_4 : decode prog_1_method_3_code 4 = .ok (.iload_n 1, 1) := by decide +kernel
theorem d2_5 : decode prog_1_method_3_code 5 = .ok (.invokevirtual 93, 3) := by decide +kernel
theorem d2_8 : decode prog_1_method_3_code 8 = .ok (.ifCond .ne 5, 3) := by decide +kernel
theorem d2_11 : decode prog_1_method_3_code 11 = .ok (.iconst (-1), 1) := by decide +kernel
theorem d2_12 : decode prog_1_method_3_code 12 = .ok (.ireturn, 1) := by decide +kernel
theorem d2_13 : decode prog_1_method_3_code 13 = .ok (.iload_n 2, 1) := by decide +kernel
theorem d2_14 : decode prog_1_method_3_code 14 = .ok (.invokestatic 78, 3) := by decide +kernel
theorem d2_17 : decode prog_1_method_3_code 17 = .ok (.ifCond .ne 6, 3) := by decide +kernel
theorem d2_20 : decode prog_1_method_3_code 20 = .ok (.bipush (-2), 2) := by decide +kernel
theorem d2_22 : decode prog_1_method_3_code 22 = .ok (.ireturn, 1) := by decide +kernel
theorem d2_23 : decode prog_1_method_3_code 23 = .ok (.aload_n 0, 1) := by decide +kernel
theorem d2_24 : decode prog_1_method_3_code 24 = .ok (.invokevirtual 96, 3) := by decide +kernel
theorem d2_27 : decode prog_1_method_3_code 27 = .ok (.aload_n 0, 1) := by decide +kernel
theorem d2_28 : decode prog_1_method_3_code 28 = .ok (.getfield 12, 3) := by decide +kernel
theorem d2_31 : decode prog_1_method_3_code 31 = .ok (.getfield 99, 3) := by decide +kernel
theorem d2_34 : decode prog_1_method_3_code 34 = .ok (.iload_n 1, 1) := by decide +kernel
theorem d2_35 : decode prog_1_method_3_code 35 = .ok (.iaload, 1) := by decide +kernel
theorem d2_36 : decode prog_1_method_3_code 36 = .ok (.istore_n 3, 1) := by decide +kernel
theorem d2_37 : decode prog_1_method_3_code 37 = .ok (.aload_n 0, 1) := by decide +kernel
theorem d2_38 : decode prog_1_method_3_code 38 = .ok (.getfield 12, 3) := by decide +kernel
theorem d2_41 : decode prog_1_method_3_code 41 = .ok (.getfield 99, 3) := by decide +kernel
theorem d2_44 : decode prog_1_method_3_code 44 = .ok (.iload_n 1, 1) := by decide +kernel
theorem d2_45 : decode prog_1_method_3_code 45 = .ok (.iload_n 2, 1) := by decide +kernel
theorem d2_46 : decode prog_1_method_3_code 46 = .ok (.iastore, 1) := by decide +kernel
theorem d2_47 : decode prog_1_method_3_code 47 = .ok (.iload_n 3, 1) := by decide +kernel
theorem d2_48 : decode prog_1_method_3_code 48 = .ok (.ireturn, 1) := by decide +kernel
theorem d3_0 : decode prog_1_method_4_code 0 = .ok (.aload_n 0, 1) := by decide +kernel
theorem d3_1 : decode prog_1_method_4_code 1 = .ok (.getfield 12, 3) := by decide +kernel
theorem d3_4 : decode prog_1_method_4_code 4 = .ok (.iload_n 1, 1) := by decide +kernel
theorem d3_5 : decode prog_1_method_4_code 5 = .ok (.invokevirtual 93, 3) := by decide +kernel
theorem d3_8 : decode prog_1_method_4_code 8 = .ok (.ifCond .eq 19, 3) := by decide +kernel
theorem d3_11 : decode prog_1_method_4_code 11 = .ok (.aload_n 0, 1) := by decide +kernel
theorem d3_12 : decode prog_1_method_4_code 12 = .ok (.getfield 12, 3) := by decide +kernel
theorem d3_15 : decode prog_1_method_4_code 15 = .ok (.iload_n 2, 1) := by decide +kernel
theorem d3_16 : decode prog_1_method_4_code 16 = .ok (.invokevirtual 93, 3) := by decide +kernel
theorem d3_19 : decode prog_1_method_4_code 19 = .ok (.ifCond .eq 8, 3) := by decide +kernel
theorem d3_22 : decode prog_1_method_4_code 22 = .ok (.iload_n 1, 1) := by decide +kernel
theorem d3_23 : decode prog_1_method_4_code 23 = .ok (.iload_n 2, 1) := by decide +kernel
theorem d3_24 : decode prog_1_method_4_code 24 = .ok (.if_icmp .ne 5, 3) := by decide +kernel
theorem d3_27 : decode prog_1_method_4_code 27 = .ok (.iconst (-1), 1) := by decide +kernel
theorem d3_28 : decode prog_1_method_4_code 28 = .ok (.ireturn, 1) := by decide +kernel
theorem d3_29 : decode prog_1_method_4_code 29 = .ok (.aload_n 0, 1) := by decide +kernel
theorem d3_30 : decode prog_1_method_4_code 30 = .ok (.getfield 12, 3) := by decide +kernel
theorem d3_33 : decode prog_1_method_4_code 33 = .ok (.getfield 103, 3) := by decide +kernel
theorem d3_36 : decode prog_1_method_4_code 36 = .ok (.bipush 24, 2) := by decide +kernel
theorem d3_38 : decode prog_1_method_4_code 38 = .ok (.if_icmp .lt 6, 3) := by decide +kernel
theorem d3_41 : decode prog_1_method_4_code 41 = .ok (.bipush (-4), 2) := by decide +kernel
theorem d3_43 : decode prog_1_method_4_code 43 = .ok (.ireturn, 1) := by decide +kernel
theorem d3_44 : decode prog_1_method_4_code 44 = .ok (.aload_n 0, 1) := by decide +kernel
theorem d3_45 : decode prog_1_method_4_code 45 = .ok (.invokevirtual 86, 3) := by decide +kernel
theorem d3_48 : decode prog_1_method_4_code 48 = .ok (.aload_n 0, 1) := by decide +kernel
theorem d3_49 : decode prog_1_method_4_code 49 = .ok (.getfield 12, 3) := by decide +kernel
theorem d3_52 : decode prog_1_method_4_code 52 = .ok (.iload_n 1, 1) := by decide +kernel
theorem d3_53 : decode prog_1_method_4_code 53 = .ok (.iload_n 2, 1) := by decide +kernel
theorem d3_54 : decode prog_1_method_4_code 54 = .ok (.invokevirtual 106, 3) := by decide +kernel
theorem d3_57 : decode prog_1_method_4_code 57 = .ok (.ireturn, 1) := by decide +kernel
theorem d4_0 : decode prog_1_method_5_code 0 = .ok (.aload_n 0, 1) := by decide +kernel
theorem d4_1 : decode prog_1_method_5_code 1 = .ok (.getfield 12, 3) := by decide +kernel
theorem d4_4 : decode prog_1_method_5_code 4 = .ok (.iload_n 1, 1) := by decide +kernel
theorem d4_5 : decode prog_1_method_5_code 5 = .ok (.invokevirtual 110, 3) := by decide +kernel
theorem d4_8 : decode prog_1_method_5_code 8 = .ok (.ifCond .ne 5, 3) := by decide +kernel
theorem d4_11 : decode prog_1_method_5_code 11 = .ok (.iconst (-1), 1) := by decide +kernel
theorem d4_12 : decode prog_1_method_5_code 12 = .ok (.ireturn, 1) := by decide +kernel
theorem d4_13 : decode prog_1_method_5_code 13 = .ok (.aload_n 0, 1) := by decide +kernel
theorem d4_14 : decode prog_1_method_5_code 14 = .ok (.invokevirtual 86, 3) := by decide +kernel
theorem d4_17 : decode prog_1_method_5_code 17 = .ok (.aload_n 0, 1) := by decide +kernel
theorem d4_18 : decode prog_1_method_5_code 18 = .ok (.getfield 12, 3) := by decide +kernel
theorem d4_21 : decode prog_1_method_5_code 21 = .ok (.iload_n 1, 1) := by decide +kernel
theorem d4_22 : decode prog_1_method_5_code 22 = .ok (.invokevirtual 113, 3) := by decide +kernel
theorem d4_25 : decode prog_1_method_5_code 25 = .ok (.aload_n 0, 1) := by decide +kernel
theorem d4_26 : decode prog_1_method_5_code 26 = .ok (.getfield 12, 3) := by decide +kernel
theorem d4_29 : decode prog_1_method_5_code 29 = .ok (.getfield 117, 3) := by decide +kernel
theorem d4_32 : decode prog_1_method_5_code 32 = .ok (.ireturn, 1) := by decide +kernel
theorem d5_0 : decode prog_1_method_6_code 0 = .ok (.aload_n 0, 1) := by decide +kernel
theorem d5_1 : decode prog_1_method_6_code 1 = .ok (.invokevirtual 86, 3) := by decide +kernel
theorem d5_4 : decode prog_1_method_6_code 4 = .ok (.aload_n 0, 1) := by decide +kernel
theorem d5_5 : decode prog_1_method_6_code 5 = .ok (.getfield 12, 3) := by decide +kernel
theorem d5_8 : decode prog_1_method_6_code 8 = .ok (.getfield 82, 3) := by decide +kernel
theorem d5_11 : decode prog_1_method_6_code 11 = .ok (.istore_n 1, 1) := by decide +kernel
theorem d5_12 : decode prog_1_method_6_code 12 = .ok (.aload_n 0, 1) := by decide +kernel
theorem d5_13 : decode prog_1_method_6_code 13 = .ok (.getfield 12, 3) := by decide +kernel
theorem d5_16 : decode prog_1_method_6_code 16 = .ok (.invokevirtual 120, 3) := by decide +kernel
theorem d5_19 : decode prog_1_method_6_code 19 = .ok (.iload_n 1, 1) := by decide +kernel
theorem d5_20 : decode prog_1_method_6_code 20 = .ok (.ireturn, 1) := by decide +kernel
theorem d6_0 : decode prog_1_method_7_code 0 = .ok (.aload_n 0, 1) := by decide +kernel
theorem d6_1 : decode prog_1_method_7_code 1 = .ok (.invokevirtual 123, 3) := by decide +kernel
theorem d6_4 : decode prog_1_method_7_code 4 = .ok (.aload_n 0, 1) := by decide +kernel
theorem d6_5 : decode prog_1_method_7_code 5 = .ok (.getfield 19, 3) := by decide +kernel
theorem d6_8 : decode prog_1_method_7_code 8 = .ok (.getfield 126, 3) := by decide +kernel
theorem d6_11 : decode prog_1_method_7_code 11 = .ok (.ireturn, 1) := by decide +kernel
theorem d7_0 : decode prog_1_method_8_code 0 = .ok (.aload_n 0, 1) := by decide +kernel
theorem d7_1 : decode prog_1_method_8_code 1 = .ok (.getfield 12, 3) := by decide +kernel
theorem d7_4 : decode prog_1_method_8_code 4 = .ok (.iload_n 1, 1) := by decide +kernel
theorem d7_5 : decode prog_1_method_8_code 5 = .ok (.invokevirtual 110, 3) := by decide +kernel
theorem d7_8 : decode prog_1_method_8_code 8 = .ok (.ifCond .ne 5, 3) := by decide +kernel
theorem d7_11 : decode prog_1_method_8_code 11 = .ok (.iconst (-1), 1) := by decide +kernel
theorem d7_12 : decode prog_1_method_8_code 12 = .ok (.ireturn, 1) := by decide +kernel
theorem d7_13 : decode prog_1_method_8_code 13 = .ok (.aload_n 0, 1) := by decide +kernel
theorem d7_14 : decode prog_1_method_8_code 14 = .ok (.invokevirtual 123, 3) := by decide +kernel
theorem d7_17 : decode prog_1_method_8_code 17 = .ok (.aload_n 0, 1) := by decide +kernel
theorem d7_18 : decode prog_1_method_8_code 18 = .ok (.getfield 19, 3) := by decide +kernel
theorem d7_21 : decode prog_1_method_8_code 21 = .ok (.iload_n 1, 1) := by decide +kernel
theorem d7_22 : decode prog_1_method_8_code 22 = .ok (.invokevirtual 129, 3) := by decide +kernel
theorem d7_25 : decode prog_1_method_8_code 25 = .ok (.ifCond .eq 7, 3) := by decide +kernel
theorem d7_28 : decode prog_1_method_8_code 28 = .ok (.iconst 1, 1) := by decide +kernel
theorem d7_29 : decode prog_1_method_8_code 29 = .ok (.goto 4, 3) := by decide +kernel
theorem d7_32 : decode prog_1_method_8_code 32 = .ok (.iconst 0, 1) := by decide +kernel
theorem d7_33 : decode prog_1_method_8_code 33 = .ok (.ireturn, 1) := by decide +kernel
theorem d8_0 : decode prog_1_method_9_code 0 = .ok (.aload_n 0, 1) := by decide +kernel
theorem d8_1 : decode prog_1_method_9_code 1 = .ok (.getfield 12, 3) := by decide +kernel
theorem d8_4 : decode prog_1_method_9_code 4 = .ok (.iload_n 1, 1) := by decide +kernel
theorem d8_5 : decode prog_1_method_9_code 5 = .ok (.invokevirtual 93, 3) := by decide +kernel
theorem d8_8 : decode prog_1_method_9_code 8 = .ok (.ifCond .ne 5, 3) := by decide +kernel
theorem d8_11 : decode prog_1_method_9_code 11 = .ok (.iconst (-1), 1) := by decide +kernel
theorem d8_12 : decode prog_1_method_9_code 12 = .ok (.ireturn, 1) := by decide +kernel
theorem d8_13 : decode prog_1_method_9_code 13 = .ok (.aload_n 0, 1) := by decide +kernel
theorem d8_14 : decode prog_1_method_9_code 14 = .ok (.invokevirtual 123, 3) := by decide +kernel
theorem d8_17 : decode prog_1_method_9_code 17 = .ok (.aload_n 0, 1) := by decide +kernel
theorem d8_18 : decode prog_1_method_9_code 18 = .ok (.getfield 26, 3) := by decide +kernel
theorem d8_21 : decode prog_1_method_9_code 21 = .ok (.getfield 132, 3) := by decide +kernel
theorem d8_24 : decode prog_1_method_9_code 24 = .ok (.iload_n 1, 1) := by decide +kernel
theorem d8_25 : decode prog_1_method_9_code 25 = .ok (.iaload, 1) := by decide +kernel
theorem d8_26 : decode prog_1_method_9_code 26 = .ok (.ireturn, 1) := by decide +kernel
theorem d9_0 : decode prog_1_method_10_code 0 = .ok (.aload_n 0, 1) := by decide +kernel
theorem d9_1 : decode prog_1_method_10_code 1 = .ok (.invokevirtual 123, 3) := by decide +kernel
theorem d9_4 : decode prog_1_method_10_code 4 = .ok (.aload_n 0, 1) := by decide +kernel
theorem d9_5 : decode prog_1_method_10_code 5 = .ok (.getfield 26, 3) := by decide +kernel
theorem d9_8 : decode prog_1_method_10_code 8 = .ok (.getfield 135, 3) := by decide +kernel
theorem d9_11 : decode prog_1_method_10_code 11 = .ok (.ireturn, 1) := by decide +kernel
theorem d10_0 : decode prog_1_method_11_code 0 = .ok (.aload_n 0, 1) := by decide +kernel
theorem d10_1 : decode prog_1_method_11_code 1 = .ok (.invokevirtual 123, 3) := by decide +kernel
theorem d10_4 : decode prog_1_method_11_code 4 = .ok (.aload_n 0, 1) := by decide +kernel
theorem d10_5 : decode prog_1_method_11_code 5 = .ok (.getfield 26, 3) := by decide +kernel
theorem d10_8 : decode prog_1_method_11_code 8 = .ok (.getfield 138, 3) := by decide +kernel
theorem d10_11 : decode prog_1_method_11_code 11 = .ok (.ireturn, 1) := by decide +kernel
theorem d11_0 : decode prog_1_method_12_code 0 = .ok (.aload_n 0, 1) := by decide +kernel
theorem d11_1 : decode prog_1_method_12_code 1 = .ok (.invokevirtual 123, 3) := by decide +kernel
theorem d11_4 : decode prog_1_method_12_code 4 = .ok (.aload_n 0, 1) := by decide +kernel
theorem d11_5 : decode prog_1_method_12_code 5 = .ok (.getfield 26, 3) := by decide +kernel
theorem d11_8 : decode prog_1_method_12_code 8 = .ok (.getfield 141, 3) := by decide +kernel
theorem d11_11 : decode prog_1_method_12_code 11 = .ok (.ireturn, 1) := by decide +kernel
theorem d12_0 : decode prog_1_method_13_code 0 = .ok (.iload_n 1, 1) := by decide +kernel
theorem d12_1 : decode prog_1_method_13_code 1 = .ok (.ifCond .lt 9, 3) := by decide +kernel
theorem d12_4 : decode prog_1_method_13_code 4 = .ok (.iload_n 1, 1) := by decide +kernel
theorem d12_5 : decode prog_1_method_13_code 5 = .ok (.bipush 20, 2) := by decide +kernel
theorem d12_7 : decode prog_1_method_13_code 7 = .ok (.if_icmp .le 6, 3) := by decide +kernel
theorem d12_10 : decode prog_1_method_13_code 10 = .ok (.bipush (-2), 2) := by decide +kernel
theorem d12_12 : decode prog_1_method_13_code 12 = .ok (.ireturn, 1) := by decide +kernel
theorem d12_13 : decode prog_1_method_13_code 13 = .ok (.aload_n 0, 1) := by decide +kernel
theorem d12_14 : decode prog_1_method_13_code 14 = .ok (.invokevirtual 123, 3) := by decide +kernel
theorem d12_17 : decode prog_1_method_13_code 17 = .ok (.aload_n 0, 1) := by decide +kernel
theorem d12_18 : decode prog_1_method_13_code 18 = .ok (.getfield 26, 3) := by decide +kernel
theorem d12_21 : decode prog_1_method_13_code 21 = .ok (.getfield 141, 3) := by decide +kernel
theorem d12_24 : decode prog_1_method_13_code 24 = .ok (.bipush 60, 2) := by decide +kernel
theorem d12_26 : decode prog_1_method_13_code 26 = .ok (.if_icmp .le 6, 3) := by decide +kernel
theorem d12_29 : decode prog_1_method_13_code 29 = .ok (.bipush (-4), 2) := by decide +kernel
theorem d12_31 : decode prog_1_method_13_code 31 = .ok (.ireturn, 1) := by decide +kernel
theorem d12_32 : decode prog_1_method_13_code 32 = .ok (.aload_n 0, 1) := by decide +kernel
theorem d12_33 : decode prog_1_method_13_code 33 = .ok (.getfield 33, 3) := by decide +kernel
theorem d12_36 : decode prog_1_method_13_code 36 = .ok (.aload_n 0, 1) := by decide +kernel
theorem d12_37 : decode prog_1_method_13_code 37 = .ok (.getfield 12, 3) := by decide +kernel
theorem d12_40 : decode prog_1_method_13_code 40 = .ok (.aload_n 0, 1) := by decide +kernel
theorem d12_41 : decode prog_1_method_13_code 41 = .ok (.getfield 26, 3) := by decide +kernel
theorem d12_44 : decode prog_1_method_13_code 44 = .ok (.invokevirtual 144, 3) := by decide +kernel
theorem d12_47 : decode prog_1_method_13_code 47 = .ok (.aload_n 0, 1) := by decide +kernel
theorem d12_48 : decode prog_1_method_13_code 48 = .ok (.getfield 40, 3) := by decide +kernel
theorem d12_51 : decode prog_1_method_13_code 51 = .ok (.aload_n 0, 1) := by decide +kernel
theorem d12_52 : decode prog_1_method_13_code 52 = .ok (.getfield 12, 3) := by decide +kernel
theorem d12_55 : decode prog_1_method_13_code 55 = .ok (.aload_n 0, 1) := by decide +kernel
theorem d12_56 : decode prog_1_method_13_code 56 = .ok (.getfield 26, 3) := by decide +kernel
theorem d12_59 : decode prog_1_method_13_code 59 = .ok (.aload_n 0, 1) := by decide +kernel
theorem d12_60 : decode prog_1_method_13_code 60 = .ok (.getfield 33, 3) := by decide +kernel
theorem d12_63 : decode prog_1_method_13_code 63 = .ok (.iload_n 1, 1) := by decide +kernel
theorem d12_64 : decode prog_1_method_13_code 64 = .ok (.invokevirtual 148, 3) := by decide +kernel
theorem d12_67 : decode prog_1_method_13_code 67 = .ok (.aload_n 0, 1) := by decide +kernel
theorem d12_68 : decode prog_1_method_13_code 68 = .ok (.getfield 54, 3) := by decide +kernel
theorem d12_71 : decode prog_1_method_13_code 71 = .ok (.aload_n 0, 1) := by decide +kernel
theorem d12_72 : decode prog_1_method_13_code 72 = .ok (.getfield 33, 3) := by decide +kernel
theorem d12_75 : decode prog_1_method_13_code 75 = .ok (.aload_n 0, 1) := by decide +kernel
theorem d12_76 : decode prog_1_method_13_code 76 = .ok (.getfield 40, 3) := by decide +kernel
theorem d12_79 : decode prog_1_method_13_code 79 = .ok (.invokevirtual 152, 3) := by decide +kernel
theorem d12_82 : decode prog_1_method_13_code 82 = .ok (.aload_n 0, 1) := by decide +kernel
theorem d12_83 : decode prog_1_method_13_code 83 = .ok (.iconst 1, 1) := by decide +kernel
theorem d12_84 : decode prog_1_method_13_code 84 = .ok (.putfield 69, 3) := by decide +kernel
theorem d12_87 : decode prog_1_method_13_code 87 = .ok (.aload_n 0, 1) := by decide +kernel
theorem d12_88 : decode prog_1_method_13_code 88 = .ok (.getfield 40, 3) := by decide +kernel
theorem d12_91 : decode prog_1_method_13_code 91 = .ok (.getfield 156, 3) := by decide +kernel
theorem d12_94 : decode prog_1_method_13_code 94 = .ok (.ireturn, 1) := by decide +kernel
theorem d13_0 : decode prog_1_method_14_code 0 = .ok (.aload_n 0, 1) := by decide +kernel
theorem d13_1 : decode prog_1_method_14_code 1 = .ok (.getfield 69, 3) := by decide +kernel
theorem d13_4 : decode prog_1_method_14_code 4 = .ok (.ifCond .eq 13, 3) := by decide +kernel
theorem d13_7 : decode prog_1_method_14_code 7 = .ok (.aload_n 0, 1) := by decide +kernel
theorem d13_8 : decode prog_1_method_14_code 8 = .ok (.getfield 40, 3) := by decide +kernel
theorem d13_11 : decode prog_1_method_14_code 11 = .ok (.getfield 159, 3) := by decide +kernel
theorem d13_14 : decode prog_1_method_14_code 14 = .ok (.goto 5, 3) := by decide +kernel
theorem d13_17 : decode prog_1_method_14_code 17 = .ok (.bipush (-3), 2) := by decide +kernel
theorem d13_19 : decode prog_1_method_14_code 19 = .ok (.ireturn, 1) := by decide +kernel
theorem d14_0 : decode prog_1_method_15_code 0 = .ok (.aload_n 0, 1) := by decide +kernel
theorem d14_1 : decode prog_1_method_15_code 1 = .ok (.getfield 69, 3) := by decide +kernel
theorem d14_4 : decode prog_1_method_15_code 4 = .ok (.ifCond .ne 6, 3) := by decide +kernel
theorem d14_7 : decode prog_1_method_15_code 7 = .ok (.bipush (-3), 2) := by decide +kernel
theorem d14_9 : decode prog_1_method_15_code 9 = .ok (.ireturn, 1) := by decide +kernel
theorem d14_10 : decode prog_1_method_15_code 10 = .ok (.aload_n 0, 1) := by decide +kernel
theorem d14_11 : decode prog_1_method_15_code 11 = .ok (.getfield 40, 3) := by decide +kernel
theorem d14_14 : decode prog_1_method_15_code 14 = .ok (.iload_n 1, 1) := by decide +kernel
theorem d14_15 : decode prog_1_method_15_code 15 = .ok (.invokevirtual 162, 3) := by decide +kernel
theorem d14_18 : decode prog_1_method_15_code 18 = .ok (.ifCond .ne 5, 3) := by decide +kernel
theorem d14_21 : decode prog_1_method_15_code 21 = .ok (.iconst (-1), 1) := by decide +kernel
theorem d14_22 : decode prog_1_method_15_code 22 = .ok (.ireturn, 1) := by decide +kernel
theorem d14_23 : decode prog_1_method_15_code 23 = .ok (.aload_n 0, 1) := by decide +kernel
theorem d14_24 : decode prog_1_method_15_code 24 = .ok (.getfield 40, 3) := by decide +kernel
theorem d14_27 : decode prog_1_method_15_code 27 = .ok (.getfield 165, 3) := by decide +kernel
theorem d14_30 : decode prog_1_method_15_code 30 = .ok (.iload_n 1, 1) := by decide +kernel
theorem d14_31 : decode prog_1_method_15_code 31 = .ok (.iaload, 1) := by decide +kernel
theorem d14_32 : decode prog_1_method_15_code 32 = .ok (.ireturn, 1) := by decide +kernel
theorem d15_0 : decode prog_1_method_16_code 0 = .ok (.aload_n 0, 1) := by decide +kernel
theorem d15_1 : decode prog_1_method_16_code 1 = .ok (.getfield 69, 3) := by decide +kernel
theorem d15_4 : decode prog_1_method_16_code 4 = .ok (.ifCond .ne 6, 3) := by decide +kernel
theorem d15_7 : decode prog_1_method_16_code 7 = .ok (.bipush (-3), 2) := by decide +kernel
theorem d15_9 : decode prog_1_method_16_code 9 = .ok (.ireturn, 1) := by decide +kernel
theorem d15_10 : decode prog_1_method_16_code 10 = .ok (.aload_n 0, 1) := by decide +kernel
theorem d15_11 : decode prog_1_method_16_code 11 = .ok (.getfield 40, 3) := by decide +kernel
theorem d15_14 : decode prog_1_method_16_code 14 = .ok (.iload_n 1, 1) := by decide +kernel
theorem d15_15 : decode prog_1_method_16_code 15 = .ok (.invokevirtual 162, 3) := by decide +kernel
theorem d15_18 : decode prog_1_method_16_code 18 = .ok (.ifCond .eq 20, 3) := by decide +kernel
theorem d15_21 : decode prog_1_method_16_code 21 = .ok (.iload_n 2, 1) := by decide +kernel
theorem d15_22 : decode prog_1_method_16_code 22 = .ok (.ifCond .lt 16, 3) := by decide +kernel
theorem d15_25 : decode prog_1_method_16_code 25 = .ok (.iload_n 2, 1) := by decide +kernel
theorem d15_26 : decode prog_1_method_16_code 26 = .ok (.aload_n 0, 1) := by decide +kernel
theorem d15_27 : decode prog_1_method_16_code 27 = .ok (.getfield 40, 3) := by decide +kernel
theorem d15_30 : decode prog_1_method_16_code 30 = .ok (.getfield 165, 3) := by decide +kernel
theorem d15_33 : decode prog_1_method_16_code 33 = .ok (.iload_n 1, 1) := by decide +kernel
theorem d15_34 : decode prog_1_method_16_code 34 = .ok (.iaload, 1) := by decide +kernel
theorem d15_35 : decode prog_1_method_16_code 35 = .ok (.if_icmp .lt 5, 3) := by decide +kernel
theorem d15_38 : decode prog_1_method_16_code 38 = .ok (.iconst (-1), 1) := by decide +kernel
theorem d15_39 : decode prog_1_method_16_code 39 = .ok (.ireturn, 1) := by decide +kernel
theorem d15_40 : decode prog_1_method_16_code 40 = .ok (.aload_n 0, 1) := by decide +kernel
theorem d15_41 : decode prog_1_method_16_code 41 = .ok (.getfield 40, 3) := by decide +kernel
theorem d15_44 : decode prog_1_method_16_code 44 = .ok (.getfield 168, 3) := by decide +kernel
theorem d15_47 : decode prog_1_method_16_code 47 = .ok (.iload_n 1, 1) := by decide +kernel
theorem d15_48 : decode prog_1_method_16_code 48 = .ok (.aaload, 1) := by decide +kernel
theorem d15_49 : decode prog_1_method_16_code 49 = .ok (.iload_n 2, 1) := by decide +kernel
theorem d15_50 : decode prog_1_method_16_code 50 = .ok (.iaload, 1) := by decide +kernel
theorem d15_51 : decode prog_1_method_16_code 51 = .ok (.ireturn, 1) := by decide +kernel
theorem d16_0 : decode prog_1_method_17_code 0 = .ok (.aload_n 0, 1) := by decide +kernel
theorem d16_1 : decode prog_1_method_17_code 1 = .ok (.getfield 69, 3) := by decide +kernel
theorem d16_4 : decode prog_1_method_17_code 4 = .ok (.ifCond .ne 6, 3) := by decide +kernel
theorem d16_7 : decode prog_1_method_17_code 7 = .ok (.bipush (-3), 2) := by decide +kernel
theorem d16_9 : decode prog_1_method_17_code 9 = .ok (.ireturn, 1) := by decide +kernel
theorem d16_10 : decode prog_1_method_17_code 10 = .ok (.aload_n 0, 1) := by decide +kernel
theorem d16_11 : decode prog_1_method_17_code 11 = .ok (.getfield 72, 3) := by decide +kernel
theorem d16_14 : decode prog_1_method_17_code 14 = .ok (.ifCond .ne 23, 3) := by decide +kernel
theorem d16_17 : decode prog_1_method_17_code 17 = .ok (.aload_n 0, 1) := by decide +kernel
theorem d16_18 : decode prog_1_method_17_code 18 = .ok (.getfield 47, 3) := by decide +kernel
theorem d16_21 : decode prog_1_method_17_code 21 = .ok (.aload_n 0, 1) := by decide +kernel
theorem d16_22 : decode prog_1_method_17_code 22 = .ok (.getfield 33, 3) := by decide +kernel
theorem d16_25 : decode prog_1_method_17_code 25 = .ok (.aload_n 0, 1) := by decide +kernel
theorem d16_26 : decode prog_1_method_17_code 26 = .ok (.getfield 40, 3) := by decide +kernel
theorem d16_29 : decode prog_1_method_17_code 29 = .ok (.invokevirtual 172, 3) := by decide +kernel
theorem d16_32 : decode prog_1_method_17_code 32 = .ok (.aload_n 0, 1) := by decide +kernel
theorem d16_33 : decode prog_1_method_17_code 33 = .ok (.iconst 1, 1) := by decide +kernel
theorem d16_34 : decode prog_1_method_17_code 34 = .ok (.putfield 72, 3) := by decide +kernel
theorem d16_37 : decode prog_1_method_17_code 37 = .ok (.aload_n 0, 1) := by decide +kernel
theorem d16_38 : decode prog_1_method_17_code 38 = .ok (.getfield 47, 3) := by decide +kernel
theorem d16_41 : decode prog_1_method_17_code 41 = .ok (.getfield 174, 3) := by decide +kernel
theorem d16_44 : decode prog_1_method_17_code 44 = .ok (.ireturn, 1) := by decide +kernel
theorem d17_0 : decode prog_1_method_18_code 0 = .ok (.aload_n 0, 1) := by decide +kernel
theorem d17_1 : decode prog_1_method_18_code 1 = .ok (.getfield 69, 3) := by decide +kernel
theorem d17_4 : decode prog_1_method_18_code 4 = .ok (.ifCond .ne 6, 3) := by decide +kernel
theorem d17_7 : decode prog_1_method_18_code 7 = .ok (.bipush (-3), 2) := by decide +kernel
theorem d17_9 : decode prog_1_method_18_code 9 = .ok (.ireturn, 1) := by decide +kernel
theorem d17_10 : decode prog_1_method_18_code 10 = .ok (.aload_n 0, 1) := by decide +kernel
theorem d17_11 : decode prog_1_method_18_code 11 = .ok (.getfield 12, 3) := by decide +kernel
theorem d17_14 : decode prog_1_method_18_code 14 = .ok (.iload_n 1, 1) := by decide +kernel
theorem d17_15 : decode prog_1_method_18_code 15 = .ok (.invokevirtual 93, 3) := by decide +kernel
theorem d17_18 : decode prog_1_method_18_code 18 = .ok (.ifCond .ne 16, 3) := by decide +kernel
theorem d17_21 : decode prog_1_method_18_code 21 = .ok (.aload_n 0, 1) := by decide +kernel
theorem d17_22 : decode prog_1_method_18_code 22 = .ok (.getfield 33, 3) := by decide +kernel
theorem d17_25 : decode prog_1_method_18_code 25 = .ok (.iload_n 1, 1) := by decide +kernel
theorem d17_26 : decode prog_1_method_18_code 26 = .ok (.invokevirtual 177, 3) := by decide +kernel
theorem d17_29 : decode prog_1_method_18_code 29 = .ok (.ifCond .ne 5, 3) := by decide +kernel
theorem d17_32 : decode prog_1_method_18_code 32 = .ok (.iconst (-1), 1) := by decide +kernel
theorem d17_33 : decode prog_1_method_18_code 33 = .ok (.ireturn, 1) := by decide +kernel
theorem d17_34 : decode prog_1_method_18_code 34 = .ok (.aload_n 0, 1) := by decide +kernel
theorem d17_35 : decode prog_1_method_18_code 35 = .ok (.getfield 54, 3) := by decide +kernel
theorem d17_38 : decode prog_1_method_18_code 38 = .ok (.getfield 180, 3) := by decide +kernel
theorem d17_41 : decode prog_1_method_18_code 41 = .ok (.iload_n 1, 1) := by decide +kernel
theorem d17_42 : decode prog_1_method_18_code 42 = .ok (.iaload, 1) := by decide +kernel
theorem d17_43 : decode prog_1_method_18_code 43 = .ok (.ireturn, 1) := by decide +kernel
theorem d18_0 : decode prog_1_method_19_code 0 = .ok (.aload_n 0, 1) := by decide +kernel
theorem d18_1 : decode prog_1_method_19_code 1 = .ok (.getfield 69, 3) := by decide +kernel
theorem d18_4 : decode prog_1_method_19_code 4 = .ok (.ifCond .ne 6, 3) := by decide +kernel
theorem d18_7 : decode prog_1_method_19_code 7 = .ok (.bipush (-3), 2) := by decide +kernel
theorem d18_9 : decode prog_1_method_19_code 9 = .ok (.ireturn, 1) := by decide +kernel
theorem d18_10 : decode prog_1_method_19_code 10 = .ok (.aload_n 0, 1) := by decide +kernel
theorem d18_11 : decode prog_1_method_19_code 11 = .ok (.getfield 12, 3) := by decide +kernel
theorem d18_14 : decode prog_1_method_19_code 14 = .ok (.iload_n 1, 1) := by decide +kernel
theorem d18_15 : decode prog_1_method_19_code 15 = .ok (.invokevirtual 110, 3) := by decide +kernel
theorem d18_18 : decode prog_1_method_19_code 18 = .ok (.ifCond .eq 19, 3) := by decide +kernel
theorem d18_21 : decode prog_1_method_19_code 21 = .ok (.iload_n 2, 1) := by decide +kernel
theorem d18_22 : decode prog_1_method_19_code 22 = .ok (.ifCond .lt 15, 3) := by decide +kernel
theorem d18_25 : decode prog_1_method_19_code 25 = .ok (.iload_n 2, 1) := by decide +kernel
theorem d18_26 : decode prog_1_method_19_code 26 = .ok (.aload_n 0, 1) := by decide +kernel
theorem d18_27 : decode prog_1_method_19_code 27 = .ok (.getfield 26, 3) := by decide +kernel
theorem d18_30 : decode prog_1_method_19_code 30 = .ok (.iload_n 1, 1) := by decide +kernel
theorem d18_31 : decode prog_1_method_19_code 31 = .ok (.invokevirtual 183, 3) := by decide +kernel
theorem d18_34 : decode prog_1_method_19_code 34 = .ok (.if_icmp .le 5, 3) := by decide +kernel
theorem d18_37 : decode prog_1_method_19_code 37 = .ok (.iconst (-1), 1) := by decide +kernel
theorem d18_38 : decode prog_1_method_19_code 38 = .ok (.ireturn, 1) := by decide +kernel
theorem d18_39 : decode prog_1_method_19_code 39 = .ok (.aload_n 0, 1) := by decide +kernel
theorem d18_40 : decode prog_1_method_19_code 40 = .ok (.getfield 33, 3) := by decide +kernel
theorem d18_43 : decode prog_1_method_19_code 43 = .ok (.aload_n 0, 1) := by decide +kernel
theorem d18_44 : decode prog_1_method_19_code 44 = .ok (.getfield 26, 3) := by decide +kernel
theorem d18_47 : decode prog_1_method_19_code 47 = .ok (.iload_n 1, 1) := by decide +kernel
theorem d18_48 : decode prog_1_method_19_code 48 = .ok (.iload_n 2, 1) := by decide +kernel
theorem d18_49 : decode prog_1_method_19_code 49 = .ok (.invokevirtual 186, 3) := by decide +kernel
theorem d18_52 : decode prog_1_method_19_code 52 = .ok (.ireturn, 1) := by decide +kernel
theorem d19_0 : decode prog_1_method_20_code 0 = .ok (.aload_n 0, 1) := by decide +kernel
theorem d19_1 : decode prog_1_method_20_code 1 = .ok (.getfield 69, 3) := by decide +kernel
theorem d19_4 : decode prog_1_method_20_code 4 = .ok (.ifCond .eq 13, 3) := by decide +kernel
theorem d19_7 : decode prog_1_method_20_code 7 = .ok (.aload_n 0, 1) := by decide +kernel
theorem d19_8 : decode prog_1_method_20_code 8 = .ok (.getfield 54, 3) := by decide +kernel
theorem d19_11 : decode prog_1_method_20_code 11 = .ok (.getfield 190, 3) := by decide +kernel
theorem d19_14 : decode prog_1_method_20_code 14 = .ok (.goto 5, 3) := by decide +kernel
theorem d19_17 : decode prog_1_method_20_code 17 = .ok (.bipush (-3), 2) := by decide +kernel
theorem d19_19 : decode prog_1_method_20_code 19 = .ok (.ireturn, 1) := by decide +kernel
theorem d20_0 : decode prog_1_method_21_code 0 = .ok (.aload_n 0, 1) := by decide +kernel
theorem d20_1 : decode prog_1_method_21_code 1 = .ok (.getfield 12, 3) := by decide +kernel
theorem d20_4 : decode prog_1_method_21_code 4 = .ok (.iload_n 1, 1) := by decide +kernel
theorem d20_5 : decode prog_1_method_21_code 5 = .ok (.invokevirtual 93, 3) := by decide +kernel
theorem d20_8 : decode prog_1_method_21_code 8 = .ok (.ifCond .ne 5, 3) := by decide +kernel
theorem d20_11 : decode prog_1_method_21_code 11 = .ok (.iconst (-1), 1) := by decide +kernel
theorem d20_12 : decode prog_1_method_21_code 12 = .ok (.ireturn, 1) := by decide +kernel
theorem d20_13 : decode prog_1_method_21_code 13 = .ok (.aload_n 0, 1) := by decide +kernel
theorem d20_14 : decode prog_1_method_21_code 14 = .ok (.invokevirtual 123, 3) := by decide +kernel
theorem d20_17 : decode prog_1_method_21_code 17 = .ok (.aload_n 0, 1) := by decide +kernel
theorem d20_18 : decode prog_1_method_21_code 18 = .ok (.getfield 19, 3) := by decide +kernel
theorem d20_21 : decode prog_1_method_21_code 21 = .ok (.getfield 126, 3) := by decide +kernel
theorem d20_24 : decode prog_1_method_21_code 24 = .ok (.ifCond .ne 17, 3) := by decide +kernel
theorem d20_27 : decode prog_1_method_21_code 27 = .ok (.aload_n 0, 1) := by decide +kernel
theorem d20_28 : decode prog_1_method_21_code 28 = .ok (.getfield 61, 3) := by decide +kernel
theorem d20_31 : decode prog_1_method_21_code 31 = .ok (.aload_n 0, 1) := by decide +kernel
theorem d20_32 : decode prog_1_method_21_code 32 = .ok (.getfield 12, 3) := by decide +kernel
theorem d20_35 : decode prog_1_method_21_code 35 = .ok (.invokevirtual 193, 3) := by decide +kernel
theorem d20_38 : decode prog_1_method_21_code 38 = .ok (.ifCond .ne 6, 3) := by decide +kernel
theorem d20_41 : decode prog_1_method_21_code 41 = .ok (.bipush (-3), 2) := by decide +kernel
theorem d20_43 : decode prog_1_method_21_code 43 = .ok (.ireturn, 1) := by decide +kernel
theorem d20_44 : decode prog_1_method_21_code 44 = .ok (.aload_n 0, 1) := by decide +kernel
theorem d20_45 : decode prog_1_method_21_code 45 = .ok (.getfield 75, 3) := by decide +kernel
theorem d20_48 : decode prog_1_method_21_code 48 = .ok (.ifCond .ne 19, 3) := by decide +kernel
theorem d20_51 : decode prog_1_method_21_code 51 = .ok (.aload_n 0, 1) := by decide +kernel
theorem d20_52 : decode prog_1_method_21_code 52 = .ok (.getfield 61, 3) := by decide +kernel
theorem d20_55 : decode prog_1_method_21_code 55 = .ok (.aload_n 0, 1) := by decide +kernel
theorem d20_56 : decode prog_1_method_21_code 56 = .ok (.getfield 12, 3) := by decide +kernel
theorem d20_59 : decode prog_1_method_21_code 59 = .ok (.invokevirtual 197, 3) := by decide +kernel
theorem d20_62 : decode prog_1_method_21_code 62 = .ok (.aload_n 0, 1) := by decide +kernel
theorem d20_63 : decode prog_1_method_21_code 63 = .ok (.iconst 1, 1) := by decide +kernel
theorem d20_64 : decode prog_1_method_21_code 64 = .ok (.putfield 75, 3) := by decide +kernel
theorem d20_67 : decode prog_1_method_21_code 67 = .ok (.aload_n 0, 1) := by decide +kernel
theorem d20_68 : decode prog_1_method_21_code 68 = .ok (.getfield 61, 3) := by decide +kernel
theorem d20_71 : decode prog_1_method_21_code 71 = .ok (.getfield 201, 3) := by decide +kernel
theorem d20_74 : decode prog_1_method_21_code 74 = .ok (.iload_n 1, 1) := by decide +kernel
theorem d20_75 : decode prog_1_method_21_code 75 = .ok (.iaload, 1) := by decide +kernel
theorem d20_76 : decode prog_1_method_21_code 76 = .ok (.ireturn, 1) := by decide +kernel
theorem d21_0 : decode prog_1_method_22_code 0 = .ok (.iload_n 0, 1) := by decide +kernel
theorem d21_1 : decode prog_1_method_22_code 1 = .ok (.iconst 1, 1) := by decide +kernel
theorem d21_2 : decode prog_1_method_22_code 2 = .ok (.if_icmp .lt 13, 3) := by decide +kernel
theorem d21_5 : decode prog_1_method_22_code 5 = .ok (.iload_n 0, 1) := by decide +kernel
theorem d21_6 : decode prog_1_method_22_code 6 = .ok (.bipush 9, 2) := by decide +kernel
theorem d21_8 : decode prog_1_method_22_code 8 = .ok (.if_icmp .gt 7, 3) := by decide +kernel
theorem d21_11 : decode prog_1_method_22_code 11 = .ok (.iconst 1, 1) := by decide +kernel
theorem d21_12 : decode prog_1_method_22_code 12 = .ok (.goto 4, 3) := by decide +kernel
theorem d21_15 : decode prog_1_method_22_code 15 = .ok (.iconst 0, 1) := by decide +kernel
theorem d21_16 : decode prog_1_method_22_code 16 = .ok (.ireturn, 1) := by decide +kernel
theorem d22_0 : decode prog_1_method_23_code 0 = .ok (.aload_n 0, 1) := by decide +kernel
theorem d22_1 : decode prog_1_method_23_code 1 = .ok (.iconst 0, 1) := by decide +kernel
theorem d22_2 : decode prog_1_method_23_code 2 = .ok (.putfield 65, 3) := by decide +kernel
theorem d22_5 : decode prog_1_method_23_code 5 = .ok (.aload_n 0, 1) := by decide +kernel
theorem d22_6 : decode prog_1_method_23_code 6 = .ok (.invokevirtual 96, 3) := by decide +kernel
theorem d22_9 : decode prog_1_method_23_code 9 = .ok (.return_, 1) := by decide +kernel
theorem d23_0 : decode prog_1_method_24_code 0 = .ok (.aload_n 0, 1) := by decide +kernel
theorem d23_1 : decode prog_1_method_24_code 1 = .ok (.iconst 0, 1) := by decide +kernel
theorem d23_2 : decode prog_1_method_24_code 2 = .ok (.putfield 69, 3) := by decide +kernel
theorem d23_5 : decode prog_1_method_24_code 5 = .ok (.aload_n 0, 1) := by decide +kernel
theorem d23_6 : decode prog_1_method_24_code 6 = .ok (.iconst 0, 1) := by decide +kernel
theorem d23_7 : decode prog_1_method_24_code 7 = .ok (.putfield 72, 3) := by decide +kernel
theorem d23_10 : decode prog_1_method_24_code 10 = .ok (.aload_n 0, 1) := by decide +kernel
theorem d23_11 : decode prog_1_method_24_code 11 = .ok (.iconst 0, 1) := by decide +kernel
theorem d23_12 : decode prog_1_method_24_code 12 = .ok (.putfield 75, 3) := by decide +kernel
theorem d23_15 : decode prog_1_method_24_code 15 = .ok (.return_, 1) := by decide +kernel
theorem d24_0 : decode prog_1_method_25_code 0 = .ok (.aload_n 0, 1) := by decide +kernel
theorem d24_1 : decode prog_1_method_25_code 1 = .ok (.getfield 65, 3) := by decide +kernel
theorem d24_4 : decode prog_1_method_25_code 4 = .ok (.ifCond .ne 34, 3) := by decide +kernel
theorem d24_7 : decode prog_1_method_25_code 7 = .ok (.aload_n 0, 1) := by decide +kernel
theorem d24_8 : decode prog_1_method_25_code 8 = .ok (.getfield 19, 3) := by decide +kernel
theorem d24_11 : decode prog_1_method_25_code 11 = .ok (.aload_n 0, 1) := by decide +kernel
theorem d24_12 : decode prog_1_method_25_code 12 = .ok (.getfield 12, 3) := by decide +kernel
theorem d24_15 : decode prog_1_method_25_code 15 = .ok (.invokevirtual 202, 3) := by decide +kernel
theorem d24_18 : decode prog_1_method_25_code 18 = .ok (.aload_n 0, 1) := by decide +kernel
theorem d24_19 : decode prog_1_method_25_code 19 = .ok (.getfield 26, 3) := by decide +kernel
theorem d24_22 : decode prog_1_method_25_code 22 = .ok (.aload_n 0, 1) := by decide +kernel
theorem d24_23 : decode prog_1_method_25_code 23 = .ok (.getfield 12, 3) := by decide +kernel
theorem d24_26 : decode prog_1_method_25_code 26 = .ok (.aload_n 0, 1) := by decide +kernel
theorem d24_27 : decode prog_1_method_25_code 27 = .ok (.getfield 19, 3) := by decide +kernel
theorem d24_30 : decode prog_1_method_25_code 30 = .ok (.invokevirtual 204, 3) := by decide +kernel
theorem d24_33 : decode prog_1_method_25_code 33 = .ok (.aload_n 0, 1) := by decide +kernel
theorem d24_34 : decode prog_1_method_25_code 34 = .ok (.iconst 1, 1) := by decide +kernel
theorem d24_35 : decode prog_1_method_25_code 35 = .ok (.putfield 65, 3) := by decide +kernel
theorem d24_38 : decode prog_1_method_25_code 38 = .ok (.return_, 1) := by decide +kernel
theorem d25_0 : decode prog_11_method_1_code 0 = .ok (.aload_n 0, 1) := by decide +kernel
theorem d25_1 : decode prog_11_method_1_code 1 = .ok (.invokespecial 1, 3) := by decide +kernel
theorem d25_4 : decode prog_11_method_1_code 4 = .ok (.aload_n 0, 1) := by decide +kernel
theorem d25_5 : decode prog_11_method_1_code 5 = .ok (.bipush 12, 2) := by decide +kernel
theorem d25_7 : decode prog_11_method_1_code 7 = .ok (.newarray .int, 2) := by decide +kernel
theorem d25_9 : decode prog_11_method_1_code 9 = .ok (.putfield 7, 3) := by decide +kernel
theorem d25_12 : decode prog_11_method_1_code 12 = .ok (.aload_n 0, 1) := by decide +kernel
theorem d25_13 : decode prog_11_method_1_code 13 = .ok (.bipush 24, 2) := by decide +kernel
theorem d25_15 : decode prog_11_method_1_code 15 = .ok (.newarray .int, 2) := by decide +kernel
theorem d25_17 : decode prog_11_method_1_code 17 = .ok (.putfield 13, 3) := by decide +kernel
theorem d25_20 : decode prog_11_method_1_code 20 = .ok (.aload_n 0, 1) := by decide +kernel
theorem d25_21 : decode prog_11_method_1_code 21 = .ok (.bipush 24, 2) := by decide +kernel
theorem d25_23 : decode prog_11_method_1_code 23 = .ok (.newarray .int, 2) := by decide +kernel
theorem d25_25 : decode prog_11_method_1_code 25 = .ok (.putfield 16, 3) := by decide +kernel
theorem d25_28 : decode prog_11_method_1_code 28 = .ok (.aload_n 0, 1) := by decide +kernel
theorem d25_29 : decode prog_11_method_1_code 29 = .ok (.bipush 24, 2) := by decide +kernel
theorem d25_31 : decode prog_11_method_1_code 31 = .ok (.newarray .boolean, 2) := by decide +kernel
theorem d25_33 : decode prog_11_method_1_code 33 = .ok (.putfield 19, 3) := by decide +kernel
theorem d25_36 : decode prog_11_method_1_code 36 = .ok (.aload_n 0, 1) := by decide +kernel
theorem d25_37 : decode prog_11_method_1_code 37 = .ok (.iconst 1, 1) := by decide +kernel
theorem d25_38 : decode prog_11_method_1_code 38 = .ok (.putfield 23, 3) := by decide +kernel
theorem d25_41 : decode prog_11_method_1_code 41 = .ok (.aload_n 0, 1) := by decide +kernel
theorem d25_42 : decode prog_11_method_1_code 42 = .ok (.bipush 24, 2) := by decide +kernel
theorem d25_44 : decode prog_11_method_1_code 44 = .ok (.newarray .boolean, 2) := by decide +kernel
theorem d25_46 : decode prog_11_method_1_code 46 = .ok (.putfield 27, 3) := by decide +kernel
theorem d25_49 : decode prog_11_method_1_code 49 = .ok (.aload_n 0, 1) := by decide +kernel
theorem d25_50 : decode prog_11_method_1_code 50 = .ok (.bipush 12, 2) := by decide +kernel
theorem d25_52 : decode prog_11_method_1_code 52 = .ok (.newarray .int, 2) := by decide +kernel
theorem d25_54 : decode prog_11_method_1_code 54 = .ok (.putfield 30, 3) := by decide +kernel
theorem d25_57 : decode prog_11_method_1_code 57 = .ok (.aload_n 0, 1) := by decide +kernel
theorem d25_58 : decode prog_11_method_1_code 58 = .ok (.bipush 24, 2) := by decide +kernel
theorem d25_60 : decode prog_11_method_1_code 60 = .ok (.newarray .int, 2) := by decide +kernel
theorem d25_62 : decode prog_11_method_1_code 62 = .ok (.putfield 33, 3) := by decide +kernel
theorem d25_65 : decode prog_11_method_1_code 65 = .ok (.aload_n 0, 1) := by decide +kernel
theorem d25_66 : decode prog_11_method_1_code 66 = .ok (.bipush 24, 2) := by decide +kernel
theorem d25_68 : decode prog_11_method_1_code 68 = .ok (.newarray .int, 2) := by decide +kernel
theorem d25_70 : decode prog_11_method_1_code 70 = .ok (.putfield 36, 3) := by decide +kernel
theorem d25_73 : decode prog_11_method_1_code 73 = .ok (.aload_n 0, 1) := by decide +kernel
theorem d25_74 : decode prog_11_method_1_code 74 = .ok (.bipush 24, 2) := by decide +kernel
theorem d25_76 : decode prog_11_method_1_code 76 = .ok (.newarray .int, 2) := by decide +kernel
theorem d25_78 : decode prog_11_method_1_code 78 = .ok (.putfield 39, 3) := by decide +kernel
theorem d25_81 : decode prog_11_method_1_code 81 = .ok (.aload_n 0, 1) := by decide +kernel
theorem d25_82 : decode prog_11_method_1_code 82 = .ok (.sipush 4096, 3) := by decide +kernel
theorem d25_85 : decode prog_11_method_1_code 85 = .ok (.newarray .int, 2) := by decide +kernel
theorem d25_87 : decode prog_11_method_1_code 87 = .ok (.putfield 42, 3) := by decide +kernel
theorem d25_90 : decode prog_11_method_1_code 90 = .ok (.aload_n 0, 1) := by decide +kernel
theorem d25_91 : decode prog_11_method_1_code 91 = .ok (.sipush 144, 3) := by decide +kernel
theorem d25_94 : decode prog_11_method_1_code 94 = .ok (.newarray .int, 2) := by decide +kernel
theorem d25_96 : decode prog_11_method_1_code 96 = .ok (.putfield 45, 3) := by decide +kernel
theorem d25_99 : decode prog_11_method_1_code 99 = .ok (.aload_n 0, 1) := by decide +kernel
theorem d25_100 : decode prog_11_method_1_code 100 = .ok (.ldc 48, 2) := by decide +kernel
theorem d25_102 : decode prog_11_method_1_code 102 = .ok (.newarray .int, 2) := by decide +kernel
theorem d25_104 : decode prog_11_method_1_code 104 = .ok (.putfield 49, 3) := by decide +kernel
theorem d25_107 : decode prog_11_method_1_code 107 = .ok (.aload_n 0, 1) := by decide +kernel
theorem d25_108 : decode prog_11_method_1_code 108 = .ok (.bipush 80, 2) := by decide +kernel
theorem d25_110 : decode prog_11_method_1_code 110 = .ok (.newarray .int, 2) := by decide +kernel
theorem d25_112 : decode prog_11_method_1_code 112 = .ok (.putfield 52, 3) := by decide +kernel
theorem d25_115 : decode prog_11_method_1_code 115 = .ok (.aload_n 0, 1) := by decide +kernel
theorem d25_116 : decode prog_11_method_1_code 116 = .ok (.bipush 80, 2) := by decide +kernel
theorem d25_118 : decode prog_11_method_1_code 118 = .ok (.newarray .boolean, 2) := by decide +kernel
theorem d25_120 : decode prog_11_method_1_code 120 = .ok (.putfield 55, 3) := by decide +kernel
theorem d25_123 : decode prog_11_method_1_code 123 = .ok (.aload_n 0, 1) := by decide +kernel
theorem d25_124 : decode prog_11_method_1_code 124 = .ok (.bipush 24, 2) := by decide +kernel
theorem d25_126 : decode prog_11_method_1_code 126 = .ok (.newarray .int, 2) := by decide +kernel
theorem d25_128 : decode prog_11_method_1_code 128 = .ok (.putfield 58, 3) := by decide +kernel
theorem d25_131 : decode prog_11_method_1_code 131 = .ok (.aload_n 0, 1) := by decide +kernel
theorem d25_132 : decode prog_11_method_1_code 132 = .ok (.bipush 100, 2) := by decide +kernel
theorem d25_134 : decode prog_11_method_1_code 134 = .ok (.newarray .int, 2) := by decide +kernel
theorem d25_136 : decode prog_11_method_1_code 136 = .ok (.putfield 61, 3) := by decide +kernel
theorem d25_139 : decode prog_11_method_1_code 139 = .ok (.aload_n 0, 1) := by decide +kernel
theorem d25_140 : decode prog_11_method_1_code 140 = .ok (.bipush 100, 2) := by decide +kernel
theorem d25_142 : decode prog_11_method_1_code 142 = .ok (.newarray .int, 2) := by decide +kernel
theorem d25_144 : decode prog_11_method_1_code 144 = .ok (.putfield 64, 3) := by decide +kernel
theorem d25_147 : decode prog_11_method_1_code 147 = .ok (.aload_n 0, 1) := by decide +kernel
theorem d25_148 : decode prog_11_method_1_code 148 = .ok (.sipush 960, 3) := by decide +kernel
theorem d25_151 : decode prog_11_method_1_code 151 = .ok (.newarray .int, 2) := by decide +kernel
theorem d25_153 : decode prog_11_method_1_code 153 = .ok (.putfield 67, 3) := by decide +kernel
theorem d25_156 : decode prog_11_method_1_code 156 = .ok (.aload_n 0, 1) := by decide +kernel
theorem d25_157 : decode prog_11_method_1_code 157 = .ok (.bipush 12, 2) := by decide +kernel
theorem d25_159 : decode prog_11_method_1_code 159 = .ok (.newarray .int, 2) := by decide +kernel
theorem d25_161 : decode prog_11_method_1_code 161 = .ok (.putfield 70, 3) := by decide +kernel
theorem d25_164 : decode prog_11_method_1_code 164 = .ok (.aload_n 0, 1) := by decide +kernel
theorem d25_165 : decode prog_11_method_1_code 165 = .ok (.bipush 80, 2) := by decide +kernel
theorem d25_167 : decode prog_11_method_1_code 167 = .ok (.newarray .int, 2) := by decide +kernel
theorem d25_169 : decode prog_11_method_1_code 169 = .ok (.putfield 73, 3) := by decide +kernel
theorem d25_172 : decode prog_11_method_1_code 172 = .ok (.aload_n 0, 1) := by decide +kernel
theorem d25_173 : decode prog_11_method_1_code 173 = .ok (.sipush 960, 3) := by decide +kernel
theorem d25_176 : decode prog_11_method_1_code 176 = .ok (.newarray .int, 2) := by decide +kernel
theorem d25_178 : decode prog_11_method_1_code 178 = .ok (.putfield 76, 3) := by decide +kernel
theorem d25_181 : decode prog_11_method_1_code 181 = .ok (.aload_n 0, 1) := by decide +kernel
theorem d25_182 : decode prog_11_method_1_code 182 = .ok (.bipush 80, 2) := by decide +kernel
theorem d25_184 : decode prog_11_method_1_code 184 = .ok (.newarray .int, 2) := by decide +kernel
theorem d25_186 : decode prog_11_method_1_code 186 = .ok (.putfield 79, 3) := by decide +kernel
theorem d25_189 : decode prog_11_method_1_code 189 = .ok (.aload_n 0, 1) := by decide +kernel
theorem d25_190 : decode prog_11_method_1_code 190 = .ok (.bipush 80, 2) := by decide +kernel
theorem d25_192 : decode prog_11_method_1_code 192 = .ok (.newarray .int, 2) := by decide +kernel
theorem d25_194 : decode prog_11_method_1_code 194 = .ok (.putfield 82, 3) := by decide +kernel
theorem d25_197 : decode prog_11_method_1_code 197 = .ok (.aload_n 0, 1) := by decide +kernel
theorem d25_198 : decode prog_11_method_1_code 198 = .ok (.bipush 80, 2) := by decide +kernel
theorem d25_200 : decode prog_11_method_1_code 200 = .ok (.newarray .int, 2) := by decide +kernel
theorem d25_202 : decode prog_11_method_1_code 202 = .ok (.putfield 85, 3) := by decide +kernel
theorem d25_205 : decode prog_11_method_1_code 205 = .ok (.aload_n 0, 1) := by decide +kernel
theorem d25_206 : decode prog_11_method_1_code 206 = .ok (.bipush 12, 2) := by decide +kernel
theorem d25_208 : decode prog_11_method_1_code 208 = .ok (.newarray .int, 2) := by decide +kernel
theorem d25_210 : decode prog_11_method_1_code 210 = .ok (.putfield 88, 3) := by decide +kernel
theorem d25_213 : decode prog_11_method_1_code 213 = .ok (.aload_n 0, 1) := by decide +kernel
theorem d25_214 : decode prog_11_method_1_code 214 = .ok (.bipush 12, 2) := by decide +kernel
theorem d25_216 : decode prog_11_method_1_code 216 = .ok (.newarray .int, 2) := by decide +kernel
theorem d25_218 : decode prog_11_method_1_code 218 = .ok (.putfield 91, 3) := by decide +kernel
theorem d25_221 : decode prog_11_method_1_code 221 = .ok (.aload_n 0, 1) := by decide +kernel
theorem d25_222 : decode prog_11_method_1_code 222 = .ok (.bipush 12, 2) := by decide +kernel
theorem d25_224 : decode prog_11_method_1_code 224 = .ok (.newarray .int, 2) := by decide +kernel
theorem d25_226 : decode prog_11_method_1_code 226 = .ok (.putfield 94, 3) := by decide +kernel
theorem d25_229 : decode prog_11_method_1_code 229 = .ok (.aload_n 0, 1) := by decide +kernel
theorem d25_230 : decode prog_11_method_1_code 230 = .ok (.bipush 12, 2) := by decide +kernel
theorem d25_232 : decode prog_11_method_1_code 232 = .ok (.newarray .int, 2) := by decide +kernel
theorem d25_234 : decode prog_11_method_1_code 234 = .ok (.putfield 97, 3) := by decide +kernel
theorem d25_237 : decode prog_11_method_1_code 237 = .ok (.aload_n 0, 1) := by decide +kernel
theorem d25_238 : decode prog_11_method_1_code 238 = .ok (.bipush 12, 2) := by decide +kernel
theorem d25_240 : decode prog_11_method_1_code 240 = .ok (.newarray .int, 2) := by decide +kernel
theorem d25_242 : decode prog_11_method_1_code 242 = .ok (.putfield 100, 3) := by decide +kernel
theorem d25_245 : decode prog_11_method_1_code 245 = .ok (.return_, 1) := by decide +kernel
theorem d26_0 : decode prog_11_method_2_code 0 = .ok (.aload_n 0, 1) := by decide +kernel
theorem d26_1 : decode prog_11_method_2_code 1 = .ok (.iconst 1, 1) := by decide +kernel
theorem d26_2 : decode prog_11_method_2_code 2 = .ok (.putfield 23, 3) := by decide +kernel
theorem d26_5 : decode prog_11_method_2_code 5 = .ok (.aload_n 0, 1) := by decide +kernel
theorem d26_6 : decode prog_11_method_2_code 6 = .ok (.iconst 0, 1) := by decide +kernel
theorem d26_7 : decode prog_11_method_2_code 7 = .ok (.putfield 103, 3) := by decide +kernel
theorem d26_10 : decode prog_11_method_2_code 10 = .ok (.return_, 1) := by decide +kernel
theorem d27_0 : decode prog_11_method_3_code 0 = .ok (.iload_n 1, 1) := by decide +kernel
theorem d27_1 : decode prog_11_method_3_code 1 = .ok (.ifCond .lt 15, 3) := by decide +kernel
theorem d27_4 : decode prog_11_method_3_code 4 = .ok (.iload_n 1, 1) := by decide +kernel
theorem d27_5 : decode prog_11_method_3_code 5 = .ok (.aload_n 0, 1) := by decide +kernel
theorem d27_6 : decode prog_11_method_3_code 6 = .ok (.getfield 106, 3) := by decide +kernel
theorem d27_9 : decode prog_11_method_3_code 9 = .ok (.if_icmp .ge 7, 3) := by decide +kernel
theorem d27_12 : decode prog_11_method_3_code 12 = .ok (.iconst 1, 1) := by decide +kernel
theorem d27_13 : decode prog_11_method_3_code 13 = .ok (.goto 4, 3) := by decide +kernel
theorem d27_16 : decode prog_11_method_3_code 16 = .ok (.iconst 0, 1) := by decide +kernel
theorem d27_17 : decode prog_11_method_3_code 17 = .ok (.ireturn, 1) := by decide +kernel
theorem d28_0 : decode prog_11_method_4_code 0 = .ok (.iload_n 1, 1) := by decide +kernel
theorem d28_1 : decode prog_11_method_4_code 1 = .ok (.ifCond .lt 24, 3) := by decide +kernel
theorem d28_4 : decode prog_11_method_4_code 4 = .ok (.iload_n 1, 1) := by decide +kernel
theorem d28_5 : decode prog_11_method_4_code 5 = .ok (.aload_n 0, 1) := by decide +kernel
theorem d28_6 : decode prog_11_method_4_code 6 = .ok (.getfield 110, 3) := by decide +kernel
theorem d28_9 : decode prog_11_method_4_code 9 = .ok (.if_icmp .ge 16, 3) := by decide +kernel
theorem d28_12 : decode prog_11_method_4_code 12 = .ok (.aload_n 0, 1) := by decide +kernel
theorem d28_13 : decode prog_11_method_4_code 13 = .ok (.getfield 19, 3) := by decide +kernel
theorem d28_16 : decode prog_11_method_4_code 16 = .ok (.iload_n 1, 1) := by decide +kernel
theorem d28_17 : decode prog_11_method_4_code 17 = .ok (.baload, 1) := by decide +kernel
theorem d28_18 : decode prog_11_method_4_code 18 = .ok (.ifCond .eq 7, 3) := by decide +kernel
theorem d28_21 : decode prog_11_method_4_code 21 = .ok (.iconst 1, 1) := by decide +kernel
theorem d28_22 : decode prog_11_method_4_code 22 = .ok (.goto 4, 3) := by decide +kernel
theorem d28_25 : decode prog_11_method_4_code 25 = .ok (.iconst 0, 1) := by decide +kernel
theorem d28_26 : decode prog_11_method_4_code 26 = .ok (.ireturn, 1) := by decide +kernel
theorem d29_0 : decode prog_11_method_5_code 0 = .ok (.iload_n 1, 1) := by decide +kernel
theorem d29_1 : decode prog_11_method_5_code 1 = .ok (.iconst 1, 1) := by decide +kernel
theorem d29_2 : decode prog_11_method_5_code 2 = .ok (.if_icmp .lt 9, 3) := by decide +kernel
theorem d29_5 : decode prog_11_method_5_code 5 = .ok (.iload_n 1, 1) := by decide +kernel
theorem d29_6 : decode prog_11_method_5_code 6 = .ok (.bipush 9, 2) := by decide +kernel
theorem d29_8 : decode prog_11_method_5_code 8 = .ok (.if_icmp .le 6, 3) := by decide +kernel
theorem d29_11 : decode prog_11_method_5_code 11 = .ok (.bipush (-2), 2) := by decide +kernel
theorem d29_13 : decode prog_11_method_5_code 13 = .ok (.ireturn, 1) := by decide +kernel
theorem d29_14 : decode prog_11_method_5_code 14 = .ok (.aload_n 0, 1) := by decide +kernel
theorem d29_15 : decode prog_11_method_5_code 15 = .ok (.getfield 106, 3) := by decide +kernel
theorem d29_18 : decode prog_11_method_5_code 18 = .ok (.bipush 12, 2) := by decide +kernel
theorem d29_20 : decode prog_11_method_5_code 20 = .ok (.if_icmp .ne 6, 3) := by decide +kernel
theorem d29_23 : decode prog_11_method_5_code 23 = .ok (.bipush (-4), 2) := by decide +kernel
theorem d29_25 : decode prog_11_method_5_code 25 = .ok (.ireturn, 1) := by decide +kernel
theorem d29_26 : decode prog_11_method_5_code 26 = .ok (.aload_n 0, 1) := by decide +kernel
theorem d29_27 : decode prog_11_method_5_code 27 = .ok (.getfield 7, 3) := by decide +kernel
theorem d29_30 : decode prog_11_method_5_code 30 = .ok (.aload_n 0, 1) := by decide +kernel
theorem d29_31 : decode prog_11_method_5_code 31 = .ok (.getfield 106, 3) := by decide +kernel
theorem d29_34 : decode prog_11_method_5_code 34 = .ok (.iload_n 1, 1) := by decide +kernel
theorem d29_35 : decode prog_11_method_5_code 35 = .ok (.iastore, 1) := by decide +kernel
theorem d29_36 : decode prog_11_method_5_code 36 = .ok (.aload_n 0, 1) := by decide +kernel
theorem d29_37 : decode prog_11_method_5_code 37 = .ok (.dup, 1) := by decide +kernel
theorem d29_38 : decode prog_11_method_5_code 38 = .ok (.getfield 106, 3) := by decide +kernel
theorem d29_41 : decode prog_11_method_5_code 41 = .ok (.iconst 1, 1) := by decide +kernel
theorem d29_42 : decode prog_11_method_5_code 42 = .ok (.iadd, 1) := by decide +kernel
theorem d29_43 : decode prog_11_method_5_code 43 = .ok (.putfield 106, 3) := by decide +kernel
theorem d29_46 : decode prog_11_method_5_code 46 = .ok (.aload_n 0, 1) := by decide +kernel
theorem d29_47 : decode prog_11_method_5_code 47 = .ok (.invokevirtual 113, 3) := by decide +kernel
theorem d29_50 : decode prog_11_method_5_code 50 = .ok (.aload_n 0, 1) := by decide +kernel
theorem d29_51 : decode prog_11_method_5_code 51 = .ok (.getfield 106, 3) := by decide +kernel
theorem d29_54 : decode prog_11_method_5_code 54 = .ok (.iconst 1, 1) := by decide +kernel
theorem d29_55 : decode prog_11_method_5_code 55 = .ok (.isub, 1) := by decide +kernel
theorem d29_56 : decode prog_11_method_5_code 56 = .ok (.ireturn, 1) := by decide +kernel
theorem d30_0 : decode prog_11_method_6_code 0 = .ok (.aload_n 0, 1) := by decide +kernel
theorem d30_1 : decode prog_11_method_6_code 1 = .ok (.iload_n 1, 1) := by decide +kernel
theorem d30_2 : decode prog_11_method_6_code 2 = .ok (.invokevirtual 116, 3) := by decide +kernel
theorem d30_5 : decode prog_11_method_6_code 5 = .ok (.ifCond .ne 5, 3) := by decide +kernel
theorem d30_8 : decode prog_11_method_6_code 8 = .ok (.iconst (-1), 1) := by decide +kernel
theorem d30_9 : decode prog_11_method_6_code 9 = .ok (.ireturn, 1) := by decide +kernel
theorem d30_10 : decode prog_11_method_6_code 10 = .ok (.iload_n 2, 1) := by decide +kernel
theorem d30_11 : decode prog_11_method_6_code 11 = .ok (.iconst 1, 1) := by decide +kernel
theorem d30_12 : decode prog_11_method_6_code 12 = .ok (.if_icmp .lt 9, 3) := by decide +kernel
theorem d30_15 : decode prog_11_method_6_code 15 = .ok (.iload_n 2, 1) := by decide +kernel
theorem d30_16 : decode prog_11_method_6_code 16 = .ok (.bipush 9, 2) := by decide +kernel
theorem d30_18 : decode prog_11_method_6_code 18 = .ok (.if_icmp .le 6, 3) := by decide +kernel
theorem d30_21 : decode prog_11_method_6_code 21 = .ok (.bipush (-2), 2) := by decide +kernel
theorem d30_23 : decode prog_11_method_6_code 23 = .ok (.ireturn, 1) := by decide +kernel
theorem d30_24 : decode prog_11_method_6_code 24 = .ok (.aload_n 0, 1) := by decide +kernel
theorem d30_25 : decode prog_11_method_6_code 25 = .ok (.getfield 7, 3) := by decide +kernel
theorem d30_28 : decode prog_11_method_6_code 28 = .ok (.iload_n 1, 1) := by decide +kernel
theorem d30_29 : decode prog_11_method_6_code 29 = .ok (.iaload, 1) := by decide +kernel
theorem d30_30 : decode prog_11_method_6_code 30 = .ok (.istore_n 3, 1) := by decide +kernel
theorem d30_31 : decode prog_11_method_6_code 31 = .ok (.aload_n 0, 1) := by decide +kernel
theorem d30_32 : decode prog_11_method_6_code 32 = .ok (.getfield 7, 3) := by decide +kernel
theorem d30_35 : decode prog_11_method_6_code 35 = .ok (.iload_n 1, 1) := by decide +kernel
theorem d30_36 : decode prog_11_method_6_code 36 = .ok (.iload_n 2, 1) := by decide +kernel
theorem d30_37 : decode prog_11_method_6_code 37 = .ok (.iastore, 1) := by decide +kernel
theorem d30_38 : decode prog_11_method_6_code 38 = .ok (.aload_n 0, 1) := by decide +kernel
theorem d30_39 : decode prog_11_method_6_code 39 = .ok (.invokevirtual 113, 3) := by decide +kernel
theorem d30_42 : decode prog_11_method_6_code 42 = .ok (.iload_n 3, 1) := by decide +kernel
theorem d30_43 : decode prog_11_method_6_code 43 = .ok (.ireturn, 1) := by decide +kernel
theorem d31_0 : decode prog_11_method_7_code 0 = .ok (.aload_n 0, 1) := by decide +kernel
theorem d31_1 : decode prog_11_method_7_code 1 = .ok (.iload_n 1, 1) := by decide +kernel
theorem d31_2 : decode prog_11_method_7_code 2 = .ok (.invokevirtual 116, 3) := by decide +kernel
theorem d31_5 : decode prog_11_method_7_code 5 = .ok (.ifCond .eq 16, 3) := by decide +kernel
theorem d31_8 : decode prog_11_method_7_code 8 = .ok (.aload_n 0, 1) := by decide +kernel
theorem d31_9 : decode prog_11_method_7_code 9 = .ok (.iload_n 2, 1) := by decide +kernel
theorem d31_10 : decode prog_11_method_7_code 10 = .ok (.invokevirtual 116, 3) := by decide +kernel
theorem d31_13 : decode prog_11_method_7_code 13 = .ok (.ifCond .eq 8, 3) := by decide +kernel
theorem d31_16 : decode prog_11_method_7_code 16 = .ok (.iload_n 1, 1) := by decide +kernel
theorem d31_17 : decode prog_11_method_7_code 17 = .ok (.iload_n 2, 1) := by decide +kernel
theorem d31_18 : decode prog_11_method_7_code 18 = .ok (.if_icmp .ne 5, 3) := by decide +kernel
theorem d31_21 : decode prog_11_method_7_code 21 = .ok (.iconst (-1), 1) := by decide +kernel
theorem d31_22 : decode prog_11_method_7_code 22 = .ok (.ireturn, 1) := by decide +kernel
theorem d31_23 : decode prog_11_method_7_code 23 = .ok (.aload_n 0, 1) := by decide +kernel
theorem d31_24 : decode prog_11_method_7_code 24 = .ok (.getfield 110, 3) := by decide +kernel
theorem d31_27 : decode prog_11_method_7_code 27 = .ok (.bipush 24, 2) := by decide +kernel
theorem d31_29 : decode prog_11_method_7_code 29 = .ok (.if_icmp .ne 6, 3) := by decide +kernel
theorem d31_32 : decode prog_11_method_7_code 32 = .ok (.bipush (-4), 2) := by decide +kernel
theorem d31_34 : decode prog_11_method_7_code 34 = .ok (.ireturn, 1) := by decide +kernel
theorem d31_35 : decode prog_11_method_7_code 35 = .ok (.aload_n 0, 1) := by decide +kernel
theorem d31_36 : decode prog_11_method_7_code 36 = .ok (.getfield 13, 3) := by decide +kernel
theorem d31_39 : decode prog_11_method_7_code 39 = .ok (.aload_n 0, 1) := by decide +kernel
theorem d31_40 : decode prog_11_method_7_code 40 = .ok (.getfield 110, 3) := by decide +kernel
theorem d31_43 : decode prog_11_method_7_code 43 = .ok (.iload_n 1, 1) := by decide +kernel
theorem d31_44 : decode prog_11_method_7_code 44 = .ok (.iastore, 1) := by decide +kernel
theorem d31_45 : decode prog_11_method_7_code 45 = .ok (.aload_n 0, 1) := by decide +kernel
theorem d31_46 : decode prog_11_method_7_code 46 = .ok (.getfield 16, 3) := by decide +kernel
theorem d31_49 : decode prog_11_method_7_code 49 = .ok (.aload_n 0, 1) := by decide +kernel
theorem d31_50 : decode prog_11_method_7_code 50 = .ok (.getfield 110, 3) := by decide +kernel
theorem d31_53 : decode prog_11_method_7_code 53 = .ok (.iload_n 2, 1) := by decide +kernel
theorem d31_54 : decode prog_11_method_7_code 54 = .ok (.iastore, 1) := by decide +kernel
theorem d31_55 : decode prog_11_method_7_code 55 = .ok (.aload_n 0, 1) := by decide +kernel
theorem d31_56 : decode prog_11_method_7_code 56 = .ok (.getfield 19, 3) := by decide +kernel
theorem d31_59 : decode prog_11_method_7_code 59 = .ok (.aload_n 0, 1) := by decide +kernel
theorem d31_60 : decode prog_11_method_7_code 60 = .ok (.getfield 110, 3) := by decide +kernel
theorem d31_63 : decode prog_11_method_7_code 63 = .ok (.iconst 1, 1) := by decide +kernel
theorem d31_64 : decode prog_11_method_7_code 64 = .ok (.bastore, 1) := by decide +kernel
theorem d31_65 : decode prog_11_method_7_code 65 = .ok (.aload_n 0, 1) := by decide +kernel
theorem d31_66 : decode prog_11_method_7_code 66 = .ok (.dup, 1) := by decide +kernel
theorem d31_67 : decode prog_11_method_7_code 67 = .ok (.getfield 110, 3) := by decide +kernel
theorem d31_70 : decode prog_11_method_7_code 70 = .ok (.iconst 1, 1) := by decide +kernel
theorem d31_71 : decode prog_11_method_7_code 71 = .ok (.iadd, 1) := by decide +kernel
theorem d31_72 : decode prog_11_method_7_code 72 = .ok (.putfield 110, 3) := by decide +kernel
theorem d31_75 : decode prog_11_method_7_code 75 = .ok (.aload_n 0, 1) := by decide +kernel
theorem d31_76 : decode prog_11_method_7_code 76 = .ok (.dup, 1) := by decide +kernel
theorem d31_77 : decode prog_11_method_7_code 77 = .ok (.getfield 120, 3) := by decide +kernel
theorem d31_80 : decode prog_11_method_7_code 80 = .ok (.iconst 1, 1) := by decide +kernel
theorem d31_81 : decode prog_11_method_7_code 81 = .ok (.iadd, 1) := by decide +kernel
theorem d31_82 : decode prog_11_method_7_code 82 = .ok (.putfield 120, 3) := by decide +kernel
theorem d31_85 : decode prog_11_method_7_code 85 = .ok (.aload_n 0, 1) := by decide +kernel
theorem d31_86 : decode prog_11_method_7_code 86 = .ok (.invokevirtual 113, 3) := by decide +kernel
theorem d31_89 : decode prog_11_method_7_code 89 = .ok (.aload_n 0, 1) := by decide +kernel
theorem d31_90 : decode prog_11_method_7_code 90 = .ok (.getfield 110, 3) := by decide +kernel
theorem d31_93 : decode prog_11_method_7_code 93 = .ok (.iconst 1, 1) := by decide +kernel
theorem d31_94 : decode prog_11_method_7_code 94 = .ok (.isub, 1) := by decide +kernel
theorem d31_95 : decode prog_11_method_7_code 95 = .ok (.ireturn, 1) := by decide +kernel
theorem d32_0 : decode prog_11_method_8_code 0 = .ok (.aload_n 0, 1) := by decide +kernel
theorem d32_1 : decode prog_11_method_8_code 1 = .ok (.iload_n 1, 1) := by decide +kernel
theorem d32_2 : decode prog_11_method_8_code 2 = .ok (.invokevirtual 123, 3) := by decide +kernel
theorem d32_5 : decode prog_11_method_8_code 5 = .ok (.ifCond .ne 5, 3) := by decide +kernel
theorem d32_8 : decode prog_11_method_8_code 8 = .ok (.iconst (-1), 1) := by decide +kernel
theorem d32_9 : decode prog_11_method_8_code 9 = .ok (.ireturn, 1) := by decide +kernel
theorem d32_10 : decode prog_11_method_8_code 10 = .ok (.aload_n 0, 1) := by decide +kernel
theorem d32_11 : decode prog_11_method_8_code 11 = .ok (.getfield 19, 3) := by decide +kernel
theorem d32_14 : decode prog_11_method_8_code 14 = .ok (.iload_n 1, 1) := by decide +kernel
theorem d32_15 : decode prog_11_method_8_code 15 = .ok (.iconst 0, 1) := by decide +kernel
theorem d32_16 : decode prog_11_method_8_code 16 = .ok (.bastore, 1) := by decide +kernel
theorem d32_17 : decode prog_11_method_8_code 17 = .ok (.aload_n 0, 1) := by decide +kernel
theorem d32_18 : decode prog_11_method_8_code 18 = .ok (.dup, 1) := by decide +kernel
theorem d32_19 : decode prog_11_method_8_code 19 = .ok (.getfield 120, 3) := by decide +kernel
theorem d32_22 : decode prog_11_method_8_code 22 = .ok (.iconst 1, 1) := by decide +kernel
theorem d32_23 : decode prog_11_method_8_code 23 = .ok (.isub, 1) := by decide +kernel
theorem d32_24 : decode prog_11_method_8_code 24 = .ok (.putfield 120, 3) := by decide +kernel
theorem d32_27 : decode prog_11_method_8_code 27 = .ok (.aload_n 0, 1) := by decide +kernel
theorem d32_28 : decode prog_11_method_8_code 28 = .ok (.invokevirtual 113, 3) := by decide +kernel
theorem d32_31 : decode prog_11_method_8_code 31 = .ok (.aload_n 0, 1) := by decide +kernel
theorem d32_32 : decode prog_11_method_8_code 32 = .ok (.getfield 120, 3) := by decide +kernel
theorem d32_35 : decode prog_11_method_8_code 35 = .ok (.ireturn, 1) := by decide +kernel
theorem d33_0 : decode prog_11_method_9_code 0 = .ok (.aload_n 0, 1) := by decide +kernel
theorem d33_1 : decode prog_11_method_9_code 1 = .ok (.getfield 106, 3) := by decide +kernel
theorem d33_4 : decode prog_11_method_9_code 4 = .ok (.istore_n 1, 1) := by decide +kernel
theorem d33_5 : decode prog_11_method_9_code 5 = .ok (.aload_n 0, 1) := by decide +kernel
theorem d33_6 : decode prog_11_method_9_code 6 = .ok (.iconst 0, 1) := by decide +kernel
theorem d33_7 : decode prog_11_method_9_code 7 = .ok (.putfield 106, 3) := by decide +kernel
theorem d33_10 : decode prog_11_method_9_code 10 = .ok (.aload_n 0, 1) := by decide +kernel
theorem d33_11 : decode prog_11_method_9_code 11 = .ok (.iconst 0, 1) := by decide +kernel
theorem d33_12 : decode prog_11_method_9_code 12 = .ok (.putfield 110, 3) := by decide +kernel
theorem d33_15 : decode prog_11_method_9_code 15 = .ok (.aload_n 0, 1) := by decide +kernel
theorem d33_16 : decode prog_11_method_9_code 16 = .ok (.iconst 0, 1) := by decide +kernel
theorem d33_17 : decode prog_11_method_9_code 17 = .ok (.putfield 120, 3) := by decide +kernel
theorem d33_20 : decode prog_11_method_9_code 20 = .ok (.aload_n 0, 1) := by decide +kernel
theorem d33_21 : decode prog_11_method_9_code 21 = .ok (.invokevirtual 113, 3) := by decide +kernel
theorem d33_24 : decode prog_11_method_9_code 24 = .ok (.iload_n 1, 1) := by decide +kernel
theorem d33_25 : decode prog_11_method_9_code 25 = .ok (.ireturn, 1) := by decide +kernel
theorem d34_0 : decode prog_11_method_10_code 0 = .ok (.iconst 1, 1) := by decide +kernel
theorem d34_1 : decode prog_11_method_10_code 1 = .ok (.aload_n 0, 1) := by decide +kernel
theorem d34_2 : decode prog_11_method_10_code 2 = .ok (.getfield 106, 3) := by decide +kernel
theorem d34_5 : decode prog_11_method_10_code 5 = .ok (.ishl, 1) := by decide +kernel
theorem d34_6 : decode prog_11_method_10_code 6 = .ok (.iconst 1, 1) := by decide +kernel
theorem d34_7 : decode prog_11_method_10_code 7 = .ok (.isub, 1) := by decide +kernel
theorem d34_8 : decode prog_11_method_10_code 8 = .ok (.istore_n 1, 1) := by decide +kernel
theorem d34_9 : decode prog_11_method_10_code 9 = .ok (.iconst 0, 1) := by decide +kernel
theorem d34_10 : decode prog_11_method_10_code 10 = .ok (.istore_n 2, 1) := by decide +kernel
theorem d34_11 : decode prog_11_method_10_code 11 = .ok (.iload_n 2, 1) := by decide +kernel
theorem d34_12 : decode prog_11_method_10_code 12 = .ok (.sipush 144, 3) := by decide +kernel
theorem d34_15 : decode prog_11_method_10_code 15 = .ok (.if_icmp .ge 16, 3) := by decide +kernel
theorem d34_18 : decode prog_11_method_10_code 18 = .ok (.aload_n 0, 1) := by decide +kernel
theorem d34_19 : decode prog_11_method_10_code 19 = .ok (.getfield 45, 3) := by decide +kernel
theorem d34_22 : decode prog_11_method_10_code 22 = .ok (.iload_n 2, 1) := by decide +kernel
theorem d34_23 : decode prog_11_method_10_code 23 = .ok (.iconst 0, 1) := by decide +kernel
theorem d34_24 : decode prog_11_method_10_code 24 = .ok (.iastore, 1) := by decide +kernel
theorem d34_25 : decode prog_11_method_10_code 25 = .ok (.iinc 2 1, 3) := by decide +kernel
theorem d34_28 : decode prog_11_method_10_code 28 = .ok (.goto (-17), 3) := by decide +kernel
theorem d34_31 : decode prog_11_method_10_code 31 = .ok (.iconst 0, 1) := by decide +kernel
theorem d34_32 : decode prog_11_method_10_code 32 = .ok (.istore_n 2, 1) := by decide +kernel
theorem d34_33 : decode prog_11_method_10_code 33 = .ok (.iload_n 2, 1) := by decide +kernel
theorem d34_34 : decode prog_11_method_10_code 34 = .ok (.aload_n 0, 1) := by decide +kernel
theorem d34_35 : decode prog_11_method_10_code 35 = .ok (.getfield 110, 3) := by decide +kernel
theorem d34_38 : decode prog_11_method_10_code 38 = .ok (.if_icmp .ge 52, 3) := by decide +kernel
theorem d34_41 : decode prog_11_method_10_code 41 = .ok (.aload_n 0, 1) := by decide +kernel
theorem d34_42 : decode prog_11_method_10_code 42 = .ok (.getfield 45, 3) := by decide +kernel
theorem d34_45 : decode prog_11_method_10_code 45 = .ok (.bipush 12, 2) := by decide +kernel
theorem d34_47 : decode prog_11_method_10_code 47 = .ok (.aload_n 0, 1) := by decide +kernel
theorem d34_48 : decode prog_11_method_10_code 48 = .ok (.getfield 13, 3) := by decide +kernel
theorem d34_51 : decode prog_11_method_10_code 51 = .ok (.iload_n 2, 1) := by decide +kernel
theorem d34_52 : decode prog_11_method_10_code 52 = .ok (.iaload, 1) := by decide +kernel
theorem d34_53 : decode prog_11_method_10_code 53 = .ok (.imul, 1) := by decide +kernel
theorem d34_54 : decode prog_11_method_10_code 54 = .ok (.aload_n 0, 1) := by decide +kernel
theorem d34_55 : decode prog_11_method_10_code 55 = .ok (.getfield 16, 3) := by decide +kernel
theorem d34_58 : decode prog_11_method_10_code 58 = .ok (.iload_n 2, 1) := by decide +kernel
theorem d34_59 : decode prog_11_method_10_code 59 = .ok (.iaload, 1) := by decide +kernel
theorem d34_60 : decode prog_11_method_10_code 60 = .ok (.iadd, 1) := by decide +kernel
theorem d34_61 : decode prog_11_method_10_code 61 = .ok (.dup2, 1) := by decide +kernel
theorem d34_62 : decode prog_11_method_10_code 62 = .ok (.iaload, 1) := by decide +kernel
theorem d34_63 : decode prog_11_method_10_code 63 = .ok (.aload_n 0, 1) := by decide +kernel
theorem d34_64 : decode prog_11_method_10_code 64 = .ok (.getfield 19, 3) := by decide +kernel
theorem d34_67 : decode prog_11_method_10_code 67 = .ok (.iload_n 2, 1) := by decide +kernel
theorem d34_68 : decode prog_11_method_10_code 68 = .ok (.baload, 1) := by decide +kernel
theorem d34_69 : decode prog_11_method_10_code 69 = .ok (.ifCond .eq 12, 3) := by decide +kernel
theorem d34_72 : decode prog_11_method_10_code 72 = .ok (.aload_n 0, 1) := by decide +kernel
theorem d34_73 : decode prog_11_method_10_code 73 = .ok (.getfield 39, 3) := by decide +kernel
theorem d34_76 : decode prog_11_method_10_code 76 = .ok (.iload_n 2, 1) := by decide +kernel
theorem d34_77 : decode prog_11_method_10_code 77 = .ok (.iaload, 1) := by decide +kernel
theorem d34_78 : decode prog_11_method_10_code 78 = .ok (.goto 4, 3) := by decide +kernel
theorem d34_81 : decode prog_11_method_10_code 81 = .ok (.iconst 0, 1) := by decide +kernel
theorem d34_82 : decode prog_11_method_10_code 82 = .ok (.iadd, 1) := by decide +kernel
theorem d34_83 : decode prog_11_method_10_code 83 = .ok (.iastore, 1) := by decide +kernel
theorem d34_84 : decode prog_11_method_10_code 84 = .ok (.iinc 2 1, 3) := by decide +kernel
theorem d34_87 : decode prog_11_method_10_code 87 = .ok (.goto (-54), 3) := by decide +kernel
theorem d34_90 : decode prog_11_method_10_code 90 = .ok (.aload_n 0, 1) := by decide +kernel
theorem d34_91 : decode prog_11_method_10_code 91 = .ok (.getfield 42, 3) := by decide +kernel
theorem d34_94 : decode prog_11_method_10_code 94 = .ok (.iconst 0, 1) := by decide +kernel
theorem d34_95 : decode prog_11_method_10_code 95 = .ok (.iconst 0, 1) := by decide +kernel
theorem d34_96 : decode prog_11_method_10_code 96 = .ok (.iastore, 1) := by decide +kernel
theorem d34_97 : decode prog_11_method_10_code 97 = .ok (.iconst 0, 1) := by decide +kernel
theorem d34_98 : decode prog_11_method_10_code 98 = .ok (.istore_n 2, 1) := by decide +kernel
theorem d34_99 : decode prog_11_method_10_code 99 = .ok (.iload_n 2, 1) := by decide +kernel
theorem d34_100 : decode prog_11_method_10_code 100 = .ok (.aload_n 0, 1) := by decide +kernel
theorem d34_101 : decode prog_11_method_10_code 101 = .ok (.getfield 106, 3) := by decide +kernel
theorem d34_104 : decode prog_11_method_10_code 104 = .ok (.if_icmp .ge 16, 3) := by decide +kernel
theorem d34_107 : decode prog_11_method_10_code 107 = .ok (.aload_n 0, 1) := by decide +kernel
theorem d34_108 : decode prog_11_method_10_code 108 = .ok (.getfield 49, 3) := by decide +kernel
theorem d34_111 : decode prog_11_method_10_code 111 = .ok (.iload_n 2, 1) := by decide +kernel
theorem d34_112 : decode prog_11_method_10_code 112 = .ok (.iconst 0, 1) := by decide +kernel
theorem d34_113 : decode prog_11_method_10_code 113 = .ok (.iastore, 1) := by decide +kernel
theorem d34_114 : decode prog_11_method_10_code 114 = .ok (.iinc 2 1, 3) := by decide +kernel
theorem d34_117 : decode prog_11_method_10_code 117 = .ok (.goto (-18), 3) := by decide +kernel
theorem d34_120 : decode prog_11_method_10_code 120 = .ok (.iconst 1, 1) := by decide +kernel
theorem d34_121 : decode prog_11_method_10_code 121 = .ok (.istore_n 2, 1) := by decide +kernel
theorem d34_122 : decode prog_11_method_10_code 122 = .ok (.iload_n 2, 1) := by decide +kernel
theorem d34_123 : decode prog_11_method_10_code 123 = .ok (.iload_n 1, 1) := by decide +kernel
theorem d34_124 : decode prog_11_method_10_code 124 = .ok (.if_icmp .gt 96, 3) := by decide +kernel
theorem d34_127 : decode prog_11_method_10_code 127 = .ok (.aload_n 0, 1) := by decide +kernel
theorem d34_128 : decode prog_11_method_10_code 128 = .ok (.getfield 42, 3) := by decide +kernel
theorem d34_131 : decode prog_11_method_10_code 131 = .ok (.iload_n 2, 1) := by decide +kernel
theorem d34_132 : decode prog_11_method_10_code 132 = .ok (.ldc 126, 2) := by decide +kernel
theorem d34_134 : decode prog_11_method_10_code 134 = .ok (.iastore, 1) := by decide +kernel
theorem d34_135 : decode prog_11_method_10_code 135 = .ok (.iconst 0, 1) := by decide +kernel
theorem d34_136 : decode prog_11_method_10_code 136 = .ok (.istore_n 3, 1) := by decide +kernel
theorem d34_137 : decode prog_11_method_10_code 137 = .ok (.iload_n 2, 1) := by decide +kernel
theorem d34_138 : decode prog_11_method_10_code 138 = .ok (.iload_n 3, 1) := by decide +kernel
theorem d34_139 : decode prog_11_method_10_code 139 = .ok (.ishr, 1) := by decide +kernel
theorem d34_140 : decode prog_11_method_10_code 140 = .ok (.iconst 1, 1) := by decide +kernel
theorem d34_141 : decode prog_11_method_10_code 141 = .ok (.iand, 1) := by decide +kernel
theorem d34_142 : decode prog_11_method_10_code 142 = .ok (.ifCond .ne 9, 3) := by decide +kernel
theorem d34_145 : decode prog_11_method_10_code 145 = .ok (.iinc 3 1, 3) := by decide +kernel
theorem d34_148 : decode prog_11_method_10_code 148 = .ok (.goto (-11), 3) := by decide +kernel
theorem d34_151 : decode prog_11_method_10_code 151 = .ok (.iload_n 2, 1) := by decide +kernel
theorem d34_152 : decode prog_11_method_10_code 152 = .ok (.iload_n 2, 1) := by decide +kernel
theorem d34_153 : decode prog_11_method_10_code 153 = .ok (.iconst 1, 1) := by decide +kernel
theorem d34_154 : decode prog_11_method_10_code 154 = .ok (.isub, 1) := by decide +kernel
theorem d34_155 : decode prog_11_method_10_code 155 = .ok (.iand, 1) := by decide +kernel
theorem d34_156 : decode prog_11_method_10_code 156 = .ok (.istore 4, 2) := by decide +kernel
theorem d34_158 : decode prog_11_method_10_code 158 = .ok (.iconst 0, 1) := by decide +kernel
theorem d34_159 : decode prog_11_method_10_code 159 = .ok (.istore 5, 2) := by decide +kernel
theorem d34_161 : decode prog_11_method_10_code 161 = .ok (.iload 5, 2) := by decide +kernel
theorem d34_163 : decode prog_11_method_10_code 163 = .ok (.aload_n 0, 1) := by decide +kernel
theorem d34_164 : decode prog_11_method_10_code 164 = .ok (.getfield 106, 3) := by decide +kernel
theorem d34_167 : decode prog_11_method_10_code 167 = .ok (.if_icmp .ge 47, 3) := by decide +kernel
theorem d34_170 : decode prog_11_method_10_code 170 = .ok (.aload_n 0, 1) := by decide +kernel
theorem d34_171 : decode prog_11_method_10_code 171 = .ok (.getfield 49, 3) := by decide +kernel
theorem d34_174 : decode prog_11_method_10_code 174 = .ok (.bipush 12, 2) := by decide +kernel
theorem d34_176 : decode prog_11_method_10_code 176 = .ok (.iload_n 2, 1) := by decide +kernel
theorem d34_177 : decode prog_11_method_10_code 177 = .ok (.imul, 1) := by decide +kernel
theorem d34_178 : decode prog_11_method_10_code 178 = .ok (.iload 5, 2) := by decide +kernel
theorem d34_180 : decode prog_11_method_10_code 180 = .ok (.iadd, 1) := by decide +kernel
theorem d34_181 : decode prog_11_method_10_code 181 = .ok (.aload_n 0, 1) := by decide +kernel
theorem d34_182 : decode prog_11_method_10_code 182 = .ok (.getfield 49, 3) := by decide +kernel
theorem d34_185 : decode prog_11_method_10_code 185 = .ok (.bipush 12, 2) := by decide +kernel
theorem d34_187 : decode prog_11_method_10_code 187 = .ok (.iload 4, 2) := by decide +kernel
theorem d34_189 : decode prog_11_method_10_code 189 = .ok (.imul, 1) := by decide +kernel
theorem d34_190 : decode prog_11_method_10_code 190 = .ok (.iload 5, 2) := by decide +kernel
theorem d34_192 : decode prog_11_method_10_code 192 = .ok (.iadd, 1) := by decide +kernel
theorem d34_193 : decode prog_11_method_10_code 193 = .ok (.iaload, 1) := by decide +kernel
theorem d34_194 : decode prog_11_method_10_code 194 = .ok (.aload_n 0, 1) := by decide +kernel
theorem d34_195 : decode prog_11_method_10_code 195 = .ok (.getfield 45, 3) := by decide +kernel
theorem d34_198 : decode prog_11_method_10_code 198 = .ok (.bipush 12, 2) := by decide +kernel
theorem d34_200 : decode prog_11_method_10_code 200 = .ok (.iload 5, 2) := by decide +kernel
theorem d34_202 : decode prog_11_method_10_code 202 = .ok (.imul, 1) := by decide +kernel
theorem d34_203 : decode prog_11_method_10_code 203 = .ok (.iload_n 3, 1) := by decide +kernel
theorem d34_204 : decode prog_11_method_10_code 204 = .ok (.iadd, 1) := by decide +kernel
theorem d34_205 : decode prog_11_method_10_code 205 = .ok (.iaload, 1) := by decide +kernel
theorem d34_206 : decode prog_11_method_10_code 206 = .ok (.iadd, 1) := by decide +kernel
theorem d34_207 : decode prog_11_method_10_code 207 = .ok (.iastore, 1) := by decide +kernel
theorem d34_208 : decode prog_11_method_10_code 208 = .ok (.iinc 5 1, 3) := by decide +kernel
theorem d34_211 : decode prog_11_method_10_code 211 = .ok (.goto (-50), 3) := by decide +kernel
theorem d34_214 : decode prog_11_method_10_code 214 = .ok (.iinc 2 1, 3) := by decide +kernel
theorem d34_217 : decode prog_11_method_10_code 217 = .ok (.goto (-95), 3) := by decide +kernel
theorem d34_220 : decode prog_11_method_10_code 220 = .ok (.iconst 0, 1) := by decide +kernel
theorem d34_221 : decode prog_11_method_10_code 221 = .ok (.istore_n 2, 1) := by decide +kernel
theorem d34_222 : decode prog_11_method_10_code 222 = .ok (.iload_n 2, 1) := by decide +kernel
theorem d34_223 : decode prog_11_method_10_code 223 = .ok (.iload_n 1, 1) := by decide +kernel
theorem d34_224 : decode prog_11_method_10_code 224 = .ok (.if_icmp .ge 89, 3) := by decide +kernel
theorem d34_227 : decode prog_11_method_10_code 227 = .ok (.iconst 0, 1) := by decide +kernel
theorem d34_228 : decode prog_11_method_10_code 228 = .ok (.istore_n 3, 1) := by decide +kernel
theorem d34_229 : decode prog_11_method_10_code 229 = .ok (.iload_n 3, 1) := by decide +kernel
theorem d34_230 : decode prog_11_method_10_code 230 = .ok (.aload_n 0, 1) := by decide +kernel
theorem d34_231 : decode prog_11_method_10_code 231 = .ok (.getfield 106, 3) := by decide +kernel
theorem d34_234 : decode prog_11_method_10_code 234 = .ok (.if_icmp .ge 73, 3) := by decide +kernel
theorem d34_237 : decode prog_11_method_10_code 237 = .ok (.iload_n 2, 1) := by decide +kernel
theorem d34_238 : decode prog_11_method_10_code 238 = .ok (.iconst 1, 1) := by decide +kernel
theorem d34_239 : decode prog_11_method_10_code 239 = .ok (.iload_n 3, 1) := by decide +kernel
theorem d34_240 : decode prog_11_method_10_code 240 = .ok (.ishl, 1) := by decide +kernel
theorem d34_241 : decode prog_11_method_10_code 241 = .ok (.ior, 1) := by decide +kernel
theorem d34_242 : decode prog_11_method_10_code 242 = .ok (.istore 4, 2) := by decide +kernel
theorem d34_244 : decode prog_11_method_10_code 244 = .ok (.aload_n 0, 1) := by decide +kernel
theorem d34_245 : decode prog_11_method_10_code 245 = .ok (.getfield 42, 3) := by decide +kernel
theorem d34_248 : decode prog_11_method_10_code 248 = .ok (.iload_n 2, 1) := by decide +kernel
theorem d34_249 : decode prog_11_method_10_code 249 = .ok (.iaload, 1) := by decide +kernel
theorem d34_250 : decode prog_11_method_10_code 250 = .ok (.aload_n 0, 1) := by decide +kernel
theorem d34_251 : decode prog_11_method_10_code 251 = .ok (.getfield 49, 3) := by decide +kernel
theorem d34_254 : decode prog_11_method_10_code 254 = .ok (.bipush 12, 2) := by decide +kernel
theorem d34_256 : decode prog_11_method_10_code 256 = .ok (.iload_n 2, 1) := by decide +kernel
theorem d34_257 : decode prog_11_method_10_code 257 = .ok (.imul, 1) := by decide +kernel
theorem d34_258 : decode prog_11_method_10_code 258 = .ok (.iload_n 3, 1) := by decide +kernel
theorem d34_259 : decode prog_11_method_10_code 259 = .ok (.iadd, 1) := by decide +kernel
theorem d34_260 : decode prog_11_method_10_code 260 = .ok (.iaload, 1) := by decide +kernel
theorem d34_261 : decode prog_11_method_10_code 261 = .ok (.iadd, 1) := by decide +kernel
theorem d34_262 : decode prog_11_method_10_code 262 = .ok (.istore 5, 2) := by decide +kernel
theorem d34_264 : decode prog_11_method_10_code 264 = .ok (.aload_n 0, 1) := by decide +kernel
theorem d34_265 : decode prog_11_method_10_code 265 = .ok (.getfield 42, 3) := by decide +kernel
theorem d34_268 : decode prog_11_method_10_code 268 = .ok (.iload 4, 2) := by decide +kernel
theorem d34_270 : decode prog_11_method_10_code 270 = .ok (.iload 4, 2) := by decide +kernel
theorem d34_272 : decode prog_11_method_10_code 272 = .ok (.iload_n 2, 1) := by decide +kernel
theorem d34_273 : decode prog_11_method_10_code 273 = .ok (.if_icmp .eq 20, 3) := by decide +kernel
theorem d34_276 : decode prog_11_method_10_code 276 = .ok (.iload 5, 2) := by decide +kernel
theorem d34_278 : decode prog_11_method_10_code 278 = .ok (.aload_n 0, 1) := by decide +kernel
theorem d34_279 : decode prog_11_method_10_code 279 = .ok (.getfield 42, 3) := by decide +kernel
theorem d34_282 : decode prog_11_method_10_code 282 = .ok (.iload 4, 2) := by decide +kernel
theorem d34_284 : decode prog_11_method_10_code 284 = .ok (.iaload, 1) := by decide +kernel
theorem d34_285 : decode prog_11_method_10_code 285 = .ok (.if_icmp .ge 8, 3) := by decide +kernel
theorem d34_288 : decode prog_11_method_10_code 288 = .ok (.iload 5, 2) := by decide +kernel
theorem d34_290 : decode prog_11_method_10_code 290 = .ok (.goto 10, 3) := by decide +kernel
theorem d34_293 : decode prog_11_method_10_code 293 = .ok (.aload_n 0, 1) := by decide +kernel
theorem d34_294 : decode prog_11_method_10_code 294 = .ok (.getfield 42, 3) := by decide +kernel
theorem d34_297 : decode prog_11_method_10_code 297 = .ok (.iload 4, 2) := by decide +kernel
theorem d34_299 : decode prog_11_method_10_code 299 = .ok (.iaload, 1) := by decide +kernel
theorem d34_300 : decode prog_11_method_10_code 300 = .ok (.iastore, 1) := by decide +kernel
theorem d34_301 : decode prog_11_method_10_code 301 = .ok (.iinc 3 1, 3) := by decide +kernel
theorem d34_304 : decode prog_11_method_10_code 304 = .ok (.goto (-75), 3) := by decide +kernel
theorem d34_307 : decode prog_11_method_10_code 307 = .ok (.iinc 2 1, 3) := by decide +kernel
theorem d34_310 : decode prog_11_method_10_code 310 = .ok (.goto (-88), 3) := by decide +kernel
theorem d34_313 : decode prog_11_method_10_code 313 = .ok (.aload_n 0, 1) := by decide +kernel
theorem d34_314 : decode prog_11_method_10_code 314 = .ok (.getfield 42, 3) := by decide +kernel
theorem d34_317 : decode prog_11_method_10_code 317 = .ok (.iload_n 1, 1) := by decide +kernel
theorem d34_318 : decode prog_11_method_10_code 318 = .ok (.iaload, 1) := by decide +kernel
theorem d34_319 : decode prog_11_method_10_code 319 = .ok (.ireturn, 1) := by decide +kernel
theorem d35_0 : decode prog_11_method_11_code 0 = .ok (.iconst 0, 1) := by decide +kernel
theorem d35_1 : decode prog_11_method_11_code 1 = .ok (.istore_n 1, 1) := by decide +kernel
theorem d35_2 : decode prog_11_method_11_code 2 = .ok (.iload_n 1, 1) := by decide +kernel
theorem d35_3 : decode prog_11_method_11_code 3 = .ok (.aload_n 0, 1) := by decide +kernel
theorem d35_4 : decode prog_11_method_11_code 4 = .ok (.getfield 110, 3) := by decide +kernel
theorem d35_7 : decode prog_11_method_11_code 7 = .ok (.if_icmp .ge 23, 3) := by decide +kernel
theorem d35_10 : decode prog_11_method_11_code 10 = .ok (.aload_n 0, 1) := by decide +kernel
theorem d35_11 : decode prog_11_method_11_code 11 = .ok (.getfield 39, 3) := by decide +kernel
theorem d35_14 : decode prog_11_method_11_code 14 = .ok (.iload_n 1, 1) := by decide +kernel
theorem d35_15 : decode prog_11_method_11_code 15 = .ok (.iconst 1, 1) := by decide +kernel
theorem d35_16 : decode prog_11_method_11_code 16 = .ok (.iastore, 1) := by decide +kernel
theorem d35_17 : decode prog_11_method_11_code 17 = .ok (.aload_n 0, 1) := by decide +kernel
theorem d35_18 : decode prog_11_method_11_code 18 = .ok (.getfield 27, 3) := by decide +kernel
