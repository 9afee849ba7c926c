theorem d119_84 : decode prog_7_method_2_code 84 = .ok (.iload 6, 2) := by decide +kernel
theorem d119_86 : decode prog_7_method_2_code 86 = .ok (.iload 4, 2) := by decide +kernel
theorem d119_88 : decode prog_7_method_2_code 88 = .ok (.aload_n 0, 1) := by decide +kernel
theorem d119_89 : decode prog_7_method_2_code 89 = .ok (.iload 6, 2) := by decide +kernel
theorem d119_91 : decode prog_7_method_2_code 91 = .ok (.iload 7, 2) := by decide +kernel
theorem d119_93 : decode prog_7_method_2_code 93 = .ok (.invokevirtual 52, 3) := by decide +kernel
theorem d119_96 : decode prog_7_method_2_code 96 = .ok (.invokestatic 56, 3) := by decide +kernel
theorem d119_99 : decode prog_7_method_2_code 99 = .ok (.iastore, 1) := by decide +kernel
theorem d119_100 : decode prog_7_method_2_code 100 = .ok (.aload_n 0, 1) := by decide +kernel
theorem d119_101 : decode prog_7_method_2_code 101 = .ok (.aload_n 0, 1) := by decide +kernel
theorem d119_102 : decode prog_7_method_2_code 102 = .ok (.getfield 21, 3) := by decide +kernel
theorem d119_105 : decode prog_7_method_2_code 105 = .ok (.aload_n 0, 1) := by decide +kernel
theorem d119_106 : decode prog_7_method_2_code 106 = .ok (.getfield 9, 3) := by decide +kernel
theorem d119_109 : decode prog_7_method_2_code 109 = .ok (.iload 6, 2) := by decide +kernel
theorem d119_111 : decode prog_7_method_2_code 111 = .ok (.iaload, 1) := by decide +kernel
theorem d119_112 : decode prog_7_method_2_code 112 = .ok (.iload 7, 2) := by decide +kernel
theorem d119_114 : decode prog_7_method_2_code 114 = .ok (.iadd, 1) := by decide +kernel
theorem d119_115 : decode prog_7_method_2_code 115 = .ok (.invokestatic 56, 3) := by decide +kernel
theorem d119_118 : decode prog_7_method_2_code 118 = .ok (.putfield 21, 3) := by decide +kernel
theorem d119_121 : decode prog_7_method_2_code 121 = .ok (.aload_n 0, 1) := by decide +kernel
theorem d119_122 : decode prog_7_method_2_code 122 = .ok (.getfield 9, 3) := by decide +kernel
theorem d119_125 : decode prog_7_method_2_code 125 = .ok (.iload 6, 2) := by decide +kernel
theorem d119_127 : decode prog_7_method_2_code 127 = .ok (.iaload, 1) := by decide +kernel
theorem d119_128 : decode prog_7_method_2_code 128 = .ok (.iload 7, 2) := by decide +kernel
theorem d119_130 : decode prog_7_method_2_code 130 = .ok (.iadd, 1) := by decide +kernel
theorem d119_131 : decode prog_7_method_2_code 131 = .ok (.iconst 1, 1) := by decide +kernel
theorem d119_132 : decode prog_7_method_2_code 132 = .ok (.iadd, 1) := by decide +kernel
theorem d119_133 : decode prog_7_method_2_code 133 = .ok (.istore 4, 2) := by decide +kernel
theorem d119_135 : decode prog_7_method_2_code 135 = .ok (.iinc 5 1, 3) := by decide +kernel
theorem d119_138 : decode prog_7_method_2_code 138 = .ok (.goto (-89), 3) := by decide +kernel
theorem d119_141 : decode prog_7_method_2_code 141 = .ok (.iinc 3 1, 3) := by decide +kernel
theorem d119_144 : decode prog_7_method_2_code 144 = .ok (.goto (-121), 3) := by decide +kernel
theorem d119_147 : decode prog_7_method_2_code 147 = .ok (.return_, 1) := by decide +kernel
theorem d120_0 : decode prog_7_method_3_code 0 = .ok (.iconst 0, 1) := by decide +kernel
theorem d120_1 : decode prog_7_method_3_code 1 = .ok (.istore_n 3, 1) := by decide +kernel
theorem d120_2 : decode prog_7_method_3_code 2 = .ok (.iload_n 3, 1) := by decide +kernel
theorem d120_3 : decode prog_7_method_3_code 3 = .ok (.aload_n 1, 1) := by decide +kernel
theorem d120_4 : decode prog_7_method_3_code 4 = .ok (.getfield 61, 3) := by decide +kernel
theorem d120_7 : decode prog_7_method_3_code 7 = .ok (.iload_n 2, 1) := by decide +kernel
theorem d120_8 : decode prog_7_method_3_code 8 = .ok (.iaload, 1) := by decide +kernel
theorem d120_9 : decode prog_7_method_3_code 9 = .ok (.if_icmp .ge 67, 3) := by decide +kernel
theorem d120_12 : decode prog_7_method_3_code 12 = .ok (.aload_n 1, 1) := by decide +kernel
theorem d120_13 : decode prog_7_method_3_code 13 = .ok (.getfield 64, 3) := by decide +kernel
theorem d120_16 : decode prog_7_method_3_code 16 = .ok (.iload_n 2, 1) := by decide +kernel
theorem d120_17 : decode prog_7_method_3_code 17 = .ok (.aaload, 1) := by decide +kernel
theorem d120_18 : decode prog_7_method_3_code 18 = .ok (.iload_n 3, 1) := by decide +kernel
theorem d120_19 : decode prog_7_method_3_code 19 = .ok (.iaload, 1) := by decide +kernel
theorem d120_20 : decode prog_7_method_3_code 20 = .ok (.istore 4, 2) := by decide +kernel
theorem d120_22 : decode prog_7_method_3_code 22 = .ok (.aload_n 1, 1) := by decide +kernel
theorem d120_23 : decode prog_7_method_3_code 23 = .ok (.getfield 67, 3) := by decide +kernel
theorem d120_26 : decode prog_7_method_3_code 26 = .ok (.iload_n 2, 1) := by decide +kernel
theorem d120_27 : decode prog_7_method_3_code 27 = .ok (.aaload, 1) := by decide +kernel
theorem d120_28 : decode prog_7_method_3_code 28 = .ok (.iload_n 3, 1) := by decide +kernel
theorem d120_29 : decode prog_7_method_3_code 29 = .ok (.iaload, 1) := by decide +kernel
theorem d120_30 : decode prog_7_method_3_code 30 = .ok (.istore 5, 2) := by decide +kernel
theorem d120_32 : decode prog_7_method_3_code 32 = .ok (.aload_n 0, 1) := by decide +kernel
theorem d120_33 : decode prog_7_method_3_code 33 = .ok (.getfield 15, 3) := by decide +kernel
theorem d120_36 : decode prog_7_method_3_code 36 = .ok (.iload 5, 2) := by decide +kernel
theorem d120_38 : decode prog_7_method_3_code 38 = .ok (.dup2, 1) := by decide +kernel
theorem d120_39 : decode prog_7_method_3_code 39 = .ok (.iaload, 1) := by decide +kernel
theorem d120_40 : decode prog_7_method_3_code 40 = .ok (.iconst 2, 1) := by decide +kernel
theorem d120_41 : decode prog_7_method_3_code 41 = .ok (.aload_n 0, 1) := by decide +kernel
theorem d120_42 : decode prog_7_method_3_code 42 = .ok (.getfield 9, 3) := by decide +kernel
theorem d120_45 : decode prog_7_method_3_code 45 = .ok (.iload 4, 2) := by decide +kernel
theorem d120_47 : decode prog_7_method_3_code 47 = .ok (.iaload, 1) := by decide +kernel
theorem d120_48 : decode prog_7_method_3_code 48 = .ok (.imul, 1) := by decide +kernel
theorem d120_49 : decode prog_7_method_3_code 49 = .ok (.aload_n 1, 1) := by decide +kernel
theorem d120_50 : decode prog_7_method_3_code 50 = .ok (.getfield 47, 3) := by decide +kernel
theorem d120_53 : decode prog_7_method_3_code 53 = .ok (.iload 4, 2) := by decide +kernel
theorem d120_55 : decode prog_7_method_3_code 55 = .ok (.iaload, 1) := by decide +kernel
theorem d120_56 : decode prog_7_method_3_code 56 = .ok (.iadd, 1) := by decide +kernel
theorem d120_57 : decode prog_7_method_3_code 57 = .ok (.iadd, 1) := by decide +kernel
theorem d120_58 : decode prog_7_method_3_code 58 = .ok (.iastore, 1) := by decide +kernel
theorem d120_59 : decode prog_7_method_3_code 59 = .ok (.aload_n 0, 1) := by decide +kernel
theorem d120_60 : decode prog_7_method_3_code 60 = .ok (.getfield 18, 3) := by decide +kernel
theorem d120_63 : decode prog_7_method_3_code 63 = .ok (.iload 5, 2) := by decide +kernel
theorem d120_65 : decode prog_7_method_3_code 65 = .ok (.dup2, 1) := by decide +kernel
theorem d120_66 : decode prog_7_method_3_code 66 = .ok (.iaload, 1) := by decide +kernel
theorem d120_67 : decode prog_7_method_3_code 67 = .ok (.iconst 1, 1) := by decide +kernel
theorem d120_68 : decode prog_7_method_3_code 68 = .ok (.iadd, 1) := by decide +kernel
theorem d120_69 : decode prog_7_method_3_code 69 = .ok (.iastore, 1) := by decide +kernel
theorem d120_70 : decode prog_7_method_3_code 70 = .ok (.iinc 3 1, 3) := by decide +kernel
theorem d120_73 : decode prog_7_method_3_code 73 = .ok (.goto (-71), 3) := by decide +kernel
theorem d120_76 : decode prog_7_method_3_code 76 = .ok (.return_, 1) := by decide +kernel
theorem d121_0 : decode prog_7_method_4_code 0 = .ok (.aload_n 0, 1) := by decide +kernel
theorem d121_1 : decode prog_7_method_4_code 1 = .ok (.getfield 18, 3) := by decide +kernel
theorem d121_4 : decode prog_7_method_4_code 4 = .ok (.iload_n 1, 1) := by decide +kernel
theorem d121_5 : decode prog_7_method_4_code 5 = .ok (.iaload, 1) := by decide +kernel
theorem d121_6 : decode prog_7_method_4_code 6 = .ok (.ifCond .ne 5, 3) := by decide +kernel
theorem d121_9 : decode prog_7_method_4_code 9 = .ok (.iconst 0, 1) := by decide +kernel
theorem d121_10 : decode prog_7_method_4_code 10 = .ok (.ireturn, 1) := by decide +kernel
theorem d121_11 : decode prog_7_method_4_code 11 = .ok (.aload_n 0, 1) := by decide +kernel
theorem d121_12 : decode prog_7_method_4_code 12 = .ok (.getfield 15, 3) := by decide +kernel
theorem d121_15 : decode prog_7_method_4_code 15 = .ok (.iload_n 1, 1) := by decide +kernel
theorem d121_16 : decode prog_7_method_4_code 16 = .ok (.iaload, 1) := by decide +kernel
theorem d121_17 : decode prog_7_method_4_code 17 = .ok (.iconst 2, 1) := by decide +kernel
theorem d121_18 : decode prog_7_method_4_code 18 = .ok (.aload_n 0, 1) := by decide +kernel
theorem d121_19 : decode prog_7_method_4_code 19 = .ok (.getfield 18, 3) := by decide +kernel
theorem d121_22 : decode prog_7_method_4_code 22 = .ok (.iload_n 1, 1) := by decide +kernel
theorem d121_23 : decode prog_7_method_4_code 23 = .ok (.iaload, 1) := by decide +kernel
theorem d121_24 : decode prog_7_method_4_code 24 = .ok (.imul, 1) := by decide +kernel
theorem d121_25 : decode prog_7_method_4_code 25 = .ok (.idiv, 1) := by decide +kernel
theorem d121_26 : decode prog_7_method_4_code 26 = .ok (.iload_n 2, 1) := by decide +kernel
theorem d121_27 : decode prog_7_method_4_code 27 = .ok (.iconst 2, 1) := by decide +kernel
theorem d121_28 : decode prog_7_method_4_code 28 = .ok (.idiv, 1) := by decide +kernel
theorem d121_29 : decode prog_7_method_4_code 29 = .ok (.isub, 1) := by decide +kernel
theorem d121_30 : decode prog_7_method_4_code 30 = .ok (.ireturn, 1) := by decide +kernel
theorem d122_0 : decode prog_8_method_1_code 0 = .ok (.aload_n 0, 1) := by decide +kernel
theorem d122_1 : decode prog_8_method_1_code 1 = .ok (.invokespecial 3, 3) := by decide +kernel
theorem d122_4 : decode prog_8_method_1_code 4 = .ok (.aload_n 0, 1) := by decide +kernel
theorem d122_5 : decode prog_8_method_1_code 5 = .ok (.bipush 12, 2) := by decide +kernel
theorem d122_7 : decode prog_8_method_1_code 7 = .ok (.newarray .int, 2) := by decide +kernel
theorem d122_9 : decode prog_8_method_1_code 9 = .ok (.putfield 9, 3) := by decide +kernel
theorem d122_12 : decode prog_8_method_1_code 12 = .ok (.aload_n 0, 1) := by decide +kernel
theorem d122_13 : decode prog_8_method_1_code 13 = .ok (.bipush 12, 2) := by decide +kernel
theorem d122_15 : decode prog_8_method_1_code 15 = .ok (.newarray .int, 2) := by decide +kernel
theorem d122_17 : decode prog_8_method_1_code 17 = .ok (.putfield 15, 3) := by decide +kernel
theorem d122_20 : decode prog_8_method_1_code 20 = .ok (.aload_n 0, 1) := by decide +kernel
theorem d122_21 : decode prog_8_method_1_code 21 = .ok (.bipush 12, 2) := by decide +kernel
theorem d122_23 : decode prog_8_method_1_code 23 = .ok (.newarray .int, 2) := by decide +kernel
theorem d122_25 : decode prog_8_method_1_code 25 = .ok (.putfield 18, 3) := by decide +kernel
theorem d122_28 : decode prog_8_method_1_code 28 = .ok (.aload_n 0, 1) := by decide +kernel
theorem d122_29 : decode prog_8_method_1_code 29 = .ok (.bipush 12, 2) := by decide +kernel
theorem d122_31 : decode prog_8_method_1_code 31 = .ok (.newarray .int, 2) := by decide +kernel
theorem d122_33 : decode prog_8_method_1_code 33 = .ok (.putfield 21, 3) := by decide +kernel
theorem d122_36 : decode prog_8_method_1_code 36 = .ok (.return_, 1) := by decide +kernel
theorem d123_0 : decode prog_8_method_2_code 0 = .ok (.aload_n 0, 1) := by decide +kernel
theorem d123_1 : decode prog_8_method_2_code 1 = .ok (.getfield 15, 3) := by decide +kernel
theorem d123_4 : decode prog_8_method_2_code 4 = .ok (.iconst (-1), 1) := by decide +kernel
theorem d123_5 : decode prog_8_method_2_code 5 = .ok (.invokestatic 24, 3) := by decide +kernel
theorem d123_8 : decode prog_8_method_2_code 8 = .ok (.iconst 0, 1) := by decide +kernel
theorem d123_9 : decode prog_8_method_2_code 9 = .ok (.istore_n 2, 1) := by decide +kernel
theorem d123_10 : decode prog_8_method_2_code 10 = .ok (.iload_n 2, 1) := by decide +kernel
theorem d123_11 : decode prog_8_method_2_code 11 = .ok (.aload_n 1, 1) := by decide +kernel
theorem d123_12 : decode prog_8_method_2_code 12 = .ok (.getfield 30, 3) := by decide +kernel
theorem d123_15 : decode prog_8_method_2_code 15 = .ok (.if_icmp .ge 49, 3) := by decide +kernel
theorem d123_18 : decode prog_8_method_2_code 18 = .ok (.aload_n 1, 1) := by decide +kernel
theorem d123_19 : decode prog_8_method_2_code 19 = .ok (.getfield 36, 3) := by decide +kernel
theorem d123_22 : decode prog_8_method_2_code 22 = .ok (.iload_n 2, 1) := by decide +kernel
theorem d123_23 : decode prog_8_method_2_code 23 = .ok (.baload, 1) := by decide +kernel
theorem d123_24 : decode prog_8_method_2_code 24 = .ok (.ifCond .eq 34, 3) := by decide +kernel
theorem d123_27 : decode prog_8_method_2_code 27 = .ok (.aload_n 1, 1) := by decide +kernel
theorem d123_28 : decode prog_8_method_2_code 28 = .ok (.getfield 40, 3) := by decide +kernel
theorem d123_31 : decode prog_8_method_2_code 31 = .ok (.iload_n 2, 1) := by decide +kernel
theorem d123_32 : decode prog_8_method_2_code 32 = .ok (.iaload, 1) := by decide +kernel
theorem d123_33 : decode prog_8_method_2_code 33 = .ok (.istore_n 3, 1) := by decide +kernel
theorem d123_34 : decode prog_8_method_2_code 34 = .ok (.aload_n 0, 1) := by decide +kernel
theorem d123_35 : decode prog_8_method_2_code 35 = .ok (.getfield 15, 3) := by decide +kernel
theorem d123_38 : decode prog_8_method_2_code 38 = .ok (.iload_n 3, 1) := by decide +kernel
theorem d123_39 : decode prog_8_method_2_code 39 = .ok (.iaload, 1) := by decide +kernel
theorem d123_40 : decode prog_8_method_2_code 40 = .ok (.iconst (-1), 1) := by decide +kernel
theorem d123_41 : decode prog_8_method_2_code 41 = .ok (.if_icmp .eq 5, 3) := by decide +kernel
theorem d123_44 : decode prog_8_method_2_code 44 = .ok (.iconst 0, 1) := by decide +kernel
theorem d123_45 : decode prog_8_method_2_code 45 = .ok (.ireturn, 1) := by decide +kernel
theorem d123_46 : decode prog_8_method_2_code 46 = .ok (.aload_n 0, 1) := by decide +kernel
theorem d123_47 : decode prog_8_method_2_code 47 = .ok (.getfield 15, 3) := by decide +kernel
theorem d123_50 : decode prog_8_method_2_code 50 = .ok (.iload_n 3, 1) := by decide +kernel
theorem d123_51 : decode prog_8_method_2_code 51 = .ok (.aload_n 1, 1) := by decide +kernel
theorem d123_52 : decode prog_8_method_2_code 52 = .ok (.getfield 43, 3) := by decide +kernel
theorem d123_55 : decode prog_8_method_2_code 55 = .ok (.iload_n 2, 1) := by decide +kernel
theorem d123_56 : decode prog_8_method_2_code 56 = .ok (.iaload, 1) := by decide +kernel
theorem d123_57 : decode prog_8_method_2_code 57 = .ok (.iastore, 1) := by decide +kernel
theorem d123_58 : decode prog_8_method_2_code 58 = .ok (.iinc 2 1, 3) := by decide +kernel
theorem d123_61 : decode prog_8_method_2_code 61 = .ok (.goto (-51), 3) := by decide +kernel
theorem d123_64 : decode prog_8_method_2_code 64 = .ok (.aload_n 1, 1) := by decide +kernel
theorem d123_65 : decode prog_8_method_2_code 65 = .ok (.getfield 46, 3) := by decide +kernel
theorem d123_68 : decode prog_8_method_2_code 68 = .ok (.aload_n 1, 1) := by decide +kernel
theorem d123_69 : decode prog_8_method_2_code 69 = .ok (.getfield 49, 3) := by decide +kernel
theorem d123_72 : decode prog_8_method_2_code 72 = .ok (.iconst 1, 1) := by decide +kernel
theorem d123_73 : decode prog_8_method_2_code 73 = .ok (.isub, 1) := by decide +kernel
theorem d123_74 : decode prog_8_method_2_code 74 = .ok (.if_icmp .ne 7, 3) := by decide +kernel
theorem d123_77 : decode prog_8_method_2_code 77 = .ok (.iconst 1, 1) := by decide +kernel
theorem d123_78 : decode prog_8_method_2_code 78 = .ok (.goto 4, 3) := by decide +kernel
theorem d123_81 : decode prog_8_method_2_code 81 = .ok (.iconst 0, 1) := by decide +kernel
theorem d123_82 : decode prog_8_method_2_code 82 = .ok (.ireturn, 1) := by decide +kernel
theorem d124_0 : decode prog_8_method_3_code 0 = .ok (.iconst 0, 1) := by decide +kernel
theorem d124_1 : decode prog_8_method_3_code 1 = .ok (.istore_n 2, 1) := by decide +kernel
theorem d124_2 : decode prog_8_method_3_code 2 = .ok (.iload_n 2, 1) := by decide +kernel
theorem d124_3 : decode prog_8_method_3_code 3 = .ok (.aload_n 1, 1) := by decide +kernel
theorem d124_4 : decode prog_8_method_3_code 4 = .ok (.getfield 49, 3) := by decide +kernel
theorem d124_7 : decode prog_8_method_3_code 7 = .ok (.if_icmp .ge 20, 3) := by decide +kernel
theorem d124_10 : decode prog_8_method_3_code 10 = .ok (.aload_n 0, 1) := by decide +kernel
theorem d124_11 : decode prog_8_method_3_code 11 = .ok (.getfield 18, 3) := by decide +kernel
theorem d124_14 : decode prog_8_method_3_code 14 = .ok (.iload_n 2, 1) := by decide +kernel
theorem d124_15 : decode prog_8_method_3_code 15 = .ok (.aload_n 0, 1) := by decide +kernel
theorem d124_16 : decode prog_8_method_3_code 16 = .ok (.iload_n 2, 1) := by decide +kernel
theorem d124_17 : decode prog_8_method_3_code 17 = .ok (.invokevirtual 52, 3) := by decide +kernel
theorem d124_20 : decode prog_8_method_3_code 20 = .ok (.iastore, 1) := by decide +kernel
theorem d124_21 : decode prog_8_method_3_code 21 = .ok (.iinc 2 1, 3) := by decide +kernel
theorem d124_24 : decode prog_8_method_3_code 24 = .ok (.goto (-22), 3) := by decide +kernel
theorem d124_27 : decode prog_8_method_3_code 27 = .ok (.aload_n 1, 1) := by decide +kernel
theorem d124_28 : decode prog_8_method_3_code 28 = .ok (.getfield 49, 3) := by decide +kernel
theorem d124_31 : decode prog_8_method_3_code 31 = .ok (.iconst 1, 1) := by decide +kernel
theorem d124_32 : decode prog_8_method_3_code 32 = .ok (.isub, 1) := by decide +kernel
theorem d124_33 : decode prog_8_method_3_code 33 = .ok (.istore_n 2, 1) := by decide +kernel
theorem d124_34 : decode prog_8_method_3_code 34 = .ok (.iload_n 2, 1) := by decide +kernel
theorem d124_35 : decode prog_8_method_3_code 35 = .ok (.ifCond .lt 41, 3) := by decide +kernel
theorem d124_38 : decode prog_8_method_3_code 38 = .ok (.iconst 0, 1) := by decide +kernel
theorem d124_39 : decode prog_8_method_3_code 39 = .ok (.istore_n 3, 1) := by decide +kernel
theorem d124_40 : decode prog_8_method_3_code 40 = .ok (.iload_n 3, 1) := by decide +kernel
theorem d124_41 : decode prog_8_method_3_code 41 = .ok (.aload_n 1, 1) := by decide +kernel
theorem d124_42 : decode prog_8_method_3_code 42 = .ok (.getfield 49, 3) := by decide +kernel
theorem d124_45 : decode prog_8_method_3_code 45 = .ok (.if_icmp .ge 25, 3) := by decide +kernel
theorem d124_48 : decode prog_8_method_3_code 48 = .ok (.aload_n 0, 1) := by decide +kernel
theorem d124_49 : decode prog_8_method_3_code 49 = .ok (.getfield 18, 3) := by decide +kernel
theorem d124_52 : decode prog_8_method_3_code 52 = .ok (.iload_n 3, 1) := by decide +kernel
theorem d124_53 : decode prog_8_method_3_code 53 = .ok (.iaload, 1) := by decide +kernel
theorem d124_54 : decode prog_8_method_3_code 54 = .ok (.iload_n 2, 1) := by decide +kernel
theorem d124_55 : decode prog_8_method_3_code 55 = .ok (.if_icmp .ne 9, 3) := by decide +kernel
theorem d124_58 : decode prog_8_method_3_code 58 = .ok (.aload_n 0, 1) := by decide +kernel
theorem d124_59 : decode prog_8_method_3_code 59 = .ok (.aload_n 1, 1) := by decide +kernel
theorem d124_60 : decode prog_8_method_3_code 60 = .ok (.iload_n 3, 1) := by decide +kernel
theorem d124_61 : decode prog_8_method_3_code 61 = .ok (.invokevirtual 56, 3) := by decide +kernel
theorem d124_64 : decode prog_8_method_3_code 64 = .ok (.iinc 3 1, 3) := by decide +kernel
theorem d124_67 : decode prog_8_method_3_code 67 = .ok (.goto (-27), 3) := by decide +kernel
theorem d124_70 : decode prog_8_method_3_code 70 = .ok (.iinc 2 (-1), 3) := by decide +kernel
theorem d124_73 : decode prog_8_method_3_code 73 = .ok (.goto (-39), 3) := by decide +kernel
theorem d124_76 : decode prog_8_method_3_code 76 = .ok (.iconst 1, 1) := by decide +kernel
theorem d124_77 : decode prog_8_method_3_code 77 = .ok (.aload_n 1, 1) := by decide +kernel
theorem d124_78 : decode prog_8_method_3_code 78 = .ok (.getfield 49, 3) := by decide +kernel
theorem d124_81 : decode prog_8_method_3_code 81 = .ok (.ishl, 1) := by decide +kernel
theorem d124_82 : decode prog_8_method_3_code 82 = .ok (.iconst 1, 1) := by decide +kernel
theorem d124_83 : decode prog_8_method_3_code 83 = .ok (.isub, 1) := by decide +kernel
theorem d124_84 : decode prog_8_method_3_code 84 = .ok (.istore_n 2, 1) := by decide +kernel
theorem d124_85 : decode prog_8_method_3_code 85 = .ok (.aload_n 0, 1) := by decide +kernel
theorem d124_86 : decode prog_8_method_3_code 86 = .ok (.iload_n 2, 1) := by decide +kernel
theorem d124_87 : decode prog_8_method_3_code 87 = .ok (.aload_n 0, 1) := by decide +kernel
theorem d124_88 : decode prog_8_method_3_code 88 = .ok (.aload_n 1, 1) := by decide +kernel
theorem d124_89 : decode prog_8_method_3_code 89 = .ok (.iconst 0, 1) := by decide +kernel
theorem d124_90 : decode prog_8_method_3_code 90 = .ok (.iload_n 2, 1) := by decide +kernel
theorem d124_91 : decode prog_8_method_3_code 91 = .ok (.invokevirtual 60, 3) := by decide +kernel
theorem d124_94 : decode prog_8_method_3_code 94 = .ok (.invokevirtual 64, 3) := by decide +kernel
theorem d124_97 : decode prog_8_method_3_code 97 = .ok (.return_, 1) := by decide +kernel
theorem d125_0 : decode prog_8_method_4_code 0 = .ok (.iconst 0, 1) := by decide +kernel
theorem d125_1 : decode prog_8_method_4_code 1 = .ok (.istore_n 2, 1) := by decide +kernel
theorem d125_2 : decode prog_8_method_4_code 2 = .ok (.aload_n 0, 1) := by decide +kernel
theorem d125_3 : decode prog_8_method_4_code 3 = .ok (.getfield 15, 3) := by decide +kernel
theorem d125_6 : decode prog_8_method_4_code 6 = .ok (.iload_n 1, 1) := by decide +kernel
theorem d125_7 : decode prog_8_method_4_code 7 = .ok (.iaload, 1) := by decide +kernel
theorem d125_8 : decode prog_8_method_4_code 8 = .ok (.istore_n 3, 1) := by decide +kernel
theorem d125_9 : decode prog_8_method_4_code 9 = .ok (.iload_n 3, 1) := by decide +kernel
theorem d125_10 : decode prog_8_method_4_code 10 = .ok (.iconst (-1), 1) := by decide +kernel
theorem d125_11 : decode prog_8_method_4_code 11 = .ok (.if_icmp .eq 22, 3) := by decide +kernel
theorem d125_14 : decode prog_8_method_4_code 14 = .ok (.iload_n 2, 1) := by decide +kernel
theorem d125_15 : decode prog_8_method_4_code 15 = .ok (.bipush 12, 2) := by decide +kernel
theorem d125_17 : decode prog_8_method_4_code 17 = .ok (.if_icmp .ge 16, 3) := by decide +kernel
theorem d125_20 : decode prog_8_method_4_code 20 = .ok (.aload_n 0, 1) := by decide +kernel
theorem d125_21 : decode prog_8_method_4_code 21 = .ok (.getfield 15, 3) := by decide +kernel
theorem d125_24 : decode prog_8_method_4_code 24 = .ok (.iload_n 3, 1) := by decide +kernel
theorem d125_25 : decode prog_8_method_4_code 25 = .ok (.iaload, 1) := by decide +kernel
theorem d125_26 : decode prog_8_method_4_code 26 = .ok (.istore_n 3, 1) := by decide +kernel
theorem d125_27 : decode prog_8_method_4_code 27 = .ok (.iinc 2 1, 3) := by decide +kernel
theorem d125_30 : decode prog_8_method_4_code 30 = .ok (.goto (-21), 3) := by decide +kernel
theorem d125_33 : decode prog_8_method_4_code 33 = .ok (.iload_n 2, 1) := by decide +kernel
theorem d125_34 : decode prog_8_method_4_code 34 = .ok (.ireturn, 1) := by decide +kernel
theorem d126_0 : decode prog_8_method_5_code 0 = .ok (.iconst 0, 1) := by decide +kernel
theorem d126_1 : decode prog_8_method_5_code 1 = .ok (.istore_n 3, 1) := by decide +kernel
theorem d126_2 : decode prog_8_method_5_code 2 = .ok (.iconst (-1), 1) := by decide +kernel
theorem d126_3 : decode prog_8_method_5_code 3 = .ok (.istore 4, 2) := by decide +kernel
theorem d126_5 : decode prog_8_method_5_code 5 = .ok (.iconst (-1), 1) := by decide +kernel
theorem d126_6 : decode prog_8_method_5_code 6 = .ok (.istore 5, 2) := by decide +kernel
theorem d126_8 : decode prog_8_method_5_code 8 = .ok (.iconst 0, 1) := by decide +kernel
theorem d126_9 : decode prog_8_method_5_code 9 = .ok (.istore 6, 2) := by decide +kernel
theorem d126_11 : decode prog_8_method_5_code 11 = .ok (.iload 6, 2) := by decide +kernel
theorem d126_13 : decode prog_8_method_5_code 13 = .ok (.aload_n 1, 1) := by decide +kernel
theorem d126_14 : decode prog_8_method_5_code 14 = .ok (.getfield 30, 3) := by decide +kernel
theorem d126_17 : decode prog_8_method_5_code 17 = .ok (.if_icmp .ge 88, 3) := by decide +kernel
theorem d126_20 : decode prog_8_method_5_code 20 = .ok (.aload_n 1, 1) := by decide +kernel
theorem d126_21 : decode prog_8_method_5_code 21 = .ok (.getfield 36, 3) := by decide +kernel
theorem d126_24 : decode prog_8_method_5_code 24 = .ok (.iload 6, 2) := by decide +kernel
theorem d126_26 : decode prog_8_method_5_code 26 = .ok (.baload, 1) := by decide +kernel
theorem d126_27 : decode prog_8_method_5_code 27 = .ok (.ifCond .eq 72, 3) := by decide +kernel
theorem d126_30 : decode prog_8_method_5_code 30 = .ok (.aload_n 1, 1) := by decide +kernel
theorem d126_31 : decode prog_8_method_5_code 31 = .ok (.getfield 43, 3) := by decide +kernel
theorem d126_34 : decode prog_8_method_5_code 34 = .ok (.iload 6, 2) := by decide +kernel
theorem d126_36 : decode prog_8_method_5_code 36 = .ok (.iaload, 1) := by decide +kernel
theorem d126_37 : decode prog_8_method_5_code 37 = .ok (.iload_n 2, 1) := by decide +kernel
theorem d126_38 : decode prog_8_method_5_code 38 = .ok (.if_icmp .ne 61, 3) := by decide +kernel
theorem d126_41 : decode prog_8_method_5_code 41 = .ok (.aload_n 1, 1) := by decide +kernel
theorem d126_42 : decode prog_8_method_5_code 42 = .ok (.getfield 40, 3) := by decide +kernel
theorem d126_45 : decode prog_8_method_5_code 45 = .ok (.iload 6, 2) := by decide +kernel
theorem d126_47 : decode prog_8_method_5_code 47 = .ok (.iaload, 1) := by decide +kernel
theorem d126_48 : decode prog_8_method_5_code 48 = .ok (.istore 5, 2) := by decide +kernel
theorem d126_50 : decode prog_8_method_5_code 50 = .ok (.iload 4, 2) := by decide +kernel
theorem d126_52 : decode prog_8_method_5_code 52 = .ok (.iconst (-1), 1) := by decide +kernel
theorem d126_53 : decode prog_8_method_5_code 53 = .ok (.if_icmp .ne 8, 3) := by decide +kernel
theorem d126_56 : decode prog_8_method_5_code 56 = .ok (.iload 5, 2) := by decide +kernel
theorem d126_58 : decode prog_8_method_5_code 58 = .ok (.goto 5, 3) := by decide +kernel
theorem d126_61 : decode prog_8_method_5_code 61 = .ok (.iload 4, 2) := by decide +kernel
theorem d126_63 : decode prog_8_method_5_code 63 = .ok (.istore 4, 2) := by decide +kernel
theorem d126_65 : decode prog_8_method_5_code 65 = .ok (.aload_n 0, 1) := by decide +kernel
theorem d126_66 : decode prog_8_method_5_code 66 = .ok (.aload_n 0, 1) := by decide +kernel
theorem d126_67 : decode prog_8_method_5_code 67 = .ok (.getfield 21, 3) := by decide +kernel
theorem d126_70 : decode prog_8_method_5_code 70 = .ok (.iload 5, 2) := by decide +kernel
theorem d126_72 : decode prog_8_method_5_code 72 = .ok (.iaload, 1) := by decide +kernel
theorem d126_73 : decode prog_8_method_5_code 73 = .ok (.aload_n 0, 1) := by decide +kernel
theorem d126_74 : decode prog_8_method_5_code 74 = .ok (.aload_n 1, 1) := by decide +kernel
theorem d126_75 : decode prog_8_method_5_code 75 = .ok (.iload_n 3, 1) := by decide +kernel
theorem d126_76 : decode prog_8_method_5_code 76 = .ok (.aload_n 0, 1) := by decide +kernel
theorem d126_77 : decode prog_8_method_5_code 77 = .ok (.getfield 21, 3) := by decide +kernel
theorem d126_80 : decode prog_8_method_5_code 80 = .ok (.iload 5, 2) := by decide +kernel
theorem d126_82 : decode prog_8_method_5_code 82 = .ok (.iaload, 1) := by decide +kernel
theorem d126_83 : decode prog_8_method_5_code 83 = .ok (.invokevirtual 60, 3) := by decide +kernel
theorem d126_86 : decode prog_8_method_5_code 86 = .ok (.invokevirtual 64, 3) := by decide +kernel
theorem d126_89 : decode prog_8_method_5_code 89 = .ok (.iload_n 3, 1) := by decide +kernel
theorem d126_90 : decode prog_8_method_5_code 90 = .ok (.aload_n 0, 1) := by decide +kernel
theorem d126_91 : decode prog_8_method_5_code 91 = .ok (.getfield 21, 3) := by decide +kernel
theorem d126_94 : decode prog_8_method_5_code 94 = .ok (.iload 5, 2) := by decide +kernel
theorem d126_96 : decode prog_8_method_5_code 96 = .ok (.iaload, 1) := by decide +kernel
theorem d126_97 : decode prog_8_method_5_code 97 = .ok (.ior, 1) := by decide +kernel
theorem d126_98 : decode prog_8_method_5_code 98 = .ok (.istore_n 3, 1) := by decide +kernel
theorem d126_99 : decode prog_8_method_5_code 99 = .ok (.iinc 6 1, 3) := by decide +kernel
theorem d126_102 : decode prog_8_method_5_code 102 = .ok (.goto (-91), 3) := by decide +kernel
theorem d126_105 : decode prog_8_method_5_code 105 = .ok (.aload_n 0, 1) := by decide +kernel
theorem d126_106 : decode prog_8_method_5_code 106 = .ok (.getfield 21, 3) := by decide +kernel
theorem d126_109 : decode prog_8_method_5_code 109 = .ok (.iload_n 2, 1) := by decide +kernel
theorem d126_110 : decode prog_8_method_5_code 110 = .ok (.iload_n 3, 1) := by decide +kernel
theorem d126_111 : decode prog_8_method_5_code 111 = .ok (.iconst 1, 1) := by decide +kernel
theorem d126_112 : decode prog_8_method_5_code 112 = .ok (.iload_n 2, 1) := by decide +kernel
theorem d126_113 : decode prog_8_method_5_code 113 = .ok (.ishl, 1) := by decide +kernel
theorem d126_114 : decode prog_8_method_5_code 114 = .ok (.ior, 1) := by decide +kernel
theorem d126_115 : decode prog_8_method_5_code 115 = .ok (.iastore, 1) := by decide +kernel
theorem d126_116 : decode prog_8_method_5_code 116 = .ok (.aload_n 0, 1) := by decide +kernel
theorem d126_117 : decode prog_8_method_5_code 117 = .ok (.getfield 9, 3) := by decide +kernel
theorem d126_120 : decode prog_8_method_5_code 120 = .ok (.iload_n 2, 1) := by decide +kernel
theorem d126_121 : decode prog_8_method_5_code 121 = .ok (.iconst 0, 1) := by decide +kernel
theorem d126_122 : decode prog_8_method_5_code 122 = .ok (.iastore, 1) := by decide +kernel
theorem d126_123 : decode prog_8_method_5_code 123 = .ok (.iload 4, 2) := by decide +kernel
theorem d126_125 : decode prog_8_method_5_code 125 = .ok (.iconst (-1), 1) := by decide +kernel
theorem d126_126 : decode prog_8_method_5_code 126 = .ok (.if_icmp .eq 41, 3) := by decide +kernel
theorem d126_129 : decode prog_8_method_5_code 129 = .ok (.aload_n 0, 1) := by decide +kernel
theorem d126_130 : decode prog_8_method_5_code 130 = .ok (.aload_n 1, 1) := by decide +kernel
theorem d126_131 : decode prog_8_method_5_code 131 = .ok (.iload 4, 2) := by decide +kernel
theorem d126_133 : decode prog_8_method_5_code 133 = .ok (.invokevirtual 68, 3) := by decide +kernel
theorem d126_136 : decode prog_8_method_5_code 136 = .ok (.aload_n 0, 1) := by decide +kernel
theorem d126_137 : decode prog_8_method_5_code 137 = .ok (.aload_n 1, 1) := by decide +kernel
theorem d126_138 : decode prog_8_method_5_code 138 = .ok (.iload 5, 2) := by decide +kernel
theorem d126_140 : decode prog_8_method_5_code 140 = .ok (.invokevirtual 68, 3) := by decide +kernel
theorem d126_143 : decode prog_8_method_5_code 143 = .ok (.iadd, 1) := by decide +kernel
theorem d126_144 : decode prog_8_method_5_code 144 = .ok (.istore 6, 2) := by decide +kernel
theorem d126_146 : decode prog_8_method_5_code 146 = .ok (.aload_n 0, 1) := by decide +kernel
theorem d126_147 : decode prog_8_method_5_code 147 = .ok (.getfield 9, 3) := by decide +kernel
theorem d126_150 : decode prog_8_method_5_code 150 = .ok (.iload_n 2, 1) := by decide +kernel
theorem d126_151 : decode prog_8_method_5_code 151 = .ok (.iload 6, 2) := by decide +kernel
theorem d126_153 : decode prog_8_method_5_code 153 = .ok (.iconst 4, 1) := by decide +kernel
theorem d126_154 : decode prog_8_method_5_code 154 = .ok (.invokestatic 72, 3) := by decide +kernel
theorem d126_157 : decode prog_8_method_5_code 157 = .ok (.aload_n 1, 1) := by decide +kernel
theorem d126_158 : decode prog_8_method_5_code 158 = .ok (.getfield 78, 3) := by decide +kernel
theorem d126_161 : decode prog_8_method_5_code 161 = .ok (.iload_n 2, 1) := by decide +kernel
theorem d126_162 : decode prog_8_method_5_code 162 = .ok (.iaload, 1) := by decide +kernel
theorem d126_163 : decode prog_8_method_5_code 163 = .ok (.iconst 2, 1) := by decide +kernel
theorem d126_164 : decode prog_8_method_5_code 164 = .ok (.idiv, 1) := by decide +kernel
theorem d126_165 : decode prog_8_method_5_code 165 = .ok (.isub, 1) := by decide +kernel
theorem d126_166 : decode prog_8_method_5_code 166 = .ok (.iastore, 1) := by decide +kernel
theorem d126_167 : decode prog_8_method_5_code 167 = .ok (.return_, 1) := by decide +kernel
theorem d127_0 : decode prog_8_method_6_code 0 = .ok (.iconst 2, 1) := by decide +kernel
theorem d127_1 : decode prog_8_method_6_code 1 = .ok (.aload_n 0, 1) := by decide +kernel
theorem d127_2 : decode prog_8_method_6_code 2 = .ok (.getfield 9, 3) := by decide +kernel
theorem d127_5 : decode prog_8_method_6_code 5 = .ok (.iload_n 2, 1) := by decide +kernel
theorem d127_6 : decode prog_8_method_6_code 6 = .ok (.iaload, 1) := by decide +kernel
theorem d127_7 : decode prog_8_method_6_code 7 = .ok (.imul, 1) := by decide +kernel
theorem d127_8 : decode prog_8_method_6_code 8 = .ok (.aload_n 1, 1) := by decide +kernel
theorem d127_9 : decode prog_8_method_6_code 9 = .ok (.getfield 78, 3) := by decide +kernel
theorem d127_12 : decode prog_8_method_6_code 12 = .ok (.iload_n 2, 1) := by decide +kernel
theorem d127_13 : decode prog_8_method_6_code 13 = .ok (.iaload, 1) := by decide +kernel
theorem d127_14 : decode prog_8_method_6_code 14 = .ok (.iadd, 1) := by decide +kernel
theorem d127_15 : decode prog_8_method_6_code 15 = .ok (.ireturn, 1) := by decide +kernel
theorem d128_0 : decode prog_8_method_7_code 0 = .ok (.aload_n 0, 1) := by decide +kernel
theorem d128_1 : decode prog_8_method_7_code 1 = .ok (.aload_n 1, 1) := by decide +kernel
theorem d128_2 : decode prog_8_method_7_code 2 = .ok (.getfield 49, 3) := by decide +kernel
theorem d128_5 : decode prog_8_method_7_code 5 = .ok (.iload_n 3, 1) := by decide +kernel
theorem d128_6 : decode prog_8_method_7_code 6 = .ok (.invokevirtual 81, 3) := by decide +kernel
theorem d128_9 : decode prog_8_method_7_code 9 = .ok (.ineg, 1) := by decide +kernel
theorem d128_10 : decode prog_8_method_7_code 10 = .ok (.istore 4, 2) := by decide +kernel
theorem d128_12 : decode prog_8_method_7_code 12 = .ok (.iconst 0, 1) := by decide +kernel
theorem d128_13 : decode prog_8_method_7_code 13 = .ok (.istore 5, 2) := by decide +kernel
theorem d128_15 : decode prog_8_method_7_code 15 = .ok (.iload 5, 2) := by decide +kernel
theorem d128_17 : decode prog_8_method_7_code 17 = .ok (.aload_n 1, 1) := by decide +kernel
theorem d128_18 : decode prog_8_method_7_code 18 = .ok (.getfield 49, 3) := by decide +kernel
theorem d128_21 : decode prog_8_method_7_code 21 = .ok (.if_icmp .ge 106, 3) := by decide +kernel
theorem d128_24 : decode prog_8_method_7_code 24 = .ok (.iconst 0, 1) := by decide +kernel
theorem d128_25 : decode prog_8_method_7_code 25 = .ok (.istore 6, 2) := by decide +kernel
theorem d128_27 : decode prog_8_method_7_code 27 = .ok (.iload 6, 2) := by decide +kernel
theorem d128_29 : decode prog_8_method_7_code 29 = .ok (.aload_n 1, 1) := by decide +kernel
theorem d128_30 : decode prog_8_method_7_code 30 = .ok (.getfield 49, 3) := by decide +kernel
theorem d128_33 : decode prog_8_method_7_code 33 = .ok (.if_icmp .ge 88, 3) := by decide +kernel
theorem d128_36 : decode prog_8_method_7_code 36 = .ok (.aload_n 0, 1) := by decide +kernel
theorem d128_37 : decode prog_8_method_7_code 37 = .ok (.getfield 18, 3) := by decide +kernel
theorem d128_40 : decode prog_8_method_7_code 40 = .ok (.iload 6, 2) := by decide +kernel
theorem d128_42 : decode prog_8_method_7_code 42 = .ok (.iaload, 1) := by decide +kernel
theorem d128_43 : decode prog_8_method_7_code 43 = .ok (.aload_n 0, 1) := by decide +kernel
theorem d128_44 : decode prog_8_method_7_code 44 = .ok (.getfield 18, 3) := by decide +kernel
theorem d128_47 : decode prog_8_method_7_code 47 = .ok (.iload 5, 2) := by decide +kernel
theorem d128_49 : decode prog_8_method_7_code 49 = .ok (.iaload, 1) := by decide +kernel
theorem d128_50 : decode prog_8_method_7_code 50 = .ok (.if_icmp .ne 7, 3) := by decide +kernel
theorem d128_53 : decode prog_8_method_7_code 53 = .ok (.iconst 1, 1) := by decide +kernel
theorem d128_54 : decode prog_8_method_7_code 54 = .ok (.goto 4, 3) := by decide +kernel
theorem d128_57 : decode prog_8_method_7_code 57 = .ok (.iconst 0, 1) := by decide +kernel
theorem d128_58 : decode prog_8_method_7_code 58 = .ok (.istore 7, 2) := by decide +kernel
theorem d128_60 : decode prog_8_method_7_code 60 = .ok (.iload 7, 2) := by decide +kernel
theorem d128_62 : decode prog_8_method_7_code 62 = .ok (.ifCond .eq 53, 3) := by decide +kernel
theorem d128_65 : decode prog_8_method_7_code 65 = .ok (.iload_n 3, 1) := by decide +kernel
theorem d128_66 : decode prog_8_method_7_code 66 = .ok (.iload 5, 2) := by decide +kernel
theorem d128_68 : decode prog_8_method_7_code 68 = .ok (.ishr, 1) := by decide +kernel
theorem d128_69 : decode prog_8_method_7_code 69 = .ok (.iconst 1, 1) := by decide +kernel
theorem d128_70 : decode prog_8_method_7_code 70 = .ok (.iand, 1) := by decide +kernel
theorem d128_71 : decode prog_8_method_7_code 71 = .ok (.ifCond .eq 44, 3) := by decide +kernel
theorem d128_74 : decode prog_8_method_7_code 74 = .ok (.iload_n 2, 1) := by decide +kernel
theorem d128_75 : decode prog_8_method_7_code 75 = .ok (.iload 6, 2) := by decide +kernel
theorem d128_77 : decode prog_8_method_7_code 77 = .ok (.ishr, 1) := by decide +kernel
theorem d128_78 : decode prog_8_method_7_code 78 = .ok (.iconst 1, 1) := by decide +kernel
theorem d128_79 : decode prog_8_method_7_code 79 = .ok (.iand, 1) := by decide +kernel
theorem d128_80 : decode prog_8_method_7_code 80 = .ok (.ifCond .eq 35, 3) := by decide +kernel
theorem d128_83 : decode prog_8_method_7_code 83 = .ok (.iload 4, 2) := by decide +kernel
theorem d128_85 : decode prog_8_method_7_code 85 = .ok (.aload_n 0, 1) := by decide +kernel
theorem d128_86 : decode prog_8_method_7_code 86 = .ok (.getfield 9, 3) := by decide +kernel
theorem d128_89 : decode prog_8_method_7_code 89 = .ok (.iload 6, 2) := by decide +kernel
theorem d128_91 : decode prog_8_method_7_code 91 = .ok (.iaload, 1) := by decide +kernel
theorem d128_92 : decode prog_8_method_7_code 92 = .ok (.aload_n 1, 1) := by decide +kernel
theorem d128_93 : decode prog_8_method_7_code 93 = .ok (.getfield 78, 3) := by decide +kernel
theorem d128_96 : decode prog_8_method_7_code 96 = .ok (.iload 6, 2) := by decide +kernel
theorem d128_98 : decode prog_8_method_7_code 98 = .ok (.iaload, 1) := by decide +kernel
theorem d128_99 : decode prog_8_method_7_code 99 = .ok (.iadd, 1) := by decide +kernel
theorem d128_100 : decode prog_8_method_7_code 100 = .ok (.iconst 1, 1) := by decide +kernel
theorem d128_101 : decode prog_8_method_7_code 101 = .ok (.iadd, 1) := by decide +kernel
theorem d128_102 : decode prog_8_method_7_code 102 = .ok (.aload_n 0, 1) := by decide +kernel
theorem d128_103 : decode prog_8_method_7_code 103 = .ok (.getfield 9, 3) := by decide +kernel
theorem d128_106 : decode prog_8_method_7_code 106 = .ok (.iload 5, 2) := by decide +kernel
theorem d128_108 : decode prog_8_method_7_code 108 = .ok (.iaload, 1) := by decide +kernel
theorem d128_109 : decode prog_8_method_7_code 109 = .ok (.isub, 1) := by decide +kernel
theorem d128_110 : decode prog_8_method_7_code 110 = .ok (.invokestatic 84, 3) := by decide +kernel
theorem d128_113 : decode prog_8_method_7_code 113 = .ok (.istore 4, 2) := by decide +kernel
theorem d128_115 : decode prog_8_method_7_code 115 = .ok (.iinc 6 1, 3) := by decide +kernel
theorem d128_118 : decode prog_8_method_7_code 118 = .ok (.goto (-91), 3) := by decide +kernel
theorem d128_121 : decode prog_8_method_7_code 121 = .ok (.iinc 5 1, 3) := by decide +kernel
theorem d128_124 : decode prog_8_method_7_code 124 = .ok (.goto (-109), 3) := by decide +kernel
theorem d128_127 : decode prog_8_method_7_code 127 = .ok (.iload 4, 2) := by decide +kernel
theorem d128_129 : decode prog_8_method_7_code 129 = .ok (.ireturn, 1) := by decide +kernel
theorem d129_0 : decode prog_8_method_8_code 0 = .ok (.ldc 89, 2) := by decide +kernel
theorem d129_2 : decode prog_8_method_8_code 2 = .ok (.istore_n 3, 1) := by decide +kernel
theorem d129_3 : decode prog_8_method_8_code 3 = .ok (.iconst 0, 1) := by decide +kernel
theorem d129_4 : decode prog_8_method_8_code 4 = .ok (.istore 4, 2) := by decide +kernel
theorem d129_6 : decode prog_8_method_8_code 6 = .ok (.iload 4, 2) := by decide +kernel
theorem d129_8 : decode prog_8_method_8_code 8 = .ok (.iload_n 1, 1) := by decide +kernel
theorem d129_9 : decode prog_8_method_8_code 9 = .ok (.if_icmp .ge 30, 3) := by decide +kernel
theorem d129_12 : decode prog_8_method_8_code 12 = .ok (.iload_n 2, 1) := by decide +kernel
theorem d129_13 : decode prog_8_method_8_code 13 = .ok (.iload 4, 2) := by decide +kernel
theorem d129_15 : decode prog_8_method_8_code 15 = .ok (.ishr, 1) := by decide +kernel
theorem d129_16 : decode prog_8_method_8_code 16 = .ok (.iconst 1, 1) := by decide +kernel
theorem d129_17 : decode prog_8_method_8_code 17 = .ok (.iand, 1) := by decide +kernel
theorem d129_18 : decode prog_8_method_8_code 18 = .ok (.ifCond .eq 15, 3) := by decide +kernel
theorem d129_21 : decode prog_8_method_8_code 21 = .ok (.iload_n 3, 1) := by decide +kernel
theorem d129_22 : decode prog_8_method_8_code 22 = .ok (.aload_n 0, 1) := by decide +kernel
theorem d129_23 : decode prog_8_method_8_code 23 = .ok (.getfield 9, 3) := by decide +kernel
theorem d129_26 : decode prog_8_method_8_code 26 = .ok (.iload 4, 2) := by decide +kernel
theorem d129_28 : decode prog_8_method_8_code 28 = .ok (.iaload, 1) := by decide +kernel
theorem d129_29 : decode prog_8_method_8_code 29 = .ok (.invokestatic 90, 3) := by decide +kernel
theorem d129_32 : decode prog_8_method_8_code 32 = .ok (.istore_n 3, 1) := by decide +kernel
theorem d129_33 : decode prog_8_method_8_code 33 = .ok (.iinc 4 1, 3) := by decide +kernel
theorem d129_36 : decode prog_8_method_8_code 36 = .ok (.goto (-30), 3) := by decide +kernel
theorem d129_39 : decode prog_8_method_8_code 39 = .ok (.iload_n 3, 1) := by decide +kernel
theorem d129_40 : decode prog_8_method_8_code 40 = .ok (.ireturn, 1) := by decide +kernel
theorem d130_0 : decode prog_8_method_9_code 0 = .ok (.iconst 0, 1) := by decide +kernel
theorem d130_1 : decode prog_8_method_9_code 1 = .ok (.istore_n 3, 1) := by decide +kernel
theorem d130_2 : decode prog_8_method_9_code 2 = .ok (.iload_n 3, 1) := by decide +kernel
theorem d130_3 : decode prog_8_method_9_code 3 = .ok (.bipush 12, 2) := by decide +kernel
theorem d130_5 : decode prog_8_method_9_code 5 = .ok (.if_icmp .ge 27, 3) := by decide +kernel
theorem d130_8 : decode prog_8_method_9_code 8 = .ok (.iload_n 1, 1) := by decide +kernel
theorem d130_9 : decode prog_8_method_9_code 9 = .ok (.iload_n 3, 1) := by decide +kernel
theorem d130_10 : decode prog_8_method_9_code 10 = .ok (.ishr, 1) := by decide +kernel
theorem d130_11 : decode prog_8_method_9_code 11 = .ok (.iconst 1, 1) := by decide +kernel
theorem d130_12 : decode prog_8_method_9_code 12 = .ok (.iand, 1) := by decide +kernel
theorem d130_13 : decode prog_8_method_9_code 13 = .ok (.ifCond .eq 13, 3) := by decide +kernel
theorem d130_16 : decode prog_8_method_9_code 16 = .ok (.aload_n 0, 1) := by decide +kernel
theorem d130_17 : decode prog_8_method_9_code 17 = .ok (.getfield 9, 3) := by decide +kernel
theorem d130_20 : decode prog_8_method_9_code 20 = .ok (.iload_n 3, 1) := by decide +kernel
theorem d130_21 : decode prog_8_method_9_code 21 = .ok (.dup2, 1) := by decide +kernel
theorem d130_22 : decode prog_8_method_9_code 22 = .ok (.iaload, 1) := by decide +kernel
theorem d130_23 : decode prog_8_method_9_code 23 = .ok (.iload_n 2, 1) := by decide +kernel
theorem d130_24 : decode prog_8_method_9_code 24 = .ok (.iadd, 1) := by decide +kernel
theorem d130_25 : decode prog_8_method_9_code 25 = .ok (.iastore, 1) := by decide +kernel
theorem d130_26 : decode prog_8_method_9_code 26 = .ok (.iinc 3 1, 3) := by decide +kernel
theorem d130_29 : decode prog_8_method_9_code 29 = .ok (.goto (-27), 3) := by decide +kernel
theorem d130_32 : decode prog_8_method_9_code 32 = .ok (.return_, 1) := by decide +kernel
theorem d131_0 : decode prog_9_method_1_code 0 = .ok (.aload_n 0, 1) := by decide +kernel
theorem d131_1 : decode prog_9_method_1_code 1 = .ok (.invokespecial 3, 3) := by decide +kernel
theorem d131_4 : decode prog_9_method_1_code 4 = .ok (.aload_n 0, 1) := by decide +kernel
theorem d131_5 : decode prog_9_method_1_code 5 = .ok (.sipush 4096, 3) := by decide +kernel
theorem d131_8 : decode prog_9_method_1_code 8 = .ok (.newarray .int, 2) := by decide +kernel
theorem d131_10 : decode prog_9_method_1_code 10 = .ok (.putfield 9, 3) := by decide +kernel
theorem d131_13 : decode prog_9_method_1_code 13 = .ok (.aload_n 0, 1) := by decide +kernel
theorem d131_14 : decode prog_9_method_1_code 14 = .ok (.sipush 144, 3) := by decide +kernel
theorem d131_17 : decode prog_9_method_1_code 17 = .ok (.newarray .int, 2) := by decide +kernel
theorem d131_19 : decode prog_9_method_1_code 19 = .ok (.putfield 15, 3) := by decide +kernel
theorem d131_22 : decode prog_9_method_1_code 22 = .ok (.aload_n 0, 1) := by decide +kernel
theorem d131_23 : decode prog_9_method_1_code 23 = .ok (.bipush 12, 2) := by decide +kernel
theorem d131_25 : decode prog_9_method_1_code 25 = .ok (.newarray .int, 2) := by decide +kernel
theorem d131_27 : decode prog_9_method_1_code 27 = .ok (.putfield 18, 3) := by decide +kernel
theorem d131_30 : decode prog_9_method_1_code 30 = .ok (.aload_n 0, 1) := by decide +kernel
theorem d131_31 : decode prog_9_method_1_code 31 = .ok (.iconst 0, 1) := by decide +kernel
theorem d131_32 : decode prog_9_method_1_code 32 = .ok (.putfield 21, 3) := by decide +kernel
theorem d131_35 : decode prog_9_method_1_code 35 = .ok (.aload_n 0, 1) := by decide +kernel
theorem d131_36 : decode prog_9_method_1_code 36 = .ok (.iconst 0, 1) := by decide +kernel
theorem d131_37 : decode prog_9_method_1_code 37 = .ok (.putfield 25, 3) := by decide +kernel
theorem d131_40 : decode prog_9_method_1_code 40 = .ok (.return_, 1) := by decide +kernel
theorem d132_0 : decode prog_9_method_2_code 0 = .ok (.aload_n 0, 1) := by decide +kernel
theorem d132_1 : decode prog_9_method_2_code 1 = .ok (.getfield 21, 3) := by decide +kernel
theorem d132_4 : decode prog_9_method_2_code 4 = .ok (.iload_n 1, 1) := by decide +kernel
theorem d132_5 : decode prog_9_method_2_code 5 = .ok (.invokestatic 28, 3) := by decide +kernel
theorem d132_8 : decode prog_9_method_2_code 8 = .ok (.iand, 1) := by decide +kernel
theorem d132_9 : decode prog_9_method_2_code 9 = .ok (.ifCond .eq 7, 3) := by decide +kernel
theorem d132_12 : decode prog_9_method_2_code 12 = .ok (.iconst 1, 1) := by decide +kernel
theorem d132_13 : decode prog_9_method_2_code 13 = .ok (.goto 4, 3) := by decide +kernel
theorem d132_16 : decode prog_9_method_2_code 16 = .ok (.iconst 0, 1) := by decide +kernel
theorem d132_17 : decode prog_9_method_2_code 17 = .ok (.ireturn, 1) := by decide +kernel
theorem d133_0 : decode prog_9_method_3_code 0 = .ok (.aload_n 1, 1) := by decide +kernel
theorem d133_1 : decode prog_9_method_3_code 1 = .ok (.invokestatic 32, 3) := by decide +kernel
theorem d133_4 : decode prog_9_method_3_code 4 = .ok (.istore_n 2, 1) := by decide +kernel
theorem d133_5 : decode prog_9_method_3_code 5 = .ok (.iconst 0, 1) := by decide +kernel
theorem d133_6 : decode prog_9_method_3_code 6 = .ok (.istore_n 3, 1) := by decide +kernel
theorem d133_7 : decode prog_9_method_3_code 7 = .ok (.iload_n 2, 1) := by decide +kernel
theorem d133_8 : decode prog_9_method_3_code 8 = .ok (.ifCond .eq 15, 3) := by decide +kernel
theorem d133_11 : decode prog_9_method_3_code 11 = .ok (.aload_n 0, 1) := by decide +kernel
theorem d133_12 : decode prog_9_method_3_code 12 = .ok (.aload_n 1, 1) := by decide +kernel
theorem d133_13 : decode prog_9_method_3_code 13 = .ok (.iload_n 2, 1) := by decide +kernel
theorem d133_14 : decode prog_9_method_3_code 14 = .ok (.invokevirtual 36, 3) := by decide +kernel
theorem d133_17 : decode prog_9_method_3_code 17 = .ok (.aload_n 0, 1) := by decide +kernel
theorem d133_18 : decode prog_9_method_3_code 18 = .ok (.iload_n 2, 1) := by decide +kernel
theorem d133_19 : decode prog_9_method_3_code 19 = .ok (.invokevirtual 40, 3) := by decide +kernel
theorem d133_22 : decode prog_9_method_3_code 22 = .ok (.istore_n 3, 1) := by decide +kernel
theorem d133_23 : decode prog_9_method_3_code 23 = .ok (.aload_n 0, 1) := by decide +kernel
theorem d133_24 : decode prog_9_method_3_code 24 = .ok (.iload_n 3, 1) := by decide +kernel
theorem d133_25 : decode prog_9_method_3_code 25 = .ok (.ldc 43, 2) := by decide +kernel
theorem d133_27 : decode prog_9_method_3_code 27 = .ok (.iadd, 1) := by decide +kernel
theorem d133_28 : decode prog_9_method_3_code 28 = .ok (.iconst 1, 1) := by decide +kernel
theorem d133_29 : decode prog_9_method_3_code 29 = .ok (.isub, 1) := by decide +kernel
theorem d133_30 : decode prog_9_method_3_code 30 = .ok (.ldc 43, 2) := by decide +kernel
theorem d133_32 : decode prog_9_method_3_code 32 = .ok (.idiv, 1) := by decide +kernel
theorem d133_33 : decode prog_9_method_3_code 33 = .ok (.putfield 25, 3) := by decide +kernel
theorem d133_36 : decode prog_9_method_3_code 36 = .ok (.aload_n 0, 1) := by decide +kernel
theorem d133_37 : decode prog_9_method_3_code 37 = .ok (.aload_n 0, 1) := by decide +kernel
theorem d133_38 : decode prog_9_method_3_code 38 = .ok (.getfield 25, 3) := by decide +kernel
theorem d133_41 : decode prog_9_method_3_code 41 = .ok (.ldc 43, 2) := by decide +kernel
theorem d133_43 : decode prog_9_method_3_code 43 = .ok (.imul, 1) := by decide +kernel
theorem d133_44 : decode prog_9_method_3_code 44 = .ok (.iload_n 3, 1) := by decide +kernel
theorem d133_45 : decode prog_9_method_3_code 45 = .ok (.isub, 1) := by decide +kernel
theorem d133_46 : decode prog_9_method_3_code 46 = .ok (.putfield 21, 3) := by decide +kernel
theorem d133_49 : decode prog_9_method_3_code 49 = .ok (.return_, 1) := by decide +kernel
theorem d134_0 : decode prog_9_method_4_code 0 = .ok (.iconst 1, 1) := by decide +kernel
theorem d134_1 : decode prog_9_method_4_code 1 = .ok (.bipush 23, 2) := by decide +kernel
theorem d134_3 : decode prog_9_method_4_code 3 = .ok (.iload_n 0, 1) := by decide +kernel
theorem d134_4 : decode prog_9_method_4_code 4 = .ok (.isub, 1) := by decide +kernel
theorem d134_5 : decode prog_9_method_4_code 5 = .ok (.ishl, 1) := by decide +kernel
theorem d134_6 : decode prog_9_method_4_code 6 = .ok (.ireturn, 1) := by decide +kernel
theorem d135_0 : decode prog_9_method_5_code 0 = .ok (.iconst 1, 1) := by decide +kernel
theorem d135_1 : decode prog_9_method_5_code 1 = .ok (.aload_n 0, 1) := by decide +kernel
theorem d135_2 : decode prog_9_method_5_code 2 = .ok (.getfield 44, 3) := by decide +kernel
theorem d135_5 : decode prog_9_method_5_code 5 = .ok (.ishl, 1) := by decide +kernel
theorem d135_6 : decode prog_9_method_5_code 6 = .ok (.iconst 1, 1) := by decide +kernel
theorem d135_7 : decode prog_9_method_5_code 7 = .ok (.isub, 1) := by decide +kernel
theorem d135_8 : decode prog_9_method_5_code 8 = .ok (.istore_n 1, 1) := by decide +kernel
theorem d135_9 : decode prog_9_method_5_code 9 = .ok (.iconst 0, 1) := by decide +kernel
theorem d135_10 : decode prog_9_method_5_code 10 = .ok (.istore_n 2, 1) := by decide +kernel
theorem d135_11 : decode prog_9_method_5_code 11 = .ok (.iload_n 2, 1) := by decide +kernel
theorem d135_12 : decode prog_9_method_5_code 12 = .ok (.aload_n 0, 1) := by decide +kernel
theorem d135_13 : decode prog_9_method_5_code 13 = .ok (.getfield 44, 3) := by decide +kernel
theorem d135_16 : decode prog_9_method_5_code 16 = .ok (.if_icmp .ge 97, 3) := by decide +kernel
theorem d135_19 : decode prog_9_method_5_code 19 = .ok (.iconst 0, 1) := by decide +kernel
theorem d135_20 : decode prog_9_method_5_code 20 = .ok (.istore_n 3, 1) := by decide +kernel
theorem d135_21 : decode prog_9_method_5_code 21 = .ok (.iconst 0, 1) := by decide +kernel
theorem d135_22 : decode prog_9_method_5_code 22 = .ok (.istore 4, 2) := by decide +kernel
theorem d135_24 : decode prog_9_method_5_code 24 = .ok (.iconst 0, 1) := by decide +kernel
theorem d135_25 : decode prog_9_method_5_code 25 = .ok (.istore 5, 2) := by decide +kernel
theorem d135_27 : decode prog_9_method_5_code 27 = .ok (.iload 5, 2) := by decide +kernel
theorem d135_29 : decode prog_9_method_5_code 29 = .ok (.aload_n 0, 1) := by decide +kernel
theorem d135_30 : decode prog_9_method_5_code 30 = .ok (.getfield 49, 3) := by decide +kernel
theorem d135_33 : decode prog_9_method_5_code 33 = .ok (.if_icmp .ge 67, 3) := by decide +kernel
theorem d135_36 : decode prog_9_method_5_code 36 = .ok (.iconst 1, 1) := by decide +kernel
theorem d135_37 : decode prog_9_method_5_code 37 = .ok (.aload_n 0, 1) := by decide +kernel
theorem d135_38 : decode prog_9_method_5_code 38 = .ok (.getfield 52, 3) := by decide +kernel
theorem d135_41 : decode prog_9_method_5_code 41 = .ok (.iload 5, 2) := by decide +kernel
theorem d135_43 : decode prog_9_method_5_code 43 = .ok (.iaload, 1) := by decide +kernel
theorem d135_44 : decode prog_9_method_5_code 44 = .ok (.ishl, 1) := by decide +kernel
theorem d135_45 : decode prog_9_method_5_code 45 = .ok (.istore 6, 2) := by decide +kernel
theorem d135_47 : decode prog_9_method_5_code 47 = .ok (.iconst 1, 1) := by decide +kernel
theorem d135_48 : decode prog_9_method_5_code 48 = .ok (.aload_n 0, 1) := by decide +kernel
theorem d135_49 : decode prog_9_method_5_code 49 = .ok (.getfield 55, 3) := by decide +kernel
theorem d135_52 : decode prog_9_method_5_code 52 = .ok (.iload 5, 2) := by decide +kernel
theorem d135_54 : decode prog_9_method_5_code 54 = .ok (.iaload, 1) := by decide +kernel
theorem d135_55 : decode prog_9_method_5_code 55 = .ok (.ishl, 1) := by decide +kernel
theorem d135_56 : decode prog_9_method_5_code 56 = .ok (.istore 7, 2) := by decide +kernel
theorem d135_58 : decode prog_9_method_5_code 58 = .ok (.aload_n 0, 1) := by decide +kernel
theorem d135_59 : decode prog_9_method_5_code 59 = .ok (.getfield 58, 3) := by decide +kernel
theorem d135_62 : decode prog_9_method_5_code 62 = .ok (.iload 5, 2) := by decide +kernel
theorem d135_64 : decode prog_9_method_5_code 64 = .ok (.baload, 1) := by decide +kernel
theorem d135_65 : decode prog_9_method_5_code 65 = .ok (.ifCond .eq 29, 3) := by decide +kernel
theorem d135_68 : decode prog_9_method_5_code 68 = .ok (.iload_n 1, 1) := by decide +kernel
theorem d135_69 : decode prog_9_method_5_code 69 = .ok (.iload 6, 2) := by decide +kernel
theorem d135_71 : decode prog_9_method_5_code 71 = .ok (.iand, 1) := by decide +kernel
theorem d135_72 : decode prog_9_method_5_code 72 = .ok (.ifCond .eq 22, 3) := by decide +kernel
theorem d135_75 : decode prog_9_method_5_code 75 = .ok (.iload_n 1, 1) := by decide +kernel
theorem d135_76 : decode prog_9_method_5_code 76 = .ok (.iload 7, 2) := by decide +kernel
theorem d135_78 : decode prog_9_method_5_code 78 = .ok (.iand, 1) := by decide +kernel
theorem d135_79 : decode prog_9_method_5_code 79 = .ok (.ifCond .eq 15, 3) := by decide +kernel
theorem d135_82 : decode prog_9_method_5_code 82 = .ok (.iload_n 3, 1) := by decide +kernel
theorem d135_83 : decode prog_9_method_5_code 83 = .ok (.iload 6, 2) := by decide +kernel
theorem d135_85 : decode prog_9_method_5_code 85 = .ok (.ior, 1) := by decide +kernel
theorem d135_86 : decode prog_9_method_5_code 86 = .ok (.istore_n 3, 1) := by decide +kernel
theorem d135_87 : decode prog_9_method_5_code 87 = .ok (.iload 4, 2) := by decide +kernel
theorem d135_89 : decode prog_9_method_5_code 89 = .ok (.iload 7, 2) := by decide +kernel
theorem d135_91 : decode prog_9_method_5_code 91 = .ok (.ior, 1) := by decide +kernel
theorem d135_92 : decode prog_9_method_5_code 92 = .ok (.istore 4, 2) := by decide +kernel
theorem d135_94 : decode prog_9_method_5_code 94 = .ok (.iinc 5 1, 3) := by decide +kernel
theorem d135_97 : decode prog_9_method_5_code 97 = .ok (.goto (-70), 3) := by decide +kernel
theorem d135_100 : decode prog_9_method_5_code 100 = .ok (.iload_n 1, 1) := by decide +kernel
theorem d135_101 : decode prog_9_method_5_code 101 = .ok (.iload_n 3, 1) := by decide +kernel
theorem d135_102 : decode prog_9_method_5_code 102 = .ok (.iload 4, 2) := by decide +kernel
theorem d135_104 : decode prog_9_method_5_code 104 = .ok (.iand, 1) := by decide +kernel
theorem d135_105 : decode prog_9_method_5_code 105 = .ok (.iand, 1) := by decide +kernel
theorem d135_106 : decode prog_9_method_5_code 106 = .ok (.istore_n 1, 1) := by decide +kernel
theorem d135_107 : decode prog_9_method_5_code 107 = .ok (.iinc 2 1, 3) := by decide +kernel
theorem d135_110 : decode prog_9_method_5_code 110 = .ok (.goto (-99), 3) := by decide +kernel
theorem d135_113 : decode prog_9_method_5_code 113 = .ok (.iload_n 1, 1) := by decide +kernel
theorem d135_114 : decode prog_9_method_5_code 114 = .ok (.ireturn, 1) := by decide +kernel
theorem d136_0 : decode prog_9_method_6_code 0 = .ok (.aload_n 0, 1) := by decide +kernel
theorem d136_1 : decode prog_9_method_6_code 1 = .ok (.getfield 15, 3) := by decide +kernel
theorem d136_4 : decode prog_9_method_6_code 4 = .ok (.iconst 0, 1) := by decide +kernel
theorem d136_5 : decode prog_9_method_6_code 5 = .ok (.invokestatic 62, 3) := by decide +kernel
theorem d136_8 : decode prog_9_method_6_code 8 = .ok (.aload_n 0, 1) := by decide +kernel
theorem d136_9 : decode prog_9_method_6_code 9 = .ok (.getfield 18, 3) := by decide +kernel
theorem d136_12 : decode prog_9_method_6_code 12 = .ok (.iconst 0, 1) := by decide +kernel
theorem d136_13 : decode prog_9_method_6_code 13 = .ok (.invokestatic 62, 3) := by decide +kernel
theorem d136_16 : decode prog_9_method_6_code 16 = .ok (.iconst 0, 1) := by decide +kernel
theorem d136_17 : decode prog_9_method_6_code 17 = .ok (.istore_n 3, 1) := by decide +kernel
theorem d136_18 : decode prog_9_method_6_code 18 = .ok (.iload_n 3, 1) := by decide +kernel
theorem d136_19 : decode prog_9_method_6_code 19 = .ok (.aload_n 1, 1) := by decide +kernel
theorem d136_20 : decode prog_9_method_6_code 20 = .ok (.getfield 49, 3) := by decide +kernel
theorem d136_23 : decode prog_9_method_6_code 23 = .ok (.if_icmp .ge 89, 3) := by decide +kernel
theorem d136_26 : decode prog_9_method_6_code 26 = .ok (.aload_n 1, 1) := by decide +kernel
theorem d136_27 : decode prog_9_method_6_code 27 = .ok (.getfield 52, 3) := by decide +kernel
theorem d136_30 : decode prog_9_method_6_code 30 = .ok (.iload_n 3, 1) := by decide +kernel
theorem d136_31 : decode prog_9_method_6_code 31 = .ok (.iaload, 1) := by decide +kernel
theorem d136_32 : decode prog_9_method_6_code 32 = .ok (.istore 4, 2) := by decide +kernel
theorem d136_34 : decode prog_9_method_6_code 34 = .ok (.aload_n 1, 1) := by decide +kernel
theorem d136_35 : decode prog_9_method_6_code 35 = .ok (.getfield 55, 3) := by decide +kernel
theorem d136_38 : decode prog_9_method_6_code 38 = .ok (.iload_n 3, 1) := by decide +kernel
theorem d136_39 : decode prog_9_method_6_code 39 = .ok (.iaload, 1) := by decide +kernel
theorem d136_40 : decode prog_9_method_6_code 40 = .ok (.istore 5, 2) := by decide +kernel
theorem d136_42 : decode prog_9_method_6_code 42 = .ok (.aload_n 1, 1) := by decide +kernel
theorem d136_43 : decode prog_9_method_6_code 43 = .ok (.getfield 58, 3) := by decide +kernel
theorem d136_46 : decode prog_9_method_6_code 46 = .ok (.iload_n 3, 1) := by decide +kernel
theorem d136_47 : decode prog_9_method_6_code 47 = .ok (.baload, 1) := by decide +kernel
theorem d136_48 : decode prog_9_method_6_code 48 = .ok (.ifCond .eq 58, 3) := by decide +kernel
theorem d136_51 : decode prog_9_method_6_code 51 = .ok (.iload_n 2, 1) := by decide +kernel
theorem d136_52 : decode prog_9_method_6_code 52 = .ok (.iload 4, 2) := by decide +kernel
theorem d136_54 : decode prog_9_method_6_code 54 = .ok (.ishr, 1) := by decide +kernel
theorem d136_55 : decode prog_9_method_6_code 55 = .ok (.iconst 1, 1) := by decide +kernel
theorem d136_56 : decode prog_9_method_6_code 56 = .ok (.iand, 1) := by decide +kernel
theorem d136_57 : decode prog_9_method_6_code 57 = .ok (.ifCond .eq 49, 3) := by decide +kernel
theorem d136_60 : decode prog_9_method_6_code 60 = .ok (.iload_n 2, 1) := by decide +kernel
theorem d136_61 : decode prog_9_method_6_code 61 = .ok (.iload 5, 2) := by decide +kernel
theorem d136_63 : decode prog_9_method_6_code 63 = .ok (.ishr, 1) := by decide +kernel
theorem d136_64 : decode prog_9_method_6_code 64 = .ok (.iconst 1, 1) := by decide +kernel
theorem d136_65 : decode prog_9_method_6_code 65 = .ok (.iand, 1) := by decide +kernel
theorem d136_66 : decode prog_9_method_6_code 66 = .ok (.ifCond .eq 40, 3) := by decide +kernel
theorem d136_69 : decode prog_9_method_6_code 69 = .ok (.aload_n 0, 1) := by decide +kernel
theorem d136_70 : decode prog_9_method_6_code 70 = .ok (.getfield 15, 3) := by decide +kernel
theorem d136_73 : decode prog_9_method_6_code 73 = .ok (.iload 4, 2) := by decide +kernel
theorem d136_75 : decode prog_9_method_6_code 75 = .ok (.bipush 12, 2) := by decide +kernel
theorem d136_77 : decode prog_9_method_6_code 77 = .ok (.imul, 1) := by decide +kernel
theorem d136_78 : decode prog_9_method_6_code 78 = .ok (.iload 5, 2) := by decide +kernel
theorem d136_80 : decode prog_9_method_6_code 80 = .ok (.iadd, 1) := by decide +kernel
theorem d136_81 : decode prog_9_method_6_code 81 = .ok (.dup2, 1) := by decide +kernel
theorem d136_82 : decode prog_9_method_6_code 82 = .ok (.iaload, 1) := by decide +kernel
theorem d136_83 : decode prog_9_method_6_code 83 = .ok (.ldc 43, 2) := by decide +kernel
theorem d136_85 : decode prog_9_method_6_code 85 = .ok (.iload_n 3, 1) := by decide +kernel
theorem d136_86 : decode prog_9_method_6_code 86 = .ok (.invokestatic 28, 3) := by decide +kernel
theorem d136_89 : decode prog_9_method_6_code 89 = .ok (.isub, 1) := by decide +kernel
theorem d136_90 : decode prog_9_method_6_code 90 = .ok (.iadd, 1) := by decide +kernel
theorem d136_91 : decode prog_9_method_6_code 91 = .ok (.iastore, 1) := by decide +kernel
theorem d136_92 : decode prog_9_method_6_code 92 = .ok (.aload_n 0, 1) := by decide +kernel
theorem d136_93 : decode prog_9_method_6_code 93 = .ok (.getfield 18, 3) := by decide +kernel
theorem d136_96 : decode prog_9_method_6_code 96 = .ok (.iload 4, 2) := by decide +kernel
theorem d136_98 : decode prog_9_method_6_code 98 = .ok (.dup2, 1) := by decide +kernel
theorem d136_99 : decode prog_9_method_6_code 99 = .ok (.iaload, 1) := by decide +kernel
theorem d136_100 : decode prog_9_method_6_code 100 = .ok (.iconst 1, 1) := by decide +kernel
theorem d136_101 : decode prog_9_method_6_code 101 = .ok (.iload 5, 2) := by decide +kernel
theorem d136_103 : decode prog_9_method_6_code 103 = .ok (.ishl, 1) := by decide +kernel
theorem d136_104 : decode prog_9_method_6_code 104 = .ok (.ior, 1) := by decide +kernel
theorem d136_105 : decode prog_9_method_6_code 105 = .ok (.iastore, 1) := by decide +kernel
theorem d136_106 : decode prog_9_method_6_code 106 = .ok (.iinc 3 1, 3) := by decide +kernel
theorem d136_109 : decode prog_9_method_6_code 109 = .ok (.goto (-91), 3) := by decide +kernel
theorem d136_112 : decode prog_9_method_6_code 112 = .ok (.return_, 1) := by decide +kernel
theorem d137_0 : decode prog_9_method_7_code 0 = .ok (.aload_n 0, 1) := by decide +kernel
theorem d137_1 : decode prog_9_method_7_code 1 = .ok (.getfield 9, 3) := by decide +kernel
theorem d137_4 : decode prog_9_method_7_code 4 = .ok (.iconst 0, 1) := by decide +kernel
theorem d137_5 : decode prog_9_method_7_code 5 = .ok (.iconst 0, 1) := by decide +kernel
theorem d137_6 : decode prog_9_method_7_code 6 = .ok (.iastore, 1) := by decide +kernel
theorem d137_7 : decode prog_9_method_7_code 7 = .ok (.iconst 1, 1) := by decide +kernel
theorem d137_8 : decode prog_9_method_7_code 8 = .ok (.istore_n 2, 1) := by decide +kernel
theorem d137_9 : decode prog_9_method_7_code 9 = .ok (.iload_n 2, 1) := by decide +kernel
theorem d137_10 : decode prog_9_method_7_code 10 = .ok (.iload_n 1, 1) := by decide +kernel
theorem d137_11 : decode prog_9_method_7_code 11 = .ok (.if_icmp .gt 28, 3) := by decide +kernel
theorem d137_14 : decode prog_9_method_7_code 14 = .ok (.iload_n 2, 1) := by decide +kernel
theorem d137_15 : decode prog_9_method_7_code 15 = .ok (.iload_n 1, 1) := by decide +kernel
theorem d137_16 : decode prog_9_method_7_code 16 = .ok (.iconst (-1), 1) := by decide +kernel
theorem d137_17 : decode prog_9_method_7_code 17 = .ok (.ixor, 1) := by decide +kernel
theorem d137_18 : decode prog_9_method_7_code 18 = .ok (.iand, 1) := by decide +kernel
theorem d137_19 : decode prog_9_method_7_code 19 = .ok (.ifCond .ne 14, 3) := by decide +kernel
theorem d137_22 : decode prog_9_method_7_code 22 = .ok (.aload_n 0, 1) := by decide +kernel
theorem d137_23 : decode prog_9_method_7_code 23 = .ok (.getfield 9, 3) := by decide +kernel
theorem d137_26 : decode prog_9_method_7_code 26 = .ok (.iload_n 2, 1) := by decide +kernel
theorem d137_27 : decode prog_9_method_7_code 27 = .ok (.aload_n 0, 1) := by decide +kernel
theorem d137_28 : decode prog_9_method_7_code 28 = .ok (.iload_n 2, 1) := by decide +kernel
theorem d137_29 : decode prog_9_method_7_code 29 = .ok (.invokevirtual 68, 3) := by decide +kernel
theorem d137_32 : decode prog_9_method_7_code 32 = .ok (.iastore, 1) := by decide +kernel
theorem d137_33 : decode prog_9_method_7_code 33 = .ok (.iinc 2 1, 3) := by decide +kernel
theorem d137_36 : decode prog_9_method_7_code 36 = .ok (.goto (-27), 3) := by decide +kernel
theorem d137_39 : decode prog_9_method_7_code 39 = .ok (.aload_n 0, 1) := by decide +kernel
theorem d137_40 : decode prog_9_method_7_code 40 = .ok (.getfield 9, 3) := by decide +kernel
theorem d137_43 : decode prog_9_method_7_code 43 = .ok (.iload_n 1, 1) := by decide +kernel
theorem d137_44 : decode prog_9_method_7_code 44 = .ok (.iaload, 1) := by decide +kernel
theorem d137_45 : decode prog_9_method_7_code 45 = .ok (.ireturn, 1) := by decide +kernel
theorem d138_0 : decode prog_9_method_8_code 0 = .ok (.ldc 73, 2) := by decide +kernel
theorem d138_2 : decode prog_9_method_8_code 2 = .ok (.istore_n 2, 1) := by decide +kernel
theorem d138_3 : decode prog_9_method_8_code 3 = .ok (.iconst 0, 1) := by decide +kernel
theorem d138_4 : decode prog_9_method_8_code 4 = .ok (.istore_n 3, 1) := by decide +kernel
theorem d138_5 : decode prog_9_method_8_code 5 = .ok (.iload_n 3, 1) := by decide +kernel
theorem d138_6 : decode prog_9_method_8_code 6 = .ok (.bipush 12, 2) := by decide +kernel
theorem d138_8 : decode prog_9_method_8_code 8 = .ok (.if_icmp .ge 39, 3) := by decide +kernel
theorem d138_11 : decode prog_9_method_8_code 11 = .ok (.iload_n 1, 1) := by decide +kernel
theorem d138_12 : decode prog_9_method_8_code 12 = .ok (.iload_n 3, 1) := by decide +kernel
theorem d138_13 : decode prog_9_method_8_code 13 = .ok (.ishr, 1) := by decide +kernel
theorem d138_14 : decode prog_9_method_8_code 14 = .ok (.iconst 1, 1) := by decide +kernel
theorem d138_15 : decode prog_9_method_8_code 15 = .ok (.iand, 1) := by decide +kernel
theorem d138_16 : decode prog_9_method_8_code 16 = .ok (.ifCond .eq 25, 3) := by decide +kernel
theorem d138_19 : decode prog_9_method_8_code 19 = .ok (.iload_n 2, 1) := by decide +kernel
theorem d138_20 : decode prog_9_method_8_code 20 = .ok (.aload_n 0, 1) := by decide +kernel
theorem d138_21 : decode prog_9_method_8_code 21 = .ok (.getfield 9, 3) := by decide +kernel
theorem d138_24 : decode prog_9_method_8_code 24 = .ok (.iload_n 1, 1) := by decide +kernel
theorem d138_25 : decode prog_9_method_8_code 25 = .ok (.iconst 1, 1) := by decide +kernel
theorem d138_26 : decode prog_9_method_8_code 26 = .ok (.iload_n 3, 1) := by decide +kernel
theorem d138_27 : decode prog_9_method_8_code 27 = .ok (.ishl, 1) := by decide +kernel
theorem d138_28 : decode prog_9_method_8_code 28 = .ok (.ixor, 1) := by decide +kernel
theorem d138_29 : decode prog_9_method_8_code 29 = .ok (.iaload, 1) := by decide +kernel
theorem d138_30 : decode prog_9_method_8_code 30 = .ok (.aload_n 0, 1) := by decide +kernel
theorem d138_31 : decode prog_9_method_8_code 31 = .ok (.iload_n 3, 1) := by decide +kernel
theorem d138_32 : decode prog_9_method_8_code 32 = .ok (.iload_n 1, 1) := by decide +kernel
theorem d138_33 : decode prog_9_method_8_code 33 = .ok (.invokevirtual 74, 3) := by decide +kernel
theorem d138_36 : decode prog_9_method_8_code 36 = .ok (.iadd, 1) := by decide +kernel
theorem d138_37 : decode prog_9_method_8_code 37 = .ok (.invokestatic 78, 3) := by decide +kernel
theorem d138_40 : decode prog_9_method_8_code 40 = .ok (.istore_n 2, 1) := by decide +kernel
theorem d138_41 : decode prog_9_method_8_code 41 = .ok (.iinc 3 1, 3) := by decide +kernel
theorem d138_44 : decode prog_9_method_8_code 44 = .ok (.goto (-39), 3) := by decide +kernel
theorem d138_47 : decode prog_9_method_8_code 47 = .ok (.iload_n 2, 1) := by decide +kernel
theorem d138_48 : decode prog_9_method_8_code 48 = .ok (.ireturn, 1) := by decide +kernel
theorem d139_0 : decode prog_9_method_9_code 0 = .ok (.iconst 0, 1) := by decide +kernel
theorem d139_1 : decode prog_9_method_9_code 1 = .ok (.istore_n 3, 1) := by decide +kernel
theorem d139_2 : decode prog_9_method_9_code 2 = .ok (.aload_n 0, 1) := by decide +kernel
theorem d139_3 : decode prog_9_method_9_code 3 = .ok (.getfield 18, 3) := by decide +kernel
theorem d139_6 : decode prog_9_method_9_code 6 = .ok (.iload_n 1, 1) := by decide +kernel
theorem d139_7 : decode prog_9_method_9_code 7 = .ok (.iaload, 1) := by decide +kernel
theorem d139_8 : decode prog_9_method_9_code 8 = .ok (.iload_n 2, 1) := by decide +kernel
theorem d139_9 : decode prog_9_method_9_code 9 = .ok (.iand, 1) := by decide +kernel
theorem d139_10 : decode prog_9_method_9_code 10 = .ok (.istore 4, 2) := by decide +kernel
theorem d139_12 : decode prog_9_method_9_code 12 = .ok (.iconst 0, 1) := by decide +kernel
theorem d139_13 : decode prog_9_method_9_code 13 = .ok (.istore 5, 2) := by decide +kernel
theorem d139_15 : decode prog_9_method_9_code 15 = .ok (.iload 5, 2) := by decide +kernel
theorem d139_17 : decode prog_9_method_9_code 17 = .ok (.bipush 12, 2) := by decide +kernel
theorem d139_19 : decode prog_9_method_9_code 19 = .ok (.if_icmp .ge 42, 3) := by decide +kernel
theorem d139_22 : decode prog_9_method_9_code 22 = .ok (.iload 4, 2) := by decide +kernel
theorem d139_24 : decode prog_9_method_9_code 24 = .ok (.iload 5, 2) := by decide +kernel
theorem d139_26 : decode prog_9_method_9_code 26 = .ok (.ishr, 1) := by decide +kernel
theorem d139_27 : decode prog_9_method_9_code 27 = .ok (.ifCond .eq 34, 3) := by decide +kernel
theorem d139_30 : decode prog_9_method_9_code 30 = .ok (.iload 4, 2) := by decide +kernel
theorem d139_32 : decode prog_9_method_9_code 32 = .ok (.iload 5, 2) := by decide +kernel
theorem d139_34 : decode prog_9_method_9_code 34 = .ok (.ishr, 1) := by decide +kernel
theorem d139_35 : decode prog_9_method_9_code 35 = .ok (.iconst 1, 1) := by decide +kernel
theorem d139_36 : decode prog_9_method_9_code 36 = .ok (.iand, 1) := by decide +kernel
theorem d139_37 : decode prog_9_method_9_code 37 = .ok (.ifCond .eq 18, 3) := by decide +kernel
theorem d139_40 : decode prog_9_method_9_code 40 = .ok (.iload_n 3, 1) := by decide +kernel
theorem d139_41 : decode prog_9_method_9_code 41 = .ok (.aload_n 0, 1) := by decide +kernel
theorem d139_42 : decode prog_9_method_9_code 42 = .ok (.getfield 15, 3) := by decide +kernel
theorem d139_45 : decode prog_9_method_9_code 45 = .ok (.iload_n 1, 1) := by decide +kernel
theorem d139_46 : decode prog_9_method_9_code 46 = .ok (.bipush 12, 2) := by decide +kernel
theorem d139_48 : decode prog_9_method_9_code 48 = .ok (.imul, 1) := by decide +kernel
theorem d139_49 : decode prog_9_method_9_code 49 = .ok (.iload 5, 2) := by decide +kernel
theorem d139_51 : decode prog_9_method_9_code 51 = .ok (.iadd, 1) := by decide +kernel
theorem d139_52 : decode prog_9_method_9_code 52 = .ok (.iaload, 1) := by decide +kernel
theorem d139_53 : decode prog_9_method_9_code 53 = .ok (.iadd, 1) := by decide +kernel
theorem d139_54 : decode prog_9_method_9_code 54 = .ok (.istore_n 3, 1) := by decide +kernel
theorem d139_55 : decode prog_9_method_9_code 55 = .ok (.iinc 5 1, 3) := by decide +kernel
theorem d139_58 : decode prog_9_method_9_code 58 = .ok (.goto (-43), 3) := by decide +kernel
theorem d139_61 : decode prog_9_method_9_code 61 = .ok (.iload_n 3, 1) := by decide +kernel
theorem d139_62 : decode prog_9_method_9_code 62 = .ok (.ireturn, 1) := by decide +kernel
theorem d140_0 : decode prog_12_method_47_code 0 = .ok (.iload_n 0, 1) := by decide +kernel
theorem d140_1 : decode prog_12_method_47_code 1 = .ok (.iload_n 1, 1) := by decide +kernel
theorem d140_2 : decode prog_12_method_47_code 2 = .ok (.idiv, 1) := by decide +kernel
theorem d140_3 : decode prog_12_method_47_code 3 = .ok (.istore_n 2, 1) := by decide +kernel
theorem d140_4 : decode prog_12_method_47_code 4 = .ok (.iload_n 0, 1) := by decide +kernel
theorem d140_5 : decode prog_12_method_47_code 5 = .ok (.iload_n 1, 1) := by decide +kernel
theorem d140_6 : decode prog_12_method_47_code 6 = .ok (.ixor, 1) := by decide +kernel
theorem d140_7 : decode prog_12_method_47_code 7 = .ok (.ifCond .ge 14, 3) := by decide +kernel
theorem d140_10 : decode prog_12_method_47_code 10 = .ok (.iload_n 2, 1) := by decide +kernel
theorem d140_11 : decode prog_12_method_47_code 11 = .ok (.iload_n 1, 1) := by decide +kernel
theorem d140_12 : decode prog_12_method_47_code 12 = .ok (.imul, 1) := by decide +kernel
theorem d140_13 : decode prog_12_method_47_code 13 = .ok (.iload_n 0, 1) := by decide +kernel
theorem d140_14 : decode prog_12_method_47_code 14 = .ok (.if_icmp .eq 7, 3) := by decide +kernel
theorem d140_17 : decode prog_12_method_47_code 17 = .ok (.iload_n 2, 1) := by decide +kernel
theorem d140_18 : decode prog_12_method_47_code 18 = .ok (.iconst 1, 1) := by decide +kernel
theorem d140_19 : decode prog_12_method_47_code 19 = .ok (.isub, 1) := by decide +kernel
theorem d140_20 : decode prog_12_method_47_code 20 = .ok (.ireturn, 1) := by decide +kernel
theorem d140_21 : decode prog_12_method_47_code 21 = .ok (.iload_n 2, 1) := by decide +kernel
theorem d140_22 : decode prog_12_method_47_code 22 = .ok (.ireturn, 1) := by decide +kernel
theorem d141_0 : decode prog_14_method_103_code 0 = .ok (.iconst 0, 1) := by decide +kernel
theorem d141_1 : decode prog_14_method_103_code 1 = .ok (.istore_n 2, 1) := by decide +kernel
theorem d141_2 : decode prog_14_method_103_code 2 = .ok (.aload_n 0, 1) := by decide +kernel
theorem d141_3 : decode prog_14_method_103_code 3 = .ok (.arraylength, 1) := by decide +kernel
theorem d141_4 : decode prog_14_method_103_code 4 = .ok (.istore_n 3, 1) := by decide +kernel
theorem d141_5 : decode prog_14_method_103_code 5 = .ok (.iload_n 2, 1) := by decide +kernel
theorem d141_6 : decode prog_14_method_103_code 6 = .ok (.iload_n 3, 1) := by decide +kernel
theorem d141_7 : decode prog_14_method_103_code 7 = .ok (.if_icmp .ge 13, 3) := by decide +kernel
theorem d141_10 : decode prog_14_method_103_code 10 = .ok (.aload_n 0, 1) := by decide +kernel
theorem d141_11 : decode prog_14_method_103_code 11 = .ok (.iload_n 2, 1) := by decide +kernel
theorem d141_12 : decode prog_14_method_103_code 12 = .ok (.iload_n 1, 1) := by decide +kernel
theorem d141_13 : decode prog_14_method_103_code 13 = .ok (.iastore, 1) := by decide +kernel
theorem d141_14 : decode prog_14_method_103_code 14 = .ok (.iinc 2 1, 3) := by decide +kernel
theorem d141_17 : decode prog_14_method_103_code 17 = .ok (.goto (-12), 3) := by decide +kernel
theorem d141_20 : decode prog_14_method_103_code 20 = .ok (.return_, 1) := by decide +kernel
