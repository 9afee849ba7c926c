theorem d95_39 : decode prog_4_method_7_code 39 = .ok (.invokevirtual 122, 3) := by decide +kernel
theorem d95_42 : decode prog_4_method_7_code 42 = .ok (.iinc 2 1, 3) := by decide +kernel
theorem d95_45 : decode prog_4_method_7_code 45 = .ok (.goto (-43), 3) := by decide +kernel
theorem d95_48 : decode prog_4_method_7_code 48 = .ok (.aload_n 0, 1) := by decide +kernel
theorem d95_49 : decode prog_4_method_7_code 49 = .ok (.getfield 32, 3) := by decide +kernel
theorem d95_52 : decode prog_4_method_7_code 52 = .ok (.iconst 2, 1) := by decide +kernel
theorem d95_53 : decode prog_4_method_7_code 53 = .ok (.isub, 1) := by decide +kernel
theorem d95_54 : decode prog_4_method_7_code 54 = .ok (.istore_n 2, 1) := by decide +kernel
theorem d95_55 : decode prog_4_method_7_code 55 = .ok (.iload_n 2, 1) := by decide +kernel
theorem d95_56 : decode prog_4_method_7_code 56 = .ok (.ifCond .lt 37, 3) := by decide +kernel
theorem d95_59 : decode prog_4_method_7_code 59 = .ok (.aload_n 0, 1) := by decide +kernel
theorem d95_60 : decode prog_4_method_7_code 60 = .ok (.iload_n 2, 1) := by decide +kernel
theorem d95_61 : decode prog_4_method_7_code 61 = .ok (.aload_n 1, 1) := by decide +kernel
theorem d95_62 : decode prog_4_method_7_code 62 = .ok (.getfield 109, 3) := by decide +kernel
theorem d95_65 : decode prog_4_method_7_code 65 = .ok (.iload_n 2, 1) := by decide +kernel
theorem d95_66 : decode prog_4_method_7_code 66 = .ok (.iaload, 1) := by decide +kernel
theorem d95_67 : decode prog_4_method_7_code 67 = .ok (.aload_n 1, 1) := by decide +kernel
theorem d95_68 : decode prog_4_method_7_code 68 = .ok (.getfield 115, 3) := by decide +kernel
theorem d95_71 : decode prog_4_method_7_code 71 = .ok (.iload_n 2, 1) := by decide +kernel
theorem d95_72 : decode prog_4_method_7_code 72 = .ok (.aaload, 1) := by decide +kernel
theorem d95_73 : decode prog_4_method_7_code 73 = .ok (.aload_n 1, 1) := by decide +kernel
theorem d95_74 : decode prog_4_method_7_code 74 = .ok (.getfield 112, 3) := by decide +kernel
theorem d95_77 : decode prog_4_method_7_code 77 = .ok (.iload_n 2, 1) := by decide +kernel
theorem d95_78 : decode prog_4_method_7_code 78 = .ok (.aaload, 1) := by decide +kernel
theorem d95_79 : decode prog_4_method_7_code 79 = .ok (.invokevirtual 118, 3) := by decide +kernel
theorem d95_82 : decode prog_4_method_7_code 82 = .ok (.aload_n 0, 1) := by decide +kernel
theorem d95_83 : decode prog_4_method_7_code 83 = .ok (.iload_n 2, 1) := by decide +kernel
theorem d95_84 : decode prog_4_method_7_code 84 = .ok (.invokevirtual 122, 3) := by decide +kernel
theorem d95_87 : decode prog_4_method_7_code 87 = .ok (.iinc 2 (-1), 3) := by decide +kernel
theorem d95_90 : decode prog_4_method_7_code 90 = .ok (.goto (-35), 3) := by decide +kernel
theorem d95_93 : decode prog_4_method_7_code 93 = .ok (.return_, 1) := by decide +kernel
theorem d96_0 : decode prog_4_method_8_code 0 = .ok (.iconst 0, 1) := by decide +kernel
theorem d96_1 : decode prog_4_method_8_code 1 = .ok (.istore 5, 2) := by decide +kernel
theorem d96_3 : decode prog_4_method_8_code 3 = .ok (.iload 5, 2) := by decide +kernel
theorem d96_5 : decode prog_4_method_8_code 5 = .ok (.aload_n 0, 1) := by decide +kernel
theorem d96_6 : decode prog_4_method_8_code 6 = .ok (.getfield 9, 3) := by decide +kernel
theorem d96_9 : decode prog_4_method_8_code 9 = .ok (.iload_n 1, 1) := by decide +kernel
theorem d96_10 : decode prog_4_method_8_code 10 = .ok (.iaload, 1) := by decide +kernel
theorem d96_11 : decode prog_4_method_8_code 11 = .ok (.if_icmp .ge 39, 3) := by decide +kernel
theorem d96_14 : decode prog_4_method_8_code 14 = .ok (.aload_n 0, 1) := by decide +kernel
theorem d96_15 : decode prog_4_method_8_code 15 = .ok (.getfield 26, 3) := by decide +kernel
theorem d96_18 : decode prog_4_method_8_code 18 = .ok (.aload_n 0, 1) := by decide +kernel
theorem d96_19 : decode prog_4_method_8_code 19 = .ok (.getfield 17, 3) := by decide +kernel
theorem d96_22 : decode prog_4_method_8_code 22 = .ok (.iload_n 1, 1) := by decide +kernel
theorem d96_23 : decode prog_4_method_8_code 23 = .ok (.aaload, 1) := by decide +kernel
theorem d96_24 : decode prog_4_method_8_code 24 = .ok (.iload 5, 2) := by decide +kernel
theorem d96_26 : decode prog_4_method_8_code 26 = .ok (.iaload, 1) := by decide +kernel
theorem d96_27 : decode prog_4_method_8_code 27 = .ok (.iconst 0, 1) := by decide +kernel
theorem d96_28 : decode prog_4_method_8_code 28 = .ok (.iastore, 1) := by decide +kernel
theorem d96_29 : decode prog_4_method_8_code 29 = .ok (.aload_n 0, 1) := by decide +kernel
theorem d96_30 : decode prog_4_method_8_code 30 = .ok (.getfield 29, 3) := by decide +kernel
theorem d96_33 : decode prog_4_method_8_code 33 = .ok (.aload_n 0, 1) := by decide +kernel
theorem d96_34 : decode prog_4_method_8_code 34 = .ok (.getfield 17, 3) := by decide +kernel
theorem d96_37 : decode prog_4_method_8_code 37 = .ok (.iload_n 1, 1) := by decide +kernel
theorem d96_38 : decode prog_4_method_8_code 38 = .ok (.aaload, 1) := by decide +kernel
theorem d96_39 : decode prog_4_method_8_code 39 = .ok (.iload 5, 2) := by decide +kernel
theorem d96_41 : decode prog_4_method_8_code 41 = .ok (.iaload, 1) := by decide +kernel
theorem d96_42 : decode prog_4_method_8_code 42 = .ok (.iconst 0, 1) := by decide +kernel
theorem d96_43 : decode prog_4_method_8_code 43 = .ok (.iastore, 1) := by decide +kernel
theorem d96_44 : decode prog_4_method_8_code 44 = .ok (.iinc 5 1, 3) := by decide +kernel
theorem d96_47 : decode prog_4_method_8_code 47 = .ok (.goto (-44), 3) := by decide +kernel
theorem d96_50 : decode prog_4_method_8_code 50 = .ok (.iconst 0, 1) := by decide +kernel
theorem d96_51 : decode prog_4_method_8_code 51 = .ok (.istore 5, 2) := by decide +kernel
theorem d96_53 : decode prog_4_method_8_code 53 = .ok (.iload 5, 2) := by decide +kernel
theorem d96_55 : decode prog_4_method_8_code 55 = .ok (.iload_n 2, 1) := by decide +kernel
theorem d96_56 : decode prog_4_method_8_code 56 = .ok (.if_icmp .ge 44, 3) := by decide +kernel
theorem d96_59 : decode prog_4_method_8_code 59 = .ok (.aload_n 0, 1) := by decide +kernel
theorem d96_60 : decode prog_4_method_8_code 60 = .ok (.getfield 26, 3) := by decide +kernel
theorem d96_63 : decode prog_4_method_8_code 63 = .ok (.aload_n 3, 1) := by decide +kernel
theorem d96_64 : decode prog_4_method_8_code 64 = .ok (.iload 5, 2) := by decide +kernel
theorem d96_66 : decode prog_4_method_8_code 66 = .ok (.iaload, 1) := by decide +kernel
theorem d96_67 : decode prog_4_method_8_code 67 = .ok (.dup2, 1) := by decide +kernel
theorem d96_68 : decode prog_4_method_8_code 68 = .ok (.iaload, 1) := by decide +kernel
theorem d96_69 : decode prog_4_method_8_code 69 = .ok (.aload_n 0, 1) := by decide +kernel
theorem d96_70 : decode prog_4_method_8_code 70 = .ok (.getfield 23, 3) := by decide +kernel
theorem d96_73 : decode prog_4_method_8_code 73 = .ok (.aload 4, 2) := by decide +kernel
theorem d96_75 : decode prog_4_method_8_code 75 = .ok (.iload 5, 2) := by decide +kernel
theorem d96_77 : decode prog_4_method_8_code 77 = .ok (.iaload, 1) := by decide +kernel
theorem d96_78 : decode prog_4_method_8_code 78 = .ok (.iaload, 1) := by decide +kernel
theorem d96_79 : decode prog_4_method_8_code 79 = .ok (.iadd, 1) := by decide +kernel
theorem d96_80 : decode prog_4_method_8_code 80 = .ok (.iastore, 1) := by decide +kernel
theorem d96_81 : decode prog_4_method_8_code 81 = .ok (.aload_n 0, 1) := by decide +kernel
theorem d96_82 : decode prog_4_method_8_code 82 = .ok (.getfield 29, 3) := by decide +kernel
theorem d96_85 : decode prog_4_method_8_code 85 = .ok (.aload_n 3, 1) := by decide +kernel
theorem d96_86 : decode prog_4_method_8_code 86 = .ok (.iload 5, 2) := by decide +kernel
theorem d96_88 : decode prog_4_method_8_code 88 = .ok (.iaload, 1) := by decide +kernel
theorem d96_89 : decode prog_4_method_8_code 89 = .ok (.dup2, 1) := by decide +kernel
theorem d96_90 : decode prog_4_method_8_code 90 = .ok (.iaload, 1) := by decide +kernel
theorem d96_91 : decode prog_4_method_8_code 91 = .ok (.iconst 1, 1) := by decide +kernel
theorem d96_92 : decode prog_4_method_8_code 92 = .ok (.iadd, 1) := by decide +kernel
theorem d96_93 : decode prog_4_method_8_code 93 = .ok (.iastore, 1) := by decide +kernel
theorem d96_94 : decode prog_4_method_8_code 94 = .ok (.iinc 5 1, 3) := by decide +kernel
theorem d96_97 : decode prog_4_method_8_code 97 = .ok (.goto (-44), 3) := by decide +kernel
theorem d96_100 : decode prog_4_method_8_code 100 = .ok (.iconst 0, 1) := by decide +kernel
theorem d96_101 : decode prog_4_method_8_code 101 = .ok (.istore 5, 2) := by decide +kernel
theorem d96_103 : decode prog_4_method_8_code 103 = .ok (.iload 5, 2) := by decide +kernel
theorem d96_105 : decode prog_4_method_8_code 105 = .ok (.aload_n 0, 1) := by decide +kernel
theorem d96_106 : decode prog_4_method_8_code 106 = .ok (.getfield 9, 3) := by decide +kernel
theorem d96_109 : decode prog_4_method_8_code 109 = .ok (.iload_n 1, 1) := by decide +kernel
theorem d96_110 : decode prog_4_method_8_code 110 = .ok (.iaload, 1) := by decide +kernel
theorem d96_111 : decode prog_4_method_8_code 111 = .ok (.if_icmp .ge 47, 3) := by decide +kernel
theorem d96_114 : decode prog_4_method_8_code 114 = .ok (.aload_n 0, 1) := by decide +kernel
theorem d96_115 : decode prog_4_method_8_code 115 = .ok (.getfield 17, 3) := by decide +kernel
theorem d96_118 : decode prog_4_method_8_code 118 = .ok (.iload_n 1, 1) := by decide +kernel
theorem d96_119 : decode prog_4_method_8_code 119 = .ok (.aaload, 1) := by decide +kernel
theorem d96_120 : decode prog_4_method_8_code 120 = .ok (.iload 5, 2) := by decide +kernel
theorem d96_122 : decode prog_4_method_8_code 122 = .ok (.iaload, 1) := by decide +kernel
theorem d96_123 : decode prog_4_method_8_code 123 = .ok (.istore 6, 2) := by decide +kernel
theorem d96_125 : decode prog_4_method_8_code 125 = .ok (.aload_n 0, 1) := by decide +kernel
theorem d96_126 : decode prog_4_method_8_code 126 = .ok (.getfield 29, 3) := by decide +kernel
theorem d96_129 : decode prog_4_method_8_code 129 = .ok (.iload 6, 2) := by decide +kernel
theorem d96_131 : decode prog_4_method_8_code 131 = .ok (.iaload, 1) := by decide +kernel
theorem d96_132 : decode prog_4_method_8_code 132 = .ok (.ifCond .ne 20, 3) := by decide +kernel
theorem d96_135 : decode prog_4_method_8_code 135 = .ok (.aload_n 0, 1) := by decide +kernel
theorem d96_136 : decode prog_4_method_8_code 136 = .ok (.getfield 26, 3) := by decide +kernel
theorem d96_139 : decode prog_4_method_8_code 139 = .ok (.iload 6, 2) := by decide +kernel
theorem d96_141 : decode prog_4_method_8_code 141 = .ok (.iload 5, 2) := by decide +kernel
theorem d96_143 : decode prog_4_method_8_code 143 = .ok (.iastore, 1) := by decide +kernel
theorem d96_144 : decode prog_4_method_8_code 144 = .ok (.aload_n 0, 1) := by decide +kernel
theorem d96_145 : decode prog_4_method_8_code 145 = .ok (.getfield 29, 3) := by decide +kernel
theorem d96_148 : decode prog_4_method_8_code 148 = .ok (.iload 6, 2) := by decide +kernel
theorem d96_150 : decode prog_4_method_8_code 150 = .ok (.iconst 1, 1) := by decide +kernel
theorem d96_151 : decode prog_4_method_8_code 151 = .ok (.iastore, 1) := by decide +kernel
theorem d96_152 : decode prog_4_method_8_code 152 = .ok (.iinc 5 1, 3) := by decide +kernel
theorem d96_155 : decode prog_4_method_8_code 155 = .ok (.goto (-52), 3) := by decide +kernel
theorem d96_158 : decode prog_4_method_8_code 158 = .ok (.return_, 1) := by decide +kernel
theorem d97_0 : decode prog_4_method_9_code 0 = .ok (.aload_n 0, 1) := by decide +kernel
theorem d97_1 : decode prog_4_method_9_code 1 = .ok (.getfield 17, 3) := by decide +kernel
theorem d97_4 : decode prog_4_method_9_code 4 = .ok (.iload_n 1, 1) := by decide +kernel
theorem d97_5 : decode prog_4_method_9_code 5 = .ok (.aaload, 1) := by decide +kernel
theorem d97_6 : decode prog_4_method_9_code 6 = .ok (.astore_n 2, 1) := by decide +kernel
theorem d97_7 : decode prog_4_method_9_code 7 = .ok (.iconst 1, 1) := by decide +kernel
theorem d97_8 : decode prog_4_method_9_code 8 = .ok (.istore_n 3, 1) := by decide +kernel
theorem d97_9 : decode prog_4_method_9_code 9 = .ok (.iload_n 3, 1) := by decide +kernel
theorem d97_10 : decode prog_4_method_9_code 10 = .ok (.aload_n 0, 1) := by decide +kernel
theorem d97_11 : decode prog_4_method_9_code 11 = .ok (.getfield 9, 3) := by decide +kernel
theorem d97_14 : decode prog_4_method_9_code 14 = .ok (.iload_n 1, 1) := by decide +kernel
theorem d97_15 : decode prog_4_method_9_code 15 = .ok (.iaload, 1) := by decide +kernel
theorem d97_16 : decode prog_4_method_9_code 16 = .ok (.if_icmp .ge 59, 3) := by decide +kernel
theorem d97_19 : decode prog_4_method_9_code 19 = .ok (.aload_n 2, 1) := by decide +kernel
theorem d97_20 : decode prog_4_method_9_code 20 = .ok (.iload_n 3, 1) := by decide +kernel
theorem d97_21 : decode prog_4_method_9_code 21 = .ok (.iaload, 1) := by decide +kernel
theorem d97_22 : decode prog_4_method_9_code 22 = .ok (.istore 4, 2) := by decide +kernel
theorem d97_24 : decode prog_4_method_9_code 24 = .ok (.iload_n 3, 1) := by decide +kernel
theorem d97_25 : decode prog_4_method_9_code 25 = .ok (.istore 5, 2) := by decide +kernel
theorem d97_27 : decode prog_4_method_9_code 27 = .ok (.iload 5, 2) := by decide +kernel
theorem d97_29 : decode prog_4_method_9_code 29 = .ok (.ifCond .le 34, 3) := by decide +kernel
theorem d97_32 : decode prog_4_method_9_code 32 = .ok (.aload_n 0, 1) := by decide +kernel
theorem d97_33 : decode prog_4_method_9_code 33 = .ok (.iload 4, 2) := by decide +kernel
theorem d97_35 : decode prog_4_method_9_code 35 = .ok (.aload_n 2, 1) := by decide +kernel
theorem d97_36 : decode prog_4_method_9_code 36 = .ok (.iload 5, 2) := by decide +kernel
theorem d97_38 : decode prog_4_method_9_code 38 = .ok (.iconst 1, 1) := by decide +kernel
theorem d97_39 : decode prog_4_method_9_code 39 = .ok (.isub, 1) := by decide +kernel
theorem d97_40 : decode prog_4_method_9_code 40 = .ok (.iaload, 1) := by decide +kernel
theorem d97_41 : decode prog_4_method_9_code 41 = .ok (.invokevirtual 125, 3) := by decide +kernel
theorem d97_44 : decode prog_4_method_9_code 44 = .ok (.ifCond .eq 19, 3) := by decide +kernel
theorem d97_47 : decode prog_4_method_9_code 47 = .ok (.aload_n 2, 1) := by decide +kernel
theorem d97_48 : decode prog_4_method_9_code 48 = .ok (.iload 5, 2) := by decide +kernel
theorem d97_50 : decode prog_4_method_9_code 50 = .ok (.aload_n 2, 1) := by decide +kernel
theorem d97_51 : decode prog_4_method_9_code 51 = .ok (.iload 5, 2) := by decide +kernel
theorem d97_53 : decode prog_4_method_9_code 53 = .ok (.iconst 1, 1) := by decide +kernel
theorem d97_54 : decode prog_4_method_9_code 54 = .ok (.isub, 1) := by decide +kernel
theorem d97_55 : decode prog_4_method_9_code 55 = .ok (.iaload, 1) := by decide +kernel
theorem d97_56 : decode prog_4_method_9_code 56 = .ok (.iastore, 1) := by decide +kernel
theorem d97_57 : decode prog_4_method_9_code 57 = .ok (.iinc 5 (-1), 3) := by decide +kernel
theorem d97_60 : decode prog_4_method_9_code 60 = .ok (.goto (-33), 3) := by decide +kernel
theorem d97_63 : decode prog_4_method_9_code 63 = .ok (.aload_n 2, 1) := by decide +kernel
theorem d97_64 : decode prog_4_method_9_code 64 = .ok (.iload 5, 2) := by decide +kernel
theorem d97_66 : decode prog_4_method_9_code 66 = .ok (.iload 4, 2) := by decide +kernel
theorem d97_68 : decode prog_4_method_9_code 68 = .ok (.iastore, 1) := by decide +kernel
theorem d97_69 : decode prog_4_method_9_code 69 = .ok (.iinc 3 1, 3) := by decide +kernel
theorem d97_72 : decode prog_4_method_9_code 72 = .ok (.goto (-63), 3) := by decide +kernel
theorem d97_75 : decode prog_4_method_9_code 75 = .ok (.aload_n 0, 1) := by decide +kernel
theorem d97_76 : decode prog_4_method_9_code 76 = .ok (.iload_n 1, 1) := by decide +kernel
theorem d97_77 : decode prog_4_method_9_code 77 = .ok (.invokevirtual 58, 3) := by decide +kernel
theorem d97_80 : decode prog_4_method_9_code 80 = .ok (.return_, 1) := by decide +kernel
theorem d98_0 : decode prog_4_method_10_code 0 = .ok (.aload_n 0, 1) := by decide +kernel
theorem d98_1 : decode prog_4_method_10_code 1 = .ok (.getfield 26, 3) := by decide +kernel
theorem d98_4 : decode prog_4_method_10_code 4 = .ok (.iload_n 1, 1) := by decide +kernel
theorem d98_5 : decode prog_4_method_10_code 5 = .ok (.iaload, 1) := by decide +kernel
theorem d98_6 : decode prog_4_method_10_code 6 = .ok (.aload_n 0, 1) := by decide +kernel
theorem d98_7 : decode prog_4_method_10_code 7 = .ok (.getfield 29, 3) := by decide +kernel
theorem d98_10 : decode prog_4_method_10_code 10 = .ok (.iload_n 2, 1) := by decide +kernel
theorem d98_11 : decode prog_4_method_10_code 11 = .ok (.iaload, 1) := by decide +kernel
theorem d98_12 : decode prog_4_method_10_code 12 = .ok (.imul, 1) := by decide +kernel
theorem d98_13 : decode prog_4_method_10_code 13 = .ok (.aload_n 0, 1) := by decide +kernel
theorem d98_14 : decode prog_4_method_10_code 14 = .ok (.getfield 26, 3) := by decide +kernel
theorem d98_17 : decode prog_4_method_10_code 17 = .ok (.iload_n 2, 1) := by decide +kernel
theorem d98_18 : decode prog_4_method_10_code 18 = .ok (.iaload, 1) := by decide +kernel
theorem d98_19 : decode prog_4_method_10_code 19 = .ok (.aload_n 0, 1) := by decide +kernel
theorem d98_20 : decode prog_4_method_10_code 20 = .ok (.getfield 29, 3) := by decide +kernel
theorem d98_23 : decode prog_4_method_10_code 23 = .ok (.iload_n 1, 1) := by decide +kernel
theorem d98_24 : decode prog_4_method_10_code 24 = .ok (.iaload, 1) := by decide +kernel
theorem d98_25 : decode prog_4_method_10_code 25 = .ok (.imul, 1) := by decide +kernel
theorem d98_26 : decode prog_4_method_10_code 26 = .ok (.if_icmp .ge 7, 3) := by decide +kernel
theorem d98_29 : decode prog_4_method_10_code 29 = .ok (.iconst 1, 1) := by decide +kernel
theorem d98_30 : decode prog_4_method_10_code 30 = .ok (.goto 4, 3) := by decide +kernel
theorem d98_33 : decode prog_4_method_10_code 33 = .ok (.iconst 0, 1) := by decide +kernel
theorem d98_34 : decode prog_4_method_10_code 34 = .ok (.ireturn, 1) := by decide +kernel
theorem d99_0 : decode prog_4_method_11_code 0 = .ok (.iconst 0, 1) := by decide +kernel
theorem d99_1 : decode prog_4_method_11_code 1 = .ok (.istore_n 2, 1) := by decide +kernel
theorem d99_2 : decode prog_4_method_11_code 2 = .ok (.iload_n 2, 1) := by decide +kernel
theorem d99_3 : decode prog_4_method_11_code 3 = .ok (.aload_n 0, 1) := by decide +kernel
theorem d99_4 : decode prog_4_method_11_code 4 = .ok (.getfield 9, 3) := by decide +kernel
theorem d99_7 : decode prog_4_method_11_code 7 = .ok (.iload_n 1, 1) := by decide +kernel
theorem d99_8 : decode prog_4_method_11_code 8 = .ok (.iaload, 1) := by decide +kernel
theorem d99_9 : decode prog_4_method_11_code 9 = .ok (.if_icmp .ge 23, 3) := by decide +kernel
theorem d99_12 : decode prog_4_method_11_code 12 = .ok (.aload_n 0, 1) := by decide +kernel
theorem d99_13 : decode prog_4_method_11_code 13 = .ok (.getfield 23, 3) := by decide +kernel
theorem d99_16 : decode prog_4_method_11_code 16 = .ok (.aload_n 0, 1) := by decide +kernel
theorem d99_17 : decode prog_4_method_11_code 17 = .ok (.getfield 17, 3) := by decide +kernel
theorem d99_20 : decode prog_4_method_11_code 20 = .ok (.iload_n 1, 1) := by decide +kernel
theorem d99_21 : decode prog_4_method_11_code 21 = .ok (.aaload, 1) := by decide +kernel
theorem d99_22 : decode prog_4_method_11_code 22 = .ok (.iload_n 2, 1) := by decide +kernel
theorem d99_23 : decode prog_4_method_11_code 23 = .ok (.iaload, 1) := by decide +kernel
theorem d99_24 : decode prog_4_method_11_code 24 = .ok (.iload_n 2, 1) := by decide +kernel
theorem d99_25 : decode prog_4_method_11_code 25 = .ok (.iastore, 1) := by decide +kernel
theorem d99_26 : decode prog_4_method_11_code 26 = .ok (.iinc 2 1, 3) := by decide +kernel
theorem d99_29 : decode prog_4_method_11_code 29 = .ok (.goto (-27), 3) := by decide +kernel
theorem d99_32 : decode prog_4_method_11_code 32 = .ok (.return_, 1) := by decide +kernel
theorem d100_0 : decode prog_4_method_12_code 0 = .ok (.iconst 0, 1) := by decide +kernel
theorem d100_1 : decode prog_4_method_12_code 1 = .ok (.istore_n 2, 1) := by decide +kernel
theorem d100_2 : decode prog_4_method_12_code 2 = .ok (.iconst 0, 1) := by decide +kernel
theorem d100_3 : decode prog_4_method_12_code 3 = .ok (.istore_n 3, 1) := by decide +kernel
theorem d100_4 : decode prog_4_method_12_code 4 = .ok (.iload_n 3, 1) := by decide +kernel
theorem d100_5 : decode prog_4_method_12_code 5 = .ok (.aload_n 0, 1) := by decide +kernel
theorem d100_6 : decode prog_4_method_12_code 6 = .ok (.getfield 32, 3) := by decide +kernel
theorem d100_9 : decode prog_4_method_12_code 9 = .ok (.iconst 1, 1) := by decide +kernel
theorem d100_10 : decode prog_4_method_12_code 10 = .ok (.isub, 1) := by decide +kernel
theorem d100_11 : decode prog_4_method_12_code 11 = .ok (.if_icmp .ge 34, 3) := by decide +kernel
theorem d100_14 : decode prog_4_method_12_code 14 = .ok (.iload_n 2, 1) := by decide +kernel
theorem d100_15 : decode prog_4_method_12_code 15 = .ok (.aload_n 0, 1) := by decide +kernel
theorem d100_16 : decode prog_4_method_12_code 16 = .ok (.aload_n 1, 1) := by decide +kernel
theorem d100_17 : decode prog_4_method_12_code 17 = .ok (.getfield 109, 3) := by decide +kernel
theorem d100_20 : decode prog_4_method_12_code 20 = .ok (.iload_n 3, 1) := by decide +kernel
theorem d100_21 : decode prog_4_method_12_code 21 = .ok (.iaload, 1) := by decide +kernel
theorem d100_22 : decode prog_4_method_12_code 22 = .ok (.aload_n 1, 1) := by decide +kernel
theorem d100_23 : decode prog_4_method_12_code 23 = .ok (.getfield 115, 3) := by decide +kernel
theorem d100_26 : decode prog_4_method_12_code 26 = .ok (.iload_n 3, 1) := by decide +kernel
theorem d100_27 : decode prog_4_method_12_code 27 = .ok (.aaload, 1) := by decide +kernel
theorem d100_28 : decode prog_4_method_12_code 28 = .ok (.aload_n 1, 1) := by decide +kernel
theorem d100_29 : decode prog_4_method_12_code 29 = .ok (.getfield 112, 3) := by decide +kernel
theorem d100_32 : decode prog_4_method_12_code 32 = .ok (.iload_n 3, 1) := by decide +kernel
theorem d100_33 : decode prog_4_method_12_code 33 = .ok (.aaload, 1) := by decide +kernel
theorem d100_34 : decode prog_4_method_12_code 34 = .ok (.invokevirtual 129, 3) := by decide +kernel
theorem d100_37 : decode prog_4_method_12_code 37 = .ok (.iadd, 1) := by decide +kernel
theorem d100_38 : decode prog_4_method_12_code 38 = .ok (.istore_n 2, 1) := by decide +kernel
theorem d100_39 : decode prog_4_method_12_code 39 = .ok (.iinc 3 1, 3) := by decide +kernel
theorem d100_42 : decode prog_4_method_12_code 42 = .ok (.goto (-38), 3) := by decide +kernel
theorem d100_45 : decode prog_4_method_12_code 45 = .ok (.iload_n 2, 1) := by decide +kernel
theorem d100_46 : decode prog_4_method_12_code 46 = .ok (.ireturn, 1) := by decide +kernel
theorem d101_0 : decode prog_4_method_13_code 0 = .ok (.iconst 0, 1) := by decide +kernel
theorem d101_1 : decode prog_4_method_13_code 1 = .ok (.istore 4, 2) := by decide +kernel
theorem d101_3 : decode prog_4_method_13_code 3 = .ok (.iconst 1, 1) := by decide +kernel
theorem d101_4 : decode prog_4_method_13_code 4 = .ok (.istore 5, 2) := by decide +kernel
theorem d101_6 : decode prog_4_method_13_code 6 = .ok (.iload 5, 2) := by decide +kernel
theorem d101_8 : decode prog_4_method_13_code 8 = .ok (.iload_n 1, 1) := by decide +kernel
theorem d101_9 : decode prog_4_method_13_code 9 = .ok (.if_icmp .ge 90, 3) := by decide +kernel
theorem d101_12 : decode prog_4_method_13_code 12 = .ok (.iconst 0, 1) := by decide +kernel
theorem d101_13 : decode prog_4_method_13_code 13 = .ok (.istore 6, 2) := by decide +kernel
theorem d101_15 : decode prog_4_method_13_code 15 = .ok (.iload 6, 2) := by decide +kernel
theorem d101_17 : decode prog_4_method_13_code 17 = .ok (.iload 5, 2) := by decide +kernel
theorem d101_19 : decode prog_4_method_13_code 19 = .ok (.if_icmp .ge 74, 3) := by decide +kernel
theorem d101_22 : decode prog_4_method_13_code 22 = .ok (.aload_n 0, 1) := by decide +kernel
theorem d101_23 : decode prog_4_method_13_code 23 = .ok (.getfield 23, 3) := by decide +kernel
theorem d101_26 : decode prog_4_method_13_code 26 = .ok (.aload_n 2, 1) := by decide +kernel
theorem d101_27 : decode prog_4_method_13_code 27 = .ok (.iload 5, 2) := by decide +kernel
theorem d101_29 : decode prog_4_method_13_code 29 = .ok (.iaload, 1) := by decide +kernel
theorem d101_30 : decode prog_4_method_13_code 30 = .ok (.iaload, 1) := by decide +kernel
theorem d101_31 : decode prog_4_method_13_code 31 = .ok (.aload_n 0, 1) := by decide +kernel
theorem d101_32 : decode prog_4_method_13_code 32 = .ok (.getfield 23, 3) := by decide +kernel
theorem d101_35 : decode prog_4_method_13_code 35 = .ok (.aload_n 2, 1) := by decide +kernel
theorem d101_36 : decode prog_4_method_13_code 36 = .ok (.iload 6, 2) := by decide +kernel
theorem d101_38 : decode prog_4_method_13_code 38 = .ok (.iaload, 1) := by decide +kernel
theorem d101_39 : decode prog_4_method_13_code 39 = .ok (.iaload, 1) := by decide +kernel
theorem d101_40 : decode prog_4_method_13_code 40 = .ok (.isub, 1) := by decide +kernel
theorem d101_41 : decode prog_4_method_13_code 41 = .ok (.istore 7, 2) := by decide +kernel
theorem d101_43 : decode prog_4_method_13_code 43 = .ok (.aload_n 0, 1) := by decide +kernel
theorem d101_44 : decode prog_4_method_13_code 44 = .ok (.getfield 23, 3) := by decide +kernel
theorem d101_47 : decode prog_4_method_13_code 47 = .ok (.aload_n 3, 1) := by decide +kernel
theorem d101_48 : decode prog_4_method_13_code 48 = .ok (.iload 5, 2) := by decide +kernel
theorem d101_50 : decode prog_4_method_13_code 50 = .ok (.iaload, 1) := by decide +kernel
theorem d101_51 : decode prog_4_method_13_code 51 = .ok (.iaload, 1) := by decide +kernel
theorem d101_52 : decode prog_4_method_13_code 52 = .ok (.aload_n 0, 1) := by decide +kernel
theorem d101_53 : decode prog_4_method_13_code 53 = .ok (.getfield 23, 3) := by decide +kernel
theorem d101_56 : decode prog_4_method_13_code 56 = .ok (.aload_n 3, 1) := by decide +kernel
theorem d101_57 : decode prog_4_method_13_code 57 = .ok (.iload 6, 2) := by decide +kernel
theorem d101_59 : decode prog_4_method_13_code 59 = .ok (.iaload, 1) := by decide +kernel
theorem d101_60 : decode prog_4_method_13_code 60 = .ok (.iaload, 1) := by decide +kernel
theorem d101_61 : decode prog_4_method_13_code 61 = .ok (.isub, 1) := by decide +kernel
theorem d101_62 : decode prog_4_method_13_code 62 = .ok (.istore 8, 2) := by decide +kernel
theorem d101_64 : decode prog_4_method_13_code 64 = .ok (.iload 7, 2) := by decide +kernel
theorem d101_66 : decode prog_4_method_13_code 66 = .ok (.ifCond .ge 8, 3) := by decide +kernel
theorem d101_69 : decode prog_4_method_13_code 69 = .ok (.iload 8, 2) := by decide +kernel
theorem d101_71 : decode prog_4_method_13_code 71 = .ok (.ifCond .gt 13, 3) := by decide +kernel
theorem d101_74 : decode prog_4_method_13_code 74 = .ok (.iload 7, 2) := by decide +kernel
theorem d101_76 : decode prog_4_method_13_code 76 = .ok (.ifCond .le 11, 3) := by decide +kernel
theorem d101_79 : decode prog_4_method_13_code 79 = .ok (.iload 8, 2) := by decide +kernel
theorem d101_81 : decode prog_4_method_13_code 81 = .ok (.ifCond .ge 6, 3) := by decide +kernel
theorem d101_84 : decode prog_4_method_13_code 84 = .ok (.iinc 4 1, 3) := by decide +kernel
theorem d101_87 : decode prog_4_method_13_code 87 = .ok (.iinc 6 1, 3) := by decide +kernel
theorem d101_90 : decode prog_4_method_13_code 90 = .ok (.goto (-75), 3) := by decide +kernel
theorem d101_93 : decode prog_4_method_13_code 93 = .ok (.iinc 5 1, 3) := by decide +kernel
theorem d101_96 : decode prog_4_method_13_code 96 = .ok (.goto (-90), 3) := by decide +kernel
theorem d101_99 : decode prog_4_method_13_code 99 = .ok (.iload 4, 2) := by decide +kernel
theorem d101_101 : decode prog_4_method_13_code 101 = .ok (.ireturn, 1) := by decide +kernel
theorem d102_0 : decode prog_5_method_1_code 0 = .ok (.aload_n 0, 1) := by decide +kernel
theorem d102_1 : decode prog_5_method_1_code 1 = .ok (.invokespecial 3, 3) := by decide +kernel
theorem d102_4 : decode prog_5_method_1_code 4 = .ok (.aload_n 0, 1) := by decide +kernel
theorem d102_5 : decode prog_5_method_1_code 5 = .ok (.sipush 720, 3) := by decide +kernel
theorem d102_8 : decode prog_5_method_1_code 8 = .ok (.newarray .int, 2) := by decide +kernel
theorem d102_10 : decode prog_5_method_1_code 10 = .ok (.putfield 9, 3) := by decide +kernel
theorem d102_13 : decode prog_5_method_1_code 13 = .ok (.aload_n 0, 1) := by decide +kernel
theorem d102_14 : decode prog_5_method_1_code 14 = .ok (.sipush 720, 3) := by decide +kernel
theorem d102_17 : decode prog_5_method_1_code 17 = .ok (.newarray .int, 2) := by decide +kernel
theorem d102_19 : decode prog_5_method_1_code 19 = .ok (.putfield 15, 3) := by decide +kernel
theorem d102_22 : decode prog_5_method_1_code 22 = .ok (.aload_n 0, 1) := by decide +kernel
theorem d102_23 : decode prog_5_method_1_code 23 = .ok (.bipush 6, 2) := by decide +kernel
theorem d102_25 : decode prog_5_method_1_code 25 = .ok (.newarray .int, 2) := by decide +kernel
theorem d102_27 : decode prog_5_method_1_code 27 = .ok (.putfield 18, 3) := by decide +kernel
theorem d102_30 : decode prog_5_method_1_code 30 = .ok (.aload_n 0, 1) := by decide +kernel
theorem d102_31 : decode prog_5_method_1_code 31 = .ok (.bipush 6, 2) := by decide +kernel
theorem d102_33 : decode prog_5_method_1_code 33 = .ok (.newarray .int, 2) := by decide +kernel
theorem d102_35 : decode prog_5_method_1_code 35 = .ok (.putfield 21, 3) := by decide +kernel
theorem d102_38 : decode prog_5_method_1_code 38 = .ok (.aload_n 0, 1) := by decide +kernel
theorem d102_39 : decode prog_5_method_1_code 39 = .ok (.bipush 6, 2) := by decide +kernel
theorem d102_41 : decode prog_5_method_1_code 41 = .ok (.newarray .int, 2) := by decide +kernel
theorem d102_43 : decode prog_5_method_1_code 43 = .ok (.putfield 24, 3) := by decide +kernel
theorem d102_46 : decode prog_5_method_1_code 46 = .ok (.aload_n 0, 1) := by decide +kernel
theorem d102_47 : decode prog_5_method_1_code 47 = .ok (.bipush 36, 2) := by decide +kernel
theorem d102_49 : decode prog_5_method_1_code 49 = .ok (.newarray .int, 2) := by decide +kernel
theorem d102_51 : decode prog_5_method_1_code 51 = .ok (.putfield 27, 3) := by decide +kernel
theorem d102_54 : decode prog_5_method_1_code 54 = .ok (.aload_n 0, 1) := by decide +kernel
theorem d102_55 : decode prog_5_method_1_code 55 = .ok (.iconst 0, 1) := by decide +kernel
theorem d102_56 : decode prog_5_method_1_code 56 = .ok (.putfield 30, 3) := by decide +kernel
theorem d102_59 : decode prog_5_method_1_code 59 = .ok (.return_, 1) := by decide +kernel
theorem d103_0 : decode prog_5_method_2_code 0 = .ok (.aload_n 2, 1) := by decide +kernel
theorem d103_1 : decode prog_5_method_2_code 1 = .ok (.invokestatic 34, 3) := by decide +kernel
theorem d103_4 : decode prog_5_method_2_code 4 = .ok (.ifCond .eq 10, 3) := by decide +kernel
theorem d103_7 : decode prog_5_method_2_code 7 = .ok (.aload_n 0, 1) := by decide +kernel
theorem d103_8 : decode prog_5_method_2_code 8 = .ok (.bipush (-4), 2) := by decide +kernel
theorem d103_10 : decode prog_5_method_2_code 10 = .ok (.putfield 30, 3) := by decide +kernel
theorem d103_13 : decode prog_5_method_2_code 13 = .ok (.return_, 1) := by decide +kernel
theorem d103_14 : decode prog_5_method_2_code 14 = .ok (.aload_n 0, 1) := by decide +kernel
theorem d103_15 : decode prog_5_method_2_code 15 = .ok (.getfield 9, 3) := by decide +kernel
theorem d103_18 : decode prog_5_method_2_code 18 = .ok (.iconst 0, 1) := by decide +kernel
theorem d103_19 : decode prog_5_method_2_code 19 = .ok (.invokestatic 38, 3) := by decide +kernel
theorem d103_22 : decode prog_5_method_2_code 22 = .ok (.iconst 0, 1) := by decide +kernel
theorem d103_23 : decode prog_5_method_2_code 23 = .ok (.istore_n 3, 1) := by decide +kernel
theorem d103_24 : decode prog_5_method_2_code 24 = .ok (.iload_n 3, 1) := by decide +kernel
theorem d103_25 : decode prog_5_method_2_code 25 = .ok (.aload_n 2, 1) := by decide +kernel
theorem d103_26 : decode prog_5_method_2_code 26 = .ok (.getfield 44, 3) := by decide +kernel
theorem d103_29 : decode prog_5_method_2_code 29 = .ok (.iconst 1, 1) := by decide +kernel
theorem d103_30 : decode prog_5_method_2_code 30 = .ok (.isub, 1) := by decide +kernel
theorem d103_31 : decode prog_5_method_2_code 31 = .ok (.if_icmp .ge 16, 3) := by decide +kernel
theorem d103_34 : decode prog_5_method_2_code 34 = .ok (.aload_n 0, 1) := by decide +kernel
theorem d103_35 : decode prog_5_method_2_code 35 = .ok (.aload_n 1, 1) := by decide +kernel
theorem d103_36 : decode prog_5_method_2_code 36 = .ok (.aload_n 2, 1) := by decide +kernel
theorem d103_37 : decode prog_5_method_2_code 37 = .ok (.iload_n 3, 1) := by decide +kernel
theorem d103_38 : decode prog_5_method_2_code 38 = .ok (.invokevirtual 49, 3) := by decide +kernel
theorem d103_41 : decode prog_5_method_2_code 41 = .ok (.iinc 3 1, 3) := by decide +kernel
theorem d103_44 : decode prog_5_method_2_code 44 = .ok (.goto (-20), 3) := by decide +kernel
theorem d103_47 : decode prog_5_method_2_code 47 = .ok (.aload_n 0, 1) := by decide +kernel
theorem d103_48 : decode prog_5_method_2_code 48 = .ok (.iconst 0, 1) := by decide +kernel
theorem d103_49 : decode prog_5_method_2_code 49 = .ok (.putfield 30, 3) := by decide +kernel
theorem d103_52 : decode prog_5_method_2_code 52 = .ok (.aload_n 2, 1) := by decide +kernel
theorem d103_53 : decode prog_5_method_2_code 53 = .ok (.getfield 44, 3) := by decide +kernel
theorem d103_56 : decode prog_5_method_2_code 56 = .ok (.ifCond .le 25, 3) := by decide +kernel
theorem d103_59 : decode prog_5_method_2_code 59 = .ok (.aload_n 0, 1) := by decide +kernel
theorem d103_60 : decode prog_5_method_2_code 60 = .ok (.aload_n 0, 1) := by decide +kernel
theorem d103_61 : decode prog_5_method_2_code 61 = .ok (.aload_n 2, 1) := by decide +kernel
theorem d103_62 : decode prog_5_method_2_code 62 = .ok (.getfield 53, 3) := by decide +kernel
theorem d103_65 : decode prog_5_method_2_code 65 = .ok (.aload_n 2, 1) := by decide +kernel
theorem d103_66 : decode prog_5_method_2_code 66 = .ok (.getfield 44, 3) := by decide +kernel
theorem d103_69 : decode prog_5_method_2_code 69 = .ok (.iconst 1, 1) := by decide +kernel
theorem d103_70 : decode prog_5_method_2_code 70 = .ok (.isub, 1) := by decide +kernel
theorem d103_71 : decode prog_5_method_2_code 71 = .ok (.iaload, 1) := by decide +kernel
theorem d103_72 : decode prog_5_method_2_code 72 = .ok (.invokestatic 56, 3) := by decide +kernel
theorem d103_75 : decode prog_5_method_2_code 75 = .ok (.invokevirtual 60, 3) := by decide +kernel
theorem d103_78 : decode prog_5_method_2_code 78 = .ok (.putfield 30, 3) := by decide +kernel
theorem d103_81 : decode prog_5_method_2_code 81 = .ok (.return_, 1) := by decide +kernel
theorem d104_0 : decode prog_5_method_3_code 0 = .ok (.iconst 1, 1) := by decide +kernel
theorem d104_1 : decode prog_5_method_3_code 1 = .ok (.istore_n 1, 1) := by decide +kernel
theorem d104_2 : decode prog_5_method_3_code 2 = .ok (.iconst 0, 1) := by decide +kernel
theorem d104_3 : decode prog_5_method_3_code 3 = .ok (.istore_n 2, 1) := by decide +kernel
theorem d104_4 : decode prog_5_method_3_code 4 = .ok (.iload_n 2, 1) := by decide +kernel
theorem d104_5 : decode prog_5_method_3_code 5 = .ok (.aload_n 0, 1) := by decide +kernel
theorem d104_6 : decode prog_5_method_3_code 6 = .ok (.getfield 44, 3) := by decide +kernel
theorem d104_9 : decode prog_5_method_3_code 9 = .ok (.if_icmp .ge 40, 3) := by decide +kernel
theorem d104_12 : decode prog_5_method_3_code 12 = .ok (.iconst 2, 1) := by decide +kernel
theorem d104_13 : decode prog_5_method_3_code 13 = .ok (.istore_n 3, 1) := by decide +kernel
theorem d104_14 : decode prog_5_method_3_code 14 = .ok (.iload_n 3, 1) := by decide +kernel
theorem d104_15 : decode prog_5_method_3_code 15 = .ok (.aload_n 0, 1) := by decide +kernel
theorem d104_16 : decode prog_5_method_3_code 16 = .ok (.getfield 53, 3) := by decide +kernel
theorem d104_19 : decode prog_5_method_3_code 19 = .ok (.iload_n 2, 1) := by decide +kernel
theorem d104_20 : decode prog_5_method_3_code 20 = .ok (.iaload, 1) := by decide +kernel
theorem d104_21 : decode prog_5_method_3_code 21 = .ok (.if_icmp .gt 22, 3) := by decide +kernel
theorem d104_24 : decode prog_5_method_3_code 24 = .ok (.iload_n 1, 1) := by decide +kernel
theorem d104_25 : decode prog_5_method_3_code 25 = .ok (.iload_n 3, 1) := by decide +kernel
theorem d104_26 : decode prog_5_method_3_code 26 = .ok (.imul, 1) := by decide +kernel
theorem d104_27 : decode prog_5_method_3_code 27 = .ok (.istore_n 1, 1) := by decide +kernel
theorem d104_28 : decode prog_5_method_3_code 28 = .ok (.iload_n 1, 1) := by decide +kernel
theorem d104_29 : decode prog_5_method_3_code 29 = .ok (.sipush 5000, 3) := by decide +kernel
theorem d104_32 : decode prog_5_method_3_code 32 = .ok (.if_icmp .le 5, 3) := by decide +kernel
theorem d104_35 : decode prog_5_method_3_code 35 = .ok (.iconst 1, 1) := by decide +kernel
theorem d104_36 : decode prog_5_method_3_code 36 = .ok (.ireturn, 1) := by decide +kernel
theorem d104_37 : decode prog_5_method_3_code 37 = .ok (.iinc 3 1, 3) := by decide +kernel
theorem d104_40 : decode prog_5_method_3_code 40 = .ok (.goto (-26), 3) := by decide +kernel
theorem d104_43 : decode prog_5_method_3_code 43 = .ok (.iinc 2 1, 3) := by decide +kernel
theorem d104_46 : decode prog_5_method_3_code 46 = .ok (.goto (-42), 3) := by decide +kernel
theorem d104_49 : decode prog_5_method_3_code 49 = .ok (.iconst 0, 1) := by decide +kernel
theorem d104_50 : decode prog_5_method_3_code 50 = .ok (.ireturn, 1) := by decide +kernel
theorem d105_0 : decode prog_5_method_4_code 0 = .ok (.iconst 1, 1) := by decide +kernel
theorem d105_1 : decode prog_5_method_4_code 1 = .ok (.istore_n 1, 1) := by decide +kernel
theorem d105_2 : decode prog_5_method_4_code 2 = .ok (.iconst 2, 1) := by decide +kernel
theorem d105_3 : decode prog_5_method_4_code 3 = .ok (.istore_n 2, 1) := by decide +kernel
theorem d105_4 : decode prog_5_method_4_code 4 = .ok (.iload_n 2, 1) := by decide +kernel
theorem d105_5 : decode prog_5_method_4_code 5 = .ok (.iload_n 0, 1) := by decide +kernel
theorem d105_6 : decode prog_5_method_4_code 6 = .ok (.if_icmp .gt 13, 3) := by decide +kernel
theorem d105_9 : decode prog_5_method_4_code 9 = .ok (.iload_n 1, 1) := by decide +kernel
theorem d105_10 : decode prog_5_method_4_code 10 = .ok (.iload_n 2, 1) := by decide +kernel
theorem d105_11 : decode prog_5_method_4_code 11 = .ok (.imul, 1) := by decide +kernel
theorem d105_12 : decode prog_5_method_4_code 12 = .ok (.istore_n 1, 1) := by decide +kernel
theorem d105_13 : decode prog_5_method_4_code 13 = .ok (.iinc 2 1, 3) := by decide +kernel
theorem d105_16 : decode prog_5_method_4_code 16 = .ok (.goto (-12), 3) := by decide +kernel
theorem d105_19 : decode prog_5_method_4_code 19 = .ok (.iload_n 1, 1) := by decide +kernel
theorem d105_20 : decode prog_5_method_4_code 20 = .ok (.ireturn, 1) := by decide +kernel
theorem d106_0 : decode prog_5_method_5_code 0 = .ok (.aload_n 0, 1) := by decide +kernel
theorem d106_1 : decode prog_5_method_5_code 1 = .ok (.getfield 9, 3) := by decide +kernel
theorem d106_4 : decode prog_5_method_5_code 4 = .ok (.iconst 0, 1) := by decide +kernel
theorem d106_5 : decode prog_5_method_5_code 5 = .ok (.iaload, 1) := by decide +kernel
theorem d106_6 : decode prog_5_method_5_code 6 = .ok (.istore_n 2, 1) := by decide +kernel
theorem d106_7 : decode prog_5_method_5_code 7 = .ok (.iconst 1, 1) := by decide +kernel
theorem d106_8 : decode prog_5_method_5_code 8 = .ok (.istore_n 3, 1) := by decide +kernel
theorem d106_9 : decode prog_5_method_5_code 9 = .ok (.iload_n 3, 1) := by decide +kernel
theorem d106_10 : decode prog_5_method_5_code 10 = .ok (.iload_n 1, 1) := by decide +kernel
theorem d106_11 : decode prog_5_method_5_code 11 = .ok (.if_icmp .ge 20, 3) := by decide +kernel
theorem d106_14 : decode prog_5_method_5_code 14 = .ok (.iload_n 2, 1) := by decide +kernel
theorem d106_15 : decode prog_5_method_5_code 15 = .ok (.aload_n 0, 1) := by decide +kernel
theorem d106_16 : decode prog_5_method_5_code 16 = .ok (.getfield 9, 3) := by decide +kernel
theorem d106_19 : decode prog_5_method_5_code 19 = .ok (.iload_n 3, 1) := by decide +kernel
theorem d106_20 : decode prog_5_method_5_code 20 = .ok (.iaload, 1) := by decide +kernel
theorem d106_21 : decode prog_5_method_5_code 21 = .ok (.invokestatic 63, 3) := by decide +kernel
theorem d106_24 : decode prog_5_method_5_code 24 = .ok (.istore_n 2, 1) := by decide +kernel
theorem d106_25 : decode prog_5_method_5_code 25 = .ok (.iinc 3 1, 3) := by decide +kernel
theorem d106_28 : decode prog_5_method_5_code 28 = .ok (.goto (-19), 3) := by decide +kernel
theorem d106_31 : decode prog_5_method_5_code 31 = .ok (.iload_n 2, 1) := by decide +kernel
theorem d106_32 : decode prog_5_method_5_code 32 = .ok (.ireturn, 1) := by decide +kernel
theorem d107_0 : decode prog_5_method_6_code 0 = .ok (.aload_n 2, 1) := by decide +kernel
theorem d107_1 : decode prog_5_method_6_code 1 = .ok (.getfield 53, 3) := by decide +kernel
theorem d107_4 : decode prog_5_method_6_code 4 = .ok (.iload_n 3, 1) := by decide +kernel
theorem d107_5 : decode prog_5_method_6_code 5 = .ok (.iaload, 1) := by decide +kernel
theorem d107_6 : decode prog_5_method_6_code 6 = .ok (.istore 4, 2) := by decide +kernel
theorem d107_8 : decode prog_5_method_6_code 8 = .ok (.aload_n 2, 1) := by decide +kernel
theorem d107_9 : decode prog_5_method_6_code 9 = .ok (.getfield 53, 3) := by decide +kernel
theorem d107_12 : decode prog_5_method_6_code 12 = .ok (.iload_n 3, 1) := by decide +kernel
theorem d107_13 : decode prog_5_method_6_code 13 = .ok (.iconst 1, 1) := by decide +kernel
theorem d107_14 : decode prog_5_method_6_code 14 = .ok (.iadd, 1) := by decide +kernel
theorem d107_15 : decode prog_5_method_6_code 15 = .ok (.iaload, 1) := by decide +kernel
theorem d107_16 : decode prog_5_method_6_code 16 = .ok (.istore 5, 2) := by decide +kernel
theorem d107_18 : decode prog_5_method_6_code 18 = .ok (.iload 4, 2) := by decide +kernel
theorem d107_20 : decode prog_5_method_6_code 20 = .ok (.invokestatic 56, 3) := by decide +kernel
theorem d107_23 : decode prog_5_method_6_code 23 = .ok (.istore 6, 2) := by decide +kernel
theorem d107_25 : decode prog_5_method_6_code 25 = .ok (.iload 5, 2) := by decide +kernel
theorem d107_27 : decode prog_5_method_6_code 27 = .ok (.invokestatic 56, 3) := by decide +kernel
theorem d107_30 : decode prog_5_method_6_code 30 = .ok (.istore 7, 2) := by decide +kernel
theorem d107_32 : decode prog_5_method_6_code 32 = .ok (.aload_n 0, 1) := by decide +kernel
theorem d107_33 : decode prog_5_method_6_code 33 = .ok (.getfield 15, 3) := by decide +kernel
theorem d107_36 : decode prog_5_method_6_code 36 = .ok (.ldc 71, 2) := by decide +kernel
theorem d107_38 : decode prog_5_method_6_code 38 = .ok (.invokestatic 38, 3) := by decide +kernel
theorem d107_41 : decode prog_5_method_6_code 41 = .ok (.aload_n 0, 1) := by decide +kernel
theorem d107_42 : decode prog_5_method_6_code 42 = .ok (.getfield 18, 3) := by decide +kernel
theorem d107_45 : decode prog_5_method_6_code 45 = .ok (.invokestatic 72, 3) := by decide +kernel
theorem d107_48 : decode prog_5_method_6_code 48 = .ok (.iconst 0, 1) := by decide +kernel
theorem d107_49 : decode prog_5_method_6_code 49 = .ok (.istore 8, 2) := by decide +kernel
theorem d107_51 : decode prog_5_method_6_code 51 = .ok (.iload 8, 2) := by decide +kernel
theorem d107_53 : decode prog_5_method_6_code 53 = .ok (.iload 6, 2) := by decide +kernel
theorem d107_55 : decode prog_5_method_6_code 55 = .ok (.if_icmp .ge 88, 3) := by decide +kernel
theorem d107_58 : decode prog_5_method_6_code 58 = .ok (.aload_n 0, 1) := by decide +kernel
theorem d107_59 : decode prog_5_method_6_code 59 = .ok (.aload_n 1, 1) := by decide +kernel
theorem d107_60 : decode prog_5_method_6_code 60 = .ok (.aload_n 2, 1) := by decide +kernel
theorem d107_61 : decode prog_5_method_6_code 61 = .ok (.iload_n 3, 1) := by decide +kernel
theorem d107_62 : decode prog_5_method_6_code 62 = .ok (.invokevirtual 76, 3) := by decide +kernel
theorem d107_65 : decode prog_5_method_6_code 65 = .ok (.aload_n 0, 1) := by decide +kernel
theorem d107_66 : decode prog_5_method_6_code 66 = .ok (.getfield 24, 3) := by decide +kernel
theorem d107_69 : decode prog_5_method_6_code 69 = .ok (.invokestatic 72, 3) := by decide +kernel
theorem d107_72 : decode prog_5_method_6_code 72 = .ok (.iconst 0, 1) := by decide +kernel
theorem d107_73 : decode prog_5_method_6_code 73 = .ok (.istore 9, 2) := by decide +kernel
theorem d107_75 : decode prog_5_method_6_code 75 = .ok (.iload 9, 2) := by decide +kernel
theorem d107_77 : decode prog_5_method_6_code 77 = .ok (.iload 7, 2) := by decide +kernel
theorem d107_79 : decode prog_5_method_6_code 79 = .ok (.if_icmp .ge 49, 3) := by decide +kernel
theorem d107_82 : decode prog_5_method_6_code 82 = .ok (.aload_n 0, 1) := by decide +kernel
theorem d107_83 : decode prog_5_method_6_code 83 = .ok (.getfield 15, 3) := by decide +kernel
theorem d107_86 : decode prog_5_method_6_code 86 = .ok (.iload 9, 2) := by decide +kernel
theorem d107_88 : decode prog_5_method_6_code 88 = .ok (.aload_n 0, 1) := by decide +kernel
theorem d107_89 : decode prog_5_method_6_code 89 = .ok (.getfield 15, 3) := by decide +kernel
theorem d107_92 : decode prog_5_method_6_code 92 = .ok (.iload 9, 2) := by decide +kernel
theorem d107_94 : decode prog_5_method_6_code 94 = .ok (.iaload, 1) := by decide +kernel
theorem d107_95 : decode prog_5_method_6_code 95 = .ok (.aload_n 0, 1) := by decide +kernel
theorem d107_96 : decode prog_5_method_6_code 96 = .ok (.getfield 9, 3) := by decide +kernel
theorem d107_99 : decode prog_5_method_6_code 99 = .ok (.iload 8, 2) := by decide +kernel
theorem d107_101 : decode prog_5_method_6_code 101 = .ok (.iaload, 1) := by decide +kernel
theorem d107_102 : decode prog_5_method_6_code 102 = .ok (.aload_n 0, 1) := by decide +kernel
theorem d107_103 : decode prog_5_method_6_code 103 = .ok (.iload 5, 2) := by decide +kernel
theorem d107_105 : decode prog_5_method_6_code 105 = .ok (.invokevirtual 79, 3) := by decide +kernel
theorem d107_108 : decode prog_5_method_6_code 108 = .ok (.iadd, 1) := by decide +kernel
theorem d107_109 : decode prog_5_method_6_code 109 = .ok (.invokestatic 63, 3) := by decide +kernel
theorem d107_112 : decode prog_5_method_6_code 112 = .ok (.iastore, 1) := by decide +kernel
theorem d107_113 : decode prog_5_method_6_code 113 = .ok (.aload_n 0, 1) := by decide +kernel
theorem d107_114 : decode prog_5_method_6_code 114 = .ok (.getfield 24, 3) := by decide +kernel
theorem d107_117 : decode prog_5_method_6_code 117 = .ok (.iload 5, 2) := by decide +kernel
theorem d107_119 : decode prog_5_method_6_code 119 = .ok (.invokestatic 82, 3) := by decide +kernel
theorem d107_122 : decode prog_5_method_6_code 122 = .ok (.iinc 9 1, 3) := by decide +kernel
theorem d107_125 : decode prog_5_method_6_code 125 = .ok (.goto (-50), 3) := by decide +kernel
theorem d107_128 : decode prog_5_method_6_code 128 = .ok (.aload_n 0, 1) := by decide +kernel
theorem d107_129 : decode prog_5_method_6_code 129 = .ok (.getfield 18, 3) := by decide +kernel
theorem d107_132 : decode prog_5_method_6_code 132 = .ok (.iload 4, 2) := by decide +kernel
theorem d107_134 : decode prog_5_method_6_code 134 = .ok (.invokestatic 82, 3) := by decide +kernel
theorem d107_137 : decode prog_5_method_6_code 137 = .ok (.iinc 8 1, 3) := by decide +kernel
theorem d107_140 : decode prog_5_method_6_code 140 = .ok (.goto (-89), 3) := by decide +kernel
theorem d107_143 : decode prog_5_method_6_code 143 = .ok (.aload_n 0, 1) := by decide +kernel
theorem d107_144 : decode prog_5_method_6_code 144 = .ok (.getfield 15, 3) := by decide +kernel
theorem d107_147 : decode prog_5_method_6_code 147 = .ok (.iconst 0, 1) := by decide +kernel
theorem d107_148 : decode prog_5_method_6_code 148 = .ok (.aload_n 0, 1) := by decide +kernel
theorem d107_149 : decode prog_5_method_6_code 149 = .ok (.getfield 9, 3) := by decide +kernel
theorem d107_152 : decode prog_5_method_6_code 152 = .ok (.iconst 0, 1) := by decide +kernel
theorem d107_153 : decode prog_5_method_6_code 153 = .ok (.iload 7, 2) := by decide +kernel
theorem d107_155 : decode prog_5_method_6_code 155 = .ok (.invokestatic 85, 3) := by decide +kernel
theorem d107_158 : decode prog_5_method_6_code 158 = .ok (.return_, 1) := by decide +kernel
theorem d108_0 : decode prog_5_method_7_code 0 = .ok (.aload_n 0, 1) := by decide +kernel
theorem d108_1 : decode prog_5_method_7_code 1 = .ok (.getfield 27, 3) := by decide +kernel
theorem d108_4 : decode prog_5_method_7_code 4 = .ok (.iconst 0, 1) := by decide +kernel
theorem d108_5 : decode prog_5_method_7_code 5 = .ok (.invokestatic 38, 3) := by decide +kernel
theorem d108_8 : decode prog_5_method_7_code 8 = .ok (.iconst 0, 1) := by decide +kernel
theorem d108_9 : decode prog_5_method_7_code 9 = .ok (.istore 4, 2) := by decide +kernel
theorem d108_11 : decode prog_5_method_7_code 11 = .ok (.iload 4, 2) := by decide +kernel
theorem d108_13 : decode prog_5_method_7_code 13 = .ok (.bipush 6, 2) := by decide +kernel
theorem d108_15 : decode prog_5_method_7_code 15 = .ok (.if_icmp .ge 23, 3) := by decide +kernel
theorem d108_18 : decode prog_5_method_7_code 18 = .ok (.aload_n 0, 1) := by decide +kernel
theorem d108_19 : decode prog_5_method_7_code 19 = .ok (.getfield 21, 3) := by decide +kernel
theorem d108_22 : decode prog_5_method_7_code 22 = .ok (.aload_n 0, 1) := by decide +kernel
theorem d108_23 : decode prog_5_method_7_code 23 = .ok (.getfield 18, 3) := by decide +kernel
theorem d108_26 : decode prog_5_method_7_code 26 = .ok (.iload 4, 2) := by decide +kernel
theorem d108_28 : decode prog_5_method_7_code 28 = .ok (.iaload, 1) := by decide +kernel
theorem d108_29 : decode prog_5_method_7_code 29 = .ok (.iload 4, 2) := by decide +kernel
theorem d108_31 : decode prog_5_method_7_code 31 = .ok (.iastore, 1) := by decide +kernel
theorem d108_32 : decode prog_5_method_7_code 32 = .ok (.iinc 4 1, 3) := by decide +kernel
theorem d108_35 : decode prog_5_method_7_code 35 = .ok (.goto (-24), 3) := by decide +kernel
theorem d108_38 : decode prog_5_method_7_code 38 = .ok (.aload_n 1, 1) := by decide +kernel
theorem d108_39 : decode prog_5_method_7_code 39 = .ok (.getfield 91, 3) := by decide +kernel
theorem d108_42 : decode prog_5_method_7_code 42 = .ok (.iload_n 3, 1) := by decide +kernel
theorem d108_43 : decode prog_5_method_7_code 43 = .ok (.aaload, 1) := by decide +kernel
theorem d108_44 : decode prog_5_method_7_code 44 = .ok (.astore 4, 2) := by decide +kernel
theorem d108_46 : decode prog_5_method_7_code 46 = .ok (.aload_n 1, 1) := by decide +kernel
theorem d108_47 : decode prog_5_method_7_code 47 = .ok (.getfield 97, 3) := by decide +kernel
theorem d108_50 : decode prog_5_method_7_code 50 = .ok (.iload_n 3, 1) := by decide +kernel
theorem d108_51 : decode prog_5_method_7_code 51 = .ok (.aaload, 1) := by decide +kernel
theorem d108_52 : decode prog_5_method_7_code 52 = .ok (.astore 5, 2) := by decide +kernel
theorem d108_54 : decode prog_5_method_7_code 54 = .ok (.iconst 0, 1) := by decide +kernel
theorem d108_55 : decode prog_5_method_7_code 55 = .ok (.istore 6, 2) := by decide +kernel
theorem d108_57 : decode prog_5_method_7_code 57 = .ok (.iload 6, 2) := by decide +kernel
theorem d108_59 : decode prog_5_method_7_code 59 = .ok (.aload_n 1, 1) := by decide +kernel
theorem d108_60 : decode prog_5_method_7_code 60 = .ok (.getfield 100, 3) := by decide +kernel
theorem d108_63 : decode prog_5_method_7_code 63 = .ok (.iload_n 3, 1) := by decide +kernel
theorem d108_64 : decode prog_5_method_7_code 64 = .ok (.iaload, 1) := by decide +kernel
theorem d108_65 : decode prog_5_method_7_code 65 = .ok (.if_icmp .ge 95, 3) := by decide +kernel
theorem d108_68 : decode prog_5_method_7_code 68 = .ok (.iconst 0, 1) := by decide +kernel
theorem d108_69 : decode prog_5_method_7_code 69 = .ok (.istore 7, 2) := by decide +kernel
theorem d108_71 : decode prog_5_method_7_code 71 = .ok (.iload 7, 2) := by decide +kernel
theorem d108_73 : decode prog_5_method_7_code 73 = .ok (.aload_n 1, 1) := by decide +kernel
theorem d108_74 : decode prog_5_method_7_code 74 = .ok (.getfield 100, 3) := by decide +kernel
theorem d108_77 : decode prog_5_method_7_code 77 = .ok (.iload_n 3, 1) := by decide +kernel
theorem d108_78 : decode prog_5_method_7_code 78 = .ok (.iaload, 1) := by decide +kernel
theorem d108_79 : decode prog_5_method_7_code 79 = .ok (.if_icmp .ge 75, 3) := by decide +kernel
theorem d108_82 : decode prog_5_method_7_code 82 = .ok (.aload_n 0, 1) := by decide +kernel
theorem d108_83 : decode prog_5_method_7_code 83 = .ok (.getfield 21, 3) := by decide +kernel
theorem d108_86 : decode prog_5_method_7_code 86 = .ok (.aload_n 2, 1) := by decide +kernel
theorem d108_87 : decode prog_5_method_7_code 87 = .ok (.getfield 103, 3) := by decide +kernel
theorem d108_90 : decode prog_5_method_7_code 90 = .ok (.aload 4, 2) := by decide +kernel
theorem d108_92 : decode prog_5_method_7_code 92 = .ok (.iload 6, 2) := by decide +kernel
theorem d108_94 : decode prog_5_method_7_code 94 = .ok (.iaload, 1) := by decide +kernel
theorem d108_95 : decode prog_5_method_7_code 95 = .ok (.iaload, 1) := by decide +kernel
theorem d108_96 : decode prog_5_method_7_code 96 = .ok (.iaload, 1) := by decide +kernel
theorem d108_97 : decode prog_5_method_7_code 97 = .ok (.aload_n 0, 1) := by decide +kernel
theorem d108_98 : decode prog_5_method_7_code 98 = .ok (.getfield 21, 3) := by decide +kernel
theorem d108_101 : decode prog_5_method_7_code 101 = .ok (.aload_n 2, 1) := by decide +kernel
theorem d108_102 : decode prog_5_method_7_code 102 = .ok (.getfield 103, 3) := by decide +kernel
theorem d108_105 : decode prog_5_method_7_code 105 = .ok (.aload 4, 2) := by decide +kernel
theorem d108_107 : decode prog_5_method_7_code 107 = .ok (.iload 7, 2) := by decide +kernel
theorem d108_109 : decode prog_5_method_7_code 109 = .ok (.iaload, 1) := by decide +kernel
theorem d108_110 : decode prog_5_method_7_code 110 = .ok (.iaload, 1) := by decide +kernel
theorem d108_111 : decode prog_5_method_7_code 111 = .ok (.iaload, 1) := by decide +kernel
theorem d108_112 : decode prog_5_method_7_code 112 = .ok (.if_icmp .le 36, 3) := by decide +kernel
theorem d108_115 : decode prog_5_method_7_code 115 = .ok (.aload_n 0, 1) := by decide +kernel
theorem d108_116 : decode prog_5_method_7_code 116 = .ok (.getfield 27, 3) := by decide +kernel
theorem d108_119 : decode prog_5_method_7_code 119 = .ok (.aload_n 2, 1) := by decide +kernel
theorem d108_120 : decode prog_5_method_7_code 120 = .ok (.getfield 103, 3) := by decide +kernel
theorem d108_123 : decode prog_5_method_7_code 123 = .ok (.aload 5, 2) := by decide +kernel
theorem d108_125 : decode prog_5_method_7_code 125 = .ok (.iload 6, 2) := by decide +kernel
theorem d108_127 : decode prog_5_method_7_code 127 = .ok (.iaload, 1) := by decide +kernel
theorem d108_128 : decode prog_5_method_7_code 128 = .ok (.iaload, 1) := by decide +kernel
theorem d108_129 : decode prog_5_method_7_code 129 = .ok (.bipush 6, 2) := by decide +kernel
theorem d108_131 : decode prog_5_method_7_code 131 = .ok (.imul, 1) := by decide +kernel
theorem d108_132 : decode prog_5_method_7_code 132 = .ok (.aload_n 2, 1) := by decide +kernel
theorem d108_133 : decode prog_5_method_7_code 133 = .ok (.getfield 103, 3) := by decide +kernel
theorem d108_136 : decode prog_5_method_7_code 136 = .ok (.aload 5, 2) := by decide +kernel
theorem d108_138 : decode prog_5_method_7_code 138 = .ok (.iload 7, 2) := by decide +kernel
theorem d108_140 : decode prog_5_method_7_code 140 = .ok (.iaload, 1) := by decide +kernel
theorem d108_141 : decode prog_5_method_7_code 141 = .ok (.iaload, 1) := by decide +kernel
theorem d108_142 : decode prog_5_method_7_code 142 = .ok (.iadd, 1) := by decide +kernel
theorem d108_143 : decode prog_5_method_7_code 143 = .ok (.dup2, 1) := by decide +kernel
theorem d108_144 : decode prog_5_method_7_code 144 = .ok (.iaload, 1) := by decide +kernel
theorem d108_145 : decode prog_5_method_7_code 145 = .ok (.iconst 1, 1) := by decide +kernel
theorem d108_146 : decode prog_5_method_7_code 146 = .ok (.iadd, 1) := by decide +kernel
theorem d108_147 : decode prog_5_method_7_code 147 = .ok (.iastore, 1) := by decide +kernel
theorem d108_148 : decode prog_5_method_7_code 148 = .ok (.iinc 7 1, 3) := by decide +kernel
theorem d108_151 : decode prog_5_method_7_code 151 = .ok (.goto (-80), 3) := by decide +kernel
theorem d108_154 : decode prog_5_method_7_code 154 = .ok (.iinc 6 1, 3) := by decide +kernel
theorem d108_157 : decode prog_5_method_7_code 157 = .ok (.goto (-100), 3) := by decide +kernel
theorem d108_160 : decode prog_5_method_7_code 160 = .ok (.return_, 1) := by decide +kernel
theorem d109_0 : decode prog_5_method_8_code 0 = .ok (.iconst 0, 1) := by decide +kernel
theorem d109_1 : decode prog_5_method_8_code 1 = .ok (.istore_n 2, 1) := by decide +kernel
theorem d109_2 : decode prog_5_method_8_code 2 = .ok (.iconst 0, 1) := by decide +kernel
theorem d109_3 : decode prog_5_method_8_code 3 = .ok (.istore_n 3, 1) := by decide +kernel
theorem d109_4 : decode prog_5_method_8_code 4 = .ok (.iload_n 3, 1) := by decide +kernel
theorem d109_5 : decode prog_5_method_8_code 5 = .ok (.iload_n 1, 1) := by decide +kernel
theorem d109_6 : decode prog_5_method_8_code 6 = .ok (.if_icmp .ge 51, 3) := by decide +kernel
theorem d109_9 : decode prog_5_method_8_code 9 = .ok (.iload_n 3, 1) := by decide +kernel
theorem d109_10 : decode prog_5_method_8_code 10 = .ok (.iconst 1, 1) := by decide +kernel
theorem d109_11 : decode prog_5_method_8_code 11 = .ok (.iadd, 1) := by decide +kernel
theorem d109_12 : decode prog_5_method_8_code 12 = .ok (.istore 4, 2) := by decide +kernel
theorem d109_14 : decode prog_5_method_8_code 14 = .ok (.iload 4, 2) := by decide +kernel
theorem d109_16 : decode prog_5_method_8_code 16 = .ok (.iload_n 1, 1) := by decide +kernel
theorem d109_17 : decode prog_5_method_8_code 17 = .ok (.if_icmp .ge 34, 3) := by decide +kernel
theorem d109_20 : decode prog_5_method_8_code 20 = .ok (.iload_n 2, 1) := by decide +kernel
theorem d109_21 : decode prog_5_method_8_code 21 = .ok (.aload_n 0, 1) := by decide +kernel
theorem d109_22 : decode prog_5_method_8_code 22 = .ok (.getfield 27, 3) := by decide +kernel
theorem d109_25 : decode prog_5_method_8_code 25 = .ok (.aload_n 0, 1) := by decide +kernel
theorem d109_26 : decode prog_5_method_8_code 26 = .ok (.getfield 24, 3) := by decide +kernel
theorem d109_29 : decode prog_5_method_8_code 29 = .ok (.iload_n 3, 1) := by decide +kernel
theorem d109_30 : decode prog_5_method_8_code 30 = .ok (.iaload, 1) := by decide +kernel
theorem d109_31 : decode prog_5_method_8_code 31 = .ok (.bipush 6, 2) := by decide +kernel
theorem d109_33 : decode prog_5_method_8_code 33 = .ok (.imul, 1) := by decide +kernel
theorem d109_34 : decode prog_5_method_8_code 34 = .ok (.aload_n 0, 1) := by decide +kernel
theorem d109_35 : decode prog_5_method_8_code 35 = .ok (.getfield 24, 3) := by decide +kernel
theorem d109_38 : decode prog_5_method_8_code 38 = .ok (.iload 4, 2) := by decide +kernel
theorem d109_40 : decode prog_5_method_8_code 40 = .ok (.iaload, 1) := by decide +kernel
theorem d109_41 : decode prog_5_method_8_code 41 = .ok (.iadd, 1) := by decide +kernel
theorem d109_42 : decode prog_5_method_8_code 42 = .ok (.iaload, 1) := by decide +kernel
theorem d109_43 : decode prog_5_method_8_code 43 = .ok (.iadd, 1) := by decide +kernel
theorem d109_44 : decode prog_5_method_8_code 44 = .ok (.istore_n 2, 1) := by decide +kernel
theorem d109_45 : decode prog_5_method_8_code 45 = .ok (.iinc 4 1, 3) := by decide +kernel
theorem d109_48 : decode prog_5_method_8_code 48 = .ok (.goto (-34), 3) := by decide +kernel
theorem d109_51 : decode prog_5_method_8_code 51 = .ok (.iinc 3 1, 3) := by decide +kernel
theorem d109_54 : decode prog_5_method_8_code 54 = .ok (.goto (-50), 3) := by decide +kernel
theorem d109_57 : decode prog_5_method_8_code 57 = .ok (.iload_n 2, 1) := by decide +kernel
theorem d109_58 : decode prog_5_method_8_code 58 = .ok (.ireturn, 1) := by decide +kernel
theorem d110_0 : decode prog_5_method_9_code 0 = .ok (.iconst 0, 1) := by decide +kernel
theorem d110_1 : decode prog_5_method_9_code 1 = .ok (.istore_n 1, 1) := by decide +kernel
theorem d110_2 : decode prog_5_method_9_code 2 = .ok (.iload_n 1, 1) := by decide +kernel
theorem d110_3 : decode prog_5_method_9_code 3 = .ok (.bipush 6, 2) := by decide +kernel
theorem d110_5 : decode prog_5_method_9_code 5 = .ok (.if_icmp .ge 13, 3) := by decide +kernel
theorem d110_8 : decode prog_5_method_9_code 8 = .ok (.aload_n 0, 1) := by decide +kernel
theorem d110_9 : decode prog_5_method_9_code 9 = .ok (.iload_n 1, 1) := by decide +kernel
theorem d110_10 : decode prog_5_method_9_code 10 = .ok (.iload_n 1, 1) := by decide +kernel
theorem d110_11 : decode prog_5_method_9_code 11 = .ok (.iastore, 1) := by decide +kernel
theorem d110_12 : decode prog_5_method_9_code 12 = .ok (.iinc 1 1, 3) := by decide +kernel
theorem d110_15 : decode prog_5_method_9_code 15 = .ok (.goto (-13), 3) := by decide +kernel
theorem d110_18 : decode prog_5_method_9_code 18 = .ok (.return_, 1) := by decide +kernel
theorem d111_0 : decode prog_5_method_10_code 0 = .ok (.iload_n 1, 1) := by decide +kernel
theorem d111_1 : decode prog_5_method_10_code 1 = .ok (.iconst 2, 1) := by decide +kernel
theorem d111_2 : decode prog_5_method_10_code 2 = .ok (.isub, 1) := by decide +kernel
theorem d111_3 : decode prog_5_method_10_code 3 = .ok (.istore_n 2, 1) := by decide +kernel
theorem d111_4 : decode prog_5_method_10_code 4 = .ok (.iload_n 2, 1) := by decide +kernel
theorem d111_5 : decode prog_5_method_10_code 5 = .ok (.ifCond .lt 20, 3) := by decide +kernel
theorem d111_8 : decode prog_5_method_10_code 8 = .ok (.aload_n 0, 1) := by decide +kernel
theorem d111_9 : decode prog_5_method_10_code 9 = .ok (.iload_n 2, 1) := by decide +kernel
theorem d111_10 : decode prog_5_method_10_code 10 = .ok (.iaload, 1) := by decide +kernel
theorem d111_11 : decode prog_5_method_10_code 11 = .ok (.aload_n 0, 1) := by decide +kernel
theorem d111_12 : decode prog_5_method_10_code 12 = .ok (.iload_n 2, 1) := by decide +kernel
theorem d111_13 : decode prog_5_method_10_code 13 = .ok (.iconst 1, 1) := by decide +kernel
theorem d111_14 : decode prog_5_method_10_code 14 = .ok (.iadd, 1) := by decide +kernel
theorem d111_15 : decode prog_5_method_10_code 15 = .ok (.iaload, 1) := by decide +kernel
theorem d111_16 : decode prog_5_method_10_code 16 = .ok (.if_icmp .le 9, 3) := by decide +kernel
theorem d111_19 : decode prog_5_method_10_code 19 = .ok (.iinc 2 (-1), 3) := by decide +kernel
theorem d111_22 : decode prog_5_method_10_code 22 = .ok (.goto (-18), 3) := by decide +kernel
theorem d111_25 : decode prog_5_method_10_code 25 = .ok (.iload_n 2, 1) := by decide +kernel
theorem d111_26 : decode prog_5_method_10_code 26 = .ok (.ifCond .ge 4, 3) := by decide +kernel
theorem d111_29 : decode prog_5_method_10_code 29 = .ok (.return_, 1) := by decide +kernel
theorem d111_30 : decode prog_5_method_10_code 30 = .ok (.iload_n 1, 1) := by decide +kernel
theorem d111_31 : decode prog_5_method_10_code 31 = .ok (.iconst 1, 1) := by decide +kernel
theorem d111_32 : decode prog_5_method_10_code 32 = .ok (.isub, 1) := by decide +kernel
theorem d111_33 : decode prog_5_method_10_code 33 = .ok (.istore_n 3, 1) := by decide +kernel
theorem d111_34 : decode prog_5_method_10_code 34 = .ok (.iload_n 3, 1) := by decide +kernel
theorem d111_35 : decode prog_5_method_10_code 35 = .ok (.iload_n 2, 1) := by decide +kernel
theorem d111_36 : decode prog_5_method_10_code 36 = .ok (.if_icmp .le 18, 3) := by decide +kernel
theorem d111_39 : decode prog_5_method_10_code 39 = .ok (.aload_n 0, 1) := by decide +kernel
theorem d111_40 : decode prog_5_method_10_code 40 = .ok (.iload_n 3, 1) := by decide +kernel
theorem d111_41 : decode prog_5_method_10_code 41 = .ok (.iaload, 1) := by decide +kernel
theorem d111_42 : decode prog_5_method_10_code 42 = .ok (.aload_n 0, 1) := by decide +kernel
theorem d111_43 : decode prog_5_method_10_code 43 = .ok (.iload_n 2, 1) := by decide +kernel
theorem d111_44 : decode prog_5_method_10_code 44 = .ok (.iaload, 1) := by decide +kernel
theorem d111_45 : decode prog_5_method_10_code 45 = .ok (.if_icmp .ge 9, 3) := by decide +kernel
theorem d111_48 : decode prog_5_method_10_code 48 = .ok (.iinc 3 (-1), 3) := by decide +kernel
theorem d111_51 : decode prog_5_method_10_code 51 = .ok (.goto (-17), 3) := by decide +kernel
theorem d111_54 : decode prog_5_method_10_code 54 = .ok (.aload_n 0, 1) := by decide +kernel
theorem d111_55 : decode prog_5_method_10_code 55 = .ok (.iload_n 2, 1) := by decide +kernel
theorem d111_56 : decode prog_5_method_10_code 56 = .ok (.iload_n 3, 1) := by decide +kernel
theorem d111_57 : decode prog_5_method_10_code 57 = .ok (.invokestatic 106, 3) := by decide +kernel
theorem d111_60 : decode prog_5_method_10_code 60 = .ok (.iload_n 1, 1) := by decide +kernel
theorem d111_61 : decode prog_5_method_10_code 61 = .ok (.iconst 1, 1) := by decide +kernel
theorem d111_62 : decode prog_5_method_10_code 62 = .ok (.isub, 1) := by decide +kernel
theorem d111_63 : decode prog_5_method_10_code 63 = .ok (.iload_n 2, 1) := by decide +kernel
theorem d111_64 : decode prog_5_method_10_code 64 = .ok (.isub, 1) := by decide +kernel
theorem d111_65 : decode prog_5_method_10_code 65 = .ok (.istore 4, 2) := by decide +kernel
theorem d111_67 : decode prog_5_method_10_code 67 = .ok (.iconst 0, 1) := by decide +kernel
theorem d111_68 : decode prog_5_method_10_code 68 = .ok (.istore 5, 2) := by decide +kernel
theorem d111_70 : decode prog_5_method_10_code 70 = .ok (.iload 5, 2) := by decide +kernel
theorem d111_72 : decode prog_5_method_10_code 72 = .ok (.iload 4, 2) := by decide +kernel
theorem d111_74 : decode prog_5_method_10_code 74 = .ok (.iconst 2, 1) := by decide +kernel
theorem d111_75 : decode prog_5_method_10_code 75 = .ok (.idiv, 1) := by decide +kernel
theorem d111_76 : decode prog_5_method_10_code 76 = .ok (.if_icmp .ge 25, 3) := by decide +kernel
theorem d111_79 : decode prog_5_method_10_code 79 = .ok (.aload_n 0, 1) := by decide +kernel
theorem d111_80 : decode prog_5_method_10_code 80 = .ok (.iload_n 2, 1) := by decide +kernel
theorem d111_81 : decode prog_5_method_10_code 81 = .ok (.iconst 1, 1) := by decide +kernel
theorem d111_82 : decode prog_5_method_10_code 82 = .ok (.iadd, 1) := by decide +kernel
theorem d111_83 : decode prog_5_method_10_code 83 = .ok (.iload 5, 2) := by decide +kernel
theorem d111_85 : decode prog_5_method_10_code 85 = .ok (.iadd, 1) := by decide +kernel
theorem d111_86 : decode prog_5_method_10_code 86 = .ok (.iload_n 1, 1) := by decide +kernel
theorem d111_87 : decode prog_5_method_10_code 87 = .ok (.iconst 1, 1) := by decide +kernel
theorem d111_88 : decode prog_5_method_10_code 88 = .ok (.isub, 1) := by decide +kernel
theorem d111_89 : decode prog_5_method_10_code 89 = .ok (.iload 5, 2) := by decide +kernel
theorem d111_91 : decode prog_5_method_10_code 91 = .ok (.isub, 1) := by decide +kernel
theorem d111_92 : decode prog_5_method_10_code 92 = .ok (.invokestatic 106, 3) := by decide +kernel
theorem d111_95 : decode prog_5_method_10_code 95 = .ok (.iinc 5 1, 3) := by decide +kernel
theorem d111_98 : decode prog_5_method_10_code 98 = .ok (.goto (-28), 3) := by decide +kernel
theorem d111_101 : decode prog_5_method_10_code 101 = .ok (.return_, 1) := by decide +kernel
theorem d112_0 : decode prog_5_method_11_code 0 = .ok (.aload_n 0, 1) := by decide +kernel
theorem d112_1 : decode prog_5_method_11_code 1 = .ok (.iload_n 1, 1) := by decide +kernel
theorem d112_2 : decode prog_5_method_11_code 2 = .ok (.iaload, 1) := by decide +kernel
theorem d112_3 : decode prog_5_method_11_code 3 = .ok (.istore_n 3, 1) := by decide +kernel
theorem d112_4 : decode prog_5_method_11_code 4 = .ok (.aload_n 0, 1) := by decide +kernel
theorem d112_5 : decode prog_5_method_11_code 5 = .ok (.iload_n 1, 1) := by decide +kernel
theorem d112_6 : decode prog_5_method_11_code 6 = .ok (.aload_n 0, 1) := by decide +kernel
theorem d112_7 : decode prog_5_method_11_code 7 = .ok (.iload_n 2, 1) := by decide +kernel
theorem d112_8 : decode prog_5_method_11_code 8 = .ok (.iaload, 1) := by decide +kernel
theorem d112_9 : decode prog_5_method_11_code 9 = .ok (.iastore, 1) := by decide +kernel
theorem d112_10 : decode prog_5_method_11_code 10 = .ok (.aload_n 0, 1) := by decide +kernel
theorem d112_11 : decode prog_5_method_11_code 11 = .ok (.iload_n 2, 1) := by decide +kernel
theorem d112_12 : decode prog_5_method_11_code 12 = .ok (.iload_n 3, 1) := by decide +kernel
theorem d112_13 : decode prog_5_method_11_code 13 = .ok (.iastore, 1) := by decide +kernel
theorem d112_14 : decode prog_5_method_11_code 14 = .ok (.return_, 1) := by decide +kernel
theorem d113_0 : decode prog_6_method_1_code 0 = .ok (.aload_n 0, 1) := by decide +kernel
theorem d113_1 : decode prog_6_method_1_code 1 = .ok (.invokespecial 3, 3) := by decide +kernel
theorem d113_4 : decode prog_6_method_1_code 4 = .ok (.aload_n 0, 1) := by decide +kernel
theorem d113_5 : decode prog_6_method_1_code 5 = .ok (.bipush 24, 2) := by decide +kernel
theorem d113_7 : decode prog_6_method_1_code 7 = .ok (.newarray .int, 2) := by decide +kernel
theorem d113_9 : decode prog_6_method_1_code 9 = .ok (.putfield 9, 3) := by decide +kernel
theorem d113_12 : decode prog_6_method_1_code 12 = .ok (.aload_n 0, 1) := by decide +kernel
theorem d113_13 : decode prog_6_method_1_code 13 = .ok (.bipush 72, 2) := by decide +kernel
theorem d113_15 : decode prog_6_method_1_code 15 = .ok (.newarray .int, 2) := by decide +kernel
theorem d113_17 : decode prog_6_method_1_code 17 = .ok (.putfield 15, 3) := by decide +kernel
theorem d113_20 : decode prog_6_method_1_code 20 = .ok (.aload_n 0, 1) := by decide +kernel
theorem d113_21 : decode prog_6_method_1_code 21 = .ok (.bipush 12, 2) := by decide +kernel
theorem d113_23 : decode prog_6_method_1_code 23 = .ok (.newarray .int, 2) := by decide +kernel
theorem d113_25 : decode prog_6_method_1_code 25 = .ok (.putfield 18, 3) := by decide +kernel
theorem d113_28 : decode prog_6_method_1_code 28 = .ok (.aload_n 0, 1) := by decide +kernel
theorem d113_29 : decode prog_6_method_1_code 29 = .ok (.bipush 12, 2) := by decide +kernel
theorem d113_31 : decode prog_6_method_1_code 31 = .ok (.bipush 24, 2) := by decide +kernel
theorem d113_33 : decode prog_6_method_1_code 33 = .ok (.multianewarray 21 2, 4) := by decide +kernel
theorem d113_37 : decode prog_6_method_1_code 37 = .ok (.putfield 23, 3) := by decide +kernel
theorem d113_40 : decode prog_6_method_1_code 40 = .ok (.aload_n 0, 1) := by decide +kernel
theorem d113_41 : decode prog_6_method_1_code 41 = .ok (.bipush 12, 2) := by decide +kernel
theorem d113_43 : decode prog_6_method_1_code 43 = .ok (.bipush 24, 2) := by decide +kernel
theorem d113_45 : decode prog_6_method_1_code 45 = .ok (.multianewarray 21 2, 4) := by decide +kernel
theorem d113_49 : decode prog_6_method_1_code 49 = .ok (.putfield 26, 3) := by decide +kernel
theorem d113_52 : decode prog_6_method_1_code 52 = .ok (.aload_n 0, 1) := by decide +kernel
theorem d113_53 : decode prog_6_method_1_code 53 = .ok (.bipush 12, 2) := by decide +kernel
theorem d113_55 : decode prog_6_method_1_code 55 = .ok (.putfield 29, 3) := by decide +kernel
theorem d113_58 : decode prog_6_method_1_code 58 = .ok (.return_, 1) := by decide +kernel
theorem d114_0 : decode prog_6_method_2_code 0 = .ok (.iload_n 1, 1) := by decide +kernel
theorem d114_1 : decode prog_6_method_2_code 1 = .ok (.bipush 12, 2) := by decide +kernel
theorem d114_3 : decode prog_6_method_2_code 3 = .ok (.if_icmp .lt 15, 3) := by decide +kernel
theorem d114_6 : decode prog_6_method_2_code 6 = .ok (.iload_n 1, 1) := by decide +kernel
theorem d114_7 : decode prog_6_method_2_code 7 = .ok (.aload_n 0, 1) := by decide +kernel
theorem d114_8 : decode prog_6_method_2_code 8 = .ok (.getfield 29, 3) := by decide +kernel
theorem d114_11 : decode prog_6_method_2_code 11 = .ok (.if_icmp .ge 7, 3) := by decide +kernel
theorem d114_14 : decode prog_6_method_2_code 14 = .ok (.iconst 1, 1) := by decide +kernel
theorem d114_15 : decode prog_6_method_2_code 15 = .ok (.goto 4, 3) := by decide +kernel
theorem d114_18 : decode prog_6_method_2_code 18 = .ok (.iconst 0, 1) := by decide +kernel
theorem d114_19 : decode prog_6_method_2_code 19 = .ok (.ireturn, 1) := by decide +kernel
theorem d115_0 : decode prog_6_method_3_code 0 = .ok (.iload_n 3, 1) := by decide +kernel
theorem d115_1 : decode prog_6_method_3_code 1 = .ok (.ifCond .ne 10, 3) := by decide +kernel
theorem d115_4 : decode prog_6_method_3_code 4 = .ok (.aload_n 1, 1) := by decide +kernel
theorem d115_5 : decode prog_6_method_3_code 5 = .ok (.getfield 33, 3) := by decide +kernel
theorem d115_8 : decode prog_6_method_3_code 8 = .ok (.iload_n 2, 1) := by decide +kernel
theorem d115_9 : decode prog_6_method_3_code 9 = .ok (.iaload, 1) := by decide +kernel
theorem d115_10 : decode prog_6_method_3_code 10 = .ok (.ireturn, 1) := by decide +kernel
theorem d115_11 : decode prog_6_method_3_code 11 = .ok (.iload_n 3, 1) := by decide +kernel
theorem d115_12 : decode prog_6_method_3_code 12 = .ok (.aload_n 1, 1) := by decide +kernel
theorem d115_13 : decode prog_6_method_3_code 13 = .ok (.iload_n 2, 1) := by decide +kernel
theorem d115_14 : decode prog_6_method_3_code 14 = .ok (.invokevirtual 38, 3) := by decide +kernel
theorem d115_17 : decode prog_6_method_3_code 17 = .ok (.if_icmp .ne 12, 3) := by decide +kernel
theorem d115_20 : decode prog_6_method_3_code 20 = .ok (.aload_n 1, 1) := by decide +kernel
theorem d115_21 : decode prog_6_method_3_code 21 = .ok (.getfield 42, 3) := by decide +kernel
theorem d115_24 : decode prog_6_method_3_code 24 = .ok (.iload_n 2, 1) := by decide +kernel
theorem d115_25 : decode prog_6_method_3_code 25 = .ok (.iaload, 1) := by decide +kernel
theorem d115_26 : decode prog_6_method_3_code 26 = .ok (.goto 13, 3) := by decide +kernel
theorem d115_29 : decode prog_6_method_3_code 29 = .ok (.aload_n 0, 1) := by decide +kernel
theorem d115_30 : decode prog_6_method_3_code 30 = .ok (.getfield 9, 3) := by decide +kernel
theorem d115_33 : decode prog_6_method_3_code 33 = .ok (.iload_n 2, 1) := by decide +kernel
theorem d115_34 : decode prog_6_method_3_code 34 = .ok (.iaload, 1) := by decide +kernel
theorem d115_35 : decode prog_6_method_3_code 35 = .ok (.iload_n 3, 1) := by decide +kernel
theorem d115_36 : decode prog_6_method_3_code 36 = .ok (.iadd, 1) := by decide +kernel
theorem d115_37 : decode prog_6_method_3_code 37 = .ok (.iconst 1, 1) := by decide +kernel
theorem d115_38 : decode prog_6_method_3_code 38 = .ok (.isub, 1) := by decide +kernel
theorem d115_39 : decode prog_6_method_3_code 39 = .ok (.ireturn, 1) := by decide +kernel
theorem d116_0 : decode prog_6_method_4_code 0 = .ok (.aload_n 0, 1) := by decide +kernel
theorem d116_1 : decode prog_6_method_4_code 1 = .ok (.getfield 15, 3) := by decide +kernel
theorem d116_4 : decode prog_6_method_4_code 4 = .ok (.iconst 1, 1) := by decide +kernel
theorem d116_5 : decode prog_6_method_4_code 5 = .ok (.invokestatic 45, 3) := by decide +kernel
theorem d116_8 : decode prog_6_method_4_code 8 = .ok (.aload_n 1, 1) := by decide +kernel
theorem d116_9 : decode prog_6_method_4_code 9 = .ok (.getfield 51, 3) := by decide +kernel
theorem d116_12 : decode prog_6_method_4_code 12 = .ok (.iconst 0, 1) := by decide +kernel
theorem d116_13 : decode prog_6_method_4_code 13 = .ok (.aload_n 0, 1) := by decide +kernel
theorem d116_14 : decode prog_6_method_4_code 14 = .ok (.getfield 15, 3) := by decide +kernel
theorem d116_17 : decode prog_6_method_4_code 17 = .ok (.iconst 0, 1) := by decide +kernel
theorem d116_18 : decode prog_6_method_4_code 18 = .ok (.aload_n 1, 1) := by decide +kernel
theorem d116_19 : decode prog_6_method_4_code 19 = .ok (.getfield 56, 3) := by decide +kernel
theorem d116_22 : decode prog_6_method_4_code 22 = .ok (.invokestatic 59, 3) := by decide +kernel
theorem d116_25 : decode prog_6_method_4_code 25 = .ok (.aload_n 0, 1) := by decide +kernel
theorem d116_26 : decode prog_6_method_4_code 26 = .ok (.getfield 18, 3) := by decide +kernel
theorem d116_29 : decode prog_6_method_4_code 29 = .ok (.iconst 0, 1) := by decide +kernel
theorem d116_30 : decode prog_6_method_4_code 30 = .ok (.invokestatic 45, 3) := by decide +kernel
theorem d116_33 : decode prog_6_method_4_code 33 = .ok (.aload_n 0, 1) := by decide +kernel
theorem d116_34 : decode prog_6_method_4_code 34 = .ok (.bipush 12, 2) := by decide +kernel
theorem d116_36 : decode prog_6_method_4_code 36 = .ok (.putfield 29, 3) := by decide +kernel
theorem d116_39 : decode prog_6_method_4_code 39 = .ok (.iconst 0, 1) := by decide +kernel
theorem d116_40 : decode prog_6_method_4_code 40 = .ok (.istore_n 3, 1) := by decide +kernel
theorem d116_41 : decode prog_6_method_4_code 41 = .ok (.iload_n 3, 1) := by decide +kernel
theorem d116_42 : decode prog_6_method_4_code 42 = .ok (.aload_n 1, 1) := by decide +kernel
theorem d116_43 : decode prog_6_method_4_code 43 = .ok (.getfield 65, 3) := by decide +kernel
theorem d116_46 : decode prog_6_method_4_code 46 = .ok (.if_icmp .ge 50, 3) := by decide +kernel
theorem d116_49 : decode prog_6_method_4_code 49 = .ok (.aload_n 1, 1) := by decide +kernel
theorem d116_50 : decode prog_6_method_4_code 50 = .ok (.getfield 68, 3) := by decide +kernel
theorem d116_53 : decode prog_6_method_4_code 53 = .ok (.iload_n 3, 1) := by decide +kernel
theorem d116_54 : decode prog_6_method_4_code 54 = .ok (.baload, 1) := by decide +kernel
theorem d116_55 : decode prog_6_method_4_code 55 = .ok (.ifCond .eq 35, 3) := by decide +kernel
theorem d116_58 : decode prog_6_method_4_code 58 = .ok (.aload_n 0, 1) := by decide +kernel
theorem d116_59 : decode prog_6_method_4_code 59 = .ok (.getfield 9, 3) := by decide +kernel
theorem d116_62 : decode prog_6_method_4_code 62 = .ok (.iload_n 3, 1) := by decide +kernel
theorem d116_63 : decode prog_6_method_4_code 63 = .ok (.aload_n 0, 1) := by decide +kernel
theorem d116_64 : decode prog_6_method_4_code 64 = .ok (.getfield 29, 3) := by decide +kernel
theorem d116_67 : decode prog_6_method_4_code 67 = .ok (.iastore, 1) := by decide +kernel
theorem d116_68 : decode prog_6_method_4_code 68 = .ok (.aload_n 0, 1) := by decide +kernel
theorem d116_69 : decode prog_6_method_4_code 69 = .ok (.dup, 1) := by decide +kernel
theorem d116_70 : decode prog_6_method_4_code 70 = .ok (.getfield 29, 3) := by decide +kernel
theorem d116_73 : decode prog_6_method_4_code 73 = .ok (.aload_n 2, 1) := by decide +kernel
theorem d116_74 : decode prog_6_method_4_code 74 = .ok (.iload_n 3, 1) := by decide +kernel
theorem d116_75 : decode prog_6_method_4_code 75 = .ok (.invokevirtual 38, 3) := by decide +kernel
theorem d116_78 : decode prog_6_method_4_code 78 = .ok (.iconst 1, 1) := by decide +kernel
theorem d116_79 : decode prog_6_method_4_code 79 = .ok (.isub, 1) := by decide +kernel
theorem d116_80 : decode prog_6_method_4_code 80 = .ok (.iadd, 1) := by decide +kernel
theorem d116_81 : decode prog_6_method_4_code 81 = .ok (.putfield 29, 3) := by decide +kernel
theorem d116_84 : decode prog_6_method_4_code 84 = .ok (.aload_n 0, 1) := by decide +kernel
theorem d116_85 : decode prog_6_method_4_code 85 = .ok (.aload_n 2, 1) := by decide +kernel
theorem d116_86 : decode prog_6_method_4_code 86 = .ok (.iload_n 3, 1) := by decide +kernel
theorem d116_87 : decode prog_6_method_4_code 87 = .ok (.invokevirtual 72, 3) := by decide +kernel
theorem d116_90 : decode prog_6_method_4_code 90 = .ok (.iinc 3 1, 3) := by decide +kernel
theorem d116_93 : decode prog_6_method_4_code 93 = .ok (.goto (-52), 3) := by decide +kernel
theorem d116_96 : decode prog_6_method_4_code 96 = .ok (.return_, 1) := by decide +kernel
theorem d117_0 : decode prog_6_method_5_code 0 = .ok (.aload_n 1, 1) := by decide +kernel
theorem d117_1 : decode prog_6_method_5_code 1 = .ok (.iload_n 2, 1) := by decide +kernel
theorem d117_2 : decode prog_6_method_5_code 2 = .ok (.invokevirtual 38, 3) := by decide +kernel
theorem d117_5 : decode prog_6_method_5_code 5 = .ok (.istore_n 3, 1) := by decide +kernel
theorem d117_6 : decode prog_6_method_5_code 6 = .ok (.aload_n 1, 1) := by decide +kernel
theorem d117_7 : decode prog_6_method_5_code 7 = .ok (.getfield 76, 3) := by decide +kernel
theorem d117_10 : decode prog_6_method_5_code 10 = .ok (.aload_n 1, 1) := by decide +kernel
theorem d117_11 : decode prog_6_method_5_code 11 = .ok (.getfield 33, 3) := by decide +kernel
theorem d117_14 : decode prog_6_method_5_code 14 = .ok (.iload_n 2, 1) := by decide +kernel
theorem d117_15 : decode prog_6_method_5_code 15 = .ok (.iaload, 1) := by decide +kernel
theorem d117_16 : decode prog_6_method_5_code 16 = .ok (.iaload, 1) := by decide +kernel
theorem d117_17 : decode prog_6_method_5_code 17 = .ok (.istore 4, 2) := by decide +kernel
theorem d117_19 : decode prog_6_method_5_code 19 = .ok (.iconst 0, 1) := by decide +kernel
theorem d117_20 : decode prog_6_method_5_code 20 = .ok (.istore 5, 2) := by decide +kernel
theorem d117_22 : decode prog_6_method_5_code 22 = .ok (.iload 5, 2) := by decide +kernel
theorem d117_24 : decode prog_6_method_5_code 24 = .ok (.iload_n 3, 1) := by decide +kernel
theorem d117_25 : decode prog_6_method_5_code 25 = .ok (.if_icmp .ge 75, 3) := by decide +kernel
theorem d117_28 : decode prog_6_method_5_code 28 = .ok (.iload 4, 2) := by decide +kernel
theorem d117_30 : decode prog_6_method_5_code 30 = .ok (.iload 5, 2) := by decide +kernel
theorem d117_32 : decode prog_6_method_5_code 32 = .ok (.iadd, 1) := by decide +kernel
theorem d117_33 : decode prog_6_method_5_code 33 = .ok (.istore 6, 2) := by decide +kernel
theorem d117_35 : decode prog_6_method_5_code 35 = .ok (.aload_n 0, 1) := by decide +kernel
theorem d117_36 : decode prog_6_method_5_code 36 = .ok (.getfield 23, 3) := by decide +kernel
theorem d117_39 : decode prog_6_method_5_code 39 = .ok (.iload 6, 2) := by decide +kernel
theorem d117_41 : decode prog_6_method_5_code 41 = .ok (.aaload, 1) := by decide +kernel
theorem d117_42 : decode prog_6_method_5_code 42 = .ok (.aload_n 0, 1) := by decide +kernel
theorem d117_43 : decode prog_6_method_5_code 43 = .ok (.getfield 18, 3) := by decide +kernel
theorem d117_46 : decode prog_6_method_5_code 46 = .ok (.iload 6, 2) := by decide +kernel
theorem d117_48 : decode prog_6_method_5_code 48 = .ok (.iaload, 1) := by decide +kernel
theorem d117_49 : decode prog_6_method_5_code 49 = .ok (.aload_n 0, 1) := by decide +kernel
theorem d117_50 : decode prog_6_method_5_code 50 = .ok (.aload_n 1, 1) := by decide +kernel
theorem d117_51 : decode prog_6_method_5_code 51 = .ok (.iload_n 2, 1) := by decide +kernel
theorem d117_52 : decode prog_6_method_5_code 52 = .ok (.iload 5, 2) := by decide +kernel
theorem d117_54 : decode prog_6_method_5_code 54 = .ok (.invokevirtual 79, 3) := by decide +kernel
theorem d117_57 : decode prog_6_method_5_code 57 = .ok (.iastore, 1) := by decide +kernel
theorem d117_58 : decode prog_6_method_5_code 58 = .ok (.aload_n 0, 1) := by decide +kernel
theorem d117_59 : decode prog_6_method_5_code 59 = .ok (.getfield 26, 3) := by decide +kernel
theorem d117_62 : decode prog_6_method_5_code 62 = .ok (.iload 6, 2) := by decide +kernel
theorem d117_64 : decode prog_6_method_5_code 64 = .ok (.aaload, 1) := by decide +kernel
theorem d117_65 : decode prog_6_method_5_code 65 = .ok (.aload_n 0, 1) := by decide +kernel
theorem d117_66 : decode prog_6_method_5_code 66 = .ok (.getfield 18, 3) := by decide +kernel
theorem d117_69 : decode prog_6_method_5_code 69 = .ok (.iload 6, 2) := by decide +kernel
theorem d117_71 : decode prog_6_method_5_code 71 = .ok (.iaload, 1) := by decide +kernel
theorem d117_72 : decode prog_6_method_5_code 72 = .ok (.aload_n 0, 1) := by decide +kernel
theorem d117_73 : decode prog_6_method_5_code 73 = .ok (.aload_n 1, 1) := by decide +kernel
theorem d117_74 : decode prog_6_method_5_code 74 = .ok (.iload_n 2, 1) := by decide +kernel
theorem d117_75 : decode prog_6_method_5_code 75 = .ok (.iload 5, 2) := by decide +kernel
theorem d117_77 : decode prog_6_method_5_code 77 = .ok (.iconst 1, 1) := by decide +kernel
theorem d117_78 : decode prog_6_method_5_code 78 = .ok (.iadd, 1) := by decide +kernel
theorem d117_79 : decode prog_6_method_5_code 79 = .ok (.invokevirtual 79, 3) := by decide +kernel
theorem d117_82 : decode prog_6_method_5_code 82 = .ok (.iastore, 1) := by decide +kernel
theorem d117_83 : decode prog_6_method_5_code 83 = .ok (.aload_n 0, 1) := by decide +kernel
theorem d117_84 : decode prog_6_method_5_code 84 = .ok (.getfield 18, 3) := by decide +kernel
theorem d117_87 : decode prog_6_method_5_code 87 = .ok (.iload 6, 2) := by decide +kernel
theorem d117_89 : decode prog_6_method_5_code 89 = .ok (.dup2, 1) := by decide +kernel
theorem d117_90 : decode prog_6_method_5_code 90 = .ok (.iaload, 1) := by decide +kernel
theorem d117_91 : decode prog_6_method_5_code 91 = .ok (.iconst 1, 1) := by decide +kernel
theorem d117_92 : decode prog_6_method_5_code 92 = .ok (.iadd, 1) := by decide +kernel
theorem d117_93 : decode prog_6_method_5_code 93 = .ok (.iastore, 1) := by decide +kernel
theorem d117_94 : decode prog_6_method_5_code 94 = .ok (.iinc 5 1, 3) := by decide +kernel
theorem d117_97 : decode prog_6_method_5_code 97 = .ok (.goto (-75), 3) := by decide +kernel
theorem d117_100 : decode prog_6_method_5_code 100 = .ok (.return_, 1) := by decide +kernel
theorem d118_0 : decode prog_7_method_1_code 0 = .ok (.aload_n 0, 1) := by decide +kernel
theorem d118_1 : decode prog_7_method_1_code 1 = .ok (.invokespecial 3, 3) := by decide +kernel
theorem d118_4 : decode prog_7_method_1_code 4 = .ok (.aload_n 0, 1) := by decide +kernel
theorem d118_5 : decode prog_7_method_1_code 5 = .ok (.bipush 72, 2) := by decide +kernel
theorem d118_7 : decode prog_7_method_1_code 7 = .ok (.newarray .int, 2) := by decide +kernel
theorem d118_9 : decode prog_7_method_1_code 9 = .ok (.putfield 9, 3) := by decide +kernel
theorem d118_12 : decode prog_7_method_1_code 12 = .ok (.aload_n 0, 1) := by decide +kernel
theorem d118_13 : decode prog_7_method_1_code 13 = .ok (.bipush 72, 2) := by decide +kernel
theorem d118_15 : decode prog_7_method_1_code 15 = .ok (.newarray .int, 2) := by decide +kernel
theorem d118_17 : decode prog_7_method_1_code 17 = .ok (.putfield 15, 3) := by decide +kernel
theorem d118_20 : decode prog_7_method_1_code 20 = .ok (.aload_n 0, 1) := by decide +kernel
theorem d118_21 : decode prog_7_method_1_code 21 = .ok (.bipush 72, 2) := by decide +kernel
theorem d118_23 : decode prog_7_method_1_code 23 = .ok (.newarray .int, 2) := by decide +kernel
theorem d118_25 : decode prog_7_method_1_code 25 = .ok (.putfield 18, 3) := by decide +kernel
theorem d118_28 : decode prog_7_method_1_code 28 = .ok (.aload_n 0, 1) := by decide +kernel
theorem d118_29 : decode prog_7_method_1_code 29 = .ok (.iconst 0, 1) := by decide +kernel
theorem d118_30 : decode prog_7_method_1_code 30 = .ok (.putfield 21, 3) := by decide +kernel
theorem d118_33 : decode prog_7_method_1_code 33 = .ok (.return_, 1) := by decide +kernel
theorem d119_0 : decode prog_7_method_2_code 0 = .ok (.aload_n 0, 1) := by decide +kernel
theorem d119_1 : decode prog_7_method_2_code 1 = .ok (.getfield 15, 3) := by decide +kernel
theorem d119_4 : decode prog_7_method_2_code 4 = .ok (.iconst 0, 1) := by decide +kernel
theorem d119_5 : decode prog_7_method_2_code 5 = .ok (.invokestatic 25, 3) := by decide +kernel
theorem d119_8 : decode prog_7_method_2_code 8 = .ok (.aload_n 0, 1) := by decide +kernel
theorem d119_9 : decode prog_7_method_2_code 9 = .ok (.getfield 18, 3) := by decide +kernel
theorem d119_12 : decode prog_7_method_2_code 12 = .ok (.iconst 0, 1) := by decide +kernel
theorem d119_13 : decode prog_7_method_2_code 13 = .ok (.invokestatic 25, 3) := by decide +kernel
theorem d119_16 : decode prog_7_method_2_code 16 = .ok (.aload_n 0, 1) := by decide +kernel
theorem d119_17 : decode prog_7_method_2_code 17 = .ok (.iconst 0, 1) := by decide +kernel
theorem d119_18 : decode prog_7_method_2_code 18 = .ok (.putfield 21, 3) := by decide +kernel
theorem d119_21 : decode prog_7_method_2_code 21 = .ok (.iconst 0, 1) := by decide +kernel
theorem d119_22 : decode prog_7_method_2_code 22 = .ok (.istore_n 3, 1) := by decide +kernel
theorem d119_23 : decode prog_7_method_2_code 23 = .ok (.iload_n 3, 1) := by decide +kernel
theorem d119_24 : decode prog_7_method_2_code 24 = .ok (.aload_n 2, 1) := by decide +kernel
theorem d119_25 : decode prog_7_method_2_code 25 = .ok (.getfield 31, 3) := by decide +kernel
theorem d119_28 : decode prog_7_method_2_code 28 = .ok (.if_icmp .ge 119, 3) := by decide +kernel
theorem d119_31 : decode prog_7_method_2_code 31 = .ok (.iload_n 3, 1) := by decide +kernel
theorem d119_32 : decode prog_7_method_2_code 32 = .ok (.ifCond .le 11, 3) := by decide +kernel
theorem d119_35 : decode prog_7_method_2_code 35 = .ok (.aload_n 0, 1) := by decide +kernel
theorem d119_36 : decode prog_7_method_2_code 36 = .ok (.aload_n 1, 1) := by decide +kernel
theorem d119_37 : decode prog_7_method_2_code 37 = .ok (.iload_n 3, 1) := by decide +kernel
theorem d119_38 : decode prog_7_method_2_code 38 = .ok (.iconst 1, 1) := by decide +kernel
theorem d119_39 : decode prog_7_method_2_code 39 = .ok (.isub, 1) := by decide +kernel
theorem d119_40 : decode prog_7_method_2_code 40 = .ok (.invokevirtual 36, 3) := by decide +kernel
theorem d119_43 : decode prog_7_method_2_code 43 = .ok (.iconst 0, 1) := by decide +kernel
theorem d119_44 : decode prog_7_method_2_code 44 = .ok (.istore 4, 2) := by decide +kernel
theorem d119_46 : decode prog_7_method_2_code 46 = .ok (.iconst 0, 1) := by decide +kernel
theorem d119_47 : decode prog_7_method_2_code 47 = .ok (.istore 5, 2) := by decide +kernel
theorem d119_49 : decode prog_7_method_2_code 49 = .ok (.iload 5, 2) := by decide +kernel
theorem d119_51 : decode prog_7_method_2_code 51 = .ok (.aload_n 2, 1) := by decide +kernel
theorem d119_52 : decode prog_7_method_2_code 52 = .ok (.getfield 40, 3) := by decide +kernel
theorem d119_55 : decode prog_7_method_2_code 55 = .ok (.iload_n 3, 1) := by decide +kernel
theorem d119_56 : decode prog_7_method_2_code 56 = .ok (.iaload, 1) := by decide +kernel
theorem d119_57 : decode prog_7_method_2_code 57 = .ok (.if_icmp .ge 84, 3) := by decide +kernel
theorem d119_60 : decode prog_7_method_2_code 60 = .ok (.aload_n 2, 1) := by decide +kernel
theorem d119_61 : decode prog_7_method_2_code 61 = .ok (.getfield 43, 3) := by decide +kernel
theorem d119_64 : decode prog_7_method_2_code 64 = .ok (.iload_n 3, 1) := by decide +kernel
theorem d119_65 : decode prog_7_method_2_code 65 = .ok (.aaload, 1) := by decide +kernel
theorem d119_66 : decode prog_7_method_2_code 66 = .ok (.iload 5, 2) := by decide +kernel
theorem d119_68 : decode prog_7_method_2_code 68 = .ok (.iaload, 1) := by decide +kernel
theorem d119_69 : decode prog_7_method_2_code 69 = .ok (.istore 6, 2) := by decide +kernel
theorem d119_71 : decode prog_7_method_2_code 71 = .ok (.aload_n 1, 1) := by decide +kernel
theorem d119_72 : decode prog_7_method_2_code 72 = .ok (.getfield 47, 3) := by decide +kernel
theorem d119_75 : decode prog_7_method_2_code 75 = .ok (.iload 6, 2) := by decide +kernel
theorem d119_77 : decode prog_7_method_2_code 77 = .ok (.iaload, 1) := by decide +kernel
theorem d119_78 : decode prog_7_method_2_code 78 = .ok (.istore 7, 2) := by decide +kernel
theorem d119_80 : decode prog_7_method_2_code 80 = .ok (.aload_n 0, 1) := by decide +kernel
theorem d119_81 : decode prog_7_method_2_code 81 = .ok (.getfield 9, 3) := by decide +kernel
