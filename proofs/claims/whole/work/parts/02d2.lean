theorem d35_21 : decode prog_11_method_11_code 21 = .ok (.iload_n 1, 1) := by decide +kernel
theorem d35_22 : decode prog_11_method_11_code 22 = .ok (.iconst 0, 1) := by decide +kernel
theorem d35_23 : decode prog_11_method_11_code 23 = .ok (.bastore, 1) := by decide +kernel
theorem d35_24 : decode prog_11_method_11_code 24 = .ok (.iinc 1 1, 3) := by decide +kernel
theorem d35_27 : decode prog_11_method_11_code 27 = .ok (.goto (-25), 3) := by decide +kernel
theorem d35_30 : decode prog_11_method_11_code 30 = .ok (.aload_n 0, 1) := by decide +kernel
theorem d35_31 : decode prog_11_method_11_code 31 = .ok (.invokevirtual 127, 3) := by decide +kernel
theorem d35_34 : decode prog_11_method_11_code 34 = .ok (.istore_n 1, 1) := by decide +kernel
theorem d35_35 : decode prog_11_method_11_code 35 = .ok (.iconst 0, 1) := by decide +kernel
theorem d35_36 : decode prog_11_method_11_code 36 = .ok (.istore_n 2, 1) := by decide +kernel
theorem d35_37 : decode prog_11_method_11_code 37 = .ok (.iload_n 2, 1) := by decide +kernel
theorem d35_38 : decode prog_11_method_11_code 38 = .ok (.aload_n 0, 1) := by decide +kernel
theorem d35_39 : decode prog_11_method_11_code 39 = .ok (.getfield 110, 3) := by decide +kernel
theorem d35_42 : decode prog_11_method_11_code 42 = .ok (.if_icmp .ge 64, 3) := by decide +kernel
theorem d35_45 : decode prog_11_method_11_code 45 = .ok (.iload_n 1, 1) := by decide +kernel
theorem d35_46 : decode prog_11_method_11_code 46 = .ok (.ifCond .le 60, 3) := by decide +kernel
theorem d35_49 : decode prog_11_method_11_code 49 = .ok (.aload_n 0, 1) := by decide +kernel
theorem d35_50 : decode prog_11_method_11_code 50 = .ok (.getfield 19, 3) := by decide +kernel
theorem d35_53 : decode prog_11_method_11_code 53 = .ok (.iload_n 2, 1) := by decide +kernel
theorem d35_54 : decode prog_11_method_11_code 54 = .ok (.baload, 1) := by decide +kernel
theorem d35_55 : decode prog_11_method_11_code 55 = .ok (.ifCond .ne 6, 3) := by decide +kernel
theorem d35_58 : decode prog_11_method_11_code 58 = .ok (.goto 42, 3) := by decide +kernel
theorem d35_61 : decode prog_11_method_11_code 61 = .ok (.aload_n 0, 1) := by decide +kernel
theorem d35_62 : decode prog_11_method_11_code 62 = .ok (.getfield 39, 3) := by decide +kernel
theorem d35_65 : decode prog_11_method_11_code 65 = .ok (.iload_n 2, 1) := by decide +kernel
theorem d35_66 : decode prog_11_method_11_code 66 = .ok (.iconst 0, 1) := by decide +kernel
theorem d35_67 : decode prog_11_method_11_code 67 = .ok (.iastore, 1) := by decide +kernel
theorem d35_68 : decode prog_11_method_11_code 68 = .ok (.aload_n 0, 1) := by decide +kernel
theorem d35_69 : decode prog_11_method_11_code 69 = .ok (.invokevirtual 127, 3) := by decide +kernel
theorem d35_72 : decode prog_11_method_11_code 72 = .ok (.iload_n 1, 1) := by decide +kernel
theorem d35_73 : decode prog_11_method_11_code 73 = .ok (.iconst 1, 1) := by decide +kernel
theorem d35_74 : decode prog_11_method_11_code 74 = .ok (.isub, 1) := by decide +kernel
theorem d35_75 : decode prog_11_method_11_code 75 = .ok (.if_icmp .gt 16, 3) := by decide +kernel
theorem d35_78 : decode prog_11_method_11_code 78 = .ok (.aload_n 0, 1) := by decide +kernel
theorem d35_79 : decode prog_11_method_11_code 79 = .ok (.getfield 27, 3) := by decide +kernel
theorem d35_82 : decode prog_11_method_11_code 82 = .ok (.iload_n 2, 1) := by decide +kernel
theorem d35_83 : decode prog_11_method_11_code 83 = .ok (.iconst 1, 1) := by decide +kernel
theorem d35_84 : decode prog_11_method_11_code 84 = .ok (.bastore, 1) := by decide +kernel
theorem d35_85 : decode prog_11_method_11_code 85 = .ok (.iinc 1 (-1), 3) := by decide +kernel
theorem d35_88 : decode prog_11_method_11_code 88 = .ok (.goto 12, 3) := by decide +kernel
theorem d35_91 : decode prog_11_method_11_code 91 = .ok (.aload_n 0, 1) := by decide +kernel
theorem d35_92 : decode prog_11_method_11_code 92 = .ok (.getfield 39, 3) := by decide +kernel
theorem d35_95 : decode prog_11_method_11_code 95 = .ok (.iload_n 2, 1) := by decide +kernel
theorem d35_96 : decode prog_11_method_11_code 96 = .ok (.sipush 1000, 3) := by decide +kernel
theorem d35_99 : decode prog_11_method_11_code 99 = .ok (.iastore, 1) := by decide +kernel
theorem d35_100 : decode prog_11_method_11_code 100 = .ok (.iinc 2 1, 3) := by decide +kernel
theorem d35_103 : decode prog_11_method_11_code 103 = .ok (.goto (-66), 3) := by decide +kernel
theorem d35_106 : decode prog_11_method_11_code 106 = .ok (.iconst 0, 1) := by decide +kernel
theorem d35_107 : decode prog_11_method_11_code 107 = .ok (.istore_n 2, 1) := by decide +kernel
theorem d35_108 : decode prog_11_method_11_code 108 = .ok (.iload_n 2, 1) := by decide +kernel
theorem d35_109 : decode prog_11_method_11_code 109 = .ok (.aload_n 0, 1) := by decide +kernel
theorem d35_110 : decode prog_11_method_11_code 110 = .ok (.getfield 110, 3) := by decide +kernel
theorem d35_113 : decode prog_11_method_11_code 113 = .ok (.if_icmp .ge 69, 3) := by decide +kernel
theorem d35_116 : decode prog_11_method_11_code 116 = .ok (.aload_n 0, 1) := by decide +kernel
theorem d35_117 : decode prog_11_method_11_code 117 = .ok (.getfield 33, 3) := by decide +kernel
theorem d35_120 : decode prog_11_method_11_code 120 = .ok (.iload_n 2, 1) := by decide +kernel
theorem d35_121 : decode prog_11_method_11_code 121 = .ok (.aload_n 0, 1) := by decide +kernel
theorem d35_122 : decode prog_11_method_11_code 122 = .ok (.getfield 27, 3) := by decide +kernel
theorem d35_125 : decode prog_11_method_11_code 125 = .ok (.iload_n 2, 1) := by decide +kernel
theorem d35_126 : decode prog_11_method_11_code 126 = .ok (.baload, 1) := by decide +kernel
theorem d35_127 : decode prog_11_method_11_code 127 = .ok (.ifCond .eq 12, 3) := by decide +kernel
theorem d35_130 : decode prog_11_method_11_code 130 = .ok (.aload_n 0, 1) := by decide +kernel
theorem d35_131 : decode prog_11_method_11_code 131 = .ok (.getfield 16, 3) := by decide +kernel
theorem d35_134 : decode prog_11_method_11_code 134 = .ok (.iload_n 2, 1) := by decide +kernel
theorem d35_135 : decode prog_11_method_11_code 135 = .ok (.iaload, 1) := by decide +kernel
theorem d35_136 : decode prog_11_method_11_code 136 = .ok (.goto 9, 3) := by decide +kernel
theorem d35_139 : decode prog_11_method_11_code 139 = .ok (.aload_n 0, 1) := by decide +kernel
theorem d35_140 : decode prog_11_method_11_code 140 = .ok (.getfield 13, 3) := by decide +kernel
theorem d35_143 : decode prog_11_method_11_code 143 = .ok (.iload_n 2, 1) := by decide +kernel
theorem d35_144 : decode prog_11_method_11_code 144 = .ok (.iaload, 1) := by decide +kernel
theorem d35_145 : decode prog_11_method_11_code 145 = .ok (.iastore, 1) := by decide +kernel
theorem d35_146 : decode prog_11_method_11_code 146 = .ok (.aload_n 0, 1) := by decide +kernel
theorem d35_147 : decode prog_11_method_11_code 147 = .ok (.getfield 36, 3) := by decide +kernel
theorem d35_150 : decode prog_11_method_11_code 150 = .ok (.iload_n 2, 1) := by decide +kernel
theorem d35_151 : decode prog_11_method_11_code 151 = .ok (.aload_n 0, 1) := by decide +kernel
theorem d35_152 : decode prog_11_method_11_code 152 = .ok (.getfield 27, 3) := by decide +kernel
theorem d35_155 : decode prog_11_method_11_code 155 = .ok (.iload_n 2, 1) := by decide +kernel
theorem d35_156 : decode prog_11_method_11_code 156 = .ok (.baload, 1) := by decide +kernel
theorem d35_157 : decode prog_11_method_11_code 157 = .ok (.ifCond .eq 12, 3) := by decide +kernel
theorem d35_160 : decode prog_11_method_11_code 160 = .ok (.aload_n 0, 1) := by decide +kernel
theorem d35_161 : decode prog_11_method_11_code 161 = .ok (.getfield 13, 3) := by decide +kernel
theorem d35_164 : decode prog_11_method_11_code 164 = .ok (.iload_n 2, 1) := by decide +kernel
theorem d35_165 : decode prog_11_method_11_code 165 = .ok (.iaload, 1) := by decide +kernel
theorem d35_166 : decode prog_11_method_11_code 166 = .ok (.goto 9, 3) := by decide +kernel
theorem d35_169 : decode prog_11_method_11_code 169 = .ok (.aload_n 0, 1) := by decide +kernel
theorem d35_170 : decode prog_11_method_11_code 170 = .ok (.getfield 16, 3) := by decide +kernel
theorem d35_173 : decode prog_11_method_11_code 173 = .ok (.iload_n 2, 1) := by decide +kernel
theorem d35_174 : decode prog_11_method_11_code 174 = .ok (.iaload, 1) := by decide +kernel
theorem d35_175 : decode prog_11_method_11_code 175 = .ok (.iastore, 1) := by decide +kernel
theorem d35_176 : decode prog_11_method_11_code 176 = .ok (.iinc 2 1, 3) := by decide +kernel
theorem d35_179 : decode prog_11_method_11_code 179 = .ok (.goto (-71), 3) := by decide +kernel
theorem d35_182 : decode prog_11_method_11_code 182 = .ok (.return_, 1) := by decide +kernel
theorem d36_0 : decode prog_11_method_12_code 0 = .ok (.iconst 0, 1) := by decide +kernel
theorem d36_1 : decode prog_11_method_12_code 1 = .ok (.istore_n 2, 1) := by decide +kernel
theorem d36_2 : decode prog_11_method_12_code 2 = .ok (.iconst 0, 1) := by decide +kernel
theorem d36_3 : decode prog_11_method_12_code 3 = .ok (.istore_n 3, 1) := by decide +kernel
theorem d36_4 : decode prog_11_method_12_code 4 = .ok (.iload_n 3, 1) := by decide +kernel
theorem d36_5 : decode prog_11_method_12_code 5 = .ok (.aload_n 0, 1) := by decide +kernel
theorem d36_6 : decode prog_11_method_12_code 6 = .ok (.getfield 110, 3) := by decide +kernel
theorem d36_9 : decode prog_11_method_12_code 9 = .ok (.if_icmp .ge 42, 3) := by decide +kernel
theorem d36_12 : decode prog_11_method_12_code 12 = .ok (.iload_n 2, 1) := by decide +kernel
theorem d36_13 : decode prog_11_method_12_code 13 = .ok (.aload_n 0, 1) := by decide +kernel
theorem d36_14 : decode prog_11_method_12_code 14 = .ok (.getfield 19, 3) := by decide +kernel
theorem d36_17 : decode prog_11_method_12_code 17 = .ok (.iload_n 3, 1) := by decide +kernel
theorem d36_18 : decode prog_11_method_12_code 18 = .ok (.baload, 1) := by decide +kernel
theorem d36_19 : decode prog_11_method_12_code 19 = .ok (.ifCond .eq 23, 3) := by decide +kernel
theorem d36_22 : decode prog_11_method_12_code 22 = .ok (.aload_n 1, 1) := by decide +kernel
theorem d36_23 : decode prog_11_method_12_code 23 = .ok (.aload_n 0, 1) := by decide +kernel
theorem d36_24 : decode prog_11_method_12_code 24 = .ok (.getfield 36, 3) := by decide +kernel
theorem d36_27 : decode prog_11_method_12_code 27 = .ok (.iload_n 3, 1) := by decide +kernel
theorem d36_28 : decode prog_11_method_12_code 28 = .ok (.iaload, 1) := by decide +kernel
theorem d36_29 : decode prog_11_method_12_code 29 = .ok (.iaload, 1) := by decide +kernel
theorem d36_30 : decode prog_11_method_12_code 30 = .ok (.aload_n 1, 1) := by decide +kernel
theorem d36_31 : decode prog_11_method_12_code 31 = .ok (.aload_n 0, 1) := by decide +kernel
theorem d36_32 : decode prog_11_method_12_code 32 = .ok (.getfield 33, 3) := by decide +kernel
theorem d36_35 : decode prog_11_method_12_code 35 = .ok (.iload_n 3, 1) := by decide +kernel
theorem d36_36 : decode prog_11_method_12_code 36 = .ok (.iaload, 1) := by decide +kernel
theorem d36_37 : decode prog_11_method_12_code 37 = .ok (.iaload, 1) := by decide +kernel
theorem d36_38 : decode prog_11_method_12_code 38 = .ok (.isub, 1) := by decide +kernel
theorem d36_39 : decode prog_11_method_12_code 39 = .ok (.goto 4, 3) := by decide +kernel
theorem d36_42 : decode prog_11_method_12_code 42 = .ok (.iconst 0, 1) := by decide +kernel
theorem d36_43 : decode prog_11_method_12_code 43 = .ok (.iadd, 1) := by decide +kernel
theorem d36_44 : decode prog_11_method_12_code 44 = .ok (.istore_n 2, 1) := by decide +kernel
theorem d36_45 : decode prog_11_method_12_code 45 = .ok (.iinc 3 1, 3) := by decide +kernel
theorem d36_48 : decode prog_11_method_12_code 48 = .ok (.goto (-44), 3) := by decide +kernel
theorem d36_51 : decode prog_11_method_12_code 51 = .ok (.iload_n 2, 1) := by decide +kernel
theorem d36_52 : decode prog_11_method_12_code 52 = .ok (.ireturn, 1) := by decide +kernel
theorem d37_0 : decode prog_11_method_13_code 0 = .ok (.iconst 0, 1) := by decide +kernel
theorem d37_1 : decode prog_11_method_13_code 1 = .ok (.istore_n 3, 1) := by decide +kernel
theorem d37_2 : decode prog_11_method_13_code 2 = .ok (.iconst 0, 1) := by decide +kernel
theorem d37_3 : decode prog_11_method_13_code 3 = .ok (.istore 4, 2) := by decide +kernel
theorem d37_5 : decode prog_11_method_13_code 5 = .ok (.iload 4, 2) := by decide +kernel
theorem d37_7 : decode prog_11_method_13_code 7 = .ok (.aload_n 0, 1) := by decide +kernel
theorem d37_8 : decode prog_11_method_13_code 8 = .ok (.getfield 110, 3) := by decide +kernel
theorem d37_11 : decode prog_11_method_13_code 11 = .ok (.if_icmp .ge 92, 3) := by decide +kernel
theorem d37_14 : decode prog_11_method_13_code 14 = .ok (.aload_n 0, 1) := by decide +kernel
theorem d37_15 : decode prog_11_method_13_code 15 = .ok (.getfield 19, 3) := by decide +kernel
theorem d37_18 : decode prog_11_method_13_code 18 = .ok (.iload 4, 2) := by decide +kernel
theorem d37_20 : decode prog_11_method_13_code 20 = .ok (.baload, 1) := by decide +kernel
theorem d37_21 : decode prog_11_method_13_code 21 = .ok (.ifCond .eq 31, 3) := by decide +kernel
theorem d37_24 : decode prog_11_method_13_code 24 = .ok (.iload_n 2, 1) := by decide +kernel
theorem d37_25 : decode prog_11_method_13_code 25 = .ok (.iload_n 1, 1) := by decide +kernel
theorem d37_26 : decode prog_11_method_13_code 26 = .ok (.aload_n 0, 1) := by decide +kernel
theorem d37_27 : decode prog_11_method_13_code 27 = .ok (.getfield 36, 3) := by decide +kernel
theorem d37_30 : decode prog_11_method_13_code 30 = .ok (.iload 4, 2) := by decide +kernel
theorem d37_32 : decode prog_11_method_13_code 32 = .ok (.iaload, 1) := by decide +kernel
theorem d37_33 : decode prog_11_method_13_code 33 = .ok (.ishr, 1) := by decide +kernel
theorem d37_34 : decode prog_11_method_13_code 34 = .ok (.iconst 1, 1) := by decide +kernel
theorem d37_35 : decode prog_11_method_13_code 35 = .ok (.iand, 1) := by decide +kernel
theorem d37_36 : decode prog_11_method_13_code 36 = .ok (.iload_n 1, 1) := by decide +kernel
theorem d37_37 : decode prog_11_method_13_code 37 = .ok (.aload_n 0, 1) := by decide +kernel
theorem d37_38 : decode prog_11_method_13_code 38 = .ok (.getfield 33, 3) := by decide +kernel
theorem d37_41 : decode prog_11_method_13_code 41 = .ok (.iload 4, 2) := by decide +kernel
theorem d37_43 : decode prog_11_method_13_code 43 = .ok (.iaload, 1) := by decide +kernel
theorem d37_44 : decode prog_11_method_13_code 44 = .ok (.ishr, 1) := by decide +kernel
theorem d37_45 : decode prog_11_method_13_code 45 = .ok (.iconst 1, 1) := by decide +kernel
theorem d37_46 : decode prog_11_method_13_code 46 = .ok (.iand, 1) := by decide +kernel
theorem d37_47 : decode prog_11_method_13_code 47 = .ok (.isub, 1) := by decide +kernel
theorem d37_48 : decode prog_11_method_13_code 48 = .ok (.imul, 1) := by decide +kernel
theorem d37_49 : decode prog_11_method_13_code 49 = .ok (.goto 4, 3) := by decide +kernel
theorem d37_52 : decode prog_11_method_13_code 52 = .ok (.iconst 0, 1) := by decide +kernel
theorem d37_53 : decode prog_11_method_13_code 53 = .ok (.istore 5, 2) := by decide +kernel
theorem d37_55 : decode prog_11_method_13_code 55 = .ok (.iload 5, 2) := by decide +kernel
theorem d37_57 : decode prog_11_method_13_code 57 = .ok (.ifCond .ge 35, 3) := by decide +kernel
theorem d37_60 : decode prog_11_method_13_code 60 = .ok (.aload_n 0, 1) := by decide +kernel
theorem d37_61 : decode prog_11_method_13_code 61 = .ok (.getfield 30, 3) := by decide +kernel
theorem d37_64 : decode prog_11_method_13_code 64 = .ok (.aload_n 0, 1) := by decide +kernel
theorem d37_65 : decode prog_11_method_13_code 65 = .ok (.getfield 36, 3) := by decide +kernel
theorem d37_68 : decode prog_11_method_13_code 68 = .ok (.iload 4, 2) := by decide +kernel
theorem d37_70 : decode prog_11_method_13_code 70 = .ok (.iaload, 1) := by decide +kernel
theorem d37_71 : decode prog_11_method_13_code 71 = .ok (.iaload, 1) := by decide +kernel
theorem d37_72 : decode prog_11_method_13_code 72 = .ok (.aload_n 0, 1) := by decide +kernel
theorem d37_73 : decode prog_11_method_13_code 73 = .ok (.getfield 30, 3) := by decide +kernel
theorem d37_76 : decode prog_11_method_13_code 76 = .ok (.aload_n 0, 1) := by decide +kernel
theorem d37_77 : decode prog_11_method_13_code 77 = .ok (.getfield 33, 3) := by decide +kernel
theorem d37_80 : decode prog_11_method_13_code 80 = .ok (.iload 4, 2) := by decide +kernel
theorem d37_82 : decode prog_11_method_13_code 82 = .ok (.iaload, 1) := by decide +kernel
theorem d37_83 : decode prog_11_method_13_code 83 = .ok (.iaload, 1) := by decide +kernel
theorem d37_84 : decode prog_11_method_13_code 84 = .ok (.isub, 1) := by decide +kernel
theorem d37_85 : decode prog_11_method_13_code 85 = .ok (.iconst 1, 1) := by decide +kernel
theorem d37_86 : decode prog_11_method_13_code 86 = .ok (.if_icmp .ne 6, 3) := by decide +kernel
theorem d37_89 : decode prog_11_method_13_code 89 = .ok (.bipush 100, 2) := by decide +kernel
theorem d37_91 : decode prog_11_method_13_code 91 = .ok (.ireturn, 1) := by decide +kernel
theorem d37_92 : decode prog_11_method_13_code 92 = .ok (.iload_n 3, 1) := by decide +kernel
theorem d37_93 : decode prog_11_method_13_code 93 = .ok (.iload 5, 2) := by decide +kernel
theorem d37_95 : decode prog_11_method_13_code 95 = .ok (.iadd, 1) := by decide +kernel
theorem d37_96 : decode prog_11_method_13_code 96 = .ok (.istore_n 3, 1) := by decide +kernel
theorem d37_97 : decode prog_11_method_13_code 97 = .ok (.iinc 4 1, 3) := by decide +kernel
theorem d37_100 : decode prog_11_method_13_code 100 = .ok (.goto (-95), 3) := by decide +kernel
theorem d37_103 : decode prog_11_method_13_code 103 = .ok (.iload_n 3, 1) := by decide +kernel
theorem d37_104 : decode prog_11_method_13_code 104 = .ok (.ireturn, 1) := by decide +kernel
theorem d38_0 : decode prog_11_method_14_code 0 = .ok (.iconst 0, 1) := by decide +kernel
theorem d38_1 : decode prog_11_method_14_code 1 = .ok (.istore_n 2, 1) := by decide +kernel
theorem d38_2 : decode prog_11_method_14_code 2 = .ok (.iload_n 2, 1) := by decide +kernel
theorem d38_3 : decode prog_11_method_14_code 3 = .ok (.aload_n 0, 1) := by decide +kernel
theorem d38_4 : decode prog_11_method_14_code 4 = .ok (.getfield 106, 3) := by decide +kernel
theorem d38_7 : decode prog_11_method_14_code 7 = .ok (.if_icmp .ge 29, 3) := by decide +kernel
theorem d38_10 : decode prog_11_method_14_code 10 = .ok (.iload_n 1, 1) := by decide +kernel
theorem d38_11 : decode prog_11_method_14_code 11 = .ok (.iload_n 2, 1) := by decide +kernel
theorem d38_12 : decode prog_11_method_14_code 12 = .ok (.ishr, 1) := by decide +kernel
theorem d38_13 : decode prog_11_method_14_code 13 = .ok (.iconst 1, 1) := by decide +kernel
theorem d38_14 : decode prog_11_method_14_code 14 = .ok (.iand, 1) := by decide +kernel
theorem d38_15 : decode prog_11_method_14_code 15 = .ok (.iconst 1, 1) := by decide +kernel
theorem d38_16 : decode prog_11_method_14_code 16 = .ok (.if_icmp .ne 14, 3) := by decide +kernel
theorem d38_19 : decode prog_11_method_14_code 19 = .ok (.aload_n 0, 1) := by decide +kernel
theorem d38_20 : decode prog_11_method_14_code 20 = .ok (.getfield 30, 3) := by decide +kernel
theorem d38_23 : decode prog_11_method_14_code 23 = .ok (.iload_n 2, 1) := by decide +kernel
theorem d38_24 : decode prog_11_method_14_code 24 = .ok (.iaload, 1) := by decide +kernel
theorem d38_25 : decode prog_11_method_14_code 25 = .ok (.ifCond .ne 5, 3) := by decide +kernel
theorem d38_28 : decode prog_11_method_14_code 28 = .ok (.iconst 0, 1) := by decide +kernel
theorem d38_29 : decode prog_11_method_14_code 29 = .ok (.ireturn, 1) := by decide +kernel
theorem d38_30 : decode prog_11_method_14_code 30 = .ok (.iinc 2 1, 3) := by decide +kernel
theorem d38_33 : decode prog_11_method_14_code 33 = .ok (.goto (-31), 3) := by decide +kernel
theorem d38_36 : decode prog_11_method_14_code 36 = .ok (.iconst 1, 1) := by decide +kernel
theorem d38_37 : decode prog_11_method_14_code 37 = .ok (.ireturn, 1) := by decide +kernel
theorem d39_0 : decode prog_11_method_15_code 0 = .ok (.iconst 0, 1) := by decide +kernel
theorem d39_1 : decode prog_11_method_15_code 1 = .ok (.istore_n 3, 1) := by decide +kernel
theorem d39_2 : decode prog_11_method_15_code 2 = .ok (.iload_n 3, 1) := by decide +kernel
theorem d39_3 : decode prog_11_method_15_code 3 = .ok (.aload_n 0, 1) := by decide +kernel
theorem d39_4 : decode prog_11_method_15_code 4 = .ok (.getfield 106, 3) := by decide +kernel
theorem d39_7 : decode prog_11_method_15_code 7 = .ok (.if_icmp .ge 32, 3) := by decide +kernel
theorem d39_10 : decode prog_11_method_15_code 10 = .ok (.aload_n 0, 1) := by decide +kernel
theorem d39_11 : decode prog_11_method_15_code 11 = .ok (.getfield 30, 3) := by decide +kernel
theorem d39_14 : decode prog_11_method_15_code 14 = .ok (.iload_n 3, 1) := by decide +kernel
theorem d39_15 : decode prog_11_method_15_code 15 = .ok (.dup2, 1) := by decide +kernel
theorem d39_16 : decode prog_11_method_15_code 16 = .ok (.iaload, 1) := by decide +kernel
theorem d39_17 : decode prog_11_method_15_code 17 = .ok (.iload_n 1, 1) := by decide +kernel
theorem d39_18 : decode prog_11_method_15_code 18 = .ok (.iload_n 3, 1) := by decide +kernel
theorem d39_19 : decode prog_11_method_15_code 19 = .ok (.ishr, 1) := by decide +kernel
theorem d39_20 : decode prog_11_method_15_code 20 = .ok (.iconst 1, 1) := by decide +kernel
theorem d39_21 : decode prog_11_method_15_code 21 = .ok (.iand, 1) := by decide +kernel
theorem d39_22 : decode prog_11_method_15_code 22 = .ok (.iconst 1, 1) := by decide +kernel
theorem d39_23 : decode prog_11_method_15_code 23 = .ok (.if_icmp .ne 7, 3) := by decide +kernel
theorem d39_26 : decode prog_11_method_15_code 26 = .ok (.iload_n 2, 1) := by decide +kernel
theorem d39_27 : decode prog_11_method_15_code 27 = .ok (.goto 4, 3) := by decide +kernel
theorem d39_30 : decode prog_11_method_15_code 30 = .ok (.iconst 0, 1) := by decide +kernel
theorem d39_31 : decode prog_11_method_15_code 31 = .ok (.iadd, 1) := by decide +kernel
theorem d39_32 : decode prog_11_method_15_code 32 = .ok (.iastore, 1) := by decide +kernel
theorem d39_33 : decode prog_11_method_15_code 33 = .ok (.iinc 3 1, 3) := by decide +kernel
theorem d39_36 : decode prog_11_method_15_code 36 = .ok (.goto (-34), 3) := by decide +kernel
theorem d39_39 : decode prog_11_method_15_code 39 = .ok (.return_, 1) := by decide +kernel
theorem d40_0 : decode prog_11_method_16_code 0 = .ok (.iconst 0, 1) := by decide +kernel
theorem d40_1 : decode prog_11_method_16_code 1 = .ok (.istore_n 1, 1) := by decide +kernel
theorem d40_2 : decode prog_11_method_16_code 2 = .ok (.iload_n 1, 1) := by decide +kernel
theorem d40_3 : decode prog_11_method_16_code 3 = .ok (.aload_n 0, 1) := by decide +kernel
theorem d40_4 : decode prog_11_method_16_code 4 = .ok (.getfield 106, 3) := by decide +kernel
theorem d40_7 : decode prog_11_method_16_code 7 = .ok (.if_icmp .ge 16, 3) := by decide +kernel
theorem d40_10 : decode prog_11_method_16_code 10 = .ok (.aload_n 0, 1) := by decide +kernel
theorem d40_11 : decode prog_11_method_16_code 11 = .ok (.getfield 30, 3) := by decide +kernel
theorem d40_14 : decode prog_11_method_16_code 14 = .ok (.iload_n 1, 1) := by decide +kernel
theorem d40_15 : decode prog_11_method_16_code 15 = .ok (.iconst 0, 1) := by decide +kernel
theorem d40_16 : decode prog_11_method_16_code 16 = .ok (.iastore, 1) := by decide +kernel
theorem d40_17 : decode prog_11_method_16_code 17 = .ok (.iinc 1 1, 3) := by decide +kernel
theorem d40_20 : decode prog_11_method_16_code 20 = .ok (.goto (-18), 3) := by decide +kernel
theorem d40_23 : decode prog_11_method_16_code 23 = .ok (.iconst 0, 1) := by decide +kernel
theorem d40_24 : decode prog_11_method_16_code 24 = .ok (.istore_n 1, 1) := by decide +kernel
theorem d40_25 : decode prog_11_method_16_code 25 = .ok (.iload_n 1, 1) := by decide +kernel
theorem d40_26 : decode prog_11_method_16_code 26 = .ok (.aload_n 0, 1) := by decide +kernel
theorem d40_27 : decode prog_11_method_16_code 27 = .ok (.getfield 106, 3) := by decide +kernel
theorem d40_30 : decode prog_11_method_16_code 30 = .ok (.if_icmp .gt 83, 3) := by decide +kernel
theorem d40_33 : decode prog_11_method_16_code 33 = .ok (.iconst 0, 1) := by decide +kernel
theorem d40_34 : decode prog_11_method_16_code 34 = .ok (.istore_n 2, 1) := by decide +kernel
theorem d40_35 : decode prog_11_method_16_code 35 = .ok (.iload_n 2, 1) := by decide +kernel
theorem d40_36 : decode prog_11_method_16_code 36 = .ok (.aload_n 0, 1) := by decide +kernel
theorem d40_37 : decode prog_11_method_16_code 37 = .ok (.getfield 110, 3) := by decide +kernel
theorem d40_40 : decode prog_11_method_16_code 40 = .ok (.if_icmp .ge 67, 3) := by decide +kernel
theorem d40_43 : decode prog_11_method_16_code 43 = .ok (.aload_n 0, 1) := by decide +kernel
theorem d40_44 : decode prog_11_method_16_code 44 = .ok (.getfield 19, 3) := by decide +kernel
theorem d40_47 : decode prog_11_method_16_code 47 = .ok (.iload_n 2, 1) := by decide +kernel
theorem d40_48 : decode prog_11_method_16_code 48 = .ok (.baload, 1) := by decide +kernel
theorem d40_49 : decode prog_11_method_16_code 49 = .ok (.ifCond .eq 52, 3) := by decide +kernel
theorem d40_52 : decode prog_11_method_16_code 52 = .ok (.aload_n 0, 1) := by decide +kernel
theorem d40_53 : decode prog_11_method_16_code 53 = .ok (.getfield 30, 3) := by decide +kernel
theorem d40_56 : decode prog_11_method_16_code 56 = .ok (.aload_n 0, 1) := by decide +kernel
theorem d40_57 : decode prog_11_method_16_code 57 = .ok (.getfield 36, 3) := by decide +kernel
theorem d40_60 : decode prog_11_method_16_code 60 = .ok (.iload_n 2, 1) := by decide +kernel
theorem d40_61 : decode prog_11_method_16_code 61 = .ok (.iaload, 1) := by decide +kernel
theorem d40_62 : decode prog_11_method_16_code 62 = .ok (.iaload, 1) := by decide +kernel
theorem d40_63 : decode prog_11_method_16_code 63 = .ok (.aload_n 0, 1) := by decide +kernel
theorem d40_64 : decode prog_11_method_16_code 64 = .ok (.getfield 30, 3) := by decide +kernel
theorem d40_67 : decode prog_11_method_16_code 67 = .ok (.aload_n 0, 1) := by decide +kernel
theorem d40_68 : decode prog_11_method_16_code 68 = .ok (.getfield 33, 3) := by decide +kernel
theorem d40_71 : decode prog_11_method_16_code 71 = .ok (.iload_n 2, 1) := by decide +kernel
theorem d40_72 : decode prog_11_method_16_code 72 = .ok (.iaload, 1) := by decide +kernel
theorem d40_73 : decode prog_11_method_16_code 73 = .ok (.iaload, 1) := by decide +kernel
theorem d40_74 : decode prog_11_method_16_code 74 = .ok (.if_icmp .gt 27, 3) := by decide +kernel
theorem d40_77 : decode prog_11_method_16_code 77 = .ok (.aload_n 0, 1) := by decide +kernel
theorem d40_78 : decode prog_11_method_16_code 78 = .ok (.getfield 30, 3) := by decide +kernel
theorem d40_81 : decode prog_11_method_16_code 81 = .ok (.aload_n 0, 1) := by decide +kernel
theorem d40_82 : decode prog_11_method_16_code 82 = .ok (.getfield 36, 3) := by decide +kernel
theorem d40_85 : decode prog_11_method_16_code 85 = .ok (.iload_n 2, 1) := by decide +kernel
theorem d40_86 : decode prog_11_method_16_code 86 = .ok (.iaload, 1) := by decide +kernel
theorem d40_87 : decode prog_11_method_16_code 87 = .ok (.aload_n 0, 1) := by decide +kernel
theorem d40_88 : decode prog_11_method_16_code 88 = .ok (.getfield 30, 3) := by decide +kernel
theorem d40_91 : decode prog_11_method_16_code 91 = .ok (.aload_n 0, 1) := by decide +kernel
theorem d40_92 : decode prog_11_method_16_code 92 = .ok (.getfield 33, 3) := by decide +kernel
theorem d40_95 : decode prog_11_method_16_code 95 = .ok (.iload_n 2, 1) := by decide +kernel
theorem d40_96 : decode prog_11_method_16_code 96 = .ok (.iaload, 1) := by decide +kernel
theorem d40_97 : decode prog_11_method_16_code 97 = .ok (.iaload, 1) := by decide +kernel
theorem d40_98 : decode prog_11_method_16_code 98 = .ok (.iconst 1, 1) := by decide +kernel
theorem d40_99 : decode prog_11_method_16_code 99 = .ok (.iadd, 1) := by decide +kernel
theorem d40_100 : decode prog_11_method_16_code 100 = .ok (.iastore, 1) := by decide +kernel
theorem d40_101 : decode prog_11_method_16_code 101 = .ok (.iinc 2 1, 3) := by decide +kernel
theorem d40_104 : decode prog_11_method_16_code 104 = .ok (.goto (-69), 3) := by decide +kernel
theorem d40_107 : decode prog_11_method_16_code 107 = .ok (.iinc 1 1, 3) := by decide +kernel
theorem d40_110 : decode prog_11_method_16_code 110 = .ok (.goto (-85), 3) := by decide +kernel
theorem d40_113 : decode prog_11_method_16_code 113 = .ok (.iconst 1, 1) := by decide +kernel
theorem d40_114 : decode prog_11_method_16_code 114 = .ok (.istore_n 1, 1) := by decide +kernel
theorem d40_115 : decode prog_11_method_16_code 115 = .ok (.iload_n 1, 1) := by decide +kernel
theorem d40_116 : decode prog_11_method_16_code 116 = .ok (.ifCond .eq 68, 3) := by decide +kernel
theorem d40_119 : decode prog_11_method_16_code 119 = .ok (.iconst 0, 1) := by decide +kernel
theorem d40_120 : decode prog_11_method_16_code 120 = .ok (.istore_n 1, 1) := by decide +kernel
theorem d40_121 : decode prog_11_method_16_code 121 = .ok (.iconst 1, 1) := by decide +kernel
theorem d40_122 : decode prog_11_method_16_code 122 = .ok (.istore_n 2, 1) := by decide +kernel
theorem d40_123 : decode prog_11_method_16_code 123 = .ok (.iload_n 2, 1) := by decide +kernel
theorem d40_124 : decode prog_11_method_16_code 124 = .ok (.iconst 1, 1) := by decide +kernel
theorem d40_125 : decode prog_11_method_16_code 125 = .ok (.aload_n 0, 1) := by decide +kernel
theorem d40_126 : decode prog_11_method_16_code 126 = .ok (.getfield 106, 3) := by decide +kernel
theorem d40_129 : decode prog_11_method_16_code 129 = .ok (.ishl, 1) := by decide +kernel
theorem d40_130 : decode prog_11_method_16_code 130 = .ok (.if_icmp .ge 51, 3) := by decide +kernel
theorem d40_133 : decode prog_11_method_16_code 133 = .ok (.aload_n 0, 1) := by decide +kernel
theorem d40_134 : decode prog_11_method_16_code 134 = .ok (.iload_n 2, 1) := by decide +kernel
theorem d40_135 : decode prog_11_method_16_code 135 = .ok (.iconst 1, 1) := by decide +kernel
theorem d40_136 : decode prog_11_method_16_code 136 = .ok (.invokevirtual 131, 3) := by decide +kernel
theorem d40_139 : decode prog_11_method_16_code 139 = .ok (.ifCond .ge 11, 3) := by decide +kernel
theorem d40_142 : decode prog_11_method_16_code 142 = .ok (.aload_n 0, 1) := by decide +kernel
theorem d40_143 : decode prog_11_method_16_code 143 = .ok (.iload_n 2, 1) := by decide +kernel
theorem d40_144 : decode prog_11_method_16_code 144 = .ok (.iconst 1, 1) := by decide +kernel
theorem d40_145 : decode prog_11_method_16_code 145 = .ok (.invokevirtual 135, 3) := by decide +kernel
theorem d40_148 : decode prog_11_method_16_code 148 = .ok (.iconst 1, 1) := by decide +kernel
theorem d40_149 : decode prog_11_method_16_code 149 = .ok (.istore_n 1, 1) := by decide +kernel
theorem d40_150 : decode prog_11_method_16_code 150 = .ok (.aload_n 0, 1) := by decide +kernel
theorem d40_151 : decode prog_11_method_16_code 151 = .ok (.iload_n 2, 1) := by decide +kernel
theorem d40_152 : decode prog_11_method_16_code 152 = .ok (.invokevirtual 139, 3) := by decide +kernel
theorem d40_155 : decode prog_11_method_16_code 155 = .ok (.ifCond .eq 20, 3) := by decide +kernel
theorem d40_158 : decode prog_11_method_16_code 158 = .ok (.aload_n 0, 1) := by decide +kernel
theorem d40_159 : decode prog_11_method_16_code 159 = .ok (.iload_n 2, 1) := by decide +kernel
theorem d40_160 : decode prog_11_method_16_code 160 = .ok (.iconst (-1), 1) := by decide +kernel
theorem d40_161 : decode prog_11_method_16_code 161 = .ok (.invokevirtual 131, 3) := by decide +kernel
theorem d40_164 : decode prog_11_method_16_code 164 = .ok (.ifCond .gt 11, 3) := by decide +kernel
theorem d40_167 : decode prog_11_method_16_code 167 = .ok (.aload_n 0, 1) := by decide +kernel
theorem d40_168 : decode prog_11_method_16_code 168 = .ok (.iload_n 2, 1) := by decide +kernel
theorem d40_169 : decode prog_11_method_16_code 169 = .ok (.iconst (-1), 1) := by decide +kernel
theorem d40_170 : decode prog_11_method_16_code 170 = .ok (.invokevirtual 135, 3) := by decide +kernel
theorem d40_173 : decode prog_11_method_16_code 173 = .ok (.iconst 1, 1) := by decide +kernel
theorem d40_174 : decode prog_11_method_16_code 174 = .ok (.istore_n 1, 1) := by decide +kernel
theorem d40_175 : decode prog_11_method_16_code 175 = .ok (.iinc 2 1, 3) := by decide +kernel
theorem d40_178 : decode prog_11_method_16_code 178 = .ok (.goto (-55), 3) := by decide +kernel
theorem d40_181 : decode prog_11_method_16_code 181 = .ok (.goto (-66), 3) := by decide +kernel
theorem d40_184 : decode prog_11_method_16_code 184 = .ok (.return_, 1) := by decide +kernel
theorem d41_0 : decode prog_11_method_17_code 0 = .ok (.aload_n 0, 1) := by decide +kernel
theorem d41_1 : decode prog_11_method_17_code 1 = .ok (.getfield 23, 3) := by decide +kernel
theorem d41_4 : decode prog_11_method_17_code 4 = .ok (.ifCond .ne 4, 3) := by decide +kernel
theorem d41_7 : decode prog_11_method_17_code 7 = .ok (.return_, 1) := by decide +kernel
theorem d41_8 : decode prog_11_method_17_code 8 = .ok (.aload_n 0, 1) := by decide +kernel
theorem d41_9 : decode prog_11_method_17_code 9 = .ok (.iconst 0, 1) := by decide +kernel
theorem d41_10 : decode prog_11_method_17_code 10 = .ok (.putfield 23, 3) := by decide +kernel
theorem d41_13 : decode prog_11_method_17_code 13 = .ok (.aload_n 0, 1) := by decide +kernel
theorem d41_14 : decode prog_11_method_17_code 14 = .ok (.invokevirtual 142, 3) := by decide +kernel
theorem d41_17 : decode prog_11_method_17_code 17 = .ok (.aload_n 0, 1) := by decide +kernel
theorem d41_18 : decode prog_11_method_17_code 18 = .ok (.invokevirtual 145, 3) := by decide +kernel
theorem d41_21 : decode prog_11_method_17_code 21 = .ok (.return_, 1) := by decide +kernel
theorem d42_0 : decode prog_11_method_18_code 0 = .ok (.aload_n 0, 1) := by decide +kernel
theorem d42_1 : decode prog_11_method_18_code 1 = .ok (.invokevirtual 148, 3) := by decide +kernel
theorem d42_4 : decode prog_11_method_18_code 4 = .ok (.iconst 0, 1) := by decide +kernel
theorem d42_5 : decode prog_11_method_18_code 5 = .ok (.istore_n 1, 1) := by decide +kernel
theorem d42_6 : decode prog_11_method_18_code 6 = .ok (.iconst 0, 1) := by decide +kernel
theorem d42_7 : decode prog_11_method_18_code 7 = .ok (.istore_n 2, 1) := by decide +kernel
theorem d42_8 : decode prog_11_method_18_code 8 = .ok (.iload_n 2, 1) := by decide +kernel
theorem d42_9 : decode prog_11_method_18_code 9 = .ok (.aload_n 0, 1) := by decide +kernel
theorem d42_10 : decode prog_11_method_18_code 10 = .ok (.getfield 110, 3) := by decide +kernel
theorem d42_13 : decode prog_11_method_18_code 13 = .ok (.if_icmp .ge 35, 3) := by decide +kernel
theorem d42_16 : decode prog_11_method_18_code 16 = .ok (.iload_n 1, 1) := by decide +kernel
theorem d42_17 : decode prog_11_method_18_code 17 = .ok (.aload_n 0, 1) := by decide +kernel
theorem d42_18 : decode prog_11_method_18_code 18 = .ok (.getfield 19, 3) := by decide +kernel
theorem d42_21 : decode prog_11_method_18_code 21 = .ok (.iload_n 2, 1) := by decide +kernel
theorem d42_22 : decode prog_11_method_18_code 22 = .ok (.baload, 1) := by decide +kernel
theorem d42_23 : decode prog_11_method_18_code 23 = .ok (.ifCond .eq 16, 3) := by decide +kernel
theorem d42_26 : decode prog_11_method_18_code 26 = .ok (.aload_n 0, 1) := by decide +kernel
theorem d42_27 : decode prog_11_method_18_code 27 = .ok (.getfield 27, 3) := by decide +kernel
theorem d42_30 : decode prog_11_method_18_code 30 = .ok (.iload_n 2, 1) := by decide +kernel
theorem d42_31 : decode prog_11_method_18_code 31 = .ok (.baload, 1) := by decide +kernel
theorem d42_32 : decode prog_11_method_18_code 32 = .ok (.ifCond .eq 7, 3) := by decide +kernel
theorem d42_35 : decode prog_11_method_18_code 35 = .ok (.iconst 1, 1) := by decide +kernel
theorem d42_36 : decode prog_11_method_18_code 36 = .ok (.goto 4, 3) := by decide +kernel
theorem d42_39 : decode prog_11_method_18_code 39 = .ok (.iconst 0, 1) := by decide +kernel
theorem d42_40 : decode prog_11_method_18_code 40 = .ok (.iadd, 1) := by decide +kernel
theorem d42_41 : decode prog_11_method_18_code 41 = .ok (.istore_n 1, 1) := by decide +kernel
theorem d42_42 : decode prog_11_method_18_code 42 = .ok (.iinc 2 1, 3) := by decide +kernel
theorem d42_45 : decode prog_11_method_18_code 45 = .ok (.goto (-37), 3) := by decide +kernel
theorem d42_48 : decode prog_11_method_18_code 48 = .ok (.iload_n 1, 1) := by decide +kernel
theorem d42_49 : decode prog_11_method_18_code 49 = .ok (.ireturn, 1) := by decide +kernel
theorem d43_0 : decode prog_11_method_19_code 0 = .ok (.aload_n 0, 1) := by decide +kernel
theorem d43_1 : decode prog_11_method_19_code 1 = .ok (.iload_n 1, 1) := by decide +kernel
theorem d43_2 : decode prog_11_method_19_code 2 = .ok (.invokevirtual 123, 3) := by decide +kernel
theorem d43_5 : decode prog_11_method_19_code 5 = .ok (.ifCond .ne 5, 3) := by decide +kernel
theorem d43_8 : decode prog_11_method_19_code 8 = .ok (.iconst (-1), 1) := by decide +kernel
theorem d43_9 : decode prog_11_method_19_code 9 = .ok (.ireturn, 1) := by decide +kernel
theorem d43_10 : decode prog_11_method_19_code 10 = .ok (.aload_n 0, 1) := by decide +kernel
theorem d43_11 : decode prog_11_method_19_code 11 = .ok (.invokevirtual 148, 3) := by decide +kernel
theorem d43_14 : decode prog_11_method_19_code 14 = .ok (.aload_n 0, 1) := by decide +kernel
theorem d43_15 : decode prog_11_method_19_code 15 = .ok (.getfield 27, 3) := by decide +kernel
theorem d43_18 : decode prog_11_method_19_code 18 = .ok (.iload_n 1, 1) := by decide +kernel
theorem d43_19 : decode prog_11_method_19_code 19 = .ok (.baload, 1) := by decide +kernel
theorem d43_20 : decode prog_11_method_19_code 20 = .ok (.ifCond .eq 7, 3) := by decide +kernel
theorem d43_23 : decode prog_11_method_19_code 23 = .ok (.iconst 1, 1) := by decide +kernel
theorem d43_24 : decode prog_11_method_19_code 24 = .ok (.goto 4, 3) := by decide +kernel
theorem d43_27 : decode prog_11_method_19_code 27 = .ok (.iconst 0, 1) := by decide +kernel
theorem d43_28 : decode prog_11_method_19_code 28 = .ok (.ireturn, 1) := by decide +kernel
theorem d44_0 : decode prog_11_method_20_code 0 = .ok (.aload_n 0, 1) := by decide +kernel
theorem d44_1 : decode prog_11_method_20_code 1 = .ok (.iload_n 1, 1) := by decide +kernel
theorem d44_2 : decode prog_11_method_20_code 2 = .ok (.invokevirtual 116, 3) := by decide +kernel
theorem d44_5 : decode prog_11_method_20_code 5 = .ok (.ifCond .ne 5, 3) := by decide +kernel
theorem d44_8 : decode prog_11_method_20_code 8 = .ok (.iconst (-1), 1) := by decide +kernel
theorem d44_9 : decode prog_11_method_20_code 9 = .ok (.ireturn, 1) := by decide +kernel
theorem d44_10 : decode prog_11_method_20_code 10 = .ok (.aload_n 0, 1) := by decide +kernel
theorem d44_11 : decode prog_11_method_20_code 11 = .ok (.invokevirtual 148, 3) := by decide +kernel
theorem d44_14 : decode prog_11_method_20_code 14 = .ok (.aload_n 0, 1) := by decide +kernel
theorem d44_15 : decode prog_11_method_20_code 15 = .ok (.getfield 30, 3) := by decide +kernel
theorem d44_18 : decode prog_11_method_20_code 18 = .ok (.iload_n 1, 1) := by decide +kernel
theorem d44_19 : decode prog_11_method_20_code 19 = .ok (.iaload, 1) := by decide +kernel
theorem d44_20 : decode prog_11_method_20_code 20 = .ok (.ireturn, 1) := by decide +kernel
theorem d45_0 : decode prog_11_method_21_code 0 = .ok (.iconst (-1), 1) := by decide +kernel
theorem d45_1 : decode prog_11_method_21_code 1 = .ok (.istore_n 1, 1) := by decide +kernel
theorem d45_2 : decode prog_11_method_21_code 2 = .ok (.iconst 0, 1) := by decide +kernel
theorem d45_3 : decode prog_11_method_21_code 3 = .ok (.istore_n 2, 1) := by decide +kernel
theorem d45_4 : decode prog_11_method_21_code 4 = .ok (.iload_n 2, 1) := by decide +kernel
theorem d45_5 : decode prog_11_method_21_code 5 = .ok (.aload_n 0, 1) := by decide +kernel
theorem d45_6 : decode prog_11_method_21_code 6 = .ok (.getfield 106, 3) := by decide +kernel
theorem d45_9 : decode prog_11_method_21_code 9 = .ok (.if_icmp .ge 30, 3) := by decide +kernel
theorem d45_12 : decode prog_11_method_21_code 12 = .ok (.aload_n 0, 1) := by decide +kernel
theorem d45_13 : decode prog_11_method_21_code 13 = .ok (.getfield 30, 3) := by decide +kernel
theorem d45_16 : decode prog_11_method_21_code 16 = .ok (.iload_n 2, 1) := by decide +kernel
theorem d45_17 : decode prog_11_method_21_code 17 = .ok (.iaload, 1) := by decide +kernel
theorem d45_18 : decode prog_11_method_21_code 18 = .ok (.iload_n 1, 1) := by decide +kernel
theorem d45_19 : decode prog_11_method_21_code 19 = .ok (.if_icmp .le 12, 3) := by decide +kernel
theorem d45_22 : decode prog_11_method_21_code 22 = .ok (.aload_n 0, 1) := by decide +kernel
theorem d45_23 : decode prog_11_method_21_code 23 = .ok (.getfield 30, 3) := by decide +kernel
theorem d45_26 : decode prog_11_method_21_code 26 = .ok (.iload_n 2, 1) := by decide +kernel
theorem d45_27 : decode prog_11_method_21_code 27 = .ok (.iaload, 1) := by decide +kernel
theorem d45_28 : decode prog_11_method_21_code 28 = .ok (.goto 4, 3) := by decide +kernel
theorem d45_31 : decode prog_11_method_21_code 31 = .ok (.iload_n 1, 1) := by decide +kernel
theorem d45_32 : decode prog_11_method_21_code 32 = .ok (.istore_n 1, 1) := by decide +kernel
theorem d45_33 : decode prog_11_method_21_code 33 = .ok (.iinc 2 1, 3) := by decide +kernel
theorem d45_36 : decode prog_11_method_21_code 36 = .ok (.goto (-32), 3) := by decide +kernel
theorem d45_39 : decode prog_11_method_21_code 39 = .ok (.iload_n 1, 1) := by decide +kernel
theorem d45_40 : decode prog_11_method_21_code 40 = .ok (.iconst 1, 1) := by decide +kernel
theorem d45_41 : decode prog_11_method_21_code 41 = .ok (.iadd, 1) := by decide +kernel
theorem d45_42 : decode prog_11_method_21_code 42 = .ok (.ireturn, 1) := by decide +kernel
theorem d46_0 : decode prog_11_method_22_code 0 = .ok (.aload_n 0, 1) := by decide +kernel
theorem d46_1 : decode prog_11_method_22_code 1 = .ok (.invokevirtual 148, 3) := by decide +kernel
theorem d46_4 : decode prog_11_method_22_code 4 = .ok (.aload_n 0, 1) := by decide +kernel
theorem d46_5 : decode prog_11_method_22_code 5 = .ok (.invokevirtual 151, 3) := by decide +kernel
theorem d46_8 : decode prog_11_method_22_code 8 = .ok (.ireturn, 1) := by decide +kernel
theorem d47_0 : decode prog_11_method_23_code 0 = .ok (.aload_n 0, 1) := by decide +kernel
theorem d47_1 : decode prog_11_method_23_code 1 = .ok (.invokevirtual 148, 3) := by decide +kernel
theorem d47_4 : decode prog_11_method_23_code 4 = .ok (.aload_n 0, 1) := by decide +kernel
theorem d47_5 : decode prog_11_method_23_code 5 = .ok (.aload_n 0, 1) := by decide +kernel
theorem d47_6 : decode prog_11_method_23_code 6 = .ok (.getfield 30, 3) := by decide +kernel
theorem d47_9 : decode prog_11_method_23_code 9 = .ok (.invokevirtual 154, 3) := by decide +kernel
theorem d47_12 : decode prog_11_method_23_code 12 = .ok (.ireturn, 1) := by decide +kernel
theorem d48_0 : decode prog_11_method_24_code 0 = .ok (.iconst 0, 1) := by decide +kernel
theorem d48_1 : decode prog_11_method_24_code 1 = .ok (.istore_n 1, 1) := by decide +kernel
theorem d48_2 : decode prog_11_method_24_code 2 = .ok (.iconst 0, 1) := by decide +kernel
theorem d48_3 : decode prog_11_method_24_code 3 = .ok (.istore_n 2, 1) := by decide +kernel
theorem d48_4 : decode prog_11_method_24_code 4 = .ok (.iload_n 2, 1) := by decide +kernel
theorem d48_5 : decode prog_11_method_24_code 5 = .ok (.aload_n 0, 1) := by decide +kernel
theorem d48_6 : decode prog_11_method_24_code 6 = .ok (.getfield 110, 3) := by decide +kernel
theorem d48_9 : decode prog_11_method_24_code 9 = .ok (.if_icmp .ge 50, 3) := by decide +kernel
theorem d48_12 : decode prog_11_method_24_code 12 = .ok (.iload_n 1, 1) := by decide +kernel
theorem d48_13 : decode prog_11_method_24_code 13 = .ok (.aload_n 0, 1) := by decide +kernel
theorem d48_14 : decode prog_11_method_24_code 14 = .ok (.getfield 19, 3) := by decide +kernel
theorem d48_17 : decode prog_11_method_24_code 17 = .ok (.iload_n 2, 1) := by decide +kernel
theorem d48_18 : decode prog_11_method_24_code 18 = .ok (.baload, 1) := by decide +kernel
theorem d48_19 : decode prog_11_method_24_code 19 = .ok (.ifCond .eq 31, 3) := by decide +kernel
theorem d48_22 : decode prog_11_method_24_code 22 = .ok (.aload_n 0, 1) := by decide +kernel
theorem d48_23 : decode prog_11_method_24_code 23 = .ok (.getfield 30, 3) := by decide +kernel
theorem d48_26 : decode prog_11_method_24_code 26 = .ok (.aload_n 0, 1) := by decide +kernel
theorem d48_27 : decode prog_11_method_24_code 27 = .ok (.getfield 36, 3) := by decide +kernel
theorem d48_30 : decode prog_11_method_24_code 30 = .ok (.iload_n 2, 1) := by decide +kernel
theorem d48_31 : decode prog_11_method_24_code 31 = .ok (.iaload, 1) := by decide +kernel
theorem d48_32 : decode prog_11_method_24_code 32 = .ok (.iaload, 1) := by decide +kernel
theorem d48_33 : decode prog_11_method_24_code 33 = .ok (.aload_n 0, 1) := by decide +kernel
theorem d48_34 : decode prog_11_method_24_code 34 = .ok (.getfield 30, 3) := by decide +kernel
theorem d48_37 : decode prog_11_method_24_code 37 = .ok (.aload_n 0, 1) := by decide +kernel
theorem d48_38 : decode prog_11_method_24_code 38 = .ok (.getfield 33, 3) := by decide +kernel
theorem d48_41 : decode prog_11_method_24_code 41 = .ok (.iload_n 2, 1) := by decide +kernel
theorem d48_42 : decode prog_11_method_24_code 42 = .ok (.iaload, 1) := by decide +kernel
theorem d48_43 : decode prog_11_method_24_code 43 = .ok (.iaload, 1) := by decide +kernel
theorem d48_44 : decode prog_11_method_24_code 44 = .ok (.isub, 1) := by decide +kernel
theorem d48_45 : decode prog_11_method_24_code 45 = .ok (.iconst 1, 1) := by decide +kernel
theorem d48_46 : decode prog_11_method_24_code 46 = .ok (.isub, 1) := by decide +kernel
theorem d48_47 : decode prog_11_method_24_code 47 = .ok (.goto 4, 3) := by decide +kernel
theorem d48_50 : decode prog_11_method_24_code 50 = .ok (.iconst 0, 1) := by decide +kernel
theorem d48_51 : decode prog_11_method_24_code 51 = .ok (.iadd, 1) := by decide +kernel
theorem d48_52 : decode prog_11_method_24_code 52 = .ok (.istore_n 1, 1) := by decide +kernel
theorem d48_53 : decode prog_11_method_24_code 53 = .ok (.iinc 2 1, 3) := by decide +kernel
theorem d48_56 : decode prog_11_method_24_code 56 = .ok (.goto (-52), 3) := by decide +kernel
theorem d48_59 : decode prog_11_method_24_code 59 = .ok (.iload_n 1, 1) := by decide +kernel
theorem d48_60 : decode prog_11_method_24_code 60 = .ok (.ireturn, 1) := by decide +kernel
theorem d49_0 : decode prog_11_method_25_code 0 = .ok (.aload_n 0, 1) := by decide +kernel
theorem d49_1 : decode prog_11_method_25_code 1 = .ok (.invokevirtual 148, 3) := by decide +kernel
theorem d49_4 : decode prog_11_method_25_code 4 = .ok (.aload_n 0, 1) := by decide +kernel
theorem d49_5 : decode prog_11_method_25_code 5 = .ok (.invokevirtual 158, 3) := by decide +kernel
theorem d49_8 : decode prog_11_method_25_code 8 = .ok (.ireturn, 1) := by decide +kernel
theorem d50_0 : decode prog_11_method_26_code 0 = .ok (.iconst 0, 1) := by decide +kernel
theorem d50_1 : decode prog_11_method_26_code 1 = .ok (.istore_n 1, 1) := by decide +kernel
theorem d50_2 : decode prog_11_method_26_code 2 = .ok (.iload_n 1, 1) := by decide +kernel
theorem d50_3 : decode prog_11_method_26_code 3 = .ok (.bipush 80, 2) := by decide +kernel
theorem d50_5 : decode prog_11_method_26_code 5 = .ok (.if_icmp .ge 52, 3) := by decide +kernel
theorem d50_8 : decode prog_11_method_26_code 8 = .ok (.aload_n 0, 1) := by decide +kernel
theorem d50_9 : decode prog_11_method_26_code 9 = .ok (.getfield 55, 3) := by decide +kernel
theorem d50_12 : decode prog_11_method_26_code 12 = .ok (.iload_n 1, 1) := by decide +kernel
theorem d50_13 : decode prog_11_method_26_code 13 = .ok (.iload_n 1, 1) := by decide +kernel
theorem d50_14 : decode prog_11_method_26_code 14 = .ok (.aload_n 0, 1) := by decide +kernel
theorem d50_15 : decode prog_11_method_26_code 15 = .ok (.getfield 106, 3) := by decide +kernel
theorem d50_18 : decode prog_11_method_26_code 18 = .ok (.if_icmp .ge 7, 3) := by decide +kernel
theorem d50_21 : decode prog_11_method_26_code 21 = .ok (.iconst 1, 1) := by decide +kernel
theorem d50_22 : decode prog_11_method_26_code 22 = .ok (.goto 4, 3) := by decide +kernel
theorem d50_25 : decode prog_11_method_26_code 25 = .ok (.iconst 0, 1) := by decide +kernel
theorem d50_26 : decode prog_11_method_26_code 26 = .ok (.bastore, 1) := by decide +kernel
theorem d50_27 : decode prog_11_method_26_code 27 = .ok (.aload_n 0, 1) := by decide +kernel
theorem d50_28 : decode prog_11_method_26_code 28 = .ok (.getfield 52, 3) := by decide +kernel
theorem d50_31 : decode prog_11_method_26_code 31 = .ok (.iload_n 1, 1) := by decide +kernel
theorem d50_32 : decode prog_11_method_26_code 32 = .ok (.iload_n 1, 1) := by decide +kernel
theorem d50_33 : decode prog_11_method_26_code 33 = .ok (.aload_n 0, 1) := by decide +kernel
theorem d50_34 : decode prog_11_method_26_code 34 = .ok (.getfield 106, 3) := by decide +kernel
theorem d50_37 : decode prog_11_method_26_code 37 = .ok (.if_icmp .ge 12, 3) := by decide +kernel
theorem d50_40 : decode prog_11_method_26_code 40 = .ok (.aload_n 0, 1) := by decide +kernel
theorem d50_41 : decode prog_11_method_26_code 41 = .ok (.getfield 30, 3) := by decide +kernel
theorem d50_44 : decode prog_11_method_26_code 44 = .ok (.iload_n 1, 1) := by decide +kernel
theorem d50_45 : decode prog_11_method_26_code 45 = .ok (.iaload, 1) := by decide +kernel
theorem d50_46 : decode prog_11_method_26_code 46 = .ok (.goto 4, 3) := by decide +kernel
theorem d50_49 : decode prog_11_method_26_code 49 = .ok (.iconst 0, 1) := by decide +kernel
theorem d50_50 : decode prog_11_method_26_code 50 = .ok (.iastore, 1) := by decide +kernel
theorem d50_51 : decode prog_11_method_26_code 51 = .ok (.iinc 1 1, 3) := by decide +kernel
theorem d50_54 : decode prog_11_method_26_code 54 = .ok (.goto (-52), 3) := by decide +kernel
theorem d50_57 : decode prog_11_method_26_code 57 = .ok (.bipush 12, 2) := by decide +kernel
theorem d50_59 : decode prog_11_method_26_code 59 = .ok (.istore_n 1, 1) := by decide +kernel
theorem d50_60 : decode prog_11_method_26_code 60 = .ok (.aload_n 0, 1) := by decide +kernel
theorem d50_61 : decode prog_11_method_26_code 61 = .ok (.iconst 0, 1) := by decide +kernel
theorem d50_62 : decode prog_11_method_26_code 62 = .ok (.putfield 161, 3) := by decide +kernel
theorem d50_65 : decode prog_11_method_26_code 65 = .ok (.iconst 0, 1) := by decide +kernel
theorem d50_66 : decode prog_11_method_26_code 66 = .ok (.istore_n 2, 1) := by decide +kernel
theorem d50_67 : decode prog_11_method_26_code 67 = .ok (.iload_n 2, 1) := by decide +kernel
theorem d50_68 : decode prog_11_method_26_code 68 = .ok (.aload_n 0, 1) := by decide +kernel
theorem d50_69 : decode prog_11_method_26_code 69 = .ok (.getfield 110, 3) := by decide +kernel
theorem d50_72 : decode prog_11_method_26_code 72 = .ok (.if_icmp .ge 158, 3) := by decide +kernel
theorem d50_75 : decode prog_11_method_26_code 75 = .ok (.aload_n 0, 1) := by decide +kernel
theorem d50_76 : decode prog_11_method_26_code 76 = .ok (.getfield 19, 3) := by decide +kernel
theorem d50_79 : decode prog_11_method_26_code 79 = .ok (.iload_n 2, 1) := by decide +kernel
theorem d50_80 : decode prog_11_method_26_code 80 = .ok (.baload, 1) := by decide +kernel
theorem d50_81 : decode prog_11_method_26_code 81 = .ok (.ifCond .ne 6, 3) := by decide +kernel
theorem d50_84 : decode prog_11_method_26_code 84 = .ok (.goto 140, 3) := by decide +kernel
theorem d50_87 : decode prog_11_method_26_code 87 = .ok (.aload_n 0, 1) := by decide +kernel
theorem d50_88 : decode prog_11_method_26_code 88 = .ok (.getfield 58, 3) := by decide +kernel
theorem d50_91 : decode prog_11_method_26_code 91 = .ok (.iload_n 2, 1) := by decide +kernel
theorem d50_92 : decode prog_11_method_26_code 92 = .ok (.iload_n 1, 1) := by decide +kernel
theorem d50_93 : decode prog_11_method_26_code 93 = .ok (.iastore, 1) := by decide +kernel
theorem d50_94 : decode prog_11_method_26_code 94 = .ok (.aload_n 0, 1) := by decide +kernel
theorem d50_95 : decode prog_11_method_26_code 95 = .ok (.getfield 33, 3) := by decide +kernel
theorem d50_98 : decode prog_11_method_26_code 98 = .ok (.iload_n 2, 1) := by decide +kernel
theorem d50_99 : decode prog_11_method_26_code 99 = .ok (.iaload, 1) := by decide +kernel
theorem d50_100 : decode prog_11_method_26_code 100 = .ok (.istore_n 3, 1) := by decide +kernel
theorem d50_101 : decode prog_11_method_26_code 101 = .ok (.aload_n 0, 1) := by decide +kernel
theorem d50_102 : decode prog_11_method_26_code 102 = .ok (.getfield 30, 3) := by decide +kernel
theorem d50_105 : decode prog_11_method_26_code 105 = .ok (.aload_n 0, 1) := by decide +kernel
theorem d50_106 : decode prog_11_method_26_code 106 = .ok (.getfield 33, 3) := by decide +kernel
theorem d50_109 : decode prog_11_method_26_code 109 = .ok (.iload_n 2, 1) := by decide +kernel
theorem d50_110 : decode prog_11_method_26_code 110 = .ok (.iaload, 1) := by decide +kernel
theorem d50_111 : decode prog_11_method_26_code 111 = .ok (.iaload, 1) := by decide +kernel
theorem d50_112 : decode prog_11_method_26_code 112 = .ok (.iconst 1, 1) := by decide +kernel
theorem d50_113 : decode prog_11_method_26_code 113 = .ok (.iadd, 1) := by decide +kernel
theorem d50_114 : decode prog_11_method_26_code 114 = .ok (.istore 4, 2) := by decide +kernel
theorem d50_116 : decode prog_11_method_26_code 116 = .ok (.iload 4, 2) := by decide +kernel
theorem d50_118 : decode prog_11_method_26_code 118 = .ok (.aload_n 0, 1) := by decide +kernel
theorem d50_119 : decode prog_11_method_26_code 119 = .ok (.getfield 30, 3) := by decide +kernel
theorem d50_122 : decode prog_11_method_26_code 122 = .ok (.aload_n 0, 1) := by decide +kernel
theorem d50_123 : decode prog_11_method_26_code 123 = .ok (.getfield 36, 3) := by decide +kernel
theorem d50_126 : decode prog_11_method_26_code 126 = .ok (.iload_n 2, 1) := by decide +kernel
theorem d50_127 : decode prog_11_method_26_code 127 = .ok (.iaload, 1) := by decide +kernel
theorem d50_128 : decode prog_11_method_26_code 128 = .ok (.iaload, 1) := by decide +kernel
theorem d50_129 : decode prog_11_method_26_code 129 = .ok (.if_icmp .gt 95, 3) := by decide +kernel
theorem d50_132 : decode prog_11_method_26_code 132 = .ok (.iload 4, 2) := by decide +kernel
theorem d50_134 : decode prog_11_method_26_code 134 = .ok (.aload_n 0, 1) := by decide +kernel
theorem d50_135 : decode prog_11_method_26_code 135 = .ok (.getfield 30, 3) := by decide +kernel
theorem d50_138 : decode prog_11_method_26_code 138 = .ok (.aload_n 0, 1) := by decide +kernel
theorem d50_139 : decode prog_11_method_26_code 139 = .ok (.getfield 36, 3) := by decide +kernel
theorem d50_142 : decode prog_11_method_26_code 142 = .ok (.iload_n 2, 1) := by decide +kernel
theorem d50_143 : decode prog_11_method_26_code 143 = .ok (.iaload, 1) := by decide +kernel
theorem d50_144 : decode prog_11_method_26_code 144 = .ok (.iaload, 1) := by decide +kernel
theorem d50_145 : decode prog_11_method_26_code 145 = .ok (.if_icmp .ne 12, 3) := by decide +kernel
theorem d50_148 : decode prog_11_method_26_code 148 = .ok (.aload_n 0, 1) := by decide +kernel
theorem d50_149 : decode prog_11_method_26_code 149 = .ok (.getfield 36, 3) := by decide +kernel
theorem d50_152 : decode prog_11_method_26_code 152 = .ok (.iload_n 2, 1) := by decide +kernel
theorem d50_153 : decode prog_11_method_26_code 153 = .ok (.iaload, 1) := by decide +kernel
theorem d50_154 : decode prog_11_method_26_code 154 = .ok (.goto 4, 3) := by decide +kernel
theorem d50_157 : decode prog_11_method_26_code 157 = .ok (.iload_n 1, 1) := by decide +kernel
theorem d50_158 : decode prog_11_method_26_code 158 = .ok (.istore 5, 2) := by decide +kernel
theorem d50_160 : decode prog_11_method_26_code 160 = .ok (.iload 5, 2) := by decide +kernel
theorem d50_162 : decode prog_11_method_26_code 162 = .ok (.iload_n 1, 1) := by decide +kernel
theorem d50_163 : decode prog_11_method_26_code 163 = .ok (.if_icmp .ne 21, 3) := by decide +kernel
theorem d50_166 : decode prog_11_method_26_code 166 = .ok (.aload_n 0, 1) := by decide +kernel
theorem d50_167 : decode prog_11_method_26_code 167 = .ok (.getfield 55, 3) := by decide +kernel
theorem d50_170 : decode prog_11_method_26_code 170 = .ok (.iload_n 1, 1) := by decide +kernel
theorem d50_171 : decode prog_11_method_26_code 171 = .ok (.iconst 1, 1) := by decide +kernel
theorem d50_172 : decode prog_11_method_26_code 172 = .ok (.bastore, 1) := by decide +kernel
theorem d50_173 : decode prog_11_method_26_code 173 = .ok (.aload_n 0, 1) := by decide +kernel
theorem d50_174 : decode prog_11_method_26_code 174 = .ok (.getfield 52, 3) := by decide +kernel
theorem d50_177 : decode prog_11_method_26_code 177 = .ok (.iload_n 1, 1) := by decide +kernel
theorem d50_178 : decode prog_11_method_26_code 178 = .ok (.iload 4, 2) := by decide +kernel
theorem d50_180 : decode prog_11_method_26_code 180 = .ok (.iastore, 1) := by decide +kernel
theorem d50_181 : decode prog_11_method_26_code 181 = .ok (.iinc 1 1, 3) := by decide +kernel
theorem d50_184 : decode prog_11_method_26_code 184 = .ok (.aload_n 0, 1) := by decide +kernel
theorem d50_185 : decode prog_11_method_26_code 185 = .ok (.getfield 61, 3) := by decide +kernel
theorem d50_188 : decode prog_11_method_26_code 188 = .ok (.aload_n 0, 1) := by decide +kernel
theorem d50_189 : decode prog_11_method_26_code 189 = .ok (.getfield 161, 3) := by decide +kernel
theorem d50_192 : decode prog_11_method_26_code 192 = .ok (.iload_n 3, 1) := by decide +kernel
theorem d50_193 : decode prog_11_method_26_code 193 = .ok (.iastore, 1) := by decide +kernel
theorem d50_194 : decode prog_11_method_26_code 194 = .ok (.aload_n 0, 1) := by decide +kernel
theorem d50_195 : decode prog_11_method_26_code 195 = .ok (.getfield 64, 3) := by decide +kernel
theorem d50_198 : decode prog_11_method_26_code 198 = .ok (.aload_n 0, 1) := by decide +kernel
theorem d50_199 : decode prog_11_method_26_code 199 = .ok (.getfield 161, 3) := by decide +kernel
theorem d50_202 : decode prog_11_method_26_code 202 = .ok (.iload 5, 2) := by decide +kernel
theorem d50_204 : decode prog_11_method_26_code 204 = .ok (.iastore, 1) := by decide +kernel
theorem d50_205 : decode prog_11_method_26_code 205 = .ok (.aload_n 0, 1) := by decide +kernel
theorem d50_206 : decode prog_11_method_26_code 206 = .ok (.dup, 1) := by decide +kernel
theorem d50_207 : decode prog_11_method_26_code 207 = .ok (.getfield 161, 3) := by decide +kernel
theorem d50_210 : decode prog_11_method_26_code 210 = .ok (.iconst 1, 1) := by decide +kernel
theorem d50_211 : decode prog_11_method_26_code 211 = .ok (.iadd, 1) := by decide +kernel
theorem d50_212 : decode prog_11_method_26_code 212 = .ok (.putfield 161, 3) := by decide +kernel
theorem d50_215 : decode prog_11_method_26_code 215 = .ok (.iload 5, 2) := by decide +kernel
theorem d50_217 : decode prog_11_method_26_code 217 = .ok (.istore_n 3, 1) := by decide +kernel
theorem d50_218 : decode prog_11_method_26_code 218 = .ok (.iinc 4 1, 3) := by decide +kernel
theorem d50_221 : decode prog_11_method_26_code 221 = .ok (.goto (-105), 3) := by decide +kernel
theorem d50_224 : decode prog_11_method_26_code 224 = .ok (.iinc 2 1, 3) := by decide +kernel
theorem d50_227 : decode prog_11_method_26_code 227 = .ok (.goto (-160), 3) := by decide +kernel
theorem d50_230 : decode prog_11_method_26_code 230 = .ok (.iconst 0, 1) := by decide +kernel
theorem d50_231 : decode prog_11_method_26_code 231 = .ok (.istore_n 2, 1) := by decide +kernel
theorem d50_232 : decode prog_11_method_26_code 232 = .ok (.iload_n 2, 1) := by decide +kernel
theorem d50_233 : decode prog_11_method_26_code 233 = .ok (.bipush 12, 2) := by decide +kernel
theorem d50_235 : decode prog_11_method_26_code 235 = .ok (.if_icmp .ge 16, 3) := by decide +kernel
theorem d50_238 : decode prog_11_method_26_code 238 = .ok (.aload_n 0, 1) := by decide +kernel
theorem d50_239 : decode prog_11_method_26_code 239 = .ok (.getfield 70, 3) := by decide +kernel
theorem d50_242 : decode prog_11_method_26_code 242 = .ok (.iload_n 2, 1) := by decide +kernel
theorem d50_243 : decode prog_11_method_26_code 243 = .ok (.iconst 0, 1) := by decide +kernel
theorem d50_244 : decode prog_11_method_26_code 244 = .ok (.iastore, 1) := by decide +kernel
theorem d50_245 : decode prog_11_method_26_code 245 = .ok (.iinc 2 1, 3) := by decide +kernel
theorem d50_248 : decode prog_11_method_26_code 248 = .ok (.goto (-16), 3) := by decide +kernel
theorem d50_251 : decode prog_11_method_26_code 251 = .ok (.iconst 0, 1) := by decide +kernel
theorem d50_252 : decode prog_11_method_26_code 252 = .ok (.istore_n 2, 1) := by decide +kernel
theorem d50_253 : decode prog_11_method_26_code 253 = .ok (.iload_n 2, 1) := by decide +kernel
theorem d50_254 : decode prog_11_method_26_code 254 = .ok (.bipush 80, 2) := by decide +kernel
theorem d50_256 : decode prog_11_method_26_code 256 = .ok (.if_icmp .ge 64, 3) := by decide +kernel
theorem d50_259 : decode prog_11_method_26_code 259 = .ok (.aload_n 0, 1) := by decide +kernel
theorem d50_260 : decode prog_11_method_26_code 260 = .ok (.getfield 55, 3) := by decide +kernel
theorem d50_263 : decode prog_11_method_26_code 263 = .ok (.iload_n 2, 1) := by decide +kernel
theorem d50_264 : decode prog_11_method_26_code 264 = .ok (.baload, 1) := by decide +kernel
theorem d50_265 : decode prog_11_method_26_code 265 = .ok (.ifCond .eq 49, 3) := by decide +kernel
theorem d50_268 : decode prog_11_method_26_code 268 = .ok (.aload_n 0, 1) := by decide +kernel
theorem d50_269 : decode prog_11_method_26_code 269 = .ok (.getfield 52, 3) := by decide +kernel
theorem d50_272 : decode prog_11_method_26_code 272 = .ok (.iload_n 2, 1) := by decide +kernel
theorem d50_273 : decode prog_11_method_26_code 273 = .ok (.iaload, 1) := by decide +kernel
theorem d50_274 : decode prog_11_method_26_code 274 = .ok (.istore_n 3, 1) := by decide +kernel
theorem d50_275 : decode prog_11_method_26_code 275 = .ok (.aload_n 0, 1) := by decide +kernel
theorem d50_276 : decode prog_11_method_26_code 276 = .ok (.getfield 67, 3) := by decide +kernel
theorem d50_279 : decode prog_11_method_26_code 279 = .ok (.bipush 80, 2) := by decide +kernel
theorem d50_281 : decode prog_11_method_26_code 281 = .ok (.iload_n 3, 1) := by decide +kernel
theorem d50_282 : decode prog_11_method_26_code 282 = .ok (.imul, 1) := by decide +kernel
theorem d50_283 : decode prog_11_method_26_code 283 = .ok (.aload_n 0, 1) := by decide +kernel
theorem d50_284 : decode prog_11_method_26_code 284 = .ok (.getfield 70, 3) := by decide +kernel
theorem d50_287 : decode prog_11_method_26_code 287 = .ok (.iload_n 3, 1) := by decide +kernel
theorem d50_288 : decode prog_11_method_26_code 288 = .ok (.iaload, 1) := by decide +kernel
theorem d50_289 : decode prog_11_method_26_code 289 = .ok (.iadd, 1) := by decide +kernel
theorem d50_290 : decode prog_11_method_26_code 290 = .ok (.iload_n 2, 1) := by decide +kernel
theorem d50_291 : decode prog_11_method_26_code 291 = .ok (.iastore, 1) := by decide +kernel
theorem d50_292 : decode prog_11_method_26_code 292 = .ok (.aload_n 0, 1) := by decide +kernel
theorem d50_293 : decode prog_11_method_26_code 293 = .ok (.getfield 73, 3) := by decide +kernel
theorem d50_296 : decode prog_11_method_26_code 296 = .ok (.iload_n 2, 1) := by decide +kernel
theorem d50_297 : decode prog_11_method_26_code 297 = .ok (.aload_n 0, 1) := by decide +kernel
theorem d50_298 : decode prog_11_method_26_code 298 = .ok (.getfield 70, 3) := by decide +kernel
theorem d50_301 : decode prog_11_method_26_code 301 = .ok (.iload_n 3, 1) := by decide +kernel
theorem d50_302 : decode prog_11_method_26_code 302 = .ok (.iaload, 1) := by decide +kernel
theorem d50_303 : decode prog_11_method_26_code 303 = .ok (.iastore, 1) := by decide +kernel
theorem d50_304 : decode prog_11_method_26_code 304 = .ok (.aload_n 0, 1) := by decide +kernel
theorem d50_305 : decode prog_11_method_26_code 305 = .ok (.getfield 70, 3) := by decide +kernel
theorem d50_308 : decode prog_11_method_26_code 308 = .ok (.iload_n 3, 1) := by decide +kernel
theorem d50_309 : decode prog_11_method_26_code 309 = .ok (.dup2, 1) := by decide +kernel
theorem d50_310 : decode prog_11_method_26_code 310 = .ok (.iaload, 1) := by decide +kernel
theorem d50_311 : decode prog_11_method_26_code 311 = .ok (.iconst 1, 1) := by decide +kernel
theorem d50_312 : decode prog_11_method_26_code 312 = .ok (.iadd, 1) := by decide +kernel
theorem d50_313 : decode prog_11_method_26_code 313 = .ok (.iastore, 1) := by decide +kernel
theorem d50_314 : decode prog_11_method_26_code 314 = .ok (.iinc 2 1, 3) := by decide +kernel
theorem d50_317 : decode prog_11_method_26_code 317 = .ok (.goto (-64), 3) := by decide +kernel
theorem d50_320 : decode prog_11_method_26_code 320 = .ok (.return_, 1) := by decide +kernel
theorem d51_0 : decode prog_11_method_27_code 0 = .ok (.iconst 0, 1) := by decide +kernel
theorem d51_1 : decode prog_11_method_27_code 1 = .ok (.istore_n 1, 1) := by decide +kernel
theorem d51_2 : decode prog_11_method_27_code 2 = .ok (.iconst 0, 1) := by decide +kernel
theorem d51_3 : decode prog_11_method_27_code 3 = .ok (.istore_n 2, 1) := by decide +kernel
theorem d51_4 : decode prog_11_method_27_code 4 = .ok (.iload_n 2, 1) := by decide +kernel
theorem d51_5 : decode prog_11_method_27_code 5 = .ok (.aload_n 0, 1) := by decide +kernel
theorem d51_6 : decode prog_11_method_27_code 6 = .ok (.getfield 161, 3) := by decide +kernel
theorem d51_9 : decode prog_11_method_27_code 9 = .ok (.if_icmp .ge 120, 3) := by decide +kernel
theorem d51_12 : decode prog_11_method_27_code 12 = .ok (.iconst 0, 1) := by decide +kernel
theorem d51_13 : decode prog_11_method_27_code 13 = .ok (.istore_n 3, 1) := by decide +kernel
theorem d51_14 : decode prog_11_method_27_code 14 = .ok (.iload_n 3, 1) := by decide +kernel
theorem d51_15 : decode prog_11_method_27_code 15 = .ok (.aload_n 0, 1) := by decide +kernel
theorem d51_16 : decode prog_11_method_27_code 16 = .ok (.getfield 161, 3) := by decide +kernel
theorem d51_19 : decode prog_11_method_27_code 19 = .ok (.if_icmp .ge 104, 3) := by decide +kernel
theorem d51_22 : decode prog_11_method_27_code 22 = .ok (.aload_n 0, 1) := by decide +kernel
theorem d51_23 : decode prog_11_method_27_code 23 = .ok (.getfield 52, 3) := by decide +kernel
theorem d51_26 : decode prog_11_method_27_code 26 = .ok (.aload_n 0, 1) := by decide +kernel
theorem d51_27 : decode prog_11_method_27_code 27 = .ok (.getfield 61, 3) := by decide +kernel
theorem d51_30 : decode prog_11_method_27_code 30 = .ok (.iload_n 2, 1) := by decide +kernel
theorem d51_31 : decode prog_11_method_27_code 31 = .ok (.iaload, 1) := by decide +kernel
theorem d51_32 : decode prog_11_method_27_code 32 = .ok (.iaload, 1) := by decide +kernel
theorem d51_33 : decode prog_11_method_27_code 33 = .ok (.aload_n 0, 1) := by decide +kernel
theorem d51_34 : decode prog_11_method_27_code 34 = .ok (.getfield 52, 3) := by decide +kernel
theorem d51_37 : decode prog_11_method_27_code 37 = .ok (.aload_n 0, 1) := by decide +kernel
theorem d51_38 : decode prog_11_method_27_code 38 = .ok (.getfield 61, 3) := by decide +kernel
theorem d51_41 : decode prog_11_method_27_code 41 = .ok (.iload_n 3, 1) := by decide +kernel
theorem d51_42 : decode prog_11_method_27_code 42 = .ok (.iaload, 1) := by decide +kernel
theorem d51_43 : decode prog_11_method_27_code 43 = .ok (.iaload, 1) := by decide +kernel
theorem d51_44 : decode prog_11_method_27_code 44 = .ok (.if_icmp .ne 7, 3) := by decide +kernel
theorem d51_47 : decode prog_11_method_27_code 47 = .ok (.iconst 1, 1) := by decide +kernel
theorem d51_48 : decode prog_11_method_27_code 48 = .ok (.goto 4, 3) := by decide +kernel
theorem d51_51 : decode prog_11_method_27_code 51 = .ok (.iconst 0, 1) := by decide +kernel
theorem d51_52 : decode prog_11_method_27_code 52 = .ok (.istore 4, 2) := by decide +kernel
theorem d51_54 : decode prog_11_method_27_code 54 = .ok (.iload_n 1, 1) := by decide +kernel
theorem d51_55 : decode prog_11_method_27_code 55 = .ok (.iload 4, 2) := by decide +kernel
theorem d51_57 : decode prog_11_method_27_code 57 = .ok (.ifCond .eq 57, 3) := by decide +kernel
theorem d51_60 : decode prog_11_method_27_code 60 = .ok (.aload_n 0, 1) := by decide +kernel
theorem d51_61 : decode prog_11_method_27_code 61 = .ok (.getfield 73, 3) := by decide +kernel
theorem d51_64 : decode prog_11_method_27_code 64 = .ok (.aload_n 0, 1) := by decide +kernel
theorem d51_65 : decode prog_11_method_27_code 65 = .ok (.getfield 61, 3) := by decide +kernel
theorem d51_68 : decode prog_11_method_27_code 68 = .ok (.iload_n 2, 1) := by decide +kernel
theorem d51_69 : decode prog_11_method_27_code 69 = .ok (.iaload, 1) := by decide +kernel
theorem d51_70 : decode prog_11_method_27_code 70 = .ok (.iaload, 1) := by decide +kernel
theorem d51_71 : decode prog_11_method_27_code 71 = .ok (.aload_n 0, 1) := by decide +kernel
theorem d51_72 : decode prog_11_method_27_code 72 = .ok (.getfield 73, 3) := by decide +kernel
theorem d51_75 : decode prog_11_method_27_code 75 = .ok (.aload_n 0, 1) := by decide +kernel
theorem d51_76 : decode prog_11_method_27_code 76 = .ok (.getfield 61, 3) := by decide +kernel
theorem d51_79 : decode prog_11_method_27_code 79 = .ok (.iload_n 3, 1) := by decide +kernel
theorem d51_80 : decode prog_11_method_27_code 80 = .ok (.iaload, 1) := by decide +kernel
theorem d51_81 : decode prog_11_method_27_code 81 = .ok (.iaload, 1) := by decide +kernel
theorem d51_82 : decode prog_11_method_27_code 82 = .ok (.if_icmp .ge 32, 3) := by decide +kernel
theorem d51_85 : decode prog_11_method_27_code 85 = .ok (.aload_n 0, 1) := by decide +kernel
theorem d51_86 : decode prog_11_method_27_code 86 = .ok (.getfield 73, 3) := by decide +kernel
theorem d51_89 : decode prog_11_method_27_code 89 = .ok (.aload_n 0, 1) := by decide +kernel
theorem d51_90 : decode prog_11_method_27_code 90 = .ok (.getfield 64, 3) := by decide +kernel
theorem d51_93 : decode prog_11_method_27_code 93 = .ok (.iload_n 2, 1) := by decide +kernel
theorem d51_94 : decode prog_11_method_27_code 94 = .ok (.iaload, 1) := by decide +kernel
theorem d51_95 : decode prog_11_method_27_code 95 = .ok (.iaload, 1) := by decide +kernel
theorem d51_96 : decode prog_11_method_27_code 96 = .ok (.aload_n 0, 1) := by decide +kernel
theorem d51_97 : decode prog_11_method_27_code 97 = .ok (.getfield 73, 3) := by decide +kernel
theorem d51_100 : decode prog_11_method_27_code 100 = .ok (.aload_n 0, 1) := by decide +kernel
theorem d51_101 : decode prog_11_method_27_code 101 = .ok (.getfield 64, 3) := by decide +kernel
theorem d51_104 : decode prog_11_method_27_code 104 = .ok (.iload_n 3, 1) := by decide +kernel
theorem d51_105 : decode prog_11_method_27_code 105 = .ok (.iaload, 1) := by decide +kernel
theorem d51_106 : decode prog_11_method_27_code 106 = .ok (.iaload, 1) := by decide +kernel
theorem d51_107 : decode prog_11_method_27_code 107 = .ok (.if_icmp .le 7, 3) := by decide +kernel
theorem d51_110 : decode prog_11_method_27_code 110 = .ok (.iconst 1, 1) := by decide +kernel
theorem d51_111 : decode prog_11_method_27_code 111 = .ok (.goto 4, 3) := by decide +kernel
theorem d51_114 : decode prog_11_method_27_code 114 = .ok (.iconst 0, 1) := by decide +kernel
theorem d51_115 : decode prog_11_method_27_code 115 = .ok (.iadd, 1) := by decide +kernel
theorem d51_116 : decode prog_11_method_27_code 116 = .ok (.istore_n 1, 1) := by decide +kernel
theorem d51_117 : decode prog_11_method_27_code 117 = .ok (.iinc 3 1, 3) := by decide +kernel
theorem d51_120 : decode prog_11_method_27_code 120 = .ok (.goto (-106), 3) := by decide +kernel
theorem d51_123 : decode prog_11_method_27_code 123 = .ok (.iinc 2 1, 3) := by decide +kernel
theorem d51_126 : decode prog_11_method_27_code 126 = .ok (.goto (-122), 3) := by decide +kernel
theorem d51_129 : decode prog_11_method_27_code 129 = .ok (.iload_n 1, 1) := by decide +kernel
theorem d51_130 : decode prog_11_method_27_code 130 = .ok (.ireturn, 1) := by decide +kernel
theorem d52_0 : decode prog_11_method_28_code 0 = .ok (.iconst 0, 1) := by decide +kernel
theorem d52_1 : decode prog_11_method_28_code 1 = .ok (.istore_n 3, 1) := by decide +kernel
theorem d52_2 : decode prog_11_method_28_code 2 = .ok (.iload_n 3, 1) := by decide +kernel
theorem d52_3 : decode prog_11_method_28_code 3 = .ok (.aload_n 0, 1) := by decide +kernel
theorem d52_4 : decode prog_11_method_28_code 4 = .ok (.getfield 70, 3) := by decide +kernel
theorem d52_7 : decode prog_11_method_28_code 7 = .ok (.iload_n 1, 1) := by decide +kernel
theorem d52_8 : decode prog_11_method_28_code 8 = .ok (.iaload, 1) := by decide +kernel
theorem d52_9 : decode prog_11_method_28_code 9 = .ok (.if_icmp .ge 159, 3) := by decide +kernel
theorem d52_12 : decode prog_11_method_28_code 12 = .ok (.aload_n 0, 1) := by decide +kernel
theorem d52_13 : decode prog_11_method_28_code 13 = .ok (.getfield 67, 3) := by decide +kernel
theorem d52_16 : decode prog_11_method_28_code 16 = .ok (.bipush 80, 2) := by decide +kernel
theorem d52_18 : decode prog_11_method_28_code 18 = .ok (.iload_n 1, 1) := by decide +kernel
theorem d52_19 : decode prog_11_method_28_code 19 = .ok (.imul, 1) := by decide +kernel
theorem d52_20 : decode prog_11_method_28_code 20 = .ok (.iload_n 3, 1) := by decide +kernel
theorem d52_21 : decode prog_11_method_28_code 21 = .ok (.iadd, 1) := by decide +kernel
theorem d52_22 : decode prog_11_method_28_code 22 = .ok (.iaload, 1) := by decide +kernel
theorem d52_23 : decode prog_11_method_28_code 23 = .ok (.istore 4, 2) := by decide +kernel
theorem d52_25 : decode prog_11_method_28_code 25 = .ok (.aload_n 0, 1) := by decide +kernel
theorem d52_26 : decode prog_11_method_28_code 26 = .ok (.getfield 82, 3) := by decide +kernel
theorem d52_29 : decode prog_11_method_28_code 29 = .ok (.iload 4, 2) := by decide +kernel
theorem d52_31 : decode prog_11_method_28_code 31 = .ok (.iconst 0, 1) := by decide +kernel
theorem d52_32 : decode prog_11_method_28_code 32 = .ok (.iastore, 1) := by decide +kernel
theorem d52_33 : decode prog_11_method_28_code 33 = .ok (.aload_n 0, 1) := by decide +kernel
theorem d52_34 : decode prog_11_method_28_code 34 = .ok (.getfield 85, 3) := by decide +kernel
theorem d52_37 : decode prog_11_method_28_code 37 = .ok (.iload 4, 2) := by decide +kernel
theorem d52_39 : decode prog_11_method_28_code 39 = .ok (.iconst 0, 1) := by decide +kernel
theorem d52_40 : decode prog_11_method_28_code 40 = .ok (.iastore, 1) := by decide +kernel
theorem d52_41 : decode prog_11_method_28_code 41 = .ok (.iconst 0, 1) := by decide +kernel
theorem d52_42 : decode prog_11_method_28_code 42 = .ok (.istore 5, 2) := by decide +kernel
theorem d52_44 : decode prog_11_method_28_code 44 = .ok (.iload 5, 2) := by decide +kernel
theorem d52_46 : decode prog_11_method_28_code 46 = .ok (.aload_n 0, 1) := by decide +kernel
theorem d52_47 : decode prog_11_method_28_code 47 = .ok (.getfield 161, 3) := by decide +kernel
theorem d52_50 : decode prog_11_method_28_code 50 = .ok (.if_icmp .ge 86, 3) := by decide +kernel
theorem d52_53 : decode prog_11_method_28_code 53 = .ok (.iload_n 2, 1) := by decide +kernel
theorem d52_54 : decode prog_11_method_28_code 54 = .ok (.ifCond .eq 13, 3) := by decide +kernel
theorem d52_57 : decode prog_11_method_28_code 57 = .ok (.aload_n 0, 1) := by decide +kernel
theorem d52_58 : decode prog_11_method_28_code 58 = .ok (.getfield 64, 3) := by decide +kernel
theorem d52_61 : decode prog_11_method_28_code 61 = .ok (.iload 5, 2) := by decide +kernel
theorem d52_63 : decode prog_11_method_28_code 63 = .ok (.iaload, 1) := by decide +kernel
theorem d52_64 : decode prog_11_method_28_code 64 = .ok (.goto 10, 3) := by decide +kernel
theorem d52_67 : decode prog_11_method_28_code 67 = .ok (.aload_n 0, 1) := by decide +kernel
theorem d52_68 : decode prog_11_method_28_code 68 = .ok (.getfield 61, 3) := by decide +kernel
theorem d52_71 : decode prog_11_method_28_code 71 = .ok (.iload 5, 2) := by decide +kernel
theorem d52_73 : decode prog_11_method_28_code 73 = .ok (.iaload, 1) := by decide +kernel
theorem d52_74 : decode prog_11_method_28_code 74 = .ok (.istore 6, 2) := by decide +kernel
theorem d52_76 : decode prog_11_method_28_code 76 = .ok (.iload 6, 2) := by decide +kernel
theorem d52_78 : decode prog_11_method_28_code 78 = .ok (.iload 4, 2) := by decide +kernel
theorem d52_80 : decode prog_11_method_28_code 80 = .ok (.if_icmp .ne 50, 3) := by decide +kernel
theorem d52_83 : decode prog_11_method_28_code 83 = .ok (.aload_n 0, 1) := by decide +kernel
theorem d52_84 : decode prog_11_method_28_code 84 = .ok (.getfield 82, 3) := by decide +kernel
theorem d52_87 : decode prog_11_method_28_code 87 = .ok (.iload 4, 2) := by decide +kernel
theorem d52_89 : decode prog_11_method_28_code 89 = .ok (.dup2, 1) := by decide +kernel
theorem d52_90 : decode prog_11_method_28_code 90 = .ok (.iaload, 1) := by decide +kernel
theorem d52_91 : decode prog_11_method_28_code 91 = .ok (.aload_n 0, 1) := by decide +kernel
theorem d52_92 : decode prog_11_method_28_code 92 = .ok (.getfield 73, 3) := by decide +kernel
theorem d52_95 : decode prog_11_method_28_code 95 = .ok (.iload_n 2, 1) := by decide +kernel
theorem d52_96 : decode prog_11_method_28_code 96 = .ok (.ifCond .eq 13, 3) := by decide +kernel
theorem d52_99 : decode prog_11_method_28_code 99 = .ok (.aload_n 0, 1) := by decide +kernel
theorem d52_100 : decode prog_11_method_28_code 100 = .ok (.getfield 61, 3) := by decide +kernel
theorem d52_103 : decode prog_11_method_28_code 103 = .ok (.iload 5, 2) := by decide +kernel
theorem d52_105 : decode prog_11_method_28_code 105 = .ok (.iaload, 1) := by decide +kernel
theorem d52_106 : decode prog_11_method_28_code 106 = .ok (.goto 10, 3) := by decide +kernel
theorem d52_109 : decode prog_11_method_28_code 109 = .ok (.aload_n 0, 1) := by decide +kernel
theorem d52_110 : decode prog_11_method_28_code 110 = .ok (.getfield 64, 3) := by decide +kernel
theorem d52_113 : decode prog_11_method_28_code 113 = .ok (.iload 5, 2) := by decide +kernel
theorem d52_115 : decode prog_11_method_28_code 115 = .ok (.iaload, 1) := by decide +kernel
theorem d52_116 : decode prog_11_method_28_code 116 = .ok (.iaload, 1) := by decide +kernel
theorem d52_117 : decode prog_11_method_28_code 117 = .ok (.iadd, 1) := by decide +kernel
theorem d52_118 : decode prog_11_method_28_code 118 = .ok (.iastore, 1) := by decide +kernel
theorem d52_119 : decode prog_11_method_28_code 119 = .ok (.aload_n 0, 1) := by decide +kernel
theorem d52_120 : decode prog_11_method_28_code 120 = .ok (.getfield 85, 3) := by decide +kernel
theorem d52_123 : decode prog_11_method_28_code 123 = .ok (.iload 4, 2) := by decide +kernel
theorem d52_125 : decode prog_11_method_28_code 125 = .ok (.dup2, 1) := by decide +kernel
theorem d52_126 : decode prog_11_method_28_code 126 = .ok (.iaload, 1) := by decide +kernel
theorem d52_127 : decode prog_11_method_28_code 127 = .ok (.iconst 1, 1) := by decide +kernel
theorem d52_128 : decode prog_11_method_28_code 128 = .ok (.iadd, 1) := by decide +kernel
theorem d52_129 : decode prog_11_method_28_code 129 = .ok (.iastore, 1) := by decide +kernel
theorem d52_130 : decode prog_11_method_28_code 130 = .ok (.iinc 5 1, 3) := by decide +kernel
theorem d52_133 : decode prog_11_method_28_code 133 = .ok (.goto (-89), 3) := by decide +kernel
theorem d52_136 : decode prog_11_method_28_code 136 = .ok (.aload_n 0, 1) := by decide +kernel
theorem d52_137 : decode prog_11_method_28_code 137 = .ok (.getfield 85, 3) := by decide +kernel
theorem d52_140 : decode prog_11_method_28_code 140 = .ok (.iload 4, 2) := by decide +kernel
theorem d52_142 : decode prog_11_method_28_code 142 = .ok (.iaload, 1) := by decide +kernel
theorem d52_143 : decode prog_11_method_28_code 143 = .ok (.ifCond .ne 19, 3) := by decide +kernel
theorem d52_146 : decode prog_11_method_28_code 146 = .ok (.aload_n 0, 1) := by decide +kernel
theorem d52_147 : decode prog_11_method_28_code 147 = .ok (.getfield 82, 3) := by decide +kernel
theorem d52_150 : decode prog_11_method_28_code 150 = .ok (.iload 4, 2) := by decide +kernel
theorem d52_152 : decode prog_11_method_28_code 152 = .ok (.iload_n 3, 1) := by decide +kernel
theorem d52_153 : decode prog_11_method_28_code 153 = .ok (.iastore, 1) := by decide +kernel
theorem d52_154 : decode prog_11_method_28_code 154 = .ok (.aload_n 0, 1) := by decide +kernel
theorem d52_155 : decode prog_11_method_28_code 155 = .ok (.getfield 85, 3) := by decide +kernel
theorem d52_158 : decode prog_11_method_28_code 158 = .ok (.iload 4, 2) := by decide +kernel
theorem d52_160 : decode prog_11_method_28_code 160 = .ok (.iconst 1, 1) := by decide +kernel
theorem d52_161 : decode prog_11_method_28_code 161 = .ok (.iastore, 1) := by decide +kernel
theorem d52_162 : decode prog_11_method_28_code 162 = .ok (.iinc 3 1, 3) := by decide +kernel
theorem d52_165 : decode prog_11_method_28_code 165 = .ok (.goto (-163), 3) := by decide +kernel
theorem d52_168 : decode prog_11_method_28_code 168 = .ok (.iconst 1, 1) := by decide +kernel
theorem d52_169 : decode prog_11_method_28_code 169 = .ok (.istore_n 3, 1) := by decide +kernel
theorem d52_170 : decode prog_11_method_28_code 170 = .ok (.iload_n 3, 1) := by decide +kernel
theorem d52_171 : decode prog_11_method_28_code 171 = .ok (.aload_n 0, 1) := by decide +kernel
theorem d52_172 : decode prog_11_method_28_code 172 = .ok (.getfield 70, 3) := by decide +kernel
theorem d52_175 : decode prog_11_method_28_code 175 = .ok (.iload_n 1, 1) := by decide +kernel
theorem d52_176 : decode prog_11_method_28_code 176 = .ok (.iaload, 1) := by decide +kernel
theorem d52_177 : decode prog_11_method_28_code 177 = .ok (.if_icmp .ge 133, 3) := by decide +kernel
theorem d52_180 : decode prog_11_method_28_code 180 = .ok (.aload_n 0, 1) := by decide +kernel
theorem d52_181 : decode prog_11_method_28_code 181 = .ok (.getfield 67, 3) := by decide +kernel
theorem d52_184 : decode prog_11_method_28_code 184 = .ok (.bipush 80, 2) := by decide +kernel
theorem d52_186 : decode prog_11_method_28_code 186 = .ok (.iload_n 1, 1) := by decide +kernel
theorem d52_187 : decode prog_11_method_28_code 187 = .ok (.imul, 1) := by decide +kernel
theorem d52_188 : decode prog_11_method_28_code 188 = .ok (.iload_n 3, 1) := by decide +kernel
theorem d52_189 : decode prog_11_method_28_code 189 = .ok (.iadd, 1) := by decide +kernel
theorem d52_190 : decode prog_11_method_28_code 190 = .ok (.iaload, 1) := by decide +kernel
theorem d52_191 : decode prog_11_method_28_code 191 = .ok (.istore 4, 2) := by decide +kernel
theorem d52_193 : decode prog_11_method_28_code 193 = .ok (.iload_n 3, 1) := by decide +kernel
theorem d52_194 : decode prog_11_method_28_code 194 = .ok (.istore 5, 2) := by decide +kernel
theorem d52_196 : decode prog_11_method_28_code 196 = .ok (.iload 5, 2) := by decide +kernel
theorem d52_198 : decode prog_11_method_28_code 198 = .ok (.ifCond .le 92, 3) := by decide +kernel
theorem d52_201 : decode prog_11_method_28_code 201 = .ok (.aload_n 0, 1) := by decide +kernel
theorem d52_202 : decode prog_11_method_28_code 202 = .ok (.getfield 82, 3) := by decide +kernel
theorem d52_205 : decode prog_11_method_28_code 205 = .ok (.aload_n 0, 1) := by decide +kernel
theorem d52_206 : decode prog_11_method_28_code 206 = .ok (.getfield 67, 3) := by decide +kernel
theorem d52_209 : decode prog_11_method_28_code 209 = .ok (.bipush 80, 2) := by decide +kernel
theorem d52_211 : decode prog_11_method_28_code 211 = .ok (.iload_n 1, 1) := by decide +kernel
theorem d52_212 : decode prog_11_method_28_code 212 = .ok (.imul, 1) := by decide +kernel
theorem d52_213 : decode prog_11_method_28_code 213 = .ok (.iload 5, 2) := by decide +kernel
theorem d52_215 : decode prog_11_method_28_code 215 = .ok (.iadd, 1) := by decide +kernel
theorem d52_216 : decode prog_11_method_28_code 216 = .ok (.iconst 1, 1) := by decide +kernel
theorem d52_217 : decode prog_11_method_28_code 217 = .ok (.isub, 1) := by decide +kernel
theorem d52_218 : decode prog_11_method_28_code 218 = .ok (.iaload, 1) := by decide +kernel
theorem d52_219 : decode prog_11_method_28_code 219 = .ok (.iaload, 1) := by decide +kernel
theorem d52_220 : decode prog_11_method_28_code 220 = .ok (.aload_n 0, 1) := by decide +kernel
theorem d52_221 : decode prog_11_method_28_code 221 = .ok (.getfield 85, 3) := by decide +kernel
theorem d52_224 : decode prog_11_method_28_code 224 = .ok (.iload 4, 2) := by decide +kernel
theorem d52_226 : decode prog_11_method_28_code 226 = .ok (.iaload, 1) := by decide +kernel
theorem d52_227 : decode prog_11_method_28_code 227 = .ok (.imul, 1) := by decide +kernel
theorem d52_228 : decode prog_11_method_28_code 228 = .ok (.aload_n 0, 1) := by decide +kernel
theorem d52_229 : decode prog_11_method_28_code 229 = .ok (.getfield 82, 3) := by decide +kernel
theorem d52_232 : decode prog_11_method_28_code 232 = .ok (.iload 4, 2) := by decide +kernel
theorem d52_234 : decode prog_11_method_28_code 234 = .ok (.iaload, 1) := by decide +kernel
theorem d52_235 : decode prog_11_method_28_code 235 = .ok (.aload_n 0, 1) := by decide +kernel
theorem d52_236 : decode prog_11_method_28_code 236 = .ok (.getfield 85, 3) := by decide +kernel
theorem d52_239 : decode prog_11_method_28_code 239 = .ok (.aload_n 0, 1) := by decide +kernel
theorem d52_240 : decode prog_11_method_28_code 240 = .ok (.getfield 67, 3) := by decide +kernel
theorem d52_243 : decode prog_11_method_28_code 243 = .ok (.bipush 80, 2) := by decide +kernel
theorem d52_245 : decode prog_11_method_28_code 245 = .ok (.iload_n 1, 1) := by decide +kernel
theorem d52_246 : decode prog_11_method_28_code 246 = .ok (.imul, 1) := by decide +kernel
theorem d52_247 : decode prog_11_method_28_code 247 = .ok (.iload 5, 2) := by decide +kernel
theorem d52_249 : decode prog_11_method_28_code 249 = .ok (.iadd, 1) := by decide +kernel
theorem d52_250 : decode prog_11_method_28_code 250 = .ok (.iconst 1, 1) := by decide +kernel
theorem d52_251 : decode prog_11_method_28_code 251 = .ok (.isub, 1) := by decide +kernel
theorem d52_252 : decode prog_11_method_28_code 252 = .ok (.iaload, 1) := by decide +kernel
theorem d52_253 : decode prog_11_method_28_code 253 = .ok (.iaload, 1) := by decide +kernel
theorem d52_254 : decode prog_11_method_28_code 254 = .ok (.imul, 1) := by decide +kernel
theorem d52_255 : decode prog_11_method_28_code 255 = .ok (.if_icmp .le 35, 3) := by decide +kernel
theorem d52_258 : decode prog_11_method_28_code 258 = .ok (.aload_n 0, 1) := by decide +kernel
theorem d52_259 : decode prog_11_method_28_code 259 = .ok (.getfield 67, 3) := by decide +kernel
theorem d52_262 : decode prog_11_method_28_code 262 = .ok (.bipush 80, 2) := by decide +kernel
theorem d52_264 : decode prog_11_method_28_code 264 = .ok (.iload_n 1, 1) := by decide +kernel
theorem d52_265 : decode prog_11_method_28_code 265 = .ok (.imul, 1) := by decide +kernel
theorem d52_266 : decode prog_11_method_28_code 266 = .ok (.iload 5, 2) := by decide +kernel
theorem d52_268 : decode prog_11_method_28_code 268 = .ok (.iadd, 1) := by decide +kernel
theorem d52_269 : decode prog_11_method_28_code 269 = .ok (.aload_n 0, 1) := by decide +kernel
theorem d52_270 : decode prog_11_method_28_code 270 = .ok (.getfield 67, 3) := by decide +kernel
theorem d52_273 : decode prog_11_method_28_code 273 = .ok (.bipush 80, 2) := by decide +kernel
theorem d52_275 : decode prog_11_method_28_code 275 = .ok (.iload_n 1, 1) := by decide +kernel
theorem d52_276 : decode prog_11_method_28_code 276 = .ok (.imul, 1) := by decide +kernel
theorem d52_277 : decode prog_11_method_28_code 277 = .ok (.iload 5, 2) := by decide +kernel
theorem d52_279 : decode prog_11_method_28_code 279 = .ok (.iadd, 1) := by decide +kernel
theorem d52_280 : decode prog_11_method_28_code 280 = .ok (.iconst 1, 1) := by decide +kernel
theorem d52_281 : decode prog_11_method_28_code 281 = .ok (.isub, 1) := by decide +kernel
theorem d52_282 : decode prog_11_method_28_code 282 = .ok (.iaload, 1) := by decide +kernel
theorem d52_283 : decode prog_11_method_28_code 283 = .ok (.iastore, 1) := by decide +kernel
theorem d52_284 : decode prog_11_method_28_code 284 = .ok (.iinc 5 (-1), 3) := by decide +kernel
theorem d52_287 : decode prog_11_method_28_code 287 = .ok (.goto (-91), 3) := by decide +kernel
theorem d52_290 : decode prog_11_method_28_code 290 = .ok (.aload_n 0, 1) := by decide +kernel
theorem d52_291 : decode prog_11_method_28_code 291 = .ok (.getfield 67, 3) := by decide +kernel
theorem d52_294 : decode prog_11_method_28_code 294 = .ok (.bipush 80, 2) := by decide +kernel
theorem d52_296 : decode prog_11_method_28_code 296 = .ok (.iload_n 1, 1) := by decide +kernel
theorem d52_297 : decode prog_11_method_28_code 297 = .ok (.imul, 1) := by decide +kernel
theorem d52_298 : decode prog_11_method_28_code 298 = .ok (.iload 5, 2) := by decide +kernel
theorem d52_300 : decode prog_11_method_28_code 300 = .ok (.iadd, 1) := by decide +kernel
theorem d52_301 : decode prog_11_method_28_code 301 = .ok (.iload 4, 2) := by decide +kernel
theorem d52_303 : decode prog_11_method_28_code 303 = .ok (.iastore, 1) := by decide +kernel
theorem d52_304 : decode prog_11_method_28_code 304 = .ok (.iinc 3 1, 3) := by decide +kernel
theorem d52_307 : decode prog_11_method_28_code 307 = .ok (.goto (-137), 3) := by decide +kernel
theorem d52_310 : decode prog_11_method_28_code 310 = .ok (.aload_n 0, 1) := by decide +kernel
theorem d52_311 : decode prog_11_method_28_code 311 = .ok (.iload_n 1, 1) := by decide +kernel
theorem d52_312 : decode prog_11_method_28_code 312 = .ok (.invokevirtual 164, 3) := by decide +kernel
theorem d52_315 : decode prog_11_method_28_code 315 = .ok (.return_, 1) := by decide +kernel
theorem d53_0 : decode prog_11_method_29_code 0 = .ok (.iconst 0, 1) := by decide +kernel
theorem d53_1 : decode prog_11_method_29_code 1 = .ok (.istore_n 2, 1) := by decide +kernel
theorem d53_2 : decode prog_11_method_29_code 2 = .ok (.iload_n 2, 1) := by decide +kernel
theorem d53_3 : decode prog_11_method_29_code 3 = .ok (.aload_n 0, 1) := by decide +kernel
theorem d53_4 : decode prog_11_method_29_code 4 = .ok (.getfield 70, 3) := by decide +kernel
theorem d53_7 : decode prog_11_method_29_code 7 = .ok (.iload_n 1, 1) := by decide +kernel
theorem d53_8 : decode prog_11_method_29_code 8 = .ok (.iaload, 1) := by decide +kernel
theorem d53_9 : decode prog_11_method_29_code 9 = .ok (.if_icmp .ge 26, 3) := by decide +kernel
theorem d53_12 : decode prog_11_method_29_code 12 = .ok (.aload_n 0, 1) := by decide +kernel
theorem d53_13 : decode prog_11_method_29_code 13 = .ok (.getfield 73, 3) := by decide +kernel
theorem d53_16 : decode prog_11_method_29_code 16 = .ok (.aload_n 0, 1) := by decide +kernel
theorem d53_17 : decode prog_11_method_29_code 17 = .ok (.getfield 67, 3) := by decide +kernel
theorem d53_20 : decode prog_11_method_29_code 20 = .ok (.bipush 80, 2) := by decide +kernel
theorem d53_22 : decode prog_11_method_29_code 22 = .ok (.iload_n 1, 1) := by decide +kernel
theorem d53_23 : decode prog_11_method_29_code 23 = .ok (.imul, 1) := by decide +kernel
theorem d53_24 : decode prog_11_method_29_code 24 = .ok (.iload_n 2, 1) := by decide +kernel
theorem d53_25 : decode prog_11_method_29_code 25 = .ok (.iadd, 1) := by decide +kernel
theorem d53_26 : decode prog_11_method_29_code 26 = .ok (.iaload, 1) := by decide +kernel
theorem d53_27 : decode prog_11_method_29_code 27 = .ok (.iload_n 2, 1) := by decide +kernel
theorem d53_28 : decode prog_11_method_29_code 28 = .ok (.iastore, 1) := by decide +kernel
theorem d53_29 : decode prog_11_method_29_code 29 = .ok (.iinc 2 1, 3) := by decide +kernel
theorem d53_32 : decode prog_11_method_29_code 32 = .ok (.goto (-30), 3) := by decide +kernel
theorem d53_35 : decode prog_11_method_29_code 35 = .ok (.return_, 1) := by decide +kernel
theorem d54_0 : decode prog_11_method_30_code 0 = .ok (.aload_n 0, 1) := by decide +kernel
theorem d54_1 : decode prog_11_method_30_code 1 = .ok (.iload_n 1, 1) := by decide +kernel
theorem d54_2 : decode prog_11_method_30_code 2 = .ok (.putfield 168, 3) := by decide +kernel
theorem d54_5 : decode prog_11_method_30_code 5 = .ok (.aload_n 0, 1) := by decide +kernel
theorem d54_6 : decode prog_11_method_30_code 6 = .ok (.iload_n 2, 1) := by decide +kernel
theorem d54_7 : decode prog_11_method_30_code 7 = .ok (.putfield 171, 3) := by decide +kernel
theorem d54_10 : decode prog_11_method_30_code 10 = .ok (.iconst 0, 1) := by decide +kernel
theorem d54_11 : decode prog_11_method_30_code 11 = .ok (.istore_n 3, 1) := by decide +kernel
theorem d54_12 : decode prog_11_method_30_code 12 = .ok (.iload_n 3, 1) := by decide +kernel
theorem d54_13 : decode prog_11_method_30_code 13 = .ok (.sipush 960, 3) := by decide +kernel
theorem d54_16 : decode prog_11_method_30_code 16 = .ok (.if_icmp .ge 21, 3) := by decide +kernel
theorem d54_19 : decode prog_11_method_30_code 19 = .ok (.aload_n 0, 1) := by decide +kernel
theorem d54_20 : decode prog_11_method_30_code 20 = .ok (.getfield 76, 3) := by decide +kernel
theorem d54_23 : decode prog_11_method_30_code 23 = .ok (.iload_n 3, 1) := by decide +kernel
theorem d54_24 : decode prog_11_method_30_code 24 = .ok (.aload_n 0, 1) := by decide +kernel
theorem d54_25 : decode prog_11_method_30_code 25 = .ok (.getfield 67, 3) := by decide +kernel
