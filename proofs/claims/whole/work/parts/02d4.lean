theorem d70_73 : decode prog_11_method_46_code 73 = .ok (.invokevirtual 215, 3) := by decide +kernel
theorem d70_76 : decode prog_11_method_46_code 76 = .ok (.iload_n 2, 1) := by decide +kernel
theorem d70_77 : decode prog_11_method_46_code 77 = .ok (.ifCond .ge 8, 3) := by decide +kernel
theorem d70_80 : decode prog_11_method_46_code 80 = .ok (.iload 6, 2) := by decide +kernel
theorem d70_82 : decode prog_11_method_46_code 82 = .ok (.goto 4, 3) := by decide +kernel
theorem d70_85 : decode prog_11_method_46_code 85 = .ok (.iload_n 2, 1) := by decide +kernel
theorem d70_86 : decode prog_11_method_46_code 86 = .ok (.istore_n 2, 1) := by decide +kernel
theorem d70_87 : decode prog_11_method_46_code 87 = .ok (.iload 6, 2) := by decide +kernel
theorem d70_89 : decode prog_11_method_46_code 89 = .ok (.istore_n 3, 1) := by decide +kernel
theorem d70_90 : decode prog_11_method_46_code 90 = .ok (.iload 4, 2) := by decide +kernel
theorem d70_92 : decode prog_11_method_46_code 92 = .ok (.aload_n 0, 1) := by decide +kernel
theorem d70_93 : decode prog_11_method_46_code 93 = .ok (.getfield 94, 3) := by decide +kernel
theorem d70_96 : decode prog_11_method_46_code 96 = .ok (.iload 6, 2) := by decide +kernel
theorem d70_98 : decode prog_11_method_46_code 98 = .ok (.iaload, 1) := by decide +kernel
theorem d70_99 : decode prog_11_method_46_code 99 = .ok (.ior, 1) := by decide +kernel
theorem d70_100 : decode prog_11_method_46_code 100 = .ok (.istore 4, 2) := by decide +kernel
theorem d70_102 : decode prog_11_method_46_code 102 = .ok (.iinc 5 1, 3) := by decide +kernel
theorem d70_105 : decode prog_11_method_46_code 105 = .ok (.goto (-95), 3) := by decide +kernel
theorem d70_108 : decode prog_11_method_46_code 108 = .ok (.aload_n 0, 1) := by decide +kernel
theorem d70_109 : decode prog_11_method_46_code 109 = .ok (.getfield 94, 3) := by decide +kernel
theorem d70_112 : decode prog_11_method_46_code 112 = .ok (.iload_n 1, 1) := by decide +kernel
theorem d70_113 : decode prog_11_method_46_code 113 = .ok (.dup2, 1) := by decide +kernel
theorem d70_114 : decode prog_11_method_46_code 114 = .ok (.iaload, 1) := by decide +kernel
theorem d70_115 : decode prog_11_method_46_code 115 = .ok (.iload 4, 2) := by decide +kernel
theorem d70_117 : decode prog_11_method_46_code 117 = .ok (.ior, 1) := by decide +kernel
theorem d70_118 : decode prog_11_method_46_code 118 = .ok (.iastore, 1) := by decide +kernel
theorem d70_119 : decode prog_11_method_46_code 119 = .ok (.iload_n 2, 1) := by decide +kernel
theorem d70_120 : decode prog_11_method_46_code 120 = .ok (.ifCond .lt 53, 3) := by decide +kernel
theorem d70_123 : decode prog_11_method_46_code 123 = .ok (.aload_n 0, 1) := by decide +kernel
theorem d70_124 : decode prog_11_method_46_code 124 = .ok (.getfield 97, 3) := by decide +kernel
theorem d70_127 : decode prog_11_method_46_code 127 = .ok (.iload_n 1, 1) := by decide +kernel
theorem d70_128 : decode prog_11_method_46_code 128 = .ok (.iconst 2, 1) := by decide +kernel
theorem d70_129 : decode prog_11_method_46_code 129 = .ok (.aload_n 0, 1) := by decide +kernel
theorem d70_130 : decode prog_11_method_46_code 130 = .ok (.getfield 97, 3) := by decide +kernel
theorem d70_133 : decode prog_11_method_46_code 133 = .ok (.iload_n 2, 1) := by decide +kernel
theorem d70_134 : decode prog_11_method_46_code 134 = .ok (.iaload, 1) := by decide +kernel
theorem d70_135 : decode prog_11_method_46_code 135 = .ok (.imul, 1) := by decide +kernel
theorem d70_136 : decode prog_11_method_46_code 136 = .ok (.aload_n 0, 1) := by decide +kernel
theorem d70_137 : decode prog_11_method_46_code 137 = .ok (.getfield 7, 3) := by decide +kernel
theorem d70_140 : decode prog_11_method_46_code 140 = .ok (.iload_n 2, 1) := by decide +kernel
theorem d70_141 : decode prog_11_method_46_code 141 = .ok (.iaload, 1) := by decide +kernel
theorem d70_142 : decode prog_11_method_46_code 142 = .ok (.iadd, 1) := by decide +kernel
theorem d70_143 : decode prog_11_method_46_code 143 = .ok (.iconst 2, 1) := by decide +kernel
theorem d70_144 : decode prog_11_method_46_code 144 = .ok (.aload_n 0, 1) := by decide +kernel
theorem d70_145 : decode prog_11_method_46_code 145 = .ok (.getfield 97, 3) := by decide +kernel
theorem d70_148 : decode prog_11_method_46_code 148 = .ok (.iload_n 3, 1) := by decide +kernel
theorem d70_149 : decode prog_11_method_46_code 149 = .ok (.iaload, 1) := by decide +kernel
theorem d70_150 : decode prog_11_method_46_code 150 = .ok (.imul, 1) := by decide +kernel
theorem d70_151 : decode prog_11_method_46_code 151 = .ok (.iadd, 1) := by decide +kernel
theorem d70_152 : decode prog_11_method_46_code 152 = .ok (.aload_n 0, 1) := by decide +kernel
theorem d70_153 : decode prog_11_method_46_code 153 = .ok (.getfield 7, 3) := by decide +kernel
theorem d70_156 : decode prog_11_method_46_code 156 = .ok (.iload_n 3, 1) := by decide +kernel
theorem d70_157 : decode prog_11_method_46_code 157 = .ok (.iaload, 1) := by decide +kernel
theorem d70_158 : decode prog_11_method_46_code 158 = .ok (.iadd, 1) := by decide +kernel
theorem d70_159 : decode prog_11_method_46_code 159 = .ok (.iconst 4, 1) := by decide +kernel
theorem d70_160 : decode prog_11_method_46_code 160 = .ok (.invokestatic 194, 3) := by decide +kernel
theorem d70_163 : decode prog_11_method_46_code 163 = .ok (.aload_n 0, 1) := by decide +kernel
theorem d70_164 : decode prog_11_method_46_code 164 = .ok (.getfield 7, 3) := by decide +kernel
theorem d70_167 : decode prog_11_method_46_code 167 = .ok (.iload_n 1, 1) := by decide +kernel
theorem d70_168 : decode prog_11_method_46_code 168 = .ok (.iaload, 1) := by decide +kernel
theorem d70_169 : decode prog_11_method_46_code 169 = .ok (.iconst 2, 1) := by decide +kernel
theorem d70_170 : decode prog_11_method_46_code 170 = .ok (.idiv, 1) := by decide +kernel
theorem d70_171 : decode prog_11_method_46_code 171 = .ok (.isub, 1) := by decide +kernel
theorem d70_172 : decode prog_11_method_46_code 172 = .ok (.iastore, 1) := by decide +kernel
theorem d70_173 : decode prog_11_method_46_code 173 = .ok (.return_, 1) := by decide +kernel
theorem d71_0 : decode prog_11_method_47_code 0 = .ok (.iconst 0, 1) := by decide +kernel
theorem d71_1 : decode prog_11_method_47_code 1 = .ok (.istore_n 3, 1) := by decide +kernel
theorem d71_2 : decode prog_11_method_47_code 2 = .ok (.iload_n 3, 1) := by decide +kernel
theorem d71_3 : decode prog_11_method_47_code 3 = .ok (.aload_n 0, 1) := by decide +kernel
theorem d71_4 : decode prog_11_method_47_code 4 = .ok (.getfield 106, 3) := by decide +kernel
theorem d71_7 : decode prog_11_method_47_code 7 = .ok (.if_icmp .ge 32, 3) := by decide +kernel
theorem d71_10 : decode prog_11_method_47_code 10 = .ok (.aload_n 0, 1) := by decide +kernel
theorem d71_11 : decode prog_11_method_47_code 11 = .ok (.getfield 97, 3) := by decide +kernel
theorem d71_14 : decode prog_11_method_47_code 14 = .ok (.iload_n 3, 1) := by decide +kernel
theorem d71_15 : decode prog_11_method_47_code 15 = .ok (.dup2, 1) := by decide +kernel
theorem d71_16 : decode prog_11_method_47_code 16 = .ok (.iaload, 1) := by decide +kernel
theorem d71_17 : decode prog_11_method_47_code 17 = .ok (.iload_n 1, 1) := by decide +kernel
theorem d71_18 : decode prog_11_method_47_code 18 = .ok (.iload_n 3, 1) := by decide +kernel
theorem d71_19 : decode prog_11_method_47_code 19 = .ok (.ishr, 1) := by decide +kernel
theorem d71_20 : decode prog_11_method_47_code 20 = .ok (.iconst 1, 1) := by decide +kernel
theorem d71_21 : decode prog_11_method_47_code 21 = .ok (.iand, 1) := by decide +kernel
theorem d71_22 : decode prog_11_method_47_code 22 = .ok (.iconst 1, 1) := by decide +kernel
theorem d71_23 : decode prog_11_method_47_code 23 = .ok (.if_icmp .ne 7, 3) := by decide +kernel
theorem d71_26 : decode prog_11_method_47_code 26 = .ok (.iload_n 2, 1) := by decide +kernel
theorem d71_27 : decode prog_11_method_47_code 27 = .ok (.goto 4, 3) := by decide +kernel
theorem d71_30 : decode prog_11_method_47_code 30 = .ok (.iconst 0, 1) := by decide +kernel
theorem d71_31 : decode prog_11_method_47_code 31 = .ok (.iadd, 1) := by decide +kernel
theorem d71_32 : decode prog_11_method_47_code 32 = .ok (.iastore, 1) := by decide +kernel
theorem d71_33 : decode prog_11_method_47_code 33 = .ok (.iinc 3 1, 3) := by decide +kernel
theorem d71_36 : decode prog_11_method_47_code 36 = .ok (.goto (-34), 3) := by decide +kernel
theorem d71_39 : decode prog_11_method_47_code 39 = .ok (.return_, 1) := by decide +kernel
theorem d72_0 : decode prog_11_method_48_code 0 = .ok (.sipush (-10000), 3) := by decide +kernel
theorem d72_3 : decode prog_11_method_48_code 3 = .ok (.istore_n 3, 1) := by decide +kernel
theorem d72_4 : decode prog_11_method_48_code 4 = .ok (.iconst 0, 1) := by decide +kernel
theorem d72_5 : decode prog_11_method_48_code 5 = .ok (.istore 4, 2) := by decide +kernel
theorem d72_7 : decode prog_11_method_48_code 7 = .ok (.iload 4, 2) := by decide +kernel
theorem d72_9 : decode prog_11_method_48_code 9 = .ok (.aload_n 0, 1) := by decide +kernel
theorem d72_10 : decode prog_11_method_48_code 10 = .ok (.getfield 106, 3) := by decide +kernel
theorem d72_13 : decode prog_11_method_48_code 13 = .ok (.if_icmp .ge 44, 3) := by decide +kernel
theorem d72_16 : decode prog_11_method_48_code 16 = .ok (.iload_n 2, 1) := by decide +kernel
theorem d72_17 : decode prog_11_method_48_code 17 = .ok (.iload 4, 2) := by decide +kernel
theorem d72_19 : decode prog_11_method_48_code 19 = .ok (.ishr, 1) := by decide +kernel
theorem d72_20 : decode prog_11_method_48_code 20 = .ok (.iconst 1, 1) := by decide +kernel
theorem d72_21 : decode prog_11_method_48_code 21 = .ok (.iand, 1) := by decide +kernel
theorem d72_22 : decode prog_11_method_48_code 22 = .ok (.iconst 1, 1) := by decide +kernel
theorem d72_23 : decode prog_11_method_48_code 23 = .ok (.if_icmp .ne 26, 3) := by decide +kernel
theorem d72_26 : decode prog_11_method_48_code 26 = .ok (.aload_n 0, 1) := by decide +kernel
theorem d72_27 : decode prog_11_method_48_code 27 = .ok (.getfield 97, 3) := by decide +kernel
theorem d72_30 : decode prog_11_method_48_code 30 = .ok (.iload 4, 2) := by decide +kernel
theorem d72_32 : decode prog_11_method_48_code 32 = .ok (.iaload, 1) := by decide +kernel
theorem d72_33 : decode prog_11_method_48_code 33 = .ok (.ineg, 1) := by decide +kernel
theorem d72_34 : decode prog_11_method_48_code 34 = .ok (.iload_n 3, 1) := by decide +kernel
theorem d72_35 : decode prog_11_method_48_code 35 = .ok (.if_icmp .le 14, 3) := by decide +kernel
theorem d72_38 : decode prog_11_method_48_code 38 = .ok (.aload_n 0, 1) := by decide +kernel
theorem d72_39 : decode prog_11_method_48_code 39 = .ok (.getfield 97, 3) := by decide +kernel
theorem d72_42 : decode prog_11_method_48_code 42 = .ok (.iload 4, 2) := by decide +kernel
theorem d72_44 : decode prog_11_method_48_code 44 = .ok (.iaload, 1) := by decide +kernel
theorem d72_45 : decode prog_11_method_48_code 45 = .ok (.ineg, 1) := by decide +kernel
theorem d72_46 : decode prog_11_method_48_code 46 = .ok (.goto 4, 3) := by decide +kernel
theorem d72_49 : decode prog_11_method_48_code 49 = .ok (.iload_n 3, 1) := by decide +kernel
theorem d72_50 : decode prog_11_method_48_code 50 = .ok (.istore_n 3, 1) := by decide +kernel
theorem d72_51 : decode prog_11_method_48_code 51 = .ok (.iinc 4 1, 3) := by decide +kernel
theorem d72_54 : decode prog_11_method_48_code 54 = .ok (.goto (-47), 3) := by decide +kernel
theorem d72_57 : decode prog_11_method_48_code 57 = .ok (.iconst 0, 1) := by decide +kernel
theorem d72_58 : decode prog_11_method_48_code 58 = .ok (.istore 4, 2) := by decide +kernel
theorem d72_60 : decode prog_11_method_48_code 60 = .ok (.iload 4, 2) := by decide +kernel
theorem d72_62 : decode prog_11_method_48_code 62 = .ok (.aload_n 0, 1) := by decide +kernel
theorem d72_63 : decode prog_11_method_48_code 63 = .ok (.getfield 106, 3) := by decide +kernel
theorem d72_66 : decode prog_11_method_48_code 66 = .ok (.if_icmp .ge 104, 3) := by decide +kernel
theorem d72_69 : decode prog_11_method_48_code 69 = .ok (.iconst 0, 1) := by decide +kernel
theorem d72_70 : decode prog_11_method_48_code 70 = .ok (.istore 5, 2) := by decide +kernel
theorem d72_72 : decode prog_11_method_48_code 72 = .ok (.iload 5, 2) := by decide +kernel
theorem d72_74 : decode prog_11_method_48_code 74 = .ok (.aload_n 0, 1) := by decide +kernel
theorem d72_75 : decode prog_11_method_48_code 75 = .ok (.getfield 106, 3) := by decide +kernel
theorem d72_78 : decode prog_11_method_48_code 78 = .ok (.if_icmp .ge 86, 3) := by decide +kernel
theorem d72_81 : decode prog_11_method_48_code 81 = .ok (.iload_n 1, 1) := by decide +kernel
theorem d72_82 : decode prog_11_method_48_code 82 = .ok (.iload 4, 2) := by decide +kernel
theorem d72_84 : decode prog_11_method_48_code 84 = .ok (.ishr, 1) := by decide +kernel
theorem d72_85 : decode prog_11_method_48_code 85 = .ok (.iconst 1, 1) := by decide +kernel
theorem d72_86 : decode prog_11_method_48_code 86 = .ok (.iand, 1) := by decide +kernel
theorem d72_87 : decode prog_11_method_48_code 87 = .ok (.iconst 1, 1) := by decide +kernel
theorem d72_88 : decode prog_11_method_48_code 88 = .ok (.if_icmp .ne 70, 3) := by decide +kernel
theorem d72_91 : decode prog_11_method_48_code 91 = .ok (.iload_n 2, 1) := by decide +kernel
theorem d72_92 : decode prog_11_method_48_code 92 = .ok (.iload 5, 2) := by decide +kernel
theorem d72_94 : decode prog_11_method_48_code 94 = .ok (.ishr, 1) := by decide +kernel
theorem d72_95 : decode prog_11_method_48_code 95 = .ok (.iconst 1, 1) := by decide +kernel
theorem d72_96 : decode prog_11_method_48_code 96 = .ok (.iand, 1) := by decide +kernel
theorem d72_97 : decode prog_11_method_48_code 97 = .ok (.iconst 1, 1) := by decide +kernel
theorem d72_98 : decode prog_11_method_48_code 98 = .ok (.if_icmp .ne 60, 3) := by decide +kernel
theorem d72_101 : decode prog_11_method_48_code 101 = .ok (.aload_n 0, 1) := by decide +kernel
theorem d72_102 : decode prog_11_method_48_code 102 = .ok (.getfield 91, 3) := by decide +kernel
theorem d72_105 : decode prog_11_method_48_code 105 = .ok (.iload 4, 2) := by decide +kernel
theorem d72_107 : decode prog_11_method_48_code 107 = .ok (.iaload, 1) := by decide +kernel
theorem d72_108 : decode prog_11_method_48_code 108 = .ok (.aload_n 0, 1) := by decide +kernel
theorem d72_109 : decode prog_11_method_48_code 109 = .ok (.getfield 91, 3) := by decide +kernel
theorem d72_112 : decode prog_11_method_48_code 112 = .ok (.iload 5, 2) := by decide +kernel
theorem d72_114 : decode prog_11_method_48_code 114 = .ok (.iaload, 1) := by decide +kernel
theorem d72_115 : decode prog_11_method_48_code 115 = .ok (.if_icmp .ne 43, 3) := by decide +kernel
theorem d72_118 : decode prog_11_method_48_code 118 = .ok (.aload_n 0, 1) := by decide +kernel
theorem d72_119 : decode prog_11_method_48_code 119 = .ok (.getfield 97, 3) := by decide +kernel
theorem d72_122 : decode prog_11_method_48_code 122 = .ok (.iload 4, 2) := by decide +kernel
theorem d72_124 : decode prog_11_method_48_code 124 = .ok (.iaload, 1) := by decide +kernel
theorem d72_125 : decode prog_11_method_48_code 125 = .ok (.aload_n 0, 1) := by decide +kernel
theorem d72_126 : decode prog_11_method_48_code 126 = .ok (.getfield 7, 3) := by decide +kernel
theorem d72_129 : decode prog_11_method_48_code 129 = .ok (.iload 4, 2) := by decide +kernel
theorem d72_131 : decode prog_11_method_48_code 131 = .ok (.iaload, 1) := by decide +kernel
theorem d72_132 : decode prog_11_method_48_code 132 = .ok (.iadd, 1) := by decide +kernel
theorem d72_133 : decode prog_11_method_48_code 133 = .ok (.iconst 1, 1) := by decide +kernel
theorem d72_134 : decode prog_11_method_48_code 134 = .ok (.iadd, 1) := by decide +kernel
theorem d72_135 : decode prog_11_method_48_code 135 = .ok (.aload_n 0, 1) := by decide +kernel
theorem d72_136 : decode prog_11_method_48_code 136 = .ok (.getfield 97, 3) := by decide +kernel
theorem d72_139 : decode prog_11_method_48_code 139 = .ok (.iload 5, 2) := by decide +kernel
theorem d72_141 : decode prog_11_method_48_code 141 = .ok (.iaload, 1) := by decide +kernel
theorem d72_142 : decode prog_11_method_48_code 142 = .ok (.isub, 1) := by decide +kernel
theorem d72_143 : decode prog_11_method_48_code 143 = .ok (.istore 6, 2) := by decide +kernel
theorem d72_145 : decode prog_11_method_48_code 145 = .ok (.iload 6, 2) := by decide +kernel
theorem d72_147 : decode prog_11_method_48_code 147 = .ok (.iload_n 3, 1) := by decide +kernel
theorem d72_148 : decode prog_11_method_48_code 148 = .ok (.if_icmp .le 8, 3) := by decide +kernel
theorem d72_151 : decode prog_11_method_48_code 151 = .ok (.iload 6, 2) := by decide +kernel
theorem d72_153 : decode prog_11_method_48_code 153 = .ok (.goto 4, 3) := by decide +kernel
theorem d72_156 : decode prog_11_method_48_code 156 = .ok (.iload_n 3, 1) := by decide +kernel
theorem d72_157 : decode prog_11_method_48_code 157 = .ok (.istore_n 3, 1) := by decide +kernel
theorem d72_158 : decode prog_11_method_48_code 158 = .ok (.iinc 5 1, 3) := by decide +kernel
theorem d72_161 : decode prog_11_method_48_code 161 = .ok (.goto (-89), 3) := by decide +kernel
theorem d72_164 : decode prog_11_method_48_code 164 = .ok (.iinc 4 1, 3) := by decide +kernel
theorem d72_167 : decode prog_11_method_48_code 167 = .ok (.goto (-107), 3) := by decide +kernel
theorem d72_170 : decode prog_11_method_48_code 170 = .ok (.iload_n 3, 1) := by decide +kernel
theorem d72_171 : decode prog_11_method_48_code 171 = .ok (.ireturn, 1) := by decide +kernel
theorem d73_0 : decode prog_2_method_1_code 0 = .ok (.aload_n 0, 1) := by decide +kernel
theorem d73_1 : decode prog_2_method_1_code 1 = .ok (.invokespecial 3, 3) := by decide +kernel
theorem d73_4 : decode prog_2_method_1_code 4 = .ok (.aload_n 0, 1) := by decide +kernel
theorem d73_5 : decode prog_2_method_1_code 5 = .ok (.bipush 12, 2) := by decide +kernel
theorem d73_7 : decode prog_2_method_1_code 7 = .ok (.newarray .int, 2) := by decide +kernel
theorem d73_9 : decode prog_2_method_1_code 9 = .ok (.putfield 9, 3) := by decide +kernel
theorem d73_12 : decode prog_2_method_1_code 12 = .ok (.aload_n 0, 1) := by decide +kernel
theorem d73_13 : decode prog_2_method_1_code 13 = .ok (.bipush 24, 2) := by decide +kernel
theorem d73_15 : decode prog_2_method_1_code 15 = .ok (.newarray .int, 2) := by decide +kernel
theorem d73_17 : decode prog_2_method_1_code 17 = .ok (.putfield 15, 3) := by decide +kernel
theorem d73_20 : decode prog_2_method_1_code 20 = .ok (.aload_n 0, 1) := by decide +kernel
theorem d73_21 : decode prog_2_method_1_code 21 = .ok (.bipush 24, 2) := by decide +kernel
theorem d73_23 : decode prog_2_method_1_code 23 = .ok (.newarray .int, 2) := by decide +kernel
theorem d73_25 : decode prog_2_method_1_code 25 = .ok (.putfield 18, 3) := by decide +kernel
theorem d73_28 : decode prog_2_method_1_code 28 = .ok (.aload_n 0, 1) := by decide +kernel
theorem d73_29 : decode prog_2_method_1_code 29 = .ok (.bipush 24, 2) := by decide +kernel
theorem d73_31 : decode prog_2_method_1_code 31 = .ok (.newarray .boolean, 2) := by decide +kernel
theorem d73_33 : decode prog_2_method_1_code 33 = .ok (.putfield 21, 3) := by decide +kernel
theorem d73_36 : decode prog_2_method_1_code 36 = .ok (.aload_n 0, 1) := by decide +kernel
theorem d73_37 : decode prog_2_method_1_code 37 = .ok (.iconst 0, 1) := by decide +kernel
theorem d73_38 : decode prog_2_method_1_code 38 = .ok (.putfield 25, 3) := by decide +kernel
theorem d73_41 : decode prog_2_method_1_code 41 = .ok (.aload_n 0, 1) := by decide +kernel
theorem d73_42 : decode prog_2_method_1_code 42 = .ok (.iconst 0, 1) := by decide +kernel
theorem d73_43 : decode prog_2_method_1_code 43 = .ok (.putfield 29, 3) := by decide +kernel
theorem d73_46 : decode prog_2_method_1_code 46 = .ok (.aload_n 0, 1) := by decide +kernel
theorem d73_47 : decode prog_2_method_1_code 47 = .ok (.iconst 0, 1) := by decide +kernel
theorem d73_48 : decode prog_2_method_1_code 48 = .ok (.putfield 32, 3) := by decide +kernel
theorem d73_51 : decode prog_2_method_1_code 51 = .ok (.return_, 1) := by decide +kernel
theorem d74_0 : decode prog_2_method_2_code 0 = .ok (.iload_n 1, 1) := by decide +kernel
theorem d74_1 : decode prog_2_method_2_code 1 = .ok (.ifCond .lt 15, 3) := by decide +kernel
theorem d74_4 : decode prog_2_method_2_code 4 = .ok (.iload_n 1, 1) := by decide +kernel
theorem d74_5 : decode prog_2_method_2_code 5 = .ok (.aload_n 0, 1) := by decide +kernel
theorem d74_6 : decode prog_2_method_2_code 6 = .ok (.getfield 25, 3) := by decide +kernel
theorem d74_9 : decode prog_2_method_2_code 9 = .ok (.if_icmp .ge 7, 3) := by decide +kernel
theorem d74_12 : decode prog_2_method_2_code 12 = .ok (.iconst 1, 1) := by decide +kernel
theorem d74_13 : decode prog_2_method_2_code 13 = .ok (.goto 4, 3) := by decide +kernel
theorem d74_16 : decode prog_2_method_2_code 16 = .ok (.iconst 0, 1) := by decide +kernel
theorem d74_17 : decode prog_2_method_2_code 17 = .ok (.ireturn, 1) := by decide +kernel
theorem d75_0 : decode prog_2_method_3_code 0 = .ok (.iload_n 1, 1) := by decide +kernel
theorem d75_1 : decode prog_2_method_3_code 1 = .ok (.ifCond .lt 24, 3) := by decide +kernel
theorem d75_4 : decode prog_2_method_3_code 4 = .ok (.iload_n 1, 1) := by decide +kernel
theorem d75_5 : decode prog_2_method_3_code 5 = .ok (.aload_n 0, 1) := by decide +kernel
theorem d75_6 : decode prog_2_method_3_code 6 = .ok (.getfield 29, 3) := by decide +kernel
theorem d75_9 : decode prog_2_method_3_code 9 = .ok (.if_icmp .ge 16, 3) := by decide +kernel
theorem d75_12 : decode prog_2_method_3_code 12 = .ok (.aload_n 0, 1) := by decide +kernel
theorem d75_13 : decode prog_2_method_3_code 13 = .ok (.getfield 21, 3) := by decide +kernel
theorem d75_16 : decode prog_2_method_3_code 16 = .ok (.iload_n 1, 1) := by decide +kernel
theorem d75_17 : decode prog_2_method_3_code 17 = .ok (.baload, 1) := by decide +kernel
theorem d75_18 : decode prog_2_method_3_code 18 = .ok (.ifCond .eq 7, 3) := by decide +kernel
theorem d75_21 : decode prog_2_method_3_code 21 = .ok (.iconst 1, 1) := by decide +kernel
theorem d75_22 : decode prog_2_method_3_code 22 = .ok (.goto 4, 3) := by decide +kernel
theorem d75_25 : decode prog_2_method_3_code 25 = .ok (.iconst 0, 1) := by decide +kernel
theorem d75_26 : decode prog_2_method_3_code 26 = .ok (.ireturn, 1) := by decide +kernel
theorem d76_0 : decode prog_2_method_4_code 0 = .ok (.aload_n 0, 1) := by decide +kernel
theorem d76_1 : decode prog_2_method_4_code 1 = .ok (.getfield 9, 3) := by decide +kernel
theorem d76_4 : decode prog_2_method_4_code 4 = .ok (.aload_n 0, 1) := by decide +kernel
theorem d76_5 : decode prog_2_method_4_code 5 = .ok (.getfield 25, 3) := by decide +kernel
theorem d76_8 : decode prog_2_method_4_code 8 = .ok (.iload_n 1, 1) := by decide +kernel
theorem d76_9 : decode prog_2_method_4_code 9 = .ok (.iastore, 1) := by decide +kernel
theorem d76_10 : decode prog_2_method_4_code 10 = .ok (.aload_n 0, 1) := by decide +kernel
theorem d76_11 : decode prog_2_method_4_code 11 = .ok (.dup, 1) := by decide +kernel
theorem d76_12 : decode prog_2_method_4_code 12 = .ok (.getfield 25, 3) := by decide +kernel
theorem d76_15 : decode prog_2_method_4_code 15 = .ok (.iconst 1, 1) := by decide +kernel
theorem d76_16 : decode prog_2_method_4_code 16 = .ok (.iadd, 1) := by decide +kernel
theorem d76_17 : decode prog_2_method_4_code 17 = .ok (.putfield 25, 3) := by decide +kernel
theorem d76_20 : decode prog_2_method_4_code 20 = .ok (.aload_n 0, 1) := by decide +kernel
theorem d76_21 : decode prog_2_method_4_code 21 = .ok (.getfield 25, 3) := by decide +kernel
theorem d76_24 : decode prog_2_method_4_code 24 = .ok (.iconst 1, 1) := by decide +kernel
theorem d76_25 : decode prog_2_method_4_code 25 = .ok (.isub, 1) := by decide +kernel
theorem d76_26 : decode prog_2_method_4_code 26 = .ok (.ireturn, 1) := by decide +kernel
theorem d77_0 : decode prog_2_method_5_code 0 = .ok (.aload_n 0, 1) := by decide +kernel
theorem d77_1 : decode prog_2_method_5_code 1 = .ok (.getfield 15, 3) := by decide +kernel
theorem d77_4 : decode prog_2_method_5_code 4 = .ok (.aload_n 0, 1) := by decide +kernel
theorem d77_5 : decode prog_2_method_5_code 5 = .ok (.getfield 29, 3) := by decide +kernel
theorem d77_8 : decode prog_2_method_5_code 8 = .ok (.iload_n 1, 1) := by decide +kernel
theorem d77_9 : decode prog_2_method_5_code 9 = .ok (.iastore, 1) := by decide +kernel
theorem d77_10 : decode prog_2_method_5_code 10 = .ok (.aload_n 0, 1) := by decide +kernel
theorem d77_11 : decode prog_2_method_5_code 11 = .ok (.getfield 18, 3) := by decide +kernel
theorem d77_14 : decode prog_2_method_5_code 14 = .ok (.aload_n 0, 1) := by decide +kernel
theorem d77_15 : decode prog_2_method_5_code 15 = .ok (.getfield 29, 3) := by decide +kernel
theorem d77_18 : decode prog_2_method_5_code 18 = .ok (.iload_n 2, 1) := by decide +kernel
theorem d77_19 : decode prog_2_method_5_code 19 = .ok (.iastore, 1) := by decide +kernel
theorem d77_20 : decode prog_2_method_5_code 20 = .ok (.aload_n 0, 1) := by decide +kernel
theorem d77_21 : decode prog_2_method_5_code 21 = .ok (.getfield 21, 3) := by decide +kernel
theorem d77_24 : decode prog_2_method_5_code 24 = .ok (.aload_n 0, 1) := by decide +kernel
theorem d77_25 : decode prog_2_method_5_code 25 = .ok (.getfield 29, 3) := by decide +kernel
theorem d77_28 : decode prog_2_method_5_code 28 = .ok (.iconst 1, 1) := by decide +kernel
theorem d77_29 : decode prog_2_method_5_code 29 = .ok (.bastore, 1) := by decide +kernel
theorem d77_30 : decode prog_2_method_5_code 30 = .ok (.aload_n 0, 1) := by decide +kernel
theorem d77_31 : decode prog_2_method_5_code 31 = .ok (.dup, 1) := by decide +kernel
theorem d77_32 : decode prog_2_method_5_code 32 = .ok (.getfield 32, 3) := by decide +kernel
theorem d77_35 : decode prog_2_method_5_code 35 = .ok (.iconst 1, 1) := by decide +kernel
theorem d77_36 : decode prog_2_method_5_code 36 = .ok (.iadd, 1) := by decide +kernel
theorem d77_37 : decode prog_2_method_5_code 37 = .ok (.putfield 32, 3) := by decide +kernel
theorem d77_40 : decode prog_2_method_5_code 40 = .ok (.aload_n 0, 1) := by decide +kernel
theorem d77_41 : decode prog_2_method_5_code 41 = .ok (.dup, 1) := by decide +kernel
theorem d77_42 : decode prog_2_method_5_code 42 = .ok (.getfield 29, 3) := by decide +kernel
theorem d77_45 : decode prog_2_method_5_code 45 = .ok (.iconst 1, 1) := by decide +kernel
theorem d77_46 : decode prog_2_method_5_code 46 = .ok (.iadd, 1) := by decide +kernel
theorem d77_47 : decode prog_2_method_5_code 47 = .ok (.putfield 29, 3) := by decide +kernel
theorem d77_50 : decode prog_2_method_5_code 50 = .ok (.aload_n 0, 1) := by decide +kernel
theorem d77_51 : decode prog_2_method_5_code 51 = .ok (.getfield 29, 3) := by decide +kernel
theorem d77_54 : decode prog_2_method_5_code 54 = .ok (.iconst 1, 1) := by decide +kernel
theorem d77_55 : decode prog_2_method_5_code 55 = .ok (.isub, 1) := by decide +kernel
theorem d77_56 : decode prog_2_method_5_code 56 = .ok (.ireturn, 1) := by decide +kernel
theorem d78_0 : decode prog_2_method_6_code 0 = .ok (.aload_n 0, 1) := by decide +kernel
theorem d78_1 : decode prog_2_method_6_code 1 = .ok (.getfield 21, 3) := by decide +kernel
theorem d78_4 : decode prog_2_method_6_code 4 = .ok (.iload_n 1, 1) := by decide +kernel
theorem d78_5 : decode prog_2_method_6_code 5 = .ok (.iconst 0, 1) := by decide +kernel
theorem d78_6 : decode prog_2_method_6_code 6 = .ok (.bastore, 1) := by decide +kernel
theorem d78_7 : decode prog_2_method_6_code 7 = .ok (.aload_n 0, 1) := by decide +kernel
theorem d78_8 : decode prog_2_method_6_code 8 = .ok (.dup, 1) := by decide +kernel
theorem d78_9 : decode prog_2_method_6_code 9 = .ok (.getfield 32, 3) := by decide +kernel
theorem d78_12 : decode prog_2_method_6_code 12 = .ok (.iconst 1, 1) := by decide +kernel
theorem d78_13 : decode prog_2_method_6_code 13 = .ok (.isub, 1) := by decide +kernel
theorem d78_14 : decode prog_2_method_6_code 14 = .ok (.putfield 32, 3) := by decide +kernel
theorem d78_17 : decode prog_2_method_6_code 17 = .ok (.return_, 1) := by decide +kernel
theorem d79_0 : decode prog_2_method_7_code 0 = .ok (.aload_n 0, 1) := by decide +kernel
theorem d79_1 : decode prog_2_method_7_code 1 = .ok (.iconst 0, 1) := by decide +kernel
theorem d79_2 : decode prog_2_method_7_code 2 = .ok (.putfield 25, 3) := by decide +kernel
theorem d79_5 : decode prog_2_method_7_code 5 = .ok (.aload_n 0, 1) := by decide +kernel
theorem d79_6 : decode prog_2_method_7_code 6 = .ok (.iconst 0, 1) := by decide +kernel
theorem d79_7 : decode prog_2_method_7_code 7 = .ok (.putfield 29, 3) := by decide +kernel
theorem d79_10 : decode prog_2_method_7_code 10 = .ok (.aload_n 0, 1) := by decide +kernel
theorem d79_11 : decode prog_2_method_7_code 11 = .ok (.iconst 0, 1) := by decide +kernel
theorem d79_12 : decode prog_2_method_7_code 12 = .ok (.putfield 32, 3) := by decide +kernel
theorem d79_15 : decode prog_2_method_7_code 15 = .ok (.return_, 1) := by decide +kernel
theorem d80_0 : decode prog_3_method_1_code 0 = .ok (.aload_n 0, 1) := by decide +kernel
theorem d80_1 : decode prog_3_method_1_code 1 = .ok (.invokespecial 3, 3) := by decide +kernel
theorem d80_4 : decode prog_3_method_1_code 4 = .ok (.aload_n 0, 1) := by decide +kernel
theorem d80_5 : decode prog_3_method_1_code 5 = .ok (.bipush 24, 2) := by decide +kernel
theorem d80_7 : decode prog_3_method_1_code 7 = .ok (.newarray .int, 2) := by decide +kernel
theorem d80_9 : decode prog_3_method_1_code 9 = .ok (.putfield 9, 3) := by decide +kernel
theorem d80_12 : decode prog_3_method_1_code 12 = .ok (.aload_n 0, 1) := by decide +kernel
theorem d80_13 : decode prog_3_method_1_code 13 = .ok (.bipush 24, 2) := by decide +kernel
theorem d80_15 : decode prog_3_method_1_code 15 = .ok (.newarray .int, 2) := by decide +kernel
theorem d80_17 : decode prog_3_method_1_code 17 = .ok (.putfield 15, 3) := by decide +kernel
theorem d80_20 : decode prog_3_method_1_code 20 = .ok (.aload_n 0, 1) := by decide +kernel
theorem d80_21 : decode prog_3_method_1_code 21 = .ok (.bipush 24, 2) := by decide +kernel
theorem d80_23 : decode prog_3_method_1_code 23 = .ok (.newarray .int, 2) := by decide +kernel
theorem d80_25 : decode prog_3_method_1_code 25 = .ok (.putfield 18, 3) := by decide +kernel
theorem d80_28 : decode prog_3_method_1_code 28 = .ok (.aload_n 0, 1) := by decide +kernel
theorem d80_29 : decode prog_3_method_1_code 29 = .ok (.bipush 12, 2) := by decide +kernel
theorem d80_31 : decode prog_3_method_1_code 31 = .ok (.newarray .int, 2) := by decide +kernel
theorem d80_33 : decode prog_3_method_1_code 33 = .ok (.putfield 21, 3) := by decide +kernel
theorem d80_36 : decode prog_3_method_1_code 36 = .ok (.aload_n 0, 1) := by decide +kernel
theorem d80_37 : decode prog_3_method_1_code 37 = .ok (.bipush 12, 2) := by decide +kernel
theorem d80_39 : decode prog_3_method_1_code 39 = .ok (.newarray .int, 2) := by decide +kernel
theorem d80_41 : decode prog_3_method_1_code 41 = .ok (.putfield 24, 3) := by decide +kernel
theorem d80_44 : decode prog_3_method_1_code 44 = .ok (.aload_n 0, 1) := by decide +kernel
theorem d80_45 : decode prog_3_method_1_code 45 = .ok (.iconst 0, 1) := by decide +kernel
theorem d80_46 : decode prog_3_method_1_code 46 = .ok (.putfield 27, 3) := by decide +kernel
theorem d80_49 : decode prog_3_method_1_code 49 = .ok (.aload_n 0, 1) := by decide +kernel
theorem d80_50 : decode prog_3_method_1_code 50 = .ok (.iconst 0, 1) := by decide +kernel
theorem d80_51 : decode prog_3_method_1_code 51 = .ok (.putfield 31, 3) := by decide +kernel
theorem d80_54 : decode prog_3_method_1_code 54 = .ok (.aload_n 0, 1) := by decide +kernel
theorem d80_55 : decode prog_3_method_1_code 55 = .ok (.iconst 0, 1) := by decide +kernel
theorem d80_56 : decode prog_3_method_1_code 56 = .ok (.putfield 34, 3) := by decide +kernel
theorem d80_59 : decode prog_3_method_1_code 59 = .ok (.return_, 1) := by decide +kernel
theorem d81_0 : decode prog_3_method_2_code 0 = .ok (.aload_n 0, 1) := by decide +kernel
theorem d81_1 : decode prog_3_method_2_code 1 = .ok (.getfield 21, 3) := by decide +kernel
theorem d81_4 : decode prog_3_method_2_code 4 = .ok (.aload_n 0, 1) := by decide +kernel
theorem d81_5 : decode prog_3_method_2_code 5 = .ok (.getfield 15, 3) := by decide +kernel
theorem d81_8 : decode prog_3_method_2_code 8 = .ok (.iload_n 1, 1) := by decide +kernel
theorem d81_9 : decode prog_3_method_2_code 9 = .ok (.iaload, 1) := by decide +kernel
theorem d81_10 : decode prog_3_method_2_code 10 = .ok (.iaload, 1) := by decide +kernel
theorem d81_11 : decode prog_3_method_2_code 11 = .ok (.aload_n 0, 1) := by decide +kernel
theorem d81_12 : decode prog_3_method_2_code 12 = .ok (.getfield 21, 3) := by decide +kernel
theorem d81_15 : decode prog_3_method_2_code 15 = .ok (.aload_n 0, 1) := by decide +kernel
theorem d81_16 : decode prog_3_method_2_code 16 = .ok (.getfield 9, 3) := by decide +kernel
theorem d81_19 : decode prog_3_method_2_code 19 = .ok (.iload_n 1, 1) := by decide +kernel
theorem d81_20 : decode prog_3_method_2_code 20 = .ok (.iaload, 1) := by decide +kernel
theorem d81_21 : decode prog_3_method_2_code 21 = .ok (.iaload, 1) := by decide +kernel
theorem d81_22 : decode prog_3_method_2_code 22 = .ok (.isub, 1) := by decide +kernel
theorem d81_23 : decode prog_3_method_2_code 23 = .ok (.ireturn, 1) := by decide +kernel
theorem d82_0 : decode prog_3_method_3_code 0 = .ok (.iconst 0, 1) := by decide +kernel
theorem d82_1 : decode prog_3_method_3_code 1 = .ok (.istore_n 3, 1) := by decide +kernel
theorem d82_2 : decode prog_3_method_3_code 2 = .ok (.iload_n 3, 1) := by decide +kernel
theorem d82_3 : decode prog_3_method_3_code 3 = .ok (.aload_n 1, 1) := by decide +kernel
theorem d82_4 : decode prog_3_method_3_code 4 = .ok (.getfield 37, 3) := by decide +kernel
theorem d82_7 : decode prog_3_method_3_code 7 = .ok (.if_icmp .ge 68, 3) := by decide +kernel
theorem d82_10 : decode prog_3_method_3_code 10 = .ok (.aload_n 2, 1) := by decide +kernel
theorem d82_11 : decode prog_3_method_3_code 11 = .ok (.iload_n 3, 1) := by decide +kernel
theorem d82_12 : decode prog_3_method_3_code 12 = .ok (.invokevirtual 42, 3) := by decide +kernel
theorem d82_15 : decode prog_3_method_3_code 15 = .ok (.istore 4, 2) := by decide +kernel
theorem d82_17 : decode prog_3_method_3_code 17 = .ok (.aload_n 0, 1) := by decide +kernel
theorem d82_18 : decode prog_3_method_3_code 18 = .ok (.getfield 9, 3) := by decide +kernel
theorem d82_21 : decode prog_3_method_3_code 21 = .ok (.iload_n 3, 1) := by decide +kernel
theorem d82_22 : decode prog_3_method_3_code 22 = .ok (.iload 4, 2) := by decide +kernel
theorem d82_24 : decode prog_3_method_3_code 24 = .ok (.ifCond .eq 12, 3) := by decide +kernel
theorem d82_27 : decode prog_3_method_3_code 27 = .ok (.aload_n 1, 1) := by decide +kernel
theorem d82_28 : decode prog_3_method_3_code 28 = .ok (.getfield 48, 3) := by decide +kernel
theorem d82_31 : decode prog_3_method_3_code 31 = .ok (.iload_n 3, 1) := by decide +kernel
theorem d82_32 : decode prog_3_method_3_code 32 = .ok (.iaload, 1) := by decide +kernel
theorem d82_33 : decode prog_3_method_3_code 33 = .ok (.goto 9, 3) := by decide +kernel
theorem d82_36 : decode prog_3_method_3_code 36 = .ok (.aload_n 1, 1) := by decide +kernel
theorem d82_37 : decode prog_3_method_3_code 37 = .ok (.getfield 51, 3) := by decide +kernel
theorem d82_40 : decode prog_3_method_3_code 40 = .ok (.iload_n 3, 1) := by decide +kernel
theorem d82_41 : decode prog_3_method_3_code 41 = .ok (.iaload, 1) := by decide +kernel
theorem d82_42 : decode prog_3_method_3_code 42 = .ok (.iastore, 1) := by decide +kernel
theorem d82_43 : decode prog_3_method_3_code 43 = .ok (.aload_n 0, 1) := by decide +kernel
theorem d82_44 : decode prog_3_method_3_code 44 = .ok (.getfield 15, 3) := by decide +kernel
theorem d82_47 : decode prog_3_method_3_code 47 = .ok (.iload_n 3, 1) := by decide +kernel
theorem d82_48 : decode prog_3_method_3_code 48 = .ok (.iload 4, 2) := by decide +kernel
theorem d82_50 : decode prog_3_method_3_code 50 = .ok (.ifCond .eq 12, 3) := by decide +kernel
theorem d82_53 : decode prog_3_method_3_code 53 = .ok (.aload_n 1, 1) := by decide +kernel
theorem d82_54 : decode prog_3_method_3_code 54 = .ok (.getfield 51, 3) := by decide +kernel
theorem d82_57 : decode prog_3_method_3_code 57 = .ok (.iload_n 3, 1) := by decide +kernel
theorem d82_58 : decode prog_3_method_3_code 58 = .ok (.iaload, 1) := by decide +kernel
theorem d82_59 : decode prog_3_method_3_code 59 = .ok (.goto 9, 3) := by decide +kernel
theorem d82_62 : decode prog_3_method_3_code 62 = .ok (.aload_n 1, 1) := by decide +kernel
theorem d82_63 : decode prog_3_method_3_code 63 = .ok (.getfield 48, 3) := by decide +kernel
theorem d82_66 : decode prog_3_method_3_code 66 = .ok (.iload_n 3, 1) := by decide +kernel
theorem d82_67 : decode prog_3_method_3_code 67 = .ok (.iaload, 1) := by decide +kernel
theorem d82_68 : decode prog_3_method_3_code 68 = .ok (.iastore, 1) := by decide +kernel
theorem d82_69 : decode prog_3_method_3_code 69 = .ok (.iinc 3 1, 3) := by decide +kernel
theorem d82_72 : decode prog_3_method_3_code 72 = .ok (.goto (-70), 3) := by decide +kernel
theorem d82_75 : decode prog_3_method_3_code 75 = .ok (.aload_n 0, 1) := by decide +kernel
theorem d82_76 : decode prog_3_method_3_code 76 = .ok (.getfield 18, 3) := by decide +kernel
theorem d82_79 : decode prog_3_method_3_code 79 = .ok (.iconst 1, 1) := by decide +kernel
theorem d82_80 : decode prog_3_method_3_code 80 = .ok (.invokestatic 54, 3) := by decide +kernel
theorem d82_83 : decode prog_3_method_3_code 83 = .ok (.aload_n 0, 1) := by decide +kernel
theorem d82_84 : decode prog_3_method_3_code 84 = .ok (.aload_n 1, 1) := by decide +kernel
theorem d82_85 : decode prog_3_method_3_code 85 = .ok (.invokevirtual 60, 3) := by decide +kernel
theorem d82_88 : decode prog_3_method_3_code 88 = .ok (.istore_n 3, 1) := by decide +kernel
theorem d82_89 : decode prog_3_method_3_code 89 = .ok (.iconst 0, 1) := by decide +kernel
theorem d82_90 : decode prog_3_method_3_code 90 = .ok (.istore 4, 2) := by decide +kernel
theorem d82_92 : decode prog_3_method_3_code 92 = .ok (.iload 4, 2) := by decide +kernel
theorem d82_94 : decode prog_3_method_3_code 94 = .ok (.sipush 1000, 3) := by decide +kernel
theorem d82_97 : decode prog_3_method_3_code 97 = .ok (.if_icmp .ge 29, 3) := by decide +kernel
theorem d82_100 : decode prog_3_method_3_code 100 = .ok (.iload_n 3, 1) := by decide +kernel
theorem d82_101 : decode prog_3_method_3_code 101 = .ok (.iconst (-1), 1) := by decide +kernel
theorem d82_102 : decode prog_3_method_3_code 102 = .ok (.if_icmp .eq 24, 3) := by decide +kernel
theorem d82_105 : decode prog_3_method_3_code 105 = .ok (.aload_n 0, 1) := by decide +kernel
theorem d82_106 : decode prog_3_method_3_code 106 = .ok (.aload_n 1, 1) := by decide +kernel
theorem d82_107 : decode prog_3_method_3_code 107 = .ok (.getfield 64, 3) := by decide +kernel
theorem d82_110 : decode prog_3_method_3_code 110 = .ok (.iload_n 3, 1) := by decide +kernel
theorem d82_111 : decode prog_3_method_3_code 111 = .ok (.invokevirtual 67, 3) := by decide +kernel
theorem d82_114 : decode prog_3_method_3_code 114 = .ok (.aload_n 0, 1) := by decide +kernel
theorem d82_115 : decode prog_3_method_3_code 115 = .ok (.aload_n 1, 1) := by decide +kernel
theorem d82_116 : decode prog_3_method_3_code 116 = .ok (.invokevirtual 60, 3) := by decide +kernel
theorem d82_119 : decode prog_3_method_3_code 119 = .ok (.istore_n 3, 1) := by decide +kernel
theorem d82_120 : decode prog_3_method_3_code 120 = .ok (.iinc 4 1, 3) := by decide +kernel
theorem d82_123 : decode prog_3_method_3_code 123 = .ok (.goto (-31), 3) := by decide +kernel
theorem d82_126 : decode prog_3_method_3_code 126 = .ok (.aload_n 0, 1) := by decide +kernel
theorem d82_127 : decode prog_3_method_3_code 127 = .ok (.aload_n 1, 1) := by decide +kernel
theorem d82_128 : decode prog_3_method_3_code 128 = .ok (.invokevirtual 71, 3) := by decide +kernel
theorem d82_131 : decode prog_3_method_3_code 131 = .ok (.return_, 1) := by decide +kernel
theorem d83_0 : decode prog_3_method_4_code 0 = .ok (.aload_n 0, 1) := by decide +kernel
theorem d83_1 : decode prog_3_method_4_code 1 = .ok (.getfield 21, 3) := by decide +kernel
theorem d83_4 : decode prog_3_method_4_code 4 = .ok (.iconst 0, 1) := by decide +kernel
theorem d83_5 : decode prog_3_method_4_code 5 = .ok (.invokestatic 54, 3) := by decide +kernel
theorem d83_8 : decode prog_3_method_4_code 8 = .ok (.aload_n 0, 1) := by decide +kernel
theorem d83_9 : decode prog_3_method_4_code 9 = .ok (.getfield 24, 3) := by decide +kernel
theorem d83_12 : decode prog_3_method_4_code 12 = .ok (.iconst (-1), 1) := by decide +kernel
theorem d83_13 : decode prog_3_method_4_code 13 = .ok (.invokestatic 54, 3) := by decide +kernel
theorem d83_16 : decode prog_3_method_4_code 16 = .ok (.iconst (-1), 1) := by decide +kernel
theorem d83_17 : decode prog_3_method_4_code 17 = .ok (.istore_n 2, 1) := by decide +kernel
theorem d83_18 : decode prog_3_method_4_code 18 = .ok (.iconst 0, 1) := by decide +kernel
theorem d83_19 : decode prog_3_method_4_code 19 = .ok (.istore_n 3, 1) := by decide +kernel
theorem d83_20 : decode prog_3_method_4_code 20 = .ok (.iload_n 3, 1) := by decide +kernel
theorem d83_21 : decode prog_3_method_4_code 21 = .ok (.aload_n 1, 1) := by decide +kernel
theorem d83_22 : decode prog_3_method_4_code 22 = .ok (.getfield 64, 3) := by decide +kernel
theorem d83_25 : decode prog_3_method_4_code 25 = .ok (.if_icmp .gt 58, 3) := by decide +kernel
theorem d83_28 : decode prog_3_method_4_code 28 = .ok (.iconst (-1), 1) := by decide +kernel
theorem d83_29 : decode prog_3_method_4_code 29 = .ok (.istore_n 2, 1) := by decide +kernel
theorem d83_30 : decode prog_3_method_4_code 30 = .ok (.iconst 0, 1) := by decide +kernel
theorem d83_31 : decode prog_3_method_4_code 31 = .ok (.istore 4, 2) := by decide +kernel
theorem d83_33 : decode prog_3_method_4_code 33 = .ok (.iload 4, 2) := by decide +kernel
theorem d83_35 : decode prog_3_method_4_code 35 = .ok (.aload_n 1, 1) := by decide +kernel
theorem d83_36 : decode prog_3_method_4_code 36 = .ok (.getfield 37, 3) := by decide +kernel
theorem d83_39 : decode prog_3_method_4_code 39 = .ok (.if_icmp .ge 30, 3) := by decide +kernel
theorem d83_42 : decode prog_3_method_4_code 42 = .ok (.aload_n 1, 1) := by decide +kernel
theorem d83_43 : decode prog_3_method_4_code 43 = .ok (.getfield 75, 3) := by decide +kernel
theorem d83_46 : decode prog_3_method_4_code 46 = .ok (.iload 4, 2) := by decide +kernel
theorem d83_48 : decode prog_3_method_4_code 48 = .ok (.baload, 1) := by decide +kernel
theorem d83_49 : decode prog_3_method_4_code 49 = .ok (.ifCond .eq 14, 3) := by decide +kernel
theorem d83_52 : decode prog_3_method_4_code 52 = .ok (.iload_n 2, 1) := by decide +kernel
theorem d83_53 : decode prog_3_method_4_code 53 = .ok (.aload_n 0, 1) := by decide +kernel
theorem d83_54 : decode prog_3_method_4_code 54 = .ok (.iload 4, 2) := by decide +kernel
theorem d83_56 : decode prog_3_method_4_code 56 = .ok (.invokevirtual 79, 3) := by decide +kernel
theorem d83_59 : decode prog_3_method_4_code 59 = .ok (.invokestatic 83, 3) := by decide +kernel
theorem d83_62 : decode prog_3_method_4_code 62 = .ok (.istore_n 2, 1) := by decide +kernel
theorem d83_63 : decode prog_3_method_4_code 63 = .ok (.iinc 4 1, 3) := by decide +kernel
theorem d83_66 : decode prog_3_method_4_code 66 = .ok (.goto (-33), 3) := by decide +kernel
theorem d83_69 : decode prog_3_method_4_code 69 = .ok (.iload_n 2, 1) := by decide +kernel
theorem d83_70 : decode prog_3_method_4_code 70 = .ok (.iconst (-1), 1) := by decide +kernel
theorem d83_71 : decode prog_3_method_4_code 71 = .ok (.if_icmp .ne 6, 3) := by decide +kernel
theorem d83_74 : decode prog_3_method_4_code 74 = .ok (.goto 9, 3) := by decide +kernel
theorem d83_77 : decode prog_3_method_4_code 77 = .ok (.iinc 3 1, 3) := by decide +kernel
theorem d83_80 : decode prog_3_method_4_code 80 = .ok (.goto (-60), 3) := by decide +kernel
theorem d83_83 : decode prog_3_method_4_code 83 = .ok (.iload_n 2, 1) := by decide +kernel
theorem d83_84 : decode prog_3_method_4_code 84 = .ok (.ireturn, 1) := by decide +kernel
theorem d84_0 : decode prog_3_method_5_code 0 = .ok (.aload_n 0, 1) := by decide +kernel
theorem d84_1 : decode prog_3_method_5_code 1 = .ok (.getfield 9, 3) := by decide +kernel
theorem d84_4 : decode prog_3_method_5_code 4 = .ok (.iload_n 1, 1) := by decide +kernel
theorem d84_5 : decode prog_3_method_5_code 5 = .ok (.iaload, 1) := by decide +kernel
theorem d84_6 : decode prog_3_method_5_code 6 = .ok (.istore_n 2, 1) := by decide +kernel
theorem d84_7 : decode prog_3_method_5_code 7 = .ok (.aload_n 0, 1) := by decide +kernel
theorem d84_8 : decode prog_3_method_5_code 8 = .ok (.getfield 15, 3) := by decide +kernel
theorem d84_11 : decode prog_3_method_5_code 11 = .ok (.iload_n 1, 1) := by decide +kernel
theorem d84_12 : decode prog_3_method_5_code 12 = .ok (.iaload, 1) := by decide +kernel
theorem d84_13 : decode prog_3_method_5_code 13 = .ok (.istore_n 3, 1) := by decide +kernel
theorem d84_14 : decode prog_3_method_5_code 14 = .ok (.aload_n 0, 1) := by decide +kernel
theorem d84_15 : decode prog_3_method_5_code 15 = .ok (.getfield 21, 3) := by decide +kernel
theorem d84_18 : decode prog_3_method_5_code 18 = .ok (.iload_n 3, 1) := by decide +kernel
theorem d84_19 : decode prog_3_method_5_code 19 = .ok (.iaload, 1) := by decide +kernel
theorem d84_20 : decode prog_3_method_5_code 20 = .ok (.aload_n 0, 1) := by decide +kernel
theorem d84_21 : decode prog_3_method_5_code 21 = .ok (.getfield 21, 3) := by decide +kernel
theorem d84_24 : decode prog_3_method_5_code 24 = .ok (.iload_n 2, 1) := by decide +kernel
theorem d84_25 : decode prog_3_method_5_code 25 = .ok (.iaload, 1) := by decide +kernel
theorem d84_26 : decode prog_3_method_5_code 26 = .ok (.iconst 1, 1) := by decide +kernel
theorem d84_27 : decode prog_3_method_5_code 27 = .ok (.iadd, 1) := by decide +kernel
theorem d84_28 : decode prog_3_method_5_code 28 = .ok (.if_icmp .ge 26, 3) := by decide +kernel
theorem d84_31 : decode prog_3_method_5_code 31 = .ok (.aload_n 0, 1) := by decide +kernel
theorem d84_32 : decode prog_3_method_5_code 32 = .ok (.getfield 21, 3) := by decide +kernel
theorem d84_35 : decode prog_3_method_5_code 35 = .ok (.iload_n 3, 1) := by decide +kernel
theorem d84_36 : decode prog_3_method_5_code 36 = .ok (.aload_n 0, 1) := by decide +kernel
theorem d84_37 : decode prog_3_method_5_code 37 = .ok (.getfield 21, 3) := by decide +kernel
theorem d84_40 : decode prog_3_method_5_code 40 = .ok (.iload_n 2, 1) := by decide +kernel
theorem d84_41 : decode prog_3_method_5_code 41 = .ok (.iaload, 1) := by decide +kernel
theorem d84_42 : decode prog_3_method_5_code 42 = .ok (.iconst 1, 1) := by decide +kernel
theorem d84_43 : decode prog_3_method_5_code 43 = .ok (.iadd, 1) := by decide +kernel
theorem d84_44 : decode prog_3_method_5_code 44 = .ok (.iastore, 1) := by decide +kernel
theorem d84_45 : decode prog_3_method_5_code 45 = .ok (.aload_n 0, 1) := by decide +kernel
theorem d84_46 : decode prog_3_method_5_code 46 = .ok (.getfield 24, 3) := by decide +kernel
theorem d84_49 : decode prog_3_method_5_code 49 = .ok (.iload_n 3, 1) := by decide +kernel
theorem d84_50 : decode prog_3_method_5_code 50 = .ok (.iload_n 1, 1) := by decide +kernel
theorem d84_51 : decode prog_3_method_5_code 51 = .ok (.iastore, 1) := by decide +kernel
theorem d84_52 : decode prog_3_method_5_code 52 = .ok (.iload_n 3, 1) := by decide +kernel
theorem d84_53 : decode prog_3_method_5_code 53 = .ok (.ireturn, 1) := by decide +kernel
theorem d84_54 : decode prog_3_method_5_code 54 = .ok (.aload_n 0, 1) := by decide +kernel
theorem d84_55 : decode prog_3_method_5_code 55 = .ok (.getfield 18, 3) := by decide +kernel
theorem d84_58 : decode prog_3_method_5_code 58 = .ok (.iload_n 1, 1) := by decide +kernel
theorem d84_59 : decode prog_3_method_5_code 59 = .ok (.iaload, 1) := by decide +kernel
theorem d84_60 : decode prog_3_method_5_code 60 = .ok (.ifCond .le 46, 3) := by decide +kernel
theorem d84_63 : decode prog_3_method_5_code 63 = .ok (.aload_n 0, 1) := by decide +kernel
theorem d84_64 : decode prog_3_method_5_code 64 = .ok (.getfield 21, 3) := by decide +kernel
theorem d84_67 : decode prog_3_method_5_code 67 = .ok (.iload_n 2, 1) := by decide +kernel
theorem d84_68 : decode prog_3_method_5_code 68 = .ok (.iaload, 1) := by decide +kernel
theorem d84_69 : decode prog_3_method_5_code 69 = .ok (.aload_n 0, 1) := by decide +kernel
theorem d84_70 : decode prog_3_method_5_code 70 = .ok (.getfield 21, 3) := by decide +kernel
theorem d84_73 : decode prog_3_method_5_code 73 = .ok (.iload_n 3, 1) := by decide +kernel
theorem d84_74 : decode prog_3_method_5_code 74 = .ok (.iaload, 1) := by decide +kernel
theorem d84_75 : decode prog_3_method_5_code 75 = .ok (.iconst 1, 1) := by decide +kernel
theorem d84_76 : decode prog_3_method_5_code 76 = .ok (.isub, 1) := by decide +kernel
theorem d84_77 : decode prog_3_method_5_code 77 = .ok (.if_icmp .ge 29, 3) := by decide +kernel
theorem d84_80 : decode prog_3_method_5_code 80 = .ok (.aload_n 0, 1) := by decide +kernel
theorem d84_81 : decode prog_3_method_5_code 81 = .ok (.getfield 21, 3) := by decide +kernel
theorem d84_84 : decode prog_3_method_5_code 84 = .ok (.iload_n 2, 1) := by decide +kernel
theorem d84_85 : decode prog_3_method_5_code 85 = .ok (.aload_n 0, 1) := by decide +kernel
theorem d84_86 : decode prog_3_method_5_code 86 = .ok (.getfield 21, 3) := by decide +kernel
theorem d84_89 : decode prog_3_method_5_code 89 = .ok (.iload_n 3, 1) := by decide +kernel
theorem d84_90 : decode prog_3_method_5_code 90 = .ok (.iaload, 1) := by decide +kernel
theorem d84_91 : decode prog_3_method_5_code 91 = .ok (.iconst 1, 1) := by decide +kernel
theorem d84_92 : decode prog_3_method_5_code 92 = .ok (.isub, 1) := by decide +kernel
theorem d84_93 : decode prog_3_method_5_code 93 = .ok (.iastore, 1) := by decide +kernel
theorem d84_94 : decode prog_3_method_5_code 94 = .ok (.aload_n 0, 1) := by decide +kernel
theorem d84_95 : decode prog_3_method_5_code 95 = .ok (.getfield 24, 3) := by decide +kernel
theorem d84_98 : decode prog_3_method_5_code 98 = .ok (.iload_n 2, 1) := by decide +kernel
theorem d84_99 : decode prog_3_method_5_code 99 = .ok (.bipush 24, 2) := by decide +kernel
theorem d84_101 : decode prog_3_method_5_code 101 = .ok (.iload_n 1, 1) := by decide +kernel
theorem d84_102 : decode prog_3_method_5_code 102 = .ok (.iadd, 1) := by decide +kernel
theorem d84_103 : decode prog_3_method_5_code 103 = .ok (.iastore, 1) := by decide +kernel
theorem d84_104 : decode prog_3_method_5_code 104 = .ok (.iload_n 2, 1) := by decide +kernel
theorem d84_105 : decode prog_3_method_5_code 105 = .ok (.ireturn, 1) := by decide +kernel
theorem d84_106 : decode prog_3_method_5_code 106 = .ok (.iconst (-1), 1) := by decide +kernel
theorem d84_107 : decode prog_3_method_5_code 107 = .ok (.ireturn, 1) := by decide +kernel
theorem d85_0 : decode prog_3_method_6_code 0 = .ok (.iload_n 2, 1) := by decide +kernel
theorem d85_1 : decode prog_3_method_6_code 1 = .ok (.istore_n 3, 1) := by decide +kernel
theorem d85_2 : decode prog_3_method_6_code 2 = .ok (.iconst 0, 1) := by decide +kernel
theorem d85_3 : decode prog_3_method_6_code 3 = .ok (.istore 4, 2) := by decide +kernel
theorem d85_5 : decode prog_3_method_6_code 5 = .ok (.iload 4, 2) := by decide +kernel
theorem d85_7 : decode prog_3_method_6_code 7 = .ok (.iload_n 1, 1) := by decide +kernel
theorem d85_8 : decode prog_3_method_6_code 8 = .ok (.if_icmp .ge 15, 3) := by decide +kernel
theorem d85_11 : decode prog_3_method_6_code 11 = .ok (.aload_n 0, 1) := by decide +kernel
theorem d85_12 : decode prog_3_method_6_code 12 = .ok (.iload_n 3, 1) := by decide +kernel
theorem d85_13 : decode prog_3_method_6_code 13 = .ok (.invokevirtual 89, 3) := by decide +kernel
theorem d85_16 : decode prog_3_method_6_code 16 = .ok (.istore_n 3, 1) := by decide +kernel
theorem d85_17 : decode prog_3_method_6_code 17 = .ok (.iinc 4 1, 3) := by decide +kernel
theorem d85_20 : decode prog_3_method_6_code 20 = .ok (.goto (-15), 3) := by decide +kernel
theorem d85_23 : decode prog_3_method_6_code 23 = .ok (.ldc 94, 2) := by decide +kernel
theorem d85_25 : decode prog_3_method_6_code 25 = .ok (.istore 4, 2) := by decide +kernel
theorem d85_27 : decode prog_3_method_6_code 27 = .ok (.iload_n 3, 1) := by decide +kernel
theorem d85_28 : decode prog_3_method_6_code 28 = .ok (.istore 5, 2) := by decide +kernel
theorem d85_30 : decode prog_3_method_6_code 30 = .ok (.iconst 0, 1) := by decide +kernel
theorem d85_31 : decode prog_3_method_6_code 31 = .ok (.istore 6, 2) := by decide +kernel
theorem d85_33 : decode prog_3_method_6_code 33 = .ok (.iload 6, 2) := by decide +kernel
theorem d85_35 : decode prog_3_method_6_code 35 = .ok (.iload_n 1, 1) := by decide +kernel
theorem d85_36 : decode prog_3_method_6_code 36 = .ok (.if_icmp .ge 62, 3) := by decide +kernel
theorem d85_39 : decode prog_3_method_6_code 39 = .ok (.iload 6, 2) := by decide +kernel
theorem d85_41 : decode prog_3_method_6_code 41 = .ok (.ifCond .eq 9, 3) := by decide +kernel
theorem d85_44 : decode prog_3_method_6_code 44 = .ok (.iload 5, 2) := by decide +kernel
theorem d85_46 : decode prog_3_method_6_code 46 = .ok (.iload_n 3, 1) := by decide +kernel
theorem d85_47 : decode prog_3_method_6_code 47 = .ok (.if_icmp .eq 51, 3) := by decide +kernel
theorem d85_50 : decode prog_3_method_6_code 50 = .ok (.aload_n 0, 1) := by decide +kernel
theorem d85_51 : decode prog_3_method_6_code 51 = .ok (.getfield 24, 3) := by decide +kernel
theorem d85_54 : decode prog_3_method_6_code 54 = .ok (.iload 5, 2) := by decide +kernel
theorem d85_56 : decode prog_3_method_6_code 56 = .ok (.iaload, 1) := by decide +kernel
theorem d85_57 : decode prog_3_method_6_code 57 = .ok (.bipush 24, 2) := by decide +kernel
theorem d85_59 : decode prog_3_method_6_code 59 = .ok (.if_icmp .lt 25, 3) := by decide +kernel
theorem d85_62 : decode prog_3_method_6_code 62 = .ok (.iload 4, 2) := by decide +kernel
theorem d85_64 : decode prog_3_method_6_code 64 = .ok (.aload_n 0, 1) := by decide +kernel
theorem d85_65 : decode prog_3_method_6_code 65 = .ok (.getfield 18, 3) := by decide +kernel
theorem d85_68 : decode prog_3_method_6_code 68 = .ok (.aload_n 0, 1) := by decide +kernel
theorem d85_69 : decode prog_3_method_6_code 69 = .ok (.getfield 24, 3) := by decide +kernel
theorem d85_72 : decode prog_3_method_6_code 72 = .ok (.iload 5, 2) := by decide +kernel
theorem d85_74 : decode prog_3_method_6_code 74 = .ok (.iaload, 1) := by decide +kernel
theorem d85_75 : decode prog_3_method_6_code 75 = .ok (.bipush 24, 2) := by decide +kernel
theorem d85_77 : decode prog_3_method_6_code 77 = .ok (.isub, 1) := by decide +kernel
theorem d85_78 : decode prog_3_method_6_code 78 = .ok (.iaload, 1) := by decide +kernel
theorem d85_79 : decode prog_3_method_6_code 79 = .ok (.invokestatic 95, 3) := by decide +kernel
theorem d85_82 : decode prog_3_method_6_code 82 = .ok (.istore 4, 2) := by decide +kernel
theorem d85_84 : decode prog_3_method_6_code 84 = .ok (.aload_n 0, 1) := by decide +kernel
theorem d85_85 : decode prog_3_method_6_code 85 = .ok (.iload 5, 2) := by decide +kernel
theorem d85_87 : decode prog_3_method_6_code 87 = .ok (.invokevirtual 89, 3) := by decide +kernel
theorem d85_90 : decode prog_3_method_6_code 90 = .ok (.istore 5, 2) := by decide +kernel
theorem d85_92 : decode prog_3_method_6_code 92 = .ok (.iinc 6 1, 3) := by decide +kernel
theorem d85_95 : decode prog_3_method_6_code 95 = .ok (.goto (-62), 3) := by decide +kernel
theorem d85_98 : decode prog_3_method_6_code 98 = .ok (.iload_n 3, 1) := by decide +kernel
theorem d85_99 : decode prog_3_method_6_code 99 = .ok (.istore 5, 2) := by decide +kernel
theorem d85_101 : decode prog_3_method_6_code 101 = .ok (.iconst 0, 1) := by decide +kernel
theorem d85_102 : decode prog_3_method_6_code 102 = .ok (.istore 6, 2) := by decide +kernel
theorem d85_104 : decode prog_3_method_6_code 104 = .ok (.iload 6, 2) := by decide +kernel
theorem d85_106 : decode prog_3_method_6_code 106 = .ok (.iload_n 1, 1) := by decide +kernel
theorem d85_107 : decode prog_3_method_6_code 107 = .ok (.if_icmp .ge 41, 3) := by decide +kernel
theorem d85_110 : decode prog_3_method_6_code 110 = .ok (.iload 6, 2) := by decide +kernel
theorem d85_112 : decode prog_3_method_6_code 112 = .ok (.ifCond .eq 9, 3) := by decide +kernel
theorem d85_115 : decode prog_3_method_6_code 115 = .ok (.iload 5, 2) := by decide +kernel
theorem d85_117 : decode prog_3_method_6_code 117 = .ok (.iload_n 3, 1) := by decide +kernel
theorem d85_118 : decode prog_3_method_6_code 118 = .ok (.if_icmp .eq 30, 3) := by decide +kernel
theorem d85_121 : decode prog_3_method_6_code 121 = .ok (.aload_n 0, 1) := by decide +kernel
theorem d85_122 : decode prog_3_method_6_code 122 = .ok (.aload_n 0, 1) := by decide +kernel
theorem d85_123 : decode prog_3_method_6_code 123 = .ok (.getfield 24, 3) := by decide +kernel
theorem d85_126 : decode prog_3_method_6_code 126 = .ok (.iload 5, 2) := by decide +kernel
theorem d85_128 : decode prog_3_method_6_code 128 = .ok (.iaload, 1) := by decide +kernel
theorem d85_129 : decode prog_3_method_6_code 129 = .ok (.iload 4, 2) := by decide +kernel
theorem d85_131 : decode prog_3_method_6_code 131 = .ok (.invokevirtual 98, 3) := by decide +kernel
theorem d85_134 : decode prog_3_method_6_code 134 = .ok (.aload_n 0, 1) := by decide +kernel
theorem d85_135 : decode prog_3_method_6_code 135 = .ok (.iload 5, 2) := by decide +kernel
theorem d85_137 : decode prog_3_method_6_code 137 = .ok (.invokevirtual 89, 3) := by decide +kernel
theorem d85_140 : decode prog_3_method_6_code 140 = .ok (.istore 5, 2) := by decide +kernel
theorem d85_142 : decode prog_3_method_6_code 142 = .ok (.iinc 6 1, 3) := by decide +kernel
theorem d85_145 : decode prog_3_method_6_code 145 = .ok (.goto (-41), 3) := by decide +kernel
theorem d85_148 : decode prog_3_method_6_code 148 = .ok (.return_, 1) := by decide +kernel
theorem d86_0 : decode prog_3_method_7_code 0 = .ok (.aload_n 0, 1) := by decide +kernel
theorem d86_1 : decode prog_3_method_7_code 1 = .ok (.getfield 24, 3) := by decide +kernel
theorem d86_4 : decode prog_3_method_7_code 4 = .ok (.iload_n 1, 1) := by decide +kernel
theorem d86_5 : decode prog_3_method_7_code 5 = .ok (.iaload, 1) := by decide +kernel
theorem d86_6 : decode prog_3_method_7_code 6 = .ok (.istore_n 2, 1) := by decide +kernel
theorem d86_7 : decode prog_3_method_7_code 7 = .ok (.iload_n 2, 1) := by decide +kernel
theorem d86_8 : decode prog_3_method_7_code 8 = .ok (.iconst (-1), 1) := by decide +kernel
theorem d86_9 : decode prog_3_method_7_code 9 = .ok (.if_icmp .ne 5, 3) := by decide +kernel
theorem d86_12 : decode prog_3_method_7_code 12 = .ok (.iload_n 1, 1) := by decide +kernel
theorem d86_13 : decode prog_3_method_7_code 13 = .ok (.ireturn, 1) := by decide +kernel
theorem d86_14 : decode prog_3_method_7_code 14 = .ok (.iload_n 2, 1) := by decide +kernel
theorem d86_15 : decode prog_3_method_7_code 15 = .ok (.bipush 24, 2) := by decide +kernel
theorem d86_17 : decode prog_3_method_7_code 17 = .ok (.if_icmp .ge 12, 3) := by decide +kernel
theorem d86_20 : decode prog_3_method_7_code 20 = .ok (.aload_n 0, 1) := by decide +kernel
theorem d86_21 : decode prog_3_method_7_code 21 = .ok (.getfield 9, 3) := by decide +kernel
theorem d86_24 : decode prog_3_method_7_code 24 = .ok (.iload_n 2, 1) := by decide +kernel
theorem d86_25 : decode prog_3_method_7_code 25 = .ok (.iaload, 1) := by decide +kernel
theorem d86_26 : decode prog_3_method_7_code 26 = .ok (.goto 12, 3) := by decide +kernel
theorem d86_29 : decode prog_3_method_7_code 29 = .ok (.aload_n 0, 1) := by decide +kernel
theorem d86_30 : decode prog_3_method_7_code 30 = .ok (.getfield 15, 3) := by decide +kernel
theorem d86_33 : decode prog_3_method_7_code 33 = .ok (.iload_n 2, 1) := by decide +kernel
theorem d86_34 : decode prog_3_method_7_code 34 = .ok (.bipush 24, 2) := by decide +kernel
theorem d86_36 : decode prog_3_method_7_code 36 = .ok (.isub, 1) := by decide +kernel
theorem d86_37 : decode prog_3_method_7_code 37 = .ok (.iaload, 1) := by decide +kernel
theorem d86_38 : decode prog_3_method_7_code 38 = .ok (.ireturn, 1) := by decide +kernel
theorem d87_0 : decode prog_3_method_8_code 0 = .ok (.iload_n 1, 1) := by decide +kernel
theorem d87_1 : decode prog_3_method_8_code 1 = .ok (.bipush 24, 2) := by decide +kernel
theorem d87_3 : decode prog_3_method_8_code 3 = .ok (.if_icmp .lt 19, 3) := by decide +kernel
theorem d87_6 : decode prog_3_method_8_code 6 = .ok (.aload_n 0, 1) := by decide +kernel
theorem d87_7 : decode prog_3_method_8_code 7 = .ok (.getfield 18, 3) := by decide +kernel
theorem d87_10 : decode prog_3_method_8_code 10 = .ok (.iload_n 1, 1) := by decide +kernel
theorem d87_11 : decode prog_3_method_8_code 11 = .ok (.bipush 24, 2) := by decide +kernel
theorem d87_13 : decode prog_3_method_8_code 13 = .ok (.isub, 1) := by decide +kernel
theorem d87_14 : decode prog_3_method_8_code 14 = .ok (.dup2, 1) := by decide +kernel
theorem d87_15 : decode prog_3_method_8_code 15 = .ok (.iaload, 1) := by decide +kernel
theorem d87_16 : decode prog_3_method_8_code 16 = .ok (.iload_n 2, 1) := by decide +kernel
theorem d87_17 : decode prog_3_method_8_code 17 = .ok (.isub, 1) := by decide +kernel
theorem d87_18 : decode prog_3_method_8_code 18 = .ok (.iastore, 1) := by decide +kernel
theorem d87_19 : decode prog_3_method_8_code 19 = .ok (.goto 18, 3) := by decide +kernel
theorem d87_22 : decode prog_3_method_8_code 22 = .ok (.iload_n 1, 1) := by decide +kernel
theorem d87_23 : decode prog_3_method_8_code 23 = .ok (.iconst (-1), 1) := by decide +kernel
theorem d87_24 : decode prog_3_method_8_code 24 = .ok (.if_icmp .eq 13, 3) := by decide +kernel
theorem d87_27 : decode prog_3_method_8_code 27 = .ok (.aload_n 0, 1) := by decide +kernel
theorem d87_28 : decode prog_3_method_8_code 28 = .ok (.getfield 18, 3) := by decide +kernel
theorem d87_31 : decode prog_3_method_8_code 31 = .ok (.iload_n 1, 1) := by decide +kernel
theorem d87_32 : decode prog_3_method_8_code 32 = .ok (.dup2, 1) := by decide +kernel
theorem d87_33 : decode prog_3_method_8_code 33 = .ok (.iaload, 1) := by decide +kernel
theorem d87_34 : decode prog_3_method_8_code 34 = .ok (.iload_n 2, 1) := by decide +kernel
theorem d87_35 : decode prog_3_method_8_code 35 = .ok (.iadd, 1) := by decide +kernel
theorem d87_36 : decode prog_3_method_8_code 36 = .ok (.iastore, 1) := by decide +kernel
theorem d87_37 : decode prog_3_method_8_code 37 = .ok (.return_, 1) := by decide +kernel
theorem d88_0 : decode prog_3_method_9_code 0 = .ok (.aload_n 0, 1) := by decide +kernel
theorem d88_1 : decode prog_3_method_9_code 1 = .ok (.iconst 0, 1) := by decide +kernel
theorem d88_2 : decode prog_3_method_9_code 2 = .ok (.putfield 27, 3) := by decide +kernel
theorem d88_5 : decode prog_3_method_9_code 5 = .ok (.iconst 0, 1) := by decide +kernel
theorem d88_6 : decode prog_3_method_9_code 6 = .ok (.istore_n 2, 1) := by decide +kernel
theorem d88_7 : decode prog_3_method_9_code 7 = .ok (.iload_n 2, 1) := by decide +kernel
theorem d88_8 : decode prog_3_method_9_code 8 = .ok (.aload_n 1, 1) := by decide +kernel
theorem d88_9 : decode prog_3_method_9_code 9 = .ok (.getfield 64, 3) := by decide +kernel
theorem d88_12 : decode prog_3_method_9_code 12 = .ok (.if_icmp .ge 28, 3) := by decide +kernel
theorem d88_15 : decode prog_3_method_9_code 15 = .ok (.aload_n 0, 1) := by decide +kernel
theorem d88_16 : decode prog_3_method_9_code 16 = .ok (.aload_n 0, 1) := by decide +kernel
theorem d88_17 : decode prog_3_method_9_code 17 = .ok (.getfield 27, 3) := by decide +kernel
theorem d88_20 : decode prog_3_method_9_code 20 = .ok (.aload_n 0, 1) := by decide +kernel
theorem d88_21 : decode prog_3_method_9_code 21 = .ok (.getfield 21, 3) := by decide +kernel
theorem d88_24 : decode prog_3_method_9_code 24 = .ok (.iload_n 2, 1) := by decide +kernel
theorem d88_25 : decode prog_3_method_9_code 25 = .ok (.iaload, 1) := by decide +kernel
theorem d88_26 : decode prog_3_method_9_code 26 = .ok (.iconst 1, 1) := by decide +kernel
theorem d88_27 : decode prog_3_method_9_code 27 = .ok (.iadd, 1) := by decide +kernel
theorem d88_28 : decode prog_3_method_9_code 28 = .ok (.invokestatic 83, 3) := by decide +kernel
theorem d88_31 : decode prog_3_method_9_code 31 = .ok (.putfield 27, 3) := by decide +kernel
theorem d88_34 : decode prog_3_method_9_code 34 = .ok (.iinc 2 1, 3) := by decide +kernel
theorem d88_37 : decode prog_3_method_9_code 37 = .ok (.goto (-30), 3) := by decide +kernel
theorem d88_40 : decode prog_3_method_9_code 40 = .ok (.aload_n 0, 1) := by decide +kernel
theorem d88_41 : decode prog_3_method_9_code 41 = .ok (.iconst 0, 1) := by decide +kernel
theorem d88_42 : decode prog_3_method_9_code 42 = .ok (.putfield 31, 3) := by decide +kernel
theorem d88_45 : decode prog_3_method_9_code 45 = .ok (.iconst 0, 1) := by decide +kernel
theorem d88_46 : decode prog_3_method_9_code 46 = .ok (.istore_n 2, 1) := by decide +kernel
theorem d88_47 : decode prog_3_method_9_code 47 = .ok (.iload_n 2, 1) := by decide +kernel
theorem d88_48 : decode prog_3_method_9_code 48 = .ok (.aload_n 1, 1) := by decide +kernel
theorem d88_49 : decode prog_3_method_9_code 49 = .ok (.getfield 37, 3) := by decide +kernel
theorem d88_52 : decode prog_3_method_9_code 52 = .ok (.if_icmp .ge 32, 3) := by decide +kernel
theorem d88_55 : decode prog_3_method_9_code 55 = .ok (.aload_n 1, 1) := by decide +kernel
theorem d88_56 : decode prog_3_method_9_code 56 = .ok (.getfield 75, 3) := by decide +kernel
theorem d88_59 : decode prog_3_method_9_code 59 = .ok (.iload_n 2, 1) := by decide +kernel
theorem d88_60 : decode prog_3_method_9_code 60 = .ok (.baload, 1) := by decide +kernel
theorem d88_61 : decode prog_3_method_9_code 61 = .ok (.ifCond .eq 17, 3) := by decide +kernel
theorem d88_64 : decode prog_3_method_9_code 64 = .ok (.aload_n 0, 1) := by decide +kernel
theorem d88_65 : decode prog_3_method_9_code 65 = .ok (.dup, 1) := by decide +kernel
theorem d88_66 : decode prog_3_method_9_code 66 = .ok (.getfield 31, 3) := by decide +kernel
theorem d88_69 : decode prog_3_method_9_code 69 = .ok (.aload_n 0, 1) := by decide +kernel
theorem d88_70 : decode prog_3_method_9_code 70 = .ok (.iload_n 2, 1) := by decide +kernel
theorem d88_71 : decode prog_3_method_9_code 71 = .ok (.invokevirtual 101, 3) := by decide +kernel
theorem d88_74 : decode prog_3_method_9_code 74 = .ok (.iadd, 1) := by decide +kernel
theorem d88_75 : decode prog_3_method_9_code 75 = .ok (.putfield 31, 3) := by decide +kernel
theorem d88_78 : decode prog_3_method_9_code 78 = .ok (.iinc 2 1, 3) := by decide +kernel
theorem d88_81 : decode prog_3_method_9_code 81 = .ok (.goto (-34), 3) := by decide +kernel
theorem d88_84 : decode prog_3_method_9_code 84 = .ok (.aload_n 0, 1) := by decide +kernel
theorem d88_85 : decode prog_3_method_9_code 85 = .ok (.aload_n 0, 1) := by decide +kernel
theorem d88_86 : decode prog_3_method_9_code 86 = .ok (.getfield 31, 3) := by decide +kernel
theorem d88_89 : decode prog_3_method_9_code 89 = .ok (.aload_n 1, 1) := by decide +kernel
theorem d88_90 : decode prog_3_method_9_code 90 = .ok (.getfield 104, 3) := by decide +kernel
theorem d88_93 : decode prog_3_method_9_code 93 = .ok (.isub, 1) := by decide +kernel
theorem d88_94 : decode prog_3_method_9_code 94 = .ok (.putfield 34, 3) := by decide +kernel
theorem d88_97 : decode prog_3_method_9_code 97 = .ok (.return_, 1) := by decide +kernel
theorem d89_0 : decode prog_4_method_1_code 0 = .ok (.aload_n 0, 1) := by decide +kernel
theorem d89_1 : decode prog_4_method_1_code 1 = .ok (.invokespecial 3, 3) := by decide +kernel
theorem d89_4 : decode prog_4_method_1_code 4 = .ok (.aload_n 0, 1) := by decide +kernel
theorem d89_5 : decode prog_4_method_1_code 5 = .ok (.bipush 12, 2) := by decide +kernel
theorem d89_7 : decode prog_4_method_1_code 7 = .ok (.newarray .int, 2) := by decide +kernel
theorem d89_9 : decode prog_4_method_1_code 9 = .ok (.putfield 9, 3) := by decide +kernel
theorem d89_12 : decode prog_4_method_1_code 12 = .ok (.aload_n 0, 1) := by decide +kernel
theorem d89_13 : decode prog_4_method_1_code 13 = .ok (.bipush 12, 2) := by decide +kernel
theorem d89_15 : decode prog_4_method_1_code 15 = .ok (.bipush 36, 2) := by decide +kernel
theorem d89_17 : decode prog_4_method_1_code 17 = .ok (.multianewarray 15 2, 4) := by decide +kernel
theorem d89_21 : decode prog_4_method_1_code 21 = .ok (.putfield 17, 3) := by decide +kernel
theorem d89_24 : decode prog_4_method_1_code 24 = .ok (.aload_n 0, 1) := by decide +kernel
theorem d89_25 : decode prog_4_method_1_code 25 = .ok (.bipush 12, 2) := by decide +kernel
theorem d89_27 : decode prog_4_method_1_code 27 = .ok (.bipush 36, 2) := by decide +kernel
theorem d89_29 : decode prog_4_method_1_code 29 = .ok (.multianewarray 15 2, 4) := by decide +kernel
theorem d89_33 : decode prog_4_method_1_code 33 = .ok (.putfield 20, 3) := by decide +kernel
theorem d89_36 : decode prog_4_method_1_code 36 = .ok (.aload_n 0, 1) := by decide +kernel
theorem d89_37 : decode prog_4_method_1_code 37 = .ok (.bipush 72, 2) := by decide +kernel
theorem d89_39 : decode prog_4_method_1_code 39 = .ok (.newarray .int, 2) := by decide +kernel
theorem d89_41 : decode prog_4_method_1_code 41 = .ok (.putfield 23, 3) := by decide +kernel
theorem d89_44 : decode prog_4_method_1_code 44 = .ok (.aload_n 0, 1) := by decide +kernel
theorem d89_45 : decode prog_4_method_1_code 45 = .ok (.bipush 72, 2) := by decide +kernel
theorem d89_47 : decode prog_4_method_1_code 47 = .ok (.newarray .int, 2) := by decide +kernel
theorem d89_49 : decode prog_4_method_1_code 49 = .ok (.putfield 26, 3) := by decide +kernel
theorem d89_52 : decode prog_4_method_1_code 52 = .ok (.aload_n 0, 1) := by decide +kernel
theorem d89_53 : decode prog_4_method_1_code 53 = .ok (.bipush 72, 2) := by decide +kernel
theorem d89_55 : decode prog_4_method_1_code 55 = .ok (.newarray .int, 2) := by decide +kernel
theorem d89_57 : decode prog_4_method_1_code 57 = .ok (.putfield 29, 3) := by decide +kernel
theorem d89_60 : decode prog_4_method_1_code 60 = .ok (.aload_n 0, 1) := by decide +kernel
theorem d89_61 : decode prog_4_method_1_code 61 = .ok (.iconst 0, 1) := by decide +kernel
theorem d89_62 : decode prog_4_method_1_code 62 = .ok (.putfield 32, 3) := by decide +kernel
theorem d89_65 : decode prog_4_method_1_code 65 = .ok (.aload_n 0, 1) := by decide +kernel
theorem d89_66 : decode prog_4_method_1_code 66 = .ok (.iconst 0, 1) := by decide +kernel
theorem d89_67 : decode prog_4_method_1_code 67 = .ok (.putfield 36, 3) := by decide +kernel
theorem d89_70 : decode prog_4_method_1_code 70 = .ok (.aload_n 0, 1) := by decide +kernel
theorem d89_71 : decode prog_4_method_1_code 71 = .ok (.iconst 0, 1) := by decide +kernel
theorem d89_72 : decode prog_4_method_1_code 72 = .ok (.putfield 39, 3) := by decide +kernel
theorem d89_75 : decode prog_4_method_1_code 75 = .ok (.return_, 1) := by decide +kernel
theorem d90_0 : decode prog_4_method_2_code 0 = .ok (.iload_n 1, 1) := by decide +kernel
theorem d90_1 : decode prog_4_method_2_code 1 = .ok (.ifCond .lt 15, 3) := by decide +kernel
theorem d90_4 : decode prog_4_method_2_code 4 = .ok (.iload_n 1, 1) := by decide +kernel
theorem d90_5 : decode prog_4_method_2_code 5 = .ok (.aload_n 0, 1) := by decide +kernel
theorem d90_6 : decode prog_4_method_2_code 6 = .ok (.getfield 32, 3) := by decide +kernel
theorem d90_9 : decode prog_4_method_2_code 9 = .ok (.if_icmp .ge 7, 3) := by decide +kernel
theorem d90_12 : decode prog_4_method_2_code 12 = .ok (.iconst 1, 1) := by decide +kernel
theorem d90_13 : decode prog_4_method_2_code 13 = .ok (.goto 4, 3) := by decide +kernel
theorem d90_16 : decode prog_4_method_2_code 16 = .ok (.iconst 0, 1) := by decide +kernel
theorem d90_17 : decode prog_4_method_2_code 17 = .ok (.ireturn, 1) := by decide +kernel
theorem d91_0 : decode prog_4_method_3_code 0 = .ok (.aload_n 0, 1) := by decide +kernel
theorem d91_1 : decode prog_4_method_3_code 1 = .ok (.aload_n 1, 1) := by decide +kernel
theorem d91_2 : decode prog_4_method_3_code 2 = .ok (.aload_n 2, 1) := by decide +kernel
theorem d91_3 : decode prog_4_method_3_code 3 = .ok (.aload_n 3, 1) := by decide +kernel
theorem d91_4 : decode prog_4_method_3_code 4 = .ok (.invokevirtual 42, 3) := by decide +kernel
theorem d91_7 : decode prog_4_method_3_code 7 = .ok (.aload_n 0, 1) := by decide +kernel
theorem d91_8 : decode prog_4_method_3_code 8 = .ok (.aload_n 0, 1) := by decide +kernel
theorem d91_9 : decode prog_4_method_3_code 9 = .ok (.aload_n 3, 1) := by decide +kernel
theorem d91_10 : decode prog_4_method_3_code 10 = .ok (.invokevirtual 46, 3) := by decide +kernel
theorem d91_13 : decode prog_4_method_3_code 13 = .ok (.putfield 36, 3) := by decide +kernel
theorem d91_16 : decode prog_4_method_3_code 16 = .ok (.aload_n 0, 1) := by decide +kernel
theorem d91_17 : decode prog_4_method_3_code 17 = .ok (.iconst 0, 1) := by decide +kernel
theorem d91_18 : decode prog_4_method_3_code 18 = .ok (.putfield 39, 3) := by decide +kernel
theorem d91_21 : decode prog_4_method_3_code 21 = .ok (.aload_n 0, 1) := by decide +kernel
theorem d91_22 : decode prog_4_method_3_code 22 = .ok (.aload_n 0, 1) := by decide +kernel
theorem d91_23 : decode prog_4_method_3_code 23 = .ok (.getfield 17, 3) := by decide +kernel
theorem d91_26 : decode prog_4_method_3_code 26 = .ok (.aload_n 0, 1) := by decide +kernel
theorem d91_27 : decode prog_4_method_3_code 27 = .ok (.getfield 20, 3) := by decide +kernel
theorem d91_30 : decode prog_4_method_3_code 30 = .ok (.invokevirtual 50, 3) := by decide +kernel
theorem d91_33 : decode prog_4_method_3_code 33 = .ok (.iconst 1, 1) := by decide +kernel
theorem d91_34 : decode prog_4_method_3_code 34 = .ok (.istore 5, 2) := by decide +kernel
theorem d91_36 : decode prog_4_method_3_code 36 = .ok (.iload 5, 2) := by decide +kernel
theorem d91_38 : decode prog_4_method_3_code 38 = .ok (.iload 4, 2) := by decide +kernel
theorem d91_40 : decode prog_4_method_3_code 40 = .ok (.if_icmp .gt 61, 3) := by decide +kernel
theorem d91_43 : decode prog_4_method_3_code 43 = .ok (.aload_n 0, 1) := by decide +kernel
theorem d91_44 : decode prog_4_method_3_code 44 = .ok (.getfield 36, 3) := by decide +kernel
theorem d91_47 : decode prog_4_method_3_code 47 = .ok (.ifCond .le 54, 3) := by decide +kernel
theorem d91_50 : decode prog_4_method_3_code 50 = .ok (.aload_n 0, 1) := by decide +kernel
theorem d91_51 : decode prog_4_method_3_code 51 = .ok (.aload_n 3, 1) := by decide +kernel
theorem d91_52 : decode prog_4_method_3_code 52 = .ok (.invokevirtual 54, 3) := by decide +kernel
theorem d91_55 : decode prog_4_method_3_code 55 = .ok (.aload_n 0, 1) := by decide +kernel
theorem d91_56 : decode prog_4_method_3_code 56 = .ok (.aload_n 3, 1) := by decide +kernel
theorem d91_57 : decode prog_4_method_3_code 57 = .ok (.invokevirtual 46, 3) := by decide +kernel
theorem d91_60 : decode prog_4_method_3_code 60 = .ok (.istore 6, 2) := by decide +kernel
theorem d91_62 : decode prog_4_method_3_code 62 = .ok (.iload 6, 2) := by decide +kernel
theorem d91_64 : decode prog_4_method_3_code 64 = .ok (.aload_n 0, 1) := by decide +kernel
theorem d91_65 : decode prog_4_method_3_code 65 = .ok (.getfield 36, 3) := by decide +kernel
theorem d91_68 : decode prog_4_method_3_code 68 = .ok (.if_icmp .ge 27, 3) := by decide +kernel
theorem d91_71 : decode prog_4_method_3_code 71 = .ok (.aload_n 0, 1) := by decide +kernel
theorem d91_72 : decode prog_4_method_3_code 72 = .ok (.iload 6, 2) := by decide +kernel
theorem d91_74 : decode prog_4_method_3_code 74 = .ok (.putfield 36, 3) := by decide +kernel
theorem d91_77 : decode prog_4_method_3_code 77 = .ok (.aload_n 0, 1) := by decide +kernel
theorem d91_78 : decode prog_4_method_3_code 78 = .ok (.iload 5, 2) := by decide +kernel
theorem d91_80 : decode prog_4_method_3_code 80 = .ok (.putfield 39, 3) := by decide +kernel
theorem d91_83 : decode prog_4_method_3_code 83 = .ok (.aload_n 0, 1) := by decide +kernel
theorem d91_84 : decode prog_4_method_3_code 84 = .ok (.aload_n 0, 1) := by decide +kernel
theorem d91_85 : decode prog_4_method_3_code 85 = .ok (.getfield 17, 3) := by decide +kernel
theorem d91_88 : decode prog_4_method_3_code 88 = .ok (.aload_n 0, 1) := by decide +kernel
theorem d91_89 : decode prog_4_method_3_code 89 = .ok (.getfield 20, 3) := by decide +kernel
theorem d91_92 : decode prog_4_method_3_code 92 = .ok (.invokevirtual 50, 3) := by decide +kernel
theorem d91_95 : decode prog_4_method_3_code 95 = .ok (.iinc 5 1, 3) := by decide +kernel
theorem d91_98 : decode prog_4_method_3_code 98 = .ok (.goto (-62), 3) := by decide +kernel
theorem d91_101 : decode prog_4_method_3_code 101 = .ok (.aload_n 0, 1) := by decide +kernel
theorem d91_102 : decode prog_4_method_3_code 102 = .ok (.aload_n 0, 1) := by decide +kernel
theorem d91_103 : decode prog_4_method_3_code 103 = .ok (.getfield 20, 3) := by decide +kernel
theorem d91_106 : decode prog_4_method_3_code 106 = .ok (.aload_n 0, 1) := by decide +kernel
theorem d91_107 : decode prog_4_method_3_code 107 = .ok (.getfield 17, 3) := by decide +kernel
theorem d91_110 : decode prog_4_method_3_code 110 = .ok (.invokevirtual 50, 3) := by decide +kernel
theorem d91_113 : decode prog_4_method_3_code 113 = .ok (.iconst 0, 1) := by decide +kernel
theorem d91_114 : decode prog_4_method_3_code 114 = .ok (.istore 5, 2) := by decide +kernel
theorem d91_116 : decode prog_4_method_3_code 116 = .ok (.iload 5, 2) := by decide +kernel
theorem d91_118 : decode prog_4_method_3_code 118 = .ok (.aload_n 0, 1) := by decide +kernel
theorem d91_119 : decode prog_4_method_3_code 119 = .ok (.getfield 32, 3) := by decide +kernel
theorem d91_122 : decode prog_4_method_3_code 122 = .ok (.if_icmp .ge 15, 3) := by decide +kernel
theorem d91_125 : decode prog_4_method_3_code 125 = .ok (.aload_n 0, 1) := by decide +kernel
theorem d91_126 : decode prog_4_method_3_code 126 = .ok (.iload 5, 2) := by decide +kernel
theorem d91_128 : decode prog_4_method_3_code 128 = .ok (.invokevirtual 58, 3) := by decide +kernel
theorem d91_131 : decode prog_4_method_3_code 131 = .ok (.iinc 5 1, 3) := by decide +kernel
theorem d91_134 : decode prog_4_method_3_code 134 = .ok (.goto (-18), 3) := by decide +kernel
theorem d91_137 : decode prog_4_method_3_code 137 = .ok (.return_, 1) := by decide +kernel
theorem d92_0 : decode prog_4_method_4_code 0 = .ok (.aload_n 0, 1) := by decide +kernel
theorem d92_1 : decode prog_4_method_4_code 1 = .ok (.aload_n 2, 1) := by decide +kernel
theorem d92_2 : decode prog_4_method_4_code 2 = .ok (.getfield 62, 3) := by decide +kernel
theorem d92_5 : decode prog_4_method_4_code 5 = .ok (.putfield 32, 3) := by decide +kernel
theorem d92_8 : decode prog_4_method_4_code 8 = .ok (.aload_n 0, 1) := by decide +kernel
theorem d92_9 : decode prog_4_method_4_code 9 = .ok (.getfield 9, 3) := by decide +kernel
theorem d92_12 : decode prog_4_method_4_code 12 = .ok (.iconst 0, 1) := by decide +kernel
theorem d92_13 : decode prog_4_method_4_code 13 = .ok (.invokestatic 65, 3) := by decide +kernel
theorem d92_16 : decode prog_4_method_4_code 16 = .ok (.iconst 0, 1) := by decide +kernel
theorem d92_17 : decode prog_4_method_4_code 17 = .ok (.istore 4, 2) := by decide +kernel
theorem d92_19 : decode prog_4_method_4_code 19 = .ok (.iload 4, 2) := by decide +kernel
theorem d92_21 : decode prog_4_method_4_code 21 = .ok (.aload_n 1, 1) := by decide +kernel
theorem d92_22 : decode prog_4_method_4_code 22 = .ok (.getfield 71, 3) := by decide +kernel
theorem d92_25 : decode prog_4_method_4_code 25 = .ok (.if_icmp .ge 22, 3) := by decide +kernel
theorem d92_28 : decode prog_4_method_4_code 28 = .ok (.aload_n 0, 1) := by decide +kernel
theorem d92_29 : decode prog_4_method_4_code 29 = .ok (.aload_n 2, 1) := by decide +kernel
theorem d92_30 : decode prog_4_method_4_code 30 = .ok (.getfield 76, 3) := by decide +kernel
theorem d92_33 : decode prog_4_method_4_code 33 = .ok (.iload 4, 2) := by decide +kernel
theorem d92_35 : decode prog_4_method_4_code 35 = .ok (.iaload, 1) := by decide +kernel
theorem d92_36 : decode prog_4_method_4_code 36 = .ok (.iload 4, 2) := by decide +kernel
theorem d92_38 : decode prog_4_method_4_code 38 = .ok (.invokevirtual 79, 3) := by decide +kernel
theorem d92_41 : decode prog_4_method_4_code 41 = .ok (.iinc 4 1, 3) := by decide +kernel
theorem d92_44 : decode prog_4_method_4_code 44 = .ok (.goto (-25), 3) := by decide +kernel
theorem d92_47 : decode prog_4_method_4_code 47 = .ok (.iconst 0, 1) := by decide +kernel
theorem d92_48 : decode prog_4_method_4_code 48 = .ok (.istore 4, 2) := by decide +kernel
theorem d92_50 : decode prog_4_method_4_code 50 = .ok (.iload 4, 2) := by decide +kernel
theorem d92_52 : decode prog_4_method_4_code 52 = .ok (.aload_n 1, 1) := by decide +kernel
theorem d92_53 : decode prog_4_method_4_code 53 = .ok (.getfield 83, 3) := by decide +kernel
theorem d92_56 : decode prog_4_method_4_code 56 = .ok (.if_icmp .ge 79, 3) := by decide +kernel
theorem d92_59 : decode prog_4_method_4_code 59 = .ok (.aload_n 1, 1) := by decide +kernel
theorem d92_60 : decode prog_4_method_4_code 60 = .ok (.getfield 86, 3) := by decide +kernel
theorem d92_63 : decode prog_4_method_4_code 63 = .ok (.iload 4, 2) := by decide +kernel
theorem d92_65 : decode prog_4_method_4_code 65 = .ok (.baload, 1) := by decide +kernel
theorem d92_66 : decode prog_4_method_4_code 66 = .ok (.ifCond .eq 12, 3) := by decide +kernel
theorem d92_69 : decode prog_4_method_4_code 69 = .ok (.aload_n 2, 1) := by decide +kernel
theorem d92_70 : decode prog_4_method_4_code 70 = .ok (.iload 4, 2) := by decide +kernel
theorem d92_72 : decode prog_4_method_4_code 72 = .ok (.invokevirtual 90, 3) := by decide +kernel
theorem d92_75 : decode prog_4_method_4_code 75 = .ok (.goto 4, 3) := by decide +kernel
theorem d92_78 : decode prog_4_method_4_code 78 = .ok (.iconst 0, 1) := by decide +kernel
theorem d92_79 : decode prog_4_method_4_code 79 = .ok (.istore 5, 2) := by decide +kernel
theorem d92_81 : decode prog_4_method_4_code 81 = .ok (.iconst 1, 1) := by decide +kernel
theorem d92_82 : decode prog_4_method_4_code 82 = .ok (.istore 6, 2) := by decide +kernel
theorem d92_84 : decode prog_4_method_4_code 84 = .ok (.iload 6, 2) := by decide +kernel
theorem d92_86 : decode prog_4_method_4_code 86 = .ok (.iload 5, 2) := by decide +kernel
theorem d92_88 : decode prog_4_method_4_code 88 = .ok (.if_icmp .ge 41, 3) := by decide +kernel
theorem d92_91 : decode prog_4_method_4_code 91 = .ok (.aload_n 2, 1) := by decide +kernel
theorem d92_92 : decode prog_4_method_4_code 92 = .ok (.getfield 76, 3) := by decide +kernel
theorem d92_95 : decode prog_4_method_4_code 95 = .ok (.aload_n 2, 1) := by decide +kernel
theorem d92_96 : decode prog_4_method_4_code 96 = .ok (.getfield 94, 3) := by decide +kernel
theorem d92_99 : decode prog_4_method_4_code 99 = .ok (.iload 4, 2) := by decide +kernel
theorem d92_101 : decode prog_4_method_4_code 101 = .ok (.iaload, 1) := by decide +kernel
theorem d92_102 : decode prog_4_method_4_code 102 = .ok (.iaload, 1) := by decide +kernel
theorem d92_103 : decode prog_4_method_4_code 103 = .ok (.iload 6, 2) := by decide +kernel
theorem d92_105 : decode prog_4_method_4_code 105 = .ok (.iadd, 1) := by decide +kernel
theorem d92_106 : decode prog_4_method_4_code 106 = .ok (.istore 7, 2) := by decide +kernel
theorem d92_108 : decode prog_4_method_4_code 108 = .ok (.aload_n 0, 1) := by decide +kernel
theorem d92_109 : decode prog_4_method_4_code 109 = .ok (.iload 7, 2) := by decide +kernel
theorem d92_111 : decode prog_4_method_4_code 111 = .ok (.aload_n 3, 1) := by decide +kernel
theorem d92_112 : decode prog_4_method_4_code 112 = .ok (.aload_n 2, 1) := by decide +kernel
theorem d92_113 : decode prog_4_method_4_code 113 = .ok (.iload 4, 2) := by decide +kernel
theorem d92_115 : decode prog_4_method_4_code 115 = .ok (.iload 6, 2) := by decide +kernel
theorem d92_117 : decode prog_4_method_4_code 117 = .ok (.invokevirtual 97, 3) := by decide +kernel
theorem d92_120 : decode prog_4_method_4_code 120 = .ok (.invokevirtual 79, 3) := by decide +kernel
theorem d92_123 : decode prog_4_method_4_code 123 = .ok (.iinc 6 1, 3) := by decide +kernel
theorem d92_126 : decode prog_4_method_4_code 126 = .ok (.goto (-42), 3) := by decide +kernel
theorem d92_129 : decode prog_4_method_4_code 129 = .ok (.iinc 4 1, 3) := by decide +kernel
theorem d92_132 : decode prog_4_method_4_code 132 = .ok (.goto (-82), 3) := by decide +kernel
theorem d92_135 : decode prog_4_method_4_code 135 = .ok (.return_, 1) := by decide +kernel
theorem d93_0 : decode prog_4_method_5_code 0 = .ok (.aload_n 0, 1) := by decide +kernel
theorem d93_1 : decode prog_4_method_5_code 1 = .ok (.getfield 17, 3) := by decide +kernel
theorem d93_4 : decode prog_4_method_5_code 4 = .ok (.iload_n 1, 1) := by decide +kernel
theorem d93_5 : decode prog_4_method_5_code 5 = .ok (.aaload, 1) := by decide +kernel
theorem d93_6 : decode prog_4_method_5_code 6 = .ok (.aload_n 0, 1) := by decide +kernel
theorem d93_7 : decode prog_4_method_5_code 7 = .ok (.getfield 9, 3) := by decide +kernel
theorem d93_10 : decode prog_4_method_5_code 10 = .ok (.iload_n 1, 1) := by decide +kernel
theorem d93_11 : decode prog_4_method_5_code 11 = .ok (.iaload, 1) := by decide +kernel
theorem d93_12 : decode prog_4_method_5_code 12 = .ok (.iload_n 2, 1) := by decide +kernel
theorem d93_13 : decode prog_4_method_5_code 13 = .ok (.iastore, 1) := by decide +kernel
theorem d93_14 : decode prog_4_method_5_code 14 = .ok (.aload_n 0, 1) := by decide +kernel
theorem d93_15 : decode prog_4_method_5_code 15 = .ok (.getfield 23, 3) := by decide +kernel
theorem d93_18 : decode prog_4_method_5_code 18 = .ok (.iload_n 2, 1) := by decide +kernel
theorem d93_19 : decode prog_4_method_5_code 19 = .ok (.aload_n 0, 1) := by decide +kernel
theorem d93_20 : decode prog_4_method_5_code 20 = .ok (.getfield 9, 3) := by decide +kernel
theorem d93_23 : decode prog_4_method_5_code 23 = .ok (.iload_n 1, 1) := by decide +kernel
theorem d93_24 : decode prog_4_method_5_code 24 = .ok (.iaload, 1) := by decide +kernel
theorem d93_25 : decode prog_4_method_5_code 25 = .ok (.iastore, 1) := by decide +kernel
theorem d93_26 : decode prog_4_method_5_code 26 = .ok (.aload_n 0, 1) := by decide +kernel
theorem d93_27 : decode prog_4_method_5_code 27 = .ok (.getfield 9, 3) := by decide +kernel
theorem d93_30 : decode prog_4_method_5_code 30 = .ok (.iload_n 1, 1) := by decide +kernel
theorem d93_31 : decode prog_4_method_5_code 31 = .ok (.dup2, 1) := by decide +kernel
theorem d93_32 : decode prog_4_method_5_code 32 = .ok (.iaload, 1) := by decide +kernel
theorem d93_33 : decode prog_4_method_5_code 33 = .ok (.iconst 1, 1) := by decide +kernel
theorem d93_34 : decode prog_4_method_5_code 34 = .ok (.iadd, 1) := by decide +kernel
theorem d93_35 : decode prog_4_method_5_code 35 = .ok (.iastore, 1) := by decide +kernel
theorem d93_36 : decode prog_4_method_5_code 36 = .ok (.return_, 1) := by decide +kernel
theorem d94_0 : decode prog_4_method_6_code 0 = .ok (.iconst 0, 1) := by decide +kernel
theorem d94_1 : decode prog_4_method_6_code 1 = .ok (.istore_n 3, 1) := by decide +kernel
theorem d94_2 : decode prog_4_method_6_code 2 = .ok (.iload_n 3, 1) := by decide +kernel
theorem d94_3 : decode prog_4_method_6_code 3 = .ok (.aload_n 0, 1) := by decide +kernel
theorem d94_4 : decode prog_4_method_6_code 4 = .ok (.getfield 32, 3) := by decide +kernel
theorem d94_7 : decode prog_4_method_6_code 7 = .ok (.if_icmp .ge 26, 3) := by decide +kernel
theorem d94_10 : decode prog_4_method_6_code 10 = .ok (.aload_n 1, 1) := by decide +kernel
theorem d94_11 : decode prog_4_method_6_code 11 = .ok (.iload_n 3, 1) := by decide +kernel
theorem d94_12 : decode prog_4_method_6_code 12 = .ok (.aaload, 1) := by decide +kernel
theorem d94_13 : decode prog_4_method_6_code 13 = .ok (.iconst 0, 1) := by decide +kernel
theorem d94_14 : decode prog_4_method_6_code 14 = .ok (.aload_n 2, 1) := by decide +kernel
theorem d94_15 : decode prog_4_method_6_code 15 = .ok (.iload_n 3, 1) := by decide +kernel
theorem d94_16 : decode prog_4_method_6_code 16 = .ok (.aaload, 1) := by decide +kernel
theorem d94_17 : decode prog_4_method_6_code 17 = .ok (.iconst 0, 1) := by decide +kernel
theorem d94_18 : decode prog_4_method_6_code 18 = .ok (.aload_n 0, 1) := by decide +kernel
theorem d94_19 : decode prog_4_method_6_code 19 = .ok (.getfield 9, 3) := by decide +kernel
theorem d94_22 : decode prog_4_method_6_code 22 = .ok (.iload_n 3, 1) := by decide +kernel
theorem d94_23 : decode prog_4_method_6_code 23 = .ok (.iaload, 1) := by decide +kernel
theorem d94_24 : decode prog_4_method_6_code 24 = .ok (.invokestatic 103, 3) := by decide +kernel
theorem d94_27 : decode prog_4_method_6_code 27 = .ok (.iinc 3 1, 3) := by decide +kernel
theorem d94_30 : decode prog_4_method_6_code 30 = .ok (.goto (-28), 3) := by decide +kernel
theorem d94_33 : decode prog_4_method_6_code 33 = .ok (.return_, 1) := by decide +kernel
theorem d95_0 : decode prog_4_method_7_code 0 = .ok (.iconst 1, 1) := by decide +kernel
theorem d95_1 : decode prog_4_method_7_code 1 = .ok (.istore_n 2, 1) := by decide +kernel
theorem d95_2 : decode prog_4_method_7_code 2 = .ok (.iload_n 2, 1) := by decide +kernel
theorem d95_3 : decode prog_4_method_7_code 3 = .ok (.aload_n 0, 1) := by decide +kernel
theorem d95_4 : decode prog_4_method_7_code 4 = .ok (.getfield 32, 3) := by decide +kernel
theorem d95_7 : decode prog_4_method_7_code 7 = .ok (.if_icmp .ge 41, 3) := by decide +kernel
theorem d95_10 : decode prog_4_method_7_code 10 = .ok (.iload_n 2, 1) := by decide +kernel
theorem d95_11 : decode prog_4_method_7_code 11 = .ok (.iconst 1, 1) := by decide +kernel
theorem d95_12 : decode prog_4_method_7_code 12 = .ok (.isub, 1) := by decide +kernel
theorem d95_13 : decode prog_4_method_7_code 13 = .ok (.istore_n 3, 1) := by decide +kernel
theorem d95_14 : decode prog_4_method_7_code 14 = .ok (.aload_n 0, 1) := by decide +kernel
theorem d95_15 : decode prog_4_method_7_code 15 = .ok (.iload_n 2, 1) := by decide +kernel
theorem d95_16 : decode prog_4_method_7_code 16 = .ok (.aload_n 1, 1) := by decide +kernel
theorem d95_17 : decode prog_4_method_7_code 17 = .ok (.getfield 109, 3) := by decide +kernel
theorem d95_20 : decode prog_4_method_7_code 20 = .ok (.iload_n 3, 1) := by decide +kernel
theorem d95_21 : decode prog_4_method_7_code 21 = .ok (.iaload, 1) := by decide +kernel
theorem d95_22 : decode prog_4_method_7_code 22 = .ok (.aload_n 1, 1) := by decide +kernel
theorem d95_23 : decode prog_4_method_7_code 23 = .ok (.getfield 112, 3) := by decide +kernel
theorem d95_26 : decode prog_4_method_7_code 26 = .ok (.iload_n 3, 1) := by decide +kernel
theorem d95_27 : decode prog_4_method_7_code 27 = .ok (.aaload, 1) := by decide +kernel
theorem d95_28 : decode prog_4_method_7_code 28 = .ok (.aload_n 1, 1) := by decide +kernel
theorem d95_29 : decode prog_4_method_7_code 29 = .ok (.getfield 115, 3) := by decide +kernel
theorem d95_32 : decode prog_4_method_7_code 32 = .ok (.iload_n 3, 1) := by decide +kernel
theorem d95_33 : decode prog_4_method_7_code 33 = .ok (.aaload, 1) := by decide +kernel
theorem d95_34 : decode prog_4_method_7_code 34 = .ok (.invokevirtual 118, 3) := by decide +kernel
theorem d95_37 : decode prog_4_method_7_code 37 = .ok (.aload_n 0, 1) := by decide +kernel
theorem d95_38 : decode prog_4_method_7_code 38 = .ok (.iload_n 2, 1) := by decide +kernel
