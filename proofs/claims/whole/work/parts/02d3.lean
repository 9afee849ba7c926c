theorem d54_28 : decode prog_11_method_30_code 28 = .ok (.iload_n 3, 1) := by decide +kernel
theorem d54_29 : decode prog_11_method_30_code 29 = .ok (.iaload, 1) := by decide +kernel
theorem d54_30 : decode prog_11_method_30_code 30 = .ok (.iastore, 1) := by decide +kernel
theorem d54_31 : decode prog_11_method_30_code 31 = .ok (.iinc 3 1, 3) := by decide +kernel
theorem d54_34 : decode prog_11_method_30_code 34 = .ok (.goto (-22), 3) := by decide +kernel
theorem d54_37 : decode prog_11_method_30_code 37 = .ok (.return_, 1) := by decide +kernel
theorem d55_0 : decode prog_11_method_31_code 0 = .ok (.iload_n 1, 1) := by decide +kernel
theorem d55_1 : decode prog_11_method_31_code 1 = .ok (.ifCond .lt 9, 3) := by decide +kernel
theorem d55_4 : decode prog_11_method_31_code 4 = .ok (.iload_n 1, 1) := by decide +kernel
theorem d55_5 : decode prog_11_method_31_code 5 = .ok (.bipush 20, 2) := by decide +kernel
theorem d55_7 : decode prog_11_method_31_code 7 = .ok (.if_icmp .le 6, 3) := by decide +kernel
theorem d55_10 : decode prog_11_method_31_code 10 = .ok (.bipush (-2), 2) := by decide +kernel
theorem d55_12 : decode prog_11_method_31_code 12 = .ok (.ireturn, 1) := by decide +kernel
theorem d55_13 : decode prog_11_method_31_code 13 = .ok (.aload_n 0, 1) := by decide +kernel
theorem d55_14 : decode prog_11_method_31_code 14 = .ok (.invokevirtual 148, 3) := by decide +kernel
theorem d55_17 : decode prog_11_method_31_code 17 = .ok (.aload_n 0, 1) := by decide +kernel
theorem d55_18 : decode prog_11_method_31_code 18 = .ok (.invokevirtual 158, 3) := by decide +kernel
theorem d55_21 : decode prog_11_method_31_code 21 = .ok (.bipush 60, 2) := by decide +kernel
theorem d55_23 : decode prog_11_method_31_code 23 = .ok (.if_icmp .le 6, 3) := by decide +kernel
theorem d55_26 : decode prog_11_method_31_code 26 = .ok (.bipush (-4), 2) := by decide +kernel
theorem d55_28 : decode prog_11_method_31_code 28 = .ok (.ireturn, 1) := by decide +kernel
theorem d55_29 : decode prog_11_method_31_code 29 = .ok (.aload_n 0, 1) := by decide +kernel
theorem d55_30 : decode prog_11_method_31_code 30 = .ok (.iconst 1, 1) := by decide +kernel
theorem d55_31 : decode prog_11_method_31_code 31 = .ok (.putfield 103, 3) := by decide +kernel
theorem d55_34 : decode prog_11_method_31_code 34 = .ok (.aload_n 0, 1) := by decide +kernel
theorem d55_35 : decode prog_11_method_31_code 35 = .ok (.invokevirtual 174, 3) := by decide +kernel
theorem d55_38 : decode prog_11_method_31_code 38 = .ok (.aload_n 0, 1) := by decide +kernel
theorem d55_39 : decode prog_11_method_31_code 39 = .ok (.iconst 0, 1) := by decide +kernel
theorem d55_40 : decode prog_11_method_31_code 40 = .ok (.aload_n 0, 1) := by decide +kernel
theorem d55_41 : decode prog_11_method_31_code 41 = .ok (.invokevirtual 177, 3) := by decide +kernel
theorem d55_44 : decode prog_11_method_31_code 44 = .ok (.invokevirtual 180, 3) := by decide +kernel
theorem d55_47 : decode prog_11_method_31_code 47 = .ok (.aload_n 0, 1) := by decide +kernel
theorem d55_48 : decode prog_11_method_31_code 48 = .ok (.invokevirtual 151, 3) := by decide +kernel
theorem d55_51 : decode prog_11_method_31_code 51 = .ok (.istore_n 2, 1) := by decide +kernel
theorem d55_52 : decode prog_11_method_31_code 52 = .ok (.iconst 1, 1) := by decide +kernel
theorem d55_53 : decode prog_11_method_31_code 53 = .ok (.istore_n 3, 1) := by decide +kernel
theorem d55_54 : decode prog_11_method_31_code 54 = .ok (.iload_n 3, 1) := by decide +kernel
theorem d55_55 : decode prog_11_method_31_code 55 = .ok (.iload_n 1, 1) := by decide +kernel
theorem d55_56 : decode prog_11_method_31_code 56 = .ok (.if_icmp .gt 76, 3) := by decide +kernel
theorem d55_59 : decode prog_11_method_31_code 59 = .ok (.iconst 1, 1) := by decide +kernel
theorem d55_60 : decode prog_11_method_31_code 60 = .ok (.istore 4, 2) := by decide +kernel
theorem d55_62 : decode prog_11_method_31_code 62 = .ok (.iload 4, 2) := by decide +kernel
theorem d55_64 : decode prog_11_method_31_code 64 = .ok (.iload_n 2, 1) := by decide +kernel
theorem d55_65 : decode prog_11_method_31_code 65 = .ok (.if_icmp .ge 16, 3) := by decide +kernel
theorem d55_68 : decode prog_11_method_31_code 68 = .ok (.aload_n 0, 1) := by decide +kernel
theorem d55_69 : decode prog_11_method_31_code 69 = .ok (.iload 4, 2) := by decide +kernel
theorem d55_71 : decode prog_11_method_31_code 71 = .ok (.iconst 1, 1) := by decide +kernel
theorem d55_72 : decode prog_11_method_31_code 72 = .ok (.invokevirtual 183, 3) := by decide +kernel
theorem d55_75 : decode prog_11_method_31_code 75 = .ok (.iinc 4 1, 3) := by decide +kernel
theorem d55_78 : decode prog_11_method_31_code 78 = .ok (.goto (-16), 3) := by decide +kernel
theorem d55_81 : decode prog_11_method_31_code 81 = .ok (.iload_n 2, 1) := by decide +kernel
theorem d55_82 : decode prog_11_method_31_code 82 = .ok (.iconst 2, 1) := by decide +kernel
theorem d55_83 : decode prog_11_method_31_code 83 = .ok (.isub, 1) := by decide +kernel
theorem d55_84 : decode prog_11_method_31_code 84 = .ok (.istore 4, 2) := by decide +kernel
theorem d55_86 : decode prog_11_method_31_code 86 = .ok (.iload 4, 2) := by decide +kernel
theorem d55_88 : decode prog_11_method_31_code 88 = .ok (.ifCond .lt 16, 3) := by decide +kernel
theorem d55_91 : decode prog_11_method_31_code 91 = .ok (.aload_n 0, 1) := by decide +kernel
theorem d55_92 : decode prog_11_method_31_code 92 = .ok (.iload 4, 2) := by decide +kernel
theorem d55_94 : decode prog_11_method_31_code 94 = .ok (.iconst 0, 1) := by decide +kernel
theorem d55_95 : decode prog_11_method_31_code 95 = .ok (.invokevirtual 183, 3) := by decide +kernel
theorem d55_98 : decode prog_11_method_31_code 98 = .ok (.iinc 4 (-1), 3) := by decide +kernel
theorem d55_101 : decode prog_11_method_31_code 101 = .ok (.goto (-15), 3) := by decide +kernel
theorem d55_104 : decode prog_11_method_31_code 104 = .ok (.aload_n 0, 1) := by decide +kernel
theorem d55_105 : decode prog_11_method_31_code 105 = .ok (.invokevirtual 177, 3) := by decide +kernel
theorem d55_108 : decode prog_11_method_31_code 108 = .ok (.istore 4, 2) := by decide +kernel
theorem d55_110 : decode prog_11_method_31_code 110 = .ok (.iload 4, 2) := by decide +kernel
theorem d55_112 : decode prog_11_method_31_code 112 = .ok (.aload_n 0, 1) := by decide +kernel
theorem d55_113 : decode prog_11_method_31_code 113 = .ok (.getfield 171, 3) := by decide +kernel
theorem d55_116 : decode prog_11_method_31_code 116 = .ok (.if_icmp .ge 10, 3) := by decide +kernel
theorem d55_119 : decode prog_11_method_31_code 119 = .ok (.aload_n 0, 1) := by decide +kernel
theorem d55_120 : decode prog_11_method_31_code 120 = .ok (.iload_n 3, 1) := by decide +kernel
theorem d55_121 : decode prog_11_method_31_code 121 = .ok (.iload 4, 2) := by decide +kernel
theorem d55_123 : decode prog_11_method_31_code 123 = .ok (.invokevirtual 180, 3) := by decide +kernel
theorem d55_126 : decode prog_11_method_31_code 126 = .ok (.iinc 3 1, 3) := by decide +kernel
theorem d55_129 : decode prog_11_method_31_code 129 = .ok (.goto (-75), 3) := by decide +kernel
theorem d55_132 : decode prog_11_method_31_code 132 = .ok (.iconst 0, 1) := by decide +kernel
theorem d55_133 : decode prog_11_method_31_code 133 = .ok (.istore_n 3, 1) := by decide +kernel
theorem d55_134 : decode prog_11_method_31_code 134 = .ok (.iload_n 3, 1) := by decide +kernel
theorem d55_135 : decode prog_11_method_31_code 135 = .ok (.sipush 960, 3) := by decide +kernel
theorem d55_138 : decode prog_11_method_31_code 138 = .ok (.if_icmp .ge 21, 3) := by decide +kernel
theorem d55_141 : decode prog_11_method_31_code 141 = .ok (.aload_n 0, 1) := by decide +kernel
theorem d55_142 : decode prog_11_method_31_code 142 = .ok (.getfield 67, 3) := by decide +kernel
theorem d55_145 : decode prog_11_method_31_code 145 = .ok (.iload_n 3, 1) := by decide +kernel
theorem d55_146 : decode prog_11_method_31_code 146 = .ok (.aload_n 0, 1) := by decide +kernel
theorem d55_147 : decode prog_11_method_31_code 147 = .ok (.getfield 76, 3) := by decide +kernel
theorem d55_150 : decode prog_11_method_31_code 150 = .ok (.iload_n 3, 1) := by decide +kernel
theorem d55_151 : decode prog_11_method_31_code 151 = .ok (.iaload, 1) := by decide +kernel
theorem d55_152 : decode prog_11_method_31_code 152 = .ok (.iastore, 1) := by decide +kernel
theorem d55_153 : decode prog_11_method_31_code 153 = .ok (.iinc 3 1, 3) := by decide +kernel
theorem d55_156 : decode prog_11_method_31_code 156 = .ok (.goto (-22), 3) := by decide +kernel
theorem d55_159 : decode prog_11_method_31_code 159 = .ok (.iconst 0, 1) := by decide +kernel
theorem d55_160 : decode prog_11_method_31_code 160 = .ok (.istore_n 3, 1) := by decide +kernel
theorem d55_161 : decode prog_11_method_31_code 161 = .ok (.iload_n 3, 1) := by decide +kernel
theorem d55_162 : decode prog_11_method_31_code 162 = .ok (.iload_n 2, 1) := by decide +kernel
theorem d55_163 : decode prog_11_method_31_code 163 = .ok (.if_icmp .ge 14, 3) := by decide +kernel
theorem d55_166 : decode prog_11_method_31_code 166 = .ok (.aload_n 0, 1) := by decide +kernel
theorem d55_167 : decode prog_11_method_31_code 167 = .ok (.iload_n 3, 1) := by decide +kernel
theorem d55_168 : decode prog_11_method_31_code 168 = .ok (.invokevirtual 164, 3) := by decide +kernel
theorem d55_171 : decode prog_11_method_31_code 171 = .ok (.iinc 3 1, 3) := by decide +kernel
theorem d55_174 : decode prog_11_method_31_code 174 = .ok (.goto (-13), 3) := by decide +kernel
theorem d55_177 : decode prog_11_method_31_code 177 = .ok (.aload_n 0, 1) := by decide +kernel
theorem d55_178 : decode prog_11_method_31_code 178 = .ok (.iload_n 2, 1) := by decide +kernel
theorem d55_179 : decode prog_11_method_31_code 179 = .ok (.invokevirtual 187, 3) := by decide +kernel
theorem d55_182 : decode prog_11_method_31_code 182 = .ok (.aload_n 0, 1) := by decide +kernel
theorem d55_183 : decode prog_11_method_31_code 183 = .ok (.getfield 171, 3) := by decide +kernel
theorem d55_186 : decode prog_11_method_31_code 186 = .ok (.ireturn, 1) := by decide +kernel
theorem d56_0 : decode prog_11_method_32_code 0 = .ok (.iload_n 1, 1) := by decide +kernel
theorem d56_1 : decode prog_11_method_32_code 1 = .ok (.bipush 12, 2) := by decide +kernel
theorem d56_3 : decode prog_11_method_32_code 3 = .ok (.if_icmp .ge 12, 3) := by decide +kernel
theorem d56_6 : decode prog_11_method_32_code 6 = .ok (.aload_n 0, 1) := by decide +kernel
theorem d56_7 : decode prog_11_method_32_code 7 = .ok (.getfield 7, 3) := by decide +kernel
theorem d56_10 : decode prog_11_method_32_code 10 = .ok (.iload_n 1, 1) := by decide +kernel
theorem d56_11 : decode prog_11_method_32_code 11 = .ok (.iaload, 1) := by decide +kernel
theorem d56_12 : decode prog_11_method_32_code 12 = .ok (.goto 4, 3) := by decide +kernel
theorem d56_15 : decode prog_11_method_32_code 15 = .ok (.iconst 1, 1) := by decide +kernel
theorem d56_16 : decode prog_11_method_32_code 16 = .ok (.ireturn, 1) := by decide +kernel
theorem d57_0 : decode prog_11_method_33_code 0 = .ok (.iload_n 0, 1) := by decide +kernel
theorem d57_1 : decode prog_11_method_33_code 1 = .ok (.iload_n 1, 1) := by decide +kernel
theorem d57_2 : decode prog_11_method_33_code 2 = .ok (.idiv, 1) := by decide +kernel
theorem d57_3 : decode prog_11_method_33_code 3 = .ok (.istore_n 2, 1) := by decide +kernel
theorem d57_4 : decode prog_11_method_33_code 4 = .ok (.iload_n 0, 1) := by decide +kernel
theorem d57_5 : decode prog_11_method_33_code 5 = .ok (.iload_n 1, 1) := by decide +kernel
theorem d57_6 : decode prog_11_method_33_code 6 = .ok (.irem, 1) := by decide +kernel
theorem d57_7 : decode prog_11_method_33_code 7 = .ok (.ifCond .ge 9, 3) := by decide +kernel
theorem d57_10 : decode prog_11_method_33_code 10 = .ok (.iload_n 2, 1) := by decide +kernel
theorem d57_11 : decode prog_11_method_33_code 11 = .ok (.iconst 1, 1) := by decide +kernel
theorem d57_12 : decode prog_11_method_33_code 12 = .ok (.isub, 1) := by decide +kernel
theorem d57_13 : decode prog_11_method_33_code 13 = .ok (.goto 4, 3) := by decide +kernel
theorem d57_16 : decode prog_11_method_33_code 16 = .ok (.iload_n 2, 1) := by decide +kernel
theorem d57_17 : decode prog_11_method_33_code 17 = .ok (.ireturn, 1) := by decide +kernel
theorem d58_0 : decode prog_11_method_34_code 0 = .ok (.iconst 0, 1) := by decide +kernel
theorem d58_1 : decode prog_11_method_34_code 1 = .ok (.istore_n 2, 1) := by decide +kernel
theorem d58_2 : decode prog_11_method_34_code 2 = .ok (.iload_n 2, 1) := by decide +kernel
theorem d58_3 : decode prog_11_method_34_code 3 = .ok (.iload_n 1, 1) := by decide +kernel
theorem d58_4 : decode prog_11_method_34_code 4 = .ok (.if_icmp .ge 218, 3) := by decide +kernel
theorem d58_7 : decode prog_11_method_34_code 7 = .ok (.iconst 0, 1) := by decide +kernel
theorem d58_8 : decode prog_11_method_34_code 8 = .ok (.istore_n 3, 1) := by decide +kernel
theorem d58_9 : decode prog_11_method_34_code 9 = .ok (.iconst 0, 1) := by decide +kernel
theorem d58_10 : decode prog_11_method_34_code 10 = .ok (.istore 4, 2) := by decide +kernel
theorem d58_12 : decode prog_11_method_34_code 12 = .ok (.iload 4, 2) := by decide +kernel
theorem d58_14 : decode prog_11_method_34_code 14 = .ok (.aload_n 0, 1) := by decide +kernel
theorem d58_15 : decode prog_11_method_34_code 15 = .ok (.getfield 70, 3) := by decide +kernel
theorem d58_18 : decode prog_11_method_34_code 18 = .ok (.iload_n 2, 1) := by decide +kernel
theorem d58_19 : decode prog_11_method_34_code 19 = .ok (.iaload, 1) := by decide +kernel
theorem d58_20 : decode prog_11_method_34_code 20 = .ok (.if_icmp .ge 196, 3) := by decide +kernel
theorem d58_23 : decode prog_11_method_34_code 23 = .ok (.aload_n 0, 1) := by decide +kernel
theorem d58_24 : decode prog_11_method_34_code 24 = .ok (.getfield 67, 3) := by decide +kernel
theorem d58_27 : decode prog_11_method_34_code 27 = .ok (.bipush 80, 2) := by decide +kernel
theorem d58_29 : decode prog_11_method_34_code 29 = .ok (.iload_n 2, 1) := by decide +kernel
theorem d58_30 : decode prog_11_method_34_code 30 = .ok (.imul, 1) := by decide +kernel
theorem d58_31 : decode prog_11_method_34_code 31 = .ok (.iload 4, 2) := by decide +kernel
theorem d58_33 : decode prog_11_method_34_code 33 = .ok (.iadd, 1) := by decide +kernel
theorem d58_34 : decode prog_11_method_34_code 34 = .ok (.iaload, 1) := by decide +kernel
theorem d58_35 : decode prog_11_method_34_code 35 = .ok (.istore 5, 2) := by decide +kernel
theorem d58_37 : decode prog_11_method_34_code 37 = .ok (.iconst 0, 1) := by decide +kernel
theorem d58_38 : decode prog_11_method_34_code 38 = .ok (.istore 6, 2) := by decide +kernel
theorem d58_40 : decode prog_11_method_34_code 40 = .ok (.iconst 0, 1) := by decide +kernel
theorem d58_41 : decode prog_11_method_34_code 41 = .ok (.istore 7, 2) := by decide +kernel
theorem d58_43 : decode prog_11_method_34_code 43 = .ok (.iconst 0, 1) := by decide +kernel
theorem d58_44 : decode prog_11_method_34_code 44 = .ok (.istore 8, 2) := by decide +kernel
theorem d58_46 : decode prog_11_method_34_code 46 = .ok (.iload 8, 2) := by decide +kernel
theorem d58_48 : decode prog_11_method_34_code 48 = .ok (.aload_n 0, 1) := by decide +kernel
theorem d58_49 : decode prog_11_method_34_code 49 = .ok (.getfield 161, 3) := by decide +kernel
theorem d58_52 : decode prog_11_method_34_code 52 = .ok (.if_icmp .ge 55, 3) := by decide +kernel
theorem d58_55 : decode prog_11_method_34_code 55 = .ok (.aload_n 0, 1) := by decide +kernel
theorem d58_56 : decode prog_11_method_34_code 56 = .ok (.getfield 64, 3) := by decide +kernel
theorem d58_59 : decode prog_11_method_34_code 59 = .ok (.iload 8, 2) := by decide +kernel
theorem d58_61 : decode prog_11_method_34_code 61 = .ok (.iaload, 1) := by decide +kernel
theorem d58_62 : decode prog_11_method_34_code 62 = .ok (.iload 5, 2) := by decide +kernel
theorem d58_64 : decode prog_11_method_34_code 64 = .ok (.if_icmp .ne 37, 3) := by decide +kernel
theorem d58_67 : decode prog_11_method_34_code 67 = .ok (.iload 6, 2) := by decide +kernel
theorem d58_69 : decode prog_11_method_34_code 69 = .ok (.iconst 2, 1) := by decide +kernel
theorem d58_70 : decode prog_11_method_34_code 70 = .ok (.aload_n 0, 1) := by decide +kernel
theorem d58_71 : decode prog_11_method_34_code 71 = .ok (.getfield 79, 3) := by decide +kernel
theorem d58_74 : decode prog_11_method_34_code 74 = .ok (.aload_n 0, 1) := by decide +kernel
theorem d58_75 : decode prog_11_method_34_code 75 = .ok (.getfield 61, 3) := by decide +kernel
theorem d58_78 : decode prog_11_method_34_code 78 = .ok (.iload 8, 2) := by decide +kernel
theorem d58_80 : decode prog_11_method_34_code 80 = .ok (.iaload, 1) := by decide +kernel
theorem d58_81 : decode prog_11_method_34_code 81 = .ok (.iaload, 1) := by decide +kernel
theorem d58_82 : decode prog_11_method_34_code 82 = .ok (.imul, 1) := by decide +kernel
theorem d58_83 : decode prog_11_method_34_code 83 = .ok (.aload_n 0, 1) := by decide +kernel
theorem d58_84 : decode prog_11_method_34_code 84 = .ok (.aload_n 0, 1) := by decide +kernel
theorem d58_85 : decode prog_11_method_34_code 85 = .ok (.getfield 61, 3) := by decide +kernel
theorem d58_88 : decode prog_11_method_34_code 88 = .ok (.iload 8, 2) := by decide +kernel
theorem d58_90 : decode prog_11_method_34_code 90 = .ok (.iaload, 1) := by decide +kernel
theorem d58_91 : decode prog_11_method_34_code 91 = .ok (.invokevirtual 190, 3) := by decide +kernel
theorem d58_94 : decode prog_11_method_34_code 94 = .ok (.iadd, 1) := by decide +kernel
theorem d58_95 : decode prog_11_method_34_code 95 = .ok (.iadd, 1) := by decide +kernel
theorem d58_96 : decode prog_11_method_34_code 96 = .ok (.istore 6, 2) := by decide +kernel
theorem d58_98 : decode prog_11_method_34_code 98 = .ok (.iinc 7 1, 3) := by decide +kernel
theorem d58_101 : decode prog_11_method_34_code 101 = .ok (.iinc 8 1, 3) := by decide +kernel
theorem d58_104 : decode prog_11_method_34_code 104 = .ok (.goto (-58), 3) := by decide +kernel
theorem d58_107 : decode prog_11_method_34_code 107 = .ok (.iload 7, 2) := by decide +kernel
theorem d58_109 : decode prog_11_method_34_code 109 = .ok (.ifCond .ne 7, 3) := by decide +kernel
theorem d58_112 : decode prog_11_method_34_code 112 = .ok (.iconst 0, 1) := by decide +kernel
theorem d58_113 : decode prog_11_method_34_code 113 = .ok (.goto 21, 3) := by decide +kernel
theorem d58_116 : decode prog_11_method_34_code 116 = .ok (.iload 6, 2) := by decide +kernel
theorem d58_118 : decode prog_11_method_34_code 118 = .ok (.iconst 2, 1) := by decide +kernel
theorem d58_119 : decode prog_11_method_34_code 119 = .ok (.iload 7, 2) := by decide +kernel
theorem d58_121 : decode prog_11_method_34_code 121 = .ok (.imul, 1) := by decide +kernel
theorem d58_122 : decode prog_11_method_34_code 122 = .ok (.invokestatic 194, 3) := by decide +kernel
theorem d58_125 : decode prog_11_method_34_code 125 = .ok (.aload_n 0, 1) := by decide +kernel
theorem d58_126 : decode prog_11_method_34_code 126 = .ok (.iload 5, 2) := by decide +kernel
theorem d58_128 : decode prog_11_method_34_code 128 = .ok (.invokevirtual 190, 3) := by decide +kernel
theorem d58_131 : decode prog_11_method_34_code 131 = .ok (.iconst 2, 1) := by decide +kernel
theorem d58_132 : decode prog_11_method_34_code 132 = .ok (.idiv, 1) := by decide +kernel
theorem d58_133 : decode prog_11_method_34_code 133 = .ok (.isub, 1) := by decide +kernel
theorem d58_134 : decode prog_11_method_34_code 134 = .ok (.istore 8, 2) := by decide +kernel
theorem d58_136 : decode prog_11_method_34_code 136 = .ok (.iload 8, 2) := by decide +kernel
theorem d58_138 : decode prog_11_method_34_code 138 = .ok (.ifCond .ge 7, 3) := by decide +kernel
theorem d58_141 : decode prog_11_method_34_code 141 = .ok (.iconst 0, 1) := by decide +kernel
theorem d58_142 : decode prog_11_method_34_code 142 = .ok (.goto 5, 3) := by decide +kernel
theorem d58_145 : decode prog_11_method_34_code 145 = .ok (.iload 8, 2) := by decide +kernel
theorem d58_147 : decode prog_11_method_34_code 147 = .ok (.istore 8, 2) := by decide +kernel
theorem d58_149 : decode prog_11_method_34_code 149 = .ok (.iload_n 2, 1) := by decide +kernel
theorem d58_150 : decode prog_11_method_34_code 150 = .ok (.ifCond .ne 17, 3) := by decide +kernel
theorem d58_153 : decode prog_11_method_34_code 153 = .ok (.iload 4, 2) := by decide +kernel
theorem d58_155 : decode prog_11_method_34_code 155 = .ok (.ifCond .ne 7, 3) := by decide +kernel
theorem d58_158 : decode prog_11_method_34_code 158 = .ok (.iconst 0, 1) := by decide +kernel
theorem d58_159 : decode prog_11_method_34_code 159 = .ok (.goto 6, 3) := by decide +kernel
theorem d58_162 : decode prog_11_method_34_code 162 = .ok (.iload_n 3, 1) := by decide +kernel
theorem d58_163 : decode prog_11_method_34_code 163 = .ok (.iconst 1, 1) := by decide +kernel
theorem d58_164 : decode prog_11_method_34_code 164 = .ok (.iadd, 1) := by decide +kernel
theorem d58_165 : decode prog_11_method_34_code 165 = .ok (.istore 8, 2) := by decide +kernel
theorem d58_167 : decode prog_11_method_34_code 167 = .ok (.aload_n 0, 1) := by decide +kernel
theorem d58_168 : decode prog_11_method_34_code 168 = .ok (.getfield 79, 3) := by decide +kernel
theorem d58_171 : decode prog_11_method_34_code 171 = .ok (.iload 5, 2) := by decide +kernel
theorem d58_173 : decode prog_11_method_34_code 173 = .ok (.iload 4, 2) := by decide +kernel
theorem d58_175 : decode prog_11_method_34_code 175 = .ok (.ifCond .le 17, 3) := by decide +kernel
theorem d58_178 : decode prog_11_method_34_code 178 = .ok (.iload 8, 2) := by decide +kernel
theorem d58_180 : decode prog_11_method_34_code 180 = .ok (.iload_n 3, 1) := by decide +kernel
theorem d58_181 : decode prog_11_method_34_code 181 = .ok (.iconst 1, 1) := by decide +kernel
theorem d58_182 : decode prog_11_method_34_code 182 = .ok (.iadd, 1) := by decide +kernel
theorem d58_183 : decode prog_11_method_34_code 183 = .ok (.if_icmp .ge 9, 3) := by decide +kernel
theorem d58_186 : decode prog_11_method_34_code 186 = .ok (.iload_n 3, 1) := by decide +kernel
theorem d58_187 : decode prog_11_method_34_code 187 = .ok (.iconst 1, 1) := by decide +kernel
theorem d58_188 : decode prog_11_method_34_code 188 = .ok (.iadd, 1) := by decide +kernel
theorem d58_189 : decode prog_11_method_34_code 189 = .ok (.goto 5, 3) := by decide +kernel
theorem d58_192 : decode prog_11_method_34_code 192 = .ok (.iload 8, 2) := by decide +kernel
theorem d58_194 : decode prog_11_method_34_code 194 = .ok (.iastore, 1) := by decide +kernel
theorem d58_195 : decode prog_11_method_34_code 195 = .ok (.aload_n 0, 1) := by decide +kernel
theorem d58_196 : decode prog_11_method_34_code 196 = .ok (.getfield 79, 3) := by decide +kernel
theorem d58_199 : decode prog_11_method_34_code 199 = .ok (.iload 5, 2) := by decide +kernel
theorem d58_201 : decode prog_11_method_34_code 201 = .ok (.iaload, 1) := by decide +kernel
theorem d58_202 : decode prog_11_method_34_code 202 = .ok (.aload_n 0, 1) := by decide +kernel
theorem d58_203 : decode prog_11_method_34_code 203 = .ok (.iload 5, 2) := by decide +kernel
theorem d58_205 : decode prog_11_method_34_code 205 = .ok (.invokevirtual 190, 3) := by decide +kernel
theorem d58_208 : decode prog_11_method_34_code 208 = .ok (.iadd, 1) := by decide +kernel
theorem d58_209 : decode prog_11_method_34_code 209 = .ok (.istore_n 3, 1) := by decide +kernel
theorem d58_210 : decode prog_11_method_34_code 210 = .ok (.iinc 4 1, 3) := by decide +kernel
theorem d58_213 : decode prog_11_method_34_code 213 = .ok (.goto (-201), 3) := by decide +kernel
theorem d58_216 : decode prog_11_method_34_code 216 = .ok (.iinc 2 1, 3) := by decide +kernel
theorem d58_219 : decode prog_11_method_34_code 219 = .ok (.goto (-217), 3) := by decide +kernel
theorem d58_222 : decode prog_11_method_34_code 222 = .ok (.return_, 1) := by decide +kernel
theorem d59_0 : decode prog_11_method_35_code 0 = .ok (.aload_n 0, 1) := by decide +kernel
theorem d59_1 : decode prog_11_method_35_code 1 = .ok (.getfield 103, 3) := by decide +kernel
theorem d59_4 : decode prog_11_method_35_code 4 = .ok (.ifCond .eq 10, 3) := by decide +kernel
theorem d59_7 : decode prog_11_method_35_code 7 = .ok (.aload_n 0, 1) := by decide +kernel
theorem d59_8 : decode prog_11_method_35_code 8 = .ok (.getfield 168, 3) := by decide +kernel
theorem d59_11 : decode prog_11_method_35_code 11 = .ok (.goto 5, 3) := by decide +kernel
theorem d59_14 : decode prog_11_method_35_code 14 = .ok (.bipush (-3), 2) := by decide +kernel
theorem d59_16 : decode prog_11_method_35_code 16 = .ok (.ireturn, 1) := by decide +kernel
theorem d60_0 : decode prog_11_method_36_code 0 = .ok (.aload_n 0, 1) := by decide +kernel
theorem d60_1 : decode prog_11_method_36_code 1 = .ok (.getfield 103, 3) := by decide +kernel
theorem d60_4 : decode prog_11_method_36_code 4 = .ok (.ifCond .ne 8, 3) := by decide +kernel
theorem d60_7 : decode prog_11_method_36_code 7 = .ok (.bipush (-3), 2) := by decide +kernel
theorem d60_9 : decode prog_11_method_36_code 9 = .ok (.goto 25, 3) := by decide +kernel
theorem d60_12 : decode prog_11_method_36_code 12 = .ok (.iload_n 1, 1) := by decide +kernel
theorem d60_13 : decode prog_11_method_36_code 13 = .ok (.ifCond .lt 11, 3) := by decide +kernel
theorem d60_16 : decode prog_11_method_36_code 16 = .ok (.iload_n 1, 1) := by decide +kernel
theorem d60_17 : decode prog_11_method_36_code 17 = .ok (.aload_n 0, 1) := by decide +kernel
theorem d60_18 : decode prog_11_method_36_code 18 = .ok (.invokevirtual 151, 3) := by decide +kernel
theorem d60_21 : decode prog_11_method_36_code 21 = .ok (.if_icmp .lt 7, 3) := by decide +kernel
theorem d60_24 : decode prog_11_method_36_code 24 = .ok (.iconst (-1), 1) := by decide +kernel
theorem d60_25 : decode prog_11_method_36_code 25 = .ok (.goto 9, 3) := by decide +kernel
theorem d60_28 : decode prog_11_method_36_code 28 = .ok (.aload_n 0, 1) := by decide +kernel
theorem d60_29 : decode prog_11_method_36_code 29 = .ok (.getfield 70, 3) := by decide +kernel
theorem d60_32 : decode prog_11_method_36_code 32 = .ok (.iload_n 1, 1) := by decide +kernel
theorem d60_33 : decode prog_11_method_36_code 33 = .ok (.iaload, 1) := by decide +kernel
theorem d60_34 : decode prog_11_method_36_code 34 = .ok (.ireturn, 1) := by decide +kernel
theorem d61_0 : decode prog_11_method_37_code 0 = .ok (.aload_n 0, 1) := by decide +kernel
theorem d61_1 : decode prog_11_method_37_code 1 = .ok (.getfield 103, 3) := by decide +kernel
theorem d61_4 : decode prog_11_method_37_code 4 = .ok (.ifCond .ne 8, 3) := by decide +kernel
theorem d61_7 : decode prog_11_method_37_code 7 = .ok (.bipush (-3), 2) := by decide +kernel
theorem d61_9 : decode prog_11_method_37_code 9 = .ok (.goto 44, 3) := by decide +kernel
theorem d61_12 : decode prog_11_method_37_code 12 = .ok (.iload_n 1, 1) := by decide +kernel
theorem d61_13 : decode prog_11_method_37_code 13 = .ok (.ifCond .lt 25, 3) := by decide +kernel
theorem d61_16 : decode prog_11_method_37_code 16 = .ok (.iload_n 1, 1) := by decide +kernel
theorem d61_17 : decode prog_11_method_37_code 17 = .ok (.aload_n 0, 1) := by decide +kernel
theorem d61_18 : decode prog_11_method_37_code 18 = .ok (.invokevirtual 151, 3) := by decide +kernel
theorem d61_21 : decode prog_11_method_37_code 21 = .ok (.if_icmp .ge 17, 3) := by decide +kernel
theorem d61_24 : decode prog_11_method_37_code 24 = .ok (.iload_n 2, 1) := by decide +kernel
theorem d61_25 : decode prog_11_method_37_code 25 = .ok (.ifCond .lt 13, 3) := by decide +kernel
theorem d61_28 : decode prog_11_method_37_code 28 = .ok (.iload_n 2, 1) := by decide +kernel
theorem d61_29 : decode prog_11_method_37_code 29 = .ok (.aload_n 0, 1) := by decide +kernel
theorem d61_30 : decode prog_11_method_37_code 30 = .ok (.getfield 70, 3) := by decide +kernel
theorem d61_33 : decode prog_11_method_37_code 33 = .ok (.iload_n 1, 1) := by decide +kernel
theorem d61_34 : decode prog_11_method_37_code 34 = .ok (.iaload, 1) := by decide +kernel
theorem d61_35 : decode prog_11_method_37_code 35 = .ok (.if_icmp .lt 7, 3) := by decide +kernel
theorem d61_38 : decode prog_11_method_37_code 38 = .ok (.iconst (-1), 1) := by decide +kernel
theorem d61_39 : decode prog_11_method_37_code 39 = .ok (.goto 14, 3) := by decide +kernel
theorem d61_42 : decode prog_11_method_37_code 42 = .ok (.aload_n 0, 1) := by decide +kernel
theorem d61_43 : decode prog_11_method_37_code 43 = .ok (.getfield 76, 3) := by decide +kernel
theorem d61_46 : decode prog_11_method_37_code 46 = .ok (.bipush 80, 2) := by decide +kernel
theorem d61_48 : decode prog_11_method_37_code 48 = .ok (.iload_n 1, 1) := by decide +kernel
theorem d61_49 : decode prog_11_method_37_code 49 = .ok (.imul, 1) := by decide +kernel
theorem d61_50 : decode prog_11_method_37_code 50 = .ok (.iload_n 2, 1) := by decide +kernel
theorem d61_51 : decode prog_11_method_37_code 51 = .ok (.iadd, 1) := by decide +kernel
theorem d61_52 : decode prog_11_method_37_code 52 = .ok (.iaload, 1) := by decide +kernel
theorem d61_53 : decode prog_11_method_37_code 53 = .ok (.ireturn, 1) := by decide +kernel
theorem d62_0 : decode prog_11_method_38_code 0 = .ok (.aload_n 0, 1) := by decide +kernel
theorem d62_1 : decode prog_11_method_38_code 1 = .ok (.getfield 103, 3) := by decide +kernel
theorem d62_4 : decode prog_11_method_38_code 4 = .ok (.ifCond .ne 6, 3) := by decide +kernel
theorem d62_7 : decode prog_11_method_38_code 7 = .ok (.bipush (-3), 2) := by decide +kernel
theorem d62_9 : decode prog_11_method_38_code 9 = .ok (.ireturn, 1) := by decide +kernel
theorem d62_10 : decode prog_11_method_38_code 10 = .ok (.aload_n 0, 1) := by decide +kernel
theorem d62_11 : decode prog_11_method_38_code 11 = .ok (.invokevirtual 151, 3) := by decide +kernel
theorem d62_14 : decode prog_11_method_38_code 14 = .ok (.istore_n 1, 1) := by decide +kernel
theorem d62_15 : decode prog_11_method_38_code 15 = .ok (.lconst 1, 1) := by decide +kernel
theorem d62_16 : decode prog_11_method_38_code 16 = .ok (.lstore_n 2, 1) := by decide +kernel
theorem d62_17 : decode prog_11_method_38_code 17 = .ok (.iconst 0, 1) := by decide +kernel
theorem d62_18 : decode prog_11_method_38_code 18 = .ok (.istore 4, 2) := by decide +kernel
theorem d62_20 : decode prog_11_method_38_code 20 = .ok (.iload 4, 2) := by decide +kernel
theorem d62_22 : decode prog_11_method_38_code 22 = .ok (.iload_n 1, 1) := by decide +kernel
theorem d62_23 : decode prog_11_method_38_code 23 = .ok (.if_icmp .ge 48, 3) := by decide +kernel
theorem d62_26 : decode prog_11_method_38_code 26 = .ok (.iconst 2, 1) := by decide +kernel
theorem d62_27 : decode prog_11_method_38_code 27 = .ok (.istore 5, 2) := by decide +kernel
theorem d62_29 : decode prog_11_method_38_code 29 = .ok (.iload 5, 2) := by decide +kernel
theorem d62_31 : decode prog_11_method_38_code 31 = .ok (.aload_n 0, 1) := by decide +kernel
theorem d62_32 : decode prog_11_method_38_code 32 = .ok (.getfield 70, 3) := by decide +kernel
theorem d62_35 : decode prog_11_method_38_code 35 = .ok (.iload 4, 2) := by decide +kernel
theorem d62_37 : decode prog_11_method_38_code 37 = .ok (.iaload, 1) := by decide +kernel
theorem d62_38 : decode prog_11_method_38_code 38 = .ok (.if_icmp .gt 27, 3) := by decide +kernel
theorem d62_41 : decode prog_11_method_38_code 41 = .ok (.lload_n 2, 1) := by decide +kernel
theorem d62_42 : decode prog_11_method_38_code 42 = .ok (.ldc2_w 197, 3) := by decide +kernel
theorem d62_45 : decode prog_11_method_38_code 45 = .ok (.lcmp, 1) := by decide +kernel
theorem d62_46 : decode prog_11_method_38_code 46 = .ok (.ifCond .le 7, 3) := by decide +kernel
theorem d62_49 : decode prog_11_method_38_code 49 = .ok (.lload_n 2, 1) := by decide +kernel
theorem d62_50 : decode prog_11_method_38_code 50 = .ok (.goto 8, 3) := by decide +kernel
theorem d62_53 : decode prog_11_method_38_code 53 = .ok (.lload_n 2, 1) := by decide +kernel
theorem d62_54 : decode prog_11_method_38_code 54 = .ok (.iload 5, 2) := by decide +kernel
theorem d62_56 : decode prog_11_method_38_code 56 = .ok (.i2l, 1) := by decide +kernel
theorem d62_57 : decode prog_11_method_38_code 57 = .ok (.lmul, 1) := by decide +kernel
theorem d62_58 : decode prog_11_method_38_code 58 = .ok (.lstore_n 2, 1) := by decide +kernel
theorem d62_59 : decode prog_11_method_38_code 59 = .ok (.iinc 5 1, 3) := by decide +kernel
theorem d62_62 : decode prog_11_method_38_code 62 = .ok (.goto (-33), 3) := by decide +kernel
theorem d62_65 : decode prog_11_method_38_code 65 = .ok (.iinc 4 1, 3) := by decide +kernel
theorem d62_68 : decode prog_11_method_38_code 68 = .ok (.goto (-48), 3) := by decide +kernel
theorem d62_71 : decode prog_11_method_38_code 71 = .ok (.lload_n 2, 1) := by decide +kernel
theorem d62_72 : decode prog_11_method_38_code 72 = .ok (.ldc2_w 197, 3) := by decide +kernel
theorem d62_75 : decode prog_11_method_38_code 75 = .ok (.lcmp, 1) := by decide +kernel
theorem d62_76 : decode prog_11_method_38_code 76 = .ok (.ifCond .le 6, 3) := by decide +kernel
theorem d62_79 : decode prog_11_method_38_code 79 = .ok (.bipush (-4), 2) := by decide +kernel
theorem d62_81 : decode prog_11_method_38_code 81 = .ok (.ireturn, 1) := by decide +kernel
theorem d62_82 : decode prog_11_method_38_code 82 = .ok (.iconst 0, 1) := by decide +kernel
theorem d62_83 : decode prog_11_method_38_code 83 = .ok (.istore 4, 2) := by decide +kernel
theorem d62_85 : decode prog_11_method_38_code 85 = .ok (.iload 4, 2) := by decide +kernel
theorem d62_87 : decode prog_11_method_38_code 87 = .ok (.iload_n 1, 1) := by decide +kernel
theorem d62_88 : decode prog_11_method_38_code 88 = .ok (.if_icmp .ge 15, 3) := by decide +kernel
theorem d62_91 : decode prog_11_method_38_code 91 = .ok (.aload_n 0, 1) := by decide +kernel
theorem d62_92 : decode prog_11_method_38_code 92 = .ok (.iload 4, 2) := by decide +kernel
theorem d62_94 : decode prog_11_method_38_code 94 = .ok (.invokevirtual 199, 3) := by decide +kernel
theorem d62_97 : decode prog_11_method_38_code 97 = .ok (.iinc 4 1, 3) := by decide +kernel
theorem d62_100 : decode prog_11_method_38_code 100 = .ok (.goto (-15), 3) := by decide +kernel
theorem d62_103 : decode prog_11_method_38_code 103 = .ok (.aload_n 0, 1) := by decide +kernel
theorem d62_104 : decode prog_11_method_38_code 104 = .ok (.invokevirtual 177, 3) := by decide +kernel
theorem d62_107 : decode prog_11_method_38_code 107 = .ok (.istore 4, 2) := by decide +kernel
theorem d62_109 : decode prog_11_method_38_code 109 = .ok (.iconst 1, 1) := by decide +kernel
theorem d62_110 : decode prog_11_method_38_code 110 = .ok (.istore 5, 2) := by decide +kernel
theorem d62_112 : decode prog_11_method_38_code 112 = .ok (.iload 5, 2) := by decide +kernel
theorem d62_114 : decode prog_11_method_38_code 114 = .ok (.ifCond .eq 71, 3) := by decide +kernel
theorem d62_117 : decode prog_11_method_38_code 117 = .ok (.iconst 0, 1) := by decide +kernel
theorem d62_118 : decode prog_11_method_38_code 118 = .ok (.istore 6, 2) := by decide +kernel
theorem d62_120 : decode prog_11_method_38_code 120 = .ok (.iload 6, 2) := by decide +kernel
theorem d62_122 : decode prog_11_method_38_code 122 = .ok (.iload_n 1, 1) := by decide +kernel
theorem d62_123 : decode prog_11_method_38_code 123 = .ok (.if_icmp .ge 24, 3) := by decide +kernel
theorem d62_126 : decode prog_11_method_38_code 126 = .ok (.aload_n 0, 1) := by decide +kernel
theorem d62_127 : decode prog_11_method_38_code 127 = .ok (.iload 6, 2) := by decide +kernel
theorem d62_129 : decode prog_11_method_38_code 129 = .ok (.invokevirtual 202, 3) := by decide +kernel
theorem d62_132 : decode prog_11_method_38_code 132 = .ok (.ifCond .ne 15, 3) := by decide +kernel
theorem d62_135 : decode prog_11_method_38_code 135 = .ok (.aload_n 0, 1) := by decide +kernel
theorem d62_136 : decode prog_11_method_38_code 136 = .ok (.iload 6, 2) := by decide +kernel
theorem d62_138 : decode prog_11_method_38_code 138 = .ok (.invokevirtual 199, 3) := by decide +kernel
theorem d62_141 : decode prog_11_method_38_code 141 = .ok (.iinc 6 1, 3) := by decide +kernel
theorem d62_144 : decode prog_11_method_38_code 144 = .ok (.goto (-24), 3) := by decide +kernel
theorem d62_147 : decode prog_11_method_38_code 147 = .ok (.iload 6, 2) := by decide +kernel
theorem d62_149 : decode prog_11_method_38_code 149 = .ok (.iload_n 1, 1) := by decide +kernel
theorem d62_150 : decode prog_11_method_38_code 150 = .ok (.if_icmp .ge 7, 3) := by decide +kernel
theorem d62_153 : decode prog_11_method_38_code 153 = .ok (.iconst 1, 1) := by decide +kernel
theorem d62_154 : decode prog_11_method_38_code 154 = .ok (.goto 4, 3) := by decide +kernel
theorem d62_157 : decode prog_11_method_38_code 157 = .ok (.iconst 0, 1) := by decide +kernel
theorem d62_158 : decode prog_11_method_38_code 158 = .ok (.istore 5, 2) := by decide +kernel
theorem d62_160 : decode prog_11_method_38_code 160 = .ok (.aload_n 0, 1) := by decide +kernel
theorem d62_161 : decode prog_11_method_38_code 161 = .ok (.invokevirtual 177, 3) := by decide +kernel
theorem d62_164 : decode prog_11_method_38_code 164 = .ok (.istore 7, 2) := by decide +kernel
theorem d62_166 : decode prog_11_method_38_code 166 = .ok (.iload 7, 2) := by decide +kernel
theorem d62_168 : decode prog_11_method_38_code 168 = .ok (.iload 4, 2) := by decide +kernel
theorem d62_170 : decode prog_11_method_38_code 170 = .ok (.if_icmp .ge 8, 3) := by decide +kernel
theorem d62_173 : decode prog_11_method_38_code 173 = .ok (.iload 7, 2) := by decide +kernel
theorem d62_175 : decode prog_11_method_38_code 175 = .ok (.goto 5, 3) := by decide +kernel
theorem d62_178 : decode prog_11_method_38_code 178 = .ok (.iload 4, 2) := by decide +kernel
theorem d62_180 : decode prog_11_method_38_code 180 = .ok (.istore 4, 2) := by decide +kernel
theorem d62_182 : decode prog_11_method_38_code 182 = .ok (.goto (-70), 3) := by decide +kernel
theorem d62_185 : decode prog_11_method_38_code 185 = .ok (.iconst 0, 1) := by decide +kernel
theorem d62_186 : decode prog_11_method_38_code 186 = .ok (.istore 6, 2) := by decide +kernel
theorem d62_188 : decode prog_11_method_38_code 188 = .ok (.iload 6, 2) := by decide +kernel
theorem d62_190 : decode prog_11_method_38_code 190 = .ok (.sipush 960, 3) := by decide +kernel
theorem d62_193 : decode prog_11_method_38_code 193 = .ok (.if_icmp .ge 23, 3) := by decide +kernel
theorem d62_196 : decode prog_11_method_38_code 196 = .ok (.aload_n 0, 1) := by decide +kernel
theorem d62_197 : decode prog_11_method_38_code 197 = .ok (.getfield 67, 3) := by decide +kernel
theorem d62_200 : decode prog_11_method_38_code 200 = .ok (.iload 6, 2) := by decide +kernel
theorem d62_202 : decode prog_11_method_38_code 202 = .ok (.aload_n 0, 1) := by decide +kernel
theorem d62_203 : decode prog_11_method_38_code 203 = .ok (.getfield 76, 3) := by decide +kernel
theorem d62_206 : decode prog_11_method_38_code 206 = .ok (.iload 6, 2) := by decide +kernel
theorem d62_208 : decode prog_11_method_38_code 208 = .ok (.iaload, 1) := by decide +kernel
theorem d62_209 : decode prog_11_method_38_code 209 = .ok (.iastore, 1) := by decide +kernel
theorem d62_210 : decode prog_11_method_38_code 210 = .ok (.iinc 6 1, 3) := by decide +kernel
theorem d62_213 : decode prog_11_method_38_code 213 = .ok (.goto (-25), 3) := by decide +kernel
theorem d62_216 : decode prog_11_method_38_code 216 = .ok (.iconst 0, 1) := by decide +kernel
theorem d62_217 : decode prog_11_method_38_code 217 = .ok (.istore 6, 2) := by decide +kernel
theorem d62_219 : decode prog_11_method_38_code 219 = .ok (.iload 6, 2) := by decide +kernel
theorem d62_221 : decode prog_11_method_38_code 221 = .ok (.iload_n 1, 1) := by decide +kernel
theorem d62_222 : decode prog_11_method_38_code 222 = .ok (.if_icmp .ge 15, 3) := by decide +kernel
theorem d62_225 : decode prog_11_method_38_code 225 = .ok (.aload_n 0, 1) := by decide +kernel
theorem d62_226 : decode prog_11_method_38_code 226 = .ok (.iload 6, 2) := by decide +kernel
theorem d62_228 : decode prog_11_method_38_code 228 = .ok (.invokevirtual 164, 3) := by decide +kernel
theorem d62_231 : decode prog_11_method_38_code 231 = .ok (.iinc 6 1, 3) := by decide +kernel
theorem d62_234 : decode prog_11_method_38_code 234 = .ok (.goto (-15), 3) := by decide +kernel
theorem d62_237 : decode prog_11_method_38_code 237 = .ok (.iload 4, 2) := by decide +kernel
theorem d62_239 : decode prog_11_method_38_code 239 = .ok (.ireturn, 1) := by decide +kernel
theorem d63_0 : decode prog_11_method_39_code 0 = .ok (.iconst 1, 1) := by decide +kernel
theorem d63_1 : decode prog_11_method_39_code 1 = .ok (.istore_n 2, 1) := by decide +kernel
theorem d63_2 : decode prog_11_method_39_code 2 = .ok (.iload_n 2, 1) := by decide +kernel
theorem d63_3 : decode prog_11_method_39_code 3 = .ok (.aload_n 0, 1) := by decide +kernel
theorem d63_4 : decode prog_11_method_39_code 4 = .ok (.getfield 70, 3) := by decide +kernel
theorem d63_7 : decode prog_11_method_39_code 7 = .ok (.iload_n 1, 1) := by decide +kernel
theorem d63_8 : decode prog_11_method_39_code 8 = .ok (.iaload, 1) := by decide +kernel
theorem d63_9 : decode prog_11_method_39_code 9 = .ok (.if_icmp .ge 92, 3) := by decide +kernel
theorem d63_12 : decode prog_11_method_39_code 12 = .ok (.aload_n 0, 1) := by decide +kernel
theorem d63_13 : decode prog_11_method_39_code 13 = .ok (.getfield 67, 3) := by decide +kernel
theorem d63_16 : decode prog_11_method_39_code 16 = .ok (.bipush 80, 2) := by decide +kernel
theorem d63_18 : decode prog_11_method_39_code 18 = .ok (.iload_n 1, 1) := by decide +kernel
theorem d63_19 : decode prog_11_method_39_code 19 = .ok (.imul, 1) := by decide +kernel
theorem d63_20 : decode prog_11_method_39_code 20 = .ok (.iload_n 2, 1) := by decide +kernel
theorem d63_21 : decode prog_11_method_39_code 21 = .ok (.iadd, 1) := by decide +kernel
theorem d63_22 : decode prog_11_method_39_code 22 = .ok (.iaload, 1) := by decide +kernel
theorem d63_23 : decode prog_11_method_39_code 23 = .ok (.istore_n 3, 1) := by decide +kernel
theorem d63_24 : decode prog_11_method_39_code 24 = .ok (.iload_n 2, 1) := by decide +kernel
theorem d63_25 : decode prog_11_method_39_code 25 = .ok (.istore 4, 2) := by decide +kernel
theorem d63_27 : decode prog_11_method_39_code 27 = .ok (.iload 4, 2) := by decide +kernel
theorem d63_29 : decode prog_11_method_39_code 29 = .ok (.ifCond .le 53, 3) := by decide +kernel
theorem d63_32 : decode prog_11_method_39_code 32 = .ok (.aload_n 0, 1) := by decide +kernel
theorem d63_33 : decode prog_11_method_39_code 33 = .ok (.getfield 67, 3) := by decide +kernel
theorem d63_36 : decode prog_11_method_39_code 36 = .ok (.bipush 80, 2) := by decide +kernel
theorem d63_38 : decode prog_11_method_39_code 38 = .ok (.iload_n 1, 1) := by decide +kernel
theorem d63_39 : decode prog_11_method_39_code 39 = .ok (.imul, 1) := by decide +kernel
theorem d63_40 : decode prog_11_method_39_code 40 = .ok (.iload 4, 2) := by decide +kernel
theorem d63_42 : decode prog_11_method_39_code 42 = .ok (.iadd, 1) := by decide +kernel
theorem d63_43 : decode prog_11_method_39_code 43 = .ok (.iconst 1, 1) := by decide +kernel
theorem d63_44 : decode prog_11_method_39_code 44 = .ok (.isub, 1) := by decide +kernel
theorem d63_45 : decode prog_11_method_39_code 45 = .ok (.iaload, 1) := by decide +kernel
theorem d63_46 : decode prog_11_method_39_code 46 = .ok (.iload_n 3, 1) := by decide +kernel
theorem d63_47 : decode prog_11_method_39_code 47 = .ok (.if_icmp .le 35, 3) := by decide +kernel
theorem d63_50 : decode prog_11_method_39_code 50 = .ok (.aload_n 0, 1) := by decide +kernel
theorem d63_51 : decode prog_11_method_39_code 51 = .ok (.getfield 67, 3) := by decide +kernel
theorem d63_54 : decode prog_11_method_39_code 54 = .ok (.bipush 80, 2) := by decide +kernel
theorem d63_56 : decode prog_11_method_39_code 56 = .ok (.iload_n 1, 1) := by decide +kernel
theorem d63_57 : decode prog_11_method_39_code 57 = .ok (.imul, 1) := by decide +kernel
theorem d63_58 : decode prog_11_method_39_code 58 = .ok (.iload 4, 2) := by decide +kernel
theorem d63_60 : decode prog_11_method_39_code 60 = .ok (.iadd, 1) := by decide +kernel
theorem d63_61 : decode prog_11_method_39_code 61 = .ok (.aload_n 0, 1) := by decide +kernel
theorem d63_62 : decode prog_11_method_39_code 62 = .ok (.getfield 67, 3) := by decide +kernel
theorem d63_65 : decode prog_11_method_39_code 65 = .ok (.bipush 80, 2) := by decide +kernel
theorem d63_67 : decode prog_11_method_39_code 67 = .ok (.iload_n 1, 1) := by decide +kernel
theorem d63_68 : decode prog_11_method_39_code 68 = .ok (.imul, 1) := by decide +kernel
theorem d63_69 : decode prog_11_method_39_code 69 = .ok (.iload 4, 2) := by decide +kernel
theorem d63_71 : decode prog_11_method_39_code 71 = .ok (.iadd, 1) := by decide +kernel
theorem d63_72 : decode prog_11_method_39_code 72 = .ok (.iconst 1, 1) := by decide +kernel
theorem d63_73 : decode prog_11_method_39_code 73 = .ok (.isub, 1) := by decide +kernel
theorem d63_74 : decode prog_11_method_39_code 74 = .ok (.iaload, 1) := by decide +kernel
theorem d63_75 : decode prog_11_method_39_code 75 = .ok (.iastore, 1) := by decide +kernel
theorem d63_76 : decode prog_11_method_39_code 76 = .ok (.iinc 4 (-1), 3) := by decide +kernel
theorem d63_79 : decode prog_11_method_39_code 79 = .ok (.goto (-52), 3) := by decide +kernel
theorem d63_82 : decode prog_11_method_39_code 82 = .ok (.aload_n 0, 1) := by decide +kernel
theorem d63_83 : decode prog_11_method_39_code 83 = .ok (.getfield 67, 3) := by decide +kernel
theorem d63_86 : decode prog_11_method_39_code 86 = .ok (.bipush 80, 2) := by decide +kernel
theorem d63_88 : decode prog_11_method_39_code 88 = .ok (.iload_n 1, 1) := by decide +kernel
theorem d63_89 : decode prog_11_method_39_code 89 = .ok (.imul, 1) := by decide +kernel
theorem d63_90 : decode prog_11_method_39_code 90 = .ok (.iload 4, 2) := by decide +kernel
theorem d63_92 : decode prog_11_method_39_code 92 = .ok (.iadd, 1) := by decide +kernel
theorem d63_93 : decode prog_11_method_39_code 93 = .ok (.iload_n 3, 1) := by decide +kernel
theorem d63_94 : decode prog_11_method_39_code 94 = .ok (.iastore, 1) := by decide +kernel
theorem d63_95 : decode prog_11_method_39_code 95 = .ok (.iinc 2 1, 3) := by decide +kernel
theorem d63_98 : decode prog_11_method_39_code 98 = .ok (.goto (-96), 3) := by decide +kernel
theorem d63_101 : decode prog_11_method_39_code 101 = .ok (.aload_n 0, 1) := by decide +kernel
theorem d63_102 : decode prog_11_method_39_code 102 = .ok (.iload_n 1, 1) := by decide +kernel
theorem d63_103 : decode prog_11_method_39_code 103 = .ok (.invokevirtual 164, 3) := by decide +kernel
theorem d63_106 : decode prog_11_method_39_code 106 = .ok (.return_, 1) := by decide +kernel
theorem d64_0 : decode prog_11_method_40_code 0 = .ok (.bipush 80, 2) := by decide +kernel
theorem d64_2 : decode prog_11_method_40_code 2 = .ok (.iload_n 1, 1) := by decide +kernel
theorem d64_3 : decode prog_11_method_40_code 3 = .ok (.imul, 1) := by decide +kernel
theorem d64_4 : decode prog_11_method_40_code 4 = .ok (.istore_n 2, 1) := by decide +kernel
theorem d64_5 : decode prog_11_method_40_code 5 = .ok (.aload_n 0, 1) := by decide +kernel
theorem d64_6 : decode prog_11_method_40_code 6 = .ok (.getfield 70, 3) := by decide +kernel
theorem d64_9 : decode prog_11_method_40_code 9 = .ok (.iload_n 1, 1) := by decide +kernel
theorem d64_10 : decode prog_11_method_40_code 10 = .ok (.iaload, 1) := by decide +kernel
theorem d64_11 : decode prog_11_method_40_code 11 = .ok (.iconst 2, 1) := by decide +kernel
theorem d64_12 : decode prog_11_method_40_code 12 = .ok (.isub, 1) := by decide +kernel
theorem d64_13 : decode prog_11_method_40_code 13 = .ok (.istore_n 3, 1) := by decide +kernel
theorem d64_14 : decode prog_11_method_40_code 14 = .ok (.iload_n 3, 1) := by decide +kernel
theorem d64_15 : decode prog_11_method_40_code 15 = .ok (.ifCond .lt 30, 3) := by decide +kernel
theorem d64_18 : decode prog_11_method_40_code 18 = .ok (.aload_n 0, 1) := by decide +kernel
theorem d64_19 : decode prog_11_method_40_code 19 = .ok (.getfield 67, 3) := by decide +kernel
theorem d64_22 : decode prog_11_method_40_code 22 = .ok (.iload_n 2, 1) := by decide +kernel
theorem d64_23 : decode prog_11_method_40_code 23 = .ok (.iload_n 3, 1) := by decide +kernel
theorem d64_24 : decode prog_11_method_40_code 24 = .ok (.iadd, 1) := by decide +kernel
theorem d64_25 : decode prog_11_method_40_code 25 = .ok (.iaload, 1) := by decide +kernel
theorem d64_26 : decode prog_11_method_40_code 26 = .ok (.aload_n 0, 1) := by decide +kernel
theorem d64_27 : decode prog_11_method_40_code 27 = .ok (.getfield 67, 3) := by decide +kernel
theorem d64_30 : decode prog_11_method_40_code 30 = .ok (.iload_n 2, 1) := by decide +kernel
theorem d64_31 : decode prog_11_method_40_code 31 = .ok (.iload_n 3, 1) := by decide +kernel
theorem d64_32 : decode prog_11_method_40_code 32 = .ok (.iadd, 1) := by decide +kernel
theorem d64_33 : decode prog_11_method_40_code 33 = .ok (.iconst 1, 1) := by decide +kernel
theorem d64_34 : decode prog_11_method_40_code 34 = .ok (.iadd, 1) := by decide +kernel
theorem d64_35 : decode prog_11_method_40_code 35 = .ok (.iaload, 1) := by decide +kernel
theorem d64_36 : decode prog_11_method_40_code 36 = .ok (.if_icmp .le 9, 3) := by decide +kernel
theorem d64_39 : decode prog_11_method_40_code 39 = .ok (.iinc 3 (-1), 3) := by decide +kernel
theorem d64_42 : decode prog_11_method_40_code 42 = .ok (.goto (-28), 3) := by decide +kernel
theorem d64_45 : decode prog_11_method_40_code 45 = .ok (.iload_n 3, 1) := by decide +kernel
theorem d64_46 : decode prog_11_method_40_code 46 = .ok (.ifCond .ge 5, 3) := by decide +kernel
theorem d64_49 : decode prog_11_method_40_code 49 = .ok (.iconst 0, 1) := by decide +kernel
theorem d64_50 : decode prog_11_method_40_code 50 = .ok (.ireturn, 1) := by decide +kernel
theorem d64_51 : decode prog_11_method_40_code 51 = .ok (.aload_n 0, 1) := by decide +kernel
theorem d64_52 : decode prog_11_method_40_code 52 = .ok (.getfield 70, 3) := by decide +kernel
theorem d64_55 : decode prog_11_method_40_code 55 = .ok (.iload_n 1, 1) := by decide +kernel
theorem d64_56 : decode prog_11_method_40_code 56 = .ok (.iaload, 1) := by decide +kernel
theorem d64_57 : decode prog_11_method_40_code 57 = .ok (.iconst 1, 1) := by decide +kernel
theorem d64_58 : decode prog_11_method_40_code 58 = .ok (.isub, 1) := by decide +kernel
theorem d64_59 : decode prog_11_method_40_code 59 = .ok (.istore 4, 2) := by decide +kernel
theorem d64_61 : decode prog_11_method_40_code 61 = .ok (.aload_n 0, 1) := by decide +kernel
theorem d64_62 : decode prog_11_method_40_code 62 = .ok (.getfield 67, 3) := by decide +kernel
theorem d64_65 : decode prog_11_method_40_code 65 = .ok (.iload_n 2, 1) := by decide +kernel
theorem d64_66 : decode prog_11_method_40_code 66 = .ok (.iload 4, 2) := by decide +kernel
theorem d64_68 : decode prog_11_method_40_code 68 = .ok (.iadd, 1) := by decide +kernel
theorem d64_69 : decode prog_11_method_40_code 69 = .ok (.iaload, 1) := by decide +kernel
theorem d64_70 : decode prog_11_method_40_code 70 = .ok (.aload_n 0, 1) := by decide +kernel
theorem d64_71 : decode prog_11_method_40_code 71 = .ok (.getfield 67, 3) := by decide +kernel
theorem d64_74 : decode prog_11_method_40_code 74 = .ok (.iload_n 2, 1) := by decide +kernel
theorem d64_75 : decode prog_11_method_40_code 75 = .ok (.iload_n 3, 1) := by decide +kernel
theorem d64_76 : decode prog_11_method_40_code 76 = .ok (.iadd, 1) := by decide +kernel
theorem d64_77 : decode prog_11_method_40_code 77 = .ok (.iaload, 1) := by decide +kernel
theorem d64_78 : decode prog_11_method_40_code 78 = .ok (.if_icmp .ge 9, 3) := by decide +kernel
theorem d64_81 : decode prog_11_method_40_code 81 = .ok (.iinc 4 (-1), 3) := by decide +kernel
theorem d64_84 : decode prog_11_method_40_code 84 = .ok (.goto (-23), 3) := by decide +kernel
theorem d64_87 : decode prog_11_method_40_code 87 = .ok (.aload_n 0, 1) := by decide +kernel
theorem d64_88 : decode prog_11_method_40_code 88 = .ok (.getfield 67, 3) := by decide +kernel
theorem d64_91 : decode prog_11_method_40_code 91 = .ok (.iload_n 2, 1) := by decide +kernel
theorem d64_92 : decode prog_11_method_40_code 92 = .ok (.iload_n 3, 1) := by decide +kernel
theorem d64_93 : decode prog_11_method_40_code 93 = .ok (.iadd, 1) := by decide +kernel
theorem d64_94 : decode prog_11_method_40_code 94 = .ok (.iaload, 1) := by decide +kernel
theorem d64_95 : decode prog_11_method_40_code 95 = .ok (.istore 5, 2) := by decide +kernel
theorem d64_97 : decode prog_11_method_40_code 97 = .ok (.aload_n 0, 1) := by decide +kernel
theorem d64_98 : decode prog_11_method_40_code 98 = .ok (.getfield 67, 3) := by decide +kernel
theorem d64_101 : decode prog_11_method_40_code 101 = .ok (.iload_n 2, 1) := by decide +kernel
theorem d64_102 : decode prog_11_method_40_code 102 = .ok (.iload_n 3, 1) := by decide +kernel
theorem d64_103 : decode prog_11_method_40_code 103 = .ok (.iadd, 1) := by decide +kernel
theorem d64_104 : decode prog_11_method_40_code 104 = .ok (.aload_n 0, 1) := by decide +kernel
theorem d64_105 : decode prog_11_method_40_code 105 = .ok (.getfield 67, 3) := by decide +kernel
theorem d64_108 : decode prog_11_method_40_code 108 = .ok (.iload_n 2, 1) := by decide +kernel
theorem d64_109 : decode prog_11_method_40_code 109 = .ok (.iload 4, 2) := by decide +kernel
theorem d64_111 : decode prog_11_method_40_code 111 = .ok (.iadd, 1) := by decide +kernel
theorem d64_112 : decode prog_11_method_40_code 112 = .ok (.iaload, 1) := by decide +kernel
theorem d64_113 : decode prog_11_method_40_code 113 = .ok (.iastore, 1) := by decide +kernel
theorem d64_114 : decode prog_11_method_40_code 114 = .ok (.aload_n 0, 1) := by decide +kernel
theorem d64_115 : decode prog_11_method_40_code 115 = .ok (.getfield 67, 3) := by decide +kernel
theorem d64_118 : decode prog_11_method_40_code 118 = .ok (.iload_n 2, 1) := by decide +kernel
theorem d64_119 : decode prog_11_method_40_code 119 = .ok (.iload 4, 2) := by decide +kernel
theorem d64_121 : decode prog_11_method_40_code 121 = .ok (.iadd, 1) := by decide +kernel
theorem d64_122 : decode prog_11_method_40_code 122 = .ok (.iload 5, 2) := by decide +kernel
theorem d64_124 : decode prog_11_method_40_code 124 = .ok (.iastore, 1) := by decide +kernel
theorem d64_125 : decode prog_11_method_40_code 125 = .ok (.iload_n 3, 1) := by decide +kernel
theorem d64_126 : decode prog_11_method_40_code 126 = .ok (.iconst 1, 1) := by decide +kernel
theorem d64_127 : decode prog_11_method_40_code 127 = .ok (.iadd, 1) := by decide +kernel
theorem d64_128 : decode prog_11_method_40_code 128 = .ok (.istore 6, 2) := by decide +kernel
theorem d64_130 : decode prog_11_method_40_code 130 = .ok (.aload_n 0, 1) := by decide +kernel
theorem d64_131 : decode prog_11_method_40_code 131 = .ok (.getfield 70, 3) := by decide +kernel
theorem d64_134 : decode prog_11_method_40_code 134 = .ok (.iload_n 1, 1) := by decide +kernel
theorem d64_135 : decode prog_11_method_40_code 135 = .ok (.iaload, 1) := by decide +kernel
theorem d64_136 : decode prog_11_method_40_code 136 = .ok (.iconst 1, 1) := by decide +kernel
theorem d64_137 : decode prog_11_method_40_code 137 = .ok (.isub, 1) := by decide +kernel
theorem d64_138 : decode prog_11_method_40_code 138 = .ok (.istore 7, 2) := by decide +kernel
theorem d64_140 : decode prog_11_method_40_code 140 = .ok (.iload 6, 2) := by decide +kernel
theorem d64_142 : decode prog_11_method_40_code 142 = .ok (.iload 7, 2) := by decide +kernel
theorem d64_144 : decode prog_11_method_40_code 144 = .ok (.if_icmp .ge 52, 3) := by decide +kernel
theorem d64_147 : decode prog_11_method_40_code 147 = .ok (.aload_n 0, 1) := by decide +kernel
theorem d64_148 : decode prog_11_method_40_code 148 = .ok (.getfield 67, 3) := by decide +kernel
theorem d64_151 : decode prog_11_method_40_code 151 = .ok (.iload_n 2, 1) := by decide +kernel
theorem d64_152 : decode prog_11_method_40_code 152 = .ok (.iload 6, 2) := by decide +kernel
theorem d64_154 : decode prog_11_method_40_code 154 = .ok (.iadd, 1) := by decide +kernel
theorem d64_155 : decode prog_11_method_40_code 155 = .ok (.iaload, 1) := by decide +kernel
theorem d64_156 : decode prog_11_method_40_code 156 = .ok (.istore 5, 2) := by decide +kernel
theorem d64_158 : decode prog_11_method_40_code 158 = .ok (.aload_n 0, 1) := by decide +kernel
theorem d64_159 : decode prog_11_method_40_code 159 = .ok (.getfield 67, 3) := by decide +kernel
theorem d64_162 : decode prog_11_method_40_code 162 = .ok (.iload_n 2, 1) := by decide +kernel
theorem d64_163 : decode prog_11_method_40_code 163 = .ok (.iload 6, 2) := by decide +kernel
theorem d64_165 : decode prog_11_method_40_code 165 = .ok (.iadd, 1) := by decide +kernel
theorem d64_166 : decode prog_11_method_40_code 166 = .ok (.aload_n 0, 1) := by decide +kernel
theorem d64_167 : decode prog_11_method_40_code 167 = .ok (.getfield 67, 3) := by decide +kernel
theorem d64_170 : decode prog_11_method_40_code 170 = .ok (.iload_n 2, 1) := by decide +kernel
theorem d64_171 : decode prog_11_method_40_code 171 = .ok (.iload 7, 2) := by decide +kernel
theorem d64_173 : decode prog_11_method_40_code 173 = .ok (.iadd, 1) := by decide +kernel
theorem d64_174 : decode prog_11_method_40_code 174 = .ok (.iaload, 1) := by decide +kernel
theorem d64_175 : decode prog_11_method_40_code 175 = .ok (.iastore, 1) := by decide +kernel
theorem d64_176 : decode prog_11_method_40_code 176 = .ok (.aload_n 0, 1) := by decide +kernel
theorem d64_177 : decode prog_11_method_40_code 177 = .ok (.getfield 67, 3) := by decide +kernel
theorem d64_180 : decode prog_11_method_40_code 180 = .ok (.iload_n 2, 1) := by decide +kernel
theorem d64_181 : decode prog_11_method_40_code 181 = .ok (.iload 7, 2) := by decide +kernel
theorem d64_183 : decode prog_11_method_40_code 183 = .ok (.iadd, 1) := by decide +kernel
theorem d64_184 : decode prog_11_method_40_code 184 = .ok (.iload 5, 2) := by decide +kernel
theorem d64_186 : decode prog_11_method_40_code 186 = .ok (.iastore, 1) := by decide +kernel
theorem d64_187 : decode prog_11_method_40_code 187 = .ok (.iinc 6 1, 3) := by decide +kernel
theorem d64_190 : decode prog_11_method_40_code 190 = .ok (.iinc 7 (-1), 3) := by decide +kernel
theorem d64_193 : decode prog_11_method_40_code 193 = .ok (.goto (-53), 3) := by decide +kernel
theorem d64_196 : decode prog_11_method_40_code 196 = .ok (.aload_n 0, 1) := by decide +kernel
theorem d64_197 : decode prog_11_method_40_code 197 = .ok (.iload_n 1, 1) := by decide +kernel
theorem d64_198 : decode prog_11_method_40_code 198 = .ok (.invokevirtual 164, 3) := by decide +kernel
theorem d64_201 : decode prog_11_method_40_code 201 = .ok (.iconst 1, 1) := by decide +kernel
theorem d64_202 : decode prog_11_method_40_code 202 = .ok (.ireturn, 1) := by decide +kernel
theorem d65_0 : decode prog_11_method_41_code 0 = .ok (.aload_n 0, 1) := by decide +kernel
theorem d65_1 : decode prog_11_method_41_code 1 = .ok (.getfield 103, 3) := by decide +kernel
theorem d65_4 : decode prog_11_method_41_code 4 = .ok (.ifCond .ne 8, 3) := by decide +kernel
theorem d65_7 : decode prog_11_method_41_code 7 = .ok (.bipush (-3), 2) := by decide +kernel
theorem d65_9 : decode prog_11_method_41_code 9 = .ok (.goto 32, 3) := by decide +kernel
theorem d65_12 : decode prog_11_method_41_code 12 = .ok (.iload_n 1, 1) := by decide +kernel
theorem d65_13 : decode prog_11_method_41_code 13 = .ok (.ifCond .lt 18, 3) := by decide +kernel
theorem d65_16 : decode prog_11_method_41_code 16 = .ok (.iload_n 1, 1) := by decide +kernel
theorem d65_17 : decode prog_11_method_41_code 17 = .ok (.bipush 80, 2) := by decide +kernel
theorem d65_19 : decode prog_11_method_41_code 19 = .ok (.if_icmp .ge 12, 3) := by decide +kernel
theorem d65_22 : decode prog_11_method_41_code 22 = .ok (.aload_n 0, 1) := by decide +kernel
theorem d65_23 : decode prog_11_method_41_code 23 = .ok (.getfield 55, 3) := by decide +kernel
theorem d65_26 : decode prog_11_method_41_code 26 = .ok (.iload_n 1, 1) := by decide +kernel
theorem d65_27 : decode prog_11_method_41_code 27 = .ok (.baload, 1) := by decide +kernel
theorem d65_28 : decode prog_11_method_41_code 28 = .ok (.ifCond .ne 7, 3) := by decide +kernel
theorem d65_31 : decode prog_11_method_41_code 31 = .ok (.iconst (-1), 1) := by decide +kernel
theorem d65_32 : decode prog_11_method_41_code 32 = .ok (.goto 9, 3) := by decide +kernel
theorem d65_35 : decode prog_11_method_41_code 35 = .ok (.aload_n 0, 1) := by decide +kernel
theorem d65_36 : decode prog_11_method_41_code 36 = .ok (.getfield 79, 3) := by decide +kernel
theorem d65_39 : decode prog_11_method_41_code 39 = .ok (.iload_n 1, 1) := by decide +kernel
theorem d65_40 : decode prog_11_method_41_code 40 = .ok (.iaload, 1) := by decide +kernel
theorem d65_41 : decode prog_11_method_41_code 41 = .ok (.ireturn, 1) := by decide +kernel
theorem d66_0 : decode prog_11_method_42_code 0 = .ok (.aload_n 0, 1) := by decide +kernel
theorem d66_1 : decode prog_11_method_42_code 1 = .ok (.getfield 103, 3) := by decide +kernel
theorem d66_4 : decode prog_11_method_42_code 4 = .ok (.ifCond .ne 6, 3) := by decide +kernel
theorem d66_7 : decode prog_11_method_42_code 7 = .ok (.bipush (-3), 2) := by decide +kernel
theorem d66_9 : decode prog_11_method_42_code 9 = .ok (.ireturn, 1) := by decide +kernel
theorem d66_10 : decode prog_11_method_42_code 10 = .ok (.aload_n 0, 1) := by decide +kernel
theorem d66_11 : decode prog_11_method_42_code 11 = .ok (.iload_n 1, 1) := by decide +kernel
theorem d66_12 : decode prog_11_method_42_code 12 = .ok (.invokevirtual 123, 3) := by decide +kernel
theorem d66_15 : decode prog_11_method_42_code 15 = .ok (.ifCond .eq 34, 3) := by decide +kernel
theorem d66_18 : decode prog_11_method_42_code 18 = .ok (.iload_n 2, 1) := by decide +kernel
theorem d66_19 : decode prog_11_method_42_code 19 = .ok (.ifCond .lt 30, 3) := by decide +kernel
theorem d66_22 : decode prog_11_method_42_code 22 = .ok (.iload_n 2, 1) := by decide +kernel
theorem d66_23 : decode prog_11_method_42_code 23 = .ok (.aload_n 0, 1) := by decide +kernel
theorem d66_24 : decode prog_11_method_42_code 24 = .ok (.getfield 30, 3) := by decide +kernel
theorem d66_27 : decode prog_11_method_42_code 27 = .ok (.aload_n 0, 1) := by decide +kernel
theorem d66_28 : decode prog_11_method_42_code 28 = .ok (.getfield 36, 3) := by decide +kernel
theorem d66_31 : decode prog_11_method_42_code 31 = .ok (.iload_n 1, 1) := by decide +kernel
theorem d66_32 : decode prog_11_method_42_code 32 = .ok (.iaload, 1) := by decide +kernel
theorem d66_33 : decode prog_11_method_42_code 33 = .ok (.iaload, 1) := by decide +kernel
theorem d66_34 : decode prog_11_method_42_code 34 = .ok (.aload_n 0, 1) := by decide +kernel
theorem d66_35 : decode prog_11_method_42_code 35 = .ok (.getfield 30, 3) := by decide +kernel
theorem d66_38 : decode prog_11_method_42_code 38 = .ok (.aload_n 0, 1) := by decide +kernel
theorem d66_39 : decode prog_11_method_42_code 39 = .ok (.getfield 33, 3) := by decide +kernel
theorem d66_42 : decode prog_11_method_42_code 42 = .ok (.iload_n 1, 1) := by decide +kernel
theorem d66_43 : decode prog_11_method_42_code 43 = .ok (.iaload, 1) := by decide +kernel
theorem d66_44 : decode prog_11_method_42_code 44 = .ok (.iaload, 1) := by decide +kernel
theorem d66_45 : decode prog_11_method_42_code 45 = .ok (.isub, 1) := by decide +kernel
theorem d66_46 : decode prog_11_method_42_code 46 = .ok (.if_icmp .le 5, 3) := by decide +kernel
theorem d66_49 : decode prog_11_method_42_code 49 = .ok (.iconst (-1), 1) := by decide +kernel
theorem d66_50 : decode prog_11_method_42_code 50 = .ok (.ireturn, 1) := by decide +kernel
theorem d66_51 : decode prog_11_method_42_code 51 = .ok (.iload_n 2, 1) := by decide +kernel
theorem d66_52 : decode prog_11_method_42_code 52 = .ok (.ifCond .ne 12, 3) := by decide +kernel
theorem d66_55 : decode prog_11_method_42_code 55 = .ok (.aload_n 0, 1) := by decide +kernel
theorem d66_56 : decode prog_11_method_42_code 56 = .ok (.getfield 33, 3) := by decide +kernel
theorem d66_59 : decode prog_11_method_42_code 59 = .ok (.iload_n 1, 1) := by decide +kernel
theorem d66_60 : decode prog_11_method_42_code 60 = .ok (.iaload, 1) := by decide +kernel
theorem d66_61 : decode prog_11_method_42_code 61 = .ok (.goto 49, 3) := by decide +kernel
theorem d66_64 : decode prog_11_method_42_code 64 = .ok (.iload_n 2, 1) := by decide +kernel
theorem d66_65 : decode prog_11_method_42_code 65 = .ok (.aload_n 0, 1) := by decide +kernel
theorem d66_66 : decode prog_11_method_42_code 66 = .ok (.getfield 30, 3) := by decide +kernel
theorem d66_69 : decode prog_11_method_42_code 69 = .ok (.aload_n 0, 1) := by decide +kernel
theorem d66_70 : decode prog_11_method_42_code 70 = .ok (.getfield 36, 3) := by decide +kernel
theorem d66_73 : decode prog_11_method_42_code 73 = .ok (.iload_n 1, 1) := by decide +kernel
theorem d66_74 : decode prog_11_method_42_code 74 = .ok (.iaload, 1) := by decide +kernel
theorem d66_75 : decode prog_11_method_42_code 75 = .ok (.iaload, 1) := by decide +kernel
theorem d66_76 : decode prog_11_method_42_code 76 = .ok (.aload_n 0, 1) := by decide +kernel
theorem d66_77 : decode prog_11_method_42_code 77 = .ok (.getfield 30, 3) := by decide +kernel
theorem d66_80 : decode prog_11_method_42_code 80 = .ok (.aload_n 0, 1) := by decide +kernel
theorem d66_81 : decode prog_11_method_42_code 81 = .ok (.getfield 33, 3) := by decide +kernel
theorem d66_84 : decode prog_11_method_42_code 84 = .ok (.iload_n 1, 1) := by decide +kernel
theorem d66_85 : decode prog_11_method_42_code 85 = .ok (.iaload, 1) := by decide +kernel
theorem d66_86 : decode prog_11_method_42_code 86 = .ok (.iaload, 1) := by decide +kernel
theorem d66_87 : decode prog_11_method_42_code 87 = .ok (.isub, 1) := by decide +kernel
theorem d66_88 : decode prog_11_method_42_code 88 = .ok (.if_icmp .ne 12, 3) := by decide +kernel
theorem d66_91 : decode prog_11_method_42_code 91 = .ok (.aload_n 0, 1) := by decide +kernel
theorem d66_92 : decode prog_11_method_42_code 92 = .ok (.getfield 36, 3) := by decide +kernel
theorem d66_95 : decode prog_11_method_42_code 95 = .ok (.iload_n 1, 1) := by decide +kernel
theorem d66_96 : decode prog_11_method_42_code 96 = .ok (.iaload, 1) := by decide +kernel
theorem d66_97 : decode prog_11_method_42_code 97 = .ok (.goto 13, 3) := by decide +kernel
theorem d66_100 : decode prog_11_method_42_code 100 = .ok (.aload_n 0, 1) := by decide +kernel
theorem d66_101 : decode prog_11_method_42_code 101 = .ok (.getfield 58, 3) := by decide +kernel
theorem d66_104 : decode prog_11_method_42_code 104 = .ok (.iload_n 1, 1) := by decide +kernel
theorem d66_105 : decode prog_11_method_42_code 105 = .ok (.iaload, 1) := by decide +kernel
theorem d66_106 : decode prog_11_method_42_code 106 = .ok (.iload_n 2, 1) := by decide +kernel
theorem d66_107 : decode prog_11_method_42_code 107 = .ok (.iadd, 1) := by decide +kernel
theorem d66_108 : decode prog_11_method_42_code 108 = .ok (.iconst 1, 1) := by decide +kernel
theorem d66_109 : decode prog_11_method_42_code 109 = .ok (.isub, 1) := by decide +kernel
theorem d66_110 : decode prog_11_method_42_code 110 = .ok (.ireturn, 1) := by decide +kernel
theorem d67_0 : decode prog_11_method_43_code 0 = .ok (.aload_n 0, 1) := by decide +kernel
theorem d67_1 : decode prog_11_method_43_code 1 = .ok (.getfield 103, 3) := by decide +kernel
theorem d67_4 : decode prog_11_method_43_code 4 = .ok (.ifCond .ne 6, 3) := by decide +kernel
theorem d67_7 : decode prog_11_method_43_code 7 = .ok (.bipush (-3), 2) := by decide +kernel
theorem d67_9 : decode prog_11_method_43_code 9 = .ok (.ireturn, 1) := by decide +kernel
theorem d67_10 : decode prog_11_method_43_code 10 = .ok (.iconst 0, 1) := by decide +kernel
theorem d67_11 : decode prog_11_method_43_code 11 = .ok (.istore_n 1, 1) := by decide +kernel
theorem d67_12 : decode prog_11_method_43_code 12 = .ok (.iconst 0, 1) := by decide +kernel
theorem d67_13 : decode prog_11_method_43_code 13 = .ok (.istore_n 2, 1) := by decide +kernel
theorem d67_14 : decode prog_11_method_43_code 14 = .ok (.iconst 0, 1) := by decide +kernel
theorem d67_15 : decode prog_11_method_43_code 15 = .ok (.istore_n 3, 1) := by decide +kernel
theorem d67_16 : decode prog_11_method_43_code 16 = .ok (.iload_n 3, 1) := by decide +kernel
theorem d67_17 : decode prog_11_method_43_code 17 = .ok (.bipush 80, 2) := by decide +kernel
theorem d67_19 : decode prog_11_method_43_code 19 = .ok (.if_icmp .ge 51, 3) := by decide +kernel
theorem d67_22 : decode prog_11_method_43_code 22 = .ok (.aload_n 0, 1) := by decide +kernel
theorem d67_23 : decode prog_11_method_43_code 23 = .ok (.getfield 55, 3) := by decide +kernel
theorem d67_26 : decode prog_11_method_43_code 26 = .ok (.iload_n 3, 1) := by decide +kernel
theorem d67_27 : decode prog_11_method_43_code 27 = .ok (.baload, 1) := by decide +kernel
theorem d67_28 : decode prog_11_method_43_code 28 = .ok (.ifCond .eq 36, 3) := by decide +kernel
theorem d67_31 : decode prog_11_method_43_code 31 = .ok (.aload_n 0, 1) := by decide +kernel
theorem d67_32 : decode prog_11_method_43_code 32 = .ok (.getfield 79, 3) := by decide +kernel
theorem d67_35 : decode prog_11_method_43_code 35 = .ok (.iload_n 3, 1) := by decide +kernel
theorem d67_36 : decode prog_11_method_43_code 36 = .ok (.iaload, 1) := by decide +kernel
theorem d67_37 : decode prog_11_method_43_code 37 = .ok (.aload_n 0, 1) := by decide +kernel
theorem d67_38 : decode prog_11_method_43_code 38 = .ok (.iload_n 3, 1) := by decide +kernel
theorem d67_39 : decode prog_11_method_43_code 39 = .ok (.invokevirtual 190, 3) := by decide +kernel
theorem d67_42 : decode prog_11_method_43_code 42 = .ok (.iadd, 1) := by decide +kernel
theorem d67_43 : decode prog_11_method_43_code 43 = .ok (.istore 4, 2) := by decide +kernel
theorem d67_45 : decode prog_11_method_43_code 45 = .ok (.iload_n 2, 1) := by decide +kernel
theorem d67_46 : decode prog_11_method_43_code 46 = .ok (.ifCond .eq 9, 3) := by decide +kernel
theorem d67_49 : decode prog_11_method_43_code 49 = .ok (.iload 4, 2) := by decide +kernel
theorem d67_51 : decode prog_11_method_43_code 51 = .ok (.iload_n 1, 1) := by decide +kernel
theorem d67_52 : decode prog_11_method_43_code 52 = .ok (.if_icmp .le 8, 3) := by decide +kernel
theorem d67_55 : decode prog_11_method_43_code 55 = .ok (.iload 4, 2) := by decide +kernel
theorem d67_57 : decode prog_11_method_43_code 57 = .ok (.goto 4, 3) := by decide +kernel
theorem d67_60 : decode prog_11_method_43_code 60 = .ok (.iload_n 1, 1) := by decide +kernel
theorem d67_61 : decode prog_11_method_43_code 61 = .ok (.istore_n 1, 1) := by decide +kernel
theorem d67_62 : decode prog_11_method_43_code 62 = .ok (.iconst 1, 1) := by decide +kernel
theorem d67_63 : decode prog_11_method_43_code 63 = .ok (.istore_n 2, 1) := by decide +kernel
theorem d67_64 : decode prog_11_method_43_code 64 = .ok (.iinc 3 1, 3) := by decide +kernel
theorem d67_67 : decode prog_11_method_43_code 67 = .ok (.goto (-51), 3) := by decide +kernel
theorem d67_70 : decode prog_11_method_43_code 70 = .ok (.iload_n 1, 1) := by decide +kernel
theorem d67_71 : decode prog_11_method_43_code 71 = .ok (.ireturn, 1) := by decide +kernel
theorem d68_0 : decode prog_11_method_44_code 0 = .ok (.iconst 0, 1) := by decide +kernel
theorem d68_1 : decode prog_11_method_44_code 1 = .ok (.istore_n 1, 1) := by decide +kernel
theorem d68_2 : decode prog_11_method_44_code 2 = .ok (.iconst 0, 1) := by decide +kernel
theorem d68_3 : decode prog_11_method_44_code 3 = .ok (.istore_n 2, 1) := by decide +kernel
theorem d68_4 : decode prog_11_method_44_code 4 = .ok (.iload_n 2, 1) := by decide +kernel
theorem d68_5 : decode prog_11_method_44_code 5 = .ok (.aload_n 0, 1) := by decide +kernel
theorem d68_6 : decode prog_11_method_44_code 6 = .ok (.getfield 106, 3) := by decide +kernel
theorem d68_9 : decode prog_11_method_44_code 9 = .ok (.if_icmp .ge 16, 3) := by decide +kernel
theorem d68_12 : decode prog_11_method_44_code 12 = .ok (.aload_n 0, 1) := by decide +kernel
theorem d68_13 : decode prog_11_method_44_code 13 = .ok (.getfield 88, 3) := by decide +kernel
theorem d68_16 : decode prog_11_method_44_code 16 = .ok (.iload_n 2, 1) := by decide +kernel
theorem d68_17 : decode prog_11_method_44_code 17 = .ok (.iconst (-1), 1) := by decide +kernel
theorem d68_18 : decode prog_11_method_44_code 18 = .ok (.iastore, 1) := by decide +kernel
theorem d68_19 : decode prog_11_method_44_code 19 = .ok (.iinc 2 1, 3) := by decide +kernel
theorem d68_22 : decode prog_11_method_44_code 22 = .ok (.goto (-18), 3) := by decide +kernel
theorem d68_25 : decode prog_11_method_44_code 25 = .ok (.iconst 0, 1) := by decide +kernel
theorem d68_26 : decode prog_11_method_44_code 26 = .ok (.istore_n 2, 1) := by decide +kernel
theorem d68_27 : decode prog_11_method_44_code 27 = .ok (.iload_n 2, 1) := by decide +kernel
theorem d68_28 : decode prog_11_method_44_code 28 = .ok (.aload_n 0, 1) := by decide +kernel
theorem d68_29 : decode prog_11_method_44_code 29 = .ok (.getfield 110, 3) := by decide +kernel
theorem d68_32 : decode prog_11_method_44_code 32 = .ok (.if_icmp .ge 60, 3) := by decide +kernel
theorem d68_35 : decode prog_11_method_44_code 35 = .ok (.aload_n 0, 1) := by decide +kernel
theorem d68_36 : decode prog_11_method_44_code 36 = .ok (.getfield 19, 3) := by decide +kernel
theorem d68_39 : decode prog_11_method_44_code 39 = .ok (.iload_n 2, 1) := by decide +kernel
theorem d68_40 : decode prog_11_method_44_code 40 = .ok (.baload, 1) := by decide +kernel
theorem d68_41 : decode prog_11_method_44_code 41 = .ok (.ifCond .eq 45, 3) := by decide +kernel
theorem d68_44 : decode prog_11_method_44_code 44 = .ok (.aload_n 0, 1) := by decide +kernel
theorem d68_45 : decode prog_11_method_44_code 45 = .ok (.getfield 27, 3) := by decide +kernel
theorem d68_48 : decode prog_11_method_44_code 48 = .ok (.iload_n 2, 1) := by decide +kernel
theorem d68_49 : decode prog_11_method_44_code 49 = .ok (.baload, 1) := by decide +kernel
theorem d68_50 : decode prog_11_method_44_code 50 = .ok (.ifCond .ne 17, 3) := by decide +kernel
theorem d68_53 : decode prog_11_method_44_code 53 = .ok (.aload_n 0, 1) := by decide +kernel
theorem d68_54 : decode prog_11_method_44_code 54 = .ok (.getfield 88, 3) := by decide +kernel
theorem d68_57 : decode prog_11_method_44_code 57 = .ok (.aload_n 0, 1) := by decide +kernel
theorem d68_58 : decode prog_11_method_44_code 58 = .ok (.getfield 16, 3) := by decide +kernel
theorem d68_61 : decode prog_11_method_44_code 61 = .ok (.iload_n 2, 1) := by decide +kernel
theorem d68_62 : decode prog_11_method_44_code 62 = .ok (.iaload, 1) := by decide +kernel
theorem d68_63 : decode prog_11_method_44_code 63 = .ok (.iaload, 1) := by decide +kernel
theorem d68_64 : decode prog_11_method_44_code 64 = .ok (.ifCond .lt 5, 3) := by decide +kernel
theorem d68_67 : decode prog_11_method_44_code 67 = .ok (.iconst 0, 1) := by decide +kernel
theorem d68_68 : decode prog_11_method_44_code 68 = .ok (.ireturn, 1) := by decide +kernel
theorem d68_69 : decode prog_11_method_44_code 69 = .ok (.aload_n 0, 1) := by decide +kernel
theorem d68_70 : decode prog_11_method_44_code 70 = .ok (.getfield 88, 3) := by decide +kernel
theorem d68_73 : decode prog_11_method_44_code 73 = .ok (.aload_n 0, 1) := by decide +kernel
theorem d68_74 : decode prog_11_method_44_code 74 = .ok (.getfield 16, 3) := by decide +kernel
theorem d68_77 : decode prog_11_method_44_code 77 = .ok (.iload_n 2, 1) := by decide +kernel
theorem d68_78 : decode prog_11_method_44_code 78 = .ok (.iaload, 1) := by decide +kernel
theorem d68_79 : decode prog_11_method_44_code 79 = .ok (.aload_n 0, 1) := by decide +kernel
theorem d68_80 : decode prog_11_method_44_code 80 = .ok (.getfield 13, 3) := by decide +kernel
theorem d68_83 : decode prog_11_method_44_code 83 = .ok (.iload_n 2, 1) := by decide +kernel
theorem d68_84 : decode prog_11_method_44_code 84 = .ok (.iaload, 1) := by decide +kernel
theorem d68_85 : decode prog_11_method_44_code 85 = .ok (.iastore, 1) := by decide +kernel
theorem d68_86 : decode prog_11_method_44_code 86 = .ok (.iinc 2 1, 3) := by decide +kernel
theorem d68_89 : decode prog_11_method_44_code 89 = .ok (.goto (-62), 3) := by decide +kernel
theorem d68_92 : decode prog_11_method_44_code 92 = .ok (.iconst 0, 1) := by decide +kernel
theorem d68_93 : decode prog_11_method_44_code 93 = .ok (.istore_n 2, 1) := by decide +kernel
theorem d68_94 : decode prog_11_method_44_code 94 = .ok (.iload_n 2, 1) := by decide +kernel
theorem d68_95 : decode prog_11_method_44_code 95 = .ok (.aload_n 0, 1) := by decide +kernel
theorem d68_96 : decode prog_11_method_44_code 96 = .ok (.getfield 106, 3) := by decide +kernel
theorem d68_99 : decode prog_11_method_44_code 99 = .ok (.if_icmp .ge 64, 3) := by decide +kernel
theorem d68_102 : decode prog_11_method_44_code 102 = .ok (.iload_n 1, 1) := by decide +kernel
theorem d68_103 : decode prog_11_method_44_code 103 = .ok (.aload_n 0, 1) := by decide +kernel
theorem d68_104 : decode prog_11_method_44_code 104 = .ok (.getfield 88, 3) := by decide +kernel
theorem d68_107 : decode prog_11_method_44_code 107 = .ok (.iload_n 2, 1) := by decide +kernel
theorem d68_108 : decode prog_11_method_44_code 108 = .ok (.iaload, 1) := by decide +kernel
theorem d68_109 : decode prog_11_method_44_code 109 = .ok (.ifCond .ge 7, 3) := by decide +kernel
theorem d68_112 : decode prog_11_method_44_code 112 = .ok (.iconst 1, 1) := by decide +kernel
theorem d68_113 : decode prog_11_method_44_code 113 = .ok (.goto 4, 3) := by decide +kernel
theorem d68_116 : decode prog_11_method_44_code 116 = .ok (.iconst 0, 1) := by decide +kernel
theorem d68_117 : decode prog_11_method_44_code 117 = .ok (.iadd, 1) := by decide +kernel
theorem d68_118 : decode prog_11_method_44_code 118 = .ok (.istore_n 1, 1) := by decide +kernel
theorem d68_119 : decode prog_11_method_44_code 119 = .ok (.aload_n 0, 1) := by decide +kernel
theorem d68_120 : decode prog_11_method_44_code 120 = .ok (.getfield 91, 3) := by decide +kernel
theorem d68_123 : decode prog_11_method_44_code 123 = .ok (.iload_n 2, 1) := by decide +kernel
theorem d68_124 : decode prog_11_method_44_code 124 = .ok (.iconst 0, 1) := by decide +kernel
theorem d68_125 : decode prog_11_method_44_code 125 = .ok (.iastore, 1) := by decide +kernel
theorem d68_126 : decode prog_11_method_44_code 126 = .ok (.iload_n 2, 1) := by decide +kernel
theorem d68_127 : decode prog_11_method_44_code 127 = .ok (.istore_n 3, 1) := by decide +kernel
theorem d68_128 : decode prog_11_method_44_code 128 = .ok (.aload_n 0, 1) := by decide +kernel
theorem d68_129 : decode prog_11_method_44_code 129 = .ok (.getfield 88, 3) := by decide +kernel
theorem d68_132 : decode prog_11_method_44_code 132 = .ok (.iload_n 3, 1) := by decide +kernel
theorem d68_133 : decode prog_11_method_44_code 133 = .ok (.iaload, 1) := by decide +kernel
theorem d68_134 : decode prog_11_method_44_code 134 = .ok (.ifCond .lt 23, 3) := by decide +kernel
theorem d68_137 : decode prog_11_method_44_code 137 = .ok (.aload_n 0, 1) := by decide +kernel
theorem d68_138 : decode prog_11_method_44_code 138 = .ok (.getfield 88, 3) := by decide +kernel
theorem d68_141 : decode prog_11_method_44_code 141 = .ok (.iload_n 3, 1) := by decide +kernel
theorem d68_142 : decode prog_11_method_44_code 142 = .ok (.iaload, 1) := by decide +kernel
theorem d68_143 : decode prog_11_method_44_code 143 = .ok (.istore_n 3, 1) := by decide +kernel
theorem d68_144 : decode prog_11_method_44_code 144 = .ok (.aload_n 0, 1) := by decide +kernel
theorem d68_145 : decode prog_11_method_44_code 145 = .ok (.getfield 91, 3) := by decide +kernel
theorem d68_148 : decode prog_11_method_44_code 148 = .ok (.iload_n 2, 1) := by decide +kernel
theorem d68_149 : decode prog_11_method_44_code 149 = .ok (.dup2, 1) := by decide +kernel
theorem d68_150 : decode prog_11_method_44_code 150 = .ok (.iaload, 1) := by decide +kernel
theorem d68_151 : decode prog_11_method_44_code 151 = .ok (.iconst 1, 1) := by decide +kernel
theorem d68_152 : decode prog_11_method_44_code 152 = .ok (.iadd, 1) := by decide +kernel
theorem d68_153 : decode prog_11_method_44_code 153 = .ok (.iastore, 1) := by decide +kernel
theorem d68_154 : decode prog_11_method_44_code 154 = .ok (.goto (-26), 3) := by decide +kernel
theorem d68_157 : decode prog_11_method_44_code 157 = .ok (.iinc 2 1, 3) := by decide +kernel
theorem d68_160 : decode prog_11_method_44_code 160 = .ok (.goto (-66), 3) := by decide +kernel
theorem d68_163 : decode prog_11_method_44_code 163 = .ok (.iload_n 1, 1) := by decide +kernel
theorem d68_164 : decode prog_11_method_44_code 164 = .ok (.iconst 1, 1) := by decide +kernel
theorem d68_165 : decode prog_11_method_44_code 165 = .ok (.if_icmp .ne 7, 3) := by decide +kernel
theorem d68_168 : decode prog_11_method_44_code 168 = .ok (.iconst 1, 1) := by decide +kernel
theorem d68_169 : decode prog_11_method_44_code 169 = .ok (.goto 4, 3) := by decide +kernel
theorem d68_172 : decode prog_11_method_44_code 172 = .ok (.iconst 0, 1) := by decide +kernel
theorem d68_173 : decode prog_11_method_44_code 173 = .ok (.ireturn, 1) := by decide +kernel
theorem d69_0 : decode prog_11_method_45_code 0 = .ok (.aload_n 0, 1) := by decide +kernel
theorem d69_1 : decode prog_11_method_45_code 1 = .ok (.iload_n 1, 1) := by decide +kernel
theorem d69_2 : decode prog_11_method_45_code 2 = .ok (.invokevirtual 116, 3) := by decide +kernel
theorem d69_5 : decode prog_11_method_45_code 5 = .ok (.ifCond .ne 5, 3) := by decide +kernel
theorem d69_8 : decode prog_11_method_45_code 8 = .ok (.iconst (-1), 1) := by decide +kernel
theorem d69_9 : decode prog_11_method_45_code 9 = .ok (.ireturn, 1) := by decide +kernel
theorem d69_10 : decode prog_11_method_45_code 10 = .ok (.aload_n 0, 1) := by decide +kernel
theorem d69_11 : decode prog_11_method_45_code 11 = .ok (.invokevirtual 148, 3) := by decide +kernel
theorem d69_14 : decode prog_11_method_45_code 14 = .ok (.aload_n 0, 1) := by decide +kernel
theorem d69_15 : decode prog_11_method_45_code 15 = .ok (.invokevirtual 205, 3) := by decide +kernel
theorem d69_18 : decode prog_11_method_45_code 18 = .ok (.ifCond .ne 6, 3) := by decide +kernel
theorem d69_21 : decode prog_11_method_45_code 21 = .ok (.bipush (-3), 2) := by decide +kernel
theorem d69_23 : decode prog_11_method_45_code 23 = .ok (.ireturn, 1) := by decide +kernel
theorem d69_24 : decode prog_11_method_45_code 24 = .ok (.iconst 0, 1) := by decide +kernel
theorem d69_25 : decode prog_11_method_45_code 25 = .ok (.istore_n 2, 1) := by decide +kernel
theorem d69_26 : decode prog_11_method_45_code 26 = .ok (.iload_n 2, 1) := by decide +kernel
theorem d69_27 : decode prog_11_method_45_code 27 = .ok (.aload_n 0, 1) := by decide +kernel
theorem d69_28 : decode prog_11_method_45_code 28 = .ok (.getfield 106, 3) := by decide +kernel
theorem d69_31 : decode prog_11_method_45_code 31 = .ok (.if_icmp .ge 25, 3) := by decide +kernel
theorem d69_34 : decode prog_11_method_45_code 34 = .ok (.aload_n 0, 1) := by decide +kernel
theorem d69_35 : decode prog_11_method_45_code 35 = .ok (.getfield 94, 3) := by decide +kernel
theorem d69_38 : decode prog_11_method_45_code 38 = .ok (.iload_n 2, 1) := by decide +kernel
theorem d69_39 : decode prog_11_method_45_code 39 = .ok (.iconst 1, 1) := by decide +kernel
theorem d69_40 : decode prog_11_method_45_code 40 = .ok (.iload_n 2, 1) := by decide +kernel
theorem d69_41 : decode prog_11_method_45_code 41 = .ok (.ishl, 1) := by decide +kernel
theorem d69_42 : decode prog_11_method_45_code 42 = .ok (.iastore, 1) := by decide +kernel
theorem d69_43 : decode prog_11_method_45_code 43 = .ok (.aload_n 0, 1) := by decide +kernel
theorem d69_44 : decode prog_11_method_45_code 44 = .ok (.getfield 97, 3) := by decide +kernel
theorem d69_47 : decode prog_11_method_45_code 47 = .ok (.iload_n 2, 1) := by decide +kernel
theorem d69_48 : decode prog_11_method_45_code 48 = .ok (.iconst 0, 1) := by decide +kernel
theorem d69_49 : decode prog_11_method_45_code 49 = .ok (.iastore, 1) := by decide +kernel
theorem d69_50 : decode prog_11_method_45_code 50 = .ok (.iinc 2 1, 3) := by decide +kernel
theorem d69_53 : decode prog_11_method_45_code 53 = .ok (.goto (-27), 3) := by decide +kernel
theorem d69_56 : decode prog_11_method_45_code 56 = .ok (.aload_n 0, 1) := by decide +kernel
theorem d69_57 : decode prog_11_method_45_code 57 = .ok (.getfield 106, 3) := by decide +kernel
theorem d69_60 : decode prog_11_method_45_code 60 = .ok (.iconst 1, 1) := by decide +kernel
theorem d69_61 : decode prog_11_method_45_code 61 = .ok (.isub, 1) := by decide +kernel
theorem d69_62 : decode prog_11_method_45_code 62 = .ok (.istore_n 2, 1) := by decide +kernel
theorem d69_63 : decode prog_11_method_45_code 63 = .ok (.iload_n 2, 1) := by decide +kernel
theorem d69_64 : decode prog_11_method_45_code 64 = .ok (.ifCond .lt 40, 3) := by decide +kernel
theorem d69_67 : decode prog_11_method_45_code 67 = .ok (.iconst 0, 1) := by decide +kernel
theorem d69_68 : decode prog_11_method_45_code 68 = .ok (.istore_n 3, 1) := by decide +kernel
theorem d69_69 : decode prog_11_method_45_code 69 = .ok (.iload_n 3, 1) := by decide +kernel
theorem d69_70 : decode prog_11_method_45_code 70 = .ok (.aload_n 0, 1) := by decide +kernel
theorem d69_71 : decode prog_11_method_45_code 71 = .ok (.getfield 106, 3) := by decide +kernel
theorem d69_74 : decode prog_11_method_45_code 74 = .ok (.if_icmp .ge 24, 3) := by decide +kernel
theorem d69_77 : decode prog_11_method_45_code 77 = .ok (.aload_n 0, 1) := by decide +kernel
theorem d69_78 : decode prog_11_method_45_code 78 = .ok (.getfield 91, 3) := by decide +kernel
theorem d69_81 : decode prog_11_method_45_code 81 = .ok (.iload_n 3, 1) := by decide +kernel
theorem d69_82 : decode prog_11_method_45_code 82 = .ok (.iaload, 1) := by decide +kernel
theorem d69_83 : decode prog_11_method_45_code 83 = .ok (.iload_n 2, 1) := by decide +kernel
theorem d69_84 : decode prog_11_method_45_code 84 = .ok (.if_icmp .ne 8, 3) := by decide +kernel
theorem d69_87 : decode prog_11_method_45_code 87 = .ok (.aload_n 0, 1) := by decide +kernel
theorem d69_88 : decode prog_11_method_45_code 88 = .ok (.iload_n 3, 1) := by decide +kernel
theorem d69_89 : decode prog_11_method_45_code 89 = .ok (.invokevirtual 209, 3) := by decide +kernel
theorem d69_92 : decode prog_11_method_45_code 92 = .ok (.iinc 3 1, 3) := by decide +kernel
theorem d69_95 : decode prog_11_method_45_code 95 = .ok (.goto (-26), 3) := by decide +kernel
theorem d69_98 : decode prog_11_method_45_code 98 = .ok (.iinc 2 (-1), 3) := by decide +kernel
theorem d69_101 : decode prog_11_method_45_code 101 = .ok (.goto (-38), 3) := by decide +kernel
theorem d69_104 : decode prog_11_method_45_code 104 = .ok (.aload_n 0, 1) := by decide +kernel
theorem d69_105 : decode prog_11_method_45_code 105 = .ok (.getfield 97, 3) := by decide +kernel
theorem d69_108 : decode prog_11_method_45_code 108 = .ok (.iconst 0, 1) := by decide +kernel
theorem d69_109 : decode prog_11_method_45_code 109 = .ok (.iaload, 1) := by decide +kernel
theorem d69_110 : decode prog_11_method_45_code 110 = .ok (.istore_n 2, 1) := by decide +kernel
theorem d69_111 : decode prog_11_method_45_code 111 = .ok (.iconst 0, 1) := by decide +kernel
theorem d69_112 : decode prog_11_method_45_code 112 = .ok (.istore_n 3, 1) := by decide +kernel
theorem d69_113 : decode prog_11_method_45_code 113 = .ok (.iload_n 3, 1) := by decide +kernel
theorem d69_114 : decode prog_11_method_45_code 114 = .ok (.aload_n 0, 1) := by decide +kernel
theorem d69_115 : decode prog_11_method_45_code 115 = .ok (.getfield 106, 3) := by decide +kernel
theorem d69_118 : decode prog_11_method_45_code 118 = .ok (.if_icmp .ge 30, 3) := by decide +kernel
theorem d69_121 : decode prog_11_method_45_code 121 = .ok (.aload_n 0, 1) := by decide +kernel
theorem d69_122 : decode prog_11_method_45_code 122 = .ok (.getfield 97, 3) := by decide +kernel
theorem d69_125 : decode prog_11_method_45_code 125 = .ok (.iload_n 3, 1) := by decide +kernel
theorem d69_126 : decode prog_11_method_45_code 126 = .ok (.iaload, 1) := by decide +kernel
theorem d69_127 : decode prog_11_method_45_code 127 = .ok (.iload_n 2, 1) := by decide +kernel
theorem d69_128 : decode prog_11_method_45_code 128 = .ok (.if_icmp .ge 12, 3) := by decide +kernel
theorem d69_131 : decode prog_11_method_45_code 131 = .ok (.aload_n 0, 1) := by decide +kernel
theorem d69_132 : decode prog_11_method_45_code 132 = .ok (.getfield 97, 3) := by decide +kernel
theorem d69_135 : decode prog_11_method_45_code 135 = .ok (.iload_n 3, 1) := by decide +kernel
theorem d69_136 : decode prog_11_method_45_code 136 = .ok (.iaload, 1) := by decide +kernel
theorem d69_137 : decode prog_11_method_45_code 137 = .ok (.goto 4, 3) := by decide +kernel
theorem d69_140 : decode prog_11_method_45_code 140 = .ok (.iload_n 2, 1) := by decide +kernel
theorem d69_141 : decode prog_11_method_45_code 141 = .ok (.istore_n 2, 1) := by decide +kernel
theorem d69_142 : decode prog_11_method_45_code 142 = .ok (.iinc 3 1, 3) := by decide +kernel
theorem d69_145 : decode prog_11_method_45_code 145 = .ok (.goto (-32), 3) := by decide +kernel
theorem d69_148 : decode prog_11_method_45_code 148 = .ok (.aload_n 0, 1) := by decide +kernel
theorem d69_149 : decode prog_11_method_45_code 149 = .ok (.getfield 97, 3) := by decide +kernel
theorem d69_152 : decode prog_11_method_45_code 152 = .ok (.iload_n 1, 1) := by decide +kernel
theorem d69_153 : decode prog_11_method_45_code 153 = .ok (.iaload, 1) := by decide +kernel
theorem d69_154 : decode prog_11_method_45_code 154 = .ok (.iload_n 2, 1) := by decide +kernel
theorem d69_155 : decode prog_11_method_45_code 155 = .ok (.isub, 1) := by decide +kernel
theorem d69_156 : decode prog_11_method_45_code 156 = .ok (.ireturn, 1) := by decide +kernel
theorem d70_0 : decode prog_11_method_46_code 0 = .ok (.iconst (-1), 1) := by decide +kernel
theorem d70_1 : decode prog_11_method_46_code 1 = .ok (.istore_n 2, 1) := by decide +kernel
theorem d70_2 : decode prog_11_method_46_code 2 = .ok (.iconst (-1), 1) := by decide +kernel
theorem d70_3 : decode prog_11_method_46_code 3 = .ok (.istore_n 3, 1) := by decide +kernel
theorem d70_4 : decode prog_11_method_46_code 4 = .ok (.iconst 0, 1) := by decide +kernel
theorem d70_5 : decode prog_11_method_46_code 5 = .ok (.istore 4, 2) := by decide +kernel
theorem d70_7 : decode prog_11_method_46_code 7 = .ok (.iconst 0, 1) := by decide +kernel
theorem d70_8 : decode prog_11_method_46_code 8 = .ok (.istore 5, 2) := by decide +kernel
theorem d70_10 : decode prog_11_method_46_code 10 = .ok (.iload 5, 2) := by decide +kernel
theorem d70_12 : decode prog_11_method_46_code 12 = .ok (.aload_n 0, 1) := by decide +kernel
theorem d70_13 : decode prog_11_method_46_code 13 = .ok (.getfield 110, 3) := by decide +kernel
theorem d70_16 : decode prog_11_method_46_code 16 = .ok (.if_icmp .ge 92, 3) := by decide +kernel
theorem d70_19 : decode prog_11_method_46_code 19 = .ok (.aload_n 0, 1) := by decide +kernel
theorem d70_20 : decode prog_11_method_46_code 20 = .ok (.getfield 19, 3) := by decide +kernel
theorem d70_23 : decode prog_11_method_46_code 23 = .ok (.iload 5, 2) := by decide +kernel
theorem d70_25 : decode prog_11_method_46_code 25 = .ok (.baload, 1) := by decide +kernel
theorem d70_26 : decode prog_11_method_46_code 26 = .ok (.ifCond .eq 76, 3) := by decide +kernel
theorem d70_29 : decode prog_11_method_46_code 29 = .ok (.aload_n 0, 1) := by decide +kernel
theorem d70_30 : decode prog_11_method_46_code 30 = .ok (.getfield 13, 3) := by decide +kernel
theorem d70_33 : decode prog_11_method_46_code 33 = .ok (.iload 5, 2) := by decide +kernel
theorem d70_35 : decode prog_11_method_46_code 35 = .ok (.iaload, 1) := by decide +kernel
theorem d70_36 : decode prog_11_method_46_code 36 = .ok (.iload_n 1, 1) := by decide +kernel
theorem d70_37 : decode prog_11_method_46_code 37 = .ok (.if_icmp .eq 6, 3) := by decide +kernel
theorem d70_40 : decode prog_11_method_46_code 40 = .ok (.goto 62, 3) := by decide +kernel
theorem d70_43 : decode prog_11_method_46_code 43 = .ok (.aload_n 0, 1) := by decide +kernel
theorem d70_44 : decode prog_11_method_46_code 44 = .ok (.getfield 16, 3) := by decide +kernel
theorem d70_47 : decode prog_11_method_46_code 47 = .ok (.iload 5, 2) := by decide +kernel
theorem d70_49 : decode prog_11_method_46_code 49 = .ok (.iaload, 1) := by decide +kernel
theorem d70_50 : decode prog_11_method_46_code 50 = .ok (.istore 6, 2) := by decide +kernel
theorem d70_52 : decode prog_11_method_46_code 52 = .ok (.aload_n 0, 1) := by decide +kernel
theorem d70_53 : decode prog_11_method_46_code 53 = .ok (.aload_n 0, 1) := by decide +kernel
theorem d70_54 : decode prog_11_method_46_code 54 = .ok (.getfield 94, 3) := by decide +kernel
theorem d70_57 : decode prog_11_method_46_code 57 = .ok (.iload 6, 2) := by decide +kernel
theorem d70_59 : decode prog_11_method_46_code 59 = .ok (.iaload, 1) := by decide +kernel
theorem d70_60 : decode prog_11_method_46_code 60 = .ok (.aload_n 0, 1) := by decide +kernel
theorem d70_61 : decode prog_11_method_46_code 61 = .ok (.iload 4, 2) := by decide +kernel
theorem d70_63 : decode prog_11_method_46_code 63 = .ok (.aload_n 0, 1) := by decide +kernel
theorem d70_64 : decode prog_11_method_46_code 64 = .ok (.getfield 94, 3) := by decide +kernel
theorem d70_67 : decode prog_11_method_46_code 67 = .ok (.iload 6, 2) := by decide +kernel
theorem d70_69 : decode prog_11_method_46_code 69 = .ok (.iaload, 1) := by decide +kernel
theorem d70_70 : decode prog_11_method_46_code 70 = .ok (.invokevirtual 212, 3) := by decide +kernel
