theorem dX6_times_41 : decode cX6_times 41 = .ok (.ifCond .le 12, 3) := by decide +kernel
theorem dX6_times_44 : decode cX6_times 44 = .ok (.aload_n 0, 1) := by decide +kernel
theorem dX6_times_45 : decode cX6_times 45 = .ok (.aload_n 0, 1) := by decide +kernel
theorem dX6_times_46 : decode cX6_times 46 = .ok (.getfield 124, 3) := by decide +kernel
theorem dX6_times_49 : decode cX6_times 49 = .ok (.invokevirtual 102, 3) := by decide +kernel
theorem dX6_times_52 : decode cX6_times 52 = .ok (.ireturn, 1) := by decide +kernel
theorem dX6_times_53 : decode cX6_times 53 = .ok (.aload_n 0, 1) := by decide +kernel
theorem dX6_times_54 : decode cX6_times 54 = .ok (.iload_n 1, 1) := by decide +kernel
theorem dX6_times_55 : decode cX6_times 55 = .ok (.invokevirtual 285, 3) := by decide +kernel
theorem dX6_times_58 : decode cX6_times 58 = .ok (.aload_n 0, 1) := by decide +kernel
theorem dX6_times_59 : decode cX6_times 59 = .ok (.aload_n 0, 1) := by decide +kernel
theorem dX6_times_60 : decode cX6_times 60 = .ok (.iload_n 1, 1) := by decide +kernel
theorem dX6_times_61 : decode cX6_times 61 = .ok (.lload 4, 2) := by decide +kernel
theorem dX6_times_63 : decode cX6_times 63 = .ok (.lload_n 2, 1) := by decide +kernel
theorem dX6_times_64 : decode cX6_times 64 = .ok (.invokevirtual 300, 3) := by decide +kernel
theorem dX6_times_67 : decode cX6_times 67 = .ok (.invokevirtual 292, 3) := by decide +kernel
theorem dX6_times_70 : decode cX6_times 70 = .ok (.ireturn, 1) := by decide +kernel
theorem dX6_divided_0 : decode cX6_divided 0 = .ok (.aload_n 0, 1) := by decide +kernel
theorem dX6_divided_1 : decode cX6_divided 1 = .ok (.getfield 16, 3) := by decide +kernel
theorem dX6_divided_4 : decode cX6_divided 4 = .ok (.iload_n 1, 1) := by decide +kernel
theorem dX6_divided_5 : decode cX6_divided 5 = .ok (.iaload, 1) := by decide +kernel
theorem dX6_divided_6 : decode cX6_divided 6 = .ok (.istore 7, 2) := by decide +kernel
theorem dX6_divided_8 : decode cX6_divided 8 = .ok (.lload 5, 2) := by decide +kernel
theorem dX6_divided_10 : decode cX6_divided 10 = .ok (.iload 7, 2) := by decide +kernel
theorem dX6_divided_12 : decode cX6_divided 12 = .ok (.invokestatic 155, 3) := by decide +kernel
theorem dX6_divided_15 : decode cX6_divided 15 = .ok (.istore 8, 2) := by decide +kernel
theorem dX6_divided_17 : decode cX6_divided 17 = .ok (.lload 5, 2) := by decide +kernel
theorem dX6_divided_19 : decode cX6_divided 19 = .ok (.iload 7, 2) := by decide +kernel
theorem dX6_divided_21 : decode cX6_divided 21 = .ok (.iload 8, 2) := by decide +kernel
theorem dX6_divided_23 : decode cX6_divided 23 = .ok (.iconst 1, 1) := by decide +kernel
theorem dX6_divided_24 : decode cX6_divided 24 = .ok (.isub, 1) := by decide +kernel
theorem dX6_divided_25 : decode cX6_divided 25 = .ok (.invokestatic 266, 3) := by decide +kernel
theorem dX6_divided_28 : decode cX6_divided 28 = .ok (.istore 9, 2) := by decide +kernel
theorem dX6_divided_30 : decode cX6_divided 30 = .ok (.aload_n 0, 1) := by decide +kernel
theorem dX6_divided_31 : decode cX6_divided 31 = .ok (.iload_n 2, 1) := by decide +kernel
theorem dX6_divided_32 : decode cX6_divided 32 = .ok (.invokevirtual 279, 3) := by decide +kernel
theorem dX6_divided_35 : decode cX6_divided 35 = .ok (.istore 10, 2) := by decide +kernel
theorem dX6_divided_37 : decode cX6_divided 37 = .ok (.lload_n 3, 1) := by decide +kernel
theorem dX6_divided_38 : decode cX6_divided 38 = .ok (.iload 7, 2) := by decide +kernel
theorem dX6_divided_40 : decode cX6_divided 40 = .ok (.invokestatic 155, 3) := by decide +kernel
theorem dX6_divided_43 : decode cX6_divided 43 = .ok (.iload 8, 2) := by decide +kernel
theorem dX6_divided_45 : decode cX6_divided 45 = .ok (.isub, 1) := by decide +kernel
theorem dX6_divided_46 : decode cX6_divided 46 = .ok (.istore 11, 2) := by decide +kernel
theorem dX6_divided_48 : decode cX6_divided 48 = .ok (.iload 11, 2) := by decide +kernel
theorem dX6_divided_50 : decode cX6_divided 50 = .ok (.ifCond .lt 174, 3) := by decide +kernel
theorem dX6_divided_53 : decode cX6_divided 53 = .ok (.iload 10, 2) := by decide +kernel
theorem dX6_divided_55 : decode cX6_divided 55 = .ok (.ifCond .eq 169, 3) := by decide +kernel
theorem dX6_divided_58 : decode cX6_divided 58 = .ok (.aload_n 0, 1) := by decide +kernel
theorem dX6_divided_59 : decode cX6_divided 59 = .ok (.iload_n 1, 1) := by decide +kernel
theorem dX6_divided_60 : decode cX6_divided 60 = .ok (.invokevirtual 148, 3) := by decide +kernel
theorem dX6_divided_63 : decode cX6_divided 63 = .ok (.lstore 12, 2) := by decide +kernel
theorem dX6_divided_65 : decode cX6_divided 65 = .ok (.iload 7, 2) := by decide +kernel
theorem dX6_divided_67 : decode cX6_divided 67 = .ok (.iload 11, 2) := by decide +kernel
theorem dX6_divided_69 : decode cX6_divided 69 = .ok (.invokestatic 304, 3) := by decide +kernel
theorem dX6_divided_72 : decode cX6_divided 72 = .ok (.lstore 14, 2) := by decide +kernel
theorem dX6_divided_74 : decode cX6_divided 74 = .ok (.lload 12, 2) := by decide +kernel
theorem dX6_divided_76 : decode cX6_divided 76 = .ok (.iload 7, 2) := by decide +kernel
theorem dX6_divided_78 : decode cX6_divided 78 = .ok (.iload 11, 2) := by decide +kernel
theorem dX6_divided_80 : decode cX6_divided 80 = .ok (.iload 8, 2) := by decide +kernel
theorem dX6_divided_82 : decode cX6_divided 82 = .ok (.iadd, 1) := by decide +kernel
theorem dX6_divided_83 : decode cX6_divided 83 = .ok (.iconst 1, 1) := by decide +kernel
theorem dX6_divided_84 : decode cX6_divided 84 = .ok (.isub, 1) := by decide +kernel
theorem dX6_divided_85 : decode cX6_divided 85 = .ok (.invokestatic 304, 3) := by decide +kernel
theorem dX6_divided_88 : decode cX6_divided 88 = .ok (.ldiv, 1) := by decide +kernel
theorem dX6_divided_89 : decode cX6_divided 89 = .ok (.iload 9, 2) := by decide +kernel
theorem dX6_divided_91 : decode cX6_divided 91 = .ok (.i2l, 1) := by decide +kernel
theorem dX6_divided_92 : decode cX6_divided 92 = .ok (.ldiv, 1) := by decide +kernel
theorem dX6_divided_93 : decode cX6_divided 93 = .ok (.lstore 16, 2) := by decide +kernel
theorem dX6_divided_95 : decode cX6_divided 95 = .ok (.lload 16, 2) := by decide +kernel
theorem dX6_divided_97 : decode cX6_divided 97 = .ok (.iload 7, 2) := by decide +kernel
theorem dX6_divided_99 : decode cX6_divided 99 = .ok (.iconst 1, 1) := by decide +kernel
theorem dX6_divided_100 : decode cX6_divided 100 = .ok (.isub, 1) := by decide +kernel
theorem dX6_divided_101 : decode cX6_divided 101 = .ok (.i2l, 1) := by decide +kernel
theorem dX6_divided_102 : decode cX6_divided 102 = .ok (.lcmp, 1) := by decide +kernel
theorem dX6_divided_103 : decode cX6_divided 103 = .ok (.ifCond .le 11, 3) := by decide +kernel
theorem dX6_divided_106 : decode cX6_divided 106 = .ok (.iload 7, 2) := by decide +kernel
theorem dX6_divided_108 : decode cX6_divided 108 = .ok (.iconst 1, 1) := by decide +kernel
theorem dX6_divided_109 : decode cX6_divided 109 = .ok (.isub, 1) := by decide +kernel
theorem dX6_divided_110 : decode cX6_divided 110 = .ok (.i2l, 1) := by decide +kernel
theorem dX6_divided_111 : decode cX6_divided 111 = .ok (.goto 5, 3) := by decide +kernel
theorem dX6_divided_114 : decode cX6_divided 114 = .ok (.lload 16, 2) := by decide +kernel
theorem dX6_divided_116 : decode cX6_divided 116 = .ok (.lstore 16, 2) := by decide +kernel
theorem dX6_divided_118 : decode cX6_divided 118 = .ok (.aload_n 0, 1) := by decide +kernel
theorem dX6_divided_119 : decode cX6_divided 119 = .ok (.iload_n 2, 1) := by decide +kernel
theorem dX6_divided_120 : decode cX6_divided 120 = .ok (.iload 11, 2) := by decide +kernel
theorem dX6_divided_122 : decode cX6_divided 122 = .ok (.lload 16, 2) := by decide +kernel
theorem dX6_divided_124 : decode cX6_divided 124 = .ok (.l2i, 1) := by decide +kernel
theorem dX6_divided_125 : decode cX6_divided 125 = .ok (.iconst 1, 1) := by decide +kernel
theorem dX6_divided_126 : decode cX6_divided 126 = .ok (.invokevirtual 262, 3) := by decide +kernel
theorem dX6_divided_129 : decode cX6_divided 129 = .ok (.istore 10, 2) := by decide +kernel
theorem dX6_divided_131 : decode cX6_divided 131 = .ok (.iload 10, 2) := by decide +kernel
theorem dX6_divided_133 : decode cX6_divided 133 = .ok (.ifCond .eq 37, 3) := by decide +kernel
theorem dX6_divided_136 : decode cX6_divided 136 = .ok (.lload 16, 2) := by decide +kernel
theorem dX6_divided_138 : decode cX6_divided 138 = .ok (.lload 5, 2) := by decide +kernel
theorem dX6_divided_140 : decode cX6_divided 140 = .ok (.lmul, 1) := by decide +kernel
theorem dX6_divided_141 : decode cX6_divided 141 = .ok (.lload 14, 2) := by decide +kernel
theorem dX6_divided_143 : decode cX6_divided 143 = .ok (.lmul, 1) := by decide +kernel
theorem dX6_divided_144 : decode cX6_divided 144 = .ok (.lload 12, 2) := by decide +kernel
theorem dX6_divided_146 : decode cX6_divided 146 = .ok (.lcmp, 1) := by decide +kernel
theorem dX6_divided_147 : decode cX6_divided 147 = .ok (.ifCond .le 23, 3) := by decide +kernel
theorem dX6_divided_150 : decode cX6_divided 150 = .ok (.aload_n 0, 1) := by decide +kernel
theorem dX6_divided_151 : decode cX6_divided 151 = .ok (.iload_n 2, 1) := by decide +kernel
theorem dX6_divided_152 : decode cX6_divided 152 = .ok (.iload 11, 2) := by decide +kernel
theorem dX6_divided_154 : decode cX6_divided 154 = .ok (.iconst 1, 1) := by decide +kernel
theorem dX6_divided_155 : decode cX6_divided 155 = .ok (.iconst (-1), 1) := by decide +kernel
theorem dX6_divided_156 : decode cX6_divided 156 = .ok (.invokevirtual 262, 3) := by decide +kernel
theorem dX6_divided_159 : decode cX6_divided 159 = .ok (.istore 10, 2) := by decide +kernel
theorem dX6_divided_161 : decode cX6_divided 161 = .ok (.lload 16, 2) := by decide +kernel
theorem dX6_divided_163 : decode cX6_divided 163 = .ok (.lconst 1, 1) := by decide +kernel
theorem dX6_divided_164 : decode cX6_divided 164 = .ok (.lsub, 1) := by decide +kernel
theorem dX6_divided_165 : decode cX6_divided 165 = .ok (.lstore 16, 2) := by decide +kernel
theorem dX6_divided_167 : decode cX6_divided 167 = .ok (.goto (-36), 3) := by decide +kernel
theorem dX6_divided_170 : decode cX6_divided 170 = .ok (.iload 8, 2) := by decide +kernel
theorem dX6_divided_172 : decode cX6_divided 172 = .ok (.iconst 1, 1) := by decide +kernel
theorem dX6_divided_173 : decode cX6_divided 173 = .ok (.isub, 1) := by decide +kernel
theorem dX6_divided_174 : decode cX6_divided 174 = .ok (.istore 18, 2) := by decide +kernel
theorem dX6_divided_176 : decode cX6_divided 176 = .ok (.iload 18, 2) := by decide +kernel
theorem dX6_divided_178 : decode cX6_divided 178 = .ok (.ifCond .lt 40, 3) := by decide +kernel
theorem dX6_divided_181 : decode cX6_divided 181 = .ok (.iload 10, 2) := by decide +kernel
theorem dX6_divided_183 : decode cX6_divided 183 = .ok (.ifCond .eq 35, 3) := by decide +kernel
theorem dX6_divided_186 : decode cX6_divided 186 = .ok (.aload_n 0, 1) := by decide +kernel
theorem dX6_divided_187 : decode cX6_divided 187 = .ok (.iload_n 1, 1) := by decide +kernel
theorem dX6_divided_188 : decode cX6_divided 188 = .ok (.iload 11, 2) := by decide +kernel
theorem dX6_divided_190 : decode cX6_divided 190 = .ok (.iload 18, 2) := by decide +kernel
theorem dX6_divided_192 : decode cX6_divided 192 = .ok (.iadd, 1) := by decide +kernel
theorem dX6_divided_193 : decode cX6_divided 193 = .ok (.lload 16, 2) := by decide +kernel
theorem dX6_divided_195 : decode cX6_divided 195 = .ok (.l2i, 1) := by decide +kernel
theorem dX6_divided_196 : decode cX6_divided 196 = .ok (.lload 5, 2) := by decide +kernel
theorem dX6_divided_198 : decode cX6_divided 198 = .ok (.iload 7, 2) := by decide +kernel
theorem dX6_divided_200 : decode cX6_divided 200 = .ok (.iload 18, 2) := by decide +kernel
theorem dX6_divided_202 : decode cX6_divided 202 = .ok (.invokestatic 266, 3) := by decide +kernel
theorem dX6_divided_205 : decode cX6_divided 205 = .ok (.imul, 1) := by decide +kernel
theorem dX6_divided_206 : decode cX6_divided 206 = .ok (.iconst (-1), 1) := by decide +kernel
theorem dX6_divided_207 : decode cX6_divided 207 = .ok (.invokevirtual 282, 3) := by decide +kernel
theorem dX6_divided_210 : decode cX6_divided 210 = .ok (.istore 10, 2) := by decide +kernel
theorem dX6_divided_212 : decode cX6_divided 212 = .ok (.iinc 18 (-1), 3) := by decide +kernel
theorem dX6_divided_215 : decode cX6_divided 215 = .ok (.goto (-39), 3) := by decide +kernel
theorem dX6_divided_218 : decode cX6_divided 218 = .ok (.iinc 11 (-1), 3) := by decide +kernel
theorem dX6_divided_221 : decode cX6_divided 221 = .ok (.goto (-173), 3) := by decide +kernel
theorem dX6_divided_224 : decode cX6_divided 224 = .ok (.iload 10, 2) := by decide +kernel
theorem dX6_divided_226 : decode cX6_divided 226 = .ok (.ireturn, 1) := by decide +kernel
theorem dX6_divide_0 : decode cX6_divide 0 = .ok (.aload_n 0, 1) := by decide +kernel
theorem dX6_divide_1 : decode cX6_divide 1 = .ok (.iload_n 1, 1) := by decide +kernel
theorem dX6_divide_2 : decode cX6_divide 2 = .ok (.invokevirtual 129, 3) := by decide +kernel
theorem dX6_divide_5 : decode cX6_divide 5 = .ok (.ifCond .eq 11, 3) := by decide +kernel
theorem dX6_divide_8 : decode cX6_divide 8 = .ok (.aload_n 0, 1) := by decide +kernel
theorem dX6_divide_9 : decode cX6_divide 9 = .ok (.iload_n 2, 1) := by decide +kernel
theorem dX6_divide_10 : decode cX6_divide 10 = .ok (.invokevirtual 129, 3) := by decide +kernel
theorem dX6_divide_13 : decode cX6_divide 13 = .ok (.ifCond .ne 5, 3) := by decide +kernel
theorem dX6_divide_16 : decode cX6_divide 16 = .ok (.iconst (-1), 1) := by decide +kernel
theorem dX6_divide_17 : decode cX6_divide 17 = .ok (.ireturn, 1) := by decide +kernel
theorem dX6_divide_18 : decode cX6_divide 18 = .ok (.lload_n 3, 1) := by decide +kernel
theorem dX6_divide_19 : decode cX6_divide 19 = .ok (.lconst 0, 1) := by decide +kernel
theorem dX6_divide_20 : decode cX6_divide 20 = .ok (.lcmp, 1) := by decide +kernel
theorem dX6_divide_21 : decode cX6_divide 21 = .ok (.ifCond .ge 6, 3) := by decide +kernel
theorem dX6_divide_24 : decode cX6_divide 24 = .ok (.bipush (-2), 2) := by decide +kernel
theorem dX6_divide_26 : decode cX6_divide 26 = .ok (.ireturn, 1) := by decide +kernel
theorem dX6_divide_27 : decode cX6_divide 27 = .ok (.aload_n 0, 1) := by decide +kernel
theorem dX6_divide_28 : decode cX6_divide 28 = .ok (.iload_n 1, 1) := by decide +kernel
theorem dX6_divide_29 : decode cX6_divide 29 = .ok (.iload_n 2, 1) := by decide +kernel
theorem dX6_divide_30 : decode cX6_divide 30 = .ok (.iconst 1, 1) := by decide +kernel
theorem dX6_divide_31 : decode cX6_divide 31 = .ok (.invokevirtual 308, 3) := by decide +kernel
theorem dX6_divide_34 : decode cX6_divide 34 = .ok (.ifCond .ge 6, 3) := by decide +kernel
theorem dX6_divide_37 : decode cX6_divide 37 = .ok (.bipush (-3), 2) := by decide +kernel
theorem dX6_divide_39 : decode cX6_divide 39 = .ok (.ireturn, 1) := by decide +kernel
theorem dX6_divide_40 : decode cX6_divide 40 = .ok (.aload_n 0, 1) := by decide +kernel
theorem dX6_divide_41 : decode cX6_divide 41 = .ok (.iload_n 1, 1) := by decide +kernel
theorem dX6_divide_42 : decode cX6_divide 42 = .ok (.invokevirtual 148, 3) := by decide +kernel
theorem dX6_divide_45 : decode cX6_divide 45 = .ok (.lstore 5, 2) := by decide +kernel
theorem dX6_divide_47 : decode cX6_divide 47 = .ok (.aload_n 0, 1) := by decide +kernel
theorem dX6_divide_48 : decode cX6_divide 48 = .ok (.getfield 124, 3) := by decide +kernel
theorem dX6_divide_51 : decode cX6_divide 51 = .ok (.ifCond .le 12, 3) := by decide +kernel
theorem dX6_divide_54 : decode cX6_divide 54 = .ok (.aload_n 0, 1) := by decide +kernel
theorem dX6_divide_55 : decode cX6_divide 55 = .ok (.aload_n 0, 1) := by decide +kernel
theorem dX6_divide_56 : decode cX6_divide 56 = .ok (.getfield 124, 3) := by decide +kernel
theorem dX6_divide_59 : decode cX6_divide 59 = .ok (.invokevirtual 102, 3) := by decide +kernel
theorem dX6_divide_62 : decode cX6_divide 62 = .ok (.ireturn, 1) := by decide +kernel
theorem dX6_divide_63 : decode cX6_divide 63 = .ok (.lload_n 3, 1) := by decide +kernel
theorem dX6_divide_64 : decode cX6_divide 64 = .ok (.lconst 0, 1) := by decide +kernel
theorem dX6_divide_65 : decode cX6_divide 65 = .ok (.lcmp, 1) := by decide +kernel
theorem dX6_divide_66 : decode cX6_divide 66 = .ok (.ifCond .ne 9, 3) := by decide +kernel
theorem dX6_divide_69 : decode cX6_divide 69 = .ok (.aload_n 0, 1) := by decide +kernel
theorem dX6_divide_70 : decode cX6_divide 70 = .ok (.iconst 5, 1) := by decide +kernel
theorem dX6_divide_71 : decode cX6_divide 71 = .ok (.invokevirtual 102, 3) := by decide +kernel
theorem dX6_divide_74 : decode cX6_divide 74 = .ok (.ireturn, 1) := by decide +kernel
theorem dX6_divide_75 : decode cX6_divide 75 = .ok (.aload_n 0, 1) := by decide +kernel
theorem dX6_divide_76 : decode cX6_divide 76 = .ok (.iload_n 1, 1) := by decide +kernel
theorem dX6_divide_77 : decode cX6_divide 77 = .ok (.invokevirtual 285, 3) := by decide +kernel
theorem dX6_divide_80 : decode cX6_divide 80 = .ok (.aload_n 0, 1) := by decide +kernel
theorem dX6_divide_81 : decode cX6_divide 81 = .ok (.aload_n 0, 1) := by decide +kernel
theorem dX6_divide_82 : decode cX6_divide 82 = .ok (.iload_n 1, 1) := by decide +kernel
theorem dX6_divide_83 : decode cX6_divide 83 = .ok (.iload_n 2, 1) := by decide +kernel
theorem dX6_divide_84 : decode cX6_divide 84 = .ok (.lload 5, 2) := by decide +kernel
theorem dX6_divide_86 : decode cX6_divide 86 = .ok (.lload_n 3, 1) := by decide +kernel
theorem dX6_divide_87 : decode cX6_divide 87 = .ok (.invokevirtual 312, 3) := by decide +kernel
theorem dX6_divide_90 : decode cX6_divide 90 = .ok (.invokevirtual 292, 3) := by decide +kernel
theorem dX6_divide_93 : decode cX6_divide 93 = .ok (.ireturn, 1) := by decide +kernel
theorem dX6_wanted_0 : decode cX6_wanted 0 = .ok (.iload 4, 2) := by decide +kernel
theorem dX6_wanted_2 : decode cX6_wanted 2 = .ok (.ifCond .eq 40, 3) := by decide +kernel
theorem dX6_wanted_5 : decode cX6_wanted 5 = .ok (.ldc2_w 127, 3) := by decide +kernel
theorem dX6_wanted_8 : decode cX6_wanted 8 = .ok (.iload_n 0, 1) := by decide +kernel
theorem dX6_wanted_9 : decode cX6_wanted 9 = .ok (.i2l, 1) := by decide +kernel
theorem dX6_wanted_10 : decode cX6_wanted 10 = .ok (.lmul, 1) := by decide +kernel
theorem dX6_wanted_11 : decode cX6_wanted 11 = .ok (.iload_n 0, 1) := by decide +kernel
theorem dX6_wanted_12 : decode cX6_wanted 12 = .ok (.i2l, 1) := by decide +kernel
theorem dX6_wanted_13 : decode cX6_wanted 13 = .ok (.lmul, 1) := by decide +kernel
theorem dX6_wanted_14 : decode cX6_wanted 14 = .ok (.lload_n 1, 1) := by decide +kernel
theorem dX6_wanted_15 : decode cX6_wanted 15 = .ok (.lmul, 1) := by decide +kernel
theorem dX6_wanted_16 : decode cX6_wanted 16 = .ok (.lload_n 1, 1) := by decide +kernel
theorem dX6_wanted_17 : decode cX6_wanted 17 = .ok (.lmul, 1) := by decide +kernel
theorem dX6_wanted_18 : decode cX6_wanted 18 = .ok (.ldc2_w 127, 3) := by decide +kernel
theorem dX6_wanted_21 : decode cX6_wanted 21 = .ok (.iload_n 0, 1) := by decide +kernel
theorem dX6_wanted_22 : decode cX6_wanted 22 = .ok (.i2l, 1) := by decide +kernel
theorem dX6_wanted_23 : decode cX6_wanted 23 = .ok (.lmul, 1) := by decide +kernel
theorem dX6_wanted_24 : decode cX6_wanted 24 = .ok (.lload_n 1, 1) := by decide +kernel
theorem dX6_wanted_25 : decode cX6_wanted 25 = .ok (.lmul, 1) := by decide +kernel
theorem dX6_wanted_26 : decode cX6_wanted 26 = .ok (.iload_n 3, 1) := by decide +kernel
theorem dX6_wanted_27 : decode cX6_wanted 27 = .ok (.i2l, 1) := by decide +kernel
theorem dX6_wanted_28 : decode cX6_wanted 28 = .ok (.lmul, 1) := by decide +kernel
theorem dX6_wanted_29 : decode cX6_wanted 29 = .ok (.ladd, 1) := by decide +kernel
theorem dX6_wanted_30 : decode cX6_wanted 30 = .ok (.iload_n 3, 1) := by decide +kernel
theorem dX6_wanted_31 : decode cX6_wanted 31 = .ok (.i2l, 1) := by decide +kernel
theorem dX6_wanted_32 : decode cX6_wanted 32 = .ok (.iload_n 3, 1) := by decide +kernel
theorem dX6_wanted_33 : decode cX6_wanted 33 = .ok (.i2l, 1) := by decide +kernel
theorem dX6_wanted_34 : decode cX6_wanted 34 = .ok (.lmul, 1) := by decide +kernel
theorem dX6_wanted_35 : decode cX6_wanted 35 = .ok (.ladd, 1) := by decide +kernel
theorem dX6_wanted_36 : decode cX6_wanted 36 = .ok (.iload_n 3, 1) := by decide +kernel
theorem dX6_wanted_37 : decode cX6_wanted 37 = .ok (.i2l, 1) := by decide +kernel
theorem dX6_wanted_38 : decode cX6_wanted 38 = .ok (.lmul, 1) := by decide +kernel
theorem dX6_wanted_39 : decode cX6_wanted 39 = .ok (.goto 17, 3) := by decide +kernel
theorem dX6_wanted_42 : decode cX6_wanted 42 = .ok (.ldc2_w 135, 3) := by decide +kernel
theorem dX6_wanted_45 : decode cX6_wanted 45 = .ok (.iload_n 0, 1) := by decide +kernel
theorem dX6_wanted_46 : decode cX6_wanted 46 = .ok (.i2l, 1) := by decide +kernel
theorem dX6_wanted_47 : decode cX6_wanted 47 = .ok (.lmul, 1) := by decide +kernel
theorem dX6_wanted_48 : decode cX6_wanted 48 = .ok (.lload_n 1, 1) := by decide +kernel
theorem dX6_wanted_49 : decode cX6_wanted 49 = .ok (.lmul, 1) := by decide +kernel
theorem dX6_wanted_50 : decode cX6_wanted 50 = .ok (.iload_n 3, 1) := by decide +kernel
theorem dX6_wanted_51 : decode cX6_wanted 51 = .ok (.i2l, 1) := by decide +kernel
theorem dX6_wanted_52 : decode cX6_wanted 52 = .ok (.ladd, 1) := by decide +kernel
theorem dX6_wanted_53 : decode cX6_wanted 53 = .ok (.iload_n 3, 1) := by decide +kernel
theorem dX6_wanted_54 : decode cX6_wanted 54 = .ok (.i2l, 1) := by decide +kernel
theorem dX6_wanted_55 : decode cX6_wanted 55 = .ok (.lmul, 1) := by decide +kernel
theorem dX6_wanted_56 : decode cX6_wanted 56 = .ok (.lreturn, 1) := by decide +kernel
theorem dX6_rooted_0 : decode cX6_rooted 0 = .ok (.aload_n 0, 1) := by decide +kernel
theorem dX6_rooted_1 : decode cX6_rooted 1 = .ok (.getfield 16, 3) := by decide +kernel
theorem dX6_rooted_4 : decode cX6_rooted 4 = .ok (.iload_n 1, 1) := by decide +kernel
theorem dX6_rooted_5 : decode cX6_rooted 5 = .ok (.iaload, 1) := by decide +kernel
theorem dX6_rooted_6 : decode cX6_rooted 6 = .ok (.istore 6, 2) := by decide +kernel
theorem dX6_rooted_8 : decode cX6_rooted 8 = .ok (.iload 5, 2) := by decide +kernel
theorem dX6_rooted_10 : decode cX6_rooted 10 = .ok (.ifCond .eq 7, 3) := by decide +kernel
theorem dX6_rooted_13 : decode cX6_rooted 13 = .ok (.iconst 3, 1) := by decide +kernel
theorem dX6_rooted_14 : decode cX6_rooted 14 = .ok (.goto 4, 3) := by decide +kernel
theorem dX6_rooted_17 : decode cX6_rooted 17 = .ok (.iconst 2, 1) := by decide +kernel
theorem dX6_rooted_18 : decode cX6_rooted 18 = .ok (.istore 7, 2) := by decide +kernel
theorem dX6_rooted_20 : decode cX6_rooted 20 = .ok (.aload_n 0, 1) := by decide +kernel
theorem dX6_rooted_21 : decode cX6_rooted 21 = .ok (.iload_n 2, 1) := by decide +kernel
theorem dX6_rooted_22 : decode cX6_rooted 22 = .ok (.invokevirtual 279, 3) := by decide +kernel
theorem dX6_rooted_25 : decode cX6_rooted 25 = .ok (.istore 8, 2) := by decide +kernel
theorem dX6_rooted_27 : decode cX6_rooted 27 = .ok (.lconst 0, 1) := by decide +kernel
theorem dX6_rooted_28 : decode cX6_rooted 28 = .ok (.lstore 9, 2) := by decide +kernel
theorem dX6_rooted_30 : decode cX6_rooted 30 = .ok (.lload_n 3, 1) := by decide +kernel
theorem dX6_rooted_31 : decode cX6_rooted 31 = .ok (.iload 6, 2) := by decide +kernel
theorem dX6_rooted_33 : decode cX6_rooted 33 = .ok (.invokestatic 155, 3) := by decide +kernel
theorem dX6_rooted_36 : decode cX6_rooted 36 = .ok (.iload 7, 2) := by decide +kernel
theorem dX6_rooted_38 : decode cX6_rooted 38 = .ok (.iadd, 1) := by decide +kernel
theorem dX6_rooted_39 : decode cX6_rooted 39 = .ok (.iconst 1, 1) := by decide +kernel
theorem dX6_rooted_40 : decode cX6_rooted 40 = .ok (.isub, 1) := by decide +kernel
theorem dX6_rooted_41 : decode cX6_rooted 41 = .ok (.iload 7, 2) := by decide +kernel
theorem dX6_rooted_43 : decode cX6_rooted 43 = .ok (.idiv, 1) := by decide +kernel
theorem dX6_rooted_44 : decode cX6_rooted 44 = .ok (.iconst 1, 1) := by decide +kernel
theorem dX6_rooted_45 : decode cX6_rooted 45 = .ok (.isub, 1) := by decide +kernel
theorem dX6_rooted_46 : decode cX6_rooted 46 = .ok (.istore 11, 2) := by decide +kernel
theorem dX6_rooted_48 : decode cX6_rooted 48 = .ok (.iload 11, 2) := by decide +kernel
theorem dX6_rooted_50 : decode cX6_rooted 50 = .ok (.ifCond .lt 122, 3) := by decide +kernel
theorem dX6_rooted_53 : decode cX6_rooted 53 = .ok (.iload 8, 2) := by decide +kernel
theorem dX6_rooted_55 : decode cX6_rooted 55 = .ok (.ifCond .eq 117, 3) := by decide +kernel
theorem dX6_rooted_58 : decode cX6_rooted 58 = .ok (.aload_n 0, 1) := by decide +kernel
theorem dX6_rooted_59 : decode cX6_rooted 59 = .ok (.iload_n 1, 1) := by decide +kernel
theorem dX6_rooted_60 : decode cX6_rooted 60 = .ok (.invokevirtual 148, 3) := by decide +kernel
theorem dX6_rooted_63 : decode cX6_rooted 63 = .ok (.lstore 12, 2) := by decide +kernel
theorem dX6_rooted_65 : decode cX6_rooted 65 = .ok (.iload 6, 2) := by decide +kernel
theorem dX6_rooted_67 : decode cX6_rooted 67 = .ok (.iload 7, 2) := by decide +kernel
theorem dX6_rooted_69 : decode cX6_rooted 69 = .ok (.iload 11, 2) := by decide +kernel
theorem dX6_rooted_71 : decode cX6_rooted 71 = .ok (.imul, 1) := by decide +kernel
theorem dX6_rooted_72 : decode cX6_rooted 72 = .ok (.invokestatic 304, 3) := by decide +kernel
theorem dX6_rooted_75 : decode cX6_rooted 75 = .ok (.lstore 14, 2) := by decide +kernel
theorem dX6_rooted_77 : decode cX6_rooted 77 = .ok (.iload 6, 2) := by decide +kernel
theorem dX6_rooted_79 : decode cX6_rooted 79 = .ok (.iconst 1, 1) := by decide +kernel
theorem dX6_rooted_80 : decode cX6_rooted 80 = .ok (.isub, 1) := by decide +kernel
theorem dX6_rooted_81 : decode cX6_rooted 81 = .ok (.istore 16, 2) := by decide +kernel
theorem dX6_rooted_83 : decode cX6_rooted 83 = .ok (.iload 6, 2) := by decide +kernel
theorem dX6_rooted_85 : decode cX6_rooted 85 = .ok (.lload 9, 2) := by decide +kernel
theorem dX6_rooted_87 : decode cX6_rooted 87 = .ok (.iload 16, 2) := by decide +kernel
theorem dX6_rooted_89 : decode cX6_rooted 89 = .ok (.iload 5, 2) := by decide +kernel
theorem dX6_rooted_91 : decode cX6_rooted 91 = .ok (.invokestatic 316, 3) := by decide +kernel
theorem dX6_rooted_94 : decode cX6_rooted 94 = .ok (.lload 14, 2) := by decide +kernel
theorem dX6_rooted_96 : decode cX6_rooted 96 = .ok (.lmul, 1) := by decide +kernel
theorem dX6_rooted_97 : decode cX6_rooted 97 = .ok (.lload 12, 2) := by decide +kernel
theorem dX6_rooted_99 : decode cX6_rooted 99 = .ok (.lcmp, 1) := by decide +kernel
theorem dX6_rooted_100 : decode cX6_rooted 100 = .ok (.ifCond .le 9, 3) := by decide +kernel
theorem dX6_rooted_103 : decode cX6_rooted 103 = .ok (.iinc 16 (-1), 3) := by decide +kernel
theorem dX6_rooted_106 : decode cX6_rooted 106 = .ok (.goto (-23), 3) := by decide +kernel
theorem dX6_rooted_109 : decode cX6_rooted 109 = .ok (.aload_n 0, 1) := by decide +kernel
theorem dX6_rooted_110 : decode cX6_rooted 110 = .ok (.iload_n 2, 1) := by decide +kernel
theorem dX6_rooted_111 : decode cX6_rooted 111 = .ok (.iload 11, 2) := by decide +kernel
theorem dX6_rooted_113 : decode cX6_rooted 113 = .ok (.iload 16, 2) := by decide +kernel
theorem dX6_rooted_115 : decode cX6_rooted 115 = .ok (.iconst 1, 1) := by decide +kernel
theorem dX6_rooted_116 : decode cX6_rooted 116 = .ok (.invokevirtual 262, 3) := by decide +kernel
theorem dX6_rooted_119 : decode cX6_rooted 119 = .ok (.ifCond .eq 32, 3) := by decide +kernel
theorem dX6_rooted_122 : decode cX6_rooted 122 = .ok (.aload_n 0, 1) := by decide +kernel
theorem dX6_rooted_123 : decode cX6_rooted 123 = .ok (.iload_n 1, 1) := by decide +kernel
theorem dX6_rooted_124 : decode cX6_rooted 124 = .ok (.iload 7, 2) := by decide +kernel
theorem dX6_rooted_126 : decode cX6_rooted 126 = .ok (.iload 11, 2) := by decide +kernel
theorem dX6_rooted_128 : decode cX6_rooted 128 = .ok (.imul, 1) := by decide +kernel
theorem dX6_rooted_129 : decode cX6_rooted 129 = .ok (.iload 6, 2) := by decide +kernel
theorem dX6_rooted_131 : decode cX6_rooted 131 = .ok (.lload 9, 2) := by decide +kernel
theorem dX6_rooted_133 : decode cX6_rooted 133 = .ok (.iload 16, 2) := by decide +kernel
theorem dX6_rooted_135 : decode cX6_rooted 135 = .ok (.iload 5, 2) := by decide +kernel
theorem dX6_rooted_137 : decode cX6_rooted 137 = .ok (.invokestatic 316, 3) := by decide +kernel
theorem dX6_rooted_140 : decode cX6_rooted 140 = .ok (.iconst (-1), 1) := by decide +kernel
theorem dX6_rooted_141 : decode cX6_rooted 141 = .ok (.invokevirtual 288, 3) := by decide +kernel
theorem dX6_rooted_144 : decode cX6_rooted 144 = .ok (.ifCond .eq 7, 3) := by decide +kernel
theorem dX6_rooted_147 : decode cX6_rooted 147 = .ok (.iconst 1, 1) := by decide +kernel
theorem dX6_rooted_148 : decode cX6_rooted 148 = .ok (.goto 4, 3) := by decide +kernel
theorem dX6_rooted_151 : decode cX6_rooted 151 = .ok (.iconst 0, 1) := by decide +kernel
theorem dX6_rooted_152 : decode cX6_rooted 152 = .ok (.istore 8, 2) := by decide +kernel
theorem dX6_rooted_154 : decode cX6_rooted 154 = .ok (.iload 6, 2) := by decide +kernel
theorem dX6_rooted_156 : decode cX6_rooted 156 = .ok (.i2l, 1) := by decide +kernel
theorem dX6_rooted_157 : decode cX6_rooted 157 = .ok (.lload 9, 2) := by decide +kernel
theorem dX6_rooted_159 : decode cX6_rooted 159 = .ok (.lmul, 1) := by decide +kernel
theorem dX6_rooted_160 : decode cX6_rooted 160 = .ok (.iload 16, 2) := by decide +kernel
theorem dX6_rooted_162 : decode cX6_rooted 162 = .ok (.i2l, 1) := by decide +kernel
theorem dX6_rooted_163 : decode cX6_rooted 163 = .ok (.ladd, 1) := by decide +kernel
theorem dX6_rooted_164 : decode cX6_rooted 164 = .ok (.lstore 9, 2) := by decide +kernel
theorem dX6_rooted_166 : decode cX6_rooted 166 = .ok (.iinc 11 (-1), 3) := by decide +kernel
theorem dX6_rooted_169 : decode cX6_rooted 169 = .ok (.goto (-121), 3) := by decide +kernel
theorem dX6_rooted_172 : decode cX6_rooted 172 = .ok (.iload 8, 2) := by decide +kernel
theorem dX6_rooted_174 : decode cX6_rooted 174 = .ok (.ireturn, 1) := by decide +kernel
theorem dX6_rootOf_0 : decode cX6_rootOf 0 = .ok (.aload_n 0, 1) := by decide +kernel
theorem dX6_rootOf_1 : decode cX6_rootOf 1 = .ok (.iload_n 1, 1) := by decide +kernel
theorem dX6_rootOf_2 : decode cX6_rootOf 2 = .ok (.invokevirtual 129, 3) := by decide +kernel
theorem dX6_rootOf_5 : decode cX6_rootOf 5 = .ok (.ifCond .eq 11, 3) := by decide +kernel
theorem dX6_rootOf_8 : decode cX6_rootOf 8 = .ok (.aload_n 0, 1) := by decide +kernel
theorem dX6_rootOf_9 : decode cX6_rootOf 9 = .ok (.iload_n 2, 1) := by decide +kernel
theorem dX6_rootOf_10 : decode cX6_rootOf 10 = .ok (.invokevirtual 129, 3) := by decide +kernel
theorem dX6_rootOf_13 : decode cX6_rootOf 13 = .ok (.ifCond .ne 5, 3) := by decide +kernel
theorem dX6_rootOf_16 : decode cX6_rootOf 16 = .ok (.iconst (-1), 1) := by decide +kernel
theorem dX6_rootOf_17 : decode cX6_rootOf 17 = .ok (.ireturn, 1) := by decide +kernel
theorem dX6_rootOf_18 : decode cX6_rootOf 18 = .ok (.aload_n 0, 1) := by decide +kernel
theorem dX6_rootOf_19 : decode cX6_rootOf 19 = .ok (.iload_n 1, 1) := by decide +kernel
theorem dX6_rootOf_20 : decode cX6_rootOf 20 = .ok (.iload_n 2, 1) := by decide +kernel
theorem dX6_rootOf_21 : decode cX6_rootOf 21 = .ok (.iconst 1, 1) := by decide +kernel
theorem dX6_rootOf_22 : decode cX6_rootOf 22 = .ok (.invokevirtual 308, 3) := by decide +kernel
theorem dX6_rootOf_25 : decode cX6_rootOf 25 = .ok (.ifCond .ge 6, 3) := by decide +kernel
theorem dX6_rootOf_28 : decode cX6_rootOf 28 = .ok (.bipush (-3), 2) := by decide +kernel
theorem dX6_rootOf_30 : decode cX6_rootOf 30 = .ok (.ireturn, 1) := by decide +kernel
theorem dX6_rootOf_31 : decode cX6_rootOf 31 = .ok (.aload_n 0, 1) := by decide +kernel
theorem dX6_rootOf_32 : decode cX6_rootOf 32 = .ok (.iload_n 1, 1) := by decide +kernel
theorem dX6_rootOf_33 : decode cX6_rootOf 33 = .ok (.invokevirtual 148, 3) := by decide +kernel
theorem dX6_rootOf_36 : decode cX6_rootOf 36 = .ok (.lstore 4, 2) := by decide +kernel
theorem dX6_rootOf_38 : decode cX6_rootOf 38 = .ok (.aload_n 0, 1) := by decide +kernel
theorem dX6_rootOf_39 : decode cX6_rootOf 39 = .ok (.getfield 124, 3) := by decide +kernel
theorem dX6_rootOf_42 : decode cX6_rootOf 42 = .ok (.ifCond .le 12, 3) := by decide +kernel
theorem dX6_rootOf_45 : decode cX6_rootOf 45 = .ok (.aload_n 0, 1) := by decide +kernel
theorem dX6_rootOf_46 : decode cX6_rootOf 46 = .ok (.aload_n 0, 1) := by decide +kernel
theorem dX6_rootOf_47 : decode cX6_rootOf 47 = .ok (.getfield 124, 3) := by decide +kernel
theorem dX6_rootOf_50 : decode cX6_rootOf 50 = .ok (.invokevirtual 102, 3) := by decide +kernel
theorem dX6_rootOf_53 : decode cX6_rootOf 53 = .ok (.ireturn, 1) := by decide +kernel
theorem dX6_rootOf_54 : decode cX6_rootOf 54 = .ok (.aload_n 0, 1) := by decide +kernel
theorem dX6_rootOf_55 : decode cX6_rootOf 55 = .ok (.iload_n 1, 1) := by decide +kernel
theorem dX6_rootOf_56 : decode cX6_rootOf 56 = .ok (.invokevirtual 285, 3) := by decide +kernel
theorem dX6_rootOf_59 : decode cX6_rootOf 59 = .ok (.aload_n 0, 1) := by decide +kernel
theorem dX6_rootOf_60 : decode cX6_rootOf 60 = .ok (.aload_n 0, 1) := by decide +kernel
theorem dX6_rootOf_61 : decode cX6_rootOf 61 = .ok (.iload_n 1, 1) := by decide +kernel
theorem dX6_rootOf_62 : decode cX6_rootOf 62 = .ok (.iload_n 2, 1) := by decide +kernel
theorem dX6_rootOf_63 : decode cX6_rootOf 63 = .ok (.lload 4, 2) := by decide +kernel
theorem dX6_rootOf_65 : decode cX6_rootOf 65 = .ok (.iload_n 3, 1) := by decide +kernel
theorem dX6_rootOf_66 : decode cX6_rootOf 66 = .ok (.invokevirtual 320, 3) := by decide +kernel
theorem dX6_rootOf_69 : decode cX6_rootOf 69 = .ok (.invokevirtual 292, 3) := by decide +kernel
theorem dX6_rootOf_72 : decode cX6_rootOf 72 = .ok (.ireturn, 1) := by decide +kernel
theorem dX6_root_0 : decode cX6_root 0 = .ok (.aload_n 0, 1) := by decide +kernel
theorem dX6_root_1 : decode cX6_root 1 = .ok (.iload_n 1, 1) := by decide +kernel
theorem dX6_root_2 : decode cX6_root 2 = .ok (.iload_n 2, 1) := by decide +kernel
theorem dX6_root_3 : decode cX6_root 3 = .ok (.iconst 0, 1) := by decide +kernel
theorem dX6_root_4 : decode cX6_root 4 = .ok (.invokevirtual 324, 3) := by decide +kernel
theorem dX6_root_7 : decode cX6_root 7 = .ok (.ireturn, 1) := by decide +kernel
theorem dX6_cube_0 : decode cX6_cube 0 = .ok (.aload_n 0, 1) := by decide +kernel
theorem dX6_cube_1 : decode cX6_cube 1 = .ok (.iload_n 1, 1) := by decide +kernel
theorem dX6_cube_2 : decode cX6_cube 2 = .ok (.iload_n 2, 1) := by decide +kernel
theorem dX6_cube_3 : decode cX6_cube 3 = .ok (.iconst 1, 1) := by decide +kernel
theorem dX6_cube_4 : decode cX6_cube 4 = .ok (.invokevirtual 324, 3) := by decide +kernel
theorem dX6_cube_7 : decode cX6_cube 7 = .ok (.ireturn, 1) := by decide +kernel
theorem dX6_turn_0 : decode cX6_turn 0 = .ok (.aload_n 0, 1) := by decide +kernel
theorem dX6_turn_1 : decode cX6_turn 1 = .ok (.iload_n 1, 1) := by decide +kernel
theorem dX6_turn_2 : decode cX6_turn 2 = .ok (.invokevirtual 129, 3) := by decide +kernel
theorem dX6_turn_5 : decode cX6_turn 5 = .ok (.ifCond .eq 11, 3) := by decide +kernel
theorem dX6_turn_8 : decode cX6_turn 8 = .ok (.aload_n 0, 1) := by decide +kernel
theorem dX6_turn_9 : decode cX6_turn 9 = .ok (.iload_n 2, 1) := by decide +kernel
theorem dX6_turn_10 : decode cX6_turn 10 = .ok (.invokevirtual 129, 3) := by decide +kernel
theorem dX6_turn_13 : decode cX6_turn 13 = .ok (.ifCond .ne 5, 3) := by decide +kernel
theorem dX6_turn_16 : decode cX6_turn 16 = .ok (.iconst (-1), 1) := by decide +kernel
theorem dX6_turn_17 : decode cX6_turn 17 = .ok (.ireturn, 1) := by decide +kernel
theorem dX6_turn_18 : decode cX6_turn 18 = .ok (.aload_n 0, 1) := by decide +kernel
theorem dX6_turn_19 : decode cX6_turn 19 = .ok (.iload_n 1, 1) := by decide +kernel
theorem dX6_turn_20 : decode cX6_turn 20 = .ok (.iload_n 2, 1) := by decide +kernel
theorem dX6_turn_21 : decode cX6_turn 21 = .ok (.iconst 0, 1) := by decide +kernel
theorem dX6_turn_22 : decode cX6_turn 22 = .ok (.invokevirtual 308, 3) := by decide +kernel
theorem dX6_turn_25 : decode cX6_turn 25 = .ok (.ifCond .ge 6, 3) := by decide +kernel
theorem dX6_turn_28 : decode cX6_turn 28 = .ok (.bipush (-3), 2) := by decide +kernel
theorem dX6_turn_30 : decode cX6_turn 30 = .ok (.ireturn, 1) := by decide +kernel
theorem dX6_turn_31 : decode cX6_turn 31 = .ok (.aload_n 0, 1) := by decide +kernel
theorem dX6_turn_32 : decode cX6_turn 32 = .ok (.iload_n 1, 1) := by decide +kernel
theorem dX6_turn_33 : decode cX6_turn 33 = .ok (.invokevirtual 148, 3) := by decide +kernel
theorem dX6_turn_36 : decode cX6_turn 36 = .ok (.lstore_n 3, 1) := by decide +kernel
theorem dX6_turn_37 : decode cX6_turn 37 = .ok (.aload_n 0, 1) := by decide +kernel
theorem dX6_turn_38 : decode cX6_turn 38 = .ok (.getfield 124, 3) := by decide +kernel
theorem dX6_turn_41 : decode cX6_turn 41 = .ok (.ifCond .le 12, 3) := by decide +kernel
theorem dX6_turn_44 : decode cX6_turn 44 = .ok (.aload_n 0, 1) := by decide +kernel
theorem dX6_turn_45 : decode cX6_turn 45 = .ok (.aload_n 0, 1) := by decide +kernel
theorem dX6_turn_46 : decode cX6_turn 46 = .ok (.getfield 124, 3) := by decide +kernel
theorem dX6_turn_49 : decode cX6_turn 49 = .ok (.invokevirtual 102, 3) := by decide +kernel
theorem dX6_turn_52 : decode cX6_turn 52 = .ok (.ireturn, 1) := by decide +kernel
theorem dX6_turn_53 : decode cX6_turn 53 = .ok (.aload_n 0, 1) := by decide +kernel
theorem dX6_turn_54 : decode cX6_turn 54 = .ok (.iload_n 1, 1) := by decide +kernel
theorem dX6_turn_55 : decode cX6_turn 55 = .ok (.invokevirtual 285, 3) := by decide +kernel
theorem dX6_turn_58 : decode cX6_turn 58 = .ok (.aload_n 0, 1) := by decide +kernel
theorem dX6_turn_59 : decode cX6_turn 59 = .ok (.iload_n 2, 1) := by decide +kernel
theorem dX6_turn_60 : decode cX6_turn 60 = .ok (.invokevirtual 279, 3) := by decide +kernel
theorem dX6_turn_63 : decode cX6_turn 63 = .ok (.istore 5, 2) := by decide +kernel
theorem dX6_turn_65 : decode cX6_turn 65 = .ok (.lload_n 3, 1) := by decide +kernel
theorem dX6_turn_66 : decode cX6_turn 66 = .ok (.aload_n 0, 1) := by decide +kernel
theorem dX6_turn_67 : decode cX6_turn 67 = .ok (.getfield 16, 3) := by decide +kernel
theorem dX6_turn_70 : decode cX6_turn 70 = .ok (.iload_n 1, 1) := by decide +kernel
theorem dX6_turn_71 : decode cX6_turn 71 = .ok (.iaload, 1) := by decide +kernel
theorem dX6_turn_72 : decode cX6_turn 72 = .ok (.invokestatic 155, 3) := by decide +kernel
theorem dX6_turn_75 : decode cX6_turn 75 = .ok (.iconst 1, 1) := by decide +kernel
theorem dX6_turn_76 : decode cX6_turn 76 = .ok (.isub, 1) := by decide +kernel
theorem dX6_turn_77 : decode cX6_turn 77 = .ok (.istore 6, 2) := by decide +kernel
theorem dX6_turn_79 : decode cX6_turn 79 = .ok (.iload 6, 2) := by decide +kernel
theorem dX6_turn_81 : decode cX6_turn 81 = .ok (.ifCond .lt 64, 3) := by decide +kernel
theorem dX6_turn_84 : decode cX6_turn 84 = .ok (.iload 5, 2) := by decide +kernel
theorem dX6_turn_86 : decode cX6_turn 86 = .ok (.ifCond .eq 59, 3) := by decide +kernel
theorem dX6_turn_89 : decode cX6_turn 89 = .ok (.aload_n 0, 1) := by decide +kernel
theorem dX6_turn_90 : decode cX6_turn 90 = .ok (.iload_n 2, 1) := by decide +kernel
theorem dX6_turn_91 : decode cX6_turn 91 = .ok (.aload_n 0, 1) := by decide +kernel
theorem dX6_turn_92 : decode cX6_turn 92 = .ok (.iload_n 2, 1) := by decide +kernel
theorem dX6_turn_93 : decode cX6_turn 93 = .ok (.invokevirtual 148, 3) := by decide +kernel
theorem dX6_turn_96 : decode cX6_turn 96 = .ok (.aload_n 0, 1) := by decide +kernel
theorem dX6_turn_97 : decode cX6_turn 97 = .ok (.getfield 16, 3) := by decide +kernel
theorem dX6_turn_100 : decode cX6_turn 100 = .ok (.iload_n 1, 1) := by decide +kernel
theorem dX6_turn_101 : decode cX6_turn 101 = .ok (.iaload, 1) := by decide +kernel
theorem dX6_turn_102 : decode cX6_turn 102 = .ok (.i2l, 1) := by decide +kernel
theorem dX6_turn_103 : decode cX6_turn 103 = .ok (.invokevirtual 300, 3) := by decide +kernel
theorem dX6_turn_106 : decode cX6_turn 106 = .ok (.ifCond .eq 30, 3) := by decide +kernel
theorem dX6_turn_109 : decode cX6_turn 109 = .ok (.aload_n 0, 1) := by decide +kernel
theorem dX6_turn_110 : decode cX6_turn 110 = .ok (.iload_n 2, 1) := by decide +kernel
theorem dX6_turn_111 : decode cX6_turn 111 = .ok (.iconst 0, 1) := by decide +kernel
theorem dX6_turn_112 : decode cX6_turn 112 = .ok (.lload_n 3, 1) := by decide +kernel
theorem dX6_turn_113 : decode cX6_turn 113 = .ok (.aload_n 0, 1) := by decide +kernel
theorem dX6_turn_114 : decode cX6_turn 114 = .ok (.getfield 16, 3) := by decide +kernel
theorem dX6_turn_117 : decode cX6_turn 117 = .ok (.iload_n 1, 1) := by decide +kernel
theorem dX6_turn_118 : decode cX6_turn 118 = .ok (.iaload, 1) := by decide +kernel
theorem dX6_turn_119 : decode cX6_turn 119 = .ok (.iload 6, 2) := by decide +kernel
theorem dX6_turn_121 : decode cX6_turn 121 = .ok (.invokestatic 266, 3) := by decide +kernel
theorem dX6_turn_124 : decode cX6_turn 124 = .ok (.i2l, 1) := by decide +kernel
theorem dX6_turn_125 : decode cX6_turn 125 = .ok (.iconst 1, 1) := by decide +kernel
theorem dX6_turn_126 : decode cX6_turn 126 = .ok (.invokevirtual 288, 3) := by decide +kernel
theorem dX6_turn_129 : decode cX6_turn 129 = .ok (.ifCond .eq 7, 3) := by decide +kernel
theorem dX6_turn_132 : decode cX6_turn 132 = .ok (.iconst 1, 1) := by decide +kernel
theorem dX6_turn_133 : decode cX6_turn 133 = .ok (.goto 4, 3) := by decide +kernel
theorem dX6_turn_136 : decode cX6_turn 136 = .ok (.iconst 0, 1) := by decide +kernel
theorem dX6_turn_137 : decode cX6_turn 137 = .ok (.istore 5, 2) := by decide +kernel
theorem dX6_turn_139 : decode cX6_turn 139 = .ok (.iinc 6 (-1), 3) := by decide +kernel
theorem dX6_turn_142 : decode cX6_turn 142 = .ok (.goto (-63), 3) := by decide +kernel
theorem dX6_turn_145 : decode cX6_turn 145 = .ok (.aload_n 0, 1) := by decide +kernel
theorem dX6_turn_146 : decode cX6_turn 146 = .ok (.iload 5, 2) := by decide +kernel
theorem dX6_turn_148 : decode cX6_turn 148 = .ok (.invokevirtual 292, 3) := by decide +kernel
theorem dX6_turn_151 : decode cX6_turn 151 = .ok (.ireturn, 1) := by decide +kernel
theorem dX6_part_0 : decode cX6_part 0 = .ok (.aload_n 0, 1) := by decide +kernel
theorem dX6_part_1 : decode cX6_part 1 = .ok (.getfield 270, 3) := by decide +kernel
theorem dX6_part_4 : decode cX6_part 4 = .ok (.ifCond .ne 9, 3) := by decide +kernel
theorem dX6_part_7 : decode cX6_part 7 = .ok (.aload_n 0, 1) := by decide +kernel
theorem dX6_part_8 : decode cX6_part 8 = .ok (.iconst 1, 1) := by decide +kernel
theorem dX6_part_9 : decode cX6_part 9 = .ok (.invokevirtual 152, 3) := by decide +kernel
theorem dX6_part_12 : decode cX6_part 12 = .ok (.lreturn, 1) := by decide +kernel
theorem dX6_part_13 : decode cX6_part 13 = .ok (.iload_n 1, 1) := by decide +kernel
theorem dX6_part_14 : decode cX6_part 14 = .ok (.i2l, 1) := by decide +kernel
theorem dX6_part_15 : decode cX6_part 15 = .ok (.lconst 0, 1) := by decide +kernel
theorem dX6_part_16 : decode cX6_part 16 = .ok (.aload_n 0, 1) := by decide +kernel
theorem dX6_part_17 : decode cX6_part 17 = .ok (.getfield 273, 3) := by decide +kernel
theorem dX6_part_20 : decode cX6_part 20 = .ok (.iconst 1, 1) := by decide +kernel
theorem dX6_part_21 : decode cX6_part 21 = .ok (.isub, 1) := by decide +kernel
theorem dX6_part_22 : decode cX6_part 22 = .ok (.i2l, 1) := by decide +kernel
theorem dX6_part_23 : decode cX6_part 23 = .ok (.invokestatic 92, 3) := by decide +kernel
theorem dX6_part_26 : decode cX6_part 26 = .ok (.ifCond .ne 9, 3) := by decide +kernel
theorem dX6_part_29 : decode cX6_part 29 = .ok (.aload_n 0, 1) := by decide +kernel
theorem dX6_part_30 : decode cX6_part 30 = .ok (.iconst 2, 1) := by decide +kernel
theorem dX6_part_31 : decode cX6_part 31 = .ok (.invokevirtual 152, 3) := by decide +kernel
theorem dX6_part_34 : decode cX6_part 34 = .ok (.lreturn, 1) := by decide +kernel
theorem dX6_part_35 : decode cX6_part 35 = .ok (.aload_n 0, 1) := by decide +kernel
theorem dX6_part_36 : decode cX6_part 36 = .ok (.getfield 57, 3) := by decide +kernel
theorem dX6_part_39 : decode cX6_part 39 = .ok (.iload_n 1, 1) := by decide +kernel
theorem dX6_part_40 : decode cX6_part 40 = .ok (.baload, 1) := by decide +kernel
theorem dX6_part_41 : decode cX6_part 41 = .ok (.ifCond .ne 9, 3) := by decide +kernel
theorem dX6_part_44 : decode cX6_part 44 = .ok (.aload_n 0, 1) := by decide +kernel
theorem dX6_part_45 : decode cX6_part 45 = .ok (.iconst 1, 1) := by decide +kernel
theorem dX6_part_46 : decode cX6_part 46 = .ok (.invokevirtual 152, 3) := by decide +kernel
theorem dX6_part_49 : decode cX6_part 49 = .ok (.lreturn, 1) := by decide +kernel
theorem dX6_part_50 : decode cX6_part 50 = .ok (.iload_n 2, 1) := by decide +kernel
theorem dX6_part_51 : decode cX6_part 51 = .ok (.i2l, 1) := by decide +kernel
theorem dX6_part_52 : decode cX6_part 52 = .ok (.lconst 0, 1) := by decide +kernel
theorem dX6_part_53 : decode cX6_part 53 = .ok (.aload_n 0, 1) := by decide +kernel
theorem dX6_part_54 : decode cX6_part 54 = .ok (.getfield 276, 3) := by decide +kernel
theorem dX6_part_57 : decode cX6_part 57 = .ok (.iconst 1, 1) := by decide +kernel
theorem dX6_part_58 : decode cX6_part 58 = .ok (.isub, 1) := by decide +kernel
theorem dX6_part_59 : decode cX6_part 59 = .ok (.i2l, 1) := by decide +kernel
theorem dX6_part_60 : decode cX6_part 60 = .ok (.invokestatic 92, 3) := by decide +kernel
theorem dX6_part_63 : decode cX6_part 63 = .ok (.ifCond .eq 17, 3) := by decide +kernel
theorem dX6_part_66 : decode cX6_part 66 = .ok (.aload_n 0, 1) := by decide +kernel
theorem dX6_part_67 : decode cX6_part 67 = .ok (.getfield 61, 3) := by decide +kernel
theorem dX6_part_70 : decode cX6_part 70 = .ok (.bipush 20, 2) := by decide +kernel
theorem dX6_part_72 : decode cX6_part 72 = .ok (.iload_n 1, 1) := by decide +kernel
theorem dX6_part_73 : decode cX6_part 73 = .ok (.imul, 1) := by decide +kernel
theorem dX6_part_74 : decode cX6_part 74 = .ok (.iload_n 2, 1) := by decide +kernel
theorem dX6_part_75 : decode cX6_part 75 = .ok (.iadd, 1) := by decide +kernel
theorem dX6_part_76 : decode cX6_part 76 = .ok (.laload, 1) := by decide +kernel
theorem dX6_part_77 : decode cX6_part 77 = .ok (.goto 8, 3) := by decide +kernel
theorem dX6_part_80 : decode cX6_part 80 = .ok (.aload_n 0, 1) := by decide +kernel
theorem dX6_part_81 : decode cX6_part 81 = .ok (.iconst 2, 1) := by decide +kernel
theorem dX6_part_82 : decode cX6_part 82 = .ok (.invokevirtual 152, 3) := by decide +kernel
theorem dX6_part_85 : decode cX6_part 85 = .ok (.lreturn, 1) := by decide +kernel
theorem dX6_tally_0 : decode cX6_tally 0 = .ok (.aload_n 0, 1) := by decide +kernel
theorem dX6_tally_1 : decode cX6_tally 1 = .ok (.getfield 230, 3) := by decide +kernel
theorem dX6_tally_4 : decode cX6_tally 4 = .ok (.ifCond .ne 9, 3) := by decide +kernel
theorem dX6_tally_7 : decode cX6_tally 7 = .ok (.aload_n 0, 1) := by decide +kernel
theorem dX6_tally_8 : decode cX6_tally 8 = .ok (.iconst 1, 1) := by decide +kernel
theorem dX6_tally_9 : decode cX6_tally 9 = .ok (.invokevirtual 102, 3) := by decide +kernel
theorem dX6_tally_12 : decode cX6_tally 12 = .ok (.ireturn, 1) := by decide +kernel
theorem dX6_tally_13 : decode cX6_tally 13 = .ok (.iload_n 1, 1) := by decide +kernel
theorem dX6_tally_14 : decode cX6_tally 14 = .ok (.i2l, 1) := by decide +kernel
theorem dX6_tally_15 : decode cX6_tally 15 = .ok (.lconst 0, 1) := by decide +kernel
theorem dX6_tally_16 : decode cX6_tally 16 = .ok (.aload_n 0, 1) := by decide +kernel
theorem dX6_tally_17 : decode cX6_tally 17 = .ok (.getfield 13, 3) := by decide +kernel
theorem dX6_tally_20 : decode cX6_tally 20 = .ok (.aload_n 0, 1) := by decide +kernel
theorem dX6_tally_21 : decode cX6_tally 21 = .ok (.getfield 233, 3) := by decide +kernel
theorem dX6_tally_24 : decode cX6_tally 24 = .ok (.iaload, 1) := by decide +kernel
theorem dX6_tally_25 : decode cX6_tally 25 = .ok (.iconst 1, 1) := by decide +kernel
theorem dX6_tally_26 : decode cX6_tally 26 = .ok (.isub, 1) := by decide +kernel
theorem dX6_tally_27 : decode cX6_tally 27 = .ok (.i2l, 1) := by decide +kernel
theorem dX6_tally_28 : decode cX6_tally 28 = .ok (.invokestatic 92, 3) := by decide +kernel
theorem dX6_tally_31 : decode cX6_tally 31 = .ok (.ifCond .ne 9, 3) := by decide +kernel
theorem dX6_tally_34 : decode cX6_tally 34 = .ok (.aload_n 0, 1) := by decide +kernel
theorem dX6_tally_35 : decode cX6_tally 35 = .ok (.iconst 2, 1) := by decide +kernel
theorem dX6_tally_36 : decode cX6_tally 36 = .ok (.invokevirtual 102, 3) := by decide +kernel
theorem dX6_tally_39 : decode cX6_tally 39 = .ok (.ireturn, 1) := by decide +kernel
theorem dX6_tally_40 : decode cX6_tally 40 = .ok (.iconst 0, 1) := by decide +kernel
theorem dX6_tally_41 : decode cX6_tally 41 = .ok (.istore_n 3, 1) := by decide +kernel
theorem dX6_tally_42 : decode cX6_tally 42 = .ok (.iconst 0, 1) := by decide +kernel
theorem dX6_tally_43 : decode cX6_tally 43 = .ok (.istore 4, 2) := by decide +kernel
theorem dX6_tally_45 : decode cX6_tally 45 = .ok (.iconst 0, 1) := by decide +kernel
theorem dX6_tally_46 : decode cX6_tally 46 = .ok (.istore 5, 2) := by decide +kernel
theorem dX6_tally_48 : decode cX6_tally 48 = .ok (.iload 5, 2) := by decide +kernel
theorem dX6_tally_50 : decode cX6_tally 50 = .ok (.aload_n 0, 1) := by decide +kernel
theorem dX6_tally_51 : decode cX6_tally 51 = .ok (.getfield 236, 3) := by decide +kernel
theorem dX6_tally_54 : decode cX6_tally 54 = .ok (.if_icmp .ge 93, 3) := by decide +kernel
theorem dX6_tally_57 : decode cX6_tally 57 = .ok (.aload_n 0, 1) := by decide +kernel
theorem dX6_tally_58 : decode cX6_tally 58 = .ok (.getfield 54, 3) := by decide +kernel
theorem dX6_tally_61 : decode cX6_tally 61 = .ok (.bipush 7, 2) := by decide +kernel
theorem dX6_tally_63 : decode cX6_tally 63 = .ok (.iload 5, 2) := by decide +kernel
theorem dX6_tally_65 : decode cX6_tally 65 = .ok (.imul, 1) := by decide +kernel
theorem dX6_tally_66 : decode cX6_tally 66 = .ok (.iaload, 1) := by decide +kernel
theorem dX6_tally_67 : decode cX6_tally 67 = .ok (.aload_n 0, 1) := by decide +kernel
theorem dX6_tally_68 : decode cX6_tally 68 = .ok (.getfield 233, 3) := by decide +kernel
theorem dX6_tally_71 : decode cX6_tally 71 = .ok (.if_icmp .ne 23, 3) := by decide +kernel
theorem dX6_tally_74 : decode cX6_tally 74 = .ok (.aload_n 0, 1) := by decide +kernel
theorem dX6_tally_75 : decode cX6_tally 75 = .ok (.getfield 54, 3) := by decide +kernel
theorem dX6_tally_78 : decode cX6_tally 78 = .ok (.bipush 7, 2) := by decide +kernel
theorem dX6_tally_80 : decode cX6_tally 80 = .ok (.iload 5, 2) := by decide +kernel
theorem dX6_tally_82 : decode cX6_tally 82 = .ok (.imul, 1) := by decide +kernel
theorem dX6_tally_83 : decode cX6_tally 83 = .ok (.iconst 1, 1) := by decide +kernel
theorem dX6_tally_84 : decode cX6_tally 84 = .ok (.iadd, 1) := by decide +kernel
theorem dX6_tally_85 : decode cX6_tally 85 = .ok (.iaload, 1) := by decide +kernel
theorem dX6_tally_86 : decode cX6_tally 86 = .ok (.iload_n 1, 1) := by decide +kernel
theorem dX6_tally_87 : decode cX6_tally 87 = .ok (.if_icmp .ne 7, 3) := by decide +kernel
theorem dX6_tally_90 : decode cX6_tally 90 = .ok (.iconst 1, 1) := by decide +kernel
theorem dX6_tally_91 : decode cX6_tally 91 = .ok (.goto 4, 3) := by decide +kernel
theorem dX6_tally_94 : decode cX6_tally 94 = .ok (.iconst 0, 1) := by decide +kernel
theorem dX6_tally_95 : decode cX6_tally 95 = .ok (.istore 6, 2) := by decide +kernel
theorem dX6_tally_97 : decode cX6_tally 97 = .ok (.iload_n 3, 1) := by decide +kernel
theorem dX6_tally_98 : decode cX6_tally 98 = .ok (.iload 6, 2) := by decide +kernel
theorem dX6_tally_100 : decode cX6_tally 100 = .ok (.ifCond .eq 7, 3) := by decide +kernel
theorem dX6_tally_103 : decode cX6_tally 103 = .ok (.iconst 1, 1) := by decide +kernel
theorem dX6_tally_104 : decode cX6_tally 104 = .ok (.goto 4, 3) := by decide +kernel
theorem dX6_tally_107 : decode cX6_tally 107 = .ok (.iconst 0, 1) := by decide +kernel
theorem dX6_tally_108 : decode cX6_tally 108 = .ok (.iadd, 1) := by decide +kernel
theorem dX6_tally_109 : decode cX6_tally 109 = .ok (.istore_n 3, 1) := by decide +kernel
theorem dX6_tally_110 : decode cX6_tally 110 = .ok (.iload 4, 2) := by decide +kernel
theorem dX6_tally_112 : decode cX6_tally 112 = .ok (.iload 6, 2) := by decide +kernel
theorem dX6_tally_114 : decode cX6_tally 114 = .ok (.ifCond .eq 23, 3) := by decide +kernel
theorem dX6_tally_117 : decode cX6_tally 117 = .ok (.aload_n 0, 1) := by decide +kernel
theorem dX6_tally_118 : decode cX6_tally 118 = .ok (.getfield 54, 3) := by decide +kernel
theorem dX6_tally_121 : decode cX6_tally 121 = .ok (.bipush 7, 2) := by decide +kernel
theorem dX6_tally_123 : decode cX6_tally 123 = .ok (.iload 5, 2) := by decide +kernel
theorem dX6_tally_125 : decode cX6_tally 125 = .ok (.imul, 1) := by decide +kernel
theorem dX6_tally_126 : decode cX6_tally 126 = .ok (.iconst 4, 1) := by decide +kernel
theorem dX6_tally_127 : decode cX6_tally 127 = .ok (.iadd, 1) := by decide +kernel
theorem dX6_tally_128 : decode cX6_tally 128 = .ok (.iaload, 1) := by decide +kernel
theorem dX6_tally_129 : decode cX6_tally 129 = .ok (.iload_n 2, 1) := by decide +kernel
theorem dX6_tally_130 : decode cX6_tally 130 = .ok (.if_icmp .ne 7, 3) := by decide +kernel
theorem dX6_tally_133 : decode cX6_tally 133 = .ok (.iconst 1, 1) := by decide +kernel
theorem dX6_tally_134 : decode cX6_tally 134 = .ok (.goto 4, 3) := by decide +kernel
theorem dX6_tally_137 : decode cX6_tally 137 = .ok (.iconst 0, 1) := by decide +kernel
theorem dX6_tally_138 : decode cX6_tally 138 = .ok (.iadd, 1) := by decide +kernel
theorem dX6_tally_139 : decode cX6_tally 139 = .ok (.istore 4, 2) := by decide +kernel
theorem dX6_tally_141 : decode cX6_tally 141 = .ok (.iinc 5 1, 3) := by decide +kernel
theorem dX6_tally_144 : decode cX6_tally 144 = .ok (.goto (-96), 3) := by decide +kernel
theorem dX6_tally_147 : decode cX6_tally 147 = .ok (.iload_n 3, 1) := by decide +kernel
theorem dX6_tally_148 : decode cX6_tally 148 = .ok (.ifCond .ne 9, 3) := by decide +kernel
theorem dX6_tally_151 : decode cX6_tally 151 = .ok (.aload_n 0, 1) := by decide +kernel
theorem dX6_tally_152 : decode cX6_tally 152 = .ok (.iconst 1, 1) := by decide +kernel
theorem dX6_tally_153 : decode cX6_tally 153 = .ok (.invokevirtual 102, 3) := by decide +kernel
theorem dX6_tally_156 : decode cX6_tally 156 = .ok (.ireturn, 1) := by decide +kernel
theorem dX6_tally_157 : decode cX6_tally 157 = .ok (.iload_n 2, 1) := by decide +kernel
theorem dX6_tally_158 : decode cX6_tally 158 = .ok (.i2l, 1) := by decide +kernel
theorem dX6_tally_159 : decode cX6_tally 159 = .ok (.lconst 1, 1) := by decide +kernel
theorem dX6_tally_160 : decode cX6_tally 160 = .ok (.ldc2_w 166, 3) := by decide +kernel
theorem dX6_tally_163 : decode cX6_tally 163 = .ok (.invokestatic 92, 3) := by decide +kernel
theorem dX6_tally_166 : decode cX6_tally 166 = .ok (.ifCond .eq 8, 3) := by decide +kernel
theorem dX6_tally_169 : decode cX6_tally 169 = .ok (.iload 4, 2) := by decide +kernel
theorem dX6_tally_171 : decode cX6_tally 171 = .ok (.goto 8, 3) := by decide +kernel
theorem dX6_tally_174 : decode cX6_tally 174 = .ok (.aload_n 0, 1) := by decide +kernel
theorem dX6_tally_175 : decode cX6_tally 175 = .ok (.iconst 2, 1) := by decide +kernel
theorem dX6_tally_176 : decode cX6_tally 176 = .ok (.invokevirtual 102, 3) := by decide +kernel
theorem dX6_tally_179 : decode cX6_tally 179 = .ok (.ireturn, 1) := by decide +kernel
theorem dX6_steps_0 : decode cX6_steps 0 = .ok (.aload_n 0, 1) := by decide +kernel
theorem dX6_steps_1 : decode cX6_steps 1 = .ok (.getfield 236, 3) := by decide +kernel
theorem dX6_steps_4 : decode cX6_steps 4 = .ok (.ireturn, 1) := by decide +kernel
theorem dX6_step_0 : decode cX6_step 0 = .ok (.iload_n 1, 1) := by decide +kernel
theorem dX6_step_1 : decode cX6_step 1 = .ok (.i2l, 1) := by decide +kernel
theorem dX6_step_2 : decode cX6_step 2 = .ok (.lconst 0, 1) := by decide +kernel
theorem dX6_step_3 : decode cX6_step 3 = .ok (.aload_n 0, 1) := by decide +kernel
theorem dX6_step_4 : decode cX6_step 4 = .ok (.getfield 236, 3) := by decide +kernel
theorem dX6_step_7 : decode cX6_step 7 = .ok (.iconst 1, 1) := by decide +kernel
theorem dX6_step_8 : decode cX6_step 8 = .ok (.isub, 1) := by decide +kernel
theorem dX6_step_9 : decode cX6_step 9 = .ok (.i2l, 1) := by decide +kernel
theorem dX6_step_10 : decode cX6_step 10 = .ok (.invokestatic 92, 3) := by decide +kernel
theorem dX6_step_13 : decode cX6_step 13 = .ok (.ifCond .ne 5, 3) := by decide +kernel
theorem dX6_step_16 : decode cX6_step 16 = .ok (.iconst (-1), 1) := by decide +kernel
theorem dX6_step_17 : decode cX6_step 17 = .ok (.ireturn, 1) := by decide +kernel
theorem dX6_step_18 : decode cX6_step 18 = .ok (.iload_n 2, 1) := by decide +kernel
theorem dX6_step_19 : decode cX6_step 19 = .ok (.i2l, 1) := by decide +kernel
theorem dX6_step_20 : decode cX6_step 20 = .ok (.lconst 0, 1) := by decide +kernel
theorem dX6_step_21 : decode cX6_step 21 = .ok (.ldc2_w 327, 3) := by decide +kernel
theorem dX6_step_24 : decode cX6_step 24 = .ok (.invokestatic 92, 3) := by decide +kernel
theorem dX6_step_27 : decode cX6_step 27 = .ok (.ifCond .eq 17, 3) := by decide +kernel
theorem dX6_step_30 : decode cX6_step 30 = .ok (.aload_n 0, 1) := by decide +kernel
theorem dX6_step_31 : decode cX6_step 31 = .ok (.getfield 54, 3) := by decide +kernel
theorem dX6_step_34 : decode cX6_step 34 = .ok (.bipush 7, 2) := by decide +kernel
theorem dX6_step_36 : decode cX6_step 36 = .ok (.iload_n 1, 1) := by decide +kernel
theorem dX6_step_37 : decode cX6_step 37 = .ok (.imul, 1) := by decide +kernel
theorem dX6_step_38 : decode cX6_step 38 = .ok (.iload_n 2, 1) := by decide +kernel
theorem dX6_step_39 : decode cX6_step 39 = .ok (.iadd, 1) := by decide +kernel
theorem dX6_step_40 : decode cX6_step 40 = .ok (.iaload, 1) := by decide +kernel
theorem dX6_step_41 : decode cX6_step 41 = .ok (.goto 5, 3) := by decide +kernel
theorem dX6_step_44 : decode cX6_step 44 = .ok (.bipush (-2), 2) := by decide +kernel
theorem dX6_step_46 : decode cX6_step 46 = .ok (.ireturn, 1) := by decide +kernel
theorem dX6_stuck_0 : decode cX6_stuck 0 = .ok (.iload_n 1, 1) := by decide +kernel
theorem dX6_stuck_1 : decode cX6_stuck 1 = .ok (.ifCond .ne 10, 3) := by decide +kernel
theorem dX6_stuck_4 : decode cX6_stuck 4 = .ok (.aload_n 0, 1) := by decide +kernel
theorem dX6_stuck_5 : decode cX6_stuck 5 = .ok (.getfield 242, 3) := by decide +kernel
theorem dX6_stuck_8 : decode cX6_stuck 8 = .ok (.goto 29, 3) := by decide +kernel
theorem dX6_stuck_11 : decode cX6_stuck 11 = .ok (.iload_n 1, 1) := by decide +kernel
theorem dX6_stuck_12 : decode cX6_stuck 12 = .ok (.iconst 1, 1) := by decide +kernel
theorem dX6_stuck_13 : decode cX6_stuck 13 = .ok (.if_icmp .ne 10, 3) := by decide +kernel
theorem dX6_stuck_16 : decode cX6_stuck 16 = .ok (.aload_n 0, 1) := by decide +kernel
theorem dX6_stuck_17 : decode cX6_stuck 17 = .ok (.getfield 46, 3) := by decide +kernel
theorem dX6_stuck_20 : decode cX6_stuck 20 = .ok (.goto 17, 3) := by decide +kernel
theorem dX6_stuck_23 : decode cX6_stuck 23 = .ok (.iload_n 1, 1) := by decide +kernel
theorem dX6_stuck_24 : decode cX6_stuck 24 = .ok (.iconst 2, 1) := by decide +kernel
theorem dX6_stuck_25 : decode cX6_stuck 25 = .ok (.if_icmp .ne 10, 3) := by decide +kernel
theorem dX6_stuck_28 : decode cX6_stuck 28 = .ok (.aload_n 0, 1) := by decide +kernel
theorem dX6_stuck_29 : decode cX6_stuck 29 = .ok (.getfield 50, 3) := by decide +kernel
theorem dX6_stuck_32 : decode cX6_stuck 32 = .ok (.goto 5, 3) := by decide +kernel
theorem dX6_stuck_35 : decode cX6_stuck 35 = .ok (.bipush (-2), 2) := by decide +kernel
theorem dX6_stuck_37 : decode cX6_stuck 37 = .ok (.ireturn, 1) := by decide +kernel
theorem dX6_undo_0 : decode cX6_undo 0 = .ok (.aload_n 0, 1) := by decide +kernel
theorem dX6_undo_1 : decode cX6_undo 1 = .ok (.getfield 239, 3) := by decide +kernel
theorem dX6_undo_4 : decode cX6_undo 4 = .ok (.ifCond .eq 10, 3) := by decide +kernel
theorem dX6_undo_7 : decode cX6_undo 7 = .ok (.aload_n 0, 1) := by decide +kernel
theorem dX6_undo_8 : decode cX6_undo 8 = .ok (.getfield 137, 3) := by decide +kernel
theorem dX6_undo_11 : decode cX6_undo 11 = .ok (.ifCond .eq 6, 3) := by decide +kernel
theorem dX6_undo_14 : decode cX6_undo 14 = .ok (.bipush (-3), 2) := by decide +kernel
theorem dX6_undo_16 : decode cX6_undo 16 = .ok (.ireturn, 1) := by decide +kernel
theorem dX6_undo_17 : decode cX6_undo 17 = .ok (.aload_n 0, 1) := by decide +kernel
theorem dX6_undo_18 : decode cX6_undo 18 = .ok (.dup, 1) := by decide +kernel
theorem dX6_undo_19 : decode cX6_undo 19 = .ok (.getfield 239, 3) := by decide +kernel
theorem dX6_undo_22 : decode cX6_undo 22 = .ok (.iconst 1, 1) := by decide +kernel
theorem dX6_undo_23 : decode cX6_undo 23 = .ok (.isub, 1) := by decide +kernel
theorem dX6_undo_24 : decode cX6_undo 24 = .ok (.putfield 239, 3) := by decide +kernel
theorem dX6_undo_27 : decode cX6_undo 27 = .ok (.aload_n 0, 1) := by decide +kernel
theorem dX6_undo_28 : decode cX6_undo 28 = .ok (.aload_n 0, 1) := by decide +kernel
theorem dX6_undo_29 : decode cX6_undo 29 = .ok (.getfield 239, 3) := by decide +kernel
theorem dX6_undo_32 : decode cX6_undo 32 = .ok (.invokevirtual 248, 3) := by decide +kernel
theorem dX6_undo_35 : decode cX6_undo 35 = .ok (.aload_n 0, 1) := by decide +kernel
theorem dX6_undo_36 : decode cX6_undo 36 = .ok (.getfield 239, 3) := by decide +kernel
theorem dX6_undo_39 : decode cX6_undo 39 = .ok (.ireturn, 1) := by decide +kernel
theorem dX6_pupil_0 : decode cX6_pupil 0 = .ok (.aload_n 0, 1) := by decide +kernel
theorem dX6_pupil_1 : decode cX6_pupil 1 = .ok (.getfield 329, 3) := by decide +kernel
theorem dX6_pupil_4 : decode cX6_pupil 4 = .ok (.sipush 300, 3) := by decide +kernel
theorem dX6_pupil_7 : decode cX6_pupil 7 = .ok (.if_icmp .ne 6, 3) := by decide +kernel
theorem dX6_pupil_10 : decode cX6_pupil 10 = .ok (.bipush (-4), 2) := by decide +kernel
theorem dX6_pupil_12 : decode cX6_pupil 12 = .ok (.ireturn, 1) := by decide +kernel
theorem dX6_pupil_13 : decode cX6_pupil 13 = .ok (.aload_n 0, 1) := by decide +kernel
theorem dX6_pupil_14 : decode cX6_pupil 14 = .ok (.getfield 65, 3) := by decide +kernel
theorem dX6_pupil_17 : decode cX6_pupil 17 = .ok (.iconst 4, 1) := by decide +kernel
theorem dX6_pupil_18 : decode cX6_pupil 18 = .ok (.aload_n 0, 1) := by decide +kernel
theorem dX6_pupil_19 : decode cX6_pupil 19 = .ok (.getfield 329, 3) := by decide +kernel
theorem dX6_pupil_22 : decode cX6_pupil 22 = .ok (.imul, 1) := by decide +kernel
theorem dX6_pupil_23 : decode cX6_pupil 23 = .ok (.iload_n 1, 1) := by decide +kernel
theorem dX6_pupil_24 : decode cX6_pupil 24 = .ok (.iastore, 1) := by decide +kernel
theorem dX6_pupil_25 : decode cX6_pupil 25 = .ok (.aload_n 0, 1) := by decide +kernel
theorem dX6_pupil_26 : decode cX6_pupil 26 = .ok (.getfield 65, 3) := by decide +kernel
theorem dX6_pupil_29 : decode cX6_pupil 29 = .ok (.iconst 4, 1) := by decide +kernel
theorem dX6_pupil_30 : decode cX6_pupil 30 = .ok (.aload_n 0, 1) := by decide +kernel
theorem dX6_pupil_31 : decode cX6_pupil 31 = .ok (.getfield 329, 3) := by decide +kernel
theorem dX6_pupil_34 : decode cX6_pupil 34 = .ok (.imul, 1) := by decide +kernel
theorem dX6_pupil_35 : decode cX6_pupil 35 = .ok (.iconst 1, 1) := by decide +kernel
theorem dX6_pupil_36 : decode cX6_pupil 36 = .ok (.iadd, 1) := by decide +kernel
theorem dX6_pupil_37 : decode cX6_pupil 37 = .ok (.iload_n 2, 1) := by decide +kernel
theorem dX6_pupil_38 : decode cX6_pupil 38 = .ok (.iastore, 1) := by decide +kernel
theorem dX6_pupil_39 : decode cX6_pupil 39 = .ok (.aload_n 0, 1) := by decide +kernel
theorem dX6_pupil_40 : decode cX6_pupil 40 = .ok (.getfield 65, 3) := by decide +kernel
theorem dX6_pupil_43 : decode cX6_pupil 43 = .ok (.iconst 4, 1) := by decide +kernel
theorem dX6_pupil_44 : decode cX6_pupil 44 = .ok (.aload_n 0, 1) := by decide +kernel
theorem dX6_pupil_45 : decode cX6_pupil 45 = .ok (.getfield 329, 3) := by decide +kernel
theorem dX6_pupil_48 : decode cX6_pupil 48 = .ok (.imul, 1) := by decide +kernel
theorem dX6_pupil_49 : decode cX6_pupil 49 = .ok (.iconst 2, 1) := by decide +kernel
theorem dX6_pupil_50 : decode cX6_pupil 50 = .ok (.iadd, 1) := by decide +kernel
theorem dX6_pupil_51 : decode cX6_pupil 51 = .ok (.iload_n 3, 1) := by decide +kernel
theorem dX6_pupil_52 : decode cX6_pupil 52 = .ok (.iastore, 1) := by decide +kernel
theorem dX6_pupil_53 : decode cX6_pupil 53 = .ok (.aload_n 0, 1) := by decide +kernel
theorem dX6_pupil_54 : decode cX6_pupil 54 = .ok (.getfield 65, 3) := by decide +kernel
theorem dX6_pupil_57 : decode cX6_pupil 57 = .ok (.iconst 4, 1) := by decide +kernel
theorem dX6_pupil_58 : decode cX6_pupil 58 = .ok (.aload_n 0, 1) := by decide +kernel
theorem dX6_pupil_59 : decode cX6_pupil 59 = .ok (.getfield 329, 3) := by decide +kernel
theorem dX6_pupil_62 : decode cX6_pupil 62 = .ok (.imul, 1) := by decide +kernel
theorem dX6_pupil_63 : decode cX6_pupil 63 = .ok (.iconst 3, 1) := by decide +kernel
theorem dX6_pupil_64 : decode cX6_pupil 64 = .ok (.iadd, 1) := by decide +kernel
theorem dX6_pupil_65 : decode cX6_pupil 65 = .ok (.iload 4, 2) := by decide +kernel
theorem dX6_pupil_67 : decode cX6_pupil 67 = .ok (.iastore, 1) := by decide +kernel
theorem dX6_pupil_68 : decode cX6_pupil 68 = .ok (.aload_n 0, 1) := by decide +kernel
theorem dX6_pupil_69 : decode cX6_pupil 69 = .ok (.dup, 1) := by decide +kernel
theorem dX6_pupil_70 : decode cX6_pupil 70 = .ok (.getfield 329, 3) := by decide +kernel
theorem dX6_pupil_73 : decode cX6_pupil 73 = .ok (.iconst 1, 1) := by decide +kernel
theorem dX6_pupil_74 : decode cX6_pupil 74 = .ok (.iadd, 1) := by decide +kernel
theorem dX6_pupil_75 : decode cX6_pupil 75 = .ok (.putfield 329, 3) := by decide +kernel
theorem dX6_pupil_78 : decode cX6_pupil 78 = .ok (.aload_n 0, 1) := by decide +kernel
theorem dX6_pupil_79 : decode cX6_pupil 79 = .ok (.getfield 329, 3) := by decide +kernel
theorem dX6_pupil_82 : decode cX6_pupil 82 = .ok (.ireturn, 1) := by decide +kernel
theorem dX6_begin_0 : decode cX6_begin 0 = .ok (.aload_n 0, 1) := by decide +kernel
theorem dX6_begin_1 : decode cX6_begin 1 = .ok (.getfield 329, 3) := by decide +kernel
theorem dX6_begin_4 : decode cX6_begin 4 = .ok (.istore_n 1, 1) := by decide +kernel
theorem dX6_begin_5 : decode cX6_begin 5 = .ok (.aload_n 0, 1) := by decide +kernel
theorem dX6_begin_6 : decode cX6_begin 6 = .ok (.iconst 0, 1) := by decide +kernel
theorem dX6_begin_7 : decode cX6_begin 7 = .ok (.putfield 329, 3) := by decide +kernel
theorem dX6_begin_10 : decode cX6_begin 10 = .ok (.iload_n 1, 1) := by decide +kernel
theorem dX6_begin_11 : decode cX6_begin 11 = .ok (.ireturn, 1) := by decide +kernel
theorem dX6_isLike_0 : decode cX6_isLike 0 = .ok (.aload_n 0, 1) := by decide +kernel
theorem dX6_isLike_1 : decode cX6_isLike 1 = .ok (.getfield 65, 3) := by decide +kernel
theorem dX6_isLike_4 : decode cX6_isLike 4 = .ok (.iconst 4, 1) := by decide +kernel
theorem dX6_isLike_5 : decode cX6_isLike 5 = .ok (.iload_n 1, 1) := by decide +kernel
theorem dX6_isLike_6 : decode cX6_isLike 6 = .ok (.imul, 1) := by decide +kernel
theorem dX6_isLike_7 : decode cX6_isLike 7 = .ok (.iload_n 2, 1) := by decide +kernel
theorem dX6_isLike_8 : decode cX6_isLike 8 = .ok (.iadd, 1) := by decide +kernel
theorem dX6_isLike_9 : decode cX6_isLike 9 = .ok (.iaload, 1) := by decide +kernel
theorem dX6_isLike_10 : decode cX6_isLike 10 = .ok (.aload_n 0, 1) := by decide +kernel
theorem dX6_isLike_11 : decode cX6_isLike 11 = .ok (.getfield 54, 3) := by decide +kernel
theorem dX6_isLike_14 : decode cX6_isLike 14 = .ok (.bipush 7, 2) := by decide +kernel
theorem dX6_isLike_16 : decode cX6_isLike 16 = .ok (.iload_n 1, 1) := by decide +kernel
theorem dX6_isLike_17 : decode cX6_isLike 17 = .ok (.imul, 1) := by decide +kernel
theorem dX6_isLike_18 : decode cX6_isLike 18 = .ok (.iload_n 2, 1) := by decide +kernel
theorem dX6_isLike_19 : decode cX6_isLike 19 = .ok (.iadd, 1) := by decide +kernel
theorem dX6_isLike_20 : decode cX6_isLike 20 = .ok (.iaload, 1) := by decide +kernel
theorem dX6_isLike_21 : decode cX6_isLike 21 = .ok (.if_icmp .ne 35, 3) := by decide +kernel
theorem dX6_isLike_24 : decode cX6_isLike 24 = .ok (.aload_n 0, 1) := by decide +kernel
theorem dX6_isLike_25 : decode cX6_isLike 25 = .ok (.getfield 65, 3) := by decide +kernel
theorem dX6_isLike_28 : decode cX6_isLike 28 = .ok (.iconst 4, 1) := by decide +kernel
theorem dX6_isLike_29 : decode cX6_isLike 29 = .ok (.iload_n 1, 1) := by decide +kernel
theorem dX6_isLike_30 : decode cX6_isLike 30 = .ok (.imul, 1) := by decide +kernel
theorem dX6_isLike_31 : decode cX6_isLike 31 = .ok (.iload_n 2, 1) := by decide +kernel
theorem dX6_isLike_32 : decode cX6_isLike 32 = .ok (.iadd, 1) := by decide +kernel
theorem dX6_isLike_33 : decode cX6_isLike 33 = .ok (.iconst 1, 1) := by decide +kernel
theorem dX6_isLike_34 : decode cX6_isLike 34 = .ok (.iadd, 1) := by decide +kernel
theorem dX6_isLike_35 : decode cX6_isLike 35 = .ok (.iaload, 1) := by decide +kernel
theorem dX6_isLike_36 : decode cX6_isLike 36 = .ok (.aload_n 0, 1) := by decide +kernel
theorem dX6_isLike_37 : decode cX6_isLike 37 = .ok (.getfield 54, 3) := by decide +kernel
theorem dX6_isLike_40 : decode cX6_isLike 40 = .ok (.bipush 7, 2) := by decide +kernel
theorem dX6_isLike_42 : decode cX6_isLike 42 = .ok (.iload_n 1, 1) := by decide +kernel
theorem dX6_isLike_43 : decode cX6_isLike 43 = .ok (.imul, 1) := by decide +kernel
theorem dX6_isLike_44 : decode cX6_isLike 44 = .ok (.iload_n 2, 1) := by decide +kernel
theorem dX6_isLike_45 : decode cX6_isLike 45 = .ok (.iadd, 1) := by decide +kernel
theorem dX6_isLike_46 : decode cX6_isLike 46 = .ok (.iconst 1, 1) := by decide +kernel
theorem dX6_isLike_47 : decode cX6_isLike 47 = .ok (.iadd, 1) := by decide +kernel
theorem dX6_isLike_48 : decode cX6_isLike 48 = .ok (.iaload, 1) := by decide +kernel
theorem dX6_isLike_49 : decode cX6_isLike 49 = .ok (.if_icmp .ne 7, 3) := by decide +kernel
theorem dX6_isLike_52 : decode cX6_isLike 52 = .ok (.iconst 1, 1) := by decide +kernel
theorem dX6_isLike_53 : decode cX6_isLike 53 = .ok (.goto 4, 3) := by decide +kernel
theorem dX6_isLike_56 : decode cX6_isLike 56 = .ok (.iconst 0, 1) := by decide +kernel
theorem dX6_isLike_57 : decode cX6_isLike 57 = .ok (.ireturn, 1) := by decide +kernel
theorem dX6_slip_0 : decode cX6_slip 0 = .ok (.aload_n 0, 1) := by decide +kernel
theorem dX6_slip_1 : decode cX6_slip 1 = .ok (.getfield 329, 3) := by decide +kernel
theorem dX6_slip_4 : decode cX6_slip 4 = .ok (.aload_n 0, 1) := by decide +kernel
theorem dX6_slip_5 : decode cX6_slip 5 = .ok (.getfield 236, 3) := by decide +kernel
theorem dX6_slip_8 : decode cX6_slip 8 = .ok (.if_icmp .ge 10, 3) := by decide +kernel
theorem dX6_slip_11 : decode cX6_slip 11 = .ok (.aload_n 0, 1) := by decide +kernel
theorem dX6_slip_12 : decode cX6_slip 12 = .ok (.getfield 329, 3) := by decide +kernel
theorem dX6_slip_15 : decode cX6_slip 15 = .ok (.goto 7, 3) := by decide +kernel
theorem dX6_slip_18 : decode cX6_slip 18 = .ok (.aload_n 0, 1) := by decide +kernel
theorem dX6_slip_19 : decode cX6_slip 19 = .ok (.getfield 236, 3) := by decide +kernel
theorem dX6_slip_22 : decode cX6_slip 22 = .ok (.istore_n 1, 1) := by decide +kernel
theorem dX6_slip_23 : decode cX6_slip 23 = .ok (.iconst 0, 1) := by decide +kernel
theorem dX6_slip_24 : decode cX6_slip 24 = .ok (.istore_n 2, 1) := by decide +kernel
theorem dX6_slip_25 : decode cX6_slip 25 = .ok (.iload_n 2, 1) := by decide +kernel
theorem dX6_slip_26 : decode cX6_slip 26 = .ok (.iload_n 1, 1) := by decide +kernel
theorem dX6_slip_27 : decode cX6_slip 27 = .ok (.if_icmp .ge 29, 3) := by decide +kernel
theorem dX6_slip_30 : decode cX6_slip 30 = .ok (.aload_n 0, 1) := by decide +kernel
theorem dX6_slip_31 : decode cX6_slip 31 = .ok (.iload_n 2, 1) := by decide +kernel
theorem dX6_slip_32 : decode cX6_slip 32 = .ok (.iconst 0, 1) := by decide +kernel
theorem dX6_slip_33 : decode cX6_slip 33 = .ok (.invokevirtual 332, 3) := by decide +kernel
theorem dX6_slip_36 : decode cX6_slip 36 = .ok (.ifCond .eq 12, 3) := by decide +kernel
theorem dX6_slip_39 : decode cX6_slip 39 = .ok (.aload_n 0, 1) := by decide +kernel
theorem dX6_slip_40 : decode cX6_slip 40 = .ok (.iload_n 2, 1) := by decide +kernel
theorem dX6_slip_41 : decode cX6_slip 41 = .ok (.iconst 2, 1) := by decide +kernel
theorem dX6_slip_42 : decode cX6_slip 42 = .ok (.invokevirtual 332, 3) := by decide +kernel
theorem dX6_slip_45 : decode cX6_slip 45 = .ok (.ifCond .ne 5, 3) := by decide +kernel
theorem dX6_slip_48 : decode cX6_slip 48 = .ok (.iload_n 2, 1) := by decide +kernel
theorem dX6_slip_49 : decode cX6_slip 49 = .ok (.ireturn, 1) := by decide +kernel
theorem dX6_slip_50 : decode cX6_slip 50 = .ok (.iinc 2 1, 3) := by decide +kernel
theorem dX6_slip_53 : decode cX6_slip 53 = .ok (.goto (-28), 3) := by decide +kernel
theorem dX6_slip_56 : decode cX6_slip 56 = .ok (.aload_n 0, 1) := by decide +kernel
theorem dX6_slip_57 : decode cX6_slip 57 = .ok (.getfield 329, 3) := by decide +kernel
theorem dX6_slip_60 : decode cX6_slip 60 = .ok (.aload_n 0, 1) := by decide +kernel
theorem dX6_slip_61 : decode cX6_slip 61 = .ok (.getfield 236, 3) := by decide +kernel
theorem dX6_slip_64 : decode cX6_slip 64 = .ok (.if_icmp .ne 8, 3) := by decide +kernel
theorem dX6_slip_67 : decode cX6_slip 67 = .ok (.bipush (-5), 2) := by decide +kernel
theorem dX6_slip_69 : decode cX6_slip 69 = .ok (.goto 4, 3) := by decide +kernel
theorem dX6_slip_72 : decode cX6_slip 72 = .ok (.iload_n 1, 1) := by decide +kernel
theorem dX6_slip_73 : decode cX6_slip 73 = .ok (.ireturn, 1) := by decide +kernel
theorem dX6_lapse_0 : decode cX6_lapse 0 = .ok (.aload_n 0, 1) := by decide +kernel
theorem dX6_lapse_1 : decode cX6_lapse 1 = .ok (.invokevirtual 335, 3) := by decide +kernel
theorem dX6_lapse_4 : decode cX6_lapse 4 = .ok (.istore_n 1, 1) := by decide +kernel
theorem dX6_lapse_5 : decode cX6_lapse 5 = .ok (.iload_n 1, 1) := by decide +kernel
theorem dX6_lapse_6 : decode cX6_lapse 6 = .ok (.bipush (-5), 2) := by decide +kernel
theorem dX6_lapse_8 : decode cX6_lapse 8 = .ok (.if_icmp .ne 5, 3) := by decide +kernel
theorem dX6_lapse_11 : decode cX6_lapse 11 = .ok (.iconst 0, 1) := by decide +kernel
theorem dX6_lapse_12 : decode cX6_lapse 12 = .ok (.ireturn, 1) := by decide +kernel
theorem dX6_lapse_13 : decode cX6_lapse 13 = .ok (.iload_n 1, 1) := by decide +kernel
theorem dX6_lapse_14 : decode cX6_lapse 14 = .ok (.aload_n 0, 1) := by decide +kernel
theorem dX6_lapse_15 : decode cX6_lapse 15 = .ok (.getfield 329, 3) := by decide +kernel
theorem dX6_lapse_18 : decode cX6_lapse 18 = .ok (.if_icmp .ne 7, 3) := by decide +kernel
theorem dX6_lapse_21 : decode cX6_lapse 21 = .ok (.iconst 3, 1) := by decide +kernel
theorem dX6_lapse_22 : decode cX6_lapse 22 = .ok (.goto 29, 3) := by decide +kernel
theorem dX6_lapse_25 : decode cX6_lapse 25 = .ok (.iload_n 1, 1) := by decide +kernel
theorem dX6_lapse_26 : decode cX6_lapse 26 = .ok (.aload_n 0, 1) := by decide +kernel
theorem dX6_lapse_27 : decode cX6_lapse 27 = .ok (.getfield 236, 3) := by decide +kernel
theorem dX6_lapse_30 : decode cX6_lapse 30 = .ok (.if_icmp .ne 7, 3) := by decide +kernel
theorem dX6_lapse_33 : decode cX6_lapse 33 = .ok (.iconst 4, 1) := by decide +kernel
theorem dX6_lapse_34 : decode cX6_lapse 34 = .ok (.goto 17, 3) := by decide +kernel
theorem dX6_lapse_37 : decode cX6_lapse 37 = .ok (.aload_n 0, 1) := by decide +kernel
theorem dX6_lapse_38 : decode cX6_lapse 38 = .ok (.iload_n 1, 1) := by decide +kernel
theorem dX6_lapse_39 : decode cX6_lapse 39 = .ok (.iconst 0, 1) := by decide +kernel
theorem dX6_lapse_40 : decode cX6_lapse 40 = .ok (.invokevirtual 332, 3) := by decide +kernel
theorem dX6_lapse_43 : decode cX6_lapse 43 = .ok (.ifCond .ne 7, 3) := by decide +kernel
theorem dX6_lapse_46 : decode cX6_lapse 46 = .ok (.iconst 1, 1) := by decide +kernel
theorem dX6_lapse_47 : decode cX6_lapse 47 = .ok (.goto 4, 3) := by decide +kernel
theorem dX6_lapse_50 : decode cX6_lapse 50 = .ok (.iconst 2, 1) := by decide +kernel
theorem dX6_lapse_51 : decode cX6_lapse 51 = .ok (.ireturn, 1) := by decide +kernel
theorem dX6_fix_0 : decode cX6_fix 0 = .ok (.aload_n 0, 1) := by decide +kernel
theorem dX6_fix_1 : decode cX6_fix 1 = .ok (.invokevirtual 335, 3) := by decide +kernel
theorem dX6_fix_4 : decode cX6_fix 4 = .ok (.istore_n 1, 1) := by decide +kernel
theorem dX6_fix_5 : decode cX6_fix 5 = .ok (.iload_n 1, 1) := by decide +kernel
theorem dX6_fix_6 : decode cX6_fix 6 = .ok (.bipush (-5), 2) := by decide +kernel
theorem dX6_fix_8 : decode cX6_fix 8 = .ok (.if_icmp .ne 6, 3) := by decide +kernel
theorem dX6_fix_11 : decode cX6_fix 11 = .ok (.bipush (-3), 2) := by decide +kernel
theorem dX6_fix_13 : decode cX6_fix 13 = .ok (.ireturn, 1) := by decide +kernel
theorem dX6_fix_14 : decode cX6_fix 14 = .ok (.iload_n 1, 1) := by decide +kernel
theorem dX6_fix_15 : decode cX6_fix 15 = .ok (.sipush 300, 3) := by decide +kernel
theorem dX6_fix_18 : decode cX6_fix 18 = .ok (.if_icmp .ne 6, 3) := by decide +kernel
theorem dX6_fix_21 : decode cX6_fix 21 = .ok (.bipush (-4), 2) := by decide +kernel
theorem dX6_fix_23 : decode cX6_fix 23 = .ok (.ireturn, 1) := by decide +kernel
theorem dX6_fix_24 : decode cX6_fix 24 = .ok (.iload_n 1, 1) := by decide +kernel
theorem dX6_fix_25 : decode cX6_fix 25 = .ok (.aload_n 0, 1) := by decide +kernel
theorem dX6_fix_26 : decode cX6_fix 26 = .ok (.getfield 236, 3) := by decide +kernel
theorem dX6_fix_29 : decode cX6_fix 29 = .ok (.if_icmp .ne 13, 3) := by decide +kernel
theorem dX6_fix_32 : decode cX6_fix 32 = .ok (.aload_n 0, 1) := by decide +kernel
theorem dX6_fix_33 : decode cX6_fix 33 = .ok (.iload_n 1, 1) := by decide +kernel
theorem dX6_fix_34 : decode cX6_fix 34 = .ok (.putfield 329, 3) := by decide +kernel
theorem dX6_fix_37 : decode cX6_fix 37 = .ok (.aload_n 0, 1) := by decide +kernel
theorem dX6_fix_38 : decode cX6_fix 38 = .ok (.invokevirtual 335, 3) := by decide +kernel
theorem dX6_fix_41 : decode cX6_fix 41 = .ok (.ireturn, 1) := by decide +kernel
theorem dX6_fix_42 : decode cX6_fix 42 = .ok (.iconst 0, 1) := by decide +kernel
theorem dX6_fix_43 : decode cX6_fix 43 = .ok (.istore_n 2, 1) := by decide +kernel
theorem dX6_fix_44 : decode cX6_fix 44 = .ok (.iload_n 2, 1) := by decide +kernel
theorem dX6_fix_45 : decode cX6_fix 45 = .ok (.iconst 4, 1) := by decide +kernel
theorem dX6_fix_46 : decode cX6_fix 46 = .ok (.if_icmp .ge 30, 3) := by decide +kernel
theorem dX6_fix_49 : decode cX6_fix 49 = .ok (.aload_n 0, 1) := by decide +kernel
theorem dX6_fix_50 : decode cX6_fix 50 = .ok (.getfield 65, 3) := by decide +kernel
theorem dX6_fix_53 : decode cX6_fix 53 = .ok (.iconst 4, 1) := by decide +kernel
theorem dX6_fix_54 : decode cX6_fix 54 = .ok (.iload_n 1, 1) := by decide +kernel
theorem dX6_fix_55 : decode cX6_fix 55 = .ok (.imul, 1) := by decide +kernel
theorem dX6_fix_56 : decode cX6_fix 56 = .ok (.iload_n 2, 1) := by decide +kernel
theorem dX6_fix_57 : decode cX6_fix 57 = .ok (.iadd, 1) := by decide +kernel
theorem dX6_fix_58 : decode cX6_fix 58 = .ok (.aload_n 0, 1) := by decide +kernel
theorem dX6_fix_59 : decode cX6_fix 59 = .ok (.getfield 54, 3) := by decide +kernel
theorem dX6_fix_62 : decode cX6_fix 62 = .ok (.bipush 7, 2) := by decide +kernel
theorem dX6_fix_64 : decode cX6_fix 64 = .ok (.iload_n 1, 1) := by decide +kernel
theorem dX6_fix_65 : decode cX6_fix 65 = .ok (.imul, 1) := by decide +kernel
theorem dX6_fix_66 : decode cX6_fix 66 = .ok (.iload_n 2, 1) := by decide +kernel
theorem dX6_fix_67 : decode cX6_fix 67 = .ok (.iadd, 1) := by decide +kernel
theorem dX6_fix_68 : decode cX6_fix 68 = .ok (.iaload, 1) := by decide +kernel
theorem dX6_fix_69 : decode cX6_fix 69 = .ok (.iastore, 1) := by decide +kernel
theorem dX6_fix_70 : decode cX6_fix 70 = .ok (.iinc 2 1, 3) := by decide +kernel
theorem dX6_fix_73 : decode cX6_fix 73 = .ok (.goto (-29), 3) := by decide +kernel
theorem dX6_fix_76 : decode cX6_fix 76 = .ok (.aload_n 0, 1) := by decide +kernel
theorem dX6_fix_77 : decode cX6_fix 77 = .ok (.iload_n 1, 1) := by decide +kernel
theorem dX6_fix_78 : decode cX6_fix 78 = .ok (.aload_n 0, 1) := by decide +kernel
theorem dX6_fix_79 : decode cX6_fix 79 = .ok (.getfield 329, 3) := by decide +kernel
theorem dX6_fix_82 : decode cX6_fix 82 = .ok (.if_icmp .ne 9, 3) := by decide +kernel
theorem dX6_fix_85 : decode cX6_fix 85 = .ok (.iload_n 1, 1) := by decide +kernel
theorem dX6_fix_86 : decode cX6_fix 86 = .ok (.iconst 1, 1) := by decide +kernel
theorem dX6_fix_87 : decode cX6_fix 87 = .ok (.iadd, 1) := by decide +kernel
theorem dX6_fix_88 : decode cX6_fix 88 = .ok (.goto 7, 3) := by decide +kernel
theorem dX6_fix_91 : decode cX6_fix 91 = .ok (.aload_n 0, 1) := by decide +kernel
theorem dX6_fix_92 : decode cX6_fix 92 = .ok (.getfield 329, 3) := by decide +kernel
theorem dX6_fix_95 : decode cX6_fix 95 = .ok (.putfield 329, 3) := by decide +kernel
theorem dX6_fix_98 : decode cX6_fix 98 = .ok (.aload_n 0, 1) := by decide +kernel
theorem dX6_fix_99 : decode cX6_fix 99 = .ok (.invokevirtual 335, 3) := by decide +kernel
theorem dX6_fix_102 : decode cX6_fix 102 = .ok (.ireturn, 1) := by decide +kernel
theorem dX6_draw_0 : decode cX6_draw 0 = .ok (.aload_n 0, 1) := by decide +kernel
theorem dX6_draw_1 : decode cX6_draw 1 = .ok (.ldc_w 339, 3) := by decide +kernel
theorem dX6_draw_4 : decode cX6_draw 4 = .ok (.aload_n 0, 1) := by decide +kernel
theorem dX6_draw_5 : decode cX6_draw 5 = .ok (.getfield 340, 3) := by decide +kernel
theorem dX6_draw_8 : decode cX6_draw 8 = .ok (.imul, 1) := by decide +kernel
theorem dX6_draw_9 : decode cX6_draw 9 = .ok (.sipush 12345, 3) := by decide +kernel
theorem dX6_draw_12 : decode cX6_draw 12 = .ok (.iadd, 1) := by decide +kernel
theorem dX6_draw_13 : decode cX6_draw 13 = .ok (.putfield 340, 3) := by decide +kernel
theorem dX6_draw_16 : decode cX6_draw 16 = .ok (.aload_n 0, 1) := by decide +kernel
theorem dX6_draw_17 : decode cX6_draw 17 = .ok (.getfield 340, 3) := by decide +kernel
theorem dX6_draw_20 : decode cX6_draw 20 = .ok (.bipush 16, 2) := by decide +kernel
theorem dX6_draw_22 : decode cX6_draw 22 = .ok (.iushr, 1) := by decide +kernel
theorem dX6_draw_23 : decode cX6_draw 23 = .ok (.ireturn, 1) := by decide +kernel
theorem dX6_isTrue_0 : decode cX6_isTrue 0 = .ok (.iload_n 0, 1) := by decide +kernel
theorem dX6_isTrue_1 : decode cX6_isTrue 1 = .ok (.ifCond .ne 18, 3) := by decide +kernel
theorem dX6_isTrue_4 : decode cX6_isTrue 4 = .ok (.iload_n 1, 1) := by decide +kernel
theorem dX6_isTrue_5 : decode cX6_isTrue 5 = .ok (.iload_n 2, 1) := by decide +kernel
theorem dX6_isTrue_6 : decode cX6_isTrue 6 = .ok (.iadd, 1) := by decide +kernel
theorem dX6_isTrue_7 : decode cX6_isTrue 7 = .ok (.iload_n 3, 1) := by decide +kernel
theorem dX6_isTrue_8 : decode cX6_isTrue 8 = .ok (.if_icmp .ne 7, 3) := by decide +kernel
theorem dX6_isTrue_11 : decode cX6_isTrue 11 = .ok (.iconst 1, 1) := by decide +kernel
theorem dX6_isTrue_12 : decode cX6_isTrue 12 = .ok (.goto 39, 3) := by decide +kernel
theorem dX6_isTrue_15 : decode cX6_isTrue 15 = .ok (.iconst 0, 1) := by decide +kernel
theorem dX6_isTrue_16 : decode cX6_isTrue 16 = .ok (.goto 35, 3) := by decide +kernel
theorem dX6_isTrue_19 : decode cX6_isTrue 19 = .ok (.iload_n 0, 1) := by decide +kernel
theorem dX6_isTrue_20 : decode cX6_isTrue 20 = .ok (.iconst 1, 1) := by decide +kernel
theorem dX6_isTrue_21 : decode cX6_isTrue 21 = .ok (.if_icmp .ne 18, 3) := by decide +kernel
theorem dX6_isTrue_24 : decode cX6_isTrue 24 = .ok (.iload_n 1, 1) := by decide +kernel
theorem dX6_isTrue_25 : decode cX6_isTrue 25 = .ok (.iload_n 2, 1) := by decide +kernel
theorem dX6_isTrue_26 : decode cX6_isTrue 26 = .ok (.isub, 1) := by decide +kernel
theorem dX6_isTrue_27 : decode cX6_isTrue 27 = .ok (.iload_n 3, 1) := by decide +kernel
theorem dX6_isTrue_28 : decode cX6_isTrue 28 = .ok (.if_icmp .ne 7, 3) := by decide +kernel
theorem dX6_isTrue_31 : decode cX6_isTrue 31 = .ok (.iconst 1, 1) := by decide +kernel
theorem dX6_isTrue_32 : decode cX6_isTrue 32 = .ok (.goto 19, 3) := by decide +kernel
theorem dX6_isTrue_35 : decode cX6_isTrue 35 = .ok (.iconst 0, 1) := by decide +kernel
theorem dX6_isTrue_36 : decode cX6_isTrue 36 = .ok (.goto 15, 3) := by decide +kernel
theorem dX6_isTrue_39 : decode cX6_isTrue 39 = .ok (.iload_n 1, 1) := by decide +kernel
theorem dX6_isTrue_40 : decode cX6_isTrue 40 = .ok (.iload_n 2, 1) := by decide +kernel
theorem dX6_isTrue_41 : decode cX6_isTrue 41 = .ok (.imul, 1) := by decide +kernel
theorem dX6_isTrue_42 : decode cX6_isTrue 42 = .ok (.iload_n 3, 1) := by decide +kernel
theorem dX6_isTrue_43 : decode cX6_isTrue 43 = .ok (.if_icmp .ne 7, 3) := by decide +kernel
theorem dX6_isTrue_46 : decode cX6_isTrue 46 = .ok (.iconst 1, 1) := by decide +kernel
theorem dX6_isTrue_47 : decode cX6_isTrue 47 = .ok (.goto 4, 3) := by decide +kernel
theorem dX6_isTrue_50 : decode cX6_isTrue 50 = .ok (.iconst 0, 1) := by decide +kernel
theorem dX6_isTrue_51 : decode cX6_isTrue 51 = .ok (.ireturn, 1) := by decide +kernel
theorem dX6_numberAt_0 : decode cX6_numberAt 0 = .ok (.iconst 0, 1) := by decide +kernel
theorem dX6_numberAt_1 : decode cX6_numberAt 1 = .ok (.istore_n 3, 1) := by decide +kernel
theorem dX6_numberAt_2 : decode cX6_numberAt 2 = .ok (.iload_n 1, 1) := by decide +kernel
theorem dX6_numberAt_3 : decode cX6_numberAt 3 = .ok (.istore 4, 2) := by decide +kernel
theorem dX6_numberAt_5 : decode cX6_numberAt 5 = .ok (.iload 4, 2) := by decide +kernel
theorem dX6_numberAt_7 : decode cX6_numberAt 7 = .ok (.iload_n 2, 1) := by decide +kernel
theorem dX6_numberAt_8 : decode cX6_numberAt 8 = .ok (.if_icmp .ge 22, 3) := by decide +kernel
theorem dX6_numberAt_11 : decode cX6_numberAt 11 = .ok (.bipush 10, 2) := by decide +kernel
theorem dX6_numberAt_13 : decode cX6_numberAt 13 = .ok (.iload_n 3, 1) := by decide +kernel
theorem dX6_numberAt_14 : decode cX6_numberAt 14 = .ok (.imul, 1) := by decide +kernel
theorem dX6_numberAt_15 : decode cX6_numberAt 15 = .ok (.aload_n 0, 1) := by decide +kernel
theorem dX6_numberAt_16 : decode cX6_numberAt 16 = .ok (.getfield 83, 3) := by decide +kernel
theorem dX6_numberAt_19 : decode cX6_numberAt 19 = .ok (.iload 4, 2) := by decide +kernel
theorem dX6_numberAt_21 : decode cX6_numberAt 21 = .ok (.iaload, 1) := by decide +kernel
theorem dX6_numberAt_22 : decode cX6_numberAt 22 = .ok (.iadd, 1) := by decide +kernel
theorem dX6_numberAt_23 : decode cX6_numberAt 23 = .ok (.istore_n 3, 1) := by decide +kernel
theorem dX6_numberAt_24 : decode cX6_numberAt 24 = .ok (.iinc 4 1, 3) := by decide +kernel
theorem dX6_numberAt_27 : decode cX6_numberAt 27 = .ok (.goto (-22), 3) := by decide +kernel
theorem dX6_numberAt_30 : decode cX6_numberAt 30 = .ok (.iload_n 3, 1) := by decide +kernel
theorem dX6_numberAt_31 : decode cX6_numberAt 31 = .ok (.ireturn, 1) := by decide +kernel
theorem dX6_findFillings_0 : decode cX6_findFillings 0 = .ok (.iconst 0, 1) := by decide +kernel
theorem dX6_findFillings_1 : decode cX6_findFillings 1 = .ok (.istore_n 2, 1) := by decide +kernel
theorem dX6_findFillings_2 : decode cX6_findFillings 2 = .ok (.iconst 0, 1) := by decide +kernel
theorem dX6_findFillings_3 : decode cX6_findFillings 3 = .ok (.istore_n 3, 1) := by decide +kernel
theorem dX6_findFillings_4 : decode cX6_findFillings 4 = .ok (.iload_n 3, 1) := by decide +kernel
theorem dX6_findFillings_5 : decode cX6_findFillings 5 = .ok (.bipush 12, 2) := by decide +kernel
theorem dX6_findFillings_7 : decode cX6_findFillings 7 = .ok (.if_icmp .ge 50, 3) := by decide +kernel
theorem dX6_findFillings_10 : decode cX6_findFillings 10 = .ok (.aload_n 0, 1) := by decide +kernel
theorem dX6_findFillings_11 : decode cX6_findFillings 11 = .ok (.getfield 83, 3) := by decide +kernel
theorem dX6_findFillings_14 : decode cX6_findFillings 14 = .ok (.iload_n 3, 1) := by decide +kernel
theorem dX6_findFillings_15 : decode cX6_findFillings 15 = .ok (.aload_n 0, 1) := by decide +kernel
theorem dX6_findFillings_16 : decode cX6_findFillings 16 = .ok (.getfield 71, 3) := by decide +kernel
theorem dX6_findFillings_19 : decode cX6_findFillings 19 = .ok (.bipush 12, 2) := by decide +kernel
theorem dX6_findFillings_21 : decode cX6_findFillings 21 = .ok (.iload_n 1, 1) := by decide +kernel
theorem dX6_findFillings_22 : decode cX6_findFillings 22 = .ok (.imul, 1) := by decide +kernel
theorem dX6_findFillings_23 : decode cX6_findFillings 23 = .ok (.iload_n 3, 1) := by decide +kernel
theorem dX6_findFillings_24 : decode cX6_findFillings 24 = .ok (.iadd, 1) := by decide +kernel
theorem dX6_findFillings_25 : decode cX6_findFillings 25 = .ok (.iaload, 1) := by decide +kernel
theorem dX6_findFillings_26 : decode cX6_findFillings 26 = .ok (.iastore, 1) := by decide +kernel
theorem dX6_findFillings_27 : decode cX6_findFillings 27 = .ok (.aload_n 0, 1) := by decide +kernel
theorem dX6_findFillings_28 : decode cX6_findFillings 28 = .ok (.getfield 74, 3) := by decide +kernel
theorem dX6_findFillings_31 : decode cX6_findFillings 31 = .ok (.bipush 12, 2) := by decide +kernel
theorem dX6_findFillings_33 : decode cX6_findFillings 33 = .ok (.iload_n 1, 1) := by decide +kernel
theorem dX6_findFillings_34 : decode cX6_findFillings 34 = .ok (.imul, 1) := by decide +kernel
theorem dX6_findFillings_35 : decode cX6_findFillings 35 = .ok (.iload_n 3, 1) := by decide +kernel
theorem dX6_findFillings_36 : decode cX6_findFillings 36 = .ok (.iadd, 1) := by decide +kernel
theorem dX6_findFillings_37 : decode cX6_findFillings 37 = .ok (.baload, 1) := by decide +kernel
theorem dX6_findFillings_38 : decode cX6_findFillings 38 = .ok (.ifCond .eq 13, 3) := by decide +kernel
theorem dX6_findFillings_41 : decode cX6_findFillings 41 = .ok (.aload_n 0, 1) := by decide +kernel
theorem dX6_findFillings_42 : decode cX6_findFillings 42 = .ok (.getfield 86, 3) := by decide +kernel
theorem dX6_findFillings_45 : decode cX6_findFillings 45 = .ok (.iload_n 2, 1) := by decide +kernel
theorem dX6_findFillings_46 : decode cX6_findFillings 46 = .ok (.iload_n 3, 1) := by decide +kernel
theorem dX6_findFillings_47 : decode cX6_findFillings 47 = .ok (.iastore, 1) := by decide +kernel
theorem dX6_findFillings_48 : decode cX6_findFillings 48 = .ok (.iinc 2 1, 3) := by decide +kernel
theorem dX6_findFillings_51 : decode cX6_findFillings 51 = .ok (.iinc 3 1, 3) := by decide +kernel
theorem dX6_findFillings_54 : decode cX6_findFillings 54 = .ok (.goto (-50), 3) := by decide +kernel
theorem dX6_findFillings_57 : decode cX6_findFillings 57 = .ok (.iconst 1, 1) := by decide +kernel
theorem dX6_findFillings_58 : decode cX6_findFillings 58 = .ok (.istore_n 3, 1) := by decide +kernel
theorem dX6_findFillings_59 : decode cX6_findFillings 59 = .ok (.iconst 0, 1) := by decide +kernel
theorem dX6_findFillings_60 : decode cX6_findFillings 60 = .ok (.istore 4, 2) := by decide +kernel
theorem dX6_findFillings_62 : decode cX6_findFillings 62 = .ok (.iload 4, 2) := by decide +kernel
theorem dX6_findFillings_64 : decode cX6_findFillings 64 = .ok (.iload_n 2, 1) := by decide +kernel
theorem dX6_findFillings_65 : decode cX6_findFillings 65 = .ok (.if_icmp .ge 14, 3) := by decide +kernel
theorem dX6_findFillings_68 : decode cX6_findFillings 68 = .ok (.iload_n 3, 1) := by decide +kernel
theorem dX6_findFillings_69 : decode cX6_findFillings 69 = .ok (.bipush 10, 2) := by decide +kernel
theorem dX6_findFillings_71 : decode cX6_findFillings 71 = .ok (.imul, 1) := by decide +kernel
theorem dX6_findFillings_72 : decode cX6_findFillings 72 = .ok (.istore_n 3, 1) := by decide +kernel
theorem dX6_findFillings_73 : decode cX6_findFillings 73 = .ok (.iinc 4 1, 3) := by decide +kernel
theorem dX6_findFillings_76 : decode cX6_findFillings 76 = .ok (.goto (-14), 3) := by decide +kernel
theorem dX6_findFillings_79 : decode cX6_findFillings 79 = .ok (.iconst 0, 1) := by decide +kernel
theorem dX6_findFillings_80 : decode cX6_findFillings 80 = .ok (.istore 4, 2) := by decide +kernel
theorem dX6_findFillings_82 : decode cX6_findFillings 82 = .ok (.iload 4, 2) := by decide +kernel
theorem dX6_findFillings_84 : decode cX6_findFillings 84 = .ok (.iload_n 3, 1) := by decide +kernel
theorem dX6_findFillings_85 : decode cX6_findFillings 85 = .ok (.if_icmp .ge 140, 3) := by decide +kernel
theorem dX6_findFillings_88 : decode cX6_findFillings 88 = .ok (.iload 4, 2) := by decide +kernel
theorem dX6_findFillings_90 : decode cX6_findFillings 90 = .ok (.istore 5, 2) := by decide +kernel
theorem dX6_findFillings_92 : decode cX6_findFillings 92 = .ok (.iload_n 2, 1) := by decide +kernel
theorem dX6_findFillings_93 : decode cX6_findFillings 93 = .ok (.iconst 1, 1) := by decide +kernel
theorem dX6_findFillings_94 : decode cX6_findFillings 94 = .ok (.isub, 1) := by decide +kernel
theorem dX6_findFillings_95 : decode cX6_findFillings 95 = .ok (.istore 6, 2) := by decide +kernel
theorem dX6_findFillings_97 : decode cX6_findFillings 97 = .ok (.iload 6, 2) := by decide +kernel
theorem dX6_findFillings_99 : decode cX6_findFillings 99 = .ok (.ifCond .lt 33, 3) := by decide +kernel
theorem dX6_findFillings_102 : decode cX6_findFillings 102 = .ok (.aload_n 0, 1) := by decide +kernel
theorem dX6_findFillings_103 : decode cX6_findFillings 103 = .ok (.getfield 83, 3) := by decide +kernel
theorem dX6_findFillings_106 : decode cX6_findFillings 106 = .ok (.aload_n 0, 1) := by decide +kernel
theorem dX6_findFillings_107 : decode cX6_findFillings 107 = .ok (.getfield 86, 3) := by decide +kernel
theorem dX6_findFillings_110 : decode cX6_findFillings 110 = .ok (.iload 6, 2) := by decide +kernel
theorem dX6_findFillings_112 : decode cX6_findFillings 112 = .ok (.iaload, 1) := by decide +kernel
theorem dX6_findFillings_113 : decode cX6_findFillings 113 = .ok (.iload 5, 2) := by decide +kernel
theorem dX6_findFillings_115 : decode cX6_findFillings 115 = .ok (.bipush 10, 2) := by decide +kernel
theorem dX6_findFillings_117 : decode cX6_findFillings 117 = .ok (.irem, 1) := by decide +kernel
theorem dX6_findFillings_118 : decode cX6_findFillings 118 = .ok (.iastore, 1) := by decide +kernel
theorem dX6_findFillings_119 : decode cX6_findFillings 119 = .ok (.iload 5, 2) := by decide +kernel
theorem dX6_findFillings_121 : decode cX6_findFillings 121 = .ok (.bipush 10, 2) := by decide +kernel
theorem dX6_findFillings_123 : decode cX6_findFillings 123 = .ok (.idiv, 1) := by decide +kernel
theorem dX6_findFillings_124 : decode cX6_findFillings 124 = .ok (.istore 5, 2) := by decide +kernel
theorem dX6_findFillings_126 : decode cX6_findFillings 126 = .ok (.iinc 6 (-1), 3) := by decide +kernel
theorem dX6_findFillings_129 : decode cX6_findFillings 129 = .ok (.goto (-32), 3) := by decide +kernel
theorem dX6_findFillings_132 : decode cX6_findFillings 132 = .ok (.aload_n 0, 1) := by decide +kernel
theorem dX6_findFillings_133 : decode cX6_findFillings 133 = .ok (.getfield 68, 3) := by decide +kernel
theorem dX6_findFillings_136 : decode cX6_findFillings 136 = .ok (.iload_n 1, 1) := by decide +kernel
theorem dX6_findFillings_137 : decode cX6_findFillings 137 = .ok (.iaload, 1) := by decide +kernel
theorem dX6_findFillings_138 : decode cX6_findFillings 138 = .ok (.aload_n 0, 1) := by decide +kernel
theorem dX6_findFillings_139 : decode cX6_findFillings 139 = .ok (.iconst 0, 1) := by decide +kernel
theorem dX6_findFillings_140 : decode cX6_findFillings 140 = .ok (.iconst 3, 1) := by decide +kernel
theorem dX6_findFillings_141 : decode cX6_findFillings 141 = .ok (.invokevirtual 343, 3) := by decide +kernel
theorem dX6_findFillings_144 : decode cX6_findFillings 144 = .ok (.aload_n 0, 1) := by decide +kernel
theorem dX6_findFillings_145 : decode cX6_findFillings 145 = .ok (.iconst 3, 1) := by decide +kernel
theorem dX6_findFillings_146 : decode cX6_findFillings 146 = .ok (.bipush 6, 2) := by decide +kernel
theorem dX6_findFillings_148 : decode cX6_findFillings 148 = .ok (.invokevirtual 343, 3) := by decide +kernel
theorem dX6_findFillings_151 : decode cX6_findFillings 151 = .ok (.aload_n 0, 1) := by decide +kernel
theorem dX6_findFillings_152 : decode cX6_findFillings 152 = .ok (.bipush 6, 2) := by decide +kernel
theorem dX6_findFillings_154 : decode cX6_findFillings 154 = .ok (.bipush 12, 2) := by decide +kernel
theorem dX6_findFillings_156 : decode cX6_findFillings 156 = .ok (.invokevirtual 343, 3) := by decide +kernel
theorem dX6_findFillings_159 : decode cX6_findFillings 159 = .ok (.invokestatic 346, 3) := by decide +kernel
theorem dX6_findFillings_162 : decode cX6_findFillings 162 = .ok (.ifCond .eq 57, 3) := by decide +kernel
theorem dX6_findFillings_165 : decode cX6_findFillings 165 = .ok (.aload_n 0, 1) := by decide +kernel
