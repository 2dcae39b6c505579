theorem dX6_findFillings_166 : decode cX6_findFillings 166 = .ok (.getfield 80, 3) := by decide +kernel
theorem dX6_findFillings_169 : decode cX6_findFillings 169 = .ok (.iload_n 1, 1) := by decide +kernel
theorem dX6_findFillings_170 : decode cX6_findFillings 170 = .ok (.iaload, 1) := by decide +kernel
theorem dX6_findFillings_171 : decode cX6_findFillings 171 = .ok (.ifCond .ne 38, 3) := by decide +kernel
theorem dX6_findFillings_174 : decode cX6_findFillings 174 = .ok (.iconst 0, 1) := by decide +kernel
theorem dX6_findFillings_175 : decode cX6_findFillings 175 = .ok (.istore 6, 2) := by decide +kernel
theorem dX6_findFillings_177 : decode cX6_findFillings 177 = .ok (.iload 6, 2) := by decide +kernel
theorem dX6_findFillings_179 : decode cX6_findFillings 179 = .ok (.bipush 12, 2) := by decide +kernel
theorem dX6_findFillings_181 : decode cX6_findFillings 181 = .ok (.if_icmp .ge 28, 3) := by decide +kernel
theorem dX6_findFillings_184 : decode cX6_findFillings 184 = .ok (.aload_n 0, 1) := by decide +kernel
theorem dX6_findFillings_185 : decode cX6_findFillings 185 = .ok (.getfield 77, 3) := by decide +kernel
theorem dX6_findFillings_188 : decode cX6_findFillings 188 = .ok (.bipush 12, 2) := by decide +kernel
theorem dX6_findFillings_190 : decode cX6_findFillings 190 = .ok (.iload_n 1, 1) := by decide +kernel
theorem dX6_findFillings_191 : decode cX6_findFillings 191 = .ok (.imul, 1) := by decide +kernel
theorem dX6_findFillings_192 : decode cX6_findFillings 192 = .ok (.iload 6, 2) := by decide +kernel
theorem dX6_findFillings_194 : decode cX6_findFillings 194 = .ok (.iadd, 1) := by decide +kernel
theorem dX6_findFillings_195 : decode cX6_findFillings 195 = .ok (.aload_n 0, 1) := by decide +kernel
theorem dX6_findFillings_196 : decode cX6_findFillings 196 = .ok (.getfield 83, 3) := by decide +kernel
theorem dX6_findFillings_199 : decode cX6_findFillings 199 = .ok (.iload 6, 2) := by decide +kernel
theorem dX6_findFillings_201 : decode cX6_findFillings 201 = .ok (.iaload, 1) := by decide +kernel
theorem dX6_findFillings_202 : decode cX6_findFillings 202 = .ok (.iastore, 1) := by decide +kernel
theorem dX6_findFillings_203 : decode cX6_findFillings 203 = .ok (.iinc 6 1, 3) := by decide +kernel
theorem dX6_findFillings_206 : decode cX6_findFillings 206 = .ok (.goto (-29), 3) := by decide +kernel
theorem dX6_findFillings_209 : decode cX6_findFillings 209 = .ok (.aload_n 0, 1) := by decide +kernel
theorem dX6_findFillings_210 : decode cX6_findFillings 210 = .ok (.getfield 80, 3) := by decide +kernel
theorem dX6_findFillings_213 : decode cX6_findFillings 213 = .ok (.iload_n 1, 1) := by decide +kernel
theorem dX6_findFillings_214 : decode cX6_findFillings 214 = .ok (.dup2, 1) := by decide +kernel
theorem dX6_findFillings_215 : decode cX6_findFillings 215 = .ok (.iaload, 1) := by decide +kernel
theorem dX6_findFillings_216 : decode cX6_findFillings 216 = .ok (.iconst 1, 1) := by decide +kernel
theorem dX6_findFillings_217 : decode cX6_findFillings 217 = .ok (.iadd, 1) := by decide +kernel
theorem dX6_findFillings_218 : decode cX6_findFillings 218 = .ok (.iastore, 1) := by decide +kernel
theorem dX6_findFillings_219 : decode cX6_findFillings 219 = .ok (.iinc 4 1, 3) := by decide +kernel
theorem dX6_findFillings_222 : decode cX6_findFillings 222 = .ok (.goto (-140), 3) := by decide +kernel
theorem dX6_findFillings_225 : decode cX6_findFillings 225 = .ok (.return_, 1) := by decide +kernel
theorem dX6_writeNumber_0 : decode cX6_writeNumber 0 = .ok (.iload_n 3, 1) := by decide +kernel
theorem dX6_writeNumber_1 : decode cX6_writeNumber 1 = .ok (.istore 4, 2) := by decide +kernel
theorem dX6_writeNumber_3 : decode cX6_writeNumber 3 = .ok (.iload_n 2, 1) := by decide +kernel
theorem dX6_writeNumber_4 : decode cX6_writeNumber 4 = .ok (.iconst 1, 1) := by decide +kernel
theorem dX6_writeNumber_5 : decode cX6_writeNumber 5 = .ok (.isub, 1) := by decide +kernel
theorem dX6_writeNumber_6 : decode cX6_writeNumber 6 = .ok (.istore 5, 2) := by decide +kernel
theorem dX6_writeNumber_8 : decode cX6_writeNumber 8 = .ok (.iload 5, 2) := by decide +kernel
theorem dX6_writeNumber_10 : decode cX6_writeNumber 10 = .ok (.ifCond .lt 30, 3) := by decide +kernel
theorem dX6_writeNumber_13 : decode cX6_writeNumber 13 = .ok (.aload_n 0, 1) := by decide +kernel
theorem dX6_writeNumber_14 : decode cX6_writeNumber 14 = .ok (.getfield 71, 3) := by decide +kernel
theorem dX6_writeNumber_17 : decode cX6_writeNumber 17 = .ok (.iload_n 1, 1) := by decide +kernel
theorem dX6_writeNumber_18 : decode cX6_writeNumber 18 = .ok (.iload 5, 2) := by decide +kernel
theorem dX6_writeNumber_20 : decode cX6_writeNumber 20 = .ok (.iadd, 1) := by decide +kernel
theorem dX6_writeNumber_21 : decode cX6_writeNumber 21 = .ok (.iload 4, 2) := by decide +kernel
theorem dX6_writeNumber_23 : decode cX6_writeNumber 23 = .ok (.bipush 10, 2) := by decide +kernel
theorem dX6_writeNumber_25 : decode cX6_writeNumber 25 = .ok (.irem, 1) := by decide +kernel
theorem dX6_writeNumber_26 : decode cX6_writeNumber 26 = .ok (.iastore, 1) := by decide +kernel
theorem dX6_writeNumber_27 : decode cX6_writeNumber 27 = .ok (.iload 4, 2) := by decide +kernel
theorem dX6_writeNumber_29 : decode cX6_writeNumber 29 = .ok (.bipush 10, 2) := by decide +kernel
theorem dX6_writeNumber_31 : decode cX6_writeNumber 31 = .ok (.idiv, 1) := by decide +kernel
theorem dX6_writeNumber_32 : decode cX6_writeNumber 32 = .ok (.istore 4, 2) := by decide +kernel
theorem dX6_writeNumber_34 : decode cX6_writeNumber 34 = .ok (.iinc 5 (-1), 3) := by decide +kernel
theorem dX6_writeNumber_37 : decode cX6_writeNumber 37 = .ok (.goto (-29), 3) := by decide +kernel
theorem dX6_writeNumber_40 : decode cX6_writeNumber 40 = .ok (.return_, 1) := by decide +kernel
theorem dX6_exercise_0 : decode cX6_exercise 0 = .ok (.iload_n 1, 1) := by decide +kernel
theorem dX6_exercise_1 : decode cX6_exercise 1 = .ok (.i2l, 1) := by decide +kernel
theorem dX6_exercise_2 : decode cX6_exercise 2 = .ok (.lconst 0, 1) := by decide +kernel
theorem dX6_exercise_3 : decode cX6_exercise 3 = .ok (.ldc2_w 135, 3) := by decide +kernel
theorem dX6_exercise_6 : decode cX6_exercise 6 = .ok (.invokestatic 92, 3) := by decide +kernel
theorem dX6_exercise_9 : decode cX6_exercise 9 = .ok (.ifCond .ne 6, 3) := by decide +kernel
theorem dX6_exercise_12 : decode cX6_exercise 12 = .ok (.bipush (-2), 2) := by decide +kernel
theorem dX6_exercise_14 : decode cX6_exercise 14 = .ok (.ireturn, 1) := by decide +kernel
theorem dX6_exercise_15 : decode cX6_exercise 15 = .ok (.aload_n 0, 1) := by decide +kernel
theorem dX6_exercise_16 : decode cX6_exercise 16 = .ok (.getfield 349, 3) := by decide +kernel
theorem dX6_exercise_19 : decode cX6_exercise 19 = .ok (.sipush 200, 3) := by decide +kernel
theorem dX6_exercise_22 : decode cX6_exercise 22 = .ok (.if_icmp .ne 6, 3) := by decide +kernel
theorem dX6_exercise_25 : decode cX6_exercise 25 = .ok (.bipush (-4), 2) := by decide +kernel
theorem dX6_exercise_27 : decode cX6_exercise 27 = .ok (.ireturn, 1) := by decide +kernel
theorem dX6_exercise_28 : decode cX6_exercise 28 = .ok (.aload_n 0, 1) := by decide +kernel
theorem dX6_exercise_29 : decode cX6_exercise 29 = .ok (.getfield 349, 3) := by decide +kernel
theorem dX6_exercise_32 : decode cX6_exercise 32 = .ok (.istore_n 3, 1) := by decide +kernel
theorem dX6_exercise_33 : decode cX6_exercise 33 = .ok (.aload_n 0, 1) := by decide +kernel
theorem dX6_exercise_34 : decode cX6_exercise 34 = .ok (.iload_n 2, 1) := by decide +kernel
theorem dX6_exercise_35 : decode cX6_exercise 35 = .ok (.putfield 340, 3) := by decide +kernel
theorem dX6_exercise_38 : decode cX6_exercise 38 = .ok (.aload_n 0, 1) := by decide +kernel
theorem dX6_exercise_39 : decode cX6_exercise 39 = .ok (.invokevirtual 352, 3) := by decide +kernel
theorem dX6_exercise_42 : decode cX6_exercise 42 = .ok (.sipush 1000, 3) := by decide +kernel
theorem dX6_exercise_45 : decode cX6_exercise 45 = .ok (.irem, 1) := by decide +kernel
theorem dX6_exercise_46 : decode cX6_exercise 46 = .ok (.istore 4, 2) := by decide +kernel
theorem dX6_exercise_48 : decode cX6_exercise 48 = .ok (.aload_n 0, 1) := by decide +kernel
theorem dX6_exercise_49 : decode cX6_exercise 49 = .ok (.invokevirtual 352, 3) := by decide +kernel
theorem dX6_exercise_52 : decode cX6_exercise 52 = .ok (.sipush 1000, 3) := by decide +kernel
theorem dX6_exercise_55 : decode cX6_exercise 55 = .ok (.irem, 1) := by decide +kernel
theorem dX6_exercise_56 : decode cX6_exercise 56 = .ok (.istore 5, 2) := by decide +kernel
theorem dX6_exercise_58 : decode cX6_exercise 58 = .ok (.iload_n 1, 1) := by decide +kernel
theorem dX6_exercise_59 : decode cX6_exercise 59 = .ok (.iconst 1, 1) := by decide +kernel
theorem dX6_exercise_60 : decode cX6_exercise 60 = .ok (.if_icmp .ne 22, 3) := by decide +kernel
theorem dX6_exercise_63 : decode cX6_exercise 63 = .ok (.iload 4, 2) := by decide +kernel
theorem dX6_exercise_65 : decode cX6_exercise 65 = .ok (.iload 5, 2) := by decide +kernel
theorem dX6_exercise_67 : decode cX6_exercise 67 = .ok (.if_icmp .ge 15, 3) := by decide +kernel
theorem dX6_exercise_70 : decode cX6_exercise 70 = .ok (.iload 4, 2) := by decide +kernel
theorem dX6_exercise_72 : decode cX6_exercise 72 = .ok (.istore 6, 2) := by decide +kernel
theorem dX6_exercise_74 : decode cX6_exercise 74 = .ok (.iload 5, 2) := by decide +kernel
theorem dX6_exercise_76 : decode cX6_exercise 76 = .ok (.istore 4, 2) := by decide +kernel
theorem dX6_exercise_78 : decode cX6_exercise 78 = .ok (.iload 6, 2) := by decide +kernel
theorem dX6_exercise_80 : decode cX6_exercise 80 = .ok (.istore 5, 2) := by decide +kernel
theorem dX6_exercise_82 : decode cX6_exercise 82 = .ok (.aload_n 0, 1) := by decide +kernel
theorem dX6_exercise_83 : decode cX6_exercise 83 = .ok (.getfield 68, 3) := by decide +kernel
theorem dX6_exercise_86 : decode cX6_exercise 86 = .ok (.iload_n 3, 1) := by decide +kernel
theorem dX6_exercise_87 : decode cX6_exercise 87 = .ok (.iload_n 1, 1) := by decide +kernel
theorem dX6_exercise_88 : decode cX6_exercise 88 = .ok (.iastore, 1) := by decide +kernel
theorem dX6_exercise_89 : decode cX6_exercise 89 = .ok (.aload_n 0, 1) := by decide +kernel
theorem dX6_exercise_90 : decode cX6_exercise 90 = .ok (.bipush 12, 2) := by decide +kernel
theorem dX6_exercise_92 : decode cX6_exercise 92 = .ok (.iload_n 3, 1) := by decide +kernel
theorem dX6_exercise_93 : decode cX6_exercise 93 = .ok (.imul, 1) := by decide +kernel
theorem dX6_exercise_94 : decode cX6_exercise 94 = .ok (.iconst 3, 1) := by decide +kernel
theorem dX6_exercise_95 : decode cX6_exercise 95 = .ok (.iload 4, 2) := by decide +kernel
theorem dX6_exercise_97 : decode cX6_exercise 97 = .ok (.invokevirtual 355, 3) := by decide +kernel
theorem dX6_exercise_100 : decode cX6_exercise 100 = .ok (.aload_n 0, 1) := by decide +kernel
theorem dX6_exercise_101 : decode cX6_exercise 101 = .ok (.bipush 12, 2) := by decide +kernel
theorem dX6_exercise_103 : decode cX6_exercise 103 = .ok (.iload_n 3, 1) := by decide +kernel
theorem dX6_exercise_104 : decode cX6_exercise 104 = .ok (.imul, 1) := by decide +kernel
theorem dX6_exercise_105 : decode cX6_exercise 105 = .ok (.iconst 3, 1) := by decide +kernel
theorem dX6_exercise_106 : decode cX6_exercise 106 = .ok (.iadd, 1) := by decide +kernel
theorem dX6_exercise_107 : decode cX6_exercise 107 = .ok (.iconst 3, 1) := by decide +kernel
theorem dX6_exercise_108 : decode cX6_exercise 108 = .ok (.iload 5, 2) := by decide +kernel
theorem dX6_exercise_110 : decode cX6_exercise 110 = .ok (.invokevirtual 355, 3) := by decide +kernel
theorem dX6_exercise_113 : decode cX6_exercise 113 = .ok (.aload_n 0, 1) := by decide +kernel
theorem dX6_exercise_114 : decode cX6_exercise 114 = .ok (.bipush 12, 2) := by decide +kernel
theorem dX6_exercise_116 : decode cX6_exercise 116 = .ok (.iload_n 3, 1) := by decide +kernel
theorem dX6_exercise_117 : decode cX6_exercise 117 = .ok (.imul, 1) := by decide +kernel
theorem dX6_exercise_118 : decode cX6_exercise 118 = .ok (.bipush 6, 2) := by decide +kernel
theorem dX6_exercise_120 : decode cX6_exercise 120 = .ok (.iadd, 1) := by decide +kernel
theorem dX6_exercise_121 : decode cX6_exercise 121 = .ok (.bipush 6, 2) := by decide +kernel
theorem dX6_exercise_123 : decode cX6_exercise 123 = .ok (.iload_n 1, 1) := by decide +kernel
theorem dX6_exercise_124 : decode cX6_exercise 124 = .ok (.ifCond .ne 11, 3) := by decide +kernel
theorem dX6_exercise_127 : decode cX6_exercise 127 = .ok (.iload 4, 2) := by decide +kernel
theorem dX6_exercise_129 : decode cX6_exercise 129 = .ok (.iload 5, 2) := by decide +kernel
theorem dX6_exercise_131 : decode cX6_exercise 131 = .ok (.iadd, 1) := by decide +kernel
theorem dX6_exercise_132 : decode cX6_exercise 132 = .ok (.goto 21, 3) := by decide +kernel
theorem dX6_exercise_135 : decode cX6_exercise 135 = .ok (.iload_n 1, 1) := by decide +kernel
theorem dX6_exercise_136 : decode cX6_exercise 136 = .ok (.iconst 1, 1) := by decide +kernel
theorem dX6_exercise_137 : decode cX6_exercise 137 = .ok (.if_icmp .ne 11, 3) := by decide +kernel
theorem dX6_exercise_140 : decode cX6_exercise 140 = .ok (.iload 4, 2) := by decide +kernel
theorem dX6_exercise_142 : decode cX6_exercise 142 = .ok (.iload 5, 2) := by decide +kernel
theorem dX6_exercise_144 : decode cX6_exercise 144 = .ok (.isub, 1) := by decide +kernel
theorem dX6_exercise_145 : decode cX6_exercise 145 = .ok (.goto 8, 3) := by decide +kernel
theorem dX6_exercise_148 : decode cX6_exercise 148 = .ok (.iload 4, 2) := by decide +kernel
theorem dX6_exercise_150 : decode cX6_exercise 150 = .ok (.iload 5, 2) := by decide +kernel
theorem dX6_exercise_152 : decode cX6_exercise 152 = .ok (.imul, 1) := by decide +kernel
theorem dX6_exercise_153 : decode cX6_exercise 153 = .ok (.invokevirtual 355, 3) := by decide +kernel
theorem dX6_exercise_156 : decode cX6_exercise 156 = .ok (.iconst 0, 1) := by decide +kernel
theorem dX6_exercise_157 : decode cX6_exercise 157 = .ok (.istore 6, 2) := by decide +kernel
theorem dX6_exercise_159 : decode cX6_exercise 159 = .ok (.iload 6, 2) := by decide +kernel
theorem dX6_exercise_161 : decode cX6_exercise 161 = .ok (.bipush 12, 2) := by decide +kernel
theorem dX6_exercise_163 : decode cX6_exercise 163 = .ok (.if_icmp .ge 22, 3) := by decide +kernel
theorem dX6_exercise_166 : decode cX6_exercise 166 = .ok (.aload_n 0, 1) := by decide +kernel
theorem dX6_exercise_167 : decode cX6_exercise 167 = .ok (.getfield 74, 3) := by decide +kernel
theorem dX6_exercise_170 : decode cX6_exercise 170 = .ok (.bipush 12, 2) := by decide +kernel
theorem dX6_exercise_172 : decode cX6_exercise 172 = .ok (.iload_n 3, 1) := by decide +kernel
theorem dX6_exercise_173 : decode cX6_exercise 173 = .ok (.imul, 1) := by decide +kernel
theorem dX6_exercise_174 : decode cX6_exercise 174 = .ok (.iload 6, 2) := by decide +kernel
theorem dX6_exercise_176 : decode cX6_exercise 176 = .ok (.iadd, 1) := by decide +kernel
theorem dX6_exercise_177 : decode cX6_exercise 177 = .ok (.iconst 0, 1) := by decide +kernel
theorem dX6_exercise_178 : decode cX6_exercise 178 = .ok (.bastore, 1) := by decide +kernel
theorem dX6_exercise_179 : decode cX6_exercise 179 = .ok (.iinc 6 1, 3) := by decide +kernel
theorem dX6_exercise_182 : decode cX6_exercise 182 = .ok (.goto (-23), 3) := by decide +kernel
theorem dX6_exercise_185 : decode cX6_exercise 185 = .ok (.iconst 1, 1) := by decide +kernel
theorem dX6_exercise_186 : decode cX6_exercise 186 = .ok (.aload_n 0, 1) := by decide +kernel
theorem dX6_exercise_187 : decode cX6_exercise 187 = .ok (.invokevirtual 352, 3) := by decide +kernel
theorem dX6_exercise_190 : decode cX6_exercise 190 = .ok (.iconst 4, 1) := by decide +kernel
theorem dX6_exercise_191 : decode cX6_exercise 191 = .ok (.irem, 1) := by decide +kernel
theorem dX6_exercise_192 : decode cX6_exercise 192 = .ok (.iadd, 1) := by decide +kernel
theorem dX6_exercise_193 : decode cX6_exercise 193 = .ok (.istore 6, 2) := by decide +kernel
theorem dX6_exercise_195 : decode cX6_exercise 195 = .ok (.iconst 0, 1) := by decide +kernel
theorem dX6_exercise_196 : decode cX6_exercise 196 = .ok (.istore 7, 2) := by decide +kernel
theorem dX6_exercise_198 : decode cX6_exercise 198 = .ok (.iload 7, 2) := by decide +kernel
theorem dX6_exercise_200 : decode cX6_exercise 200 = .ok (.iload 6, 2) := by decide +kernel
theorem dX6_exercise_202 : decode cX6_exercise 202 = .ok (.if_icmp .ge 58, 3) := by decide +kernel
theorem dX6_exercise_205 : decode cX6_exercise 205 = .ok (.aload_n 0, 1) := by decide +kernel
theorem dX6_exercise_206 : decode cX6_exercise 206 = .ok (.invokevirtual 352, 3) := by decide +kernel
theorem dX6_exercise_209 : decode cX6_exercise 209 = .ok (.bipush 12, 2) := by decide +kernel
theorem dX6_exercise_211 : decode cX6_exercise 211 = .ok (.irem, 1) := by decide +kernel
theorem dX6_exercise_212 : decode cX6_exercise 212 = .ok (.istore 8, 2) := by decide +kernel
theorem dX6_exercise_214 : decode cX6_exercise 214 = .ok (.aload_n 0, 1) := by decide +kernel
theorem dX6_exercise_215 : decode cX6_exercise 215 = .ok (.getfield 74, 3) := by decide +kernel
theorem dX6_exercise_218 : decode cX6_exercise 218 = .ok (.bipush 12, 2) := by decide +kernel
theorem dX6_exercise_220 : decode cX6_exercise 220 = .ok (.iload_n 3, 1) := by decide +kernel
theorem dX6_exercise_221 : decode cX6_exercise 221 = .ok (.imul, 1) := by decide +kernel
theorem dX6_exercise_222 : decode cX6_exercise 222 = .ok (.iload 8, 2) := by decide +kernel
theorem dX6_exercise_224 : decode cX6_exercise 224 = .ok (.iadd, 1) := by decide +kernel
theorem dX6_exercise_225 : decode cX6_exercise 225 = .ok (.baload, 1) := by decide +kernel
theorem dX6_exercise_226 : decode cX6_exercise 226 = .ok (.ifCond .eq 15, 3) := by decide +kernel
theorem dX6_exercise_229 : decode cX6_exercise 229 = .ok (.iload 8, 2) := by decide +kernel
theorem dX6_exercise_231 : decode cX6_exercise 231 = .ok (.iconst 1, 1) := by decide +kernel
theorem dX6_exercise_232 : decode cX6_exercise 232 = .ok (.iadd, 1) := by decide +kernel
theorem dX6_exercise_233 : decode cX6_exercise 233 = .ok (.bipush 12, 2) := by decide +kernel
theorem dX6_exercise_235 : decode cX6_exercise 235 = .ok (.irem, 1) := by decide +kernel
theorem dX6_exercise_236 : decode cX6_exercise 236 = .ok (.istore 8, 2) := by decide +kernel
theorem dX6_exercise_238 : decode cX6_exercise 238 = .ok (.goto (-24), 3) := by decide +kernel
theorem dX6_exercise_241 : decode cX6_exercise 241 = .ok (.aload_n 0, 1) := by decide +kernel
theorem dX6_exercise_242 : decode cX6_exercise 242 = .ok (.getfield 74, 3) := by decide +kernel
theorem dX6_exercise_245 : decode cX6_exercise 245 = .ok (.bipush 12, 2) := by decide +kernel
theorem dX6_exercise_247 : decode cX6_exercise 247 = .ok (.iload_n 3, 1) := by decide +kernel
theorem dX6_exercise_248 : decode cX6_exercise 248 = .ok (.imul, 1) := by decide +kernel
theorem dX6_exercise_249 : decode cX6_exercise 249 = .ok (.iload 8, 2) := by decide +kernel
theorem dX6_exercise_251 : decode cX6_exercise 251 = .ok (.iadd, 1) := by decide +kernel
theorem dX6_exercise_252 : decode cX6_exercise 252 = .ok (.iconst 1, 1) := by decide +kernel
theorem dX6_exercise_253 : decode cX6_exercise 253 = .ok (.bastore, 1) := by decide +kernel
theorem dX6_exercise_254 : decode cX6_exercise 254 = .ok (.iinc 7 1, 3) := by decide +kernel
theorem dX6_exercise_257 : decode cX6_exercise 257 = .ok (.goto (-59), 3) := by decide +kernel
theorem dX6_exercise_260 : decode cX6_exercise 260 = .ok (.aload_n 0, 1) := by decide +kernel
theorem dX6_exercise_261 : decode cX6_exercise 261 = .ok (.getfield 80, 3) := by decide +kernel
theorem dX6_exercise_264 : decode cX6_exercise 264 = .ok (.iload_n 3, 1) := by decide +kernel
theorem dX6_exercise_265 : decode cX6_exercise 265 = .ok (.iconst 0, 1) := by decide +kernel
theorem dX6_exercise_266 : decode cX6_exercise 266 = .ok (.iastore, 1) := by decide +kernel
theorem dX6_exercise_267 : decode cX6_exercise 267 = .ok (.aload_n 0, 1) := by decide +kernel
theorem dX6_exercise_268 : decode cX6_exercise 268 = .ok (.iload_n 3, 1) := by decide +kernel
theorem dX6_exercise_269 : decode cX6_exercise 269 = .ok (.invokevirtual 359, 3) := by decide +kernel
theorem dX6_exercise_272 : decode cX6_exercise 272 = .ok (.aload_n 0, 1) := by decide +kernel
theorem dX6_exercise_273 : decode cX6_exercise 273 = .ok (.dup, 1) := by decide +kernel
theorem dX6_exercise_274 : decode cX6_exercise 274 = .ok (.getfield 349, 3) := by decide +kernel
theorem dX6_exercise_277 : decode cX6_exercise 277 = .ok (.iconst 1, 1) := by decide +kernel
theorem dX6_exercise_278 : decode cX6_exercise 278 = .ok (.iadd, 1) := by decide +kernel
theorem dX6_exercise_279 : decode cX6_exercise 279 = .ok (.putfield 349, 3) := by decide +kernel
theorem dX6_exercise_282 : decode cX6_exercise 282 = .ok (.iload_n 3, 1) := by decide +kernel
theorem dX6_exercise_283 : decode cX6_exercise 283 = .ok (.ireturn, 1) := by decide +kernel
theorem dX6_isExercise_0 : decode cX6_isExercise 0 = .ok (.iload_n 1, 1) := by decide +kernel
theorem dX6_isExercise_1 : decode cX6_isExercise 1 = .ok (.i2l, 1) := by decide +kernel
theorem dX6_isExercise_2 : decode cX6_isExercise 2 = .ok (.lconst 0, 1) := by decide +kernel
theorem dX6_isExercise_3 : decode cX6_isExercise 3 = .ok (.aload_n 0, 1) := by decide +kernel
theorem dX6_isExercise_4 : decode cX6_isExercise 4 = .ok (.getfield 349, 3) := by decide +kernel
theorem dX6_isExercise_7 : decode cX6_isExercise 7 = .ok (.iconst 1, 1) := by decide +kernel
theorem dX6_isExercise_8 : decode cX6_isExercise 8 = .ok (.isub, 1) := by decide +kernel
theorem dX6_isExercise_9 : decode cX6_isExercise 9 = .ok (.i2l, 1) := by decide +kernel
theorem dX6_isExercise_10 : decode cX6_isExercise 10 = .ok (.invokestatic 92, 3) := by decide +kernel
theorem dX6_isExercise_13 : decode cX6_isExercise 13 = .ok (.ireturn, 1) := by decide +kernel
theorem dX6_place_0 : decode cX6_place 0 = .ok (.aload_n 0, 1) := by decide +kernel
theorem dX6_place_1 : decode cX6_place 1 = .ok (.iload_n 1, 1) := by decide +kernel
theorem dX6_place_2 : decode cX6_place 2 = .ok (.invokevirtual 362, 3) := by decide +kernel
theorem dX6_place_5 : decode cX6_place 5 = .ok (.ifCond .ne 7, 3) := by decide +kernel
theorem dX6_place_8 : decode cX6_place 8 = .ok (.iconst (-1), 1) := by decide +kernel
theorem dX6_place_9 : decode cX6_place 9 = .ok (.goto 50, 3) := by decide +kernel
theorem dX6_place_12 : decode cX6_place 12 = .ok (.iload_n 2, 1) := by decide +kernel
theorem dX6_place_13 : decode cX6_place 13 = .ok (.i2l, 1) := by decide +kernel
theorem dX6_place_14 : decode cX6_place 14 = .ok (.lconst 0, 1) := by decide +kernel
theorem dX6_place_15 : decode cX6_place 15 = .ok (.ldc2_w 365, 3) := by decide +kernel
theorem dX6_place_18 : decode cX6_place 18 = .ok (.invokestatic 92, 3) := by decide +kernel
theorem dX6_place_21 : decode cX6_place 21 = .ok (.ifCond .ne 8, 3) := by decide +kernel
theorem dX6_place_24 : decode cX6_place 24 = .ok (.bipush (-2), 2) := by decide +kernel
theorem dX6_place_26 : decode cX6_place 26 = .ok (.goto 33, 3) := by decide +kernel
theorem dX6_place_29 : decode cX6_place 29 = .ok (.aload_n 0, 1) := by decide +kernel
theorem dX6_place_30 : decode cX6_place 30 = .ok (.getfield 74, 3) := by decide +kernel
theorem dX6_place_33 : decode cX6_place 33 = .ok (.bipush 12, 2) := by decide +kernel
theorem dX6_place_35 : decode cX6_place 35 = .ok (.iload_n 1, 1) := by decide +kernel
theorem dX6_place_36 : decode cX6_place 36 = .ok (.imul, 1) := by decide +kernel
theorem dX6_place_37 : decode cX6_place 37 = .ok (.iload_n 2, 1) := by decide +kernel
theorem dX6_place_38 : decode cX6_place 38 = .ok (.iadd, 1) := by decide +kernel
theorem dX6_place_39 : decode cX6_place 39 = .ok (.baload, 1) := by decide +kernel
theorem dX6_place_40 : decode cX6_place 40 = .ok (.ifCond .eq 8, 3) := by decide +kernel
theorem dX6_place_43 : decode cX6_place 43 = .ok (.bipush (-5), 2) := by decide +kernel
theorem dX6_place_45 : decode cX6_place 45 = .ok (.goto 14, 3) := by decide +kernel
theorem dX6_place_48 : decode cX6_place 48 = .ok (.aload_n 0, 1) := by decide +kernel
theorem dX6_place_49 : decode cX6_place 49 = .ok (.getfield 71, 3) := by decide +kernel
theorem dX6_place_52 : decode cX6_place 52 = .ok (.bipush 12, 2) := by decide +kernel
theorem dX6_place_54 : decode cX6_place 54 = .ok (.iload_n 1, 1) := by decide +kernel
theorem dX6_place_55 : decode cX6_place 55 = .ok (.imul, 1) := by decide +kernel
theorem dX6_place_56 : decode cX6_place 56 = .ok (.iload_n 2, 1) := by decide +kernel
theorem dX6_place_57 : decode cX6_place 57 = .ok (.iadd, 1) := by decide +kernel
theorem dX6_place_58 : decode cX6_place 58 = .ok (.iaload, 1) := by decide +kernel
theorem dX6_place_59 : decode cX6_place 59 = .ok (.ireturn, 1) := by decide +kernel
theorem dX6_fillings_0 : decode cX6_fillings 0 = .ok (.aload_n 0, 1) := by decide +kernel
theorem dX6_fillings_1 : decode cX6_fillings 1 = .ok (.iload_n 1, 1) := by decide +kernel
theorem dX6_fillings_2 : decode cX6_fillings 2 = .ok (.invokevirtual 362, 3) := by decide +kernel
theorem dX6_fillings_5 : decode cX6_fillings 5 = .ok (.ifCond .eq 12, 3) := by decide +kernel
theorem dX6_fillings_8 : decode cX6_fillings 8 = .ok (.aload_n 0, 1) := by decide +kernel
theorem dX6_fillings_9 : decode cX6_fillings 9 = .ok (.getfield 80, 3) := by decide +kernel
theorem dX6_fillings_12 : decode cX6_fillings 12 = .ok (.iload_n 1, 1) := by decide +kernel
theorem dX6_fillings_13 : decode cX6_fillings 13 = .ok (.iaload, 1) := by decide +kernel
theorem dX6_fillings_14 : decode cX6_fillings 14 = .ok (.goto 4, 3) := by decide +kernel
theorem dX6_fillings_17 : decode cX6_fillings 17 = .ok (.iconst (-1), 1) := by decide +kernel
theorem dX6_fillings_18 : decode cX6_fillings 18 = .ok (.ireturn, 1) := by decide +kernel
theorem dX6_answer_0 : decode cX6_answer 0 = .ok (.aload_n 0, 1) := by decide +kernel
theorem dX6_answer_1 : decode cX6_answer 1 = .ok (.iload_n 1, 1) := by decide +kernel
theorem dX6_answer_2 : decode cX6_answer 2 = .ok (.invokevirtual 362, 3) := by decide +kernel
theorem dX6_answer_5 : decode cX6_answer 5 = .ok (.ifCond .ne 7, 3) := by decide +kernel
theorem dX6_answer_8 : decode cX6_answer 8 = .ok (.iconst (-1), 1) := by decide +kernel
theorem dX6_answer_9 : decode cX6_answer 9 = .ok (.goto 31, 3) := by decide +kernel
theorem dX6_answer_12 : decode cX6_answer 12 = .ok (.iload_n 2, 1) := by decide +kernel
theorem dX6_answer_13 : decode cX6_answer 13 = .ok (.i2l, 1) := by decide +kernel
theorem dX6_answer_14 : decode cX6_answer 14 = .ok (.lconst 0, 1) := by decide +kernel
theorem dX6_answer_15 : decode cX6_answer 15 = .ok (.ldc2_w 365, 3) := by decide +kernel
theorem dX6_answer_18 : decode cX6_answer 18 = .ok (.invokestatic 92, 3) := by decide +kernel
theorem dX6_answer_21 : decode cX6_answer 21 = .ok (.ifCond .eq 17, 3) := by decide +kernel
theorem dX6_answer_24 : decode cX6_answer 24 = .ok (.aload_n 0, 1) := by decide +kernel
theorem dX6_answer_25 : decode cX6_answer 25 = .ok (.getfield 77, 3) := by decide +kernel
theorem dX6_answer_28 : decode cX6_answer 28 = .ok (.bipush 12, 2) := by decide +kernel
theorem dX6_answer_30 : decode cX6_answer 30 = .ok (.iload_n 1, 1) := by decide +kernel
theorem dX6_answer_31 : decode cX6_answer 31 = .ok (.imul, 1) := by decide +kernel
theorem dX6_answer_32 : decode cX6_answer 32 = .ok (.iload_n 2, 1) := by decide +kernel
theorem dX6_answer_33 : decode cX6_answer 33 = .ok (.iadd, 1) := by decide +kernel
theorem dX6_answer_34 : decode cX6_answer 34 = .ok (.iaload, 1) := by decide +kernel
theorem dX6_answer_35 : decode cX6_answer 35 = .ok (.goto 5, 3) := by decide +kernel
theorem dX6_answer_38 : decode cX6_answer 38 = .ok (.bipush (-2), 2) := by decide +kernel
theorem dX6_answer_40 : decode cX6_answer 40 = .ok (.ireturn, 1) := by decide +kernel
theorem dX6_told_0 : decode cX6_told 0 = .ok (.iconst 0, 1) := by decide +kernel
theorem dX6_told_1 : decode cX6_told 1 = .ok (.istore_n 2, 1) := by decide +kernel
theorem dX6_told_2 : decode cX6_told 2 = .ok (.iconst 0, 1) := by decide +kernel
theorem dX6_told_3 : decode cX6_told 3 = .ok (.istore_n 3, 1) := by decide +kernel
theorem dX6_told_4 : decode cX6_told 4 = .ok (.iload_n 3, 1) := by decide +kernel
theorem dX6_told_5 : decode cX6_told 5 = .ok (.aload_n 0, 1) := by decide +kernel
theorem dX6_told_6 : decode cX6_told 6 = .ok (.getfield 349, 3) := by decide +kernel
theorem dX6_told_9 : decode cX6_told 9 = .ok (.if_icmp .ge 27, 3) := by decide +kernel
theorem dX6_told_12 : decode cX6_told 12 = .ok (.iload_n 2, 1) := by decide +kernel
theorem dX6_told_13 : decode cX6_told 13 = .ok (.aload_n 0, 1) := by decide +kernel
theorem dX6_told_14 : decode cX6_told 14 = .ok (.getfield 80, 3) := by decide +kernel
theorem dX6_told_17 : decode cX6_told 17 = .ok (.iload_n 3, 1) := by decide +kernel
theorem dX6_told_18 : decode cX6_told 18 = .ok (.iaload, 1) := by decide +kernel
theorem dX6_told_19 : decode cX6_told 19 = .ok (.iconst 1, 1) := by decide +kernel
theorem dX6_told_20 : decode cX6_told 20 = .ok (.if_icmp .ne 7, 3) := by decide +kernel
theorem dX6_told_23 : decode cX6_told 23 = .ok (.iconst 1, 1) := by decide +kernel
theorem dX6_told_24 : decode cX6_told 24 = .ok (.goto 4, 3) := by decide +kernel
theorem dX6_told_27 : decode cX6_told 27 = .ok (.iconst 0, 1) := by decide +kernel
theorem dX6_told_28 : decode cX6_told 28 = .ok (.iadd, 1) := by decide +kernel
theorem dX6_told_29 : decode cX6_told 29 = .ok (.istore_n 2, 1) := by decide +kernel
theorem dX6_told_30 : decode cX6_told 30 = .ok (.iinc 3 1, 3) := by decide +kernel
theorem dX6_told_33 : decode cX6_told 33 = .ok (.goto (-29), 3) := by decide +kernel
theorem dX6_told_36 : decode cX6_told 36 = .ok (.iload_n 1, 1) := by decide +kernel
theorem dX6_told_37 : decode cX6_told 37 = .ok (.tableswitch 75 0 6 #[43, 48, 53, 58, 63, 68, 73], 43) := by decide +kernel
theorem dX6_told_80 : decode cX6_told 80 = .ok (.aload_n 0, 1) := by decide +kernel
theorem dX6_told_81 : decode cX6_told 81 = .ok (.getfield 89, 3) := by decide +kernel
theorem dX6_told_84 : decode cX6_told 84 = .ok (.ireturn, 1) := by decide +kernel
theorem dX6_told_85 : decode cX6_told 85 = .ok (.aload_n 0, 1) := by decide +kernel
theorem dX6_told_86 : decode cX6_told 86 = .ok (.getfield 349, 3) := by decide +kernel
theorem dX6_told_89 : decode cX6_told 89 = .ok (.ireturn, 1) := by decide +kernel
theorem dX6_told_90 : decode cX6_told 90 = .ok (.aload_n 0, 1) := by decide +kernel
theorem dX6_told_91 : decode cX6_told 91 = .ok (.getfield 245, 3) := by decide +kernel
theorem dX6_told_94 : decode cX6_told 94 = .ok (.ireturn, 1) := by decide +kernel
theorem dX6_told_95 : decode cX6_told 95 = .ok (.aload_n 0, 1) := by decide +kernel
theorem dX6_told_96 : decode cX6_told 96 = .ok (.getfield 251, 3) := by decide +kernel
theorem dX6_told_99 : decode cX6_told 99 = .ok (.ireturn, 1) := by decide +kernel
theorem dX6_told_100 : decode cX6_told 100 = .ok (.aload_n 0, 1) := by decide +kernel
theorem dX6_told_101 : decode cX6_told 101 = .ok (.getfield 96, 3) := by decide +kernel
theorem dX6_told_104 : decode cX6_told 104 = .ok (.ireturn, 1) := by decide +kernel
theorem dX6_told_105 : decode cX6_told 105 = .ok (.aload_n 0, 1) := by decide +kernel
theorem dX6_told_106 : decode cX6_told 106 = .ok (.getfield 329, 3) := by decide +kernel
theorem dX6_told_109 : decode cX6_told 109 = .ok (.ireturn, 1) := by decide +kernel
theorem dX6_told_110 : decode cX6_told 110 = .ok (.iload_n 2, 1) := by decide +kernel
theorem dX6_told_111 : decode cX6_told 111 = .ok (.ireturn, 1) := by decide +kernel
theorem dX6_told_112 : decode cX6_told 112 = .ok (.bipush (-2), 2) := by decide +kernel
theorem dX6_told_114 : decode cX6_told 114 = .ok (.ireturn, 1) := by decide +kernel
theorem dX6_fault_0 : decode cX6_fault 0 = .ok (.aload_n 0, 1) := by decide +kernel
theorem dX6_fault_1 : decode cX6_fault 1 = .ok (.getfield 99, 3) := by decide +kernel
theorem dX6_fault_4 : decode cX6_fault 4 = .ok (.ireturn, 1) := by decide +kernel
theorem dJ7_copyOf_59c91_0 : decode cJ7_copyOf_59c91 0 = .ok (.iload_n 1, 1) := by decide +kernel
theorem dJ7_copyOf_59c91_1 : decode cJ7_copyOf_59c91 1 = .ok (.aload_n 0, 1) := by decide +kernel
theorem dJ7_copyOf_59c91_2 : decode cJ7_copyOf_59c91 2 = .ok (.arraylength, 1) := by decide +kernel
theorem dJ7_copyOf_59c91_3 : decode cJ7_copyOf_59c91 3 = .ok (.if_icmp .ne 11, 3) := by decide +kernel
theorem dJ7_copyOf_59c91_6 : decode cJ7_copyOf_59c91 6 = .ok (.aload_n 0, 1) := by decide +kernel
theorem dJ7_copyOf_59c91_7 : decode cJ7_copyOf_59c91 7 = .ok (.invokevirtual 316, 3) := by decide +kernel
theorem dJ7_copyOf_59c91_10 : decode cJ7_copyOf_59c91 10 = .ok (.checkcast 317, 3) := by decide +kernel
theorem dJ7_copyOf_59c91_13 : decode cJ7_copyOf_59c91 13 = .ok (.areturn, 1) := by decide +kernel
theorem dJ7_copyOf_59c91_14 : decode cJ7_copyOf_59c91 14 = .ok (.iload_n 1, 1) := by decide +kernel
theorem dJ7_copyOf_59c91_15 : decode cJ7_copyOf_59c91 15 = .ok (.newarray .int, 2) := by decide +kernel
theorem dJ7_copyOf_59c91_17 : decode cJ7_copyOf_59c91 17 = .ok (.astore_n 2, 1) := by decide +kernel
theorem dJ7_copyOf_59c91_18 : decode cJ7_copyOf_59c91 18 = .ok (.aload_n 0, 1) := by decide +kernel
theorem dJ7_copyOf_59c91_19 : decode cJ7_copyOf_59c91 19 = .ok (.iconst 0, 1) := by decide +kernel
theorem dJ7_copyOf_59c91_20 : decode cJ7_copyOf_59c91 20 = .ok (.aload_n 2, 1) := by decide +kernel
theorem dJ7_copyOf_59c91_21 : decode cJ7_copyOf_59c91 21 = .ok (.iconst 0, 1) := by decide +kernel
theorem dJ7_copyOf_59c91_22 : decode cJ7_copyOf_59c91 22 = .ok (.aload_n 0, 1) := by decide +kernel
theorem dJ7_copyOf_59c91_23 : decode cJ7_copyOf_59c91 23 = .ok (.arraylength, 1) := by decide +kernel
theorem dJ7_copyOf_59c91_24 : decode cJ7_copyOf_59c91 24 = .ok (.iload_n 1, 1) := by decide +kernel
theorem dJ7_copyOf_59c91_25 : decode cJ7_copyOf_59c91 25 = .ok (.invokestatic 304, 3) := by decide +kernel
theorem dJ7_copyOf_59c91_28 : decode cJ7_copyOf_59c91 28 = .ok (.invokestatic 150, 3) := by decide +kernel
theorem dJ7_copyOf_59c91_31 : decode cJ7_copyOf_59c91 31 = .ok (.aload_n 2, 1) := by decide +kernel
theorem dJ7_copyOf_59c91_32 : decode cJ7_copyOf_59c91 32 = .ok (.areturn, 1) := by decide +kernel
theorem dL_law_0 : decode cL_law 0 = .ok (.new 7, 3) := by decide +kernel
theorem dL_law_3 : decode cL_law 3 = .ok (.dup, 1) := by decide +kernel
theorem dL_law_4 : decode cL_law 4 = .ok (.invokespecial 9, 3) := by decide +kernel
theorem dL_law_7 : decode cL_law 7 = .ok (.astore_n 1, 1) := by decide +kernel
theorem dL_law_8 : decode cL_law 8 = .ok (.new 10, 3) := by decide +kernel
theorem dL_law_11 : decode cL_law 11 = .ok (.dup, 1) := by decide +kernel
theorem dL_law_12 : decode cL_law 12 = .ok (.invokespecial 12, 3) := by decide +kernel
theorem dL_law_15 : decode cL_law 15 = .ok (.astore_n 2, 1) := by decide +kernel
theorem dL_law_16 : decode cL_law 16 = .ok (.iconst 0, 1) := by decide +kernel
theorem dL_law_17 : decode cL_law 17 = .ok (.istore_n 3, 1) := by decide +kernel
theorem dL_law_18 : decode cL_law 18 = .ok (.iload_n 3, 1) := by decide +kernel
theorem dL_law_19 : decode cL_law 19 = .ok (.aload_n 0, 1) := by decide +kernel
theorem dL_law_20 : decode cL_law 20 = .ok (.arraylength, 1) := by decide +kernel
theorem dL_law_21 : decode cL_law 21 = .ok (.bipush 6, 2) := by decide +kernel
theorem dL_law_23 : decode cL_law 23 = .ok (.isub, 1) := by decide +kernel
theorem dL_law_24 : decode cL_law 24 = .ok (.if_icmp .gt 1762, 3) := by decide +kernel
theorem dL_law_27 : decode cL_law 27 = .ok (.aload_n 0, 1) := by decide +kernel
theorem dL_law_28 : decode cL_law 28 = .ok (.iload_n 3, 1) := by decide +kernel
theorem dL_law_29 : decode cL_law 29 = .ok (.iaload, 1) := by decide +kernel
theorem dL_law_30 : decode cL_law 30 = .ok (.bipush 63, 2) := by decide +kernel
theorem dL_law_32 : decode cL_law 32 = .ok (.iand, 1) := by decide +kernel
theorem dL_law_33 : decode cL_law 33 = .ok (.tableswitch 1747 0 43 #[191, 224, 257, 300, 353, 396, 429, 453, 516, 539, 572, 605, 638, 651, 714, 727, 751, 784, 847, 880, 974, 1037, 1100, 1163, 1236, 1269, 1302, 1335, 1369, 1402, 1415, 1448, 1471, 1484, 1537, 1550, 1563, 1576, 1589, 1622, 1655, 1678, 1711, 1734], 191) := by decide +kernel
theorem dL_law_224 : decode cL_law 224 = .ok (.aload_n 1, 1) := by decide +kernel
theorem dL_law_225 : decode cL_law 225 = .ok (.aload_n 0, 1) := by decide +kernel
theorem dL_law_226 : decode cL_law 226 = .ok (.iload_n 3, 1) := by decide +kernel
theorem dL_law_227 : decode cL_law 227 = .ok (.iconst 1, 1) := by decide +kernel
theorem dL_law_228 : decode cL_law 228 = .ok (.iadd, 1) := by decide +kernel
theorem dL_law_229 : decode cL_law 229 = .ok (.iaload, 1) := by decide +kernel
theorem dL_law_230 : decode cL_law 230 = .ok (.aload_n 0, 1) := by decide +kernel
theorem dL_law_231 : decode cL_law 231 = .ok (.iload_n 3, 1) := by decide +kernel
