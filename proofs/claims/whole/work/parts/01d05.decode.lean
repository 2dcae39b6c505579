theorem dX6_asks_90 : decode cX6_asks 90 = .ok (.iload_n 1, 1) := by decide +kernel
theorem dX6_asks_91 : decode cX6_asks 91 = .ok (.iaload, 1) := by decide +kernel
theorem dX6_asks_92 : decode cX6_asks 92 = .ok (.iconst 2, 1) := by decide +kernel
theorem dX6_asks_93 : decode cX6_asks 93 = .ok (.if_icmp .ne 11, 3) := by decide +kernel
theorem dX6_asks_96 : decode cX6_asks 96 = .ok (.aload_n 0, 1) := by decide +kernel
theorem dX6_asks_97 : decode cX6_asks 97 = .ok (.iconst 3, 1) := by decide +kernel
theorem dX6_asks_98 : decode cX6_asks 98 = .ok (.invokevirtual 102, 3) := by decide +kernel
theorem dX6_asks_101 : decode cX6_asks 101 = .ok (.goto 8, 3) := by decide +kernel
theorem dX6_asks_104 : decode cX6_asks 104 = .ok (.aload_n 0, 1) := by decide +kernel
theorem dX6_asks_105 : decode cX6_asks 105 = .ok (.iload_n 1, 1) := by decide +kernel
theorem dX6_asks_106 : decode cX6_asks 106 = .ok (.invokevirtual 184, 3) := by decide +kernel
theorem dX6_asks_109 : decode cX6_asks 109 = .ok (.ireturn, 1) := by decide +kernel
theorem dX6_asks_110 : decode cX6_asks 110 = .ok (.bipush (-2), 2) := by decide +kernel
theorem dX6_asks_112 : decode cX6_asks 112 = .ok (.ireturn, 1) := by decide +kernel
theorem dX6_trace_0 : decode cX6_trace 0 = .ok (.aload_n 0, 1) := by decide +kernel
theorem dX6_trace_1 : decode cX6_trace 1 = .ok (.getfield 168, 3) := by decide +kernel
theorem dX6_trace_4 : decode cX6_trace 4 = .ok (.ireturn, 1) := by decide +kernel
theorem dX6_carry_0 : decode cX6_carry 0 = .ok (.aload_n 0, 1) := by decide +kernel
theorem dX6_carry_1 : decode cX6_carry 1 = .ok (.getfield 34, 3) := by decide +kernel
theorem dX6_carry_4 : decode cX6_carry 4 = .ok (.iload_n 2, 1) := by decide +kernel
theorem dX6_carry_5 : decode cX6_carry 5 = .ok (.aload_n 0, 1) := by decide +kernel
theorem dX6_carry_6 : decode cX6_carry 6 = .ok (.getfield 34, 3) := by decide +kernel
theorem dX6_carry_9 : decode cX6_carry 9 = .ok (.iload_n 1, 1) := by decide +kernel
theorem dX6_carry_10 : decode cX6_carry 10 = .ok (.iaload, 1) := by decide +kernel
theorem dX6_carry_11 : decode cX6_carry 11 = .ok (.iastore, 1) := by decide +kernel
theorem dX6_carry_12 : decode cX6_carry 12 = .ok (.aload_n 0, 1) := by decide +kernel
theorem dX6_carry_13 : decode cX6_carry 13 = .ok (.getfield 37, 3) := by decide +kernel
theorem dX6_carry_16 : decode cX6_carry 16 = .ok (.iload_n 2, 1) := by decide +kernel
theorem dX6_carry_17 : decode cX6_carry 17 = .ok (.aload_n 0, 1) := by decide +kernel
theorem dX6_carry_18 : decode cX6_carry 18 = .ok (.getfield 37, 3) := by decide +kernel
theorem dX6_carry_21 : decode cX6_carry 21 = .ok (.iload_n 1, 1) := by decide +kernel
theorem dX6_carry_22 : decode cX6_carry 22 = .ok (.iaload, 1) := by decide +kernel
theorem dX6_carry_23 : decode cX6_carry 23 = .ok (.iastore, 1) := by decide +kernel
theorem dX6_carry_24 : decode cX6_carry 24 = .ok (.aload_n 0, 1) := by decide +kernel
theorem dX6_carry_25 : decode cX6_carry 25 = .ok (.getfield 40, 3) := by decide +kernel
theorem dX6_carry_28 : decode cX6_carry 28 = .ok (.iload_n 2, 1) := by decide +kernel
theorem dX6_carry_29 : decode cX6_carry 29 = .ok (.aload_n 0, 1) := by decide +kernel
theorem dX6_carry_30 : decode cX6_carry 30 = .ok (.getfield 40, 3) := by decide +kernel
theorem dX6_carry_33 : decode cX6_carry 33 = .ok (.iload_n 1, 1) := by decide +kernel
theorem dX6_carry_34 : decode cX6_carry 34 = .ok (.iaload, 1) := by decide +kernel
theorem dX6_carry_35 : decode cX6_carry 35 = .ok (.iastore, 1) := by decide +kernel
theorem dX6_carry_36 : decode cX6_carry 36 = .ok (.return_, 1) := by decide +kernel
theorem dX6_copy_0 : decode cX6_copy 0 = .ok (.aload_n 0, 1) := by decide +kernel
theorem dX6_copy_1 : decode cX6_copy 1 = .ok (.iload_n 1, 1) := by decide +kernel
theorem dX6_copy_2 : decode cX6_copy 2 = .ok (.invokevirtual 129, 3) := by decide +kernel
theorem dX6_copy_5 : decode cX6_copy 5 = .ok (.ifCond .eq 11, 3) := by decide +kernel
theorem dX6_copy_8 : decode cX6_copy 8 = .ok (.aload_n 0, 1) := by decide +kernel
theorem dX6_copy_9 : decode cX6_copy 9 = .ok (.iload_n 3, 1) := by decide +kernel
theorem dX6_copy_10 : decode cX6_copy 10 = .ok (.invokevirtual 129, 3) := by decide +kernel
theorem dX6_copy_13 : decode cX6_copy 13 = .ok (.ifCond .ne 5, 3) := by decide +kernel
theorem dX6_copy_16 : decode cX6_copy 16 = .ok (.iconst (-1), 1) := by decide +kernel
theorem dX6_copy_17 : decode cX6_copy 17 = .ok (.ireturn, 1) := by decide +kernel
theorem dX6_copy_18 : decode cX6_copy 18 = .ok (.aload_n 0, 1) := by decide +kernel
theorem dX6_copy_19 : decode cX6_copy 19 = .ok (.getfield 7, 3) := by decide +kernel
theorem dX6_copy_22 : decode cX6_copy 22 = .ok (.iload_n 1, 1) := by decide +kernel
theorem dX6_copy_23 : decode cX6_copy 23 = .ok (.iaload, 1) := by decide +kernel
theorem dX6_copy_24 : decode cX6_copy 24 = .ok (.iconst 4, 1) := by decide +kernel
theorem dX6_copy_25 : decode cX6_copy 25 = .ok (.if_icmp .eq 13, 3) := by decide +kernel
theorem dX6_copy_28 : decode cX6_copy 28 = .ok (.aload_n 0, 1) := by decide +kernel
theorem dX6_copy_29 : decode cX6_copy 29 = .ok (.getfield 7, 3) := by decide +kernel
theorem dX6_copy_32 : decode cX6_copy 32 = .ok (.iload_n 3, 1) := by decide +kernel
theorem dX6_copy_33 : decode cX6_copy 33 = .ok (.iaload, 1) := by decide +kernel
theorem dX6_copy_34 : decode cX6_copy 34 = .ok (.iconst 4, 1) := by decide +kernel
theorem dX6_copy_35 : decode cX6_copy 35 = .ok (.if_icmp .ne 7, 3) := by decide +kernel
theorem dX6_copy_38 : decode cX6_copy 38 = .ok (.iconst 1, 1) := by decide +kernel
theorem dX6_copy_39 : decode cX6_copy 39 = .ok (.goto 4, 3) := by decide +kernel
theorem dX6_copy_42 : decode cX6_copy 42 = .ok (.iconst 0, 1) := by decide +kernel
theorem dX6_copy_43 : decode cX6_copy 43 = .ok (.istore 6, 2) := by decide +kernel
theorem dX6_copy_45 : decode cX6_copy 45 = .ok (.iload 6, 2) := by decide +kernel
theorem dX6_copy_47 : decode cX6_copy 47 = .ok (.ifCond .ne 39, 3) := by decide +kernel
theorem dX6_copy_50 : decode cX6_copy 50 = .ok (.aload_n 0, 1) := by decide +kernel
theorem dX6_copy_51 : decode cX6_copy 51 = .ok (.getfield 7, 3) := by decide +kernel
theorem dX6_copy_54 : decode cX6_copy 54 = .ok (.iload_n 1, 1) := by decide +kernel
theorem dX6_copy_55 : decode cX6_copy 55 = .ok (.iaload, 1) := by decide +kernel
theorem dX6_copy_56 : decode cX6_copy 56 = .ok (.iconst 2, 1) := by decide +kernel
theorem dX6_copy_57 : decode cX6_copy 57 = .ok (.if_icmp .ne 7, 3) := by decide +kernel
theorem dX6_copy_60 : decode cX6_copy 60 = .ok (.iconst 1, 1) := by decide +kernel
theorem dX6_copy_61 : decode cX6_copy 61 = .ok (.goto 4, 3) := by decide +kernel
theorem dX6_copy_64 : decode cX6_copy 64 = .ok (.iconst 0, 1) := by decide +kernel
theorem dX6_copy_65 : decode cX6_copy 65 = .ok (.aload_n 0, 1) := by decide +kernel
theorem dX6_copy_66 : decode cX6_copy 66 = .ok (.getfield 7, 3) := by decide +kernel
theorem dX6_copy_69 : decode cX6_copy 69 = .ok (.iload_n 3, 1) := by decide +kernel
theorem dX6_copy_70 : decode cX6_copy 70 = .ok (.iaload, 1) := by decide +kernel
theorem dX6_copy_71 : decode cX6_copy 71 = .ok (.iconst 2, 1) := by decide +kernel
theorem dX6_copy_72 : decode cX6_copy 72 = .ok (.if_icmp .ne 7, 3) := by decide +kernel
theorem dX6_copy_75 : decode cX6_copy 75 = .ok (.iconst 1, 1) := by decide +kernel
theorem dX6_copy_76 : decode cX6_copy 76 = .ok (.goto 4, 3) := by decide +kernel
theorem dX6_copy_79 : decode cX6_copy 79 = .ok (.iconst 0, 1) := by decide +kernel
theorem dX6_copy_80 : decode cX6_copy 80 = .ok (.if_icmp .eq 6, 3) := by decide +kernel
theorem dX6_copy_83 : decode cX6_copy 83 = .ok (.bipush (-3), 2) := by decide +kernel
theorem dX6_copy_85 : decode cX6_copy 85 = .ok (.ireturn, 1) := by decide +kernel
theorem dX6_copy_86 : decode cX6_copy 86 = .ok (.iload 6, 2) := by decide +kernel
theorem dX6_copy_88 : decode cX6_copy 88 = .ok (.ifCond .eq 9, 3) := by decide +kernel
theorem dX6_copy_91 : decode cX6_copy 91 = .ok (.aload_n 0, 1) := by decide +kernel
theorem dX6_copy_92 : decode cX6_copy 92 = .ok (.iconst 3, 1) := by decide +kernel
theorem dX6_copy_93 : decode cX6_copy 93 = .ok (.invokevirtual 102, 3) := by decide +kernel
theorem dX6_copy_96 : decode cX6_copy 96 = .ok (.ireturn, 1) := by decide +kernel
theorem dX6_copy_97 : decode cX6_copy 97 = .ok (.aload_n 0, 1) := by decide +kernel
theorem dX6_copy_98 : decode cX6_copy 98 = .ok (.iconst 1, 1) := by decide +kernel
theorem dX6_copy_99 : decode cX6_copy 99 = .ok (.putfield 137, 3) := by decide +kernel
theorem dX6_copy_102 : decode cX6_copy 102 = .ok (.aload_n 0, 1) := by decide +kernel
theorem dX6_copy_103 : decode cX6_copy 103 = .ok (.iconst 0, 1) := by decide +kernel
theorem dX6_copy_104 : decode cX6_copy 104 = .ok (.putfield 187, 3) := by decide +kernel
theorem dX6_copy_107 : decode cX6_copy 107 = .ok (.iload_n 1, 1) := by decide +kernel
theorem dX6_copy_108 : decode cX6_copy 108 = .ok (.iload_n 3, 1) := by decide +kernel
theorem dX6_copy_109 : decode cX6_copy 109 = .ok (.if_icmp .ne 138, 3) := by decide +kernel
theorem dX6_copy_112 : decode cX6_copy 112 = .ok (.iload 5, 2) := by decide +kernel
theorem dX6_copy_114 : decode cX6_copy 114 = .ok (.ifCond .lt 51, 3) := by decide +kernel
theorem dX6_copy_117 : decode cX6_copy 117 = .ok (.iload_n 2, 1) := by decide +kernel
theorem dX6_copy_118 : decode cX6_copy 118 = .ok (.ifCond .lt 47, 3) := by decide +kernel
theorem dX6_copy_121 : decode cX6_copy 121 = .ok (.iload 4, 2) := by decide +kernel
theorem dX6_copy_123 : decode cX6_copy 123 = .ok (.ifCond .lt 42, 3) := by decide +kernel
theorem dX6_copy_126 : decode cX6_copy 126 = .ok (.iload_n 2, 1) := by decide +kernel
theorem dX6_copy_127 : decode cX6_copy 127 = .ok (.i2l, 1) := by decide +kernel
theorem dX6_copy_128 : decode cX6_copy 128 = .ok (.iload 5, 2) := by decide +kernel
theorem dX6_copy_130 : decode cX6_copy 130 = .ok (.i2l, 1) := by decide +kernel
theorem dX6_copy_131 : decode cX6_copy 131 = .ok (.ladd, 1) := by decide +kernel
theorem dX6_copy_132 : decode cX6_copy 132 = .ok (.aload_n 0, 1) := by decide +kernel
theorem dX6_copy_133 : decode cX6_copy 133 = .ok (.getfield 13, 3) := by decide +kernel
theorem dX6_copy_136 : decode cX6_copy 136 = .ok (.iload_n 1, 1) := by decide +kernel
theorem dX6_copy_137 : decode cX6_copy 137 = .ok (.iaload, 1) := by decide +kernel
theorem dX6_copy_138 : decode cX6_copy 138 = .ok (.i2l, 1) := by decide +kernel
theorem dX6_copy_139 : decode cX6_copy 139 = .ok (.lcmp, 1) := by decide +kernel
theorem dX6_copy_140 : decode cX6_copy 140 = .ok (.ifCond .gt 25, 3) := by decide +kernel
theorem dX6_copy_143 : decode cX6_copy 143 = .ok (.iload 4, 2) := by decide +kernel
theorem dX6_copy_145 : decode cX6_copy 145 = .ok (.i2l, 1) := by decide +kernel
theorem dX6_copy_146 : decode cX6_copy 146 = .ok (.iload 5, 2) := by decide +kernel
theorem dX6_copy_148 : decode cX6_copy 148 = .ok (.i2l, 1) := by decide +kernel
theorem dX6_copy_149 : decode cX6_copy 149 = .ok (.ladd, 1) := by decide +kernel
theorem dX6_copy_150 : decode cX6_copy 150 = .ok (.aload_n 0, 1) := by decide +kernel
theorem dX6_copy_151 : decode cX6_copy 151 = .ok (.getfield 13, 3) := by decide +kernel
theorem dX6_copy_154 : decode cX6_copy 154 = .ok (.iload_n 1, 1) := by decide +kernel
theorem dX6_copy_155 : decode cX6_copy 155 = .ok (.iaload, 1) := by decide +kernel
theorem dX6_copy_156 : decode cX6_copy 156 = .ok (.i2l, 1) := by decide +kernel
theorem dX6_copy_157 : decode cX6_copy 157 = .ok (.lcmp, 1) := by decide +kernel
theorem dX6_copy_158 : decode cX6_copy 158 = .ok (.ifCond .gt 7, 3) := by decide +kernel
theorem dX6_copy_161 : decode cX6_copy 161 = .ok (.iconst 1, 1) := by decide +kernel
theorem dX6_copy_162 : decode cX6_copy 162 = .ok (.goto 4, 3) := by decide +kernel
theorem dX6_copy_165 : decode cX6_copy 165 = .ok (.iconst 0, 1) := by decide +kernel
theorem dX6_copy_166 : decode cX6_copy 166 = .ok (.istore 7, 2) := by decide +kernel
theorem dX6_copy_168 : decode cX6_copy 168 = .ok (.iload 7, 2) := by decide +kernel
theorem dX6_copy_170 : decode cX6_copy 170 = .ok (.ifCond .ne 9, 3) := by decide +kernel
theorem dX6_copy_173 : decode cX6_copy 173 = .ok (.aload_n 0, 1) := by decide +kernel
theorem dX6_copy_174 : decode cX6_copy 174 = .ok (.iconst 2, 1) := by decide +kernel
theorem dX6_copy_175 : decode cX6_copy 175 = .ok (.invokevirtual 102, 3) := by decide +kernel
theorem dX6_copy_178 : decode cX6_copy 178 = .ok (.ireturn, 1) := by decide +kernel
theorem dX6_copy_179 : decode cX6_copy 179 = .ok (.iconst 0, 1) := by decide +kernel
theorem dX6_copy_180 : decode cX6_copy 180 = .ok (.istore 8, 2) := by decide +kernel
theorem dX6_copy_182 : decode cX6_copy 182 = .ok (.iload 8, 2) := by decide +kernel
theorem dX6_copy_184 : decode cX6_copy 184 = .ok (.iload 5, 2) := by decide +kernel
theorem dX6_copy_186 : decode cX6_copy 186 = .ok (.if_icmp .ge 52, 3) := by decide +kernel
theorem dX6_copy_189 : decode cX6_copy 189 = .ok (.iload_n 2, 1) := by decide +kernel
theorem dX6_copy_190 : decode cX6_copy 190 = .ok (.iload 4, 2) := by decide +kernel
theorem dX6_copy_192 : decode cX6_copy 192 = .ok (.if_icmp .ge 13, 3) := by decide +kernel
theorem dX6_copy_195 : decode cX6_copy 195 = .ok (.iload 5, 2) := by decide +kernel
theorem dX6_copy_197 : decode cX6_copy 197 = .ok (.iconst 1, 1) := by decide +kernel
theorem dX6_copy_198 : decode cX6_copy 198 = .ok (.isub, 1) := by decide +kernel
theorem dX6_copy_199 : decode cX6_copy 199 = .ok (.iload 8, 2) := by decide +kernel
theorem dX6_copy_201 : decode cX6_copy 201 = .ok (.isub, 1) := by decide +kernel
theorem dX6_copy_202 : decode cX6_copy 202 = .ok (.goto 5, 3) := by decide +kernel
theorem dX6_copy_205 : decode cX6_copy 205 = .ok (.iload 8, 2) := by decide +kernel
theorem dX6_copy_207 : decode cX6_copy 207 = .ok (.istore 9, 2) := by decide +kernel
theorem dX6_copy_209 : decode cX6_copy 209 = .ok (.aload_n 0, 1) := by decide +kernel
theorem dX6_copy_210 : decode cX6_copy 210 = .ok (.bipush 18, 2) := by decide +kernel
theorem dX6_copy_212 : decode cX6_copy 212 = .ok (.iload_n 1, 1) := by decide +kernel
theorem dX6_copy_213 : decode cX6_copy 213 = .ok (.imul, 1) := by decide +kernel
theorem dX6_copy_214 : decode cX6_copy 214 = .ok (.iload_n 2, 1) := by decide +kernel
theorem dX6_copy_215 : decode cX6_copy 215 = .ok (.iadd, 1) := by decide +kernel
theorem dX6_copy_216 : decode cX6_copy 216 = .ok (.iload 9, 2) := by decide +kernel
theorem dX6_copy_218 : decode cX6_copy 218 = .ok (.iadd, 1) := by decide +kernel
theorem dX6_copy_219 : decode cX6_copy 219 = .ok (.bipush 18, 2) := by decide +kernel
theorem dX6_copy_221 : decode cX6_copy 221 = .ok (.iload_n 1, 1) := by decide +kernel
theorem dX6_copy_222 : decode cX6_copy 222 = .ok (.imul, 1) := by decide +kernel
theorem dX6_copy_223 : decode cX6_copy 223 = .ok (.iload 4, 2) := by decide +kernel
theorem dX6_copy_225 : decode cX6_copy 225 = .ok (.iadd, 1) := by decide +kernel
theorem dX6_copy_226 : decode cX6_copy 226 = .ok (.iload 9, 2) := by decide +kernel
theorem dX6_copy_228 : decode cX6_copy 228 = .ok (.iadd, 1) := by decide +kernel
theorem dX6_copy_229 : decode cX6_copy 229 = .ok (.invokevirtual 190, 3) := by decide +kernel
theorem dX6_copy_232 : decode cX6_copy 232 = .ok (.iinc 8 1, 3) := by decide +kernel
theorem dX6_copy_235 : decode cX6_copy 235 = .ok (.goto (-53), 3) := by decide +kernel
theorem dX6_copy_238 : decode cX6_copy 238 = .ok (.aload_n 0, 1) := by decide +kernel
theorem dX6_copy_239 : decode cX6_copy 239 = .ok (.iload 5, 2) := by decide +kernel
theorem dX6_copy_241 : decode cX6_copy 241 = .ok (.putfield 187, 3) := by decide +kernel
theorem dX6_copy_244 : decode cX6_copy 244 = .ok (.iload 5, 2) := by decide +kernel
theorem dX6_copy_246 : decode cX6_copy 246 = .ok (.ireturn, 1) := by decide +kernel
theorem dX6_copy_247 : decode cX6_copy 247 = .ok (.iload 5, 2) := by decide +kernel
theorem dX6_copy_249 : decode cX6_copy 249 = .ok (.ifCond .ge 5, 3) := by decide +kernel
theorem dX6_copy_252 : decode cX6_copy 252 = .ok (.iconst 0, 1) := by decide +kernel
theorem dX6_copy_253 : decode cX6_copy 253 = .ok (.ireturn, 1) := by decide +kernel
theorem dX6_copy_254 : decode cX6_copy 254 = .ok (.iconst 0, 1) := by decide +kernel
theorem dX6_copy_255 : decode cX6_copy 255 = .ok (.istore 7, 2) := by decide +kernel
theorem dX6_copy_257 : decode cX6_copy 257 = .ok (.iload 7, 2) := by decide +kernel
theorem dX6_copy_259 : decode cX6_copy 259 = .ok (.iload 5, 2) := by decide +kernel
theorem dX6_copy_261 : decode cX6_copy 261 = .ok (.if_icmp .ge 93, 3) := by decide +kernel
theorem dX6_copy_264 : decode cX6_copy 264 = .ok (.iload_n 2, 1) := by decide +kernel
theorem dX6_copy_265 : decode cX6_copy 265 = .ok (.i2l, 1) := by decide +kernel
theorem dX6_copy_266 : decode cX6_copy 266 = .ok (.iload 7, 2) := by decide +kernel
theorem dX6_copy_268 : decode cX6_copy 268 = .ok (.i2l, 1) := by decide +kernel
theorem dX6_copy_269 : decode cX6_copy 269 = .ok (.ladd, 1) := by decide +kernel
theorem dX6_copy_270 : decode cX6_copy 270 = .ok (.lconst 0, 1) := by decide +kernel
theorem dX6_copy_271 : decode cX6_copy 271 = .ok (.aload_n 0, 1) := by decide +kernel
theorem dX6_copy_272 : decode cX6_copy 272 = .ok (.getfield 13, 3) := by decide +kernel
theorem dX6_copy_275 : decode cX6_copy 275 = .ok (.iload_n 1, 1) := by decide +kernel
theorem dX6_copy_276 : decode cX6_copy 276 = .ok (.iaload, 1) := by decide +kernel
theorem dX6_copy_277 : decode cX6_copy 277 = .ok (.iconst 1, 1) := by decide +kernel
theorem dX6_copy_278 : decode cX6_copy 278 = .ok (.isub, 1) := by decide +kernel
theorem dX6_copy_279 : decode cX6_copy 279 = .ok (.i2l, 1) := by decide +kernel
theorem dX6_copy_280 : decode cX6_copy 280 = .ok (.invokestatic 92, 3) := by decide +kernel
theorem dX6_copy_283 : decode cX6_copy 283 = .ok (.ifCond .eq 26, 3) := by decide +kernel
theorem dX6_copy_286 : decode cX6_copy 286 = .ok (.iload 4, 2) := by decide +kernel
theorem dX6_copy_288 : decode cX6_copy 288 = .ok (.i2l, 1) := by decide +kernel
theorem dX6_copy_289 : decode cX6_copy 289 = .ok (.iload 7, 2) := by decide +kernel
theorem dX6_copy_291 : decode cX6_copy 291 = .ok (.i2l, 1) := by decide +kernel
theorem dX6_copy_292 : decode cX6_copy 292 = .ok (.ladd, 1) := by decide +kernel
theorem dX6_copy_293 : decode cX6_copy 293 = .ok (.lconst 0, 1) := by decide +kernel
theorem dX6_copy_294 : decode cX6_copy 294 = .ok (.aload_n 0, 1) := by decide +kernel
theorem dX6_copy_295 : decode cX6_copy 295 = .ok (.getfield 13, 3) := by decide +kernel
theorem dX6_copy_298 : decode cX6_copy 298 = .ok (.iload_n 3, 1) := by decide +kernel
theorem dX6_copy_299 : decode cX6_copy 299 = .ok (.iaload, 1) := by decide +kernel
theorem dX6_copy_300 : decode cX6_copy 300 = .ok (.iconst 1, 1) := by decide +kernel
theorem dX6_copy_301 : decode cX6_copy 301 = .ok (.isub, 1) := by decide +kernel
theorem dX6_copy_302 : decode cX6_copy 302 = .ok (.i2l, 1) := by decide +kernel
theorem dX6_copy_303 : decode cX6_copy 303 = .ok (.invokestatic 92, 3) := by decide +kernel
theorem dX6_copy_306 : decode cX6_copy 306 = .ok (.ifCond .ne 9, 3) := by decide +kernel
theorem dX6_copy_309 : decode cX6_copy 309 = .ok (.aload_n 0, 1) := by decide +kernel
theorem dX6_copy_310 : decode cX6_copy 310 = .ok (.iconst 2, 1) := by decide +kernel
theorem dX6_copy_311 : decode cX6_copy 311 = .ok (.invokevirtual 102, 3) := by decide +kernel
theorem dX6_copy_314 : decode cX6_copy 314 = .ok (.ireturn, 1) := by decide +kernel
theorem dX6_copy_315 : decode cX6_copy 315 = .ok (.aload_n 0, 1) := by decide +kernel
theorem dX6_copy_316 : decode cX6_copy 316 = .ok (.bipush 18, 2) := by decide +kernel
theorem dX6_copy_318 : decode cX6_copy 318 = .ok (.iload_n 1, 1) := by decide +kernel
theorem dX6_copy_319 : decode cX6_copy 319 = .ok (.imul, 1) := by decide +kernel
theorem dX6_copy_320 : decode cX6_copy 320 = .ok (.iload_n 2, 1) := by decide +kernel
theorem dX6_copy_321 : decode cX6_copy 321 = .ok (.iadd, 1) := by decide +kernel
theorem dX6_copy_322 : decode cX6_copy 322 = .ok (.iload 7, 2) := by decide +kernel
theorem dX6_copy_324 : decode cX6_copy 324 = .ok (.iadd, 1) := by decide +kernel
theorem dX6_copy_325 : decode cX6_copy 325 = .ok (.bipush 18, 2) := by decide +kernel
theorem dX6_copy_327 : decode cX6_copy 327 = .ok (.iload_n 3, 1) := by decide +kernel
theorem dX6_copy_328 : decode cX6_copy 328 = .ok (.imul, 1) := by decide +kernel
theorem dX6_copy_329 : decode cX6_copy 329 = .ok (.iload 4, 2) := by decide +kernel
theorem dX6_copy_331 : decode cX6_copy 331 = .ok (.iadd, 1) := by decide +kernel
theorem dX6_copy_332 : decode cX6_copy 332 = .ok (.iload 7, 2) := by decide +kernel
theorem dX6_copy_334 : decode cX6_copy 334 = .ok (.iadd, 1) := by decide +kernel
theorem dX6_copy_335 : decode cX6_copy 335 = .ok (.invokevirtual 190, 3) := by decide +kernel
theorem dX6_copy_338 : decode cX6_copy 338 = .ok (.aload_n 0, 1) := by decide +kernel
theorem dX6_copy_339 : decode cX6_copy 339 = .ok (.dup, 1) := by decide +kernel
theorem dX6_copy_340 : decode cX6_copy 340 = .ok (.getfield 187, 3) := by decide +kernel
theorem dX6_copy_343 : decode cX6_copy 343 = .ok (.iconst 1, 1) := by decide +kernel
theorem dX6_copy_344 : decode cX6_copy 344 = .ok (.iadd, 1) := by decide +kernel
theorem dX6_copy_345 : decode cX6_copy 345 = .ok (.putfield 187, 3) := by decide +kernel
theorem dX6_copy_348 : decode cX6_copy 348 = .ok (.iinc 7 1, 3) := by decide +kernel
theorem dX6_copy_351 : decode cX6_copy 351 = .ok (.goto (-94), 3) := by decide +kernel
theorem dX6_copy_354 : decode cX6_copy 354 = .ok (.iload 5, 2) := by decide +kernel
theorem dX6_copy_356 : decode cX6_copy 356 = .ok (.ireturn, 1) := by decide +kernel
theorem dX6_copied_0 : decode cX6_copied 0 = .ok (.aload_n 0, 1) := by decide +kernel
theorem dX6_copied_1 : decode cX6_copied 1 = .ok (.getfield 187, 3) := by decide +kernel
theorem dX6_copied_4 : decode cX6_copied 4 = .ok (.ireturn, 1) := by decide +kernel
theorem dX6_digest_0 : decode cX6_digest 0 = .ok (.aload_n 0, 1) := by decide +kernel
theorem dX6_digest_1 : decode cX6_digest 1 = .ok (.iload_n 1, 1) := by decide +kernel
theorem dX6_digest_2 : decode cX6_digest 2 = .ok (.invokevirtual 129, 3) := by decide +kernel
theorem dX6_digest_5 : decode cX6_digest 5 = .ok (.ifCond .ne 7, 3) := by decide +kernel
theorem dX6_digest_8 : decode cX6_digest 8 = .ok (.ldc2_w 106, 3) := by decide +kernel
theorem dX6_digest_11 : decode cX6_digest 11 = .ok (.lreturn, 1) := by decide +kernel
theorem dX6_digest_12 : decode cX6_digest 12 = .ok (.ldc2_w 193, 3) := by decide +kernel
theorem dX6_digest_15 : decode cX6_digest 15 = .ok (.lstore_n 2, 1) := by decide +kernel
theorem dX6_digest_16 : decode cX6_digest 16 = .ok (.iconst 0, 1) := by decide +kernel
theorem dX6_digest_17 : decode cX6_digest 17 = .ok (.istore 4, 2) := by decide +kernel
theorem dX6_digest_19 : decode cX6_digest 19 = .ok (.iload 4, 2) := by decide +kernel
theorem dX6_digest_21 : decode cX6_digest 21 = .ok (.aload_n 0, 1) := by decide +kernel
theorem dX6_digest_22 : decode cX6_digest 22 = .ok (.getfield 13, 3) := by decide +kernel
theorem dX6_digest_25 : decode cX6_digest 25 = .ok (.iload_n 1, 1) := by decide +kernel
theorem dX6_digest_26 : decode cX6_digest 26 = .ok (.iaload, 1) := by decide +kernel
theorem dX6_digest_27 : decode cX6_digest 27 = .ok (.if_icmp .ge 102, 3) := by decide +kernel
theorem dX6_digest_30 : decode cX6_digest 30 = .ok (.aload_n 0, 1) := by decide +kernel
theorem dX6_digest_31 : decode cX6_digest 31 = .ok (.iload_n 1, 1) := by decide +kernel
theorem dX6_digest_32 : decode cX6_digest 32 = .ok (.iload 4, 2) := by decide +kernel
theorem dX6_digest_34 : decode cX6_digest 34 = .ok (.invokevirtual 108, 3) := by decide +kernel
theorem dX6_digest_37 : decode cX6_digest 37 = .ok (.istore 5, 2) := by decide +kernel
theorem dX6_digest_39 : decode cX6_digest 39 = .ok (.ldc2_w 195, 3) := by decide +kernel
theorem dX6_digest_42 : decode cX6_digest 42 = .ok (.lload_n 2, 1) := by decide +kernel
theorem dX6_digest_43 : decode cX6_digest 43 = .ok (.lmul, 1) := by decide +kernel
theorem dX6_digest_44 : decode cX6_digest 44 = .ok (.aload_n 0, 1) := by decide +kernel
theorem dX6_digest_45 : decode cX6_digest 45 = .ok (.getfield 34, 3) := by decide +kernel
theorem dX6_digest_48 : decode cX6_digest 48 = .ok (.iload 5, 2) := by decide +kernel
theorem dX6_digest_50 : decode cX6_digest 50 = .ok (.iaload, 1) := by decide +kernel
theorem dX6_digest_51 : decode cX6_digest 51 = .ok (.iconst 1, 1) := by decide +kernel
theorem dX6_digest_52 : decode cX6_digest 52 = .ok (.iadd, 1) := by decide +kernel
theorem dX6_digest_53 : decode cX6_digest 53 = .ok (.ifCond .le 15, 3) := by decide +kernel
theorem dX6_digest_56 : decode cX6_digest 56 = .ok (.aload_n 0, 1) := by decide +kernel
theorem dX6_digest_57 : decode cX6_digest 57 = .ok (.getfield 34, 3) := by decide +kernel
theorem dX6_digest_60 : decode cX6_digest 60 = .ok (.iload 5, 2) := by decide +kernel
theorem dX6_digest_62 : decode cX6_digest 62 = .ok (.iaload, 1) := by decide +kernel
theorem dX6_digest_63 : decode cX6_digest 63 = .ok (.iconst 1, 1) := by decide +kernel
theorem dX6_digest_64 : decode cX6_digest 64 = .ok (.iadd, 1) := by decide +kernel
theorem dX6_digest_65 : decode cX6_digest 65 = .ok (.goto 4, 3) := by decide +kernel
theorem dX6_digest_68 : decode cX6_digest 68 = .ok (.iconst 0, 1) := by decide +kernel
theorem dX6_digest_69 : decode cX6_digest 69 = .ok (.i2l, 1) := by decide +kernel
theorem dX6_digest_70 : decode cX6_digest 70 = .ok (.ladd, 1) := by decide +kernel
theorem dX6_digest_71 : decode cX6_digest 71 = .ok (.lstore_n 2, 1) := by decide +kernel
theorem dX6_digest_72 : decode cX6_digest 72 = .ok (.iconst 0, 1) := by decide +kernel
theorem dX6_digest_73 : decode cX6_digest 73 = .ok (.istore 6, 2) := by decide +kernel
theorem dX6_digest_75 : decode cX6_digest 75 = .ok (.iload 6, 2) := by decide +kernel
theorem dX6_digest_77 : decode cX6_digest 77 = .ok (.aload_n 0, 1) := by decide +kernel
theorem dX6_digest_78 : decode cX6_digest 78 = .ok (.getfield 34, 3) := by decide +kernel
theorem dX6_digest_81 : decode cX6_digest 81 = .ok (.iload 5, 2) := by decide +kernel
theorem dX6_digest_83 : decode cX6_digest 83 = .ok (.iaload, 1) := by decide +kernel
theorem dX6_digest_84 : decode cX6_digest 84 = .ok (.if_icmp .ge 39, 3) := by decide +kernel
theorem dX6_digest_87 : decode cX6_digest 87 = .ok (.ldc2_w 195, 3) := by decide +kernel
theorem dX6_digest_90 : decode cX6_digest 90 = .ok (.lload_n 2, 1) := by decide +kernel
theorem dX6_digest_91 : decode cX6_digest 91 = .ok (.lmul, 1) := by decide +kernel
theorem dX6_digest_92 : decode cX6_digest 92 = .ok (.iload 6, 2) := by decide +kernel
theorem dX6_digest_94 : decode cX6_digest 94 = .ok (.ifCond .ne 13, 3) := by decide +kernel
theorem dX6_digest_97 : decode cX6_digest 97 = .ok (.aload_n 0, 1) := by decide +kernel
theorem dX6_digest_98 : decode cX6_digest 98 = .ok (.getfield 37, 3) := by decide +kernel
theorem dX6_digest_101 : decode cX6_digest 101 = .ok (.iload 5, 2) := by decide +kernel
theorem dX6_digest_103 : decode cX6_digest 103 = .ok (.iaload, 1) := by decide +kernel
theorem dX6_digest_104 : decode cX6_digest 104 = .ok (.goto 10, 3) := by decide +kernel
theorem dX6_digest_107 : decode cX6_digest 107 = .ok (.aload_n 0, 1) := by decide +kernel
theorem dX6_digest_108 : decode cX6_digest 108 = .ok (.getfield 40, 3) := by decide +kernel
theorem dX6_digest_111 : decode cX6_digest 111 = .ok (.iload 5, 2) := by decide +kernel
theorem dX6_digest_113 : decode cX6_digest 113 = .ok (.iaload, 1) := by decide +kernel
theorem dX6_digest_114 : decode cX6_digest 114 = .ok (.i2l, 1) := by decide +kernel
theorem dX6_digest_115 : decode cX6_digest 115 = .ok (.ladd, 1) := by decide +kernel
theorem dX6_digest_116 : decode cX6_digest 116 = .ok (.lstore_n 2, 1) := by decide +kernel
theorem dX6_digest_117 : decode cX6_digest 117 = .ok (.iinc 6 1, 3) := by decide +kernel
theorem dX6_digest_120 : decode cX6_digest 120 = .ok (.goto (-45), 3) := by decide +kernel
theorem dX6_digest_123 : decode cX6_digest 123 = .ok (.iinc 4 1, 3) := by decide +kernel
theorem dX6_digest_126 : decode cX6_digest 126 = .ok (.goto (-107), 3) := by decide +kernel
theorem dX6_digest_129 : decode cX6_digest 129 = .ok (.lload_n 2, 1) := by decide +kernel
theorem dX6_digest_130 : decode cX6_digest 130 = .ok (.lreturn, 1) := by decide +kernel
theorem dX6_ofFloat_0 : decode cX6_ofFloat 0 = .ok (.aload_n 0, 1) := by decide +kernel
theorem dX6_ofFloat_1 : decode cX6_ofFloat 1 = .ok (.iload_n 1, 1) := by decide +kernel
theorem dX6_ofFloat_2 : decode cX6_ofFloat 2 = .ok (.invokevirtual 129, 3) := by decide +kernel
theorem dX6_ofFloat_5 : decode cX6_ofFloat 5 = .ok (.ifCond .ne 5, 3) := by decide +kernel
theorem dX6_ofFloat_8 : decode cX6_ofFloat 8 = .ok (.iconst (-1), 1) := by decide +kernel
theorem dX6_ofFloat_9 : decode cX6_ofFloat 9 = .ok (.ireturn, 1) := by decide +kernel
theorem dX6_ofFloat_10 : decode cX6_ofFloat 10 = .ok (.iload_n 2, 1) := by decide +kernel
theorem dX6_ofFloat_11 : decode cX6_ofFloat 11 = .ok (.ldc 197, 2) := by decide +kernel
theorem dX6_ofFloat_13 : decode cX6_ofFloat 13 = .ok (.iand, 1) := by decide +kernel
theorem dX6_ofFloat_14 : decode cX6_ofFloat 14 = .ok (.ldc 198, 2) := by decide +kernel
theorem dX6_ofFloat_16 : decode cX6_ofFloat 16 = .ok (.if_icmp .lt 6, 3) := by decide +kernel
theorem dX6_ofFloat_19 : decode cX6_ofFloat 19 = .ok (.bipush (-2), 2) := by decide +kernel
theorem dX6_ofFloat_21 : decode cX6_ofFloat 21 = .ok (.ireturn, 1) := by decide +kernel
theorem dX6_ofFloat_22 : decode cX6_ofFloat 22 = .ok (.iload_n 2, 1) := by decide +kernel
theorem dX6_ofFloat_23 : decode cX6_ofFloat 23 = .ok (.invokestatic 199, 3) := by decide +kernel
theorem dX6_ofFloat_26 : decode cX6_ofFloat 26 = .ok (.fstore_n 3, 1) := by decide +kernel
theorem dX6_ofFloat_27 : decode cX6_ofFloat 27 = .ok (.fload_n 3, 1) := by decide +kernel
theorem dX6_ofFloat_28 : decode cX6_ofFloat 28 = .ok (.fconst 0, 1) := by decide +kernel
theorem dX6_ofFloat_29 : decode cX6_ofFloat 29 = .ok (.fcmp .g, 1) := by decide +kernel
theorem dX6_ofFloat_30 : decode cX6_ofFloat 30 = .ok (.ifCond .ge 8, 3) := by decide +kernel
theorem dX6_ofFloat_33 : decode cX6_ofFloat 33 = .ok (.bipush (-2), 2) := by decide +kernel
theorem dX6_ofFloat_35 : decode cX6_ofFloat 35 = .ok (.goto 10, 3) := by decide +kernel
theorem dX6_ofFloat_38 : decode cX6_ofFloat 38 = .ok (.aload_n 0, 1) := by decide +kernel
theorem dX6_ofFloat_39 : decode cX6_ofFloat 39 = .ok (.iload_n 1, 1) := by decide +kernel
theorem dX6_ofFloat_40 : decode cX6_ofFloat 40 = .ok (.fload_n 3, 1) := by decide +kernel
theorem dX6_ofFloat_41 : decode cX6_ofFloat 41 = .ok (.f2l, 1) := by decide +kernel
theorem dX6_ofFloat_42 : decode cX6_ofFloat 42 = .ok (.invokevirtual 205, 3) := by decide +kernel
theorem dX6_ofFloat_45 : decode cX6_ofFloat 45 = .ok (.ireturn, 1) := by decide +kernel
theorem dX6_ofDouble_0 : decode cX6_ofDouble 0 = .ok (.aload_n 0, 1) := by decide +kernel
theorem dX6_ofDouble_1 : decode cX6_ofDouble 1 = .ok (.iload_n 1, 1) := by decide +kernel
theorem dX6_ofDouble_2 : decode cX6_ofDouble 2 = .ok (.invokevirtual 129, 3) := by decide +kernel
theorem dX6_ofDouble_5 : decode cX6_ofDouble 5 = .ok (.ifCond .ne 5, 3) := by decide +kernel
theorem dX6_ofDouble_8 : decode cX6_ofDouble 8 = .ok (.iconst (-1), 1) := by decide +kernel
theorem dX6_ofDouble_9 : decode cX6_ofDouble 9 = .ok (.ireturn, 1) := by decide +kernel
theorem dX6_ofDouble_10 : decode cX6_ofDouble 10 = .ok (.lload_n 2, 1) := by decide +kernel
theorem dX6_ofDouble_11 : decode cX6_ofDouble 11 = .ok (.ldc2_w 209, 3) := by decide +kernel
theorem dX6_ofDouble_14 : decode cX6_ofDouble 14 = .ok (.land, 1) := by decide +kernel
theorem dX6_ofDouble_15 : decode cX6_ofDouble 15 = .ok (.ldc2_w 211, 3) := by decide +kernel
theorem dX6_ofDouble_18 : decode cX6_ofDouble 18 = .ok (.lcmp, 1) := by decide +kernel
theorem dX6_ofDouble_19 : decode cX6_ofDouble 19 = .ok (.ifCond .lt 6, 3) := by decide +kernel
theorem dX6_ofDouble_22 : decode cX6_ofDouble 22 = .ok (.bipush (-2), 2) := by decide +kernel
theorem dX6_ofDouble_24 : decode cX6_ofDouble 24 = .ok (.ireturn, 1) := by decide +kernel
theorem dX6_ofDouble_25 : decode cX6_ofDouble 25 = .ok (.lload_n 2, 1) := by decide +kernel
theorem dX6_ofDouble_26 : decode cX6_ofDouble 26 = .ok (.invokestatic 213, 3) := by decide +kernel
theorem dX6_ofDouble_29 : decode cX6_ofDouble 29 = .ok (.dstore 4, 2) := by decide +kernel
theorem dX6_ofDouble_31 : decode cX6_ofDouble 31 = .ok (.dload 4, 2) := by decide +kernel
theorem dX6_ofDouble_33 : decode cX6_ofDouble 33 = .ok (.dconst 0, 1) := by decide +kernel
theorem dX6_ofDouble_34 : decode cX6_ofDouble 34 = .ok (.dcmp .g, 1) := by decide +kernel
theorem dX6_ofDouble_35 : decode cX6_ofDouble 35 = .ok (.ifCond .ge 8, 3) := by decide +kernel
theorem dX6_ofDouble_38 : decode cX6_ofDouble 38 = .ok (.bipush (-2), 2) := by decide +kernel
theorem dX6_ofDouble_40 : decode cX6_ofDouble 40 = .ok (.goto 11, 3) := by decide +kernel
theorem dX6_ofDouble_43 : decode cX6_ofDouble 43 = .ok (.aload_n 0, 1) := by decide +kernel
theorem dX6_ofDouble_44 : decode cX6_ofDouble 44 = .ok (.iload_n 1, 1) := by decide +kernel
theorem dX6_ofDouble_45 : decode cX6_ofDouble 45 = .ok (.dload 4, 2) := by decide +kernel
theorem dX6_ofDouble_47 : decode cX6_ofDouble 47 = .ok (.d2l, 1) := by decide +kernel
theorem dX6_ofDouble_48 : decode cX6_ofDouble 48 = .ok (.invokevirtual 205, 3) := by decide +kernel
theorem dX6_ofDouble_51 : decode cX6_ofDouble 51 = .ok (.ireturn, 1) := by decide +kernel
theorem dX6_restFloat_0 : decode cX6_restFloat 0 = .ok (.iload_n 1, 1) := by decide +kernel
theorem dX6_restFloat_1 : decode cX6_restFloat 1 = .ok (.ldc 197, 2) := by decide +kernel
theorem dX6_restFloat_3 : decode cX6_restFloat 3 = .ok (.iand, 1) := by decide +kernel
theorem dX6_restFloat_4 : decode cX6_restFloat 4 = .ok (.istore_n 3, 1) := by decide +kernel
theorem dX6_restFloat_5 : decode cX6_restFloat 5 = .ok (.iload_n 2, 1) := by decide +kernel
theorem dX6_restFloat_6 : decode cX6_restFloat 6 = .ok (.ldc 197, 2) := by decide +kernel
theorem dX6_restFloat_8 : decode cX6_restFloat 8 = .ok (.iand, 1) := by decide +kernel
theorem dX6_restFloat_9 : decode cX6_restFloat 9 = .ok (.istore 4, 2) := by decide +kernel
theorem dX6_restFloat_11 : decode cX6_restFloat 11 = .ok (.iload_n 3, 1) := by decide +kernel
theorem dX6_restFloat_12 : decode cX6_restFloat 12 = .ok (.ldc 198, 2) := by decide +kernel
theorem dX6_restFloat_14 : decode cX6_restFloat 14 = .ok (.if_icmp .ge 15, 3) := by decide +kernel
theorem dX6_restFloat_17 : decode cX6_restFloat 17 = .ok (.iload 4, 2) := by decide +kernel
theorem dX6_restFloat_19 : decode cX6_restFloat 19 = .ok (.ldc 198, 2) := by decide +kernel
theorem dX6_restFloat_21 : decode cX6_restFloat 21 = .ok (.if_icmp .gt 8, 3) := by decide +kernel
theorem dX6_restFloat_24 : decode cX6_restFloat 24 = .ok (.iload 4, 2) := by decide +kernel
theorem dX6_restFloat_26 : decode cX6_restFloat 26 = .ok (.ifCond .ne 6, 3) := by decide +kernel
theorem dX6_restFloat_29 : decode cX6_restFloat 29 = .ok (.ldc 219, 2) := by decide +kernel
theorem dX6_restFloat_31 : decode cX6_restFloat 31 = .ok (.ireturn, 1) := by decide +kernel
theorem dX6_restFloat_32 : decode cX6_restFloat 32 = .ok (.iload_n 1, 1) := by decide +kernel
theorem dX6_restFloat_33 : decode cX6_restFloat 33 = .ok (.invokestatic 199, 3) := by decide +kernel
theorem dX6_restFloat_36 : decode cX6_restFloat 36 = .ok (.iload_n 2, 1) := by decide +kernel
theorem dX6_restFloat_37 : decode cX6_restFloat 37 = .ok (.invokestatic 199, 3) := by decide +kernel
theorem dX6_restFloat_40 : decode cX6_restFloat 40 = .ok (.frem, 1) := by decide +kernel
theorem dX6_restFloat_41 : decode cX6_restFloat 41 = .ok (.invokestatic 220, 3) := by decide +kernel
theorem dX6_restFloat_44 : decode cX6_restFloat 44 = .ok (.ireturn, 1) := by decide +kernel
theorem dX6_restDouble_0 : decode cX6_restDouble 0 = .ok (.lload_n 1, 1) := by decide +kernel
theorem dX6_restDouble_1 : decode cX6_restDouble 1 = .ok (.ldc2_w 209, 3) := by decide +kernel
theorem dX6_restDouble_4 : decode cX6_restDouble 4 = .ok (.land, 1) := by decide +kernel
theorem dX6_restDouble_5 : decode cX6_restDouble 5 = .ok (.lstore 5, 2) := by decide +kernel
theorem dX6_restDouble_7 : decode cX6_restDouble 7 = .ok (.lload_n 3, 1) := by decide +kernel
theorem dX6_restDouble_8 : decode cX6_restDouble 8 = .ok (.ldc2_w 209, 3) := by decide +kernel
theorem dX6_restDouble_11 : decode cX6_restDouble 11 = .ok (.land, 1) := by decide +kernel
theorem dX6_restDouble_12 : decode cX6_restDouble 12 = .ok (.lstore 7, 2) := by decide +kernel
theorem dX6_restDouble_14 : decode cX6_restDouble 14 = .ok (.lload 5, 2) := by decide +kernel
theorem dX6_restDouble_16 : decode cX6_restDouble 16 = .ok (.ldc2_w 211, 3) := by decide +kernel
theorem dX6_restDouble_19 : decode cX6_restDouble 19 = .ok (.lcmp, 1) := by decide +kernel
theorem dX6_restDouble_20 : decode cX6_restDouble 20 = .ok (.ifCond .ge 19, 3) := by decide +kernel
theorem dX6_restDouble_23 : decode cX6_restDouble 23 = .ok (.lload 7, 2) := by decide +kernel
theorem dX6_restDouble_25 : decode cX6_restDouble 25 = .ok (.ldc2_w 211, 3) := by decide +kernel
theorem dX6_restDouble_28 : decode cX6_restDouble 28 = .ok (.lcmp, 1) := by decide +kernel
theorem dX6_restDouble_29 : decode cX6_restDouble 29 = .ok (.ifCond .gt 10, 3) := by decide +kernel
theorem dX6_restDouble_32 : decode cX6_restDouble 32 = .ok (.lload 7, 2) := by decide +kernel
theorem dX6_restDouble_34 : decode cX6_restDouble 34 = .ok (.lconst 0, 1) := by decide +kernel
theorem dX6_restDouble_35 : decode cX6_restDouble 35 = .ok (.lcmp, 1) := by decide +kernel
theorem dX6_restDouble_36 : decode cX6_restDouble 36 = .ok (.ifCond .ne 7, 3) := by decide +kernel
theorem dX6_restDouble_39 : decode cX6_restDouble 39 = .ok (.ldc2_w 224, 3) := by decide +kernel
theorem dX6_restDouble_42 : decode cX6_restDouble 42 = .ok (.lreturn, 1) := by decide +kernel
theorem dX6_restDouble_43 : decode cX6_restDouble 43 = .ok (.lload_n 1, 1) := by decide +kernel
theorem dX6_restDouble_44 : decode cX6_restDouble 44 = .ok (.invokestatic 213, 3) := by decide +kernel
theorem dX6_restDouble_47 : decode cX6_restDouble 47 = .ok (.lload_n 3, 1) := by decide +kernel
theorem dX6_restDouble_48 : decode cX6_restDouble 48 = .ok (.invokestatic 213, 3) := by decide +kernel
theorem dX6_restDouble_51 : decode cX6_restDouble 51 = .ok (.drem, 1) := by decide +kernel
theorem dX6_restDouble_52 : decode cX6_restDouble 52 = .ok (.invokestatic 226, 3) := by decide +kernel
theorem dX6_restDouble_55 : decode cX6_restDouble 55 = .ok (.lreturn, 1) := by decide +kernel
theorem dX6_bars_0 : decode cX6_bars 0 = .ok (.aload_n 0, 1) := by decide +kernel
theorem dX6_bars_1 : decode cX6_bars 1 = .ok (.getfield 28, 3) := by decide +kernel
theorem dX6_bars_4 : decode cX6_bars 4 = .ok (.iload_n 1, 1) := by decide +kernel
theorem dX6_bars_5 : decode cX6_bars 5 = .ok (.iaload, 1) := by decide +kernel
theorem dX6_bars_6 : decode cX6_bars 6 = .ok (.aload_n 0, 1) := by decide +kernel
theorem dX6_bars_7 : decode cX6_bars 7 = .ok (.getfield 28, 3) := by decide +kernel
theorem dX6_bars_10 : decode cX6_bars 10 = .ok (.iload_n 2, 1) := by decide +kernel
theorem dX6_bars_11 : decode cX6_bars 11 = .ok (.iaload, 1) := by decide +kernel
theorem dX6_bars_12 : decode cX6_bars 12 = .ok (.iand, 1) := by decide +kernel
theorem dX6_bars_13 : decode cX6_bars 13 = .ok (.ifCond .ne 7, 3) := by decide +kernel
theorem dX6_bars_16 : decode cX6_bars 16 = .ok (.iconst 1, 1) := by decide +kernel
theorem dX6_bars_17 : decode cX6_bars 17 = .ok (.goto 4, 3) := by decide +kernel
theorem dX6_bars_20 : decode cX6_bars 20 = .ok (.iconst 0, 1) := by decide +kernel
theorem dX6_bars_21 : decode cX6_bars 21 = .ok (.istore 4, 2) := by decide +kernel
theorem dX6_bars_23 : decode cX6_bars 23 = .ok (.iload 4, 2) := by decide +kernel
theorem dX6_bars_25 : decode cX6_bars 25 = .ok (.ifCond .eq 42, 3) := by decide +kernel
theorem dX6_bars_28 : decode cX6_bars 28 = .ok (.iload_n 3, 1) := by decide +kernel
theorem dX6_bars_29 : decode cX6_bars 29 = .ok (.ifCond .eq 18, 3) := by decide +kernel
theorem dX6_bars_32 : decode cX6_bars 32 = .ok (.aload_n 0, 1) := by decide +kernel
theorem dX6_bars_33 : decode cX6_bars 33 = .ok (.getfield 16, 3) := by decide +kernel
theorem dX6_bars_36 : decode cX6_bars 36 = .ok (.iload_n 1, 1) := by decide +kernel
theorem dX6_bars_37 : decode cX6_bars 37 = .ok (.iaload, 1) := by decide +kernel
theorem dX6_bars_38 : decode cX6_bars 38 = .ok (.aload_n 0, 1) := by decide +kernel
theorem dX6_bars_39 : decode cX6_bars 39 = .ok (.getfield 16, 3) := by decide +kernel
theorem dX6_bars_42 : decode cX6_bars 42 = .ok (.iload_n 2, 1) := by decide +kernel
theorem dX6_bars_43 : decode cX6_bars 43 = .ok (.iaload, 1) := by decide +kernel
theorem dX6_bars_44 : decode cX6_bars 44 = .ok (.if_icmp .ne 23, 3) := by decide +kernel
theorem dX6_bars_47 : decode cX6_bars 47 = .ok (.aload_n 0, 1) := by decide +kernel
theorem dX6_bars_48 : decode cX6_bars 48 = .ok (.iload_n 1, 1) := by decide +kernel
theorem dX6_bars_49 : decode cX6_bars 49 = .ok (.invokevirtual 163, 3) := by decide +kernel
theorem dX6_bars_52 : decode cX6_bars 52 = .ok (.ifCond .eq 15, 3) := by decide +kernel
theorem dX6_bars_55 : decode cX6_bars 55 = .ok (.aload_n 0, 1) := by decide +kernel
theorem dX6_bars_56 : decode cX6_bars 56 = .ok (.iload_n 2, 1) := by decide +kernel
theorem dX6_bars_57 : decode cX6_bars 57 = .ok (.invokevirtual 163, 3) := by decide +kernel
theorem dX6_bars_60 : decode cX6_bars 60 = .ok (.ifCond .eq 7, 3) := by decide +kernel
theorem dX6_bars_63 : decode cX6_bars 63 = .ok (.iconst 1, 1) := by decide +kernel
theorem dX6_bars_64 : decode cX6_bars 64 = .ok (.goto 4, 3) := by decide +kernel
theorem dX6_bars_67 : decode cX6_bars 67 = .ok (.iconst 0, 1) := by decide +kernel
theorem dX6_bars_68 : decode cX6_bars 68 = .ok (.istore 5, 2) := by decide +kernel
theorem dX6_bars_70 : decode cX6_bars 70 = .ok (.iload 5, 2) := by decide +kernel
theorem dX6_bars_72 : decode cX6_bars 72 = .ok (.ifCond .eq 7, 3) := by decide +kernel
theorem dX6_bars_75 : decode cX6_bars 75 = .ok (.iconst 0, 1) := by decide +kernel
theorem dX6_bars_76 : decode cX6_bars 76 = .ok (.goto 5, 3) := by decide +kernel
theorem dX6_bars_79 : decode cX6_bars 79 = .ok (.bipush (-3), 2) := by decide +kernel
theorem dX6_bars_81 : decode cX6_bars 81 = .ok (.ireturn, 1) := by decide +kernel
theorem dX6_start_0 : decode cX6_start 0 = .ok (.aload_n 0, 1) := by decide +kernel
theorem dX6_start_1 : decode cX6_start 1 = .ok (.iconst 1, 1) := by decide +kernel
theorem dX6_start_2 : decode cX6_start 2 = .ok (.putfield 230, 3) := by decide +kernel
theorem dX6_start_5 : decode cX6_start 5 = .ok (.aload_n 0, 1) := by decide +kernel
theorem dX6_start_6 : decode cX6_start 6 = .ok (.iload_n 1, 1) := by decide +kernel
theorem dX6_start_7 : decode cX6_start 7 = .ok (.putfield 233, 3) := by decide +kernel
theorem dX6_start_10 : decode cX6_start 10 = .ok (.aload_n 0, 1) := by decide +kernel
theorem dX6_start_11 : decode cX6_start 11 = .ok (.iconst 0, 1) := by decide +kernel
theorem dX6_start_12 : decode cX6_start 12 = .ok (.putfield 137, 3) := by decide +kernel
theorem dX6_start_15 : decode cX6_start 15 = .ok (.aload_n 0, 1) := by decide +kernel
theorem dX6_start_16 : decode cX6_start 16 = .ok (.iconst 0, 1) := by decide +kernel
theorem dX6_start_17 : decode cX6_start 17 = .ok (.putfield 236, 3) := by decide +kernel
theorem dX6_start_20 : decode cX6_start 20 = .ok (.aload_n 0, 1) := by decide +kernel
theorem dX6_start_21 : decode cX6_start 21 = .ok (.iconst 0, 1) := by decide +kernel
theorem dX6_start_22 : decode cX6_start 22 = .ok (.putfield 239, 3) := by decide +kernel
theorem dX6_start_25 : decode cX6_start 25 = .ok (.aload_n 0, 1) := by decide +kernel
theorem dX6_start_26 : decode cX6_start 26 = .ok (.iconst 0, 1) := by decide +kernel
theorem dX6_start_27 : decode cX6_start 27 = .ok (.putfield 242, 3) := by decide +kernel
theorem dX6_start_30 : decode cX6_start 30 = .ok (.aload_n 0, 1) := by decide +kernel
theorem dX6_start_31 : decode cX6_start 31 = .ok (.bipush (-5), 2) := by decide +kernel
theorem dX6_start_33 : decode cX6_start 33 = .ok (.putfield 46, 3) := by decide +kernel
theorem dX6_start_36 : decode cX6_start 36 = .ok (.aload_n 0, 1) := by decide +kernel
theorem dX6_start_37 : decode cX6_start 37 = .ok (.bipush (-5), 2) := by decide +kernel
theorem dX6_start_39 : decode cX6_start 39 = .ok (.putfield 50, 3) := by decide +kernel
theorem dX6_start_42 : decode cX6_start 42 = .ok (.return_, 1) := by decide +kernel
theorem dX6_back_0 : decode cX6_back 0 = .ok (.aload_n 0, 1) := by decide +kernel
theorem dX6_back_1 : decode cX6_back 1 = .ok (.aload_n 0, 1) := by decide +kernel
theorem dX6_back_2 : decode cX6_back 2 = .ok (.getfield 54, 3) := by decide +kernel
theorem dX6_back_5 : decode cX6_back 5 = .ok (.bipush 7, 2) := by decide +kernel
theorem dX6_back_7 : decode cX6_back 7 = .ok (.iload_n 1, 1) := by decide +kernel
theorem dX6_back_8 : decode cX6_back 8 = .ok (.imul, 1) := by decide +kernel
theorem dX6_back_9 : decode cX6_back 9 = .ok (.iaload, 1) := by decide +kernel
theorem dX6_back_10 : decode cX6_back 10 = .ok (.aload_n 0, 1) := by decide +kernel
theorem dX6_back_11 : decode cX6_back 11 = .ok (.getfield 54, 3) := by decide +kernel
theorem dX6_back_14 : decode cX6_back 14 = .ok (.bipush 7, 2) := by decide +kernel
theorem dX6_back_16 : decode cX6_back 16 = .ok (.iload_n 1, 1) := by decide +kernel
theorem dX6_back_17 : decode cX6_back 17 = .ok (.imul, 1) := by decide +kernel
theorem dX6_back_18 : decode cX6_back 18 = .ok (.iconst 1, 1) := by decide +kernel
theorem dX6_back_19 : decode cX6_back 19 = .ok (.iadd, 1) := by decide +kernel
theorem dX6_back_20 : decode cX6_back 20 = .ok (.iaload, 1) := by decide +kernel
theorem dX6_back_21 : decode cX6_back 21 = .ok (.invokevirtual 108, 3) := by decide +kernel
theorem dX6_back_24 : decode cX6_back 24 = .ok (.istore_n 2, 1) := by decide +kernel
theorem dX6_back_25 : decode cX6_back 25 = .ok (.aload_n 0, 1) := by decide +kernel
theorem dX6_back_26 : decode cX6_back 26 = .ok (.getfield 40, 3) := by decide +kernel
theorem dX6_back_29 : decode cX6_back 29 = .ok (.iload_n 2, 1) := by decide +kernel
theorem dX6_back_30 : decode cX6_back 30 = .ok (.dup2, 1) := by decide +kernel
theorem dX6_back_31 : decode cX6_back 31 = .ok (.iaload, 1) := by decide +kernel
theorem dX6_back_32 : decode cX6_back 32 = .ok (.aload_n 0, 1) := by decide +kernel
theorem dX6_back_33 : decode cX6_back 33 = .ok (.getfield 54, 3) := by decide +kernel
theorem dX6_back_36 : decode cX6_back 36 = .ok (.bipush 7, 2) := by decide +kernel
theorem dX6_back_38 : decode cX6_back 38 = .ok (.iload_n 1, 1) := by decide +kernel
theorem dX6_back_39 : decode cX6_back 39 = .ok (.imul, 1) := by decide +kernel
theorem dX6_back_40 : decode cX6_back 40 = .ok (.iconst 2, 1) := by decide +kernel
theorem dX6_back_41 : decode cX6_back 41 = .ok (.iadd, 1) := by decide +kernel
theorem dX6_back_42 : decode cX6_back 42 = .ok (.iaload, 1) := by decide +kernel
theorem dX6_back_43 : decode cX6_back 43 = .ok (.isub, 1) := by decide +kernel
theorem dX6_back_44 : decode cX6_back 44 = .ok (.iastore, 1) := by decide +kernel
theorem dX6_back_45 : decode cX6_back 45 = .ok (.aload_n 0, 1) := by decide +kernel
theorem dX6_back_46 : decode cX6_back 46 = .ok (.getfield 37, 3) := by decide +kernel
theorem dX6_back_49 : decode cX6_back 49 = .ok (.iload_n 2, 1) := by decide +kernel
theorem dX6_back_50 : decode cX6_back 50 = .ok (.dup2, 1) := by decide +kernel
theorem dX6_back_51 : decode cX6_back 51 = .ok (.iaload, 1) := by decide +kernel
theorem dX6_back_52 : decode cX6_back 52 = .ok (.aload_n 0, 1) := by decide +kernel
theorem dX6_back_53 : decode cX6_back 53 = .ok (.getfield 54, 3) := by decide +kernel
theorem dX6_back_56 : decode cX6_back 56 = .ok (.bipush 7, 2) := by decide +kernel
theorem dX6_back_58 : decode cX6_back 58 = .ok (.iload_n 1, 1) := by decide +kernel
theorem dX6_back_59 : decode cX6_back 59 = .ok (.imul, 1) := by decide +kernel
theorem dX6_back_60 : decode cX6_back 60 = .ok (.iconst 3, 1) := by decide +kernel
theorem dX6_back_61 : decode cX6_back 61 = .ok (.iadd, 1) := by decide +kernel
theorem dX6_back_62 : decode cX6_back 62 = .ok (.iaload, 1) := by decide +kernel
theorem dX6_back_63 : decode cX6_back 63 = .ok (.isub, 1) := by decide +kernel
theorem dX6_back_64 : decode cX6_back 64 = .ok (.iastore, 1) := by decide +kernel
theorem dX6_back_65 : decode cX6_back 65 = .ok (.return_, 1) := by decide +kernel
theorem dX6_ended_0 : decode cX6_ended 0 = .ok (.iload_n 1, 1) := by decide +kernel
theorem dX6_ended_1 : decode cX6_ended 1 = .ok (.ifCond .eq 26, 3) := by decide +kernel
theorem dX6_ended_4 : decode cX6_ended 4 = .ok (.aload_n 0, 1) := by decide +kernel
theorem dX6_ended_5 : decode cX6_ended 5 = .ok (.aload_n 0, 1) := by decide +kernel
theorem dX6_ended_6 : decode cX6_ended 6 = .ok (.getfield 236, 3) := by decide +kernel
theorem dX6_ended_9 : decode cX6_ended 9 = .ok (.putfield 239, 3) := by decide +kernel
theorem dX6_ended_12 : decode cX6_ended 12 = .ok (.aload_n 0, 1) := by decide +kernel
theorem dX6_ended_13 : decode cX6_ended 13 = .ok (.dup, 1) := by decide +kernel
theorem dX6_ended_14 : decode cX6_ended 14 = .ok (.getfield 245, 3) := by decide +kernel
theorem dX6_ended_17 : decode cX6_ended 17 = .ok (.iconst 1, 1) := by decide +kernel
theorem dX6_ended_18 : decode cX6_ended 18 = .ok (.iadd, 1) := by decide +kernel
theorem dX6_ended_19 : decode cX6_ended 19 = .ok (.putfield 245, 3) := by decide +kernel
theorem dX6_ended_22 : decode cX6_ended 22 = .ok (.aload_n 0, 1) := by decide +kernel
theorem dX6_ended_23 : decode cX6_ended 23 = .ok (.getfield 236, 3) := by decide +kernel
theorem dX6_ended_26 : decode cX6_ended 26 = .ok (.ireturn, 1) := by decide +kernel
theorem dX6_ended_27 : decode cX6_ended 27 = .ok (.aload_n 0, 1) := by decide +kernel
theorem dX6_ended_28 : decode cX6_ended 28 = .ok (.getfield 236, 3) := by decide +kernel
theorem dX6_ended_31 : decode cX6_ended 31 = .ok (.iconst 1, 1) := by decide +kernel
theorem dX6_ended_32 : decode cX6_ended 32 = .ok (.isub, 1) := by decide +kernel
theorem dX6_ended_33 : decode cX6_ended 33 = .ok (.istore_n 2, 1) := by decide +kernel
theorem dX6_ended_34 : decode cX6_ended 34 = .ok (.iload_n 2, 1) := by decide +kernel
theorem dX6_ended_35 : decode cX6_ended 35 = .ok (.ifCond .lt 14, 3) := by decide +kernel
theorem dX6_ended_38 : decode cX6_ended 38 = .ok (.aload_n 0, 1) := by decide +kernel
theorem dX6_ended_39 : decode cX6_ended 39 = .ok (.iload_n 2, 1) := by decide +kernel
theorem dX6_ended_40 : decode cX6_ended 40 = .ok (.invokevirtual 248, 3) := by decide +kernel
theorem dX6_ended_43 : decode cX6_ended 43 = .ok (.iinc 2 (-1), 3) := by decide +kernel
theorem dX6_ended_46 : decode cX6_ended 46 = .ok (.goto (-12), 3) := by decide +kernel
theorem dX6_ended_49 : decode cX6_ended 49 = .ok (.aload_n 0, 1) := by decide +kernel
theorem dX6_ended_50 : decode cX6_ended 50 = .ok (.dup, 1) := by decide +kernel
theorem dX6_ended_51 : decode cX6_ended 51 = .ok (.getfield 251, 3) := by decide +kernel
theorem dX6_ended_54 : decode cX6_ended 54 = .ok (.iconst 1, 1) := by decide +kernel
theorem dX6_ended_55 : decode cX6_ended 55 = .ok (.iadd, 1) := by decide +kernel
theorem dX6_ended_56 : decode cX6_ended 56 = .ok (.putfield 251, 3) := by decide +kernel
theorem dX6_ended_59 : decode cX6_ended 59 = .ok (.bipush (-100), 2) := by decide +kernel
theorem dX6_ended_61 : decode cX6_ended 61 = .ok (.aload_n 0, 1) := by decide +kernel
theorem dX6_ended_62 : decode cX6_ended 62 = .ok (.getfield 236, 3) := by decide +kernel
theorem dX6_ended_65 : decode cX6_ended 65 = .ok (.isub, 1) := by decide +kernel
theorem dX6_ended_66 : decode cX6_ended 66 = .ok (.ireturn, 1) := by decide +kernel
theorem dX6_isStuck_0 : decode cX6_isStuck 0 = .ok (.aload_n 0, 1) := by decide +kernel
theorem dX6_isStuck_1 : decode cX6_isStuck 1 = .ok (.iload_n 1, 1) := by decide +kernel
theorem dX6_isStuck_2 : decode cX6_isStuck 2 = .ok (.iload_n 2, 1) := by decide +kernel
theorem dX6_isStuck_3 : decode cX6_isStuck 3 = .ok (.invokevirtual 118, 3) := by decide +kernel
theorem dX6_isStuck_6 : decode cX6_isStuck 6 = .ok (.istore_n 3, 1) := by decide +kernel
theorem dX6_isStuck_7 : decode cX6_isStuck 7 = .ok (.iload_n 3, 1) := by decide +kernel
theorem dX6_isStuck_8 : decode cX6_isStuck 8 = .ok (.ifCond .ne 5, 3) := by decide +kernel
theorem dX6_isStuck_11 : decode cX6_isStuck 11 = .ok (.iconst 0, 1) := by decide +kernel
theorem dX6_isStuck_12 : decode cX6_isStuck 12 = .ok (.ireturn, 1) := by decide +kernel
theorem dX6_isStuck_13 : decode cX6_isStuck 13 = .ok (.aload_n 0, 1) := by decide +kernel
theorem dX6_isStuck_14 : decode cX6_isStuck 14 = .ok (.iload_n 3, 1) := by decide +kernel
theorem dX6_isStuck_15 : decode cX6_isStuck 15 = .ok (.iconst 1, 1) := by decide +kernel
theorem dX6_isStuck_16 : decode cX6_isStuck 16 = .ok (.if_icmp .ne 7, 3) := by decide +kernel
theorem dX6_isStuck_19 : decode cX6_isStuck 19 = .ok (.iconst 1, 1) := by decide +kernel
theorem dX6_isStuck_20 : decode cX6_isStuck 20 = .ok (.goto 4, 3) := by decide +kernel
theorem dX6_isStuck_23 : decode cX6_isStuck 23 = .ok (.iconst 2, 1) := by decide +kernel
theorem dX6_isStuck_24 : decode cX6_isStuck 24 = .ok (.putfield 242, 3) := by decide +kernel
theorem dX6_isStuck_27 : decode cX6_isStuck 27 = .ok (.aload_n 0, 1) := by decide +kernel
theorem dX6_isStuck_28 : decode cX6_isStuck 28 = .ok (.iload_n 2, 1) := by decide +kernel
theorem dX6_isStuck_29 : decode cX6_isStuck 29 = .ok (.putfield 46, 3) := by decide +kernel
theorem dX6_isStuck_32 : decode cX6_isStuck 32 = .ok (.aload_n 0, 1) := by decide +kernel
theorem dX6_isStuck_33 : decode cX6_isStuck 33 = .ok (.iload_n 1, 1) := by decide +kernel
theorem dX6_isStuck_34 : decode cX6_isStuck 34 = .ok (.putfield 50, 3) := by decide +kernel
theorem dX6_isStuck_37 : decode cX6_isStuck 37 = .ok (.iconst 1, 1) := by decide +kernel
theorem dX6_isStuck_38 : decode cX6_isStuck 38 = .ok (.ireturn, 1) := by decide +kernel
theorem dX6_reason_0 : decode cX6_reason 0 = .ok (.iload_n 3, 1) := by decide +kernel
theorem dX6_reason_1 : decode cX6_reason 1 = .ok (.iload_n 0, 1) := by decide +kernel
theorem dX6_reason_2 : decode cX6_reason 2 = .ok (.imul, 1) := by decide +kernel
theorem dX6_reason_3 : decode cX6_reason 3 = .ok (.ifCond .lt 9, 3) := by decide +kernel
theorem dX6_reason_6 : decode cX6_reason 6 = .ok (.iload_n 3, 1) := by decide +kernel
theorem dX6_reason_7 : decode cX6_reason 7 = .ok (.iload_n 1, 1) := by decide +kernel
theorem dX6_reason_8 : decode cX6_reason 8 = .ok (.imul, 1) := by decide +kernel
theorem dX6_reason_9 : decode cX6_reason 9 = .ok (.ifCond .ge 7, 3) := by decide +kernel
theorem dX6_reason_12 : decode cX6_reason 12 = .ok (.iconst 1, 1) := by decide +kernel
theorem dX6_reason_13 : decode cX6_reason 13 = .ok (.goto 4, 3) := by decide +kernel
theorem dX6_reason_16 : decode cX6_reason 16 = .ok (.iconst 0, 1) := by decide +kernel
theorem dX6_reason_17 : decode cX6_reason 17 = .ok (.istore 4, 2) := by decide +kernel
theorem dX6_reason_19 : decode cX6_reason 19 = .ok (.iload_n 3, 1) := by decide +kernel
theorem dX6_reason_20 : decode cX6_reason 20 = .ok (.iload_n 0, 1) := by decide +kernel
theorem dX6_reason_21 : decode cX6_reason 21 = .ok (.imul, 1) := by decide +kernel
theorem dX6_reason_22 : decode cX6_reason 22 = .ok (.ifCond .gt 9, 3) := by decide +kernel
theorem dX6_reason_25 : decode cX6_reason 25 = .ok (.iload_n 3, 1) := by decide +kernel
theorem dX6_reason_26 : decode cX6_reason 26 = .ok (.iload_n 1, 1) := by decide +kernel
theorem dX6_reason_27 : decode cX6_reason 27 = .ok (.imul, 1) := by decide +kernel
theorem dX6_reason_28 : decode cX6_reason 28 = .ok (.ifCond .le 7, 3) := by decide +kernel
theorem dX6_reason_31 : decode cX6_reason 31 = .ok (.iconst 1, 1) := by decide +kernel
theorem dX6_reason_32 : decode cX6_reason 32 = .ok (.goto 4, 3) := by decide +kernel
theorem dX6_reason_35 : decode cX6_reason 35 = .ok (.iconst 0, 1) := by decide +kernel
theorem dX6_reason_36 : decode cX6_reason 36 = .ok (.istore 5, 2) := by decide +kernel
theorem dX6_reason_38 : decode cX6_reason 38 = .ok (.iload_n 2, 1) := by decide +kernel
theorem dX6_reason_39 : decode cX6_reason 39 = .ok (.ifCond .ne 16, 3) := by decide +kernel
theorem dX6_reason_42 : decode cX6_reason 42 = .ok (.iload 4, 2) := by decide +kernel
theorem dX6_reason_44 : decode cX6_reason 44 = .ok (.ifCond .eq 7, 3) := by decide +kernel
theorem dX6_reason_47 : decode cX6_reason 47 = .ok (.iconst 2, 1) := by decide +kernel
theorem dX6_reason_48 : decode cX6_reason 48 = .ok (.goto 17, 3) := by decide +kernel
theorem dX6_reason_51 : decode cX6_reason 51 = .ok (.iconst 1, 1) := by decide +kernel
theorem dX6_reason_52 : decode cX6_reason 52 = .ok (.goto 13, 3) := by decide +kernel
theorem dX6_reason_55 : decode cX6_reason 55 = .ok (.iload 5, 2) := by decide +kernel
theorem dX6_reason_57 : decode cX6_reason 57 = .ok (.ifCond .eq 7, 3) := by decide +kernel
theorem dX6_reason_60 : decode cX6_reason 60 = .ok (.iconst 4, 1) := by decide +kernel
theorem dX6_reason_61 : decode cX6_reason 61 = .ok (.goto 4, 3) := by decide +kernel
theorem dX6_reason_64 : decode cX6_reason 64 = .ok (.iconst 3, 1) := by decide +kernel
theorem dX6_reason_65 : decode cX6_reason 65 = .ok (.ireturn, 1) := by decide +kernel
theorem dX6_change_0 : decode cX6_change 0 = .ok (.iload_n 2, 1) := by decide +kernel
theorem dX6_change_1 : decode cX6_change 1 = .ok (.istore 5, 2) := by decide +kernel
theorem dX6_change_3 : decode cX6_change 3 = .ok (.iload_n 3, 1) := by decide +kernel
theorem dX6_change_4 : decode cX6_change 4 = .ok (.istore 6, 2) := by decide +kernel
theorem dX6_change_6 : decode cX6_change 6 = .ok (.iload 6, 2) := by decide +kernel
theorem dX6_change_8 : decode cX6_change 8 = .ok (.ifCond .le 257, 3) := by decide +kernel
theorem dX6_change_11 : decode cX6_change 11 = .ok (.aload_n 0, 1) := by decide +kernel
theorem dX6_change_12 : decode cX6_change 12 = .ok (.iload_n 1, 1) := by decide +kernel
theorem dX6_change_13 : decode cX6_change 13 = .ok (.iload 5, 2) := by decide +kernel
theorem dX6_change_15 : decode cX6_change 15 = .ok (.invokevirtual 254, 3) := by decide +kernel
theorem dX6_change_18 : decode cX6_change 18 = .ok (.ifCond .eq 5, 3) := by decide +kernel
theorem dX6_change_21 : decode cX6_change 21 = .ok (.iconst 0, 1) := by decide +kernel
theorem dX6_change_22 : decode cX6_change 22 = .ok (.ireturn, 1) := by decide +kernel
theorem dX6_change_23 : decode cX6_change 23 = .ok (.aload_n 0, 1) := by decide +kernel
theorem dX6_change_24 : decode cX6_change 24 = .ok (.iload_n 1, 1) := by decide +kernel
theorem dX6_change_25 : decode cX6_change 25 = .ok (.iload 5, 2) := by decide +kernel
theorem dX6_change_27 : decode cX6_change 27 = .ok (.invokevirtual 108, 3) := by decide +kernel
theorem dX6_change_30 : decode cX6_change 30 = .ok (.istore 7, 2) := by decide +kernel
theorem dX6_change_32 : decode cX6_change 32 = .ok (.aload_n 0, 1) := by decide +kernel
theorem dX6_change_33 : decode cX6_change 33 = .ok (.iload 7, 2) := by decide +kernel
theorem dX6_change_35 : decode cX6_change 35 = .ok (.invokevirtual 121, 3) := by decide +kernel
theorem dX6_change_38 : decode cX6_change 38 = .ok (.iload 4, 2) := by decide +kernel
theorem dX6_change_40 : decode cX6_change 40 = .ok (.iload 6, 2) := by decide +kernel
theorem dX6_change_42 : decode cX6_change 42 = .ok (.imul, 1) := by decide +kernel
theorem dX6_change_43 : decode cX6_change 43 = .ok (.iadd, 1) := by decide +kernel
theorem dX6_change_44 : decode cX6_change 44 = .ok (.istore 8, 2) := by decide +kernel
theorem dX6_change_46 : decode cX6_change 46 = .ok (.iload 8, 2) := by decide +kernel
theorem dX6_change_48 : decode cX6_change 48 = .ok (.ifCond .ge 7, 3) := by decide +kernel
theorem dX6_change_51 : decode cX6_change 51 = .ok (.iconst (-1), 1) := by decide +kernel
theorem dX6_change_52 : decode cX6_change 52 = .ok (.goto 19, 3) := by decide +kernel
theorem dX6_change_55 : decode cX6_change 55 = .ok (.iload 8, 2) := by decide +kernel
theorem dX6_change_57 : decode cX6_change 57 = .ok (.aload_n 0, 1) := by decide +kernel
theorem dX6_change_58 : decode cX6_change 58 = .ok (.getfield 16, 3) := by decide +kernel
theorem dX6_change_61 : decode cX6_change 61 = .ok (.iload_n 1, 1) := by decide +kernel
theorem dX6_change_62 : decode cX6_change 62 = .ok (.iaload, 1) := by decide +kernel
theorem dX6_change_63 : decode cX6_change 63 = .ok (.if_icmp .lt 7, 3) := by decide +kernel
theorem dX6_change_66 : decode cX6_change 66 = .ok (.iconst 1, 1) := by decide +kernel
theorem dX6_change_67 : decode cX6_change 67 = .ok (.goto 4, 3) := by decide +kernel
theorem dX6_change_70 : decode cX6_change 70 = .ok (.iconst 0, 1) := by decide +kernel
theorem dX6_change_71 : decode cX6_change 71 = .ok (.istore 9, 2) := by decide +kernel
theorem dX6_change_73 : decode cX6_change 73 = .ok (.aload_n 0, 1) := by decide +kernel
theorem dX6_change_74 : decode cX6_change 74 = .ok (.getfield 40, 3) := by decide +kernel
theorem dX6_change_77 : decode cX6_change 77 = .ok (.iload 7, 2) := by decide +kernel
theorem dX6_change_79 : decode cX6_change 79 = .ok (.iaload, 1) := by decide +kernel
theorem dX6_change_80 : decode cX6_change 80 = .ok (.istore 10, 2) := by decide +kernel
theorem dX6_change_82 : decode cX6_change 82 = .ok (.aload_n 0, 1) := by decide +kernel
theorem dX6_change_83 : decode cX6_change 83 = .ok (.getfield 37, 3) := by decide +kernel
theorem dX6_change_86 : decode cX6_change 86 = .ok (.iload 7, 2) := by decide +kernel
theorem dX6_change_88 : decode cX6_change 88 = .ok (.iaload, 1) := by decide +kernel
theorem dX6_change_89 : decode cX6_change 89 = .ok (.istore 11, 2) := by decide +kernel
theorem dX6_change_91 : decode cX6_change 91 = .ok (.aload_n 0, 1) := by decide +kernel
theorem dX6_change_92 : decode cX6_change 92 = .ok (.iload 7, 2) := by decide +kernel
theorem dX6_change_94 : decode cX6_change 94 = .ok (.iload 8, 2) := by decide +kernel
theorem dX6_change_96 : decode cX6_change 96 = .ok (.iload 9, 2) := by decide +kernel
theorem dX6_change_98 : decode cX6_change 98 = .ok (.aload_n 0, 1) := by decide +kernel
theorem dX6_change_99 : decode cX6_change 99 = .ok (.getfield 16, 3) := by decide +kernel
theorem dX6_change_102 : decode cX6_change 102 = .ok (.iload_n 1, 1) := by decide +kernel
theorem dX6_change_103 : decode cX6_change 103 = .ok (.iaload, 1) := by decide +kernel
theorem dX6_change_104 : decode cX6_change 104 = .ok (.imul, 1) := by decide +kernel
theorem dX6_change_105 : decode cX6_change 105 = .ok (.isub, 1) := by decide +kernel
theorem dX6_change_106 : decode cX6_change 106 = .ok (.invokevirtual 159, 3) := by decide +kernel
theorem dX6_change_109 : decode cX6_change 109 = .ok (.bipush 7, 2) := by decide +kernel
theorem dX6_change_111 : decode cX6_change 111 = .ok (.aload_n 0, 1) := by decide +kernel
theorem dX6_change_112 : decode cX6_change 112 = .ok (.getfield 236, 3) := by decide +kernel
theorem dX6_change_115 : decode cX6_change 115 = .ok (.imul, 1) := by decide +kernel
theorem dX6_change_116 : decode cX6_change 116 = .ok (.istore 12, 2) := by decide +kernel
theorem dX6_change_118 : decode cX6_change 118 = .ok (.aload_n 0, 1) := by decide +kernel
theorem dX6_change_119 : decode cX6_change 119 = .ok (.getfield 54, 3) := by decide +kernel
theorem dX6_change_122 : decode cX6_change 122 = .ok (.iload 12, 2) := by decide +kernel
theorem dX6_change_124 : decode cX6_change 124 = .ok (.iload_n 1, 1) := by decide +kernel
theorem dX6_change_125 : decode cX6_change 125 = .ok (.iastore, 1) := by decide +kernel
theorem dX6_change_126 : decode cX6_change 126 = .ok (.aload_n 0, 1) := by decide +kernel
theorem dX6_change_127 : decode cX6_change 127 = .ok (.getfield 54, 3) := by decide +kernel
theorem dX6_change_130 : decode cX6_change 130 = .ok (.iload 12, 2) := by decide +kernel
theorem dX6_change_132 : decode cX6_change 132 = .ok (.iconst 1, 1) := by decide +kernel
theorem dX6_change_133 : decode cX6_change 133 = .ok (.iadd, 1) := by decide +kernel
theorem dX6_change_134 : decode cX6_change 134 = .ok (.iload 5, 2) := by decide +kernel
theorem dX6_change_136 : decode cX6_change 136 = .ok (.iastore, 1) := by decide +kernel
theorem dX6_change_137 : decode cX6_change 137 = .ok (.aload_n 0, 1) := by decide +kernel
theorem dX6_change_138 : decode cX6_change 138 = .ok (.getfield 54, 3) := by decide +kernel
theorem dX6_change_141 : decode cX6_change 141 = .ok (.iload 12, 2) := by decide +kernel
theorem dX6_change_143 : decode cX6_change 143 = .ok (.iconst 2, 1) := by decide +kernel
theorem dX6_change_144 : decode cX6_change 144 = .ok (.iadd, 1) := by decide +kernel
theorem dX6_change_145 : decode cX6_change 145 = .ok (.aload_n 0, 1) := by decide +kernel
theorem dX6_change_146 : decode cX6_change 146 = .ok (.getfield 40, 3) := by decide +kernel
theorem dX6_change_149 : decode cX6_change 149 = .ok (.iload 7, 2) := by decide +kernel
theorem dX6_change_151 : decode cX6_change 151 = .ok (.iaload, 1) := by decide +kernel
theorem dX6_change_152 : decode cX6_change 152 = .ok (.iload 10, 2) := by decide +kernel
theorem dX6_change_154 : decode cX6_change 154 = .ok (.isub, 1) := by decide +kernel
theorem dX6_change_155 : decode cX6_change 155 = .ok (.iastore, 1) := by decide +kernel
theorem dX6_change_156 : decode cX6_change 156 = .ok (.aload_n 0, 1) := by decide +kernel
theorem dX6_change_157 : decode cX6_change 157 = .ok (.getfield 54, 3) := by decide +kernel
theorem dX6_change_160 : decode cX6_change 160 = .ok (.iload 12, 2) := by decide +kernel
theorem dX6_change_162 : decode cX6_change 162 = .ok (.iconst 3, 1) := by decide +kernel
theorem dX6_change_163 : decode cX6_change 163 = .ok (.iadd, 1) := by decide +kernel
theorem dX6_change_164 : decode cX6_change 164 = .ok (.aload_n 0, 1) := by decide +kernel
theorem dX6_change_165 : decode cX6_change 165 = .ok (.getfield 37, 3) := by decide +kernel
theorem dX6_change_168 : decode cX6_change 168 = .ok (.iload 7, 2) := by decide +kernel
theorem dX6_change_170 : decode cX6_change 170 = .ok (.iaload, 1) := by decide +kernel
theorem dX6_change_171 : decode cX6_change 171 = .ok (.iload 11, 2) := by decide +kernel
theorem dX6_change_173 : decode cX6_change 173 = .ok (.isub, 1) := by decide +kernel
theorem dX6_change_174 : decode cX6_change 174 = .ok (.iastore, 1) := by decide +kernel
theorem dX6_change_175 : decode cX6_change 175 = .ok (.aload_n 0, 1) := by decide +kernel
theorem dX6_change_176 : decode cX6_change 176 = .ok (.getfield 54, 3) := by decide +kernel
theorem dX6_change_179 : decode cX6_change 179 = .ok (.iload 12, 2) := by decide +kernel
theorem dX6_change_181 : decode cX6_change 181 = .ok (.iconst 4, 1) := by decide +kernel
theorem dX6_change_182 : decode cX6_change 182 = .ok (.iadd, 1) := by decide +kernel
theorem dX6_change_183 : decode cX6_change 183 = .ok (.aload_n 0, 1) := by decide +kernel
theorem dX6_change_184 : decode cX6_change 184 = .ok (.getfield 40, 3) := by decide +kernel
theorem dX6_change_187 : decode cX6_change 187 = .ok (.iload 7, 2) := by decide +kernel
theorem dX6_change_189 : decode cX6_change 189 = .ok (.iaload, 1) := by decide +kernel
theorem dX6_change_190 : decode cX6_change 190 = .ok (.iload 10, 2) := by decide +kernel
theorem dX6_change_192 : decode cX6_change 192 = .ok (.isub, 1) := by decide +kernel
theorem dX6_change_193 : decode cX6_change 193 = .ok (.aload_n 0, 1) := by decide +kernel
theorem dX6_change_194 : decode cX6_change 194 = .ok (.getfield 37, 3) := by decide +kernel
theorem dX6_change_197 : decode cX6_change 197 = .ok (.iload 7, 2) := by decide +kernel
theorem dX6_change_199 : decode cX6_change 199 = .ok (.iaload, 1) := by decide +kernel
theorem dX6_change_200 : decode cX6_change 200 = .ok (.iload 11, 2) := by decide +kernel
theorem dX6_change_202 : decode cX6_change 202 = .ok (.isub, 1) := by decide +kernel
theorem dX6_change_203 : decode cX6_change 203 = .ok (.iload 9, 2) := by decide +kernel
theorem dX6_change_205 : decode cX6_change 205 = .ok (.iload 4, 2) := by decide +kernel
theorem dX6_change_207 : decode cX6_change 207 = .ok (.invokestatic 258, 3) := by decide +kernel
theorem dX6_change_210 : decode cX6_change 210 = .ok (.iastore, 1) := by decide +kernel
theorem dX6_change_211 : decode cX6_change 211 = .ok (.aload_n 0, 1) := by decide +kernel
theorem dX6_change_212 : decode cX6_change 212 = .ok (.getfield 54, 3) := by decide +kernel
theorem dX6_change_215 : decode cX6_change 215 = .ok (.iload 12, 2) := by decide +kernel
theorem dX6_change_217 : decode cX6_change 217 = .ok (.iconst 5, 1) := by decide +kernel
theorem dX6_change_218 : decode cX6_change 218 = .ok (.iadd, 1) := by decide +kernel
theorem dX6_change_219 : decode cX6_change 219 = .ok (.iload 9, 2) := by decide +kernel
theorem dX6_change_221 : decode cX6_change 221 = .ok (.iastore, 1) := by decide +kernel
theorem dX6_change_222 : decode cX6_change 222 = .ok (.aload_n 0, 1) := by decide +kernel
theorem dX6_change_223 : decode cX6_change 223 = .ok (.getfield 54, 3) := by decide +kernel
theorem dX6_change_226 : decode cX6_change 226 = .ok (.iload 12, 2) := by decide +kernel
theorem dX6_change_228 : decode cX6_change 228 = .ok (.bipush 6, 2) := by decide +kernel
theorem dX6_change_230 : decode cX6_change 230 = .ok (.iadd, 1) := by decide +kernel
theorem dX6_change_231 : decode cX6_change 231 = .ok (.iload 4, 2) := by decide +kernel
theorem dX6_change_233 : decode cX6_change 233 = .ok (.iload 6, 2) := by decide +kernel
theorem dX6_change_235 : decode cX6_change 235 = .ok (.imul, 1) := by decide +kernel
theorem dX6_change_236 : decode cX6_change 236 = .ok (.iastore, 1) := by decide +kernel
theorem dX6_change_237 : decode cX6_change 237 = .ok (.aload_n 0, 1) := by decide +kernel
theorem dX6_change_238 : decode cX6_change 238 = .ok (.dup, 1) := by decide +kernel
theorem dX6_change_239 : decode cX6_change 239 = .ok (.getfield 236, 3) := by decide +kernel
theorem dX6_change_242 : decode cX6_change 242 = .ok (.iconst 1, 1) := by decide +kernel
theorem dX6_change_243 : decode cX6_change 243 = .ok (.iadd, 1) := by decide +kernel
theorem dX6_change_244 : decode cX6_change 244 = .ok (.putfield 236, 3) := by decide +kernel
theorem dX6_change_247 : decode cX6_change 247 = .ok (.iload 9, 2) := by decide +kernel
theorem dX6_change_249 : decode cX6_change 249 = .ok (.ifCond .ne 7, 3) := by decide +kernel
theorem dX6_change_252 : decode cX6_change 252 = .ok (.iconst 0, 1) := by decide +kernel
theorem dX6_change_253 : decode cX6_change 253 = .ok (.goto 4, 3) := by decide +kernel
theorem dX6_change_256 : decode cX6_change 256 = .ok (.iconst 1, 1) := by decide +kernel
theorem dX6_change_257 : decode cX6_change 257 = .ok (.istore 6, 2) := by decide +kernel
theorem dX6_change_259 : decode cX6_change 259 = .ok (.iinc 5 1, 3) := by decide +kernel
theorem dX6_change_262 : decode cX6_change 262 = .ok (.goto (-256), 3) := by decide +kernel
theorem dX6_change_265 : decode cX6_change 265 = .ok (.iconst 1, 1) := by decide +kernel
theorem dX6_change_266 : decode cX6_change 266 = .ok (.ireturn, 1) := by decide +kernel
theorem dX6_clear_0 : decode cX6_clear 0 = .ok (.iconst 1, 1) := by decide +kernel
theorem dX6_clear_1 : decode cX6_clear 1 = .ok (.istore_n 2, 1) := by decide +kernel
theorem dX6_clear_2 : decode cX6_clear 2 = .ok (.aload_n 0, 1) := by decide +kernel
theorem dX6_clear_3 : decode cX6_clear 3 = .ok (.getfield 13, 3) := by decide +kernel
theorem dX6_clear_6 : decode cX6_clear 6 = .ok (.iload_n 1, 1) := by decide +kernel
theorem dX6_clear_7 : decode cX6_clear 7 = .ok (.iaload, 1) := by decide +kernel
theorem dX6_clear_8 : decode cX6_clear 8 = .ok (.iconst 1, 1) := by decide +kernel
theorem dX6_clear_9 : decode cX6_clear 9 = .ok (.isub, 1) := by decide +kernel
theorem dX6_clear_10 : decode cX6_clear 10 = .ok (.istore_n 3, 1) := by decide +kernel
theorem dX6_clear_11 : decode cX6_clear 11 = .ok (.iload_n 3, 1) := by decide +kernel
theorem dX6_clear_12 : decode cX6_clear 12 = .ok (.ifCond .lt 48, 3) := by decide +kernel
theorem dX6_clear_15 : decode cX6_clear 15 = .ok (.iload_n 2, 1) := by decide +kernel
theorem dX6_clear_16 : decode cX6_clear 16 = .ok (.ifCond .eq 44, 3) := by decide +kernel
theorem dX6_clear_19 : decode cX6_clear 19 = .ok (.aload_n 0, 1) := by decide +kernel
theorem dX6_clear_20 : decode cX6_clear 20 = .ok (.iload_n 1, 1) := by decide +kernel
theorem dX6_clear_21 : decode cX6_clear 21 = .ok (.iload_n 3, 1) := by decide +kernel
theorem dX6_clear_22 : decode cX6_clear 22 = .ok (.invokevirtual 254, 3) := by decide +kernel
theorem dX6_clear_25 : decode cX6_clear 25 = .ok (.ifCond .ne 27, 3) := by decide +kernel
theorem dX6_clear_28 : decode cX6_clear 28 = .ok (.aload_n 0, 1) := by decide +kernel
theorem dX6_clear_29 : decode cX6_clear 29 = .ok (.iload_n 1, 1) := by decide +kernel
theorem dX6_clear_30 : decode cX6_clear 30 = .ok (.iload_n 3, 1) := by decide +kernel
theorem dX6_clear_31 : decode cX6_clear 31 = .ok (.aload_n 0, 1) := by decide +kernel
theorem dX6_clear_32 : decode cX6_clear 32 = .ok (.aload_n 0, 1) := by decide +kernel
theorem dX6_clear_33 : decode cX6_clear 33 = .ok (.iload_n 1, 1) := by decide +kernel
theorem dX6_clear_34 : decode cX6_clear 34 = .ok (.iload_n 3, 1) := by decide +kernel
theorem dX6_clear_35 : decode cX6_clear 35 = .ok (.invokevirtual 108, 3) := by decide +kernel
theorem dX6_clear_38 : decode cX6_clear 38 = .ok (.invokevirtual 121, 3) := by decide +kernel
theorem dX6_clear_41 : decode cX6_clear 41 = .ok (.iconst (-1), 1) := by decide +kernel
theorem dX6_clear_42 : decode cX6_clear 42 = .ok (.invokevirtual 262, 3) := by decide +kernel
theorem dX6_clear_45 : decode cX6_clear 45 = .ok (.ifCond .eq 7, 3) := by decide +kernel
theorem dX6_clear_48 : decode cX6_clear 48 = .ok (.iconst 1, 1) := by decide +kernel
theorem dX6_clear_49 : decode cX6_clear 49 = .ok (.goto 4, 3) := by decide +kernel
theorem dX6_clear_52 : decode cX6_clear 52 = .ok (.iconst 0, 1) := by decide +kernel
theorem dX6_clear_53 : decode cX6_clear 53 = .ok (.istore_n 2, 1) := by decide +kernel
theorem dX6_clear_54 : decode cX6_clear 54 = .ok (.iinc 3 (-1), 3) := by decide +kernel
theorem dX6_clear_57 : decode cX6_clear 57 = .ok (.goto (-46), 3) := by decide +kernel
theorem dX6_clear_60 : decode cX6_clear 60 = .ok (.iload_n 2, 1) := by decide +kernel
theorem dX6_clear_61 : decode cX6_clear 61 = .ok (.ireturn, 1) := by decide +kernel
theorem dX6_changeAll_0 : decode cX6_changeAll 0 = .ok (.iconst 1, 1) := by decide +kernel
theorem dX6_changeAll_1 : decode cX6_changeAll 1 = .ok (.istore 6, 2) := by decide +kernel
theorem dX6_changeAll_3 : decode cX6_changeAll 3 = .ok (.lload_n 3, 1) := by decide +kernel
theorem dX6_changeAll_4 : decode cX6_changeAll 4 = .ok (.aload_n 0, 1) := by decide +kernel
theorem dX6_changeAll_5 : decode cX6_changeAll 5 = .ok (.getfield 16, 3) := by decide +kernel
theorem dX6_changeAll_8 : decode cX6_changeAll 8 = .ok (.iload_n 1, 1) := by decide +kernel
theorem dX6_changeAll_9 : decode cX6_changeAll 9 = .ok (.iaload, 1) := by decide +kernel
theorem dX6_changeAll_10 : decode cX6_changeAll 10 = .ok (.invokestatic 155, 3) := by decide +kernel
theorem dX6_changeAll_13 : decode cX6_changeAll 13 = .ok (.iconst 1, 1) := by decide +kernel
theorem dX6_changeAll_14 : decode cX6_changeAll 14 = .ok (.isub, 1) := by decide +kernel
theorem dX6_changeAll_15 : decode cX6_changeAll 15 = .ok (.istore 7, 2) := by decide +kernel
theorem dX6_changeAll_17 : decode cX6_changeAll 17 = .ok (.iload 7, 2) := by decide +kernel
theorem dX6_changeAll_19 : decode cX6_changeAll 19 = .ok (.ifCond .lt 39, 3) := by decide +kernel
theorem dX6_changeAll_22 : decode cX6_changeAll 22 = .ok (.iload 6, 2) := by decide +kernel
theorem dX6_changeAll_24 : decode cX6_changeAll 24 = .ok (.ifCond .eq 34, 3) := by decide +kernel
theorem dX6_changeAll_27 : decode cX6_changeAll 27 = .ok (.aload_n 0, 1) := by decide +kernel
theorem dX6_changeAll_28 : decode cX6_changeAll 28 = .ok (.iload_n 1, 1) := by decide +kernel
theorem dX6_changeAll_29 : decode cX6_changeAll 29 = .ok (.iload_n 2, 1) := by decide +kernel
theorem dX6_changeAll_30 : decode cX6_changeAll 30 = .ok (.iload 7, 2) := by decide +kernel
theorem dX6_changeAll_32 : decode cX6_changeAll 32 = .ok (.iadd, 1) := by decide +kernel
theorem dX6_changeAll_33 : decode cX6_changeAll 33 = .ok (.lload_n 3, 1) := by decide +kernel
theorem dX6_changeAll_34 : decode cX6_changeAll 34 = .ok (.aload_n 0, 1) := by decide +kernel
theorem dX6_changeAll_35 : decode cX6_changeAll 35 = .ok (.getfield 16, 3) := by decide +kernel
theorem dX6_changeAll_38 : decode cX6_changeAll 38 = .ok (.iload_n 1, 1) := by decide +kernel
theorem dX6_changeAll_39 : decode cX6_changeAll 39 = .ok (.iaload, 1) := by decide +kernel
theorem dX6_changeAll_40 : decode cX6_changeAll 40 = .ok (.iload 7, 2) := by decide +kernel
theorem dX6_changeAll_42 : decode cX6_changeAll 42 = .ok (.invokestatic 266, 3) := by decide +kernel
theorem dX6_changeAll_45 : decode cX6_changeAll 45 = .ok (.iload 5, 2) := by decide +kernel
theorem dX6_changeAll_47 : decode cX6_changeAll 47 = .ok (.invokevirtual 262, 3) := by decide +kernel
theorem dX6_changeAll_50 : decode cX6_changeAll 50 = .ok (.istore 6, 2) := by decide +kernel
theorem dX6_changeAll_52 : decode cX6_changeAll 52 = .ok (.iinc 7 (-1), 3) := by decide +kernel
theorem dX6_changeAll_55 : decode cX6_changeAll 55 = .ok (.goto (-38), 3) := by decide +kernel
theorem dX6_changeAll_58 : decode cX6_changeAll 58 = .ok (.iload 6, 2) := by decide +kernel
theorem dX6_changeAll_60 : decode cX6_changeAll 60 = .ok (.ireturn, 1) := by decide +kernel
theorem dX6_changeTwo_0 : decode cX6_changeTwo 0 = .ok (.aload_n 0, 1) := by decide +kernel
theorem dX6_changeTwo_1 : decode cX6_changeTwo 1 = .ok (.iload_n 1, 1) := by decide +kernel
theorem dX6_changeTwo_2 : decode cX6_changeTwo 2 = .ok (.iload_n 2, 1) := by decide +kernel
theorem dX6_changeTwo_3 : decode cX6_changeTwo 3 = .ok (.iconst 1, 1) := by decide +kernel
theorem dX6_changeTwo_4 : decode cX6_changeTwo 4 = .ok (.iadd, 1) := by decide +kernel
theorem dX6_changeTwo_5 : decode cX6_changeTwo 5 = .ok (.iload_n 3, 1) := by decide +kernel
theorem dX6_changeTwo_6 : decode cX6_changeTwo 6 = .ok (.aload_n 0, 1) := by decide +kernel
theorem dX6_changeTwo_7 : decode cX6_changeTwo 7 = .ok (.getfield 16, 3) := by decide +kernel
theorem dX6_changeTwo_10 : decode cX6_changeTwo 10 = .ok (.iload_n 1, 1) := by decide +kernel
theorem dX6_changeTwo_11 : decode cX6_changeTwo 11 = .ok (.iaload, 1) := by decide +kernel
theorem dX6_changeTwo_12 : decode cX6_changeTwo 12 = .ok (.idiv, 1) := by decide +kernel
theorem dX6_changeTwo_13 : decode cX6_changeTwo 13 = .ok (.iload 4, 2) := by decide +kernel
theorem dX6_changeTwo_15 : decode cX6_changeTwo 15 = .ok (.invokevirtual 262, 3) := by decide +kernel
theorem dX6_changeTwo_18 : decode cX6_changeTwo 18 = .ok (.ifCond .eq 26, 3) := by decide +kernel
theorem dX6_changeTwo_21 : decode cX6_changeTwo 21 = .ok (.aload_n 0, 1) := by decide +kernel
theorem dX6_changeTwo_22 : decode cX6_changeTwo 22 = .ok (.iload_n 1, 1) := by decide +kernel
theorem dX6_changeTwo_23 : decode cX6_changeTwo 23 = .ok (.iload_n 2, 1) := by decide +kernel
theorem dX6_changeTwo_24 : decode cX6_changeTwo 24 = .ok (.iload_n 3, 1) := by decide +kernel
theorem dX6_changeTwo_25 : decode cX6_changeTwo 25 = .ok (.aload_n 0, 1) := by decide +kernel
theorem dX6_changeTwo_26 : decode cX6_changeTwo 26 = .ok (.getfield 16, 3) := by decide +kernel
theorem dX6_changeTwo_29 : decode cX6_changeTwo 29 = .ok (.iload_n 1, 1) := by decide +kernel
theorem dX6_changeTwo_30 : decode cX6_changeTwo 30 = .ok (.iaload, 1) := by decide +kernel
theorem dX6_changeTwo_31 : decode cX6_changeTwo 31 = .ok (.irem, 1) := by decide +kernel
theorem dX6_changeTwo_32 : decode cX6_changeTwo 32 = .ok (.iload 4, 2) := by decide +kernel
theorem dX6_changeTwo_34 : decode cX6_changeTwo 34 = .ok (.invokevirtual 262, 3) := by decide +kernel
theorem dX6_changeTwo_37 : decode cX6_changeTwo 37 = .ok (.ifCond .eq 7, 3) := by decide +kernel
theorem dX6_changeTwo_40 : decode cX6_changeTwo 40 = .ok (.iconst 1, 1) := by decide +kernel
theorem dX6_changeTwo_41 : decode cX6_changeTwo 41 = .ok (.goto 4, 3) := by decide +kernel
theorem dX6_changeTwo_44 : decode cX6_changeTwo 44 = .ok (.iconst 0, 1) := by decide +kernel
theorem dX6_changeTwo_45 : decode cX6_changeTwo 45 = .ok (.ireturn, 1) := by decide +kernel
theorem dX6_multiply_0 : decode cX6_multiply 0 = .ok (.aload_n 0, 1) := by decide +kernel
theorem dX6_multiply_1 : decode cX6_multiply 1 = .ok (.getfield 16, 3) := by decide +kernel
theorem dX6_multiply_4 : decode cX6_multiply 4 = .ok (.iload_n 1, 1) := by decide +kernel
theorem dX6_multiply_5 : decode cX6_multiply 5 = .ok (.iaload, 1) := by decide +kernel
theorem dX6_multiply_6 : decode cX6_multiply 6 = .ok (.istore 6, 2) := by decide +kernel
theorem dX6_multiply_8 : decode cX6_multiply 8 = .ok (.aload_n 0, 1) := by decide +kernel
theorem dX6_multiply_9 : decode cX6_multiply 9 = .ok (.iconst 1, 1) := by decide +kernel
theorem dX6_multiply_10 : decode cX6_multiply 10 = .ok (.putfield 270, 3) := by decide +kernel
theorem dX6_multiply_13 : decode cX6_multiply 13 = .ok (.aload_n 0, 1) := by decide +kernel
theorem dX6_multiply_14 : decode cX6_multiply 14 = .ok (.lload_n 2, 1) := by decide +kernel
theorem dX6_multiply_15 : decode cX6_multiply 15 = .ok (.iload 6, 2) := by decide +kernel
theorem dX6_multiply_17 : decode cX6_multiply 17 = .ok (.invokestatic 155, 3) := by decide +kernel
theorem dX6_multiply_20 : decode cX6_multiply 20 = .ok (.putfield 273, 3) := by decide +kernel
theorem dX6_multiply_23 : decode cX6_multiply 23 = .ok (.aload_n 0, 1) := by decide +kernel
theorem dX6_multiply_24 : decode cX6_multiply 24 = .ok (.lload 4, 2) := by decide +kernel
theorem dX6_multiply_26 : decode cX6_multiply 26 = .ok (.iload 6, 2) := by decide +kernel
theorem dX6_multiply_28 : decode cX6_multiply 28 = .ok (.invokestatic 155, 3) := by decide +kernel
theorem dX6_multiply_31 : decode cX6_multiply 31 = .ok (.putfield 276, 3) := by decide +kernel
theorem dX6_multiply_34 : decode cX6_multiply 34 = .ok (.iconst 0, 1) := by decide +kernel
theorem dX6_multiply_35 : decode cX6_multiply 35 = .ok (.istore 7, 2) := by decide +kernel
theorem dX6_multiply_37 : decode cX6_multiply 37 = .ok (.iload 7, 2) := by decide +kernel
theorem dX6_multiply_39 : decode cX6_multiply 39 = .ok (.aload_n 0, 1) := by decide +kernel
theorem dX6_multiply_40 : decode cX6_multiply 40 = .ok (.getfield 273, 3) := by decide +kernel
theorem dX6_multiply_43 : decode cX6_multiply 43 = .ok (.if_icmp .ge 64, 3) := by decide +kernel
theorem dX6_multiply_46 : decode cX6_multiply 46 = .ok (.aload_n 0, 1) := by decide +kernel
theorem dX6_multiply_47 : decode cX6_multiply 47 = .ok (.getfield 57, 3) := by decide +kernel
theorem dX6_multiply_50 : decode cX6_multiply 50 = .ok (.iload 7, 2) := by decide +kernel
theorem dX6_multiply_52 : decode cX6_multiply 52 = .ok (.lload_n 2, 1) := by decide +kernel
theorem dX6_multiply_53 : decode cX6_multiply 53 = .ok (.iload 6, 2) := by decide +kernel
theorem dX6_multiply_55 : decode cX6_multiply 55 = .ok (.iload 7, 2) := by decide +kernel
theorem dX6_multiply_57 : decode cX6_multiply 57 = .ok (.invokestatic 266, 3) := by decide +kernel
theorem dX6_multiply_60 : decode cX6_multiply 60 = .ok (.ifCond .le 7, 3) := by decide +kernel
theorem dX6_multiply_63 : decode cX6_multiply 63 = .ok (.iconst 1, 1) := by decide +kernel
theorem dX6_multiply_64 : decode cX6_multiply 64 = .ok (.goto 4, 3) := by decide +kernel
theorem dX6_multiply_67 : decode cX6_multiply 67 = .ok (.iconst 0, 1) := by decide +kernel
theorem dX6_multiply_68 : decode cX6_multiply 68 = .ok (.bastore, 1) := by decide +kernel
theorem dX6_multiply_69 : decode cX6_multiply 69 = .ok (.iconst 0, 1) := by decide +kernel
theorem dX6_multiply_70 : decode cX6_multiply 70 = .ok (.istore 8, 2) := by decide +kernel
theorem dX6_multiply_72 : decode cX6_multiply 72 = .ok (.iload 8, 2) := by decide +kernel
theorem dX6_multiply_74 : decode cX6_multiply 74 = .ok (.aload_n 0, 1) := by decide +kernel
theorem dX6_multiply_75 : decode cX6_multiply 75 = .ok (.getfield 276, 3) := by decide +kernel
theorem dX6_multiply_78 : decode cX6_multiply 78 = .ok (.if_icmp .ge 23, 3) := by decide +kernel
theorem dX6_multiply_81 : decode cX6_multiply 81 = .ok (.aload_n 0, 1) := by decide +kernel
theorem dX6_multiply_82 : decode cX6_multiply 82 = .ok (.getfield 61, 3) := by decide +kernel
theorem dX6_multiply_85 : decode cX6_multiply 85 = .ok (.bipush 20, 2) := by decide +kernel
theorem dX6_multiply_87 : decode cX6_multiply 87 = .ok (.iload 7, 2) := by decide +kernel
theorem dX6_multiply_89 : decode cX6_multiply 89 = .ok (.imul, 1) := by decide +kernel
theorem dX6_multiply_90 : decode cX6_multiply 90 = .ok (.iload 8, 2) := by decide +kernel
theorem dX6_multiply_92 : decode cX6_multiply 92 = .ok (.iadd, 1) := by decide +kernel
theorem dX6_multiply_93 : decode cX6_multiply 93 = .ok (.lconst 0, 1) := by decide +kernel
theorem dX6_multiply_94 : decode cX6_multiply 94 = .ok (.lastore, 1) := by decide +kernel
theorem dX6_multiply_95 : decode cX6_multiply 95 = .ok (.iinc 8 1, 3) := by decide +kernel
theorem dX6_multiply_98 : decode cX6_multiply 98 = .ok (.goto (-26), 3) := by decide +kernel
theorem dX6_multiply_101 : decode cX6_multiply 101 = .ok (.iinc 7 1, 3) := by decide +kernel
theorem dX6_multiply_104 : decode cX6_multiply 104 = .ok (.goto (-67), 3) := by decide +kernel
theorem dX6_multiply_107 : decode cX6_multiply 107 = .ok (.aload_n 0, 1) := by decide +kernel
theorem dX6_multiply_108 : decode cX6_multiply 108 = .ok (.iload_n 1, 1) := by decide +kernel
theorem dX6_multiply_109 : decode cX6_multiply 109 = .ok (.invokevirtual 279, 3) := by decide +kernel
theorem dX6_multiply_112 : decode cX6_multiply 112 = .ok (.istore 7, 2) := by decide +kernel
theorem dX6_multiply_114 : decode cX6_multiply 114 = .ok (.aload_n 0, 1) := by decide +kernel
theorem dX6_multiply_115 : decode cX6_multiply 115 = .ok (.getfield 273, 3) := by decide +kernel
theorem dX6_multiply_118 : decode cX6_multiply 118 = .ok (.iconst 1, 1) := by decide +kernel
theorem dX6_multiply_119 : decode cX6_multiply 119 = .ok (.isub, 1) := by decide +kernel
theorem dX6_multiply_120 : decode cX6_multiply 120 = .ok (.istore 8, 2) := by decide +kernel
theorem dX6_multiply_122 : decode cX6_multiply 122 = .ok (.iload 8, 2) := by decide +kernel
theorem dX6_multiply_124 : decode cX6_multiply 124 = .ok (.ifCond .lt 99, 3) := by decide +kernel
theorem dX6_multiply_127 : decode cX6_multiply 127 = .ok (.iload 7, 2) := by decide +kernel
theorem dX6_multiply_129 : decode cX6_multiply 129 = .ok (.ifCond .eq 94, 3) := by decide +kernel
theorem dX6_multiply_132 : decode cX6_multiply 132 = .ok (.aload_n 0, 1) := by decide +kernel
theorem dX6_multiply_133 : decode cX6_multiply 133 = .ok (.getfield 276, 3) := by decide +kernel
theorem dX6_multiply_136 : decode cX6_multiply 136 = .ok (.iconst 1, 1) := by decide +kernel
theorem dX6_multiply_137 : decode cX6_multiply 137 = .ok (.isub, 1) := by decide +kernel
theorem dX6_multiply_138 : decode cX6_multiply 138 = .ok (.istore 9, 2) := by decide +kernel
theorem dX6_multiply_140 : decode cX6_multiply 140 = .ok (.iload 9, 2) := by decide +kernel
theorem dX6_multiply_142 : decode cX6_multiply 142 = .ok (.ifCond .lt 75, 3) := by decide +kernel
theorem dX6_multiply_145 : decode cX6_multiply 145 = .ok (.iload 7, 2) := by decide +kernel
theorem dX6_multiply_147 : decode cX6_multiply 147 = .ok (.ifCond .eq 70, 3) := by decide +kernel
theorem dX6_multiply_150 : decode cX6_multiply 150 = .ok (.aload_n 0, 1) := by decide +kernel
theorem dX6_multiply_151 : decode cX6_multiply 151 = .ok (.getfield 57, 3) := by decide +kernel
theorem dX6_multiply_154 : decode cX6_multiply 154 = .ok (.iload 8, 2) := by decide +kernel
theorem dX6_multiply_156 : decode cX6_multiply 156 = .ok (.baload, 1) := by decide +kernel
theorem dX6_multiply_157 : decode cX6_multiply 157 = .ok (.ifCond .eq 60, 3) := by decide +kernel
theorem dX6_multiply_160 : decode cX6_multiply 160 = .ok (.lload_n 2, 1) := by decide +kernel
theorem dX6_multiply_161 : decode cX6_multiply 161 = .ok (.iload 6, 2) := by decide +kernel
theorem dX6_multiply_163 : decode cX6_multiply 163 = .ok (.iload 8, 2) := by decide +kernel
theorem dX6_multiply_165 : decode cX6_multiply 165 = .ok (.invokestatic 266, 3) := by decide +kernel
theorem dX6_multiply_168 : decode cX6_multiply 168 = .ok (.lload 4, 2) := by decide +kernel
theorem dX6_multiply_170 : decode cX6_multiply 170 = .ok (.iload 6, 2) := by decide +kernel
theorem dX6_multiply_172 : decode cX6_multiply 172 = .ok (.iload 9, 2) := by decide +kernel
theorem dX6_multiply_174 : decode cX6_multiply 174 = .ok (.invokestatic 266, 3) := by decide +kernel
theorem dX6_multiply_177 : decode cX6_multiply 177 = .ok (.imul, 1) := by decide +kernel
theorem dX6_multiply_178 : decode cX6_multiply 178 = .ok (.istore 10, 2) := by decide +kernel
theorem dX6_multiply_180 : decode cX6_multiply 180 = .ok (.aload_n 0, 1) := by decide +kernel
theorem dX6_multiply_181 : decode cX6_multiply 181 = .ok (.getfield 61, 3) := by decide +kernel
theorem dX6_multiply_184 : decode cX6_multiply 184 = .ok (.bipush 20, 2) := by decide +kernel
theorem dX6_multiply_186 : decode cX6_multiply 186 = .ok (.iload 8, 2) := by decide +kernel
theorem dX6_multiply_188 : decode cX6_multiply 188 = .ok (.imul, 1) := by decide +kernel
theorem dX6_multiply_189 : decode cX6_multiply 189 = .ok (.iload 9, 2) := by decide +kernel
theorem dX6_multiply_191 : decode cX6_multiply 191 = .ok (.iadd, 1) := by decide +kernel
theorem dX6_multiply_192 : decode cX6_multiply 192 = .ok (.iload 10, 2) := by decide +kernel
theorem dX6_multiply_194 : decode cX6_multiply 194 = .ok (.i2l, 1) := by decide +kernel
theorem dX6_multiply_195 : decode cX6_multiply 195 = .ok (.lastore, 1) := by decide +kernel
theorem dX6_multiply_196 : decode cX6_multiply 196 = .ok (.aload_n 0, 1) := by decide +kernel
theorem dX6_multiply_197 : decode cX6_multiply 197 = .ok (.iload_n 1, 1) := by decide +kernel
theorem dX6_multiply_198 : decode cX6_multiply 198 = .ok (.iload 8, 2) := by decide +kernel
theorem dX6_multiply_200 : decode cX6_multiply 200 = .ok (.iload 9, 2) := by decide +kernel
theorem dX6_multiply_202 : decode cX6_multiply 202 = .ok (.iadd, 1) := by decide +kernel
theorem dX6_multiply_203 : decode cX6_multiply 203 = .ok (.iload 10, 2) := by decide +kernel
theorem dX6_multiply_205 : decode cX6_multiply 205 = .ok (.iconst 1, 1) := by decide +kernel
theorem dX6_multiply_206 : decode cX6_multiply 206 = .ok (.invokevirtual 282, 3) := by decide +kernel
theorem dX6_multiply_209 : decode cX6_multiply 209 = .ok (.istore 7, 2) := by decide +kernel
theorem dX6_multiply_211 : decode cX6_multiply 211 = .ok (.iinc 9 (-1), 3) := by decide +kernel
theorem dX6_multiply_214 : decode cX6_multiply 214 = .ok (.goto (-74), 3) := by decide +kernel
theorem dX6_multiply_217 : decode cX6_multiply 217 = .ok (.iinc 8 (-1), 3) := by decide +kernel
theorem dX6_multiply_220 : decode cX6_multiply 220 = .ok (.goto (-98), 3) := by decide +kernel
theorem dX6_multiply_223 : decode cX6_multiply 223 = .ok (.iload 7, 2) := by decide +kernel
theorem dX6_multiply_225 : decode cX6_multiply 225 = .ok (.ireturn, 1) := by decide +kernel
theorem dX6_sum_0 : decode cX6_sum 0 = .ok (.aload_n 0, 1) := by decide +kernel
theorem dX6_sum_1 : decode cX6_sum 1 = .ok (.iload_n 1, 1) := by decide +kernel
theorem dX6_sum_2 : decode cX6_sum 2 = .ok (.invokevirtual 129, 3) := by decide +kernel
theorem dX6_sum_5 : decode cX6_sum 5 = .ok (.ifCond .ne 5, 3) := by decide +kernel
theorem dX6_sum_8 : decode cX6_sum 8 = .ok (.iconst (-1), 1) := by decide +kernel
theorem dX6_sum_9 : decode cX6_sum 9 = .ok (.ireturn, 1) := by decide +kernel
theorem dX6_sum_10 : decode cX6_sum 10 = .ok (.lload_n 2, 1) := by decide +kernel
theorem dX6_sum_11 : decode cX6_sum 11 = .ok (.lconst 0, 1) := by decide +kernel
theorem dX6_sum_12 : decode cX6_sum 12 = .ok (.lcmp, 1) := by decide +kernel
theorem dX6_sum_13 : decode cX6_sum 13 = .ok (.ifCond .ge 6, 3) := by decide +kernel
theorem dX6_sum_16 : decode cX6_sum 16 = .ok (.bipush (-2), 2) := by decide +kernel
theorem dX6_sum_18 : decode cX6_sum 18 = .ok (.ireturn, 1) := by decide +kernel
theorem dX6_sum_19 : decode cX6_sum 19 = .ok (.aload_n 0, 1) := by decide +kernel
theorem dX6_sum_20 : decode cX6_sum 20 = .ok (.iload_n 1, 1) := by decide +kernel
theorem dX6_sum_21 : decode cX6_sum 21 = .ok (.invokevirtual 163, 3) := by decide +kernel
theorem dX6_sum_24 : decode cX6_sum 24 = .ok (.ifCond .ne 6, 3) := by decide +kernel
theorem dX6_sum_27 : decode cX6_sum 27 = .ok (.bipush (-3), 2) := by decide +kernel
theorem dX6_sum_29 : decode cX6_sum 29 = .ok (.ireturn, 1) := by decide +kernel
theorem dX6_sum_30 : decode cX6_sum 30 = .ok (.aload_n 0, 1) := by decide +kernel
theorem dX6_sum_31 : decode cX6_sum 31 = .ok (.iload_n 1, 1) := by decide +kernel
theorem dX6_sum_32 : decode cX6_sum 32 = .ok (.invokevirtual 285, 3) := by decide +kernel
theorem dX6_sum_35 : decode cX6_sum 35 = .ok (.aload_n 0, 1) := by decide +kernel
theorem dX6_sum_36 : decode cX6_sum 36 = .ok (.aload_n 0, 1) := by decide +kernel
theorem dX6_sum_37 : decode cX6_sum 37 = .ok (.iload_n 1, 1) := by decide +kernel
theorem dX6_sum_38 : decode cX6_sum 38 = .ok (.iconst 0, 1) := by decide +kernel
theorem dX6_sum_39 : decode cX6_sum 39 = .ok (.lload_n 2, 1) := by decide +kernel
theorem dX6_sum_40 : decode cX6_sum 40 = .ok (.iload 4, 2) := by decide +kernel
theorem dX6_sum_42 : decode cX6_sum 42 = .ok (.invokevirtual 288, 3) := by decide +kernel
theorem dX6_sum_45 : decode cX6_sum 45 = .ok (.invokevirtual 292, 3) := by decide +kernel
theorem dX6_sum_48 : decode cX6_sum 48 = .ok (.ireturn, 1) := by decide +kernel
theorem dX6_add_0 : decode cX6_add 0 = .ok (.aload_n 0, 1) := by decide +kernel
theorem dX6_add_1 : decode cX6_add 1 = .ok (.iload_n 1, 1) := by decide +kernel
theorem dX6_add_2 : decode cX6_add 2 = .ok (.lload_n 2, 1) := by decide +kernel
theorem dX6_add_3 : decode cX6_add 3 = .ok (.iconst 1, 1) := by decide +kernel
theorem dX6_add_4 : decode cX6_add 4 = .ok (.invokevirtual 296, 3) := by decide +kernel
theorem dX6_add_7 : decode cX6_add 7 = .ok (.ireturn, 1) := by decide +kernel
theorem dX6_less_0 : decode cX6_less 0 = .ok (.aload_n 0, 1) := by decide +kernel
theorem dX6_less_1 : decode cX6_less 1 = .ok (.iload_n 1, 1) := by decide +kernel
theorem dX6_less_2 : decode cX6_less 2 = .ok (.lload_n 2, 1) := by decide +kernel
theorem dX6_less_3 : decode cX6_less 3 = .ok (.iconst (-1), 1) := by decide +kernel
theorem dX6_less_4 : decode cX6_less 4 = .ok (.invokevirtual 296, 3) := by decide +kernel
theorem dX6_less_7 : decode cX6_less 7 = .ok (.ireturn, 1) := by decide +kernel
theorem dX6_times_0 : decode cX6_times 0 = .ok (.aload_n 0, 1) := by decide +kernel
theorem dX6_times_1 : decode cX6_times 1 = .ok (.iload_n 1, 1) := by decide +kernel
theorem dX6_times_2 : decode cX6_times 2 = .ok (.invokevirtual 129, 3) := by decide +kernel
theorem dX6_times_5 : decode cX6_times 5 = .ok (.ifCond .ne 5, 3) := by decide +kernel
theorem dX6_times_8 : decode cX6_times 8 = .ok (.iconst (-1), 1) := by decide +kernel
theorem dX6_times_9 : decode cX6_times 9 = .ok (.ireturn, 1) := by decide +kernel
theorem dX6_times_10 : decode cX6_times 10 = .ok (.lload_n 2, 1) := by decide +kernel
theorem dX6_times_11 : decode cX6_times 11 = .ok (.lconst 0, 1) := by decide +kernel
theorem dX6_times_12 : decode cX6_times 12 = .ok (.lcmp, 1) := by decide +kernel
theorem dX6_times_13 : decode cX6_times 13 = .ok (.ifCond .ge 6, 3) := by decide +kernel
theorem dX6_times_16 : decode cX6_times 16 = .ok (.bipush (-2), 2) := by decide +kernel
theorem dX6_times_18 : decode cX6_times 18 = .ok (.ireturn, 1) := by decide +kernel
theorem dX6_times_19 : decode cX6_times 19 = .ok (.aload_n 0, 1) := by decide +kernel
theorem dX6_times_20 : decode cX6_times 20 = .ok (.iload_n 1, 1) := by decide +kernel
theorem dX6_times_21 : decode cX6_times 21 = .ok (.invokevirtual 163, 3) := by decide +kernel
theorem dX6_times_24 : decode cX6_times 24 = .ok (.ifCond .ne 6, 3) := by decide +kernel
theorem dX6_times_27 : decode cX6_times 27 = .ok (.bipush (-3), 2) := by decide +kernel
theorem dX6_times_29 : decode cX6_times 29 = .ok (.ireturn, 1) := by decide +kernel
theorem dX6_times_30 : decode cX6_times 30 = .ok (.aload_n 0, 1) := by decide +kernel
theorem dX6_times_31 : decode cX6_times 31 = .ok (.iload_n 1, 1) := by decide +kernel
theorem dX6_times_32 : decode cX6_times 32 = .ok (.invokevirtual 148, 3) := by decide +kernel
theorem dX6_times_35 : decode cX6_times 35 = .ok (.lstore 4, 2) := by decide +kernel
theorem dX6_times_37 : decode cX6_times 37 = .ok (.aload_n 0, 1) := by decide +kernel
theorem dX6_times_38 : decode cX6_times 38 = .ok (.getfield 124, 3) := by decide +kernel
