theorem dX3_oneStep_194 : decode cX3_oneStep 194 = .ok (.iload 5, 2) := by decide +kernel
theorem dX3_oneStep_196 : decode cX3_oneStep 196 = .ok (.isub, 1) := by decide +kernel
theorem dX3_oneStep_197 : decode cX3_oneStep 197 = .ok (.aload 4, 2) := by decide +kernel
theorem dX3_oneStep_199 : decode cX3_oneStep 199 = .ok (.getfield 81, 3) := by decide +kernel
theorem dX3_oneStep_202 : decode cX3_oneStep 202 = .ok (.iload 6, 2) := by decide +kernel
theorem dX3_oneStep_204 : decode cX3_oneStep 204 = .ok (.isub, 1) := by decide +kernel
theorem dX3_oneStep_205 : decode cX3_oneStep 205 = .ok (.invokestatic 107, 3) := by decide +kernel
theorem dX3_oneStep_208 : decode cX3_oneStep 208 = .ok (.iastore, 1) := by decide +kernel
theorem dX3_oneStep_209 : decode cX3_oneStep 209 = .ok (.aload_n 0, 1) := by decide +kernel
theorem dX3_oneStep_210 : decode cX3_oneStep 210 = .ok (.getfield 18, 3) := by decide +kernel
theorem dX3_oneStep_213 : decode cX3_oneStep 213 = .ok (.iload 9, 2) := by decide +kernel
theorem dX3_oneStep_215 : decode cX3_oneStep 215 = .ok (.iconst 5, 1) := by decide +kernel
theorem dX3_oneStep_216 : decode cX3_oneStep 216 = .ok (.iadd, 1) := by decide +kernel
theorem dX3_oneStep_217 : decode cX3_oneStep 217 = .ok (.iload 8, 2) := by decide +kernel
theorem dX3_oneStep_219 : decode cX3_oneStep 219 = .ok (.iastore, 1) := by decide +kernel
theorem dX3_oneStep_220 : decode cX3_oneStep 220 = .ok (.aload_n 0, 1) := by decide +kernel
theorem dX3_oneStep_221 : decode cX3_oneStep 221 = .ok (.getfield 18, 3) := by decide +kernel
theorem dX3_oneStep_224 : decode cX3_oneStep 224 = .ok (.iload 9, 2) := by decide +kernel
theorem dX3_oneStep_226 : decode cX3_oneStep 226 = .ok (.bipush 6, 2) := by decide +kernel
theorem dX3_oneStep_228 : decode cX3_oneStep 228 = .ok (.iadd, 1) := by decide +kernel
theorem dX3_oneStep_229 : decode cX3_oneStep 229 = .ok (.iload_n 3, 1) := by decide +kernel
theorem dX3_oneStep_230 : decode cX3_oneStep 230 = .ok (.iastore, 1) := by decide +kernel
theorem dX3_oneStep_231 : decode cX3_oneStep 231 = .ok (.aload_n 0, 1) := by decide +kernel
theorem dX3_oneStep_232 : decode cX3_oneStep 232 = .ok (.dup, 1) := by decide +kernel
theorem dX3_oneStep_233 : decode cX3_oneStep 233 = .ok (.getfield 36, 3) := by decide +kernel
theorem dX3_oneStep_236 : decode cX3_oneStep 236 = .ok (.iconst 1, 1) := by decide +kernel
theorem dX3_oneStep_237 : decode cX3_oneStep 237 = .ok (.iadd, 1) := by decide +kernel
theorem dX3_oneStep_238 : decode cX3_oneStep 238 = .ok (.putfield 36, 3) := by decide +kernel
theorem dX3_oneStep_241 : decode cX3_oneStep 241 = .ok (.iload 8, 2) := by decide +kernel
theorem dX3_oneStep_243 : decode cX3_oneStep 243 = .ok (.ireturn, 1) := by decide +kernel
theorem dX3_reasonFor_0 : decode cX3_reasonFor 0 = .ok (.iload_n 0, 1) := by decide +kernel
theorem dX3_reasonFor_1 : decode cX3_reasonFor 1 = .ok (.ifCond .ge 8, 3) := by decide +kernel
theorem dX3_reasonFor_4 : decode cX3_reasonFor 4 = .ok (.iload_n 2, 1) := by decide +kernel
theorem dX3_reasonFor_5 : decode cX3_reasonFor 5 = .ok (.ineg, 1) := by decide +kernel
theorem dX3_reasonFor_6 : decode cX3_reasonFor 6 = .ok (.goto 4, 3) := by decide +kernel
theorem dX3_reasonFor_9 : decode cX3_reasonFor 9 = .ok (.iload_n 2, 1) := by decide +kernel
theorem dX3_reasonFor_10 : decode cX3_reasonFor 10 = .ok (.istore 4, 2) := by decide +kernel
theorem dX3_reasonFor_12 : decode cX3_reasonFor 12 = .ok (.iload_n 0, 1) := by decide +kernel
theorem dX3_reasonFor_13 : decode cX3_reasonFor 13 = .ok (.ifCond .ge 8, 3) := by decide +kernel
theorem dX3_reasonFor_16 : decode cX3_reasonFor 16 = .ok (.iload_n 3, 1) := by decide +kernel
theorem dX3_reasonFor_17 : decode cX3_reasonFor 17 = .ok (.ineg, 1) := by decide +kernel
theorem dX3_reasonFor_18 : decode cX3_reasonFor 18 = .ok (.goto 4, 3) := by decide +kernel
theorem dX3_reasonFor_21 : decode cX3_reasonFor 21 = .ok (.iload_n 3, 1) := by decide +kernel
theorem dX3_reasonFor_22 : decode cX3_reasonFor 22 = .ok (.istore 5, 2) := by decide +kernel
theorem dX3_reasonFor_24 : decode cX3_reasonFor 24 = .ok (.iload_n 1, 1) := by decide +kernel
theorem dX3_reasonFor_25 : decode cX3_reasonFor 25 = .ok (.ifCond .ne 19, 3) := by decide +kernel
theorem dX3_reasonFor_28 : decode cX3_reasonFor 28 = .ok (.iload 4, 2) := by decide +kernel
theorem dX3_reasonFor_30 : decode cX3_reasonFor 30 = .ok (.ifCond .lt 12, 3) := by decide +kernel
theorem dX3_reasonFor_33 : decode cX3_reasonFor 33 = .ok (.iload 5, 2) := by decide +kernel
theorem dX3_reasonFor_35 : decode cX3_reasonFor 35 = .ok (.ifCond .lt 7, 3) := by decide +kernel
theorem dX3_reasonFor_38 : decode cX3_reasonFor 38 = .ok (.iconst 1, 1) := by decide +kernel
theorem dX3_reasonFor_39 : decode cX3_reasonFor 39 = .ok (.goto 4, 3) := by decide +kernel
theorem dX3_reasonFor_42 : decode cX3_reasonFor 42 = .ok (.iconst 2, 1) := by decide +kernel
theorem dX3_reasonFor_43 : decode cX3_reasonFor 43 = .ok (.ireturn, 1) := by decide +kernel
theorem dX3_reasonFor_44 : decode cX3_reasonFor 44 = .ok (.iload 4, 2) := by decide +kernel
theorem dX3_reasonFor_46 : decode cX3_reasonFor 46 = .ok (.ifCond .gt 12, 3) := by decide +kernel
theorem dX3_reasonFor_49 : decode cX3_reasonFor 49 = .ok (.iload 5, 2) := by decide +kernel
theorem dX3_reasonFor_51 : decode cX3_reasonFor 51 = .ok (.ifCond .gt 7, 3) := by decide +kernel
theorem dX3_reasonFor_54 : decode cX3_reasonFor 54 = .ok (.iconst 3, 1) := by decide +kernel
theorem dX3_reasonFor_55 : decode cX3_reasonFor 55 = .ok (.goto 4, 3) := by decide +kernel
theorem dX3_reasonFor_58 : decode cX3_reasonFor 58 = .ok (.iconst 4, 1) := by decide +kernel
theorem dX3_reasonFor_59 : decode cX3_reasonFor 59 = .ok (.ireturn, 1) := by decide +kernel
theorem dX3_put_0 : decode cX3_put 0 = .ok (.iload_n 3, 1) := by decide +kernel
theorem dX3_put_1 : decode cX3_put 1 = .ok (.istore 4, 2) := by decide +kernel
theorem dX3_put_3 : decode cX3_put 3 = .ok (.iconst 0, 1) := by decide +kernel
theorem dX3_put_4 : decode cX3_put 4 = .ok (.istore 5, 2) := by decide +kernel
theorem dX3_put_6 : decode cX3_put 6 = .ok (.iload 5, 2) := by decide +kernel
theorem dX3_put_8 : decode cX3_put 8 = .ok (.bipush 64, 2) := by decide +kernel
theorem dX3_put_10 : decode cX3_put 10 = .ok (.if_icmp .ge 36, 3) := by decide +kernel
theorem dX3_put_13 : decode cX3_put 13 = .ok (.iload 4, 2) := by decide +kernel
theorem dX3_put_15 : decode cX3_put 15 = .ok (.ifCond .eq 31, 3) := by decide +kernel
theorem dX3_put_18 : decode cX3_put 18 = .ok (.aload_n 0, 1) := by decide +kernel
theorem dX3_put_19 : decode cX3_put 19 = .ok (.aload_n 1, 1) := by decide +kernel
theorem dX3_put_20 : decode cX3_put 20 = .ok (.iload_n 2, 1) := by decide +kernel
theorem dX3_put_21 : decode cX3_put 21 = .ok (.iload 5, 2) := by decide +kernel
theorem dX3_put_23 : decode cX3_put 23 = .ok (.iadd, 1) := by decide +kernel
theorem dX3_put_24 : decode cX3_put 24 = .ok (.iload 4, 2) := by decide +kernel
theorem dX3_put_26 : decode cX3_put 26 = .ok (.invokevirtual 111, 3) := by decide +kernel
theorem dX3_put_29 : decode cX3_put 29 = .ok (.istore 4, 2) := by decide +kernel
theorem dX3_put_31 : decode cX3_put 31 = .ok (.iload 4, 2) := by decide +kernel
theorem dX3_put_33 : decode cX3_put 33 = .ok (.bipush 99, 2) := by decide +kernel
theorem dX3_put_35 : decode cX3_put 35 = .ok (.if_icmp .ne 5, 3) := by decide +kernel
theorem dX3_put_38 : decode cX3_put 38 = .ok (.iconst 0, 1) := by decide +kernel
theorem dX3_put_39 : decode cX3_put 39 = .ok (.ireturn, 1) := by decide +kernel
theorem dX3_put_40 : decode cX3_put 40 = .ok (.iinc 5 1, 3) := by decide +kernel
theorem dX3_put_43 : decode cX3_put 43 = .ok (.goto (-37), 3) := by decide +kernel
theorem dX3_put_46 : decode cX3_put 46 = .ok (.iconst 1, 1) := by decide +kernel
theorem dX3_put_47 : decode cX3_put 47 = .ok (.ireturn, 1) := by decide +kernel
theorem dX3_putDigits_0 : decode cX3_putDigits 0 = .ok (.lload_n 2, 1) := by decide +kernel
theorem dX3_putDigits_1 : decode cX3_putDigits 1 = .ok (.aload_n 1, 1) := by decide +kernel
theorem dX3_putDigits_2 : decode cX3_putDigits 2 = .ok (.getfield 95, 3) := by decide +kernel
theorem dX3_putDigits_5 : decode cX3_putDigits 5 = .ok (.invokestatic 115, 3) := by decide +kernel
theorem dX3_putDigits_8 : decode cX3_putDigits 8 = .ok (.iconst 1, 1) := by decide +kernel
theorem dX3_putDigits_9 : decode cX3_putDigits 9 = .ok (.isub, 1) := by decide +kernel
theorem dX3_putDigits_10 : decode cX3_putDigits 10 = .ok (.istore 6, 2) := by decide +kernel
theorem dX3_putDigits_12 : decode cX3_putDigits 12 = .ok (.iload 6, 2) := by decide +kernel
theorem dX3_putDigits_14 : decode cX3_putDigits 14 = .ok (.ifCond .lt 37, 3) := by decide +kernel
theorem dX3_putDigits_17 : decode cX3_putDigits 17 = .ok (.aload_n 0, 1) := by decide +kernel
theorem dX3_putDigits_18 : decode cX3_putDigits 18 = .ok (.aload_n 1, 1) := by decide +kernel
theorem dX3_putDigits_19 : decode cX3_putDigits 19 = .ok (.iload 4, 2) := by decide +kernel
theorem dX3_putDigits_21 : decode cX3_putDigits 21 = .ok (.iload 6, 2) := by decide +kernel
theorem dX3_putDigits_23 : decode cX3_putDigits 23 = .ok (.iadd, 1) := by decide +kernel
theorem dX3_putDigits_24 : decode cX3_putDigits 24 = .ok (.iload 5, 2) := by decide +kernel
theorem dX3_putDigits_26 : decode cX3_putDigits 26 = .ok (.lload_n 2, 1) := by decide +kernel
theorem dX3_putDigits_27 : decode cX3_putDigits 27 = .ok (.aload_n 1, 1) := by decide +kernel
theorem dX3_putDigits_28 : decode cX3_putDigits 28 = .ok (.getfield 95, 3) := by decide +kernel
theorem dX3_putDigits_31 : decode cX3_putDigits 31 = .ok (.iload 6, 2) := by decide +kernel
theorem dX3_putDigits_33 : decode cX3_putDigits 33 = .ok (.invokestatic 119, 3) := by decide +kernel
theorem dX3_putDigits_36 : decode cX3_putDigits 36 = .ok (.imul, 1) := by decide +kernel
theorem dX3_putDigits_37 : decode cX3_putDigits 37 = .ok (.invokevirtual 123, 3) := by decide +kernel
theorem dX3_putDigits_40 : decode cX3_putDigits 40 = .ok (.ifCond .ne 5, 3) := by decide +kernel
theorem dX3_putDigits_43 : decode cX3_putDigits 43 = .ok (.iconst 0, 1) := by decide +kernel
theorem dX3_putDigits_44 : decode cX3_putDigits 44 = .ok (.ireturn, 1) := by decide +kernel
theorem dX3_putDigits_45 : decode cX3_putDigits 45 = .ok (.iinc 6 (-1), 3) := by decide +kernel
theorem dX3_putDigits_48 : decode cX3_putDigits 48 = .ok (.goto (-36), 3) := by decide +kernel
theorem dX3_putDigits_51 : decode cX3_putDigits 51 = .ok (.iconst 1, 1) := by decide +kernel
theorem dX3_putDigits_52 : decode cX3_putDigits 52 = .ok (.ireturn, 1) := by decide +kernel
theorem dX3_clear_0 : decode cX3_clear 0 = .ok (.aload_n 1, 1) := by decide +kernel
theorem dX3_clear_1 : decode cX3_clear 1 = .ok (.getfield 72, 3) := by decide +kernel
theorem dX3_clear_4 : decode cX3_clear 4 = .ok (.arraylength, 1) := by decide +kernel
theorem dX3_clear_5 : decode cX3_clear 5 = .ok (.iconst 1, 1) := by decide +kernel
theorem dX3_clear_6 : decode cX3_clear 6 = .ok (.isub, 1) := by decide +kernel
theorem dX3_clear_7 : decode cX3_clear 7 = .ok (.istore_n 2, 1) := by decide +kernel
theorem dX3_clear_8 : decode cX3_clear 8 = .ok (.iload_n 2, 1) := by decide +kernel
theorem dX3_clear_9 : decode cX3_clear 9 = .ok (.ifCond .lt 39, 3) := by decide +kernel
theorem dX3_clear_12 : decode cX3_clear 12 = .ok (.aload_n 0, 1) := by decide +kernel
theorem dX3_clear_13 : decode cX3_clear 13 = .ok (.aload_n 1, 1) := by decide +kernel
theorem dX3_clear_14 : decode cX3_clear 14 = .ok (.iload_n 2, 1) := by decide +kernel
theorem dX3_clear_15 : decode cX3_clear 15 = .ok (.invokevirtual 88, 3) := by decide +kernel
theorem dX3_clear_18 : decode cX3_clear 18 = .ok (.ifCond .eq 22, 3) := by decide +kernel
theorem dX3_clear_21 : decode cX3_clear 21 = .ok (.aload_n 0, 1) := by decide +kernel
theorem dX3_clear_22 : decode cX3_clear 22 = .ok (.aload_n 1, 1) := by decide +kernel
theorem dX3_clear_23 : decode cX3_clear 23 = .ok (.iload_n 2, 1) := by decide +kernel
theorem dX3_clear_24 : decode cX3_clear 24 = .ok (.aload_n 1, 1) := by decide +kernel
theorem dX3_clear_25 : decode cX3_clear 25 = .ok (.getfield 72, 3) := by decide +kernel
theorem dX3_clear_28 : decode cX3_clear 28 = .ok (.iload_n 2, 1) := by decide +kernel
theorem dX3_clear_29 : decode cX3_clear 29 = .ok (.aaload, 1) := by decide +kernel
theorem dX3_clear_30 : decode cX3_clear 30 = .ok (.invokevirtual 92, 3) := by decide +kernel
theorem dX3_clear_33 : decode cX3_clear 33 = .ok (.ineg, 1) := by decide +kernel
theorem dX3_clear_34 : decode cX3_clear 34 = .ok (.invokevirtual 123, 3) := by decide +kernel
theorem dX3_clear_37 : decode cX3_clear 37 = .ok (.ifCond .ne 5, 3) := by decide +kernel
theorem dX3_clear_40 : decode cX3_clear 40 = .ok (.iconst 0, 1) := by decide +kernel
theorem dX3_clear_41 : decode cX3_clear 41 = .ok (.ireturn, 1) := by decide +kernel
theorem dX3_clear_42 : decode cX3_clear 42 = .ok (.iinc 2 (-1), 3) := by decide +kernel
theorem dX3_clear_45 : decode cX3_clear 45 = .ok (.goto (-37), 3) := by decide +kernel
theorem dX3_clear_48 : decode cX3_clear 48 = .ok (.iconst 1, 1) := by decide +kernel
theorem dX3_clear_49 : decode cX3_clear 49 = .ok (.ireturn, 1) := by decide +kernel
theorem dX3_multiply_0 : decode cX3_multiply 0 = .ok (.aload_n 1, 1) := by decide +kernel
theorem dX3_multiply_1 : decode cX3_multiply 1 = .ok (.invokevirtual 127, 3) := by decide +kernel
theorem dX3_multiply_4 : decode cX3_multiply 4 = .ok (.lstore 4, 2) := by decide +kernel
theorem dX3_multiply_6 : decode cX3_multiply 6 = .ok (.lload_n 2, 1) := by decide +kernel
theorem dX3_multiply_7 : decode cX3_multiply 7 = .ok (.aload_n 1, 1) := by decide +kernel
theorem dX3_multiply_8 : decode cX3_multiply 8 = .ok (.getfield 95, 3) := by decide +kernel
theorem dX3_multiply_11 : decode cX3_multiply 11 = .ok (.invokestatic 115, 3) := by decide +kernel
theorem dX3_multiply_14 : decode cX3_multiply 14 = .ok (.istore 6, 2) := by decide +kernel
theorem dX3_multiply_16 : decode cX3_multiply 16 = .ok (.aload_n 0, 1) := by decide +kernel
theorem dX3_multiply_17 : decode cX3_multiply 17 = .ok (.getfield 12, 3) := by decide +kernel
theorem dX3_multiply_20 : decode cX3_multiply 20 = .ok (.aload_n 1, 1) := by decide +kernel
theorem dX3_multiply_21 : decode cX3_multiply 21 = .ok (.getfield 95, 3) := by decide +kernel
theorem dX3_multiply_24 : decode cX3_multiply 24 = .ok (.lload 4, 2) := by decide +kernel
theorem dX3_multiply_26 : decode cX3_multiply 26 = .ok (.lload_n 2, 1) := by decide +kernel
theorem dX3_multiply_27 : decode cX3_multiply 27 = .ok (.invokevirtual 131, 3) := by decide +kernel
theorem dX3_multiply_30 : decode cX3_multiply 30 = .ok (.aload_n 0, 1) := by decide +kernel
theorem dX3_multiply_31 : decode cX3_multiply 31 = .ok (.aload_n 1, 1) := by decide +kernel
theorem dX3_multiply_32 : decode cX3_multiply 32 = .ok (.invokevirtual 135, 3) := by decide +kernel
theorem dX3_multiply_35 : decode cX3_multiply 35 = .ok (.ifCond .ne 5, 3) := by decide +kernel
theorem dX3_multiply_38 : decode cX3_multiply 38 = .ok (.iconst 0, 1) := by decide +kernel
theorem dX3_multiply_39 : decode cX3_multiply 39 = .ok (.ireturn, 1) := by decide +kernel
theorem dX3_multiply_40 : decode cX3_multiply 40 = .ok (.lload 4, 2) := by decide +kernel
theorem dX3_multiply_42 : decode cX3_multiply 42 = .ok (.aload_n 1, 1) := by decide +kernel
theorem dX3_multiply_43 : decode cX3_multiply 43 = .ok (.getfield 95, 3) := by decide +kernel
theorem dX3_multiply_46 : decode cX3_multiply 46 = .ok (.invokestatic 115, 3) := by decide +kernel
theorem dX3_multiply_49 : decode cX3_multiply 49 = .ok (.iconst 1, 1) := by decide +kernel
theorem dX3_multiply_50 : decode cX3_multiply 50 = .ok (.isub, 1) := by decide +kernel
theorem dX3_multiply_51 : decode cX3_multiply 51 = .ok (.istore 7, 2) := by decide +kernel
theorem dX3_multiply_53 : decode cX3_multiply 53 = .ok (.iload 7, 2) := by decide +kernel
theorem dX3_multiply_55 : decode cX3_multiply 55 = .ok (.ifCond .lt 122, 3) := by decide +kernel
theorem dX3_multiply_58 : decode cX3_multiply 58 = .ok (.lload 4, 2) := by decide +kernel
theorem dX3_multiply_60 : decode cX3_multiply 60 = .ok (.aload_n 1, 1) := by decide +kernel
theorem dX3_multiply_61 : decode cX3_multiply 61 = .ok (.getfield 95, 3) := by decide +kernel
theorem dX3_multiply_64 : decode cX3_multiply 64 = .ok (.iload 7, 2) := by decide +kernel
theorem dX3_multiply_66 : decode cX3_multiply 66 = .ok (.invokestatic 119, 3) := by decide +kernel
theorem dX3_multiply_69 : decode cX3_multiply 69 = .ok (.istore 8, 2) := by decide +kernel
theorem dX3_multiply_71 : decode cX3_multiply 71 = .ok (.iload 6, 2) := by decide +kernel
theorem dX3_multiply_73 : decode cX3_multiply 73 = .ok (.iconst 1, 1) := by decide +kernel
theorem dX3_multiply_74 : decode cX3_multiply 74 = .ok (.isub, 1) := by decide +kernel
theorem dX3_multiply_75 : decode cX3_multiply 75 = .ok (.istore 9, 2) := by decide +kernel
theorem dX3_multiply_77 : decode cX3_multiply 77 = .ok (.iload 9, 2) := by decide +kernel
theorem dX3_multiply_79 : decode cX3_multiply 79 = .ok (.ifCond .lt 92, 3) := by decide +kernel
theorem dX3_multiply_82 : decode cX3_multiply 82 = .ok (.iload 8, 2) := by decide +kernel
theorem dX3_multiply_84 : decode cX3_multiply 84 = .ok (.ifCond .eq 87, 3) := by decide +kernel
theorem dX3_multiply_87 : decode cX3_multiply 87 = .ok (.aload_n 0, 1) := by decide +kernel
theorem dX3_multiply_88 : decode cX3_multiply 88 = .ok (.getfield 12, 3) := by decide +kernel
theorem dX3_multiply_91 : decode cX3_multiply 91 = .ok (.iload 7, 2) := by decide +kernel
theorem dX3_multiply_93 : decode cX3_multiply 93 = .ok (.iload 9, 2) := by decide +kernel
theorem dX3_multiply_95 : decode cX3_multiply 95 = .ok (.invokevirtual 139, 3) := by decide +kernel
theorem dX3_multiply_98 : decode cX3_multiply 98 = .ok (.iload 8, 2) := by decide +kernel
theorem dX3_multiply_100 : decode cX3_multiply 100 = .ok (.lload_n 2, 1) := by decide +kernel
theorem dX3_multiply_101 : decode cX3_multiply 101 = .ok (.aload_n 1, 1) := by decide +kernel
theorem dX3_multiply_102 : decode cX3_multiply 102 = .ok (.getfield 95, 3) := by decide +kernel
theorem dX3_multiply_105 : decode cX3_multiply 105 = .ok (.iload 9, 2) := by decide +kernel
theorem dX3_multiply_107 : decode cX3_multiply 107 = .ok (.invokestatic 119, 3) := by decide +kernel
theorem dX3_multiply_110 : decode cX3_multiply 110 = .ok (.imul, 1) := by decide +kernel
theorem dX3_multiply_111 : decode cX3_multiply 111 = .ok (.istore 10, 2) := by decide +kernel
theorem dX3_multiply_113 : decode cX3_multiply 113 = .ok (.aload_n 0, 1) := by decide +kernel
theorem dX3_multiply_114 : decode cX3_multiply 114 = .ok (.aload_n 1, 1) := by decide +kernel
theorem dX3_multiply_115 : decode cX3_multiply 115 = .ok (.iload 7, 2) := by decide +kernel
theorem dX3_multiply_117 : decode cX3_multiply 117 = .ok (.iload 9, 2) := by decide +kernel
theorem dX3_multiply_119 : decode cX3_multiply 119 = .ok (.iadd, 1) := by decide +kernel
theorem dX3_multiply_120 : decode cX3_multiply 120 = .ok (.iconst 1, 1) := by decide +kernel
theorem dX3_multiply_121 : decode cX3_multiply 121 = .ok (.iadd, 1) := by decide +kernel
theorem dX3_multiply_122 : decode cX3_multiply 122 = .ok (.iload 10, 2) := by decide +kernel
theorem dX3_multiply_124 : decode cX3_multiply 124 = .ok (.i2l, 1) := by decide +kernel
theorem dX3_multiply_125 : decode cX3_multiply 125 = .ok (.aload_n 1, 1) := by decide +kernel
theorem dX3_multiply_126 : decode cX3_multiply 126 = .ok (.getfield 95, 3) := by decide +kernel
theorem dX3_multiply_129 : decode cX3_multiply 129 = .ok (.iconst 1, 1) := by decide +kernel
theorem dX3_multiply_130 : decode cX3_multiply 130 = .ok (.invokestatic 119, 3) := by decide +kernel
theorem dX3_multiply_133 : decode cX3_multiply 133 = .ok (.invokevirtual 123, 3) := by decide +kernel
theorem dX3_multiply_136 : decode cX3_multiply 136 = .ok (.ifCond .eq 27, 3) := by decide +kernel
theorem dX3_multiply_139 : decode cX3_multiply 139 = .ok (.aload_n 0, 1) := by decide +kernel
theorem dX3_multiply_140 : decode cX3_multiply 140 = .ok (.aload_n 1, 1) := by decide +kernel
theorem dX3_multiply_141 : decode cX3_multiply 141 = .ok (.iload 7, 2) := by decide +kernel
theorem dX3_multiply_143 : decode cX3_multiply 143 = .ok (.iload 9, 2) := by decide +kernel
theorem dX3_multiply_145 : decode cX3_multiply 145 = .ok (.iadd, 1) := by decide +kernel
theorem dX3_multiply_146 : decode cX3_multiply 146 = .ok (.iload 10, 2) := by decide +kernel
theorem dX3_multiply_148 : decode cX3_multiply 148 = .ok (.i2l, 1) := by decide +kernel
theorem dX3_multiply_149 : decode cX3_multiply 149 = .ok (.aload_n 1, 1) := by decide +kernel
theorem dX3_multiply_150 : decode cX3_multiply 150 = .ok (.getfield 95, 3) := by decide +kernel
theorem dX3_multiply_153 : decode cX3_multiply 153 = .ok (.iconst 0, 1) := by decide +kernel
theorem dX3_multiply_154 : decode cX3_multiply 154 = .ok (.invokestatic 119, 3) := by decide +kernel
theorem dX3_multiply_157 : decode cX3_multiply 157 = .ok (.invokevirtual 123, 3) := by decide +kernel
theorem dX3_multiply_160 : decode cX3_multiply 160 = .ok (.ifCond .ne 5, 3) := by decide +kernel
theorem dX3_multiply_163 : decode cX3_multiply 163 = .ok (.iconst 0, 1) := by decide +kernel
theorem dX3_multiply_164 : decode cX3_multiply 164 = .ok (.ireturn, 1) := by decide +kernel
theorem dX3_multiply_165 : decode cX3_multiply 165 = .ok (.iinc 9 (-1), 3) := by decide +kernel
theorem dX3_multiply_168 : decode cX3_multiply 168 = .ok (.goto (-91), 3) := by decide +kernel
theorem dX3_multiply_171 : decode cX3_multiply 171 = .ok (.iinc 7 (-1), 3) := by decide +kernel
theorem dX3_multiply_174 : decode cX3_multiply 174 = .ok (.goto (-121), 3) := by decide +kernel
theorem dX3_multiply_177 : decode cX3_multiply 177 = .ok (.iconst 1, 1) := by decide +kernel
theorem dX3_multiply_178 : decode cX3_multiply 178 = .ok (.ireturn, 1) := by decide +kernel
theorem dX3_quotient_0 : decode cX3_quotient 0 = .ok (.lload_n 3, 1) := by decide +kernel
theorem dX3_quotient_1 : decode cX3_quotient 1 = .ok (.aload_n 1, 1) := by decide +kernel
theorem dX3_quotient_2 : decode cX3_quotient 2 = .ok (.getfield 95, 3) := by decide +kernel
theorem dX3_quotient_5 : decode cX3_quotient 5 = .ok (.invokestatic 115, 3) := by decide +kernel
theorem dX3_quotient_8 : decode cX3_quotient 8 = .ok (.istore 5, 2) := by decide +kernel
theorem dX3_quotient_10 : decode cX3_quotient 10 = .ok (.aload_n 1, 1) := by decide +kernel
theorem dX3_quotient_11 : decode cX3_quotient 11 = .ok (.invokevirtual 127, 3) := by decide +kernel
theorem dX3_quotient_14 : decode cX3_quotient 14 = .ok (.aload_n 1, 1) := by decide +kernel
theorem dX3_quotient_15 : decode cX3_quotient 15 = .ok (.getfield 95, 3) := by decide +kernel
theorem dX3_quotient_18 : decode cX3_quotient 18 = .ok (.invokestatic 115, 3) := by decide +kernel
theorem dX3_quotient_21 : decode cX3_quotient 21 = .ok (.iload 5, 2) := by decide +kernel
theorem dX3_quotient_23 : decode cX3_quotient 23 = .ok (.isub, 1) := by decide +kernel
theorem dX3_quotient_24 : decode cX3_quotient 24 = .ok (.istore 6, 2) := by decide +kernel
theorem dX3_quotient_26 : decode cX3_quotient 26 = .ok (.aload_n 0, 1) := by decide +kernel
theorem dX3_quotient_27 : decode cX3_quotient 27 = .ok (.aload_n 2, 1) := by decide +kernel
theorem dX3_quotient_28 : decode cX3_quotient 28 = .ok (.invokevirtual 135, 3) := by decide +kernel
theorem dX3_quotient_31 : decode cX3_quotient 31 = .ok (.ifCond .ne 5, 3) := by decide +kernel
theorem dX3_quotient_34 : decode cX3_quotient 34 = .ok (.iconst 0, 1) := by decide +kernel
theorem dX3_quotient_35 : decode cX3_quotient 35 = .ok (.ireturn, 1) := by decide +kernel
theorem dX3_quotient_36 : decode cX3_quotient 36 = .ok (.iload 6, 2) := by decide +kernel
theorem dX3_quotient_38 : decode cX3_quotient 38 = .ok (.istore 7, 2) := by decide +kernel
theorem dX3_quotient_40 : decode cX3_quotient 40 = .ok (.iload 7, 2) := by decide +kernel
theorem dX3_quotient_42 : decode cX3_quotient 42 = .ok (.ifCond .lt 123, 3) := by decide +kernel
theorem dX3_quotient_45 : decode cX3_quotient 45 = .ok (.aload_n 1, 1) := by decide +kernel
theorem dX3_quotient_46 : decode cX3_quotient 46 = .ok (.invokevirtual 127, 3) := by decide +kernel
theorem dX3_quotient_49 : decode cX3_quotient 49 = .ok (.lstore 8, 2) := by decide +kernel
theorem dX3_quotient_51 : decode cX3_quotient 51 = .ok (.lload 8, 2) := by decide +kernel
theorem dX3_quotient_53 : decode cX3_quotient 53 = .ok (.aload_n 1, 1) := by decide +kernel
theorem dX3_quotient_54 : decode cX3_quotient 54 = .ok (.getfield 95, 3) := by decide +kernel
theorem dX3_quotient_57 : decode cX3_quotient 57 = .ok (.lload_n 3, 1) := by decide +kernel
theorem dX3_quotient_58 : decode cX3_quotient 58 = .ok (.aload_n 1, 1) := by decide +kernel
theorem dX3_quotient_59 : decode cX3_quotient 59 = .ok (.getfield 95, 3) := by decide +kernel
theorem dX3_quotient_62 : decode cX3_quotient 62 = .ok (.iload 5, 2) := by decide +kernel
theorem dX3_quotient_64 : decode cX3_quotient 64 = .ok (.iconst 1, 1) := by decide +kernel
theorem dX3_quotient_65 : decode cX3_quotient 65 = .ok (.isub, 1) := by decide +kernel
theorem dX3_quotient_66 : decode cX3_quotient 66 = .ok (.invokestatic 119, 3) := by decide +kernel
theorem dX3_quotient_69 : decode cX3_quotient 69 = .ok (.iload 7, 2) := by decide +kernel
theorem dX3_quotient_71 : decode cX3_quotient 71 = .ok (.iload 5, 2) := by decide +kernel
theorem dX3_quotient_73 : decode cX3_quotient 73 = .ok (.iadd, 1) := by decide +kernel
theorem dX3_quotient_74 : decode cX3_quotient 74 = .ok (.iconst 1, 1) := by decide +kernel
theorem dX3_quotient_75 : decode cX3_quotient 75 = .ok (.isub, 1) := by decide +kernel
theorem dX3_quotient_76 : decode cX3_quotient 76 = .ok (.invokestatic 143, 3) := by decide +kernel
theorem dX3_quotient_79 : decode cX3_quotient 79 = .ok (.istore 10, 2) := by decide +kernel
theorem dX3_quotient_81 : decode cX3_quotient 81 = .ok (.aload_n 0, 1) := by decide +kernel
theorem dX3_quotient_82 : decode cX3_quotient 82 = .ok (.aload_n 2, 1) := by decide +kernel
theorem dX3_quotient_83 : decode cX3_quotient 83 = .ok (.iload 7, 2) := by decide +kernel
theorem dX3_quotient_85 : decode cX3_quotient 85 = .ok (.iload 10, 2) := by decide +kernel
theorem dX3_quotient_87 : decode cX3_quotient 87 = .ok (.invokevirtual 123, 3) := by decide +kernel
theorem dX3_quotient_90 : decode cX3_quotient 90 = .ok (.ifCond .ne 5, 3) := by decide +kernel
theorem dX3_quotient_93 : decode cX3_quotient 93 = .ok (.iconst 0, 1) := by decide +kernel
theorem dX3_quotient_94 : decode cX3_quotient 94 = .ok (.ireturn, 1) := by decide +kernel
theorem dX3_quotient_95 : decode cX3_quotient 95 = .ok (.lload_n 3, 1) := by decide +kernel
theorem dX3_quotient_96 : decode cX3_quotient 96 = .ok (.aload_n 1, 1) := by decide +kernel
theorem dX3_quotient_97 : decode cX3_quotient 97 = .ok (.getfield 95, 3) := by decide +kernel
theorem dX3_quotient_100 : decode cX3_quotient 100 = .ok (.iload 7, 2) := by decide +kernel
theorem dX3_quotient_102 : decode cX3_quotient 102 = .ok (.invokestatic 147, 3) := by decide +kernel
theorem dX3_quotient_105 : decode cX3_quotient 105 = .ok (.lmul, 1) := by decide +kernel
theorem dX3_quotient_106 : decode cX3_quotient 106 = .ok (.lstore 11, 2) := by decide +kernel
theorem dX3_quotient_108 : decode cX3_quotient 108 = .ok (.iload 10, 2) := by decide +kernel
theorem dX3_quotient_110 : decode cX3_quotient 110 = .ok (.ifCond .le 34, 3) := by decide +kernel
theorem dX3_quotient_113 : decode cX3_quotient 113 = .ok (.iload 10, 2) := by decide +kernel
theorem dX3_quotient_115 : decode cX3_quotient 115 = .ok (.i2l, 1) := by decide +kernel
theorem dX3_quotient_116 : decode cX3_quotient 116 = .ok (.lload 11, 2) := by decide +kernel
theorem dX3_quotient_118 : decode cX3_quotient 118 = .ok (.lmul, 1) := by decide +kernel
theorem dX3_quotient_119 : decode cX3_quotient 119 = .ok (.lload 8, 2) := by decide +kernel
theorem dX3_quotient_121 : decode cX3_quotient 121 = .ok (.lcmp, 1) := by decide +kernel
theorem dX3_quotient_122 : decode cX3_quotient 122 = .ok (.ifCond .le 22, 3) := by decide +kernel
theorem dX3_quotient_125 : decode cX3_quotient 125 = .ok (.aload_n 0, 1) := by decide +kernel
theorem dX3_quotient_126 : decode cX3_quotient 126 = .ok (.aload_n 2, 1) := by decide +kernel
theorem dX3_quotient_127 : decode cX3_quotient 127 = .ok (.iload 7, 2) := by decide +kernel
theorem dX3_quotient_129 : decode cX3_quotient 129 = .ok (.iconst (-1), 1) := by decide +kernel
theorem dX3_quotient_130 : decode cX3_quotient 130 = .ok (.invokevirtual 123, 3) := by decide +kernel
theorem dX3_quotient_133 : decode cX3_quotient 133 = .ok (.ifCond .ne 5, 3) := by decide +kernel
theorem dX3_quotient_136 : decode cX3_quotient 136 = .ok (.iconst 0, 1) := by decide +kernel
theorem dX3_quotient_137 : decode cX3_quotient 137 = .ok (.ireturn, 1) := by decide +kernel
theorem dX3_quotient_138 : decode cX3_quotient 138 = .ok (.iinc 10 (-1), 3) := by decide +kernel
theorem dX3_quotient_141 : decode cX3_quotient 141 = .ok (.goto (-33), 3) := by decide +kernel
theorem dX3_quotient_144 : decode cX3_quotient 144 = .ok (.aload_n 0, 1) := by decide +kernel
theorem dX3_quotient_145 : decode cX3_quotient 145 = .ok (.aload_n 1, 1) := by decide +kernel
theorem dX3_quotient_146 : decode cX3_quotient 146 = .ok (.lload_n 3, 1) := by decide +kernel
theorem dX3_quotient_147 : decode cX3_quotient 147 = .ok (.iload 7, 2) := by decide +kernel
theorem dX3_quotient_149 : decode cX3_quotient 149 = .ok (.iload 10, 2) := by decide +kernel
theorem dX3_quotient_151 : decode cX3_quotient 151 = .ok (.invokevirtual 151, 3) := by decide +kernel
theorem dX3_quotient_154 : decode cX3_quotient 154 = .ok (.ifCond .ne 5, 3) := by decide +kernel
theorem dX3_quotient_157 : decode cX3_quotient 157 = .ok (.iconst 0, 1) := by decide +kernel
theorem dX3_quotient_158 : decode cX3_quotient 158 = .ok (.ireturn, 1) := by decide +kernel
theorem dX3_quotient_159 : decode cX3_quotient 159 = .ok (.iinc 7 (-1), 3) := by decide +kernel
theorem dX3_quotient_162 : decode cX3_quotient 162 = .ok (.goto (-122), 3) := by decide +kernel
theorem dX3_quotient_165 : decode cX3_quotient 165 = .ok (.iconst 1, 1) := by decide +kernel
theorem dX3_quotient_166 : decode cX3_quotient 166 = .ok (.ireturn, 1) := by decide +kernel
theorem dX3_firstTrial_0 : decode cX3_firstTrial 0 = .ok (.iload_n 2, 1) := by decide +kernel
theorem dX3_firstTrial_1 : decode cX3_firstTrial 1 = .ok (.iload 4, 2) := by decide +kernel
theorem dX3_firstTrial_3 : decode cX3_firstTrial 3 = .ok (.invokestatic 147, 3) := by decide +kernel
theorem dX3_firstTrial_6 : decode cX3_firstTrial 6 = .ok (.lstore 5, 2) := by decide +kernel
theorem dX3_firstTrial_8 : decode cX3_firstTrial 8 = .ok (.lload 5, 2) := by decide +kernel
theorem dX3_firstTrial_10 : decode cX3_firstTrial 10 = .ok (.lconst 0, 1) := by decide +kernel
theorem dX3_firstTrial_11 : decode cX3_firstTrial 11 = .ok (.lcmp, 1) := by decide +kernel
theorem dX3_firstTrial_12 : decode cX3_firstTrial 12 = .ok (.ifCond .le 7, 3) := by decide +kernel
theorem dX3_firstTrial_15 : decode cX3_firstTrial 15 = .ok (.iload_n 3, 1) := by decide +kernel
theorem dX3_firstTrial_16 : decode cX3_firstTrial 16 = .ok (.ifCond .gt 7, 3) := by decide +kernel
theorem dX3_firstTrial_19 : decode cX3_firstTrial 19 = .ok (.iconst 0, 1) := by decide +kernel
theorem dX3_firstTrial_20 : decode cX3_firstTrial 20 = .ok (.goto 18, 3) := by decide +kernel
theorem dX3_firstTrial_23 : decode cX3_firstTrial 23 = .ok (.lload_n 0, 1) := by decide +kernel
theorem dX3_firstTrial_24 : decode cX3_firstTrial 24 = .ok (.lload 5, 2) := by decide +kernel
theorem dX3_firstTrial_26 : decode cX3_firstTrial 26 = .ok (.ldiv, 1) := by decide +kernel
theorem dX3_firstTrial_27 : decode cX3_firstTrial 27 = .ok (.iload_n 3, 1) := by decide +kernel
theorem dX3_firstTrial_28 : decode cX3_firstTrial 28 = .ok (.i2l, 1) := by decide +kernel
theorem dX3_firstTrial_29 : decode cX3_firstTrial 29 = .ok (.ldiv, 1) := by decide +kernel
theorem dX3_firstTrial_30 : decode cX3_firstTrial 30 = .ok (.iload_n 2, 1) := by decide +kernel
theorem dX3_firstTrial_31 : decode cX3_firstTrial 31 = .ok (.iconst 1, 1) := by decide +kernel
theorem dX3_firstTrial_32 : decode cX3_firstTrial 32 = .ok (.isub, 1) := by decide +kernel
theorem dX3_firstTrial_33 : decode cX3_firstTrial 33 = .ok (.i2l, 1) := by decide +kernel
theorem dX3_firstTrial_34 : decode cX3_firstTrial 34 = .ok (.invokestatic 155, 3) := by decide +kernel
theorem dX3_firstTrial_37 : decode cX3_firstTrial 37 = .ok (.l2i, 1) := by decide +kernel
theorem dX3_firstTrial_38 : decode cX3_firstTrial 38 = .ok (.ireturn, 1) := by decide +kernel
theorem dX3_takeProducts_0 : decode cX3_takeProducts 0 = .ok (.lload_n 2, 1) := by decide +kernel
theorem dX3_takeProducts_1 : decode cX3_takeProducts 1 = .ok (.aload_n 1, 1) := by decide +kernel
theorem dX3_takeProducts_2 : decode cX3_takeProducts 2 = .ok (.getfield 95, 3) := by decide +kernel
theorem dX3_takeProducts_5 : decode cX3_takeProducts 5 = .ok (.invokestatic 115, 3) := by decide +kernel
theorem dX3_takeProducts_8 : decode cX3_takeProducts 8 = .ok (.iconst 1, 1) := by decide +kernel
theorem dX3_takeProducts_9 : decode cX3_takeProducts 9 = .ok (.isub, 1) := by decide +kernel
theorem dX3_takeProducts_10 : decode cX3_takeProducts 10 = .ok (.istore 6, 2) := by decide +kernel
theorem dX3_takeProducts_12 : decode cX3_takeProducts 12 = .ok (.iload 6, 2) := by decide +kernel
theorem dX3_takeProducts_14 : decode cX3_takeProducts 14 = .ok (.ifCond .lt 78, 3) := by decide +kernel
theorem dX3_takeProducts_17 : decode cX3_takeProducts 17 = .ok (.iload 5, 2) := by decide +kernel
theorem dX3_takeProducts_19 : decode cX3_takeProducts 19 = .ok (.lload_n 2, 1) := by decide +kernel
theorem dX3_takeProducts_20 : decode cX3_takeProducts 20 = .ok (.aload_n 1, 1) := by decide +kernel
theorem dX3_takeProducts_21 : decode cX3_takeProducts 21 = .ok (.getfield 95, 3) := by decide +kernel
theorem dX3_takeProducts_24 : decode cX3_takeProducts 24 = .ok (.iload 6, 2) := by decide +kernel
theorem dX3_takeProducts_26 : decode cX3_takeProducts 26 = .ok (.invokestatic 119, 3) := by decide +kernel
theorem dX3_takeProducts_29 : decode cX3_takeProducts 29 = .ok (.imul, 1) := by decide +kernel
theorem dX3_takeProducts_30 : decode cX3_takeProducts 30 = .ok (.istore 7, 2) := by decide +kernel
theorem dX3_takeProducts_32 : decode cX3_takeProducts 32 = .ok (.aload_n 0, 1) := by decide +kernel
theorem dX3_takeProducts_33 : decode cX3_takeProducts 33 = .ok (.aload_n 1, 1) := by decide +kernel
theorem dX3_takeProducts_34 : decode cX3_takeProducts 34 = .ok (.iload 4, 2) := by decide +kernel
theorem dX3_takeProducts_36 : decode cX3_takeProducts 36 = .ok (.iload 6, 2) := by decide +kernel
theorem dX3_takeProducts_38 : decode cX3_takeProducts 38 = .ok (.iadd, 1) := by decide +kernel
theorem dX3_takeProducts_39 : decode cX3_takeProducts 39 = .ok (.iconst 1, 1) := by decide +kernel
theorem dX3_takeProducts_40 : decode cX3_takeProducts 40 = .ok (.iadd, 1) := by decide +kernel
theorem dX3_takeProducts_41 : decode cX3_takeProducts 41 = .ok (.iload 7, 2) := by decide +kernel
theorem dX3_takeProducts_43 : decode cX3_takeProducts 43 = .ok (.i2l, 1) := by decide +kernel
theorem dX3_takeProducts_44 : decode cX3_takeProducts 44 = .ok (.aload_n 1, 1) := by decide +kernel
theorem dX3_takeProducts_45 : decode cX3_takeProducts 45 = .ok (.getfield 95, 3) := by decide +kernel
theorem dX3_takeProducts_48 : decode cX3_takeProducts 48 = .ok (.iconst 1, 1) := by decide +kernel
theorem dX3_takeProducts_49 : decode cX3_takeProducts 49 = .ok (.invokestatic 119, 3) := by decide +kernel
theorem dX3_takeProducts_52 : decode cX3_takeProducts 52 = .ok (.ineg, 1) := by decide +kernel
theorem dX3_takeProducts_53 : decode cX3_takeProducts 53 = .ok (.invokevirtual 123, 3) := by decide +kernel
theorem dX3_takeProducts_56 : decode cX3_takeProducts 56 = .ok (.ifCond .eq 28, 3) := by decide +kernel
theorem dX3_takeProducts_59 : decode cX3_takeProducts 59 = .ok (.aload_n 0, 1) := by decide +kernel
theorem dX3_takeProducts_60 : decode cX3_takeProducts 60 = .ok (.aload_n 1, 1) := by decide +kernel
theorem dX3_takeProducts_61 : decode cX3_takeProducts 61 = .ok (.iload 4, 2) := by decide +kernel
theorem dX3_takeProducts_63 : decode cX3_takeProducts 63 = .ok (.iload 6, 2) := by decide +kernel
theorem dX3_takeProducts_65 : decode cX3_takeProducts 65 = .ok (.iadd, 1) := by decide +kernel
theorem dX3_takeProducts_66 : decode cX3_takeProducts 66 = .ok (.iload 7, 2) := by decide +kernel
theorem dX3_takeProducts_68 : decode cX3_takeProducts 68 = .ok (.i2l, 1) := by decide +kernel
theorem dX3_takeProducts_69 : decode cX3_takeProducts 69 = .ok (.aload_n 1, 1) := by decide +kernel
theorem dX3_takeProducts_70 : decode cX3_takeProducts 70 = .ok (.getfield 95, 3) := by decide +kernel
theorem dX3_takeProducts_73 : decode cX3_takeProducts 73 = .ok (.iconst 0, 1) := by decide +kernel
theorem dX3_takeProducts_74 : decode cX3_takeProducts 74 = .ok (.invokestatic 119, 3) := by decide +kernel
theorem dX3_takeProducts_77 : decode cX3_takeProducts 77 = .ok (.ineg, 1) := by decide +kernel
theorem dX3_takeProducts_78 : decode cX3_takeProducts 78 = .ok (.invokevirtual 123, 3) := by decide +kernel
theorem dX3_takeProducts_81 : decode cX3_takeProducts 81 = .ok (.ifCond .ne 5, 3) := by decide +kernel
theorem dX3_takeProducts_84 : decode cX3_takeProducts 84 = .ok (.iconst 0, 1) := by decide +kernel
theorem dX3_takeProducts_85 : decode cX3_takeProducts 85 = .ok (.ireturn, 1) := by decide +kernel
theorem dX3_takeProducts_86 : decode cX3_takeProducts 86 = .ok (.iinc 6 (-1), 3) := by decide +kernel
theorem dX3_takeProducts_89 : decode cX3_takeProducts 89 = .ok (.goto (-77), 3) := by decide +kernel
theorem dX3_takeProducts_92 : decode cX3_takeProducts 92 = .ok (.iconst 1, 1) := by decide +kernel
theorem dX3_takeProducts_93 : decode cX3_takeProducts 93 = .ok (.ireturn, 1) := by decide +kernel
theorem dX3_taken_0 : decode cX3_taken 0 = .ok (.iload_n 0, 1) := by decide +kernel
theorem dX3_taken_1 : decode cX3_taken 1 = .ok (.iconst 2, 1) := by decide +kernel
theorem dX3_taken_2 : decode cX3_taken 2 = .ok (.if_icmp .ne 19, 3) := by decide +kernel
theorem dX3_taken_5 : decode cX3_taken 5 = .ok (.ldc2_w 161, 3) := by decide +kernel
theorem dX3_taken_8 : decode cX3_taken 8 = .ok (.lload_n 1, 1) := by decide +kernel
theorem dX3_taken_9 : decode cX3_taken 9 = .ok (.lmul, 1) := by decide +kernel
theorem dX3_taken_10 : decode cX3_taken 10 = .ok (.lload_n 3, 1) := by decide +kernel
theorem dX3_taken_11 : decode cX3_taken 11 = .ok (.lmul, 1) := by decide +kernel
theorem dX3_taken_12 : decode cX3_taken 12 = .ok (.lload 5, 2) := by decide +kernel
theorem dX3_taken_14 : decode cX3_taken 14 = .ok (.ladd, 1) := by decide +kernel
theorem dX3_taken_15 : decode cX3_taken 15 = .ok (.lload 5, 2) := by decide +kernel
theorem dX3_taken_17 : decode cX3_taken 17 = .ok (.lmul, 1) := by decide +kernel
theorem dX3_taken_18 : decode cX3_taken 18 = .ok (.goto 34, 3) := by decide +kernel
theorem dX3_taken_21 : decode cX3_taken 21 = .ok (.ldc2_w 163, 3) := by decide +kernel
theorem dX3_taken_24 : decode cX3_taken 24 = .ok (.lload_n 1, 1) := by decide +kernel
theorem dX3_taken_25 : decode cX3_taken 25 = .ok (.lmul, 1) := by decide +kernel
theorem dX3_taken_26 : decode cX3_taken 26 = .ok (.lload_n 1, 1) := by decide +kernel
theorem dX3_taken_27 : decode cX3_taken 27 = .ok (.lmul, 1) := by decide +kernel
theorem dX3_taken_28 : decode cX3_taken 28 = .ok (.lload_n 3, 1) := by decide +kernel
theorem dX3_taken_29 : decode cX3_taken 29 = .ok (.lmul, 1) := by decide +kernel
theorem dX3_taken_30 : decode cX3_taken 30 = .ok (.lload_n 3, 1) := by decide +kernel
theorem dX3_taken_31 : decode cX3_taken 31 = .ok (.lmul, 1) := by decide +kernel
theorem dX3_taken_32 : decode cX3_taken 32 = .ok (.ldc2_w 163, 3) := by decide +kernel
theorem dX3_taken_35 : decode cX3_taken 35 = .ok (.lload_n 1, 1) := by decide +kernel
theorem dX3_taken_36 : decode cX3_taken 36 = .ok (.lmul, 1) := by decide +kernel
theorem dX3_taken_37 : decode cX3_taken 37 = .ok (.lload_n 3, 1) := by decide +kernel
theorem dX3_taken_38 : decode cX3_taken 38 = .ok (.lmul, 1) := by decide +kernel
theorem dX3_taken_39 : decode cX3_taken 39 = .ok (.lload 5, 2) := by decide +kernel
theorem dX3_taken_41 : decode cX3_taken 41 = .ok (.lmul, 1) := by decide +kernel
theorem dX3_taken_42 : decode cX3_taken 42 = .ok (.ladd, 1) := by decide +kernel
theorem dX3_taken_43 : decode cX3_taken 43 = .ok (.lload 5, 2) := by decide +kernel
theorem dX3_taken_45 : decode cX3_taken 45 = .ok (.lload 5, 2) := by decide +kernel
theorem dX3_taken_47 : decode cX3_taken 47 = .ok (.lmul, 1) := by decide +kernel
theorem dX3_taken_48 : decode cX3_taken 48 = .ok (.ladd, 1) := by decide +kernel
theorem dX3_taken_49 : decode cX3_taken 49 = .ok (.lload 5, 2) := by decide +kernel
theorem dX3_taken_51 : decode cX3_taken 51 = .ok (.lmul, 1) := by decide +kernel
theorem dX3_taken_52 : decode cX3_taken 52 = .ok (.lreturn, 1) := by decide +kernel
theorem dX3_extract_0 : decode cX3_extract 0 = .ok (.iload_n 3, 1) := by decide +kernel
theorem dX3_extract_1 : decode cX3_extract 1 = .ok (.iconst 2, 1) := by decide +kernel
theorem dX3_extract_2 : decode cX3_extract 2 = .ok (.if_icmp .ge 5, 3) := by decide +kernel
theorem dX3_extract_5 : decode cX3_extract 5 = .ok (.iconst 0, 1) := by decide +kernel
theorem dX3_extract_6 : decode cX3_extract 6 = .ok (.ireturn, 1) := by decide +kernel
theorem dX3_extract_7 : decode cX3_extract 7 = .ok (.aload_n 1, 1) := by decide +kernel
theorem dX3_extract_8 : decode cX3_extract 8 = .ok (.invokevirtual 127, 3) := by decide +kernel
theorem dX3_extract_11 : decode cX3_extract 11 = .ok (.aload_n 1, 1) := by decide +kernel
theorem dX3_extract_12 : decode cX3_extract 12 = .ok (.getfield 95, 3) := by decide +kernel
theorem dX3_extract_15 : decode cX3_extract 15 = .ok (.invokestatic 115, 3) := by decide +kernel
theorem dX3_extract_18 : decode cX3_extract 18 = .ok (.iload_n 3, 1) := by decide +kernel
theorem dX3_extract_19 : decode cX3_extract 19 = .ok (.iadd, 1) := by decide +kernel
theorem dX3_extract_20 : decode cX3_extract 20 = .ok (.iconst 1, 1) := by decide +kernel
theorem dX3_extract_21 : decode cX3_extract 21 = .ok (.isub, 1) := by decide +kernel
theorem dX3_extract_22 : decode cX3_extract 22 = .ok (.iload_n 3, 1) := by decide +kernel
theorem dX3_extract_23 : decode cX3_extract 23 = .ok (.idiv, 1) := by decide +kernel
theorem dX3_extract_24 : decode cX3_extract 24 = .ok (.iconst 1, 1) := by decide +kernel
theorem dX3_extract_25 : decode cX3_extract 25 = .ok (.isub, 1) := by decide +kernel
theorem dX3_extract_26 : decode cX3_extract 26 = .ok (.istore 4, 2) := by decide +kernel
theorem dX3_extract_28 : decode cX3_extract 28 = .ok (.aload_n 0, 1) := by decide +kernel
theorem dX3_extract_29 : decode cX3_extract 29 = .ok (.aload_n 2, 1) := by decide +kernel
theorem dX3_extract_30 : decode cX3_extract 30 = .ok (.invokevirtual 135, 3) := by decide +kernel
theorem dX3_extract_33 : decode cX3_extract 33 = .ok (.ifCond .ne 5, 3) := by decide +kernel
theorem dX3_extract_36 : decode cX3_extract 36 = .ok (.iconst 0, 1) := by decide +kernel
theorem dX3_extract_37 : decode cX3_extract 37 = .ok (.ireturn, 1) := by decide +kernel
theorem dX3_extract_38 : decode cX3_extract 38 = .ok (.lconst 0, 1) := by decide +kernel
theorem dX3_extract_39 : decode cX3_extract 39 = .ok (.lstore 5, 2) := by decide +kernel
theorem dX3_extract_41 : decode cX3_extract 41 = .ok (.iload 4, 2) := by decide +kernel
theorem dX3_extract_43 : decode cX3_extract 43 = .ok (.istore 7, 2) := by decide +kernel
theorem dX3_extract_45 : decode cX3_extract 45 = .ok (.iload 7, 2) := by decide +kernel
theorem dX3_extract_47 : decode cX3_extract 47 = .ok (.ifCond .lt 125, 3) := by decide +kernel
theorem dX3_extract_50 : decode cX3_extract 50 = .ok (.aload_n 1, 1) := by decide +kernel
theorem dX3_extract_51 : decode cX3_extract 51 = .ok (.invokevirtual 127, 3) := by decide +kernel
theorem dX3_extract_54 : decode cX3_extract 54 = .ok (.lstore 8, 2) := by decide +kernel
theorem dX3_extract_56 : decode cX3_extract 56 = .ok (.aload_n 1, 1) := by decide +kernel
theorem dX3_extract_57 : decode cX3_extract 57 = .ok (.getfield 95, 3) := by decide +kernel
theorem dX3_extract_60 : decode cX3_extract 60 = .ok (.iload_n 3, 1) := by decide +kernel
theorem dX3_extract_61 : decode cX3_extract 61 = .ok (.iload 7, 2) := by decide +kernel
theorem dX3_extract_63 : decode cX3_extract 63 = .ok (.imul, 1) := by decide +kernel
theorem dX3_extract_64 : decode cX3_extract 64 = .ok (.invokestatic 147, 3) := by decide +kernel
theorem dX3_extract_67 : decode cX3_extract 67 = .ok (.lstore 10, 2) := by decide +kernel
theorem dX3_extract_69 : decode cX3_extract 69 = .ok (.aload_n 1, 1) := by decide +kernel
theorem dX3_extract_70 : decode cX3_extract 70 = .ok (.getfield 95, 3) := by decide +kernel
theorem dX3_extract_73 : decode cX3_extract 73 = .ok (.iconst 1, 1) := by decide +kernel
theorem dX3_extract_74 : decode cX3_extract 74 = .ok (.isub, 1) := by decide +kernel
theorem dX3_extract_75 : decode cX3_extract 75 = .ok (.istore 12, 2) := by decide +kernel
theorem dX3_extract_77 : decode cX3_extract 77 = .ok (.iload 12, 2) := by decide +kernel
theorem dX3_extract_79 : decode cX3_extract 79 = .ok (.ifCond .le 32, 3) := by decide +kernel
theorem dX3_extract_82 : decode cX3_extract 82 = .ok (.iload_n 3, 1) := by decide +kernel
theorem dX3_extract_83 : decode cX3_extract 83 = .ok (.aload_n 1, 1) := by decide +kernel
theorem dX3_extract_84 : decode cX3_extract 84 = .ok (.getfield 95, 3) := by decide +kernel
theorem dX3_extract_87 : decode cX3_extract 87 = .ok (.i2l, 1) := by decide +kernel
theorem dX3_extract_88 : decode cX3_extract 88 = .ok (.lload 5, 2) := by decide +kernel
theorem dX3_extract_90 : decode cX3_extract 90 = .ok (.iload 12, 2) := by decide +kernel
theorem dX3_extract_92 : decode cX3_extract 92 = .ok (.i2l, 1) := by decide +kernel
theorem dX3_extract_93 : decode cX3_extract 93 = .ok (.invokestatic 165, 3) := by decide +kernel
theorem dX3_extract_96 : decode cX3_extract 96 = .ok (.lload 10, 2) := by decide +kernel
theorem dX3_extract_98 : decode cX3_extract 98 = .ok (.lmul, 1) := by decide +kernel
theorem dX3_extract_99 : decode cX3_extract 99 = .ok (.lload 8, 2) := by decide +kernel
theorem dX3_extract_101 : decode cX3_extract 101 = .ok (.lcmp, 1) := by decide +kernel
theorem dX3_extract_102 : decode cX3_extract 102 = .ok (.ifCond .le 9, 3) := by decide +kernel
theorem dX3_extract_105 : decode cX3_extract 105 = .ok (.iinc 12 (-1), 3) := by decide +kernel
theorem dX3_extract_108 : decode cX3_extract 108 = .ok (.goto (-31), 3) := by decide +kernel
theorem dX3_extract_111 : decode cX3_extract 111 = .ok (.aload_n 0, 1) := by decide +kernel
theorem dX3_extract_112 : decode cX3_extract 112 = .ok (.aload_n 2, 1) := by decide +kernel
theorem dX3_extract_113 : decode cX3_extract 113 = .ok (.iload 7, 2) := by decide +kernel
theorem dX3_extract_115 : decode cX3_extract 115 = .ok (.iload 12, 2) := by decide +kernel
theorem dX3_extract_117 : decode cX3_extract 117 = .ok (.invokevirtual 123, 3) := by decide +kernel
theorem dX3_extract_120 : decode cX3_extract 120 = .ok (.ifCond .eq 30, 3) := by decide +kernel
theorem dX3_extract_123 : decode cX3_extract 123 = .ok (.aload_n 0, 1) := by decide +kernel
theorem dX3_extract_124 : decode cX3_extract 124 = .ok (.aload_n 1, 1) := by decide +kernel
theorem dX3_extract_125 : decode cX3_extract 125 = .ok (.iload_n 3, 1) := by decide +kernel
theorem dX3_extract_126 : decode cX3_extract 126 = .ok (.aload_n 1, 1) := by decide +kernel
theorem dX3_extract_127 : decode cX3_extract 127 = .ok (.getfield 95, 3) := by decide +kernel
theorem dX3_extract_130 : decode cX3_extract 130 = .ok (.i2l, 1) := by decide +kernel
theorem dX3_extract_131 : decode cX3_extract 131 = .ok (.lload 5, 2) := by decide +kernel
theorem dX3_extract_133 : decode cX3_extract 133 = .ok (.iload 12, 2) := by decide +kernel
theorem dX3_extract_135 : decode cX3_extract 135 = .ok (.i2l, 1) := by decide +kernel
theorem dX3_extract_136 : decode cX3_extract 136 = .ok (.invokestatic 165, 3) := by decide +kernel
theorem dX3_extract_139 : decode cX3_extract 139 = .ok (.iload_n 3, 1) := by decide +kernel
theorem dX3_extract_140 : decode cX3_extract 140 = .ok (.iload 7, 2) := by decide +kernel
theorem dX3_extract_142 : decode cX3_extract 142 = .ok (.imul, 1) := by decide +kernel
theorem dX3_extract_143 : decode cX3_extract 143 = .ok (.iconst (-1), 1) := by decide +kernel
theorem dX3_extract_144 : decode cX3_extract 144 = .ok (.invokevirtual 169, 3) := by decide +kernel
theorem dX3_extract_147 : decode cX3_extract 147 = .ok (.ifCond .ne 5, 3) := by decide +kernel
theorem dX3_extract_150 : decode cX3_extract 150 = .ok (.iconst 0, 1) := by decide +kernel
theorem dX3_extract_151 : decode cX3_extract 151 = .ok (.ireturn, 1) := by decide +kernel
theorem dX3_extract_152 : decode cX3_extract 152 = .ok (.aload_n 1, 1) := by decide +kernel
theorem dX3_extract_153 : decode cX3_extract 153 = .ok (.getfield 95, 3) := by decide +kernel
theorem dX3_extract_156 : decode cX3_extract 156 = .ok (.i2l, 1) := by decide +kernel
theorem dX3_extract_157 : decode cX3_extract 157 = .ok (.lload 5, 2) := by decide +kernel
theorem dX3_extract_159 : decode cX3_extract 159 = .ok (.lmul, 1) := by decide +kernel
theorem dX3_extract_160 : decode cX3_extract 160 = .ok (.iload 12, 2) := by decide +kernel
theorem dX3_extract_162 : decode cX3_extract 162 = .ok (.i2l, 1) := by decide +kernel
theorem dX3_extract_163 : decode cX3_extract 163 = .ok (.ladd, 1) := by decide +kernel
theorem dX3_extract_164 : decode cX3_extract 164 = .ok (.lstore 5, 2) := by decide +kernel
theorem dX3_extract_166 : decode cX3_extract 166 = .ok (.iinc 7 (-1), 3) := by decide +kernel
theorem dX3_extract_169 : decode cX3_extract 169 = .ok (.goto (-124), 3) := by decide +kernel
theorem dX3_extract_172 : decode cX3_extract 172 = .ok (.iconst 1, 1) := by decide +kernel
theorem dX3_extract_173 : decode cX3_extract 173 = .ok (.ireturn, 1) := by decide +kernel
theorem dX3_turnOver_0 : decode cX3_turnOver 0 = .ok (.aload_n 1, 1) := by decide +kernel
theorem dX3_turnOver_1 : decode cX3_turnOver 1 = .ok (.invokevirtual 127, 3) := by decide +kernel
theorem dX3_turnOver_4 : decode cX3_turnOver 4 = .ok (.lstore_n 3, 1) := by decide +kernel
theorem dX3_turnOver_5 : decode cX3_turnOver 5 = .ok (.aload_n 0, 1) := by decide +kernel
theorem dX3_turnOver_6 : decode cX3_turnOver 6 = .ok (.aload_n 2, 1) := by decide +kernel
theorem dX3_turnOver_7 : decode cX3_turnOver 7 = .ok (.invokevirtual 135, 3) := by decide +kernel
theorem dX3_turnOver_10 : decode cX3_turnOver 10 = .ok (.ifCond .ne 5, 3) := by decide +kernel
theorem dX3_turnOver_13 : decode cX3_turnOver 13 = .ok (.iconst 0, 1) := by decide +kernel
theorem dX3_turnOver_14 : decode cX3_turnOver 14 = .ok (.ireturn, 1) := by decide +kernel
theorem dX3_turnOver_15 : decode cX3_turnOver 15 = .ok (.lload_n 3, 1) := by decide +kernel
theorem dX3_turnOver_16 : decode cX3_turnOver 16 = .ok (.aload_n 1, 1) := by decide +kernel
theorem dX3_turnOver_17 : decode cX3_turnOver 17 = .ok (.getfield 95, 3) := by decide +kernel
theorem dX3_turnOver_20 : decode cX3_turnOver 20 = .ok (.invokestatic 115, 3) := by decide +kernel
theorem dX3_turnOver_23 : decode cX3_turnOver 23 = .ok (.iconst 1, 1) := by decide +kernel
theorem dX3_turnOver_24 : decode cX3_turnOver 24 = .ok (.isub, 1) := by decide +kernel
theorem dX3_turnOver_25 : decode cX3_turnOver 25 = .ok (.istore 5, 2) := by decide +kernel
theorem dX3_turnOver_27 : decode cX3_turnOver 27 = .ok (.iload 5, 2) := by decide +kernel
theorem dX3_turnOver_29 : decode cX3_turnOver 29 = .ok (.ifCond .lt 45, 3) := by decide +kernel
theorem dX3_turnOver_32 : decode cX3_turnOver 32 = .ok (.aload_n 0, 1) := by decide +kernel
theorem dX3_turnOver_33 : decode cX3_turnOver 33 = .ok (.aload_n 2, 1) := by decide +kernel
theorem dX3_turnOver_34 : decode cX3_turnOver 34 = .ok (.aload_n 1, 1) := by decide +kernel
theorem dX3_turnOver_35 : decode cX3_turnOver 35 = .ok (.getfield 95, 3) := by decide +kernel
theorem dX3_turnOver_38 : decode cX3_turnOver 38 = .ok (.i2l, 1) := by decide +kernel
theorem dX3_turnOver_39 : decode cX3_turnOver 39 = .ok (.invokevirtual 172, 3) := by decide +kernel
theorem dX3_turnOver_42 : decode cX3_turnOver 42 = .ok (.ifCond .eq 24, 3) := by decide +kernel
theorem dX3_turnOver_45 : decode cX3_turnOver 45 = .ok (.aload_n 0, 1) := by decide +kernel
theorem dX3_turnOver_46 : decode cX3_turnOver 46 = .ok (.aload_n 2, 1) := by decide +kernel
theorem dX3_turnOver_47 : decode cX3_turnOver 47 = .ok (.lload_n 3, 1) := by decide +kernel
theorem dX3_turnOver_48 : decode cX3_turnOver 48 = .ok (.aload_n 1, 1) := by decide +kernel
theorem dX3_turnOver_49 : decode cX3_turnOver 49 = .ok (.getfield 95, 3) := by decide +kernel
theorem dX3_turnOver_52 : decode cX3_turnOver 52 = .ok (.iload 5, 2) := by decide +kernel
theorem dX3_turnOver_54 : decode cX3_turnOver 54 = .ok (.invokestatic 119, 3) := by decide +kernel
theorem dX3_turnOver_57 : decode cX3_turnOver 57 = .ok (.i2l, 1) := by decide +kernel
theorem dX3_turnOver_58 : decode cX3_turnOver 58 = .ok (.iconst 0, 1) := by decide +kernel
theorem dX3_turnOver_59 : decode cX3_turnOver 59 = .ok (.iconst 1, 1) := by decide +kernel
theorem dX3_turnOver_60 : decode cX3_turnOver 60 = .ok (.invokevirtual 169, 3) := by decide +kernel
theorem dX3_turnOver_63 : decode cX3_turnOver 63 = .ok (.ifCond .ne 5, 3) := by decide +kernel
theorem dX3_turnOver_66 : decode cX3_turnOver 66 = .ok (.iconst 0, 1) := by decide +kernel
theorem dX3_turnOver_67 : decode cX3_turnOver 67 = .ok (.ireturn, 1) := by decide +kernel
theorem dX3_turnOver_68 : decode cX3_turnOver 68 = .ok (.iinc 5 (-1), 3) := by decide +kernel
theorem dX3_turnOver_71 : decode cX3_turnOver 71 = .ok (.goto (-44), 3) := by decide +kernel
theorem dX3_turnOver_74 : decode cX3_turnOver 74 = .ok (.iconst 1, 1) := by decide +kernel
theorem dX3_turnOver_75 : decode cX3_turnOver 75 = .ok (.ireturn, 1) := by decide +kernel
theorem dX4_init_0 : decode cX4_init 0 = .ok (.aload_n 0, 1) := by decide +kernel
theorem dX4_init_1 : decode cX4_init 1 = .ok (.invokespecial 3, 3) := by decide +kernel
theorem dX4_init_4 : decode cX4_init 4 = .ok (.aload_n 0, 1) := by decide +kernel
theorem dX4_init_5 : decode cX4_init 5 = .ok (.iload_n 1, 1) := by decide +kernel
theorem dX4_init_6 : decode cX4_init 6 = .ok (.iconst 2, 1) := by decide +kernel
theorem dX4_init_7 : decode cX4_init 7 = .ok (.if_icmp .ne 7, 3) := by decide +kernel
theorem dX4_init_10 : decode cX4_init 10 = .ok (.iconst 1, 1) := by decide +kernel
theorem dX4_init_11 : decode cX4_init 11 = .ok (.goto 4, 3) := by decide +kernel
theorem dX4_init_14 : decode cX4_init 14 = .ok (.iconst 0, 1) := by decide +kernel
theorem dX4_init_15 : decode cX4_init 15 = .ok (.putfield 9, 3) := by decide +kernel
theorem dX4_init_18 : decode cX4_init 18 = .ok (.aload_n 0, 1) := by decide +kernel
theorem dX4_init_19 : decode cX4_init 19 = .ok (.aload_n 0, 1) := by decide +kernel
theorem dX4_init_20 : decode cX4_init 20 = .ok (.getfield 9, 3) := by decide +kernel
theorem dX4_init_23 : decode cX4_init 23 = .ok (.ifCond .eq 8, 3) := by decide +kernel
theorem dX4_init_26 : decode cX4_init 26 = .ok (.bipush 10, 2) := by decide +kernel
theorem dX4_init_28 : decode cX4_init 28 = .ok (.goto 12, 3) := by decide +kernel
theorem dX4_init_31 : decode cX4_init 31 = .ok (.iload_n 1, 1) := by decide +kernel
theorem dX4_init_32 : decode cX4_init 32 = .ok (.ifCond .ne 7, 3) := by decide +kernel
theorem dX4_init_35 : decode cX4_init 35 = .ok (.iconst 4, 1) := by decide +kernel
theorem dX4_init_36 : decode cX4_init 36 = .ok (.goto 4, 3) := by decide +kernel
theorem dX4_init_39 : decode cX4_init 39 = .ok (.iconst 5, 1) := by decide +kernel
theorem dX4_init_40 : decode cX4_init 40 = .ok (.putfield 15, 3) := by decide +kernel
theorem dX4_init_43 : decode cX4_init 43 = .ok (.aload_n 0, 1) := by decide +kernel
theorem dX4_init_44 : decode cX4_init 44 = .ok (.aload_n 0, 1) := by decide +kernel
theorem dX4_init_45 : decode cX4_init 45 = .ok (.getfield 9, 3) := by decide +kernel
theorem dX4_init_48 : decode cX4_init 48 = .ok (.ifCond .eq 7, 3) := by decide +kernel
theorem dX4_init_51 : decode cX4_init 51 = .ok (.iconst 0, 1) := by decide +kernel
theorem dX4_init_52 : decode cX4_init 52 = .ok (.goto 12, 3) := by decide +kernel
theorem dX4_init_55 : decode cX4_init 55 = .ok (.iload_n 1, 1) := by decide +kernel
theorem dX4_init_56 : decode cX4_init 56 = .ok (.ifCond .ne 7, 3) := by decide +kernel
theorem dX4_init_59 : decode cX4_init 59 = .ok (.iconst 1, 1) := by decide +kernel
theorem dX4_init_60 : decode cX4_init 60 = .ok (.goto 4, 3) := by decide +kernel
theorem dX4_init_63 : decode cX4_init 63 = .ok (.iconst 2, 1) := by decide +kernel
theorem dX4_init_64 : decode cX4_init 64 = .ok (.putfield 19, 3) := by decide +kernel
theorem dX4_init_67 : decode cX4_init 67 = .ok (.aload_n 0, 1) := by decide +kernel
theorem dX4_init_68 : decode cX4_init 68 = .ok (.aload_n 0, 1) := by decide +kernel
theorem dX4_init_69 : decode cX4_init 69 = .ok (.getfield 9, 3) := by decide +kernel
theorem dX4_init_72 : decode cX4_init 72 = .ok (.ifCond .eq 7, 3) := by decide +kernel
theorem dX4_init_75 : decode cX4_init 75 = .ok (.iconst 1, 1) := by decide +kernel
theorem dX4_init_76 : decode cX4_init 76 = .ok (.goto 4, 3) := by decide +kernel
theorem dX4_init_79 : decode cX4_init 79 = .ok (.iconst 2, 1) := by decide +kernel
theorem dX4_init_80 : decode cX4_init 80 = .ok (.putfield 22, 3) := by decide +kernel
theorem dX4_init_83 : decode cX4_init 83 = .ok (.aload_n 0, 1) := by decide +kernel
theorem dX4_init_84 : decode cX4_init 84 = .ok (.aload_n 0, 1) := by decide +kernel
theorem dX4_init_85 : decode cX4_init 85 = .ok (.getfield 22, 3) := by decide +kernel
theorem dX4_init_88 : decode cX4_init 88 = .ok (.putfield 25, 3) := by decide +kernel
theorem dX4_init_91 : decode cX4_init 91 = .ok (.return_, 1) := by decide +kernel
theorem dX4_renew_0 : decode cX4_renew 0 = .ok (.aload_n 0, 1) := by decide +kernel
theorem dX4_renew_1 : decode cX4_renew 1 = .ok (.iload_n 1, 1) := by decide +kernel
theorem dX4_renew_2 : decode cX4_renew 2 = .ok (.putfield 25, 3) := by decide +kernel
theorem dX4_renew_5 : decode cX4_renew 5 = .ok (.aload_n 0, 1) := by decide +kernel
theorem dX4_renew_6 : decode cX4_renew 6 = .ok (.iconst 0, 1) := by decide +kernel
theorem dX4_renew_7 : decode cX4_renew 7 = .ok (.putfield 28, 3) := by decide +kernel
theorem dX4_renew_10 : decode cX4_renew 10 = .ok (.aload_n 0, 1) := by decide +kernel
theorem dX4_renew_11 : decode cX4_renew 11 = .ok (.iconst 0, 1) := by decide +kernel
theorem dX4_renew_12 : decode cX4_renew 12 = .ok (.putfield 31, 3) := by decide +kernel
theorem dX4_renew_15 : decode cX4_renew 15 = .ok (.return_, 1) := by decide +kernel
theorem dX4_become_0 : decode cX4_become 0 = .ok (.aload_n 0, 1) := by decide +kernel
theorem dX4_become_1 : decode cX4_become 1 = .ok (.aload_n 1, 1) := by decide +kernel
theorem dX4_become_2 : decode cX4_become 2 = .ok (.getfield 25, 3) := by decide +kernel
theorem dX4_become_5 : decode cX4_become 5 = .ok (.putfield 25, 3) := by decide +kernel
theorem dX4_become_8 : decode cX4_become 8 = .ok (.aload_n 0, 1) := by decide +kernel
theorem dX4_become_9 : decode cX4_become 9 = .ok (.aload_n 1, 1) := by decide +kernel
theorem dX4_become_10 : decode cX4_become 10 = .ok (.getfield 28, 3) := by decide +kernel
theorem dX4_become_13 : decode cX4_become 13 = .ok (.putfield 28, 3) := by decide +kernel
theorem dX4_become_16 : decode cX4_become 16 = .ok (.aload_n 0, 1) := by decide +kernel
theorem dX4_become_17 : decode cX4_become 17 = .ok (.aload_n 1, 1) := by decide +kernel
theorem dX4_become_18 : decode cX4_become 18 = .ok (.getfield 31, 3) := by decide +kernel
theorem dX4_become_21 : decode cX4_become 21 = .ok (.putfield 31, 3) := by decide +kernel
theorem dX4_become_24 : decode cX4_become 24 = .ok (.return_, 1) := by decide +kernel
theorem dX4_readFault_0 : decode cX4_readFault 0 = .ok (.aload_n 0, 1) := by decide +kernel
theorem dX4_readFault_1 : decode cX4_readFault 1 = .ok (.getfield 25, 3) := by decide +kernel
theorem dX4_readFault_4 : decode cX4_readFault 4 = .ok (.ifCond .ge 7, 3) := by decide +kernel
theorem dX4_readFault_7 : decode cX4_readFault 7 = .ok (.iconst 1, 1) := by decide +kernel
theorem dX4_readFault_8 : decode cX4_readFault 8 = .ok (.goto 19, 3) := by decide +kernel
theorem dX4_readFault_11 : decode cX4_readFault 11 = .ok (.aload_n 0, 1) := by decide +kernel
theorem dX4_readFault_12 : decode cX4_readFault 12 = .ok (.getfield 25, 3) := by decide +kernel
theorem dX4_readFault_15 : decode cX4_readFault 15 = .ok (.aload_n 0, 1) := by decide +kernel
theorem dX4_readFault_16 : decode cX4_readFault 16 = .ok (.getfield 22, 3) := by decide +kernel
theorem dX4_readFault_19 : decode cX4_readFault 19 = .ok (.if_icmp .ge 7, 3) := by decide +kernel
theorem dX4_readFault_22 : decode cX4_readFault 22 = .ok (.iconst 2, 1) := by decide +kernel
theorem dX4_readFault_23 : decode cX4_readFault 23 = .ok (.goto 4, 3) := by decide +kernel
theorem dX4_readFault_26 : decode cX4_readFault 26 = .ok (.iconst 0, 1) := by decide +kernel
theorem dX4_readFault_27 : decode cX4_readFault 27 = .ok (.ireturn, 1) := by decide +kernel
theorem dX4_numberFault_0 : decode cX4_numberFault 0 = .ok (.aload_n 0, 1) := by decide +kernel
theorem dX4_numberFault_1 : decode cX4_numberFault 1 = .ok (.getfield 25, 3) := by decide +kernel
theorem dX4_numberFault_4 : decode cX4_numberFault 4 = .ok (.ifCond .ge 7, 3) := by decide +kernel
theorem dX4_numberFault_7 : decode cX4_numberFault 7 = .ok (.iconst 1, 1) := by decide +kernel
theorem dX4_numberFault_8 : decode cX4_numberFault 8 = .ok (.goto 16, 3) := by decide +kernel
theorem dX4_numberFault_11 : decode cX4_numberFault 11 = .ok (.iload_n 1, 1) := by decide +kernel
theorem dX4_numberFault_12 : decode cX4_numberFault 12 = .ok (.aload_n 0, 1) := by decide +kernel
theorem dX4_numberFault_13 : decode cX4_numberFault 13 = .ok (.getfield 25, 3) := by decide +kernel
theorem dX4_numberFault_16 : decode cX4_numberFault 16 = .ok (.if_icmp .lt 7, 3) := by decide +kernel
theorem dX4_numberFault_19 : decode cX4_numberFault 19 = .ok (.iconst 2, 1) := by decide +kernel
theorem dX4_numberFault_20 : decode cX4_numberFault 20 = .ok (.goto 4, 3) := by decide +kernel
theorem dX4_numberFault_23 : decode cX4_numberFault 23 = .ok (.iconst 0, 1) := by decide +kernel
theorem dX4_numberFault_24 : decode cX4_numberFault 24 = .ok (.ireturn, 1) := by decide +kernel
theorem dX4_number_0 : decode cX4_number 0 = .ok (.iload_n 1, 1) := by decide +kernel
theorem dX4_number_1 : decode cX4_number 1 = .ok (.ifCond .ne 10, 3) := by decide +kernel
theorem dX4_number_4 : decode cX4_number 4 = .ok (.aload_n 0, 1) := by decide +kernel
theorem dX4_number_5 : decode cX4_number 5 = .ok (.getfield 28, 3) := by decide +kernel
theorem dX4_number_8 : decode cX4_number 8 = .ok (.goto 7, 3) := by decide +kernel
theorem dX4_number_11 : decode cX4_number 11 = .ok (.aload_n 0, 1) := by decide +kernel
theorem dX4_number_12 : decode cX4_number 12 = .ok (.getfield 31, 3) := by decide +kernel
theorem dX4_number_15 : decode cX4_number 15 = .ok (.ireturn, 1) := by decide +kernel
theorem dX4_most_0 : decode cX4_most 0 = .ok (.iload_n 1, 1) := by decide +kernel
theorem dX4_most_1 : decode cX4_most 1 = .ok (.ifCond .ne 10, 3) := by decide +kernel
theorem dX4_most_4 : decode cX4_most 4 = .ok (.aload_n 0, 1) := by decide +kernel
theorem dX4_most_5 : decode cX4_most 5 = .ok (.getfield 15, 3) := by decide +kernel
theorem dX4_most_8 : decode cX4_most 8 = .ok (.goto 7, 3) := by decide +kernel
theorem dX4_most_11 : decode cX4_most 11 = .ok (.aload_n 0, 1) := by decide +kernel
theorem dX4_most_12 : decode cX4_most 12 = .ok (.getfield 19, 3) := by decide +kernel
theorem dX4_most_15 : decode cX4_most 15 = .ok (.ireturn, 1) := by decide +kernel
theorem dX4_put_0 : decode cX4_put 0 = .ok (.iload_n 1, 1) := by decide +kernel
theorem dX4_put_1 : decode cX4_put 1 = .ok (.ifCond .ne 11, 3) := by decide +kernel
theorem dX4_put_4 : decode cX4_put 4 = .ok (.aload_n 0, 1) := by decide +kernel
theorem dX4_put_5 : decode cX4_put 5 = .ok (.iload_n 2, 1) := by decide +kernel
theorem dX4_put_6 : decode cX4_put 6 = .ok (.putfield 28, 3) := by decide +kernel
theorem dX4_put_9 : decode cX4_put 9 = .ok (.goto 8, 3) := by decide +kernel
theorem dX4_put_12 : decode cX4_put 12 = .ok (.aload_n 0, 1) := by decide +kernel
theorem dX4_put_13 : decode cX4_put 13 = .ok (.iload_n 2, 1) := by decide +kernel
theorem dX4_put_14 : decode cX4_put 14 = .ok (.putfield 31, 3) := by decide +kernel
theorem dX4_put_17 : decode cX4_put 17 = .ok (.return_, 1) := by decide +kernel
theorem dX4_value_0 : decode cX4_value 0 = .ok (.aload_n 0, 1) := by decide +kernel
theorem dX4_value_1 : decode cX4_value 1 = .ok (.getfield 28, 3) := by decide +kernel
theorem dX4_value_4 : decode cX4_value 4 = .ok (.iconst 5, 1) := by decide +kernel
theorem dX4_value_5 : decode cX4_value 5 = .ok (.aload_n 0, 1) := by decide +kernel
theorem dX4_value_6 : decode cX4_value 6 = .ok (.getfield 31, 3) := by decide +kernel
theorem dX4_value_9 : decode cX4_value 9 = .ok (.imul, 1) := by decide +kernel
theorem dX4_value_10 : decode cX4_value 10 = .ok (.iadd, 1) := by decide +kernel
theorem dX4_value_11 : decode cX4_value 11 = .ok (.ireturn, 1) := by decide +kernel
theorem dX4_writtenUpper_0 : decode cX4_writtenUpper 0 = .ok (.aload_n 0, 1) := by decide +kernel
theorem dX4_writtenUpper_1 : decode cX4_writtenUpper 1 = .ok (.getfield 9, 3) := by decide +kernel
theorem dX4_writtenUpper_4 : decode cX4_writtenUpper 4 = .ok (.ifCond .eq 7, 3) := by decide +kernel
theorem dX4_writtenUpper_7 : decode cX4_writtenUpper 7 = .ok (.iconst 0, 1) := by decide +kernel
theorem dX4_writtenUpper_8 : decode cX4_writtenUpper 8 = .ok (.goto 16, 3) := by decide +kernel
theorem dX4_writtenUpper_11 : decode cX4_writtenUpper 11 = .ok (.iload_n 1, 1) := by decide +kernel
theorem dX4_writtenUpper_12 : decode cX4_writtenUpper 12 = .ok (.bipush 10, 2) := by decide +kernel
theorem dX4_writtenUpper_14 : decode cX4_writtenUpper 14 = .ok (.if_icmp .ge 9, 3) := by decide +kernel
theorem dX4_writtenUpper_17 : decode cX4_writtenUpper 17 = .ok (.iload_n 1, 1) := by decide +kernel
theorem dX4_writtenUpper_18 : decode cX4_writtenUpper 18 = .ok (.iconst 5, 1) := by decide +kernel
theorem dX4_writtenUpper_19 : decode cX4_writtenUpper 19 = .ok (.idiv, 1) := by decide +kernel
theorem dX4_writtenUpper_20 : decode cX4_writtenUpper 20 = .ok (.goto 4, 3) := by decide +kernel
theorem dX4_writtenUpper_23 : decode cX4_writtenUpper 23 = .ok (.iconst 2, 1) := by decide +kernel
theorem dX4_writtenUpper_24 : decode cX4_writtenUpper 24 = .ok (.ireturn, 1) := by decide +kernel
theorem dX4_write_0 : decode cX4_write 0 = .ok (.aload_n 0, 1) := by decide +kernel
theorem dX4_write_1 : decode cX4_write 1 = .ok (.aload_n 0, 1) := by decide +kernel
theorem dX4_write_2 : decode cX4_write 2 = .ok (.iload_n 1, 1) := by decide +kernel
theorem dX4_write_3 : decode cX4_write 3 = .ok (.invokevirtual 34, 3) := by decide +kernel
theorem dX4_write_6 : decode cX4_write 6 = .ok (.putfield 31, 3) := by decide +kernel
theorem dX4_write_9 : decode cX4_write 9 = .ok (.aload_n 0, 1) := by decide +kernel
theorem dX4_write_10 : decode cX4_write 10 = .ok (.iload_n 1, 1) := by decide +kernel
theorem dX4_write_11 : decode cX4_write 11 = .ok (.iconst 5, 1) := by decide +kernel
theorem dX4_write_12 : decode cX4_write 12 = .ok (.aload_n 0, 1) := by decide +kernel
theorem dX4_write_13 : decode cX4_write 13 = .ok (.getfield 31, 3) := by decide +kernel
theorem dX4_write_16 : decode cX4_write 16 = .ok (.imul, 1) := by decide +kernel
theorem dX4_write_17 : decode cX4_write 17 = .ok (.isub, 1) := by decide +kernel
theorem dX4_write_18 : decode cX4_write 18 = .ok (.putfield 28, 3) := by decide +kernel
theorem dX4_write_21 : decode cX4_write 21 = .ok (.return_, 1) := by decide +kernel
theorem dX4_isProper_0 : decode cX4_isProper 0 = .ok (.aload_n 0, 1) := by decide +kernel
theorem dX4_isProper_1 : decode cX4_isProper 1 = .ok (.invokevirtual 38, 3) := by decide +kernel
theorem dX4_isProper_4 : decode cX4_isProper 4 = .ok (.istore_n 2, 1) := by decide +kernel
theorem dX4_isProper_5 : decode cX4_isProper 5 = .ok (.iload_n 2, 1) := by decide +kernel
theorem dX4_isProper_6 : decode cX4_isProper 6 = .ok (.iload_n 1, 1) := by decide +kernel
theorem dX4_isProper_7 : decode cX4_isProper 7 = .ok (.if_icmp .ge 19, 3) := by decide +kernel
theorem dX4_isProper_10 : decode cX4_isProper 10 = .ok (.aload_n 0, 1) := by decide +kernel
theorem dX4_isProper_11 : decode cX4_isProper 11 = .ok (.getfield 31, 3) := by decide +kernel
theorem dX4_isProper_14 : decode cX4_isProper 14 = .ok (.aload_n 0, 1) := by decide +kernel
theorem dX4_isProper_15 : decode cX4_isProper 15 = .ok (.iload_n 2, 1) := by decide +kernel
theorem dX4_isProper_16 : decode cX4_isProper 16 = .ok (.invokevirtual 34, 3) := by decide +kernel
theorem dX4_isProper_19 : decode cX4_isProper 19 = .ok (.if_icmp .ne 7, 3) := by decide +kernel
theorem dX4_isProper_22 : decode cX4_isProper 22 = .ok (.iconst 1, 1) := by decide +kernel
theorem dX4_isProper_23 : decode cX4_isProper 23 = .ok (.goto 4, 3) := by decide +kernel
theorem dX4_isProper_26 : decode cX4_isProper 26 = .ok (.iconst 0, 1) := by decide +kernel
theorem dX4_isProper_27 : decode cX4_isProper 27 = .ok (.ireturn, 1) := by decide +kernel
theorem dX4_digestOn_0 : decode cX4_digestOn 0 = .ok (.ldc2_w 42, 3) := by decide +kernel
theorem dX4_digestOn_3 : decode cX4_digestOn 3 = .ok (.lload_n 1, 1) := by decide +kernel
theorem dX4_digestOn_4 : decode cX4_digestOn 4 = .ok (.lmul, 1) := by decide +kernel
theorem dX4_digestOn_5 : decode cX4_digestOn 5 = .ok (.aload_n 0, 1) := by decide +kernel
theorem dX4_digestOn_6 : decode cX4_digestOn 6 = .ok (.getfield 25, 3) := by decide +kernel
theorem dX4_digestOn_9 : decode cX4_digestOn 9 = .ok (.ifCond .ge 7, 3) := by decide +kernel
theorem dX4_digestOn_12 : decode cX4_digestOn 12 = .ok (.iconst 0, 1) := by decide +kernel
theorem dX4_digestOn_13 : decode cX4_digestOn 13 = .ok (.goto 9, 3) := by decide +kernel
theorem dX4_digestOn_16 : decode cX4_digestOn 16 = .ok (.iconst 1, 1) := by decide +kernel
theorem dX4_digestOn_17 : decode cX4_digestOn 17 = .ok (.aload_n 0, 1) := by decide +kernel
theorem dX4_digestOn_18 : decode cX4_digestOn 18 = .ok (.getfield 25, 3) := by decide +kernel
theorem dX4_digestOn_21 : decode cX4_digestOn 21 = .ok (.iadd, 1) := by decide +kernel
theorem dX4_digestOn_22 : decode cX4_digestOn 22 = .ok (.i2l, 1) := by decide +kernel
theorem dX4_digestOn_23 : decode cX4_digestOn 23 = .ok (.ladd, 1) := by decide +kernel
theorem dX4_digestOn_24 : decode cX4_digestOn 24 = .ok (.lstore_n 3, 1) := by decide +kernel
theorem dX4_digestOn_25 : decode cX4_digestOn 25 = .ok (.aload_n 0, 1) := by decide +kernel
theorem dX4_digestOn_26 : decode cX4_digestOn 26 = .ok (.getfield 25, 3) := by decide +kernel
theorem dX4_digestOn_29 : decode cX4_digestOn 29 = .ok (.ifCond .le 15, 3) := by decide +kernel
theorem dX4_digestOn_32 : decode cX4_digestOn 32 = .ok (.ldc2_w 42, 3) := by decide +kernel
theorem dX4_digestOn_35 : decode cX4_digestOn 35 = .ok (.lload_n 3, 1) := by decide +kernel
theorem dX4_digestOn_36 : decode cX4_digestOn 36 = .ok (.lmul, 1) := by decide +kernel
theorem dX4_digestOn_37 : decode cX4_digestOn 37 = .ok (.aload_n 0, 1) := by decide +kernel
theorem dX4_digestOn_38 : decode cX4_digestOn 38 = .ok (.getfield 28, 3) := by decide +kernel
theorem dX4_digestOn_41 : decode cX4_digestOn 41 = .ok (.i2l, 1) := by decide +kernel
theorem dX4_digestOn_42 : decode cX4_digestOn 42 = .ok (.ladd, 1) := by decide +kernel
theorem dX4_digestOn_43 : decode cX4_digestOn 43 = .ok (.lstore_n 3, 1) := by decide +kernel
theorem dX4_digestOn_44 : decode cX4_digestOn 44 = .ok (.aload_n 0, 1) := by decide +kernel
theorem dX4_digestOn_45 : decode cX4_digestOn 45 = .ok (.getfield 25, 3) := by decide +kernel
theorem dX4_digestOn_48 : decode cX4_digestOn 48 = .ok (.iconst 1, 1) := by decide +kernel
theorem dX4_digestOn_49 : decode cX4_digestOn 49 = .ok (.if_icmp .le 17, 3) := by decide +kernel
theorem dX4_digestOn_52 : decode cX4_digestOn 52 = .ok (.ldc2_w 42, 3) := by decide +kernel
theorem dX4_digestOn_55 : decode cX4_digestOn 55 = .ok (.lload_n 3, 1) := by decide +kernel
theorem dX4_digestOn_56 : decode cX4_digestOn 56 = .ok (.lmul, 1) := by decide +kernel
theorem dX4_digestOn_57 : decode cX4_digestOn 57 = .ok (.aload_n 0, 1) := by decide +kernel
theorem dX4_digestOn_58 : decode cX4_digestOn 58 = .ok (.getfield 31, 3) := by decide +kernel
theorem dX4_digestOn_61 : decode cX4_digestOn 61 = .ok (.i2l, 1) := by decide +kernel
theorem dX4_digestOn_62 : decode cX4_digestOn 62 = .ok (.ladd, 1) := by decide +kernel
theorem dX4_digestOn_63 : decode cX4_digestOn 63 = .ok (.goto 4, 3) := by decide +kernel
theorem dX4_digestOn_66 : decode cX4_digestOn 66 = .ok (.lload_n 3, 1) := by decide +kernel
theorem dX4_digestOn_67 : decode cX4_digestOn 67 = .ok (.lreturn, 1) := by decide +kernel
theorem dX5_init_0 : decode cX5_init 0 = .ok (.aload_n 0, 1) := by decide +kernel
theorem dX5_init_1 : decode cX5_init 1 = .ok (.invokespecial 3, 3) := by decide +kernel
theorem dX5_init_4 : decode cX5_init 4 = .ok (.aload_n 0, 1) := by decide +kernel
theorem dX5_init_5 : decode cX5_init 5 = .ok (.bipush 30, 2) := by decide +kernel
theorem dX5_init_7 : decode cX5_init 7 = .ok (.anewarray 11, 3) := by decide +kernel
theorem dX5_init_10 : decode cX5_init 10 = .ok (.putfield 13, 3) := by decide +kernel
theorem dX5_init_13 : decode cX5_init 13 = .ok (.aload_n 0, 1) := by decide +kernel
theorem dX5_init_14 : decode cX5_init 14 = .ok (.sipush 200, 3) := by decide +kernel
theorem dX5_init_17 : decode cX5_init 17 = .ok (.anewarray 17, 3) := by decide +kernel
theorem dX5_init_20 : decode cX5_init 20 = .ok (.putfield 19, 3) := by decide +kernel
theorem dX5_init_23 : decode cX5_init 23 = .ok (.aload_n 0, 1) := by decide +kernel
theorem dX5_init_24 : decode cX5_init 24 = .ok (.new 23, 3) := by decide +kernel
theorem dX5_init_27 : decode cX5_init 27 = .ok (.dup, 1) := by decide +kernel
theorem dX5_init_28 : decode cX5_init 28 = .ok (.invokespecial 25, 3) := by decide +kernel
theorem dX5_init_31 : decode cX5_init 31 = .ok (.putfield 26, 3) := by decide +kernel
theorem dX5_init_34 : decode cX5_init 34 = .ok (.aload_n 0, 1) := by decide +kernel
theorem dX5_init_35 : decode cX5_init 35 = .ok (.bipush 64, 2) := by decide +kernel
theorem dX5_init_37 : decode cX5_init 37 = .ok (.newarray .int, 2) := by decide +kernel
theorem dX5_init_39 : decode cX5_init 39 = .ok (.putfield 30, 3) := by decide +kernel
theorem dX5_init_42 : decode cX5_init 42 = .ok (.return_, 1) := by decide +kernel
theorem dX5_frame_0 : decode cX5_frame 0 = .ok (.iload_n 1, 1) := by decide +kernel
theorem dX5_frame_1 : decode cX5_frame 1 = .ok (.ifCond .lt 19, 3) := by decide +kernel
theorem dX5_frame_4 : decode cX5_frame 4 = .ok (.iload_n 1, 1) := by decide +kernel
theorem dX5_frame_5 : decode cX5_frame 5 = .ok (.iconst 3, 1) := by decide +kernel
theorem dX5_frame_6 : decode cX5_frame 6 = .ok (.if_icmp .gt 14, 3) := by decide +kernel
theorem dX5_frame_9 : decode cX5_frame 9 = .ok (.iload_n 2, 1) := by decide +kernel
theorem dX5_frame_10 : decode cX5_frame 10 = .ok (.iload_n 1, 1) := by decide +kernel
theorem dX5_frame_11 : decode cX5_frame 11 = .ok (.invokestatic 34, 3) := by decide +kernel
theorem dX5_frame_14 : decode cX5_frame 14 = .ok (.invokestatic 38, 3) := by decide +kernel
theorem dX5_frame_17 : decode cX5_frame 17 = .ok (.if_icmp .le 6, 3) := by decide +kernel
theorem dX5_frame_20 : decode cX5_frame 20 = .ok (.bipush (-2), 2) := by decide +kernel
theorem dX5_frame_22 : decode cX5_frame 22 = .ok (.ireturn, 1) := by decide +kernel
theorem dX5_frame_23 : decode cX5_frame 23 = .ok (.aload_n 0, 1) := by decide +kernel
theorem dX5_frame_24 : decode cX5_frame 24 = .ok (.getfield 41, 3) := by decide +kernel
theorem dX5_frame_27 : decode cX5_frame 27 = .ok (.bipush 30, 2) := by decide +kernel
theorem dX5_frame_29 : decode cX5_frame 29 = .ok (.if_icmp .lt 6, 3) := by decide +kernel
theorem dX5_frame_32 : decode cX5_frame 32 = .ok (.bipush (-4), 2) := by decide +kernel
theorem dX5_frame_34 : decode cX5_frame 34 = .ok (.ireturn, 1) := by decide +kernel
theorem dX5_frame_35 : decode cX5_frame 35 = .ok (.iload_n 2, 1) := by decide +kernel
theorem dX5_frame_36 : decode cX5_frame 36 = .ok (.ifCond .ge 9, 3) := by decide +kernel
theorem dX5_frame_39 : decode cX5_frame 39 = .ok (.aload_n 0, 1) := by decide +kernel
theorem dX5_frame_40 : decode cX5_frame 40 = .ok (.iconst 4, 1) := by decide +kernel
theorem dX5_frame_41 : decode cX5_frame 41 = .ok (.invokevirtual 45, 3) := by decide +kernel
theorem dX5_frame_44 : decode cX5_frame 44 = .ok (.ireturn, 1) := by decide +kernel
theorem dX5_frame_45 : decode cX5_frame 45 = .ok (.aload_n 0, 1) := by decide +kernel
theorem dX5_frame_46 : decode cX5_frame 46 = .ok (.getfield 13, 3) := by decide +kernel
theorem dX5_frame_49 : decode cX5_frame 49 = .ok (.aload_n 0, 1) := by decide +kernel
theorem dX5_frame_50 : decode cX5_frame 50 = .ok (.getfield 41, 3) := by decide +kernel
theorem dX5_frame_53 : decode cX5_frame 53 = .ok (.new 11, 3) := by decide +kernel
theorem dX5_frame_56 : decode cX5_frame 56 = .ok (.dup, 1) := by decide +kernel
theorem dX5_frame_57 : decode cX5_frame 57 = .ok (.aload_n 0, 1) := by decide +kernel
theorem dX5_frame_58 : decode cX5_frame 58 = .ok (.getfield 41, 3) := by decide +kernel
theorem dX5_frame_61 : decode cX5_frame 61 = .ok (.iload_n 1, 1) := by decide +kernel
theorem dX5_frame_62 : decode cX5_frame 62 = .ok (.iload_n 2, 1) := by decide +kernel
theorem dX5_frame_63 : decode cX5_frame 63 = .ok (.invokespecial 48, 3) := by decide +kernel
theorem dX5_frame_66 : decode cX5_frame 66 = .ok (.aastore, 1) := by decide +kernel
theorem dX5_frame_67 : decode cX5_frame 67 = .ok (.aload_n 0, 1) := by decide +kernel
theorem dX5_frame_68 : decode cX5_frame 68 = .ok (.dup, 1) := by decide +kernel
theorem dX5_frame_69 : decode cX5_frame 69 = .ok (.getfield 41, 3) := by decide +kernel
theorem dX5_frame_72 : decode cX5_frame 72 = .ok (.iconst 1, 1) := by decide +kernel
theorem dX5_frame_73 : decode cX5_frame 73 = .ok (.iadd, 1) := by decide +kernel
theorem dX5_frame_74 : decode cX5_frame 74 = .ok (.putfield 41, 3) := by decide +kernel
theorem dX5_frame_77 : decode cX5_frame 77 = .ok (.aload_n 0, 1) := by decide +kernel
theorem dX5_frame_78 : decode cX5_frame 78 = .ok (.getfield 41, 3) := by decide +kernel
theorem dX5_frame_81 : decode cX5_frame 81 = .ok (.iconst 1, 1) := by decide +kernel
theorem dX5_frame_82 : decode cX5_frame 82 = .ok (.isub, 1) := by decide +kernel
theorem dX5_frame_83 : decode cX5_frame 83 = .ok (.ireturn, 1) := by decide +kernel
theorem dX5_both_0 : decode cX5_both 0 = .ok (.aload_n 0, 1) := by decide +kernel
theorem dX5_both_1 : decode cX5_both 1 = .ok (.iload_n 1, 1) := by decide +kernel
theorem dX5_both_2 : decode cX5_both 2 = .ok (.invokevirtual 51, 3) := by decide +kernel
theorem dX5_both_5 : decode cX5_both 5 = .ok (.astore_n 3, 1) := by decide +kernel
theorem dX5_both_6 : decode cX5_both 6 = .ok (.aload_n 0, 1) := by decide +kernel
theorem dX5_both_7 : decode cX5_both 7 = .ok (.iload_n 2, 1) := by decide +kernel
theorem dX5_both_8 : decode cX5_both 8 = .ok (.invokevirtual 51, 3) := by decide +kernel
theorem dX5_both_11 : decode cX5_both 11 = .ok (.astore 4, 2) := by decide +kernel
theorem dX5_both_13 : decode cX5_both 13 = .ok (.aload_n 3, 1) := by decide +kernel
theorem dX5_both_14 : decode cX5_both 14 = .ok (.ifnull 8, 3) := by decide +kernel
theorem dX5_both_17 : decode cX5_both 17 = .ok (.aload 4, 2) := by decide +kernel
theorem dX5_both_19 : decode cX5_both 19 = .ok (.ifnonnull 5, 3) := by decide +kernel
theorem dX5_both_22 : decode cX5_both 22 = .ok (.iconst (-1), 1) := by decide +kernel
theorem dX5_both_23 : decode cX5_both 23 = .ok (.ireturn, 1) := by decide +kernel
theorem dX5_both_24 : decode cX5_both 24 = .ok (.aload_n 3, 1) := by decide +kernel
theorem dX5_both_25 : decode cX5_both 25 = .ok (.getfield 55, 3) := by decide +kernel
theorem dX5_both_28 : decode cX5_both 28 = .ok (.aload 4, 2) := by decide +kernel
theorem dX5_both_30 : decode cX5_both 30 = .ok (.getfield 55, 3) := by decide +kernel
theorem dX5_both_33 : decode cX5_both 33 = .ok (.if_icmp .ne 54, 3) := by decide +kernel
theorem dX5_both_36 : decode cX5_both 36 = .ok (.aload_n 3, 1) := by decide +kernel
theorem dX5_both_37 : decode cX5_both 37 = .ok (.getfield 58, 3) := by decide +kernel
theorem dX5_both_40 : decode cX5_both 40 = .ok (.aload 4, 2) := by decide +kernel
theorem dX5_both_42 : decode cX5_both 42 = .ok (.getfield 58, 3) := by decide +kernel
theorem dX5_both_45 : decode cX5_both 45 = .ok (.iand, 1) := by decide +kernel
theorem dX5_both_46 : decode cX5_both 46 = .ok (.ifCond .ne 41, 3) := by decide +kernel
theorem dX5_both_49 : decode cX5_both 49 = .ok (.aload_n 3, 1) := by decide +kernel
theorem dX5_both_50 : decode cX5_both 50 = .ok (.getfield 61, 3) := by decide +kernel
theorem dX5_both_53 : decode cX5_both 53 = .ok (.arraylength, 1) := by decide +kernel
theorem dX5_both_54 : decode cX5_both 54 = .ok (.aload 4, 2) := by decide +kernel
theorem dX5_both_56 : decode cX5_both 56 = .ok (.getfield 61, 3) := by decide +kernel
theorem dX5_both_59 : decode cX5_both 59 = .ok (.arraylength, 1) := by decide +kernel
theorem dX5_both_60 : decode cX5_both 60 = .ok (.iadd, 1) := by decide +kernel
theorem dX5_both_61 : decode cX5_both 61 = .ok (.aload_n 3, 1) := by decide +kernel
theorem dX5_both_62 : decode cX5_both 62 = .ok (.getfield 55, 3) := by decide +kernel
theorem dX5_both_65 : decode cX5_both 65 = .ok (.invokestatic 38, 3) := by decide +kernel
theorem dX5_both_68 : decode cX5_both 68 = .ok (.if_icmp .gt 19, 3) := by decide +kernel
theorem dX5_both_71 : decode cX5_both 71 = .ok (.aload_n 3, 1) := by decide +kernel
theorem dX5_both_72 : decode cX5_both 72 = .ok (.getfield 65, 3) := by decide +kernel
theorem dX5_both_75 : decode cX5_both 75 = .ok (.aload 4, 2) := by decide +kernel
theorem dX5_both_77 : decode cX5_both 77 = .ok (.getfield 65, 3) := by decide +kernel
theorem dX5_both_80 : decode cX5_both 80 = .ok (.invokestatic 68, 3) := by decide +kernel
theorem dX5_both_83 : decode cX5_both 83 = .ok (.iconst 5, 1) := by decide +kernel
theorem dX5_both_84 : decode cX5_both 84 = .ok (.if_icmp .lt 6, 3) := by decide +kernel
theorem dX5_both_87 : decode cX5_both 87 = .ok (.bipush (-3), 2) := by decide +kernel
theorem dX5_both_89 : decode cX5_both 89 = .ok (.ireturn, 1) := by decide +kernel
theorem dX5_both_90 : decode cX5_both 90 = .ok (.aload_n 0, 1) := by decide +kernel
theorem dX5_both_91 : decode cX5_both 91 = .ok (.getfield 41, 3) := by decide +kernel
theorem dX5_both_94 : decode cX5_both 94 = .ok (.bipush 30, 2) := by decide +kernel
theorem dX5_both_96 : decode cX5_both 96 = .ok (.if_icmp .lt 6, 3) := by decide +kernel
theorem dX5_both_99 : decode cX5_both 99 = .ok (.bipush (-4), 2) := by decide +kernel
theorem dX5_both_101 : decode cX5_both 101 = .ok (.ireturn, 1) := by decide +kernel
theorem dX5_both_102 : decode cX5_both 102 = .ok (.aload_n 0, 1) := by decide +kernel
theorem dX5_both_103 : decode cX5_both 103 = .ok (.getfield 13, 3) := by decide +kernel
theorem dX5_both_106 : decode cX5_both 106 = .ok (.aload_n 0, 1) := by decide +kernel
theorem dX5_both_107 : decode cX5_both 107 = .ok (.getfield 41, 3) := by decide +kernel
theorem dX5_both_110 : decode cX5_both 110 = .ok (.new 11, 3) := by decide +kernel
theorem dX5_both_113 : decode cX5_both 113 = .ok (.dup, 1) := by decide +kernel
theorem dX5_both_114 : decode cX5_both 114 = .ok (.aload_n 0, 1) := by decide +kernel
theorem dX5_both_115 : decode cX5_both 115 = .ok (.getfield 41, 3) := by decide +kernel
theorem dX5_both_118 : decode cX5_both 118 = .ok (.aload_n 3, 1) := by decide +kernel
theorem dX5_both_119 : decode cX5_both 119 = .ok (.aload 4, 2) := by decide +kernel
theorem dX5_both_121 : decode cX5_both 121 = .ok (.invokespecial 74, 3) := by decide +kernel
theorem dX5_both_124 : decode cX5_both 124 = .ok (.aastore, 1) := by decide +kernel
theorem dX5_both_125 : decode cX5_both 125 = .ok (.aload_n 0, 1) := by decide +kernel
theorem dX5_both_126 : decode cX5_both 126 = .ok (.dup, 1) := by decide +kernel
theorem dX5_both_127 : decode cX5_both 127 = .ok (.getfield 41, 3) := by decide +kernel
theorem dX5_both_130 : decode cX5_both 130 = .ok (.iconst 1, 1) := by decide +kernel
theorem dX5_both_131 : decode cX5_both 131 = .ok (.iadd, 1) := by decide +kernel
theorem dX5_both_132 : decode cX5_both 132 = .ok (.putfield 41, 3) := by decide +kernel
theorem dX5_both_135 : decode cX5_both 135 = .ok (.aload_n 0, 1) := by decide +kernel
theorem dX5_both_136 : decode cX5_both 136 = .ok (.getfield 41, 3) := by decide +kernel
theorem dX5_both_139 : decode cX5_both 139 = .ok (.iconst 1, 1) := by decide +kernel
theorem dX5_both_140 : decode cX5_both 140 = .ok (.isub, 1) := by decide +kernel
theorem dX5_both_141 : decode cX5_both 141 = .ok (.ireturn, 1) := by decide +kernel
theorem dX5_rod_0 : decode cX5_rod 0 = .ok (.aload_n 0, 1) := by decide +kernel
theorem dX5_rod_1 : decode cX5_rod 1 = .ok (.iload_n 1, 1) := by decide +kernel
theorem dX5_rod_2 : decode cX5_rod 2 = .ok (.invokevirtual 51, 3) := by decide +kernel
theorem dX5_rod_5 : decode cX5_rod 5 = .ok (.astore 4, 2) := by decide +kernel
theorem dX5_rod_7 : decode cX5_rod 7 = .ok (.aload 4, 2) := by decide +kernel
theorem dX5_rod_9 : decode cX5_rod 9 = .ok (.ifnonnull 5, 3) := by decide +kernel
theorem dX5_rod_12 : decode cX5_rod 12 = .ok (.iconst (-1), 1) := by decide +kernel
theorem dX5_rod_13 : decode cX5_rod 13 = .ok (.ireturn, 1) := by decide +kernel
theorem dX5_rod_14 : decode cX5_rod 14 = .ok (.iload_n 3, 1) := by decide +kernel
theorem dX5_rod_15 : decode cX5_rod 15 = .ok (.iconst (-1), 1) := by decide +kernel
theorem dX5_rod_16 : decode cX5_rod 16 = .ok (.if_icmp .lt 21, 3) := by decide +kernel
theorem dX5_rod_19 : decode cX5_rod 19 = .ok (.iload_n 3, 1) := by decide +kernel
theorem dX5_rod_20 : decode cX5_rod 20 = .ok (.aload 4, 2) := by decide +kernel
theorem dX5_rod_22 : decode cX5_rod 22 = .ok (.getfield 77, 3) := by decide +kernel
theorem dX5_rod_25 : decode cX5_rod 25 = .ok (.iconst 2, 1) := by decide +kernel
theorem dX5_rod_26 : decode cX5_rod 26 = .ok (.if_icmp .ne 7, 3) := by decide +kernel
theorem dX5_rod_29 : decode cX5_rod 29 = .ok (.iconst 1, 1) := by decide +kernel
theorem dX5_rod_30 : decode cX5_rod 30 = .ok (.goto 4, 3) := by decide +kernel
theorem dX5_rod_33 : decode cX5_rod 33 = .ok (.iconst 2, 1) := by decide +kernel
theorem dX5_rod_34 : decode cX5_rod 34 = .ok (.if_icmp .le 6, 3) := by decide +kernel
theorem dX5_rod_37 : decode cX5_rod 37 = .ok (.bipush (-2), 2) := by decide +kernel
theorem dX5_rod_39 : decode cX5_rod 39 = .ok (.ireturn, 1) := by decide +kernel
theorem dX5_rod_40 : decode cX5_rod 40 = .ok (.aload 4, 2) := by decide +kernel
theorem dX5_rod_42 : decode cX5_rod 42 = .ok (.getfield 77, 3) := by decide +kernel
theorem dX5_rod_45 : decode cX5_rod 45 = .ok (.iconst 4, 1) := by decide +kernel
theorem dX5_rod_46 : decode cX5_rod 46 = .ok (.if_icmp .ne 9, 3) := by decide +kernel
theorem dX5_rod_49 : decode cX5_rod 49 = .ok (.aload_n 0, 1) := by decide +kernel
theorem dX5_rod_50 : decode cX5_rod 50 = .ok (.iconst 3, 1) := by decide +kernel
theorem dX5_rod_51 : decode cX5_rod 51 = .ok (.invokevirtual 45, 3) := by decide +kernel
theorem dX5_rod_54 : decode cX5_rod 54 = .ok (.ireturn, 1) := by decide +kernel
theorem dX5_rod_55 : decode cX5_rod 55 = .ok (.aload 4, 2) := by decide +kernel
theorem dX5_rod_57 : decode cX5_rod 57 = .ok (.iload_n 2, 1) := by decide +kernel
theorem dX5_rod_58 : decode cX5_rod 58 = .ok (.invokevirtual 80, 3) := by decide +kernel
theorem dX5_rod_61 : decode cX5_rod 61 = .ok (.ifCond .ne 9, 3) := by decide +kernel
theorem dX5_rod_64 : decode cX5_rod 64 = .ok (.aload_n 0, 1) := by decide +kernel
theorem dX5_rod_65 : decode cX5_rod 65 = .ok (.iconst 2, 1) := by decide +kernel
theorem dX5_rod_66 : decode cX5_rod 66 = .ok (.invokevirtual 45, 3) := by decide +kernel
theorem dX5_rod_69 : decode cX5_rod 69 = .ok (.ireturn, 1) := by decide +kernel
theorem dX5_rod_70 : decode cX5_rod 70 = .ok (.aload 4, 2) := by decide +kernel
theorem dX5_rod_72 : decode cX5_rod 72 = .ok (.getfield 61, 3) := by decide +kernel
theorem dX5_rod_75 : decode cX5_rod 75 = .ok (.iload_n 2, 1) := by decide +kernel
theorem dX5_rod_76 : decode cX5_rod 76 = .ok (.aaload, 1) := by decide +kernel
theorem dX5_rod_77 : decode cX5_rod 77 = .ok (.iload_n 3, 1) := by decide +kernel
theorem dX5_rod_78 : decode cX5_rod 78 = .ok (.invokevirtual 84, 3) := by decide +kernel
theorem dX5_rod_81 : decode cX5_rod 81 = .ok (.aload_n 0, 1) := by decide +kernel
theorem dX5_rod_82 : decode cX5_rod 82 = .ok (.getfield 26, 3) := by decide +kernel
theorem dX5_rod_85 : decode cX5_rod 85 = .ok (.iconst 1, 1) := by decide +kernel
theorem dX5_rod_86 : decode cX5_rod 86 = .ok (.putfield 90, 3) := by decide +kernel
theorem dX5_rod_89 : decode cX5_rod 89 = .ok (.iconst 1, 1) := by decide +kernel
theorem dX5_rod_90 : decode cX5_rod 90 = .ok (.ireturn, 1) := by decide +kernel
theorem dX5_push_0 : decode cX5_push 0 = .ok (.aload_n 0, 1) := by decide +kernel
theorem dX5_push_1 : decode cX5_push 1 = .ok (.iload_n 1, 1) := by decide +kernel
theorem dX5_push_2 : decode cX5_push 2 = .ok (.invokevirtual 51, 3) := by decide +kernel
theorem dX5_push_5 : decode cX5_push 5 = .ok (.astore 5, 2) := by decide +kernel
theorem dX5_push_7 : decode cX5_push 7 = .ok (.aload 5, 2) := by decide +kernel
theorem dX5_push_9 : decode cX5_push 9 = .ok (.ifnonnull 5, 3) := by decide +kernel
theorem dX5_push_12 : decode cX5_push 12 = .ok (.iconst (-1), 1) := by decide +kernel
theorem dX5_push_13 : decode cX5_push 13 = .ok (.ireturn, 1) := by decide +kernel
theorem dX5_push_14 : decode cX5_push 14 = .ok (.iload_n 3, 1) := by decide +kernel
theorem dX5_push_15 : decode cX5_push 15 = .ok (.ifCond .lt 8, 3) := by decide +kernel
theorem dX5_push_18 : decode cX5_push 18 = .ok (.iload_n 3, 1) := by decide +kernel
theorem dX5_push_19 : decode cX5_push 19 = .ok (.iconst 1, 1) := by decide +kernel
theorem dX5_push_20 : decode cX5_push 20 = .ok (.if_icmp .le 6, 3) := by decide +kernel
theorem dX5_push_23 : decode cX5_push 23 = .ok (.bipush (-2), 2) := by decide +kernel
theorem dX5_push_25 : decode cX5_push 25 = .ok (.ireturn, 1) := by decide +kernel
theorem dX5_push_26 : decode cX5_push 26 = .ok (.aload 5, 2) := by decide +kernel
theorem dX5_push_28 : decode cX5_push 28 = .ok (.iload_n 2, 1) := by decide +kernel
theorem dX5_push_29 : decode cX5_push 29 = .ok (.iload_n 3, 1) := by decide +kernel
theorem dX5_push_30 : decode cX5_push 30 = .ok (.invokevirtual 94, 3) := by decide +kernel
theorem dX5_push_33 : decode cX5_push 33 = .ok (.istore 6, 2) := by decide +kernel
theorem dX5_push_35 : decode cX5_push 35 = .ok (.iload 6, 2) := by decide +kernel
theorem dX5_push_37 : decode cX5_push 37 = .ok (.ifCond .eq 10, 3) := by decide +kernel
theorem dX5_push_40 : decode cX5_push 40 = .ok (.aload_n 0, 1) := by decide +kernel
theorem dX5_push_41 : decode cX5_push 41 = .ok (.iload 6, 2) := by decide +kernel
theorem dX5_push_43 : decode cX5_push 43 = .ok (.invokevirtual 45, 3) := by decide +kernel
theorem dX5_push_46 : decode cX5_push 46 = .ok (.ireturn, 1) := by decide +kernel
theorem dX5_push_47 : decode cX5_push 47 = .ok (.aload 5, 2) := by decide +kernel
theorem dX5_push_49 : decode cX5_push 49 = .ok (.getfield 61, 3) := by decide +kernel
theorem dX5_push_52 : decode cX5_push 52 = .ok (.iload_n 2, 1) := by decide +kernel
theorem dX5_push_53 : decode cX5_push 53 = .ok (.aaload, 1) := by decide +kernel
theorem dX5_push_54 : decode cX5_push 54 = .ok (.astore 7, 2) := by decide +kernel
theorem dX5_push_56 : decode cX5_push 56 = .ok (.aload 7, 2) := by decide +kernel
theorem dX5_push_58 : decode cX5_push 58 = .ok (.iload_n 3, 1) := by decide +kernel
theorem dX5_push_59 : decode cX5_push 59 = .ok (.invokevirtual 97, 3) := by decide +kernel
theorem dX5_push_62 : decode cX5_push 62 = .ok (.i2l, 1) := by decide +kernel
theorem dX5_push_63 : decode cX5_push 63 = .ok (.iload 4, 2) := by decide +kernel
theorem dX5_push_65 : decode cX5_push 65 = .ok (.i2l, 1) := by decide +kernel
theorem dX5_push_66 : decode cX5_push 66 = .ok (.ladd, 1) := by decide +kernel
theorem dX5_push_67 : decode cX5_push 67 = .ok (.lstore 8, 2) := by decide +kernel
theorem dX5_push_69 : decode cX5_push 69 = .ok (.lload 8, 2) := by decide +kernel
theorem dX5_push_71 : decode cX5_push 71 = .ok (.lconst 0, 1) := by decide +kernel
theorem dX5_push_72 : decode cX5_push 72 = .ok (.lcmp, 1) := by decide +kernel
theorem dX5_push_73 : decode cX5_push 73 = .ok (.ifCond .lt 16, 3) := by decide +kernel
theorem dX5_push_76 : decode cX5_push 76 = .ok (.lload 8, 2) := by decide +kernel
theorem dX5_push_78 : decode cX5_push 78 = .ok (.aload 7, 2) := by decide +kernel
theorem dX5_push_80 : decode cX5_push 80 = .ok (.iload_n 3, 1) := by decide +kernel
theorem dX5_push_81 : decode cX5_push 81 = .ok (.invokevirtual 100, 3) := by decide +kernel
theorem dX5_push_84 : decode cX5_push 84 = .ok (.i2l, 1) := by decide +kernel
theorem dX5_push_85 : decode cX5_push 85 = .ok (.lcmp, 1) := by decide +kernel
theorem dX5_push_86 : decode cX5_push 86 = .ok (.ifCond .le 6, 3) := by decide +kernel
theorem dX5_push_89 : decode cX5_push 89 = .ok (.bipush (-3), 2) := by decide +kernel
theorem dX5_push_91 : decode cX5_push 91 = .ok (.ireturn, 1) := by decide +kernel
theorem dX5_push_92 : decode cX5_push 92 = .ok (.aload 7, 2) := by decide +kernel
theorem dX5_push_94 : decode cX5_push 94 = .ok (.iload_n 3, 1) := by decide +kernel
theorem dX5_push_95 : decode cX5_push 95 = .ok (.lload 8, 2) := by decide +kernel
theorem dX5_push_97 : decode cX5_push 97 = .ok (.l2i, 1) := by decide +kernel
theorem dX5_push_98 : decode cX5_push 98 = .ok (.invokevirtual 103, 3) := by decide +kernel
theorem dX5_push_101 : decode cX5_push 101 = .ok (.aload_n 0, 1) := by decide +kernel
theorem dX5_push_102 : decode cX5_push 102 = .ok (.getfield 26, 3) := by decide +kernel
theorem dX5_push_105 : decode cX5_push 105 = .ok (.iconst 1, 1) := by decide +kernel
theorem dX5_push_106 : decode cX5_push 106 = .ok (.putfield 90, 3) := by decide +kernel
theorem dX5_push_109 : decode cX5_push 109 = .ok (.lload 8, 2) := by decide +kernel
theorem dX5_push_111 : decode cX5_push 111 = .ok (.l2i, 1) := by decide +kernel
theorem dX5_push_112 : decode cX5_push 112 = .ok (.ireturn, 1) := by decide +kernel
theorem dX5_beads_0 : decode cX5_beads 0 = .ok (.aload_n 0, 1) := by decide +kernel
theorem dX5_beads_1 : decode cX5_beads 1 = .ok (.iload_n 1, 1) := by decide +kernel
theorem dX5_beads_2 : decode cX5_beads 2 = .ok (.invokevirtual 51, 3) := by decide +kernel
theorem dX5_beads_5 : decode cX5_beads 5 = .ok (.astore 4, 2) := by decide +kernel
theorem dX5_beads_7 : decode cX5_beads 7 = .ok (.aload 4, 2) := by decide +kernel
theorem dX5_beads_9 : decode cX5_beads 9 = .ok (.ifnonnull 5, 3) := by decide +kernel
theorem dX5_beads_12 : decode cX5_beads 12 = .ok (.iconst (-1), 1) := by decide +kernel
theorem dX5_beads_13 : decode cX5_beads 13 = .ok (.ireturn, 1) := by decide +kernel
theorem dX5_beads_14 : decode cX5_beads 14 = .ok (.iload_n 3, 1) := by decide +kernel
theorem dX5_beads_15 : decode cX5_beads 15 = .ok (.ifCond .lt 8, 3) := by decide +kernel
theorem dX5_beads_18 : decode cX5_beads 18 = .ok (.iload_n 3, 1) := by decide +kernel
theorem dX5_beads_19 : decode cX5_beads 19 = .ok (.iconst 1, 1) := by decide +kernel
theorem dX5_beads_20 : decode cX5_beads 20 = .ok (.if_icmp .le 6, 3) := by decide +kernel
theorem dX5_beads_23 : decode cX5_beads 23 = .ok (.bipush (-2), 2) := by decide +kernel
theorem dX5_beads_25 : decode cX5_beads 25 = .ok (.ireturn, 1) := by decide +kernel
theorem dX5_beads_26 : decode cX5_beads 26 = .ok (.aload 4, 2) := by decide +kernel
theorem dX5_beads_28 : decode cX5_beads 28 = .ok (.iload_n 2, 1) := by decide +kernel
theorem dX5_beads_29 : decode cX5_beads 29 = .ok (.iload_n 3, 1) := by decide +kernel
theorem dX5_beads_30 : decode cX5_beads 30 = .ok (.invokevirtual 94, 3) := by decide +kernel
theorem dX5_beads_33 : decode cX5_beads 33 = .ok (.istore 5, 2) := by decide +kernel
theorem dX5_beads_35 : decode cX5_beads 35 = .ok (.iload 5, 2) := by decide +kernel
theorem dX5_beads_37 : decode cX5_beads 37 = .ok (.ifCond .eq 12, 3) := by decide +kernel
theorem dX5_beads_40 : decode cX5_beads 40 = .ok (.aload_n 0, 1) := by decide +kernel
theorem dX5_beads_41 : decode cX5_beads 41 = .ok (.iload 5, 2) := by decide +kernel
theorem dX5_beads_43 : decode cX5_beads 43 = .ok (.invokevirtual 45, 3) := by decide +kernel
theorem dX5_beads_46 : decode cX5_beads 46 = .ok (.goto 14, 3) := by decide +kernel
theorem dX5_beads_49 : decode cX5_beads 49 = .ok (.aload 4, 2) := by decide +kernel
theorem dX5_beads_51 : decode cX5_beads 51 = .ok (.getfield 61, 3) := by decide +kernel
theorem dX5_beads_54 : decode cX5_beads 54 = .ok (.iload_n 2, 1) := by decide +kernel
theorem dX5_beads_55 : decode cX5_beads 55 = .ok (.aaload, 1) := by decide +kernel
theorem dX5_beads_56 : decode cX5_beads 56 = .ok (.iload_n 3, 1) := by decide +kernel
theorem dX5_beads_57 : decode cX5_beads 57 = .ok (.invokevirtual 97, 3) := by decide +kernel
theorem dX5_beads_60 : decode cX5_beads 60 = .ok (.ireturn, 1) := by decide +kernel
theorem dX5_digit_0 : decode cX5_digit 0 = .ok (.aload_n 0, 1) := by decide +kernel
theorem dX5_digit_1 : decode cX5_digit 1 = .ok (.iload_n 1, 1) := by decide +kernel
theorem dX5_digit_2 : decode cX5_digit 2 = .ok (.invokevirtual 51, 3) := by decide +kernel
theorem dX5_digit_5 : decode cX5_digit 5 = .ok (.astore_n 3, 1) := by decide +kernel
theorem dX5_digit_6 : decode cX5_digit 6 = .ok (.aload_n 3, 1) := by decide +kernel
theorem dX5_digit_7 : decode cX5_digit 7 = .ok (.ifnonnull 5, 3) := by decide +kernel
theorem dX5_digit_10 : decode cX5_digit 10 = .ok (.iconst (-1), 1) := by decide +kernel
theorem dX5_digit_11 : decode cX5_digit 11 = .ok (.ireturn, 1) := by decide +kernel
theorem dX5_digit_12 : decode cX5_digit 12 = .ok (.aload_n 3, 1) := by decide +kernel
